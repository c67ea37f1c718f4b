theorem dJ6_bitCount_0f7a4_0 : decode cJ6_bitCount_0f7a4 0 = .ok (.iload_n 0, 1) := by decide +kernel
theorem dJ6_bitCount_0f7a4_1 : decode cJ6_bitCount_0f7a4 1 = .ok (.iload_n 0, 1) := by decide +kernel
theorem dJ6_bitCount_0f7a4_2 : decode cJ6_bitCount_0f7a4 2 = .ok (.iconst 1, 1) := by decide +kernel
theorem dJ6_bitCount_0f7a4_3 : decode cJ6_bitCount_0f7a4 3 = .ok (.iushr, 1) := by decide +kernel
theorem dJ6_bitCount_0f7a4_4 : decode cJ6_bitCount_0f7a4 4 = .ok (.ldc_w 265, 3) := by decide +kernel
theorem dJ6_bitCount_0f7a4_7 : decode cJ6_bitCount_0f7a4 7 = .ok (.iand, 1) := by decide +kernel
theorem dJ6_bitCount_0f7a4_8 : decode cJ6_bitCount_0f7a4 8 = .ok (.isub, 1) := by decide +kernel
theorem dJ6_bitCount_0f7a4_9 : decode cJ6_bitCount_0f7a4 9 = .ok (.istore_n 0, 1) := by decide +kernel
theorem dJ6_bitCount_0f7a4_10 : decode cJ6_bitCount_0f7a4 10 = .ok (.iload_n 0, 1) := by decide +kernel
theorem dJ6_bitCount_0f7a4_11 : decode cJ6_bitCount_0f7a4 11 = .ok (.ldc_w 266, 3) := by decide +kernel
theorem dJ6_bitCount_0f7a4_14 : decode cJ6_bitCount_0f7a4 14 = .ok (.iand, 1) := by decide +kernel
theorem dJ6_bitCount_0f7a4_15 : decode cJ6_bitCount_0f7a4 15 = .ok (.iload_n 0, 1) := by decide +kernel
theorem dJ6_bitCount_0f7a4_16 : decode cJ6_bitCount_0f7a4 16 = .ok (.iconst 2, 1) := by decide +kernel
theorem dJ6_bitCount_0f7a4_17 : decode cJ6_bitCount_0f7a4 17 = .ok (.iushr, 1) := by decide +kernel
theorem dJ6_bitCount_0f7a4_18 : decode cJ6_bitCount_0f7a4 18 = .ok (.ldc_w 266, 3) := by decide +kernel
theorem dJ6_bitCount_0f7a4_21 : decode cJ6_bitCount_0f7a4 21 = .ok (.iand, 1) := by decide +kernel
theorem dJ6_bitCount_0f7a4_22 : decode cJ6_bitCount_0f7a4 22 = .ok (.iadd, 1) := by decide +kernel
theorem dJ6_bitCount_0f7a4_23 : decode cJ6_bitCount_0f7a4 23 = .ok (.istore_n 0, 1) := by decide +kernel
theorem dJ6_bitCount_0f7a4_24 : decode cJ6_bitCount_0f7a4 24 = .ok (.iload_n 0, 1) := by decide +kernel
theorem dJ6_bitCount_0f7a4_25 : decode cJ6_bitCount_0f7a4 25 = .ok (.iload_n 0, 1) := by decide +kernel
theorem dJ6_bitCount_0f7a4_26 : decode cJ6_bitCount_0f7a4 26 = .ok (.iconst 4, 1) := by decide +kernel
theorem dJ6_bitCount_0f7a4_27 : decode cJ6_bitCount_0f7a4 27 = .ok (.iushr, 1) := by decide +kernel
theorem dJ6_bitCount_0f7a4_28 : decode cJ6_bitCount_0f7a4 28 = .ok (.iadd, 1) := by decide +kernel
theorem dJ6_bitCount_0f7a4_29 : decode cJ6_bitCount_0f7a4 29 = .ok (.ldc_w 267, 3) := by decide +kernel
theorem dJ6_bitCount_0f7a4_32 : decode cJ6_bitCount_0f7a4 32 = .ok (.iand, 1) := by decide +kernel
theorem dJ6_bitCount_0f7a4_33 : decode cJ6_bitCount_0f7a4 33 = .ok (.istore_n 0, 1) := by decide +kernel
theorem dJ6_bitCount_0f7a4_34 : decode cJ6_bitCount_0f7a4 34 = .ok (.iload_n 0, 1) := by decide +kernel
theorem dJ6_bitCount_0f7a4_35 : decode cJ6_bitCount_0f7a4 35 = .ok (.iload_n 0, 1) := by decide +kernel
theorem dJ6_bitCount_0f7a4_36 : decode cJ6_bitCount_0f7a4 36 = .ok (.bipush 8, 2) := by decide +kernel
theorem dJ6_bitCount_0f7a4_38 : decode cJ6_bitCount_0f7a4 38 = .ok (.iushr, 1) := by decide +kernel
theorem dJ6_bitCount_0f7a4_39 : decode cJ6_bitCount_0f7a4 39 = .ok (.iadd, 1) := by decide +kernel
theorem dJ6_bitCount_0f7a4_40 : decode cJ6_bitCount_0f7a4 40 = .ok (.istore_n 0, 1) := by decide +kernel
theorem dJ6_bitCount_0f7a4_41 : decode cJ6_bitCount_0f7a4 41 = .ok (.iload_n 0, 1) := by decide +kernel
theorem dJ6_bitCount_0f7a4_42 : decode cJ6_bitCount_0f7a4 42 = .ok (.iload_n 0, 1) := by decide +kernel
theorem dJ6_bitCount_0f7a4_43 : decode cJ6_bitCount_0f7a4 43 = .ok (.bipush 16, 2) := by decide +kernel
theorem dJ6_bitCount_0f7a4_45 : decode cJ6_bitCount_0f7a4 45 = .ok (.iushr, 1) := by decide +kernel
theorem dJ6_bitCount_0f7a4_46 : decode cJ6_bitCount_0f7a4 46 = .ok (.iadd, 1) := by decide +kernel
theorem dJ6_bitCount_0f7a4_47 : decode cJ6_bitCount_0f7a4 47 = .ok (.istore_n 0, 1) := by decide +kernel
theorem dJ6_bitCount_0f7a4_48 : decode cJ6_bitCount_0f7a4 48 = .ok (.iload_n 0, 1) := by decide +kernel
theorem dJ6_bitCount_0f7a4_49 : decode cJ6_bitCount_0f7a4 49 = .ok (.bipush 63, 2) := by decide +kernel
theorem dJ6_bitCount_0f7a4_51 : decode cJ6_bitCount_0f7a4 51 = .ok (.iand, 1) := by decide +kernel
theorem dJ6_bitCount_0f7a4_52 : decode cJ6_bitCount_0f7a4 52 = .ok (.ireturn, 1) := by decide +kernel
theorem dJ9_floorDiv_7cf53_0 : decode cJ9_floorDiv_7cf53 0 = .ok (.iload_n 0, 1) := by decide +kernel
theorem dJ9_floorDiv_7cf53_1 : decode cJ9_floorDiv_7cf53 1 = .ok (.iload_n 1, 1) := by decide +kernel
theorem dJ9_floorDiv_7cf53_2 : decode cJ9_floorDiv_7cf53 2 = .ok (.idiv, 1) := by decide +kernel
theorem dJ9_floorDiv_7cf53_3 : decode cJ9_floorDiv_7cf53 3 = .ok (.istore_n 2, 1) := by decide +kernel
theorem dJ9_floorDiv_7cf53_4 : decode cJ9_floorDiv_7cf53 4 = .ok (.iload_n 0, 1) := by decide +kernel
theorem dJ9_floorDiv_7cf53_5 : decode cJ9_floorDiv_7cf53 5 = .ok (.iload_n 1, 1) := by decide +kernel
theorem dJ9_floorDiv_7cf53_6 : decode cJ9_floorDiv_7cf53 6 = .ok (.ixor, 1) := by decide +kernel
theorem dJ9_floorDiv_7cf53_7 : decode cJ9_floorDiv_7cf53 7 = .ok (.ifCond .ge 14, 3) := by decide +kernel
theorem dJ9_floorDiv_7cf53_10 : decode cJ9_floorDiv_7cf53 10 = .ok (.iload_n 2, 1) := by decide +kernel
theorem dJ9_floorDiv_7cf53_11 : decode cJ9_floorDiv_7cf53 11 = .ok (.iload_n 1, 1) := by decide +kernel
theorem dJ9_floorDiv_7cf53_12 : decode cJ9_floorDiv_7cf53 12 = .ok (.imul, 1) := by decide +kernel
theorem dJ9_floorDiv_7cf53_13 : decode cJ9_floorDiv_7cf53 13 = .ok (.iload_n 0, 1) := by decide +kernel
theorem dJ9_floorDiv_7cf53_14 : decode cJ9_floorDiv_7cf53 14 = .ok (.if_icmp .eq 7, 3) := by decide +kernel
theorem dJ9_floorDiv_7cf53_17 : decode cJ9_floorDiv_7cf53 17 = .ok (.iload_n 2, 1) := by decide +kernel
theorem dJ9_floorDiv_7cf53_18 : decode cJ9_floorDiv_7cf53 18 = .ok (.iconst 1, 1) := by decide +kernel
theorem dJ9_floorDiv_7cf53_19 : decode cJ9_floorDiv_7cf53 19 = .ok (.isub, 1) := by decide +kernel
theorem dJ9_floorDiv_7cf53_20 : decode cJ9_floorDiv_7cf53 20 = .ok (.ireturn, 1) := by decide +kernel
theorem dJ9_floorDiv_7cf53_21 : decode cJ9_floorDiv_7cf53 21 = .ok (.iload_n 2, 1) := by decide +kernel
theorem dJ9_floorDiv_7cf53_22 : decode cJ9_floorDiv_7cf53 22 = .ok (.ireturn, 1) := by decide +kernel
theorem dJ9_abs_0f7a4_0 : decode cJ9_abs_0f7a4 0 = .ok (.iload_n 0, 1) := by decide +kernel
theorem dJ9_abs_0f7a4_1 : decode cJ9_abs_0f7a4 1 = .ok (.ifCond .ge 8, 3) := by decide +kernel
theorem dJ9_abs_0f7a4_4 : decode cJ9_abs_0f7a4 4 = .ok (.iload_n 0, 1) := by decide +kernel
theorem dJ9_abs_0f7a4_5 : decode cJ9_abs_0f7a4 5 = .ok (.ineg, 1) := by decide +kernel
theorem dJ9_abs_0f7a4_6 : decode cJ9_abs_0f7a4 6 = .ok (.goto 4, 3) := by decide +kernel
theorem dJ9_abs_0f7a4_9 : decode cJ9_abs_0f7a4 9 = .ok (.iload_n 0, 1) := by decide +kernel
theorem dJ9_abs_0f7a4_10 : decode cJ9_abs_0f7a4 10 = .ok (.ireturn, 1) := by decide +kernel
theorem dJ9_max_7cf53_0 : decode cJ9_max_7cf53 0 = .ok (.iload_n 0, 1) := by decide +kernel
theorem dJ9_max_7cf53_1 : decode cJ9_max_7cf53 1 = .ok (.iload_n 1, 1) := by decide +kernel
theorem dJ9_max_7cf53_2 : decode cJ9_max_7cf53 2 = .ok (.if_icmp .lt 7, 3) := by decide +kernel
theorem dJ9_max_7cf53_5 : decode cJ9_max_7cf53 5 = .ok (.iload_n 0, 1) := by decide +kernel
theorem dJ9_max_7cf53_6 : decode cJ9_max_7cf53 6 = .ok (.goto 4, 3) := by decide +kernel
theorem dJ9_max_7cf53_9 : decode cJ9_max_7cf53 9 = .ok (.iload_n 1, 1) := by decide +kernel
theorem dJ9_max_7cf53_10 : decode cJ9_max_7cf53 10 = .ok (.ireturn, 1) := by decide +kernel
theorem dJ9_min_7cf53_0 : decode cJ9_min_7cf53 0 = .ok (.iload_n 0, 1) := by decide +kernel
theorem dJ9_min_7cf53_1 : decode cJ9_min_7cf53 1 = .ok (.iload_n 1, 1) := by decide +kernel
theorem dJ9_min_7cf53_2 : decode cJ9_min_7cf53 2 = .ok (.if_icmp .gt 7, 3) := by decide +kernel
theorem dJ9_min_7cf53_5 : decode cJ9_min_7cf53 5 = .ok (.iload_n 0, 1) := by decide +kernel
theorem dJ9_min_7cf53_6 : decode cJ9_min_7cf53 6 = .ok (.goto 4, 3) := by decide +kernel
theorem dJ9_min_7cf53_9 : decode cJ9_min_7cf53 9 = .ok (.iload_n 1, 1) := by decide +kernel
theorem dJ9_min_7cf53_10 : decode cJ9_min_7cf53 10 = .ok (.ireturn, 1) := by decide +kernel
theorem dX0_init_0 : decode cX0_init 0 = .ok (.aload_n 0, 1) := by decide +kernel
theorem dX0_init_1 : decode cX0_init 1 = .ok (.invokespecial 3, 3) := by decide +kernel
theorem dX0_init_4 : decode cX0_init 4 = .ok (.aload_n 0, 1) := by decide +kernel
theorem dX0_init_5 : decode cX0_init 5 = .ok (.new 9, 3) := by decide +kernel
theorem dX0_init_8 : decode cX0_init 8 = .ok (.dup, 1) := by decide +kernel
theorem dX0_init_9 : decode cX0_init 9 = .ok (.invokespecial 11, 3) := by decide +kernel
theorem dX0_init_12 : decode cX0_init 12 = .ok (.putfield 12, 3) := by decide +kernel
theorem dX0_init_15 : decode cX0_init 15 = .ok (.aload_n 0, 1) := by decide +kernel
theorem dX0_init_16 : decode cX0_init 16 = .ok (.new 9, 3) := by decide +kernel
theorem dX0_init_19 : decode cX0_init 19 = .ok (.dup, 1) := by decide +kernel
theorem dX0_init_20 : decode cX0_init 20 = .ok (.invokespecial 11, 3) := by decide +kernel
theorem dX0_init_23 : decode cX0_init 23 = .ok (.putfield 18, 3) := by decide +kernel
theorem dX0_init_26 : decode cX0_init 26 = .ok (.aload_n 0, 1) := by decide +kernel
theorem dX0_init_27 : decode cX0_init 27 = .ok (.bipush 12, 2) := by decide +kernel
theorem dX0_init_29 : decode cX0_init 29 = .ok (.bipush 6, 2) := by decide +kernel
theorem dX0_init_31 : decode cX0_init 31 = .ok (.multianewarray 21 2, 4) := by decide +kernel
theorem dX0_init_35 : decode cX0_init 35 = .ok (.putfield 23, 3) := by decide +kernel
theorem dX0_init_38 : decode cX0_init 38 = .ok (.return_, 1) := by decide +kernel
theorem dX0_feel_0 : decode cX0_feel 0 = .ok (.aload_n 0, 1) := by decide +kernel
theorem dX0_feel_1 : decode cX0_feel 1 = .ok (.getfield 12, 3) := by decide +kernel
theorem dX0_feel_4 : decode cX0_feel 4 = .ok (.aload_n 1, 1) := by decide +kernel
theorem dX0_feel_5 : decode cX0_feel 5 = .ok (.invokevirtual 26, 3) := by decide +kernel
theorem dX0_feel_8 : decode cX0_feel 8 = .ok (.aload_n 0, 1) := by decide +kernel
theorem dX0_feel_9 : decode cX0_feel 9 = .ok (.iconst 0, 1) := by decide +kernel
theorem dX0_feel_10 : decode cX0_feel 10 = .ok (.putfield 30, 3) := by decide +kernel
theorem dX0_feel_13 : decode cX0_feel 13 = .ok (.iconst 0, 1) := by decide +kernel
theorem dX0_feel_14 : decode cX0_feel 14 = .ok (.istore_n 2, 1) := by decide +kernel
theorem dX0_feel_15 : decode cX0_feel 15 = .ok (.iload_n 2, 1) := by decide +kernel
theorem dX0_feel_16 : decode cX0_feel 16 = .ok (.bipush 24, 2) := by decide +kernel
theorem dX0_feel_18 : decode cX0_feel 18 = .ok (.if_icmp .ge 96, 3) := by decide +kernel
theorem dX0_feel_21 : decode cX0_feel 21 = .ok (.iconst 0, 1) := by decide +kernel
theorem dX0_feel_22 : decode cX0_feel 22 = .ok (.istore_n 3, 1) := by decide +kernel
theorem dX0_feel_23 : decode cX0_feel 23 = .ok (.iload_n 3, 1) := by decide +kernel
theorem dX0_feel_24 : decode cX0_feel 24 = .ok (.bipush 24, 2) := by decide +kernel
theorem dX0_feel_26 : decode cX0_feel 26 = .ok (.if_icmp .ge 82, 3) := by decide +kernel
theorem dX0_feel_29 : decode cX0_feel 29 = .ok (.aload_n 0, 1) := by decide +kernel
theorem dX0_feel_30 : decode cX0_feel 30 = .ok (.getfield 12, 3) := by decide +kernel
theorem dX0_feel_33 : decode cX0_feel 33 = .ok (.getfield 34, 3) := by decide +kernel
theorem dX0_feel_36 : decode cX0_feel 36 = .ok (.iload_n 2, 1) := by decide +kernel
theorem dX0_feel_37 : decode cX0_feel 37 = .ok (.iaload, 1) := by decide +kernel
theorem dX0_feel_38 : decode cX0_feel 38 = .ok (.ifCond .eq 70, 3) := by decide +kernel
theorem dX0_feel_41 : decode cX0_feel 41 = .ok (.aload_n 0, 1) := by decide +kernel
theorem dX0_feel_42 : decode cX0_feel 42 = .ok (.getfield 12, 3) := by decide +kernel
theorem dX0_feel_45 : decode cX0_feel 45 = .ok (.iload_n 3, 1) := by decide +kernel
theorem dX0_feel_46 : decode cX0_feel 46 = .ok (.iload_n 2, 1) := by decide +kernel
theorem dX0_feel_47 : decode cX0_feel 47 = .ok (.invokevirtual 38, 3) := by decide +kernel
theorem dX0_feel_50 : decode cX0_feel 50 = .ok (.ifCond .eq 52, 3) := by decide +kernel
theorem dX0_feel_53 : decode cX0_feel 53 = .ok (.aload_n 0, 1) := by decide +kernel
theorem dX0_feel_54 : decode cX0_feel 54 = .ok (.getfield 30, 3) := by decide +kernel
theorem dX0_feel_57 : decode cX0_feel 57 = .ok (.bipush 12, 2) := by decide +kernel
theorem dX0_feel_59 : decode cX0_feel 59 = .ok (.if_icmp .ge 43, 3) := by decide +kernel
theorem dX0_feel_62 : decode cX0_feel 62 = .ok (.aload_n 0, 1) := by decide +kernel
theorem dX0_feel_63 : decode cX0_feel 63 = .ok (.iload_n 3, 1) := by decide +kernel
theorem dX0_feel_64 : decode cX0_feel 64 = .ok (.iload_n 2, 1) := by decide +kernel
theorem dX0_feel_65 : decode cX0_feel 65 = .ok (.invokevirtual 42, 3) := by decide +kernel
theorem dX0_feel_68 : decode cX0_feel 68 = .ok (.aload_n 0, 1) := by decide +kernel
theorem dX0_feel_69 : decode cX0_feel 69 = .ok (.aload_n 0, 1) := by decide +kernel
theorem dX0_feel_70 : decode cX0_feel 70 = .ok (.getfield 23, 3) := by decide +kernel
theorem dX0_feel_73 : decode cX0_feel 73 = .ok (.aload_n 0, 1) := by decide +kernel
theorem dX0_feel_74 : decode cX0_feel 74 = .ok (.getfield 30, 3) := by decide +kernel
theorem dX0_feel_77 : decode cX0_feel 77 = .ok (.aaload, 1) := by decide +kernel
theorem dX0_feel_78 : decode cX0_feel 78 = .ok (.invokevirtual 46, 3) := by decide +kernel
theorem dX0_feel_81 : decode cX0_feel 81 = .ok (.aload_n 0, 1) := by decide +kernel
theorem dX0_feel_82 : decode cX0_feel 82 = .ok (.getfield 12, 3) := by decide +kernel
theorem dX0_feel_85 : decode cX0_feel 85 = .ok (.aload_n 0, 1) := by decide +kernel
theorem dX0_feel_86 : decode cX0_feel 86 = .ok (.getfield 18, 3) := by decide +kernel
theorem dX0_feel_89 : decode cX0_feel 89 = .ok (.invokevirtual 50, 3) := by decide +kernel
theorem dX0_feel_92 : decode cX0_feel 92 = .ok (.aload_n 0, 1) := by decide +kernel
theorem dX0_feel_93 : decode cX0_feel 93 = .ok (.dup, 1) := by decide +kernel
theorem dX0_feel_94 : decode cX0_feel 94 = .ok (.getfield 30, 3) := by decide +kernel
theorem dX0_feel_97 : decode cX0_feel 97 = .ok (.iconst 1, 1) := by decide +kernel
theorem dX0_feel_98 : decode cX0_feel 98 = .ok (.iadd, 1) := by decide +kernel
theorem dX0_feel_99 : decode cX0_feel 99 = .ok (.putfield 30, 3) := by decide +kernel
theorem dX0_feel_102 : decode cX0_feel 102 = .ok (.iinc 3 1, 3) := by decide +kernel
theorem dX0_feel_105 : decode cX0_feel 105 = .ok (.goto (-82), 3) := by decide +kernel
theorem dX0_feel_108 : decode cX0_feel 108 = .ok (.iinc 2 1, 3) := by decide +kernel
theorem dX0_feel_111 : decode cX0_feel 111 = .ok (.goto (-96), 3) := by decide +kernel
theorem dX0_feel_114 : decode cX0_feel 114 = .ok (.return_, 1) := by decide +kernel
theorem dX0_gather_0 : decode cX0_gather 0 = .ok (.aload_n 0, 1) := by decide +kernel
theorem dX0_gather_1 : decode cX0_gather 1 = .ok (.getfield 18, 3) := by decide +kernel
theorem dX0_gather_4 : decode cX0_gather 4 = .ok (.invokevirtual 53, 3) := by decide +kernel
theorem dX0_gather_7 : decode cX0_gather 7 = .ok (.aload_n 0, 1) := by decide +kernel
theorem dX0_gather_8 : decode cX0_gather 8 = .ok (.getfield 18, 3) := by decide +kernel
theorem dX0_gather_11 : decode cX0_gather 11 = .ok (.iload_n 1, 1) := by decide +kernel
theorem dX0_gather_12 : decode cX0_gather 12 = .ok (.iload_n 2, 1) := by decide +kernel
theorem dX0_gather_13 : decode cX0_gather 13 = .ok (.invokevirtual 56, 3) := by decide +kernel
theorem dX0_gather_16 : decode cX0_gather 16 = .ok (.iconst 0, 1) := by decide +kernel
theorem dX0_gather_17 : decode cX0_gather 17 = .ok (.istore_n 3, 1) := by decide +kernel
theorem dX0_gather_18 : decode cX0_gather 18 = .ok (.iconst 1, 1) := by decide +kernel
theorem dX0_gather_19 : decode cX0_gather 19 = .ok (.istore 4, 2) := by decide +kernel
theorem dX0_gather_21 : decode cX0_gather 21 = .ok (.iconst 0, 1) := by decide +kernel
theorem dX0_gather_22 : decode cX0_gather 22 = .ok (.istore 5, 2) := by decide +kernel
theorem dX0_gather_24 : decode cX0_gather 24 = .ok (.iload 5, 2) := by decide +kernel
theorem dX0_gather_26 : decode cX0_gather 26 = .ok (.sipush 576, 3) := by decide +kernel
theorem dX0_gather_29 : decode cX0_gather 29 = .ok (.if_icmp .ge 45, 3) := by decide +kernel
theorem dX0_gather_32 : decode cX0_gather 32 = .ok (.iload 4, 2) := by decide +kernel
theorem dX0_gather_34 : decode cX0_gather 34 = .ok (.iload_n 3, 1) := by decide +kernel
theorem dX0_gather_35 : decode cX0_gather 35 = .ok (.if_icmp .le 39, 3) := by decide +kernel
theorem dX0_gather_38 : decode cX0_gather 38 = .ok (.aload_n 0, 1) := by decide +kernel
theorem dX0_gather_39 : decode cX0_gather 39 = .ok (.getfield 18, 3) := by decide +kernel
theorem dX0_gather_42 : decode cX0_gather 42 = .ok (.invokevirtual 59, 3) := by decide +kernel
theorem dX0_gather_45 : decode cX0_gather 45 = .ok (.aload_n 0, 1) := by decide +kernel
theorem dX0_gather_46 : decode cX0_gather 46 = .ok (.getfield 18, 3) := by decide +kernel
theorem dX0_gather_49 : decode cX0_gather 49 = .ok (.aload_n 0, 1) := by decide +kernel
theorem dX0_gather_50 : decode cX0_gather 50 = .ok (.getfield 12, 3) := by decide +kernel
theorem dX0_gather_53 : decode cX0_gather 53 = .ok (.invokevirtual 62, 3) := by decide +kernel
theorem dX0_gather_56 : decode cX0_gather 56 = .ok (.iload 4, 2) := by decide +kernel
theorem dX0_gather_58 : decode cX0_gather 58 = .ok (.istore_n 3, 1) := by decide +kernel
theorem dX0_gather_59 : decode cX0_gather 59 = .ok (.aload_n 0, 1) := by decide +kernel
theorem dX0_gather_60 : decode cX0_gather 60 = .ok (.getfield 18, 3) := by decide +kernel
theorem dX0_gather_63 : decode cX0_gather 63 = .ok (.invokevirtual 65, 3) := by decide +kernel
theorem dX0_gather_66 : decode cX0_gather 66 = .ok (.istore 4, 2) := by decide +kernel
theorem dX0_gather_68 : decode cX0_gather 68 = .ok (.iinc 5 1, 3) := by decide +kernel
theorem dX0_gather_71 : decode cX0_gather 71 = .ok (.goto (-47), 3) := by decide +kernel
theorem dX0_gather_74 : decode cX0_gather 74 = .ok (.return_, 1) := by decide +kernel
theorem dX0_describe_0 : decode cX0_describe 0 = .ok (.aload_n 1, 1) := by decide +kernel
theorem dX0_describe_1 : decode cX0_describe 1 = .ok (.iconst 0, 1) := by decide +kernel
theorem dX0_describe_2 : decode cX0_describe 2 = .ok (.aload_n 0, 1) := by decide +kernel
theorem dX0_describe_3 : decode cX0_describe 3 = .ok (.getfield 18, 3) := by decide +kernel
theorem dX0_describe_6 : decode cX0_describe 6 = .ok (.invokevirtual 65, 3) := by decide +kernel
theorem dX0_describe_9 : decode cX0_describe 9 = .ok (.iastore, 1) := by decide +kernel
theorem dX0_describe_10 : decode cX0_describe 10 = .ok (.aload_n 1, 1) := by decide +kernel
theorem dX0_describe_11 : decode cX0_describe 11 = .ok (.iconst 1, 1) := by decide +kernel
theorem dX0_describe_12 : decode cX0_describe 12 = .ok (.bipush 24, 2) := by decide +kernel
theorem dX0_describe_14 : decode cX0_describe 14 = .ok (.iastore, 1) := by decide +kernel
theorem dX0_describe_15 : decode cX0_describe 15 = .ok (.aload_n 1, 1) := by decide +kernel
theorem dX0_describe_16 : decode cX0_describe 16 = .ok (.iconst 2, 1) := by decide +kernel
theorem dX0_describe_17 : decode cX0_describe 17 = .ok (.bipush 24, 2) := by decide +kernel
theorem dX0_describe_19 : decode cX0_describe 19 = .ok (.iastore, 1) := by decide +kernel
theorem dX0_describe_20 : decode cX0_describe 20 = .ok (.aload_n 1, 1) := by decide +kernel
theorem dX0_describe_21 : decode cX0_describe 21 = .ok (.iconst 3, 1) := by decide +kernel
theorem dX0_describe_22 : decode cX0_describe 22 = .ok (.iconst 0, 1) := by decide +kernel
theorem dX0_describe_23 : decode cX0_describe 23 = .ok (.iastore, 1) := by decide +kernel
theorem dX0_describe_24 : decode cX0_describe 24 = .ok (.aload_n 1, 1) := by decide +kernel
theorem dX0_describe_25 : decode cX0_describe 25 = .ok (.iconst 4, 1) := by decide +kernel
theorem dX0_describe_26 : decode cX0_describe 26 = .ok (.iconst 0, 1) := by decide +kernel
theorem dX0_describe_27 : decode cX0_describe 27 = .ok (.iastore, 1) := by decide +kernel
theorem dX0_describe_28 : decode cX0_describe 28 = .ok (.aload_n 1, 1) := by decide +kernel
theorem dX0_describe_29 : decode cX0_describe 29 = .ok (.iconst 5, 1) := by decide +kernel
theorem dX0_describe_30 : decode cX0_describe 30 = .ok (.iconst 0, 1) := by decide +kernel
theorem dX0_describe_31 : decode cX0_describe 31 = .ok (.iastore, 1) := by decide +kernel
theorem dX0_describe_32 : decode cX0_describe 32 = .ok (.iconst 0, 1) := by decide +kernel
theorem dX0_describe_33 : decode cX0_describe 33 = .ok (.istore_n 2, 1) := by decide +kernel
theorem dX0_describe_34 : decode cX0_describe 34 = .ok (.iload_n 2, 1) := by decide +kernel
theorem dX0_describe_35 : decode cX0_describe 35 = .ok (.bipush 24, 2) := by decide +kernel
theorem dX0_describe_37 : decode cX0_describe 37 = .ok (.if_icmp .ge 111, 3) := by decide +kernel
theorem dX0_describe_40 : decode cX0_describe 40 = .ok (.iconst 0, 1) := by decide +kernel
theorem dX0_describe_41 : decode cX0_describe 41 = .ok (.istore_n 3, 1) := by decide +kernel
theorem dX0_describe_42 : decode cX0_describe 42 = .ok (.iload_n 3, 1) := by decide +kernel
theorem dX0_describe_43 : decode cX0_describe 43 = .ok (.bipush 24, 2) := by decide +kernel
theorem dX0_describe_45 : decode cX0_describe 45 = .ok (.if_icmp .ge 97, 3) := by decide +kernel
theorem dX0_describe_48 : decode cX0_describe 48 = .ok (.aload_n 0, 1) := by decide +kernel
theorem dX0_describe_49 : decode cX0_describe 49 = .ok (.getfield 18, 3) := by decide +kernel
theorem dX0_describe_52 : decode cX0_describe 52 = .ok (.getfield 34, 3) := by decide +kernel
theorem dX0_describe_55 : decode cX0_describe 55 = .ok (.iload_n 2, 1) := by decide +kernel
theorem dX0_describe_56 : decode cX0_describe 56 = .ok (.iaload, 1) := by decide +kernel
theorem dX0_describe_57 : decode cX0_describe 57 = .ok (.ifCond .eq 85, 3) := by decide +kernel
theorem dX0_describe_60 : decode cX0_describe 60 = .ok (.aload_n 0, 1) := by decide +kernel
theorem dX0_describe_61 : decode cX0_describe 61 = .ok (.getfield 18, 3) := by decide +kernel
theorem dX0_describe_64 : decode cX0_describe 64 = .ok (.iload_n 3, 1) := by decide +kernel
theorem dX0_describe_65 : decode cX0_describe 65 = .ok (.iload_n 2, 1) := by decide +kernel
theorem dX0_describe_66 : decode cX0_describe 66 = .ok (.invokevirtual 38, 3) := by decide +kernel
theorem dX0_describe_69 : decode cX0_describe 69 = .ok (.ifCond .eq 67, 3) := by decide +kernel
theorem dX0_describe_72 : decode cX0_describe 72 = .ok (.aload_n 1, 1) := by decide +kernel
theorem dX0_describe_73 : decode cX0_describe 73 = .ok (.iconst 1, 1) := by decide +kernel
theorem dX0_describe_74 : decode cX0_describe 74 = .ok (.aload_n 1, 1) := by decide +kernel
theorem dX0_describe_75 : decode cX0_describe 75 = .ok (.iconst 1, 1) := by decide +kernel
theorem dX0_describe_76 : decode cX0_describe 76 = .ok (.iaload, 1) := by decide +kernel
theorem dX0_describe_77 : decode cX0_describe 77 = .ok (.iload_n 3, 1) := by decide +kernel
theorem dX0_describe_78 : decode cX0_describe 78 = .ok (.invokestatic 69, 3) := by decide +kernel
theorem dX0_describe_81 : decode cX0_describe 81 = .ok (.iastore, 1) := by decide +kernel
theorem dX0_describe_82 : decode cX0_describe 82 = .ok (.aload_n 1, 1) := by decide +kernel
theorem dX0_describe_83 : decode cX0_describe 83 = .ok (.iconst 2, 1) := by decide +kernel
theorem dX0_describe_84 : decode cX0_describe 84 = .ok (.aload_n 1, 1) := by decide +kernel
theorem dX0_describe_85 : decode cX0_describe 85 = .ok (.iconst 2, 1) := by decide +kernel
theorem dX0_describe_86 : decode cX0_describe 86 = .ok (.iaload, 1) := by decide +kernel
theorem dX0_describe_87 : decode cX0_describe 87 = .ok (.iload_n 2, 1) := by decide +kernel
theorem dX0_describe_88 : decode cX0_describe 88 = .ok (.invokestatic 69, 3) := by decide +kernel
theorem dX0_describe_91 : decode cX0_describe 91 = .ok (.iastore, 1) := by decide +kernel
theorem dX0_describe_92 : decode cX0_describe 92 = .ok (.aload_n 1, 1) := by decide +kernel
theorem dX0_describe_93 : decode cX0_describe 93 = .ok (.iconst 3, 1) := by decide +kernel
theorem dX0_describe_94 : decode cX0_describe 94 = .ok (.aload_n 1, 1) := by decide +kernel
theorem dX0_describe_95 : decode cX0_describe 95 = .ok (.iconst 3, 1) := by decide +kernel
theorem dX0_describe_96 : decode cX0_describe 96 = .ok (.iaload, 1) := by decide +kernel
theorem dX0_describe_97 : decode cX0_describe 97 = .ok (.iload_n 3, 1) := by decide +kernel
theorem dX0_describe_98 : decode cX0_describe 98 = .ok (.invokestatic 75, 3) := by decide +kernel
theorem dX0_describe_101 : decode cX0_describe 101 = .ok (.iastore, 1) := by decide +kernel
theorem dX0_describe_102 : decode cX0_describe 102 = .ok (.aload_n 1, 1) := by decide +kernel
theorem dX0_describe_103 : decode cX0_describe 103 = .ok (.iconst 4, 1) := by decide +kernel
theorem dX0_describe_104 : decode cX0_describe 104 = .ok (.aload_n 1, 1) := by decide +kernel
theorem dX0_describe_105 : decode cX0_describe 105 = .ok (.iconst 4, 1) := by decide +kernel
theorem dX0_describe_106 : decode cX0_describe 106 = .ok (.iaload, 1) := by decide +kernel
theorem dX0_describe_107 : decode cX0_describe 107 = .ok (.iload_n 2, 1) := by decide +kernel
theorem dX0_describe_108 : decode cX0_describe 108 = .ok (.invokestatic 75, 3) := by decide +kernel
theorem dX0_describe_111 : decode cX0_describe 111 = .ok (.iastore, 1) := by decide +kernel
theorem dX0_describe_112 : decode cX0_describe 112 = .ok (.aload_n 1, 1) := by decide +kernel
theorem dX0_describe_113 : decode cX0_describe 113 = .ok (.iconst 5, 1) := by decide +kernel
theorem dX0_describe_114 : decode cX0_describe 114 = .ok (.dup2, 1) := by decide +kernel
theorem dX0_describe_115 : decode cX0_describe 115 = .ok (.iaload, 1) := by decide +kernel
theorem dX0_describe_116 : decode cX0_describe 116 = .ok (.aload_n 0, 1) := by decide +kernel
theorem dX0_describe_117 : decode cX0_describe 117 = .ok (.getfield 18, 3) := by decide +kernel
theorem dX0_describe_120 : decode cX0_describe 120 = .ok (.iload_n 3, 1) := by decide +kernel
theorem dX0_describe_121 : decode cX0_describe 121 = .ok (.iload_n 2, 1) := by decide +kernel
theorem dX0_describe_122 : decode cX0_describe 122 = .ok (.invokevirtual 78, 3) := by decide +kernel
theorem dX0_describe_125 : decode cX0_describe 125 = .ok (.iconst 1, 1) := by decide +kernel
theorem dX0_describe_126 : decode cX0_describe 126 = .ok (.if_icmp .ne 7, 3) := by decide +kernel
theorem dX0_describe_129 : decode cX0_describe 129 = .ok (.iconst 1, 1) := by decide +kernel
theorem dX0_describe_130 : decode cX0_describe 130 = .ok (.goto 4, 3) := by decide +kernel
theorem dX0_describe_133 : decode cX0_describe 133 = .ok (.iconst 0, 1) := by decide +kernel
theorem dX0_describe_134 : decode cX0_describe 134 = .ok (.iadd, 1) := by decide +kernel
theorem dX0_describe_135 : decode cX0_describe 135 = .ok (.iastore, 1) := by decide +kernel
theorem dX0_describe_136 : decode cX0_describe 136 = .ok (.iinc 3 1, 3) := by decide +kernel
theorem dX0_describe_139 : decode cX0_describe 139 = .ok (.goto (-97), 3) := by decide +kernel
theorem dX0_describe_142 : decode cX0_describe 142 = .ok (.iinc 2 1, 3) := by decide +kernel
theorem dX0_describe_145 : decode cX0_describe 145 = .ok (.goto (-111), 3) := by decide +kernel
theorem dX0_describe_148 : decode cX0_describe 148 = .ok (.return_, 1) := by decide +kernel
theorem dX1_init_0 : decode cX1_init 0 = .ok (.aload_n 0, 1) := by decide +kernel
theorem dX1_init_1 : decode cX1_init 1 = .ok (.invokespecial 3, 3) := by decide +kernel
theorem dX1_init_4 : decode cX1_init 4 = .ok (.aload_n 0, 1) := by decide +kernel
theorem dX1_init_5 : decode cX1_init 5 = .ok (.bipush 12, 2) := by decide +kernel
theorem dX1_init_7 : decode cX1_init 7 = .ok (.newarray .int, 2) := by decide +kernel
theorem dX1_init_9 : decode cX1_init 9 = .ok (.putfield 9, 3) := by decide +kernel
theorem dX1_init_12 : decode cX1_init 12 = .ok (.return_, 1) := by decide +kernel
theorem dX1_choose_0 : decode cX1_choose 0 = .ok (.iconst 0, 1) := by decide +kernel
theorem dX1_choose_1 : decode cX1_choose 1 = .ok (.istore 4, 2) := by decide +kernel
theorem dX1_choose_3 : decode cX1_choose 3 = .ok (.iload 4, 2) := by decide +kernel
theorem dX1_choose_5 : decode cX1_choose 5 = .ok (.iload_n 3, 1) := by decide +kernel
theorem dX1_choose_6 : decode cX1_choose 6 = .ok (.if_icmp .ge 35, 3) := by decide +kernel
theorem dX1_choose_9 : decode cX1_choose 9 = .ok (.aload_n 0, 1) := by decide +kernel
theorem dX1_choose_10 : decode cX1_choose 10 = .ok (.getfield 9, 3) := by decide +kernel
theorem dX1_choose_13 : decode cX1_choose 13 = .ok (.iload 4, 2) := by decide +kernel
theorem dX1_choose_15 : decode cX1_choose 15 = .ok (.aload_n 1, 1) := by decide +kernel
theorem dX1_choose_16 : decode cX1_choose 16 = .ok (.iload 4, 2) := by decide +kernel
theorem dX1_choose_18 : decode cX1_choose 18 = .ok (.aaload, 1) := by decide +kernel
theorem dX1_choose_19 : decode cX1_choose 19 = .ok (.getfield 15, 3) := by decide +kernel
theorem dX1_choose_22 : decode cX1_choose 22 = .ok (.bipush 16, 2) := by decide +kernel
theorem dX1_choose_24 : decode cX1_choose 24 = .ok (.ishl, 1) := by decide +kernel
theorem dX1_choose_25 : decode cX1_choose 25 = .ok (.sipush 4096, 3) := by decide +kernel
theorem dX1_choose_28 : decode cX1_choose 28 = .ok (.iadd, 1) := by decide +kernel
theorem dX1_choose_29 : decode cX1_choose 29 = .ok (.iconst 1, 1) := by decide +kernel
theorem dX1_choose_30 : decode cX1_choose 30 = .ok (.iload 4, 2) := by decide +kernel
theorem dX1_choose_32 : decode cX1_choose 32 = .ok (.ishl, 1) := by decide +kernel
theorem dX1_choose_33 : decode cX1_choose 33 = .ok (.isub, 1) := by decide +kernel
theorem dX1_choose_34 : decode cX1_choose 34 = .ok (.iastore, 1) := by decide +kernel
theorem dX1_choose_35 : decode cX1_choose 35 = .ok (.iinc 4 1, 3) := by decide +kernel
theorem dX1_choose_38 : decode cX1_choose 38 = .ok (.goto (-35), 3) := by decide +kernel
theorem dX1_choose_41 : decode cX1_choose 41 = .ok (.iload_n 3, 1) := by decide +kernel
theorem dX1_choose_42 : decode cX1_choose 42 = .ok (.iconst 1, 1) := by decide +kernel
theorem dX1_choose_43 : decode cX1_choose 43 = .ok (.iload_n 3, 1) := by decide +kernel
theorem dX1_choose_44 : decode cX1_choose 44 = .ok (.ishl, 1) := by decide +kernel
theorem dX1_choose_45 : decode cX1_choose 45 = .ok (.iconst 1, 1) := by decide +kernel
theorem dX1_choose_46 : decode cX1_choose 46 = .ok (.isub, 1) := by decide +kernel
theorem dX1_choose_47 : decode cX1_choose 47 = .ok (.aload_n 2, 1) := by decide +kernel
theorem dX1_choose_48 : decode cX1_choose 48 = .ok (.aload_n 0, 1) := by decide +kernel
theorem dX1_choose_49 : decode cX1_choose 49 = .ok (.getfield 9, 3) := by decide +kernel
theorem dX1_choose_52 : decode cX1_choose 52 = .ok (.invokestatic 21, 3) := by decide +kernel
theorem dX1_choose_55 : decode cX1_choose 55 = .ok (.istore 4, 2) := by decide +kernel
theorem dX1_choose_57 : decode cX1_choose 57 = .ok (.aload_n 0, 1) := by decide +kernel
theorem dX1_choose_58 : decode cX1_choose 58 = .ok (.iload 4, 2) := by decide +kernel
theorem dX1_choose_60 : decode cX1_choose 60 = .ok (.ineg, 1) := by decide +kernel
theorem dX1_choose_61 : decode cX1_choose 61 = .ok (.sipush 4095, 3) := by decide +kernel
theorem dX1_choose_64 : decode cX1_choose 64 = .ok (.iand, 1) := by decide +kernel
theorem dX1_choose_65 : decode cX1_choose 65 = .ok (.putfield 25, 3) := by decide +kernel
theorem dX1_choose_68 : decode cX1_choose 68 = .ok (.return_, 1) := by decide +kernel
theorem dX2_init_0 : decode cX2_init 0 = .ok (.aload_n 0, 1) := by decide +kernel
theorem dX2_init_1 : decode cX2_init 1 = .ok (.invokespecial 3, 3) := by decide +kernel
theorem dX2_init_4 : decode cX2_init 4 = .ok (.aload_n 0, 1) := by decide +kernel
theorem dX2_init_5 : decode cX2_init 5 = .ok (.bipush 24, 2) := by decide +kernel
theorem dX2_init_7 : decode cX2_init 7 = .ok (.newarray .int, 2) := by decide +kernel
theorem dX2_init_9 : decode cX2_init 9 = .ok (.putfield 9, 3) := by decide +kernel
theorem dX2_init_12 : decode cX2_init 12 = .ok (.return_, 1) := by decide +kernel
theorem dX2_clear_0 : decode cX2_clear 0 = .ok (.iconst 0, 1) := by decide +kernel
theorem dX2_clear_1 : decode cX2_clear 1 = .ok (.istore_n 1, 1) := by decide +kernel
theorem dX2_clear_2 : decode cX2_clear 2 = .ok (.iload_n 1, 1) := by decide +kernel
theorem dX2_clear_3 : decode cX2_clear 3 = .ok (.bipush 24, 2) := by decide +kernel
theorem dX2_clear_5 : decode cX2_clear 5 = .ok (.if_icmp .ge 16, 3) := by decide +kernel
theorem dX2_clear_8 : decode cX2_clear 8 = .ok (.aload_n 0, 1) := by decide +kernel
theorem dX2_clear_9 : decode cX2_clear 9 = .ok (.getfield 9, 3) := by decide +kernel
theorem dX2_clear_12 : decode cX2_clear 12 = .ok (.iload_n 1, 1) := by decide +kernel
theorem dX2_clear_13 : decode cX2_clear 13 = .ok (.iconst 0, 1) := by decide +kernel
theorem dX2_clear_14 : decode cX2_clear 14 = .ok (.iastore, 1) := by decide +kernel
theorem dX2_clear_15 : decode cX2_clear 15 = .ok (.iinc 1 1, 3) := by decide +kernel
theorem dX2_clear_18 : decode cX2_clear 18 = .ok (.goto (-16), 3) := by decide +kernel
theorem dX2_clear_21 : decode cX2_clear 21 = .ok (.return_, 1) := by decide +kernel
theorem dX2_copy_0 : decode cX2_copy 0 = .ok (.iconst 0, 1) := by decide +kernel
theorem dX2_copy_1 : decode cX2_copy 1 = .ok (.istore_n 2, 1) := by decide +kernel
theorem dX2_copy_2 : decode cX2_copy 2 = .ok (.iload_n 2, 1) := by decide +kernel
theorem dX2_copy_3 : decode cX2_copy 3 = .ok (.bipush 24, 2) := by decide +kernel
theorem dX2_copy_5 : decode cX2_copy 5 = .ok (.if_icmp .ge 21, 3) := by decide +kernel
theorem dX2_copy_8 : decode cX2_copy 8 = .ok (.aload_n 0, 1) := by decide +kernel
theorem dX2_copy_9 : decode cX2_copy 9 = .ok (.getfield 9, 3) := by decide +kernel
theorem dX2_copy_12 : decode cX2_copy 12 = .ok (.iload_n 2, 1) := by decide +kernel
theorem dX2_copy_13 : decode cX2_copy 13 = .ok (.aload_n 1, 1) := by decide +kernel
theorem dX2_copy_14 : decode cX2_copy 14 = .ok (.getfield 9, 3) := by decide +kernel
theorem dX2_copy_17 : decode cX2_copy 17 = .ok (.iload_n 2, 1) := by decide +kernel
theorem dX2_copy_18 : decode cX2_copy 18 = .ok (.iaload, 1) := by decide +kernel
theorem dX2_copy_19 : decode cX2_copy 19 = .ok (.iastore, 1) := by decide +kernel
theorem dX2_copy_20 : decode cX2_copy 20 = .ok (.iinc 2 1, 3) := by decide +kernel
theorem dX2_copy_23 : decode cX2_copy 23 = .ok (.goto (-21), 3) := by decide +kernel
theorem dX2_copy_26 : decode cX2_copy 26 = .ok (.return_, 1) := by decide +kernel
theorem dX2_join_0 : decode cX2_join 0 = .ok (.iconst 0, 1) := by decide +kernel
theorem dX2_join_1 : decode cX2_join 1 = .ok (.istore_n 2, 1) := by decide +kernel
theorem dX2_join_2 : decode cX2_join 2 = .ok (.iload_n 2, 1) := by decide +kernel
theorem dX2_join_3 : decode cX2_join 3 = .ok (.bipush 24, 2) := by decide +kernel
theorem dX2_join_5 : decode cX2_join 5 = .ok (.if_icmp .ge 24, 3) := by decide +kernel
theorem dX2_join_8 : decode cX2_join 8 = .ok (.aload_n 0, 1) := by decide +kernel
theorem dX2_join_9 : decode cX2_join 9 = .ok (.getfield 9, 3) := by decide +kernel
theorem dX2_join_12 : decode cX2_join 12 = .ok (.iload_n 2, 1) := by decide +kernel
theorem dX2_join_13 : decode cX2_join 13 = .ok (.dup2, 1) := by decide +kernel
theorem dX2_join_14 : decode cX2_join 14 = .ok (.iaload, 1) := by decide +kernel
theorem dX2_join_15 : decode cX2_join 15 = .ok (.aload_n 1, 1) := by decide +kernel
theorem dX2_join_16 : decode cX2_join 16 = .ok (.getfield 9, 3) := by decide +kernel
theorem dX2_join_19 : decode cX2_join 19 = .ok (.iload_n 2, 1) := by decide +kernel
theorem dX2_join_20 : decode cX2_join 20 = .ok (.iaload, 1) := by decide +kernel
theorem dX2_join_21 : decode cX2_join 21 = .ok (.ior, 1) := by decide +kernel
theorem dX2_join_22 : decode cX2_join 22 = .ok (.iastore, 1) := by decide +kernel
theorem dX2_join_23 : decode cX2_join 23 = .ok (.iinc 2 1, 3) := by decide +kernel
theorem dX2_join_26 : decode cX2_join 26 = .ok (.goto (-24), 3) := by decide +kernel
theorem dX2_join_29 : decode cX2_join 29 = .ok (.return_, 1) := by decide +kernel
theorem dX2_drop_0 : decode cX2_drop 0 = .ok (.iconst 0, 1) := by decide +kernel
theorem dX2_drop_1 : decode cX2_drop 1 = .ok (.istore_n 2, 1) := by decide +kernel
theorem dX2_drop_2 : decode cX2_drop 2 = .ok (.iload_n 2, 1) := by decide +kernel
theorem dX2_drop_3 : decode cX2_drop 3 = .ok (.bipush 24, 2) := by decide +kernel
theorem dX2_drop_5 : decode cX2_drop 5 = .ok (.if_icmp .ge 26, 3) := by decide +kernel
theorem dX2_drop_8 : decode cX2_drop 8 = .ok (.aload_n 0, 1) := by decide +kernel
theorem dX2_drop_9 : decode cX2_drop 9 = .ok (.getfield 9, 3) := by decide +kernel
theorem dX2_drop_12 : decode cX2_drop 12 = .ok (.iload_n 2, 1) := by decide +kernel
theorem dX2_drop_13 : decode cX2_drop 13 = .ok (.dup2, 1) := by decide +kernel
theorem dX2_drop_14 : decode cX2_drop 14 = .ok (.iaload, 1) := by decide +kernel
theorem dX2_drop_15 : decode cX2_drop 15 = .ok (.aload_n 1, 1) := by decide +kernel
theorem dX2_drop_16 : decode cX2_drop 16 = .ok (.getfield 9, 3) := by decide +kernel
theorem dX2_drop_19 : decode cX2_drop 19 = .ok (.iload_n 2, 1) := by decide +kernel
theorem dX2_drop_20 : decode cX2_drop 20 = .ok (.iaload, 1) := by decide +kernel
theorem dX2_drop_21 : decode cX2_drop 21 = .ok (.iconst (-1), 1) := by decide +kernel
theorem dX2_drop_22 : decode cX2_drop 22 = .ok (.ixor, 1) := by decide +kernel
theorem dX2_drop_23 : decode cX2_drop 23 = .ok (.iand, 1) := by decide +kernel
theorem dX2_drop_24 : decode cX2_drop 24 = .ok (.iastore, 1) := by decide +kernel
theorem dX2_drop_25 : decode cX2_drop 25 = .ok (.iinc 2 1, 3) := by decide +kernel
theorem dX2_drop_28 : decode cX2_drop 28 = .ok (.goto (-26), 3) := by decide +kernel
theorem dX2_drop_31 : decode cX2_drop 31 = .ok (.return_, 1) := by decide +kernel
theorem dX2_keepOnly_0 : decode cX2_keepOnly 0 = .ok (.iconst 0, 1) := by decide +kernel
theorem dX2_keepOnly_1 : decode cX2_keepOnly 1 = .ok (.istore_n 2, 1) := by decide +kernel
theorem dX2_keepOnly_2 : decode cX2_keepOnly 2 = .ok (.iload_n 2, 1) := by decide +kernel
theorem dX2_keepOnly_3 : decode cX2_keepOnly 3 = .ok (.bipush 24, 2) := by decide +kernel
theorem dX2_keepOnly_5 : decode cX2_keepOnly 5 = .ok (.if_icmp .ge 24, 3) := by decide +kernel
theorem dX2_keepOnly_8 : decode cX2_keepOnly 8 = .ok (.aload_n 0, 1) := by decide +kernel
theorem dX2_keepOnly_9 : decode cX2_keepOnly 9 = .ok (.getfield 9, 3) := by decide +kernel
theorem dX2_keepOnly_12 : decode cX2_keepOnly 12 = .ok (.iload_n 2, 1) := by decide +kernel
theorem dX2_keepOnly_13 : decode cX2_keepOnly 13 = .ok (.dup2, 1) := by decide +kernel
theorem dX2_keepOnly_14 : decode cX2_keepOnly 14 = .ok (.iaload, 1) := by decide +kernel
theorem dX2_keepOnly_15 : decode cX2_keepOnly 15 = .ok (.aload_n 1, 1) := by decide +kernel
theorem dX2_keepOnly_16 : decode cX2_keepOnly 16 = .ok (.getfield 9, 3) := by decide +kernel
theorem dX2_keepOnly_19 : decode cX2_keepOnly 19 = .ok (.iload_n 2, 1) := by decide +kernel
theorem dX2_keepOnly_20 : decode cX2_keepOnly 20 = .ok (.iaload, 1) := by decide +kernel
theorem dX2_keepOnly_21 : decode cX2_keepOnly 21 = .ok (.iand, 1) := by decide +kernel
theorem dX2_keepOnly_22 : decode cX2_keepOnly 22 = .ok (.iastore, 1) := by decide +kernel
theorem dX2_keepOnly_23 : decode cX2_keepOnly 23 = .ok (.iinc 2 1, 3) := by decide +kernel
theorem dX2_keepOnly_26 : decode cX2_keepOnly 26 = .ok (.goto (-24), 3) := by decide +kernel
theorem dX2_keepOnly_29 : decode cX2_keepOnly 29 = .ok (.return_, 1) := by decide +kernel
theorem dX2_raise_0 : decode cX2_raise 0 = .ok (.iload_n 1, 1) := by decide +kernel
theorem dX2_raise_1 : decode cX2_raise 1 = .ok (.iload_n 2, 1) := by decide +kernel
theorem dX2_raise_2 : decode cX2_raise 2 = .ok (.invokestatic 15, 3) := by decide +kernel
theorem dX2_raise_5 : decode cX2_raise 5 = .ok (.ifCond .eq 15, 3) := by decide +kernel
theorem dX2_raise_8 : decode cX2_raise 8 = .ok (.aload_n 0, 1) := by decide +kernel
theorem dX2_raise_9 : decode cX2_raise 9 = .ok (.getfield 9, 3) := by decide +kernel
theorem dX2_raise_12 : decode cX2_raise 12 = .ok (.iload_n 2, 1) := by decide +kernel
theorem dX2_raise_13 : decode cX2_raise 13 = .ok (.dup2, 1) := by decide +kernel
theorem dX2_raise_14 : decode cX2_raise 14 = .ok (.iaload, 1) := by decide +kernel
theorem dX2_raise_15 : decode cX2_raise 15 = .ok (.iconst 1, 1) := by decide +kernel
theorem dX2_raise_16 : decode cX2_raise 16 = .ok (.iload_n 1, 1) := by decide +kernel
theorem dX2_raise_17 : decode cX2_raise 17 = .ok (.ishl, 1) := by decide +kernel
theorem dX2_raise_18 : decode cX2_raise 18 = .ok (.ior, 1) := by decide +kernel
theorem dX2_raise_19 : decode cX2_raise 19 = .ok (.iastore, 1) := by decide +kernel
theorem dX2_raise_20 : decode cX2_raise 20 = .ok (.return_, 1) := by decide +kernel
theorem dX2_holds_0 : decode cX2_holds 0 = .ok (.iload_n 1, 1) := by decide +kernel
theorem dX2_holds_1 : decode cX2_holds 1 = .ok (.iload_n 2, 1) := by decide +kernel
theorem dX2_holds_2 : decode cX2_holds 2 = .ok (.invokestatic 15, 3) := by decide +kernel
theorem dX2_holds_5 : decode cX2_holds 5 = .ok (.ifCond .eq 20, 3) := by decide +kernel
theorem dX2_holds_8 : decode cX2_holds 8 = .ok (.aload_n 0, 1) := by decide +kernel
theorem dX2_holds_9 : decode cX2_holds 9 = .ok (.getfield 9, 3) := by decide +kernel
theorem dX2_holds_12 : decode cX2_holds 12 = .ok (.iload_n 2, 1) := by decide +kernel
theorem dX2_holds_13 : decode cX2_holds 13 = .ok (.iaload, 1) := by decide +kernel
theorem dX2_holds_14 : decode cX2_holds 14 = .ok (.iload_n 1, 1) := by decide +kernel
theorem dX2_holds_15 : decode cX2_holds 15 = .ok (.invokestatic 19, 3) := by decide +kernel
theorem dX2_holds_18 : decode cX2_holds 18 = .ok (.ifCond .eq 7, 3) := by decide +kernel
theorem dX2_holds_21 : decode cX2_holds 21 = .ok (.iconst 1, 1) := by decide +kernel
theorem dX2_holds_22 : decode cX2_holds 22 = .ok (.goto 4, 3) := by decide +kernel
theorem dX2_holds_25 : decode cX2_holds 25 = .ok (.iconst 0, 1) := by decide +kernel
theorem dX2_holds_26 : decode cX2_holds 26 = .ok (.ireturn, 1) := by decide +kernel
theorem dX2_size_0 : decode cX2_size 0 = .ok (.iconst 0, 1) := by decide +kernel
theorem dX2_size_1 : decode cX2_size 1 = .ok (.istore_n 1, 1) := by decide +kernel
theorem dX2_size_2 : decode cX2_size 2 = .ok (.iconst 0, 1) := by decide +kernel
theorem dX2_size_3 : decode cX2_size 3 = .ok (.istore_n 2, 1) := by decide +kernel
theorem dX2_size_4 : decode cX2_size 4 = .ok (.iload_n 2, 1) := by decide +kernel
theorem dX2_size_5 : decode cX2_size 5 = .ok (.bipush 24, 2) := by decide +kernel
theorem dX2_size_7 : decode cX2_size 7 = .ok (.if_icmp .ge 21, 3) := by decide +kernel
theorem dX2_size_10 : decode cX2_size 10 = .ok (.iload_n 1, 1) := by decide +kernel
theorem dX2_size_11 : decode cX2_size 11 = .ok (.aload_n 0, 1) := by decide +kernel
theorem dX2_size_12 : decode cX2_size 12 = .ok (.getfield 9, 3) := by decide +kernel
theorem dX2_size_15 : decode cX2_size 15 = .ok (.iload_n 2, 1) := by decide +kernel
theorem dX2_size_16 : decode cX2_size 16 = .ok (.iaload, 1) := by decide +kernel
theorem dX2_size_17 : decode cX2_size 17 = .ok (.invokestatic 22, 3) := by decide +kernel
theorem dX2_size_20 : decode cX2_size 20 = .ok (.iadd, 1) := by decide +kernel
theorem dX2_size_21 : decode cX2_size 21 = .ok (.istore_n 1, 1) := by decide +kernel
theorem dX2_size_22 : decode cX2_size 22 = .ok (.iinc 2 1, 3) := by decide +kernel
theorem dX2_size_25 : decode cX2_size 25 = .ok (.goto (-21), 3) := by decide +kernel
theorem dX2_size_28 : decode cX2_size 28 = .ok (.iload_n 1, 1) := by decide +kernel
theorem dX2_size_29 : decode cX2_size 29 = .ok (.ireturn, 1) := by decide +kernel
theorem dX2_touch_0 : decode cX2_touch 0 = .ok (.iconst 0, 1) := by decide +kernel
theorem dX2_touch_1 : decode cX2_touch 1 = .ok (.istore_n 2, 1) := by decide +kernel
theorem dX2_touch_2 : decode cX2_touch 2 = .ok (.iload_n 2, 1) := by decide +kernel
theorem dX2_touch_3 : decode cX2_touch 3 = .ok (.bipush 24, 2) := by decide +kernel
theorem dX2_touch_5 : decode cX2_touch 5 = .ok (.if_icmp .ge 27, 3) := by decide +kernel
theorem dX2_touch_8 : decode cX2_touch 8 = .ok (.aload_n 0, 1) := by decide +kernel
theorem dX2_touch_9 : decode cX2_touch 9 = .ok (.getfield 9, 3) := by decide +kernel
theorem dX2_touch_12 : decode cX2_touch 12 = .ok (.iload_n 2, 1) := by decide +kernel
theorem dX2_touch_13 : decode cX2_touch 13 = .ok (.iaload, 1) := by decide +kernel
theorem dX2_touch_14 : decode cX2_touch 14 = .ok (.aload_n 1, 1) := by decide +kernel
theorem dX2_touch_15 : decode cX2_touch 15 = .ok (.getfield 9, 3) := by decide +kernel
theorem dX2_touch_18 : decode cX2_touch 18 = .ok (.iload_n 2, 1) := by decide +kernel
theorem dX2_touch_19 : decode cX2_touch 19 = .ok (.iaload, 1) := by decide +kernel
theorem dX2_touch_20 : decode cX2_touch 20 = .ok (.iand, 1) := by decide +kernel
theorem dX2_touch_21 : decode cX2_touch 21 = .ok (.ifCond .eq 5, 3) := by decide +kernel
theorem dX2_touch_24 : decode cX2_touch 24 = .ok (.iconst 1, 1) := by decide +kernel
theorem dX2_touch_25 : decode cX2_touch 25 = .ok (.ireturn, 1) := by decide +kernel
theorem dX2_touch_26 : decode cX2_touch 26 = .ok (.iinc 2 1, 3) := by decide +kernel
theorem dX2_touch_29 : decode cX2_touch 29 = .ok (.goto (-27), 3) := by decide +kernel
theorem dX2_touch_32 : decode cX2_touch 32 = .ok (.iconst 0, 1) := by decide +kernel
theorem dX2_touch_33 : decode cX2_touch 33 = .ok (.ireturn, 1) := by decide +kernel
theorem dX2_swell_0 : decode cX2_swell 0 = .ok (.iconst 0, 1) := by decide +kernel
theorem dX2_swell_1 : decode cX2_swell 1 = .ok (.istore_n 1, 1) := by decide +kernel
theorem dX2_swell_2 : decode cX2_swell 2 = .ok (.aload_n 0, 1) := by decide +kernel
theorem dX2_swell_3 : decode cX2_swell 3 = .ok (.getfield 9, 3) := by decide +kernel
theorem dX2_swell_6 : decode cX2_swell 6 = .ok (.iconst 0, 1) := by decide +kernel
theorem dX2_swell_7 : decode cX2_swell 7 = .ok (.iaload, 1) := by decide +kernel
theorem dX2_swell_8 : decode cX2_swell 8 = .ok (.invokestatic 28, 3) := by decide +kernel
theorem dX2_swell_11 : decode cX2_swell 11 = .ok (.istore_n 2, 1) := by decide +kernel
theorem dX2_swell_12 : decode cX2_swell 12 = .ok (.iconst 0, 1) := by decide +kernel
theorem dX2_swell_13 : decode cX2_swell 13 = .ok (.istore_n 3, 1) := by decide +kernel
theorem dX2_swell_14 : decode cX2_swell 14 = .ok (.iload_n 3, 1) := by decide +kernel
theorem dX2_swell_15 : decode cX2_swell 15 = .ok (.bipush 24, 2) := by decide +kernel
theorem dX2_swell_17 : decode cX2_swell 17 = .ok (.if_icmp .ge 51, 3) := by decide +kernel
theorem dX2_swell_20 : decode cX2_swell 20 = .ok (.iload_n 3, 1) := by decide +kernel
theorem dX2_swell_21 : decode cX2_swell 21 = .ok (.iconst 1, 1) := by decide +kernel
theorem dX2_swell_22 : decode cX2_swell 22 = .ok (.iadd, 1) := by decide +kernel
theorem dX2_swell_23 : decode cX2_swell 23 = .ok (.bipush 24, 2) := by decide +kernel
theorem dX2_swell_25 : decode cX2_swell 25 = .ok (.if_icmp .ge 17, 3) := by decide +kernel
theorem dX2_swell_28 : decode cX2_swell 28 = .ok (.aload_n 0, 1) := by decide +kernel
theorem dX2_swell_29 : decode cX2_swell 29 = .ok (.getfield 9, 3) := by decide +kernel
theorem dX2_swell_32 : decode cX2_swell 32 = .ok (.iload_n 3, 1) := by decide +kernel
theorem dX2_swell_33 : decode cX2_swell 33 = .ok (.iconst 1, 1) := by decide +kernel
theorem dX2_swell_34 : decode cX2_swell 34 = .ok (.iadd, 1) := by decide +kernel
theorem dX2_swell_35 : decode cX2_swell 35 = .ok (.iaload, 1) := by decide +kernel
theorem dX2_swell_36 : decode cX2_swell 36 = .ok (.invokestatic 28, 3) := by decide +kernel
theorem dX2_swell_39 : decode cX2_swell 39 = .ok (.goto 4, 3) := by decide +kernel
theorem dX2_swell_42 : decode cX2_swell 42 = .ok (.iconst 0, 1) := by decide +kernel
theorem dX2_swell_43 : decode cX2_swell 43 = .ok (.istore 4, 2) := by decide +kernel
theorem dX2_swell_45 : decode cX2_swell 45 = .ok (.aload_n 0, 1) := by decide +kernel
theorem dX2_swell_46 : decode cX2_swell 46 = .ok (.getfield 9, 3) := by decide +kernel
theorem dX2_swell_49 : decode cX2_swell 49 = .ok (.iload_n 3, 1) := by decide +kernel
theorem dX2_swell_50 : decode cX2_swell 50 = .ok (.iload_n 1, 1) := by decide +kernel
theorem dX2_swell_51 : decode cX2_swell 51 = .ok (.iload_n 2, 1) := by decide +kernel
theorem dX2_swell_52 : decode cX2_swell 52 = .ok (.ior, 1) := by decide +kernel
theorem dX2_swell_53 : decode cX2_swell 53 = .ok (.iload 4, 2) := by decide +kernel
theorem dX2_swell_55 : decode cX2_swell 55 = .ok (.ior, 1) := by decide +kernel
theorem dX2_swell_56 : decode cX2_swell 56 = .ok (.iastore, 1) := by decide +kernel
theorem dX2_swell_57 : decode cX2_swell 57 = .ok (.iload_n 2, 1) := by decide +kernel
theorem dX2_swell_58 : decode cX2_swell 58 = .ok (.istore_n 1, 1) := by decide +kernel
theorem dX2_swell_59 : decode cX2_swell 59 = .ok (.iload 4, 2) := by decide +kernel
theorem dX2_swell_61 : decode cX2_swell 61 = .ok (.istore_n 2, 1) := by decide +kernel
theorem dX2_swell_62 : decode cX2_swell 62 = .ok (.iinc 3 1, 3) := by decide +kernel
theorem dX2_swell_65 : decode cX2_swell 65 = .ok (.goto (-51), 3) := by decide +kernel
theorem dX2_swell_68 : decode cX2_swell 68 = .ok (.return_, 1) := by decide +kernel
theorem dX2_widened_0 : decode cX2_widened 0 = .ok (.iload_n 0, 1) := by decide +kernel
theorem dX2_widened_1 : decode cX2_widened 1 = .ok (.iload_n 0, 1) := by decide +kernel
theorem dX2_widened_2 : decode cX2_widened 2 = .ok (.iconst 1, 1) := by decide +kernel
theorem dX2_widened_3 : decode cX2_widened 3 = .ok (.ishl, 1) := by decide +kernel
theorem dX2_widened_4 : decode cX2_widened 4 = .ok (.ior, 1) := by decide +kernel
theorem dX2_widened_5 : decode cX2_widened 5 = .ok (.iload_n 0, 1) := by decide +kernel
theorem dX2_widened_6 : decode cX2_widened 6 = .ok (.iconst 1, 1) := by decide +kernel
theorem dX2_widened_7 : decode cX2_widened 7 = .ok (.ishr, 1) := by decide +kernel
theorem dX2_widened_8 : decode cX2_widened 8 = .ok (.ior, 1) := by decide +kernel
theorem dX2_widened_9 : decode cX2_widened 9 = .ok (.ldc 31, 2) := by decide +kernel
theorem dX2_widened_11 : decode cX2_widened 11 = .ok (.iand, 1) := by decide +kernel
theorem dX2_widened_12 : decode cX2_widened 12 = .ok (.ireturn, 1) := by decide +kernel
theorem dX2_countBeside_0 : decode cX2_countBeside 0 = .ok (.bipush 7, 2) := by decide +kernel
theorem dX2_countBeside_2 : decode cX2_countBeside 2 = .ok (.iload_n 1, 1) := by decide +kernel
theorem dX2_countBeside_3 : decode cX2_countBeside 3 = .ok (.ishl, 1) := by decide +kernel
theorem dX2_countBeside_4 : decode cX2_countBeside 4 = .ok (.iconst 1, 1) := by decide +kernel
theorem dX2_countBeside_5 : decode cX2_countBeside 5 = .ok (.ishr, 1) := by decide +kernel
theorem dX2_countBeside_6 : decode cX2_countBeside 6 = .ok (.istore_n 3, 1) := by decide +kernel
theorem dX2_countBeside_7 : decode cX2_countBeside 7 = .ok (.iconst (-1), 1) := by decide +kernel
theorem dX2_countBeside_8 : decode cX2_countBeside 8 = .ok (.istore 4, 2) := by decide +kernel
theorem dX2_countBeside_10 : decode cX2_countBeside 10 = .ok (.iload_n 2, 1) := by decide +kernel
theorem dX2_countBeside_11 : decode cX2_countBeside 11 = .ok (.iconst 1, 1) := by decide +kernel
theorem dX2_countBeside_12 : decode cX2_countBeside 12 = .ok (.isub, 1) := by decide +kernel
theorem dX2_countBeside_13 : decode cX2_countBeside 13 = .ok (.iconst 0, 1) := by decide +kernel
theorem dX2_countBeside_14 : decode cX2_countBeside 14 = .ok (.invokestatic 32, 3) := by decide +kernel
theorem dX2_countBeside_17 : decode cX2_countBeside 17 = .ok (.istore 5, 2) := by decide +kernel
theorem dX2_countBeside_19 : decode cX2_countBeside 19 = .ok (.iload 5, 2) := by decide +kernel
theorem dX2_countBeside_21 : decode cX2_countBeside 21 = .ok (.iload_n 2, 1) := by decide +kernel
theorem dX2_countBeside_22 : decode cX2_countBeside 22 = .ok (.iconst 1, 1) := by decide +kernel
theorem dX2_countBeside_23 : decode cX2_countBeside 23 = .ok (.iadd, 1) := by decide +kernel
theorem dX2_countBeside_24 : decode cX2_countBeside 24 = .ok (.bipush 23, 2) := by decide +kernel
theorem dX2_countBeside_26 : decode cX2_countBeside 26 = .ok (.invokestatic 38, 3) := by decide +kernel
theorem dX2_countBeside_29 : decode cX2_countBeside 29 = .ok (.if_icmp .gt 26, 3) := by decide +kernel
theorem dX2_countBeside_32 : decode cX2_countBeside 32 = .ok (.iload 4, 2) := by decide +kernel
theorem dX2_countBeside_34 : decode cX2_countBeside 34 = .ok (.aload_n 0, 1) := by decide +kernel
theorem dX2_countBeside_35 : decode cX2_countBeside 35 = .ok (.getfield 9, 3) := by decide +kernel
theorem dX2_countBeside_38 : decode cX2_countBeside 38 = .ok (.iload 5, 2) := by decide +kernel
theorem dX2_countBeside_40 : decode cX2_countBeside 40 = .ok (.iaload, 1) := by decide +kernel
theorem dX2_countBeside_41 : decode cX2_countBeside 41 = .ok (.iload_n 3, 1) := by decide +kernel
theorem dX2_countBeside_42 : decode cX2_countBeside 42 = .ok (.iand, 1) := by decide +kernel
theorem dX2_countBeside_43 : decode cX2_countBeside 43 = .ok (.invokestatic 22, 3) := by decide +kernel
theorem dX2_countBeside_46 : decode cX2_countBeside 46 = .ok (.iadd, 1) := by decide +kernel
theorem dX2_countBeside_47 : decode cX2_countBeside 47 = .ok (.istore 4, 2) := by decide +kernel
theorem dX2_countBeside_49 : decode cX2_countBeside 49 = .ok (.iinc 5 1, 3) := by decide +kernel
theorem dX2_countBeside_52 : decode cX2_countBeside 52 = .ok (.goto (-33), 3) := by decide +kernel
theorem dX2_countBeside_55 : decode cX2_countBeside 55 = .ok (.iload 4, 2) := by decide +kernel
theorem dX2_countBeside_57 : decode cX2_countBeside 57 = .ok (.ireturn, 1) := by decide +kernel
theorem dX3_init_0 : decode cX3_init 0 = .ok (.aload_n 0, 1) := by decide +kernel
theorem dX3_init_1 : decode cX3_init 1 = .ok (.invokespecial 3, 3) := by decide +kernel
theorem dX3_init_4 : decode cX3_init 4 = .ok (.aload_n 0, 1) := by decide +kernel
theorem dX3_init_5 : decode cX3_init 5 = .ok (.bipush 8, 2) := by decide +kernel
theorem dX3_init_7 : decode cX3_init 7 = .ok (.newarray .int, 2) := by decide +kernel
theorem dX3_init_9 : decode cX3_init 9 = .ok (.putfield 9, 3) := by decide +kernel
theorem dX3_init_12 : decode cX3_init 12 = .ok (.aload_n 0, 1) := by decide +kernel
theorem dX3_init_13 : decode cX3_init 13 = .ok (.bipush 8, 2) := by decide +kernel
theorem dX3_init_15 : decode cX3_init 15 = .ok (.newarray .int, 2) := by decide +kernel
theorem dX3_init_17 : decode cX3_init 17 = .ok (.putfield 15, 3) := by decide +kernel
theorem dX3_init_20 : decode cX3_init 20 = .ok (.aload_n 0, 1) := by decide +kernel
theorem dX3_init_21 : decode cX3_init 21 = .ok (.new 18, 3) := by decide +kernel
theorem dX3_init_24 : decode cX3_init 24 = .ok (.dup, 1) := by decide +kernel
theorem dX3_init_25 : decode cX3_init 25 = .ok (.invokespecial 20, 3) := by decide +kernel
theorem dX3_init_28 : decode cX3_init 28 = .ok (.putfield 21, 3) := by decide +kernel
theorem dX3_init_31 : decode cX3_init 31 = .ok (.return_, 1) := by decide +kernel
theorem dX3_begin_0 : decode cX3_begin 0 = .ok (.aload_n 0, 1) := by decide +kernel
theorem dX3_begin_1 : decode cX3_begin 1 = .ok (.iload_n 1, 1) := by decide +kernel
theorem dX3_begin_2 : decode cX3_begin 2 = .ok (.putfield 25, 3) := by decide +kernel
theorem dX3_begin_5 : decode cX3_begin 5 = .ok (.aload_n 0, 1) := by decide +kernel
theorem dX3_begin_6 : decode cX3_begin 6 = .ok (.iload_n 2, 1) := by decide +kernel
theorem dX3_begin_7 : decode cX3_begin 7 = .ok (.putfield 29, 3) := by decide +kernel
theorem dX3_begin_10 : decode cX3_begin 10 = .ok (.aload_n 0, 1) := by decide +kernel
theorem dX3_begin_11 : decode cX3_begin 11 = .ok (.iconst 0, 1) := by decide +kernel
theorem dX3_begin_12 : decode cX3_begin 12 = .ok (.putfield 32, 3) := by decide +kernel
theorem dX3_begin_15 : decode cX3_begin 15 = .ok (.return_, 1) := by decide +kernel
theorem dX3_addPlace_0 : decode cX3_addPlace 0 = .ok (.aload_n 0, 1) := by decide +kernel
theorem dX3_addPlace_1 : decode cX3_addPlace 1 = .ok (.getfield 32, 3) := by decide +kernel
theorem dX3_addPlace_4 : decode cX3_addPlace 4 = .ok (.bipush 8, 2) := by decide +kernel
theorem dX3_addPlace_6 : decode cX3_addPlace 6 = .ok (.if_icmp .ge 33, 3) := by decide +kernel
theorem dX3_addPlace_9 : decode cX3_addPlace 9 = .ok (.aload_n 0, 1) := by decide +kernel
theorem dX3_addPlace_10 : decode cX3_addPlace 10 = .ok (.getfield 9, 3) := by decide +kernel
theorem dX3_addPlace_13 : decode cX3_addPlace 13 = .ok (.aload_n 0, 1) := by decide +kernel
theorem dX3_addPlace_14 : decode cX3_addPlace 14 = .ok (.getfield 32, 3) := by decide +kernel
theorem dX3_addPlace_17 : decode cX3_addPlace 17 = .ok (.iload_n 1, 1) := by decide +kernel
theorem dX3_addPlace_18 : decode cX3_addPlace 18 = .ok (.iastore, 1) := by decide +kernel
theorem dX3_addPlace_19 : decode cX3_addPlace 19 = .ok (.aload_n 0, 1) := by decide +kernel
theorem dX3_addPlace_20 : decode cX3_addPlace 20 = .ok (.getfield 15, 3) := by decide +kernel
theorem dX3_addPlace_23 : decode cX3_addPlace 23 = .ok (.aload_n 0, 1) := by decide +kernel
theorem dX3_addPlace_24 : decode cX3_addPlace 24 = .ok (.getfield 32, 3) := by decide +kernel
theorem dX3_addPlace_27 : decode cX3_addPlace 27 = .ok (.iload_n 2, 1) := by decide +kernel
theorem dX3_addPlace_28 : decode cX3_addPlace 28 = .ok (.iastore, 1) := by decide +kernel
theorem dX3_addPlace_29 : decode cX3_addPlace 29 = .ok (.aload_n 0, 1) := by decide +kernel
theorem dX3_addPlace_30 : decode cX3_addPlace 30 = .ok (.dup, 1) := by decide +kernel
theorem dX3_addPlace_31 : decode cX3_addPlace 31 = .ok (.getfield 32, 3) := by decide +kernel
theorem dX3_addPlace_34 : decode cX3_addPlace 34 = .ok (.iconst 1, 1) := by decide +kernel
theorem dX3_addPlace_35 : decode cX3_addPlace 35 = .ok (.iadd, 1) := by decide +kernel
theorem dX3_addPlace_36 : decode cX3_addPlace 36 = .ok (.putfield 32, 3) := by decide +kernel
theorem dX3_addPlace_39 : decode cX3_addPlace 39 = .ok (.return_, 1) := by decide +kernel
theorem dX3_keepPlaces_0 : decode cX3_keepPlaces 0 = .ok (.aload_n 0, 1) := by decide +kernel
theorem dX3_keepPlaces_1 : decode cX3_keepPlaces 1 = .ok (.getfield 32, 3) := by decide +kernel
theorem dX3_keepPlaces_4 : decode cX3_keepPlaces 4 = .ok (.istore_n 2, 1) := by decide +kernel
theorem dX3_keepPlaces_5 : decode cX3_keepPlaces 5 = .ok (.aload_n 0, 1) := by decide +kernel
theorem dX3_keepPlaces_6 : decode cX3_keepPlaces 6 = .ok (.iconst 0, 1) := by decide +kernel
theorem dX3_keepPlaces_7 : decode cX3_keepPlaces 7 = .ok (.putfield 32, 3) := by decide +kernel
theorem dX3_keepPlaces_10 : decode cX3_keepPlaces 10 = .ok (.iconst 0, 1) := by decide +kernel
theorem dX3_keepPlaces_11 : decode cX3_keepPlaces 11 = .ok (.istore_n 3, 1) := by decide +kernel
theorem dX3_keepPlaces_12 : decode cX3_keepPlaces 12 = .ok (.iload_n 3, 1) := by decide +kernel
theorem dX3_keepPlaces_13 : decode cX3_keepPlaces 13 = .ok (.iload_n 2, 1) := by decide +kernel
theorem dX3_keepPlaces_14 : decode cX3_keepPlaces 14 = .ok (.if_icmp .ge 33, 3) := by decide +kernel
theorem dX3_keepPlaces_17 : decode cX3_keepPlaces 17 = .ok (.iload_n 1, 1) := by decide +kernel
theorem dX3_keepPlaces_18 : decode cX3_keepPlaces 18 = .ok (.iload_n 3, 1) := by decide +kernel
theorem dX3_keepPlaces_19 : decode cX3_keepPlaces 19 = .ok (.invokestatic 35, 3) := by decide +kernel
theorem dX3_keepPlaces_22 : decode cX3_keepPlaces 22 = .ok (.ifCond .eq 19, 3) := by decide +kernel
theorem dX3_keepPlaces_25 : decode cX3_keepPlaces 25 = .ok (.aload_n 0, 1) := by decide +kernel
theorem dX3_keepPlaces_26 : decode cX3_keepPlaces 26 = .ok (.aload_n 0, 1) := by decide +kernel
theorem dX3_keepPlaces_27 : decode cX3_keepPlaces 27 = .ok (.getfield 9, 3) := by decide +kernel
theorem dX3_keepPlaces_30 : decode cX3_keepPlaces 30 = .ok (.iload_n 3, 1) := by decide +kernel
theorem dX3_keepPlaces_31 : decode cX3_keepPlaces 31 = .ok (.iaload, 1) := by decide +kernel
theorem dX3_keepPlaces_32 : decode cX3_keepPlaces 32 = .ok (.aload_n 0, 1) := by decide +kernel
theorem dX3_keepPlaces_33 : decode cX3_keepPlaces 33 = .ok (.getfield 15, 3) := by decide +kernel
theorem dX3_keepPlaces_36 : decode cX3_keepPlaces 36 = .ok (.iload_n 3, 1) := by decide +kernel
theorem dX3_keepPlaces_37 : decode cX3_keepPlaces 37 = .ok (.iaload, 1) := by decide +kernel
theorem dX3_keepPlaces_38 : decode cX3_keepPlaces 38 = .ok (.invokevirtual 39, 3) := by decide +kernel
theorem dX3_keepPlaces_41 : decode cX3_keepPlaces 41 = .ok (.iinc 3 1, 3) := by decide +kernel
theorem dX3_keepPlaces_44 : decode cX3_keepPlaces 44 = .ok (.goto (-32), 3) := by decide +kernel
theorem dX3_keepPlaces_47 : decode cX3_keepPlaces 47 = .ok (.return_, 1) := by decide +kernel
theorem dX3_coordinate_0 : decode cX3_coordinate 0 = .ok (.iload_n 1, 1) := by decide +kernel
theorem dX3_coordinate_1 : decode cX3_coordinate 1 = .ok (.iconst 2, 1) := by decide +kernel
theorem dX3_coordinate_2 : decode cX3_coordinate 2 = .ok (.idiv, 1) := by decide +kernel
theorem dX3_coordinate_3 : decode cX3_coordinate 3 = .ok (.istore_n 2, 1) := by decide +kernel
theorem dX3_coordinate_4 : decode cX3_coordinate 4 = .ok (.iload_n 1, 1) := by decide +kernel
theorem dX3_coordinate_5 : decode cX3_coordinate 5 = .ok (.ifCond .lt 11, 3) := by decide +kernel
theorem dX3_coordinate_8 : decode cX3_coordinate 8 = .ok (.iload_n 2, 1) := by decide +kernel
theorem dX3_coordinate_9 : decode cX3_coordinate 9 = .ok (.aload_n 0, 1) := by decide +kernel
theorem dX3_coordinate_10 : decode cX3_coordinate 10 = .ok (.getfield 32, 3) := by decide +kernel
theorem dX3_coordinate_13 : decode cX3_coordinate 13 = .ok (.if_icmp .lt 5, 3) := by decide +kernel
theorem dX3_coordinate_16 : decode cX3_coordinate 16 = .ok (.iconst (-1), 1) := by decide +kernel
theorem dX3_coordinate_17 : decode cX3_coordinate 17 = .ok (.ireturn, 1) := by decide +kernel
theorem dX3_coordinate_18 : decode cX3_coordinate 18 = .ok (.iload_n 1, 1) := by decide +kernel
theorem dX3_coordinate_19 : decode cX3_coordinate 19 = .ok (.iconst 2, 1) := by decide +kernel
theorem dX3_coordinate_20 : decode cX3_coordinate 20 = .ok (.irem, 1) := by decide +kernel
theorem dX3_coordinate_21 : decode cX3_coordinate 21 = .ok (.ifCond .ne 12, 3) := by decide +kernel
theorem dX3_coordinate_24 : decode cX3_coordinate 24 = .ok (.aload_n 0, 1) := by decide +kernel
theorem dX3_coordinate_25 : decode cX3_coordinate 25 = .ok (.getfield 9, 3) := by decide +kernel
theorem dX3_coordinate_28 : decode cX3_coordinate 28 = .ok (.iload_n 2, 1) := by decide +kernel
theorem dX3_coordinate_29 : decode cX3_coordinate 29 = .ok (.iaload, 1) := by decide +kernel
theorem dX3_coordinate_30 : decode cX3_coordinate 30 = .ok (.goto 9, 3) := by decide +kernel
theorem dX3_coordinate_33 : decode cX3_coordinate 33 = .ok (.aload_n 0, 1) := by decide +kernel
theorem dX3_coordinate_34 : decode cX3_coordinate 34 = .ok (.getfield 15, 3) := by decide +kernel
theorem dX3_coordinate_37 : decode cX3_coordinate 37 = .ok (.iload_n 2, 1) := by decide +kernel
theorem dX3_coordinate_38 : decode cX3_coordinate 38 = .ok (.iaload, 1) := by decide +kernel
theorem dX3_coordinate_39 : decode cX3_coordinate 39 = .ok (.ireturn, 1) := by decide +kernel
theorem dX3_draw_0 : decode cX3_draw 0 = .ok (.aload_n 0, 1) := by decide +kernel
theorem dX3_draw_1 : decode cX3_draw 1 = .ok (.getfield 21, 3) := by decide +kernel
theorem dX3_draw_4 : decode cX3_draw 4 = .ok (.invokevirtual 43, 3) := by decide +kernel
theorem dX3_draw_7 : decode cX3_draw 7 = .ok (.aload_n 0, 1) := by decide +kernel
theorem dX3_draw_8 : decode cX3_draw 8 = .ok (.getfield 25, 3) := by decide +kernel
theorem dX3_draw_11 : decode cX3_draw 11 = .ok (.ifCond .ne 10, 3) := by decide +kernel
theorem dX3_draw_14 : decode cX3_draw 14 = .ok (.aload_n 0, 1) := by decide +kernel
theorem dX3_draw_15 : decode cX3_draw 15 = .ok (.invokevirtual 46, 3) := by decide +kernel
theorem dX3_draw_18 : decode cX3_draw 18 = .ok (.goto 22, 3) := by decide +kernel
theorem dX3_draw_21 : decode cX3_draw 21 = .ok (.aload_n 0, 1) := by decide +kernel
theorem dX3_draw_22 : decode cX3_draw 22 = .ok (.getfield 25, 3) := by decide +kernel
theorem dX3_draw_25 : decode cX3_draw 25 = .ok (.iconst 1, 1) := by decide +kernel
theorem dX3_draw_26 : decode cX3_draw 26 = .ok (.if_icmp .ne 10, 3) := by decide +kernel
theorem dX3_draw_29 : decode cX3_draw 29 = .ok (.aload_n 0, 1) := by decide +kernel
theorem dX3_draw_30 : decode cX3_draw 30 = .ok (.invokevirtual 49, 3) := by decide +kernel
theorem dX3_draw_33 : decode cX3_draw 33 = .ok (.goto 7, 3) := by decide +kernel
theorem dX3_draw_36 : decode cX3_draw 36 = .ok (.aload_n 0, 1) := by decide +kernel
theorem dX3_draw_37 : decode cX3_draw 37 = .ok (.invokevirtual 52, 3) := by decide +kernel
theorem dX3_draw_40 : decode cX3_draw 40 = .ok (.return_, 1) := by decide +kernel
theorem dX3_drawLine_0 : decode cX3_drawLine 0 = .ok (.aload_n 0, 1) := by decide +kernel
theorem dX3_drawLine_1 : decode cX3_drawLine 1 = .ok (.getfield 21, 3) := by decide +kernel
theorem dX3_drawLine_4 : decode cX3_drawLine 4 = .ok (.aload_n 0, 1) := by decide +kernel
theorem dX3_drawLine_5 : decode cX3_drawLine 5 = .ok (.getfield 9, 3) := by decide +kernel
theorem dX3_drawLine_8 : decode cX3_drawLine 8 = .ok (.iconst 0, 1) := by decide +kernel
theorem dX3_drawLine_9 : decode cX3_drawLine 9 = .ok (.iaload, 1) := by decide +kernel
theorem dX3_drawLine_10 : decode cX3_drawLine 10 = .ok (.aload_n 0, 1) := by decide +kernel
theorem dX3_drawLine_11 : decode cX3_drawLine 11 = .ok (.getfield 15, 3) := by decide +kernel
theorem dX3_drawLine_14 : decode cX3_drawLine 14 = .ok (.iconst 0, 1) := by decide +kernel
theorem dX3_drawLine_15 : decode cX3_drawLine 15 = .ok (.iaload, 1) := by decide +kernel
theorem dX3_drawLine_16 : decode cX3_drawLine 16 = .ok (.invokevirtual 55, 3) := by decide +kernel
theorem dX3_drawLine_19 : decode cX3_drawLine 19 = .ok (.iconst 1, 1) := by decide +kernel
theorem dX3_drawLine_20 : decode cX3_drawLine 20 = .ok (.istore_n 1, 1) := by decide +kernel
theorem dX3_drawLine_21 : decode cX3_drawLine 21 = .ok (.iload_n 1, 1) := by decide +kernel
theorem dX3_drawLine_22 : decode cX3_drawLine 22 = .ok (.aload_n 0, 1) := by decide +kernel
theorem dX3_drawLine_23 : decode cX3_drawLine 23 = .ok (.getfield 32, 3) := by decide +kernel
theorem dX3_drawLine_26 : decode cX3_drawLine 26 = .ok (.if_icmp .ge 41, 3) := by decide +kernel
theorem dX3_drawLine_29 : decode cX3_drawLine 29 = .ok (.aload_n 0, 1) := by decide +kernel
theorem dX3_drawLine_30 : decode cX3_drawLine 30 = .ok (.aload_n 0, 1) := by decide +kernel
theorem dX3_drawLine_31 : decode cX3_drawLine 31 = .ok (.getfield 9, 3) := by decide +kernel
theorem dX3_drawLine_34 : decode cX3_drawLine 34 = .ok (.iload_n 1, 1) := by decide +kernel
theorem dX3_drawLine_35 : decode cX3_drawLine 35 = .ok (.iconst 1, 1) := by decide +kernel
theorem dX3_drawLine_36 : decode cX3_drawLine 36 = .ok (.isub, 1) := by decide +kernel
theorem dX3_drawLine_37 : decode cX3_drawLine 37 = .ok (.iaload, 1) := by decide +kernel
theorem dX3_drawLine_38 : decode cX3_drawLine 38 = .ok (.aload_n 0, 1) := by decide +kernel
theorem dX3_drawLine_39 : decode cX3_drawLine 39 = .ok (.getfield 15, 3) := by decide +kernel
theorem dX3_drawLine_42 : decode cX3_drawLine 42 = .ok (.iload_n 1, 1) := by decide +kernel
theorem dX3_drawLine_43 : decode cX3_drawLine 43 = .ok (.iconst 1, 1) := by decide +kernel
theorem dX3_drawLine_44 : decode cX3_drawLine 44 = .ok (.isub, 1) := by decide +kernel
theorem dX3_drawLine_45 : decode cX3_drawLine 45 = .ok (.iaload, 1) := by decide +kernel
theorem dX3_drawLine_46 : decode cX3_drawLine 46 = .ok (.aload_n 0, 1) := by decide +kernel
theorem dX3_drawLine_47 : decode cX3_drawLine 47 = .ok (.getfield 9, 3) := by decide +kernel
theorem dX3_drawLine_50 : decode cX3_drawLine 50 = .ok (.iload_n 1, 1) := by decide +kernel
theorem dX3_drawLine_51 : decode cX3_drawLine 51 = .ok (.iaload, 1) := by decide +kernel
theorem dX3_drawLine_52 : decode cX3_drawLine 52 = .ok (.aload_n 0, 1) := by decide +kernel
theorem dX3_drawLine_53 : decode cX3_drawLine 53 = .ok (.getfield 15, 3) := by decide +kernel
theorem dX3_drawLine_56 : decode cX3_drawLine 56 = .ok (.iload_n 1, 1) := by decide +kernel
theorem dX3_drawLine_57 : decode cX3_drawLine 57 = .ok (.iaload, 1) := by decide +kernel
theorem dX3_drawLine_58 : decode cX3_drawLine 58 = .ok (.invokevirtual 58, 3) := by decide +kernel
theorem dX3_drawLine_61 : decode cX3_drawLine 61 = .ok (.iinc 1 1, 3) := by decide +kernel
theorem dX3_drawLine_64 : decode cX3_drawLine 64 = .ok (.goto (-43), 3) := by decide +kernel
theorem dX3_drawLine_67 : decode cX3_drawLine 67 = .ok (.return_, 1) := by decide +kernel
theorem dX3_drawStep_0 : decode cX3_drawStep 0 = .ok (.iload_n 3, 1) := by decide +kernel
theorem dX3_drawStep_1 : decode cX3_drawStep 1 = .ok (.iload_n 1, 1) := by decide +kernel
theorem dX3_drawStep_2 : decode cX3_drawStep 2 = .ok (.isub, 1) := by decide +kernel
theorem dX3_drawStep_3 : decode cX3_drawStep 3 = .ok (.istore 5, 2) := by decide +kernel
theorem dX3_drawStep_5 : decode cX3_drawStep 5 = .ok (.iload 4, 2) := by decide +kernel
theorem dX3_drawStep_7 : decode cX3_drawStep 7 = .ok (.iload_n 2, 1) := by decide +kernel
theorem dX3_drawStep_8 : decode cX3_drawStep 8 = .ok (.isub, 1) := by decide +kernel
theorem dX3_drawStep_9 : decode cX3_drawStep 9 = .ok (.istore 6, 2) := by decide +kernel
theorem dX3_drawStep_11 : decode cX3_drawStep 11 = .ok (.iload 5, 2) := by decide +kernel
theorem dX3_drawStep_13 : decode cX3_drawStep 13 = .ok (.invokestatic 62, 3) := by decide +kernel
theorem dX3_drawStep_16 : decode cX3_drawStep 16 = .ok (.iload 6, 2) := by decide +kernel
theorem dX3_drawStep_18 : decode cX3_drawStep 18 = .ok (.invokestatic 62, 3) := by decide +kernel
theorem dX3_drawStep_21 : decode cX3_drawStep 21 = .ok (.invokestatic 68, 3) := by decide +kernel
theorem dX3_drawStep_24 : decode cX3_drawStep 24 = .ok (.istore 7, 2) := by decide +kernel
theorem dX3_drawStep_26 : decode cX3_drawStep 26 = .ok (.iload 7, 2) := by decide +kernel
theorem dX3_drawStep_28 : decode cX3_drawStep 28 = .ok (.ifCond .ne 4, 3) := by decide +kernel
theorem dX3_drawStep_31 : decode cX3_drawStep 31 = .ok (.return_, 1) := by decide +kernel
theorem dX3_drawStep_32 : decode cX3_drawStep 32 = .ok (.iconst 0, 1) := by decide +kernel
theorem dX3_drawStep_33 : decode cX3_drawStep 33 = .ok (.istore 8, 2) := by decide +kernel
theorem dX3_drawStep_35 : decode cX3_drawStep 35 = .ok (.iload 8, 2) := by decide +kernel
theorem dX3_drawStep_37 : decode cX3_drawStep 37 = .ok (.iload 7, 2) := by decide +kernel
theorem dX3_drawStep_39 : decode cX3_drawStep 39 = .ok (.if_icmp .gt 62, 3) := by decide +kernel
theorem dX3_drawStep_42 : decode cX3_drawStep 42 = .ok (.iload_n 1, 1) := by decide +kernel
theorem dX3_drawStep_43 : decode cX3_drawStep 43 = .ok (.iconst 2, 1) := by decide +kernel
theorem dX3_drawStep_44 : decode cX3_drawStep 44 = .ok (.iload 8, 2) := by decide +kernel
theorem dX3_drawStep_46 : decode cX3_drawStep 46 = .ok (.imul, 1) := by decide +kernel
theorem dX3_drawStep_47 : decode cX3_drawStep 47 = .ok (.iload 5, 2) := by decide +kernel
theorem dX3_drawStep_49 : decode cX3_drawStep 49 = .ok (.imul, 1) := by decide +kernel
theorem dX3_drawStep_50 : decode cX3_drawStep 50 = .ok (.iload 7, 2) := by decide +kernel
theorem dX3_drawStep_52 : decode cX3_drawStep 52 = .ok (.iadd, 1) := by decide +kernel
theorem dX3_drawStep_53 : decode cX3_drawStep 53 = .ok (.iconst 2, 1) := by decide +kernel
theorem dX3_drawStep_54 : decode cX3_drawStep 54 = .ok (.iload 7, 2) := by decide +kernel
theorem dX3_drawStep_56 : decode cX3_drawStep 56 = .ok (.imul, 1) := by decide +kernel
theorem dX3_drawStep_57 : decode cX3_drawStep 57 = .ok (.invokestatic 72, 3) := by decide +kernel
theorem dX3_drawStep_60 : decode cX3_drawStep 60 = .ok (.iadd, 1) := by decide +kernel
theorem dX3_drawStep_61 : decode cX3_drawStep 61 = .ok (.istore 9, 2) := by decide +kernel
theorem dX3_drawStep_63 : decode cX3_drawStep 63 = .ok (.iload_n 2, 1) := by decide +kernel
theorem dX3_drawStep_64 : decode cX3_drawStep 64 = .ok (.iconst 2, 1) := by decide +kernel
theorem dX3_drawStep_65 : decode cX3_drawStep 65 = .ok (.iload 8, 2) := by decide +kernel
theorem dX3_drawStep_67 : decode cX3_drawStep 67 = .ok (.imul, 1) := by decide +kernel
theorem dX3_drawStep_68 : decode cX3_drawStep 68 = .ok (.iload 6, 2) := by decide +kernel
theorem dX3_drawStep_70 : decode cX3_drawStep 70 = .ok (.imul, 1) := by decide +kernel
theorem dX3_drawStep_71 : decode cX3_drawStep 71 = .ok (.iload 7, 2) := by decide +kernel
theorem dX3_drawStep_73 : decode cX3_drawStep 73 = .ok (.iadd, 1) := by decide +kernel
theorem dX3_drawStep_74 : decode cX3_drawStep 74 = .ok (.iconst 2, 1) := by decide +kernel
theorem dX3_drawStep_75 : decode cX3_drawStep 75 = .ok (.iload 7, 2) := by decide +kernel
theorem dX3_drawStep_77 : decode cX3_drawStep 77 = .ok (.imul, 1) := by decide +kernel
theorem dX3_drawStep_78 : decode cX3_drawStep 78 = .ok (.invokestatic 72, 3) := by decide +kernel
theorem dX3_drawStep_81 : decode cX3_drawStep 81 = .ok (.iadd, 1) := by decide +kernel
theorem dX3_drawStep_82 : decode cX3_drawStep 82 = .ok (.istore 10, 2) := by decide +kernel
theorem dX3_drawStep_84 : decode cX3_drawStep 84 = .ok (.aload_n 0, 1) := by decide +kernel
theorem dX3_drawStep_85 : decode cX3_drawStep 85 = .ok (.getfield 21, 3) := by decide +kernel
theorem dX3_drawStep_88 : decode cX3_drawStep 88 = .ok (.iload 9, 2) := by decide +kernel
theorem dX3_drawStep_90 : decode cX3_drawStep 90 = .ok (.iload 10, 2) := by decide +kernel
theorem dX3_drawStep_92 : decode cX3_drawStep 92 = .ok (.invokevirtual 55, 3) := by decide +kernel
theorem dX3_drawStep_95 : decode cX3_drawStep 95 = .ok (.iinc 8 1, 3) := by decide +kernel
theorem dX3_drawStep_98 : decode cX3_drawStep 98 = .ok (.goto (-63), 3) := by decide +kernel
theorem dX3_drawStep_101 : decode cX3_drawStep 101 = .ok (.return_, 1) := by decide +kernel
theorem dX3_drawGround_0 : decode cX3_drawGround 0 = .ok (.iconst 2, 1) := by decide +kernel
theorem dX3_drawGround_1 : decode cX3_drawGround 1 = .ok (.aload_n 0, 1) := by decide +kernel
theorem dX3_drawGround_2 : decode cX3_drawGround 2 = .ok (.getfield 9, 3) := by decide +kernel
theorem dX3_drawGround_5 : decode cX3_drawGround 5 = .ok (.iconst 1, 1) := by decide +kernel
theorem dX3_drawGround_6 : decode cX3_drawGround 6 = .ok (.iaload, 1) := by decide +kernel
theorem dX3_drawGround_7 : decode cX3_drawGround 7 = .ok (.ishl, 1) := by decide +kernel
theorem dX3_drawGround_8 : decode cX3_drawGround 8 = .ok (.iconst 1, 1) := by decide +kernel
theorem dX3_drawGround_9 : decode cX3_drawGround 9 = .ok (.aload_n 0, 1) := by decide +kernel
theorem dX3_drawGround_10 : decode cX3_drawGround 10 = .ok (.getfield 9, 3) := by decide +kernel
theorem dX3_drawGround_13 : decode cX3_drawGround 13 = .ok (.iconst 0, 1) := by decide +kernel
theorem dX3_drawGround_14 : decode cX3_drawGround 14 = .ok (.iaload, 1) := by decide +kernel
theorem dX3_drawGround_15 : decode cX3_drawGround 15 = .ok (.ishl, 1) := by decide +kernel
theorem dX3_drawGround_16 : decode cX3_drawGround 16 = .ok (.isub, 1) := by decide +kernel
theorem dX3_drawGround_17 : decode cX3_drawGround 17 = .ok (.istore_n 1, 1) := by decide +kernel
theorem dX3_drawGround_18 : decode cX3_drawGround 18 = .ok (.aload_n 0, 1) := by decide +kernel
theorem dX3_drawGround_19 : decode cX3_drawGround 19 = .ok (.getfield 15, 3) := by decide +kernel
theorem dX3_drawGround_22 : decode cX3_drawGround 22 = .ok (.iconst 0, 1) := by decide +kernel
theorem dX3_drawGround_23 : decode cX3_drawGround 23 = .ok (.iaload, 1) := by decide +kernel
theorem dX3_drawGround_24 : decode cX3_drawGround 24 = .ok (.istore_n 2, 1) := by decide +kernel
theorem dX3_drawGround_25 : decode cX3_drawGround 25 = .ok (.iload_n 2, 1) := by decide +kernel
theorem dX3_drawGround_26 : decode cX3_drawGround 26 = .ok (.aload_n 0, 1) := by decide +kernel
theorem dX3_drawGround_27 : decode cX3_drawGround 27 = .ok (.getfield 15, 3) := by decide +kernel
theorem dX3_drawGround_30 : decode cX3_drawGround 30 = .ok (.iconst 1, 1) := by decide +kernel
theorem dX3_drawGround_31 : decode cX3_drawGround 31 = .ok (.iaload, 1) := by decide +kernel
theorem dX3_drawGround_32 : decode cX3_drawGround 32 = .ok (.if_icmp .gt 19, 3) := by decide +kernel
theorem dX3_drawGround_35 : decode cX3_drawGround 35 = .ok (.aload_n 0, 1) := by decide +kernel
theorem dX3_drawGround_36 : decode cX3_drawGround 36 = .ok (.getfield 21, 3) := by decide +kernel
theorem dX3_drawGround_39 : decode cX3_drawGround 39 = .ok (.getfield 75, 3) := by decide +kernel
theorem dX3_drawGround_42 : decode cX3_drawGround 42 = .ok (.iload_n 2, 1) := by decide +kernel
theorem dX3_drawGround_43 : decode cX3_drawGround 43 = .ok (.iload_n 1, 1) := by decide +kernel
theorem dX3_drawGround_44 : decode cX3_drawGround 44 = .ok (.iastore, 1) := by decide +kernel
theorem dX3_drawGround_45 : decode cX3_drawGround 45 = .ok (.iinc 2 1, 3) := by decide +kernel
theorem dX3_drawGround_48 : decode cX3_drawGround 48 = .ok (.goto (-23), 3) := by decide +kernel
theorem dX3_drawGround_51 : decode cX3_drawGround 51 = .ok (.return_, 1) := by decide +kernel
theorem dX3_drawMark_0 : decode cX3_drawMark 0 = .ok (.aload_n 0, 1) := by decide +kernel
theorem dX3_drawMark_1 : decode cX3_drawMark 1 = .ok (.getfield 9, 3) := by decide +kernel
theorem dX3_drawMark_4 : decode cX3_drawMark 4 = .ok (.iconst 0, 1) := by decide +kernel
theorem dX3_drawMark_5 : decode cX3_drawMark 5 = .ok (.iaload, 1) := by decide +kernel
theorem dX3_drawMark_6 : decode cX3_drawMark 6 = .ok (.istore_n 1, 1) := by decide +kernel
theorem dX3_drawMark_7 : decode cX3_drawMark 7 = .ok (.aload_n 0, 1) := by decide +kernel
theorem dX3_drawMark_8 : decode cX3_drawMark 8 = .ok (.getfield 15, 3) := by decide +kernel
theorem dX3_drawMark_11 : decode cX3_drawMark 11 = .ok (.iconst 0, 1) := by decide +kernel
theorem dX3_drawMark_12 : decode cX3_drawMark 12 = .ok (.iaload, 1) := by decide +kernel
theorem dX3_drawMark_13 : decode cX3_drawMark 13 = .ok (.istore_n 2, 1) := by decide +kernel
theorem dX3_drawMark_14 : decode cX3_drawMark 14 = .ok (.aload_n 0, 1) := by decide +kernel
theorem dX3_drawMark_15 : decode cX3_drawMark 15 = .ok (.getfield 21, 3) := by decide +kernel
theorem dX3_drawMark_18 : decode cX3_drawMark 18 = .ok (.iload_n 1, 1) := by decide +kernel
theorem dX3_drawMark_19 : decode cX3_drawMark 19 = .ok (.iload_n 2, 1) := by decide +kernel
theorem dX3_drawMark_20 : decode cX3_drawMark 20 = .ok (.invokevirtual 55, 3) := by decide +kernel
theorem dX3_drawMark_23 : decode cX3_drawMark 23 = .ok (.aload_n 0, 1) := by decide +kernel
theorem dX3_drawMark_24 : decode cX3_drawMark 24 = .ok (.getfield 21, 3) := by decide +kernel
theorem dX3_drawMark_27 : decode cX3_drawMark 27 = .ok (.iload_n 1, 1) := by decide +kernel
theorem dX3_drawMark_28 : decode cX3_drawMark 28 = .ok (.iconst 1, 1) := by decide +kernel
theorem dX3_drawMark_29 : decode cX3_drawMark 29 = .ok (.isub, 1) := by decide +kernel
theorem dX3_drawMark_30 : decode cX3_drawMark 30 = .ok (.iload_n 2, 1) := by decide +kernel
theorem dX3_drawMark_31 : decode cX3_drawMark 31 = .ok (.invokevirtual 55, 3) := by decide +kernel
theorem dX3_drawMark_34 : decode cX3_drawMark 34 = .ok (.aload_n 0, 1) := by decide +kernel
theorem dX3_drawMark_35 : decode cX3_drawMark 35 = .ok (.getfield 21, 3) := by decide +kernel
theorem dX3_drawMark_38 : decode cX3_drawMark 38 = .ok (.iload_n 1, 1) := by decide +kernel
theorem dX3_drawMark_39 : decode cX3_drawMark 39 = .ok (.iconst 1, 1) := by decide +kernel
theorem dX3_drawMark_40 : decode cX3_drawMark 40 = .ok (.iadd, 1) := by decide +kernel
theorem dX3_drawMark_41 : decode cX3_drawMark 41 = .ok (.iload_n 2, 1) := by decide +kernel
theorem dX3_drawMark_42 : decode cX3_drawMark 42 = .ok (.invokevirtual 55, 3) := by decide +kernel
theorem dX3_drawMark_45 : decode cX3_drawMark 45 = .ok (.aload_n 0, 1) := by decide +kernel
theorem dX3_drawMark_46 : decode cX3_drawMark 46 = .ok (.getfield 21, 3) := by decide +kernel
theorem dX3_drawMark_49 : decode cX3_drawMark 49 = .ok (.iload_n 1, 1) := by decide +kernel
theorem dX3_drawMark_50 : decode cX3_drawMark 50 = .ok (.iload_n 2, 1) := by decide +kernel
theorem dX3_drawMark_51 : decode cX3_drawMark 51 = .ok (.iconst 1, 1) := by decide +kernel
theorem dX3_drawMark_52 : decode cX3_drawMark 52 = .ok (.isub, 1) := by decide +kernel
theorem dX3_drawMark_53 : decode cX3_drawMark 53 = .ok (.invokevirtual 55, 3) := by decide +kernel
theorem dX3_drawMark_56 : decode cX3_drawMark 56 = .ok (.aload_n 0, 1) := by decide +kernel
theorem dX3_drawMark_57 : decode cX3_drawMark 57 = .ok (.getfield 21, 3) := by decide +kernel
theorem dX3_drawMark_60 : decode cX3_drawMark 60 = .ok (.iload_n 1, 1) := by decide +kernel
theorem dX3_drawMark_61 : decode cX3_drawMark 61 = .ok (.iload_n 2, 1) := by decide +kernel
theorem dX3_drawMark_62 : decode cX3_drawMark 62 = .ok (.iconst 1, 1) := by decide +kernel
theorem dX3_drawMark_63 : decode cX3_drawMark 63 = .ok (.iadd, 1) := by decide +kernel
theorem dX3_drawMark_64 : decode cX3_drawMark 64 = .ok (.invokevirtual 55, 3) := by decide +kernel
theorem dX3_drawMark_67 : decode cX3_drawMark 67 = .ok (.return_, 1) := by decide +kernel
theorem dX4_init_0 : decode cX4_init 0 = .ok (.aload_n 0, 1) := by decide +kernel
theorem dX4_init_1 : decode cX4_init 1 = .ok (.invokespecial 3, 3) := by decide +kernel
theorem dX4_init_4 : decode cX4_init 4 = .ok (.aload_n 0, 1) := by decide +kernel
theorem dX4_init_5 : decode cX4_init 5 = .ok (.bipush 8, 2) := by decide +kernel
theorem dX4_init_7 : decode cX4_init 7 = .ok (.newarray .int, 2) := by decide +kernel
theorem dX4_init_9 : decode cX4_init 9 = .ok (.putfield 9, 3) := by decide +kernel
theorem dX4_init_12 : decode cX4_init 12 = .ok (.aload_n 0, 1) := by decide +kernel
theorem dX4_init_13 : decode cX4_init 13 = .ok (.bipush 8, 2) := by decide +kernel
theorem dX4_init_15 : decode cX4_init 15 = .ok (.newarray .int, 2) := by decide +kernel
theorem dX4_init_17 : decode cX4_init 17 = .ok (.putfield 15, 3) := by decide +kernel
theorem dX4_init_20 : decode cX4_init 20 = .ok (.return_, 1) := by decide +kernel
theorem dX4_fewest_0 : decode cX4_fewest 0 = .ok (.aload_n 1, 1) := by decide +kernel
theorem dX4_fewest_1 : decode cX4_fewest 1 = .ok (.getfield 18, 3) := by decide +kernel
theorem dX4_fewest_4 : decode cX4_fewest 4 = .ok (.iconst 1, 1) := by decide +kernel
theorem dX4_fewest_5 : decode cX4_fewest 5 = .ok (.isub, 1) := by decide +kernel
theorem dX4_fewest_6 : decode cX4_fewest 6 = .ok (.istore_n 3, 1) := by decide +kernel
theorem dX4_fewest_7 : decode cX4_fewest 7 = .ok (.iload_n 3, 1) := by decide +kernel
theorem dX4_fewest_8 : decode cX4_fewest 8 = .ok (.istore 4, 2) := by decide +kernel
theorem dX4_fewest_10 : decode cX4_fewest 10 = .ok (.iload 4, 2) := by decide +kernel
theorem dX4_fewest_12 : decode cX4_fewest 12 = .ok (.ifCond .lt 110, 3) := by decide +kernel
theorem dX4_fewest_15 : decode cX4_fewest 15 = .ok (.aload_n 0, 1) := by decide +kernel
theorem dX4_fewest_16 : decode cX4_fewest 16 = .ok (.getfield 9, 3) := by decide +kernel
theorem dX4_fewest_19 : decode cX4_fewest 19 = .ok (.iload 4, 2) := by decide +kernel
theorem dX4_fewest_21 : decode cX4_fewest 21 = .ok (.iload 4, 2) := by decide +kernel
theorem dX4_fewest_23 : decode cX4_fewest 23 = .ok (.iload_n 3, 1) := by decide +kernel
theorem dX4_fewest_24 : decode cX4_fewest 24 = .ok (.if_icmp .ne 7, 3) := by decide +kernel
theorem dX4_fewest_27 : decode cX4_fewest 27 = .ok (.iconst 1, 1) := by decide +kernel
theorem dX4_fewest_28 : decode cX4_fewest 28 = .ok (.goto 5, 3) := by decide +kernel
theorem dX4_fewest_31 : decode cX4_fewest 31 = .ok (.bipush 9, 2) := by decide +kernel
theorem dX4_fewest_33 : decode cX4_fewest 33 = .ok (.iastore, 1) := by decide +kernel
theorem dX4_fewest_34 : decode cX4_fewest 34 = .ok (.aload_n 0, 1) := by decide +kernel
theorem dX4_fewest_35 : decode cX4_fewest 35 = .ok (.getfield 15, 3) := by decide +kernel
theorem dX4_fewest_38 : decode cX4_fewest 38 = .ok (.iload 4, 2) := by decide +kernel
theorem dX4_fewest_40 : decode cX4_fewest 40 = .ok (.iload_n 3, 1) := by decide +kernel
theorem dX4_fewest_41 : decode cX4_fewest 41 = .ok (.iastore, 1) := by decide +kernel
theorem dX4_fewest_42 : decode cX4_fewest 42 = .ok (.iload 4, 2) := by decide +kernel
theorem dX4_fewest_44 : decode cX4_fewest 44 = .ok (.iconst 1, 1) := by decide +kernel
theorem dX4_fewest_45 : decode cX4_fewest 45 = .ok (.iadd, 1) := by decide +kernel
theorem dX4_fewest_46 : decode cX4_fewest 46 = .ok (.istore 5, 2) := by decide +kernel
theorem dX4_fewest_48 : decode cX4_fewest 48 = .ok (.iload 5, 2) := by decide +kernel
theorem dX4_fewest_50 : decode cX4_fewest 50 = .ok (.iload_n 3, 1) := by decide +kernel
theorem dX4_fewest_51 : decode cX4_fewest 51 = .ok (.if_icmp .gt 65, 3) := by decide +kernel
theorem dX4_fewest_54 : decode cX4_fewest 54 = .ok (.aload_n 0, 1) := by decide +kernel
theorem dX4_fewest_55 : decode cX4_fewest 55 = .ok (.getfield 9, 3) := by decide +kernel
theorem dX4_fewest_58 : decode cX4_fewest 58 = .ok (.iload 5, 2) := by decide +kernel
theorem dX4_fewest_60 : decode cX4_fewest 60 = .ok (.iaload, 1) := by decide +kernel
theorem dX4_fewest_61 : decode cX4_fewest 61 = .ok (.iconst 1, 1) := by decide +kernel
theorem dX4_fewest_62 : decode cX4_fewest 62 = .ok (.iadd, 1) := by decide +kernel
theorem dX4_fewest_63 : decode cX4_fewest 63 = .ok (.aload_n 0, 1) := by decide +kernel
theorem dX4_fewest_64 : decode cX4_fewest 64 = .ok (.getfield 9, 3) := by decide +kernel
theorem dX4_fewest_67 : decode cX4_fewest 67 = .ok (.iload 4, 2) := by decide +kernel
theorem dX4_fewest_69 : decode cX4_fewest 69 = .ok (.iaload, 1) := by decide +kernel
theorem dX4_fewest_70 : decode cX4_fewest 70 = .ok (.if_icmp .ge 40, 3) := by decide +kernel
theorem dX4_fewest_73 : decode cX4_fewest 73 = .ok (.aload_n 1, 1) := by decide +kernel
theorem dX4_fewest_74 : decode cX4_fewest 74 = .ok (.iload 4, 2) := by decide +kernel
theorem dX4_fewest_76 : decode cX4_fewest 76 = .ok (.iload 5, 2) := by decide +kernel
theorem dX4_fewest_78 : decode cX4_fewest 78 = .ok (.iload_n 2, 1) := by decide +kernel
theorem dX4_fewest_79 : decode cX4_fewest 79 = .ok (.invokestatic 24, 3) := by decide +kernel
theorem dX4_fewest_82 : decode cX4_fewest 82 = .ok (.ifCond .eq 28, 3) := by decide +kernel
theorem dX4_fewest_85 : decode cX4_fewest 85 = .ok (.aload_n 0, 1) := by decide +kernel
theorem dX4_fewest_86 : decode cX4_fewest 86 = .ok (.getfield 9, 3) := by decide +kernel
theorem dX4_fewest_89 : decode cX4_fewest 89 = .ok (.iload 4, 2) := by decide +kernel
theorem dX4_fewest_91 : decode cX4_fewest 91 = .ok (.aload_n 0, 1) := by decide +kernel
theorem dX4_fewest_92 : decode cX4_fewest 92 = .ok (.getfield 9, 3) := by decide +kernel
theorem dX4_fewest_95 : decode cX4_fewest 95 = .ok (.iload 5, 2) := by decide +kernel
theorem dX4_fewest_97 : decode cX4_fewest 97 = .ok (.iaload, 1) := by decide +kernel
theorem dX4_fewest_98 : decode cX4_fewest 98 = .ok (.iconst 1, 1) := by decide +kernel
theorem dX4_fewest_99 : decode cX4_fewest 99 = .ok (.iadd, 1) := by decide +kernel
theorem dX4_fewest_100 : decode cX4_fewest 100 = .ok (.iastore, 1) := by decide +kernel
theorem dX4_fewest_101 : decode cX4_fewest 101 = .ok (.aload_n 0, 1) := by decide +kernel
theorem dX4_fewest_102 : decode cX4_fewest 102 = .ok (.getfield 15, 3) := by decide +kernel
theorem dX4_fewest_105 : decode cX4_fewest 105 = .ok (.iload 4, 2) := by decide +kernel
theorem dX4_fewest_107 : decode cX4_fewest 107 = .ok (.iload 5, 2) := by decide +kernel
theorem dX4_fewest_109 : decode cX4_fewest 109 = .ok (.iastore, 1) := by decide +kernel
theorem dX4_fewest_110 : decode cX4_fewest 110 = .ok (.iinc 5 1, 3) := by decide +kernel
theorem dX4_fewest_113 : decode cX4_fewest 113 = .ok (.goto (-65), 3) := by decide +kernel
theorem dX4_fewest_116 : decode cX4_fewest 116 = .ok (.iinc 4 (-1), 3) := by decide +kernel
theorem dX4_fewest_119 : decode cX4_fewest 119 = .ok (.goto (-109), 3) := by decide +kernel
theorem dX4_fewest_122 : decode cX4_fewest 122 = .ok (.aload_n 0, 1) := by decide +kernel
theorem dX4_fewest_123 : decode cX4_fewest 123 = .ok (.iload_n 3, 1) := by decide +kernel
theorem dX4_fewest_124 : decode cX4_fewest 124 = .ok (.invokevirtual 28, 3) := by decide +kernel
theorem dX4_fewest_127 : decode cX4_fewest 127 = .ok (.ireturn, 1) := by decide +kernel
theorem dX4_walk_0 : decode cX4_walk 0 = .ok (.iconst 1, 1) := by decide +kernel
theorem dX4_walk_1 : decode cX4_walk 1 = .ok (.istore_n 2, 1) := by decide +kernel
theorem dX4_walk_2 : decode cX4_walk 2 = .ok (.iconst 0, 1) := by decide +kernel
theorem dX4_walk_3 : decode cX4_walk 3 = .ok (.istore_n 3, 1) := by decide +kernel
theorem dX4_walk_4 : decode cX4_walk 4 = .ok (.iconst 0, 1) := by decide +kernel
theorem dX4_walk_5 : decode cX4_walk 5 = .ok (.istore 4, 2) := by decide +kernel
theorem dX4_walk_7 : decode cX4_walk 7 = .ok (.iload 4, 2) := by decide +kernel
theorem dX4_walk_9 : decode cX4_walk 9 = .ok (.bipush 8, 2) := by decide +kernel
theorem dX4_walk_11 : decode cX4_walk 11 = .ok (.if_icmp .ge 27, 3) := by decide +kernel
theorem dX4_walk_14 : decode cX4_walk 14 = .ok (.iload_n 3, 1) := by decide +kernel
theorem dX4_walk_15 : decode cX4_walk 15 = .ok (.iload_n 1, 1) := by decide +kernel
theorem dX4_walk_16 : decode cX4_walk 16 = .ok (.if_icmp .ge 22, 3) := by decide +kernel
theorem dX4_walk_19 : decode cX4_walk 19 = .ok (.aload_n 0, 1) := by decide +kernel
theorem dX4_walk_20 : decode cX4_walk 20 = .ok (.getfield 15, 3) := by decide +kernel
theorem dX4_walk_23 : decode cX4_walk 23 = .ok (.iload_n 3, 1) := by decide +kernel
theorem dX4_walk_24 : decode cX4_walk 24 = .ok (.iaload, 1) := by decide +kernel
