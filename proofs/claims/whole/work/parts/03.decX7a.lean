theorem dX7_init_0 : decode cX7_init 0 = .ok (.aload_n 0, 1) := by decide +kernel
theorem dX7_init_1 : decode cX7_init 1 = .ok (.invokespecial 3, 3) := by decide +kernel
theorem dX7_init_4 : decode cX7_init 4 = .ok (.aload_n 0, 1) := by decide +kernel
theorem dX7_init_5 : decode cX7_init 5 = .ok (.bipush 12, 2) := by decide +kernel
theorem dX7_init_7 : decode cX7_init 7 = .ok (.anewarray 9, 3) := by decide +kernel
theorem dX7_init_10 : decode cX7_init 10 = .ok (.putfield 11, 3) := by decide +kernel
theorem dX7_init_13 : decode cX7_init 13 = .ok (.aload_n 0, 1) := by decide +kernel
theorem dX7_init_14 : decode cX7_init 14 = .ok (.bipush 8, 2) := by decide +kernel
theorem dX7_init_16 : decode cX7_init 16 = .ok (.newarray .int, 2) := by decide +kernel
theorem dX7_init_18 : decode cX7_init 18 = .ok (.putfield 15, 3) := by decide +kernel
theorem dX7_init_21 : decode cX7_init 21 = .ok (.aload_n 0, 1) := by decide +kernel
theorem dX7_init_22 : decode cX7_init 22 = .ok (.bipush 8, 2) := by decide +kernel
theorem dX7_init_24 : decode cX7_init 24 = .ok (.newarray .int, 2) := by decide +kernel
theorem dX7_init_26 : decode cX7_init 26 = .ok (.putfield 19, 3) := by decide +kernel
theorem dX7_init_29 : decode cX7_init 29 = .ok (.aload_n 0, 1) := by decide +kernel
theorem dX7_init_30 : decode cX7_init 30 = .ok (.iconst 2, 1) := by decide +kernel
theorem dX7_init_31 : decode cX7_init 31 = .ok (.putfield 22, 3) := by decide +kernel
theorem dX7_init_34 : decode cX7_init 34 = .ok (.aload_n 0, 1) := by decide +kernel
theorem dX7_init_35 : decode cX7_init 35 = .ok (.bipush 12, 2) := by decide +kernel
theorem dX7_init_37 : decode cX7_init 37 = .ok (.newarray .int, 2) := by decide +kernel
theorem dX7_init_39 : decode cX7_init 39 = .ok (.putfield 26, 3) := by decide +kernel
theorem dX7_init_42 : decode cX7_init 42 = .ok (.aload_n 0, 1) := by decide +kernel
theorem dX7_init_43 : decode cX7_init 43 = .ok (.bipush 12, 2) := by decide +kernel
theorem dX7_init_45 : decode cX7_init 45 = .ok (.bipush 12, 2) := by decide +kernel
theorem dX7_init_47 : decode cX7_init 47 = .ok (.multianewarray 29 2, 4) := by decide +kernel
theorem dX7_init_51 : decode cX7_init 51 = .ok (.putfield 31, 3) := by decide +kernel
theorem dX7_init_54 : decode cX7_init 54 = .ok (.aload_n 0, 1) := by decide +kernel
theorem dX7_init_55 : decode cX7_init 55 = .ok (.new 34, 3) := by decide +kernel
theorem dX7_init_58 : decode cX7_init 58 = .ok (.dup, 1) := by decide +kernel
theorem dX7_init_59 : decode cX7_init 59 = .ok (.invokespecial 36, 3) := by decide +kernel
theorem dX7_init_62 : decode cX7_init 62 = .ok (.putfield 37, 3) := by decide +kernel
theorem dX7_init_65 : decode cX7_init 65 = .ok (.aload_n 0, 1) := by decide +kernel
theorem dX7_init_66 : decode cX7_init 66 = .ok (.new 41, 3) := by decide +kernel
theorem dX7_init_69 : decode cX7_init 69 = .ok (.dup, 1) := by decide +kernel
theorem dX7_init_70 : decode cX7_init 70 = .ok (.invokespecial 43, 3) := by decide +kernel
theorem dX7_init_73 : decode cX7_init 73 = .ok (.putfield 44, 3) := by decide +kernel
theorem dX7_init_76 : decode cX7_init 76 = .ok (.aload_n 0, 1) := by decide +kernel
theorem dX7_init_77 : decode cX7_init 77 = .ok (.new 48, 3) := by decide +kernel
theorem dX7_init_80 : decode cX7_init 80 = .ok (.dup, 1) := by decide +kernel
theorem dX7_init_81 : decode cX7_init 81 = .ok (.invokespecial 50, 3) := by decide +kernel
theorem dX7_init_84 : decode cX7_init 84 = .ok (.putfield 51, 3) := by decide +kernel
theorem dX7_init_87 : decode cX7_init 87 = .ok (.aload_n 0, 1) := by decide +kernel
theorem dX7_init_88 : decode cX7_init 88 = .ok (.new 55, 3) := by decide +kernel
theorem dX7_init_91 : decode cX7_init 91 = .ok (.dup, 1) := by decide +kernel
theorem dX7_init_92 : decode cX7_init 92 = .ok (.invokespecial 57, 3) := by decide +kernel
theorem dX7_init_95 : decode cX7_init 95 = .ok (.putfield 58, 3) := by decide +kernel
theorem dX7_init_98 : decode cX7_init 98 = .ok (.aload_n 0, 1) := by decide +kernel
theorem dX7_init_99 : decode cX7_init 99 = .ok (.new 62, 3) := by decide +kernel
theorem dX7_init_102 : decode cX7_init 102 = .ok (.dup, 1) := by decide +kernel
theorem dX7_init_103 : decode cX7_init 103 = .ok (.invokespecial 64, 3) := by decide +kernel
theorem dX7_init_106 : decode cX7_init 106 = .ok (.putfield 65, 3) := by decide +kernel
theorem dX7_init_109 : decode cX7_init 109 = .ok (.aload_n 0, 1) := by decide +kernel
theorem dX7_init_110 : decode cX7_init 110 = .ok (.bipush 12, 2) := by decide +kernel
theorem dX7_init_112 : decode cX7_init 112 = .ok (.newarray .int, 2) := by decide +kernel
theorem dX7_init_114 : decode cX7_init 114 = .ok (.putfield 69, 3) := by decide +kernel
theorem dX7_init_117 : decode cX7_init 117 = .ok (.aload_n 0, 1) := by decide +kernel
theorem dX7_init_118 : decode cX7_init 118 = .ok (.new 34, 3) := by decide +kernel
theorem dX7_init_121 : decode cX7_init 121 = .ok (.dup, 1) := by decide +kernel
theorem dX7_init_122 : decode cX7_init 122 = .ok (.invokespecial 36, 3) := by decide +kernel
theorem dX7_init_125 : decode cX7_init 125 = .ok (.putfield 72, 3) := by decide +kernel
theorem dX7_init_128 : decode cX7_init 128 = .ok (.aload_n 0, 1) := by decide +kernel
theorem dX7_init_129 : decode cX7_init 129 = .ok (.new 75, 3) := by decide +kernel
theorem dX7_init_132 : decode cX7_init 132 = .ok (.dup, 1) := by decide +kernel
theorem dX7_init_133 : decode cX7_init 133 = .ok (.invokespecial 77, 3) := by decide +kernel
theorem dX7_init_136 : decode cX7_init 136 = .ok (.putfield 78, 3) := by decide +kernel
theorem dX7_init_139 : decode cX7_init 139 = .ok (.iconst 0, 1) := by decide +kernel
theorem dX7_init_140 : decode cX7_init 140 = .ok (.istore_n 1, 1) := by decide +kernel
theorem dX7_init_141 : decode cX7_init 141 = .ok (.iload_n 1, 1) := by decide +kernel
theorem dX7_init_142 : decode cX7_init 142 = .ok (.bipush 12, 2) := by decide +kernel
theorem dX7_init_144 : decode cX7_init 144 = .ok (.if_icmp .ge 22, 3) := by decide +kernel
theorem dX7_init_147 : decode cX7_init 147 = .ok (.aload_n 0, 1) := by decide +kernel
theorem dX7_init_148 : decode cX7_init 148 = .ok (.getfield 11, 3) := by decide +kernel
theorem dX7_init_151 : decode cX7_init 151 = .ok (.iload_n 1, 1) := by decide +kernel
theorem dX7_init_152 : decode cX7_init 152 = .ok (.new 9, 3) := by decide +kernel
theorem dX7_init_155 : decode cX7_init 155 = .ok (.dup, 1) := by decide +kernel
theorem dX7_init_156 : decode cX7_init 156 = .ok (.invokespecial 82, 3) := by decide +kernel
theorem dX7_init_159 : decode cX7_init 159 = .ok (.aastore, 1) := by decide +kernel
theorem dX7_init_160 : decode cX7_init 160 = .ok (.iinc 1 1, 3) := by decide +kernel
theorem dX7_init_163 : decode cX7_init 163 = .ok (.goto (-22), 3) := by decide +kernel
theorem dX7_init_166 : decode cX7_init 166 = .ok (.return_, 1) := by decide +kernel
theorem dX7_corner_0 : decode cX7_corner 0 = .ok (.iload_n 1, 1) := by decide +kernel
theorem dX7_corner_1 : decode cX7_corner 1 = .ok (.iload_n 2, 1) := by decide +kernel
theorem dX7_corner_2 : decode cX7_corner 2 = .ok (.invokestatic 83, 3) := by decide +kernel
theorem dX7_corner_5 : decode cX7_corner 5 = .ok (.ifCond .eq 12, 3) := by decide +kernel
theorem dX7_corner_8 : decode cX7_corner 8 = .ok (.aload_n 0, 1) := by decide +kernel
theorem dX7_corner_9 : decode cX7_corner 9 = .ok (.getfield 87, 3) := by decide +kernel
theorem dX7_corner_12 : decode cX7_corner 12 = .ok (.bipush 8, 2) := by decide +kernel
theorem dX7_corner_14 : decode cX7_corner 14 = .ok (.if_icmp .lt 5, 3) := by decide +kernel
theorem dX7_corner_17 : decode cX7_corner 17 = .ok (.iconst (-1), 1) := by decide +kernel
theorem dX7_corner_18 : decode cX7_corner 18 = .ok (.ireturn, 1) := by decide +kernel
theorem dX7_corner_19 : decode cX7_corner 19 = .ok (.aload_n 0, 1) := by decide +kernel
theorem dX7_corner_20 : decode cX7_corner 20 = .ok (.getfield 15, 3) := by decide +kernel
theorem dX7_corner_23 : decode cX7_corner 23 = .ok (.aload_n 0, 1) := by decide +kernel
theorem dX7_corner_24 : decode cX7_corner 24 = .ok (.getfield 87, 3) := by decide +kernel
theorem dX7_corner_27 : decode cX7_corner 27 = .ok (.iload_n 1, 1) := by decide +kernel
theorem dX7_corner_28 : decode cX7_corner 28 = .ok (.iastore, 1) := by decide +kernel
theorem dX7_corner_29 : decode cX7_corner 29 = .ok (.aload_n 0, 1) := by decide +kernel
theorem dX7_corner_30 : decode cX7_corner 30 = .ok (.getfield 19, 3) := by decide +kernel
theorem dX7_corner_33 : decode cX7_corner 33 = .ok (.aload_n 0, 1) := by decide +kernel
theorem dX7_corner_34 : decode cX7_corner 34 = .ok (.getfield 87, 3) := by decide +kernel
theorem dX7_corner_37 : decode cX7_corner 37 = .ok (.iload_n 2, 1) := by decide +kernel
theorem dX7_corner_38 : decode cX7_corner 38 = .ok (.iastore, 1) := by decide +kernel
theorem dX7_corner_39 : decode cX7_corner 39 = .ok (.aload_n 0, 1) := by decide +kernel
theorem dX7_corner_40 : decode cX7_corner 40 = .ok (.dup, 1) := by decide +kernel
theorem dX7_corner_41 : decode cX7_corner 41 = .ok (.getfield 87, 3) := by decide +kernel
theorem dX7_corner_44 : decode cX7_corner 44 = .ok (.iconst 1, 1) := by decide +kernel
theorem dX7_corner_45 : decode cX7_corner 45 = .ok (.iadd, 1) := by decide +kernel
theorem dX7_corner_46 : decode cX7_corner 46 = .ok (.putfield 87, 3) := by decide +kernel
theorem dX7_corner_49 : decode cX7_corner 49 = .ok (.aload_n 0, 1) := by decide +kernel
theorem dX7_corner_50 : decode cX7_corner 50 = .ok (.getfield 87, 3) := by decide +kernel
theorem dX7_corner_53 : decode cX7_corner 53 = .ok (.ireturn, 1) := by decide +kernel
theorem dX7_line_0 : decode cX7_line 0 = .ok (.aload_n 0, 1) := by decide +kernel
theorem dX7_line_1 : decode cX7_line 1 = .ok (.getfield 87, 3) := by decide +kernel
theorem dX7_line_4 : decode cX7_line 4 = .ok (.ifCond .eq 11, 3) := by decide +kernel
theorem dX7_line_7 : decode cX7_line 7 = .ok (.aload_n 0, 1) := by decide +kernel
theorem dX7_line_8 : decode cX7_line 8 = .ok (.iload_n 1, 1) := by decide +kernel
theorem dX7_line_9 : decode cX7_line 9 = .ok (.invokevirtual 90, 3) := by decide +kernel
theorem dX7_line_12 : decode cX7_line 12 = .ok (.ifCond .ne 5, 3) := by decide +kernel
theorem dX7_line_15 : decode cX7_line 15 = .ok (.iconst (-1), 1) := by decide +kernel
theorem dX7_line_16 : decode cX7_line 16 = .ok (.ireturn, 1) := by decide +kernel
theorem dX7_line_17 : decode cX7_line 17 = .ok (.aload_n 0, 1) := by decide +kernel
theorem dX7_line_18 : decode cX7_line 18 = .ok (.getfield 11, 3) := by decide +kernel
theorem dX7_line_21 : decode cX7_line 21 = .ok (.aload_n 0, 1) := by decide +kernel
theorem dX7_line_22 : decode cX7_line 22 = .ok (.getfield 94, 3) := by decide +kernel
theorem dX7_line_25 : decode cX7_line 25 = .ok (.aaload, 1) := by decide +kernel
theorem dX7_line_26 : decode cX7_line 26 = .ok (.astore_n 2, 1) := by decide +kernel
theorem dX7_line_27 : decode cX7_line 27 = .ok (.aload_n 2, 1) := by decide +kernel
theorem dX7_line_28 : decode cX7_line 28 = .ok (.iconst 0, 1) := by decide +kernel
theorem dX7_line_29 : decode cX7_line 29 = .ok (.iload_n 1, 1) := by decide +kernel
theorem dX7_line_30 : decode cX7_line 30 = .ok (.invokevirtual 97, 3) := by decide +kernel
theorem dX7_line_33 : decode cX7_line 33 = .ok (.iconst 0, 1) := by decide +kernel
theorem dX7_line_34 : decode cX7_line 34 = .ok (.istore_n 3, 1) := by decide +kernel
theorem dX7_line_35 : decode cX7_line 35 = .ok (.iload_n 3, 1) := by decide +kernel
theorem dX7_line_36 : decode cX7_line 36 = .ok (.aload_n 0, 1) := by decide +kernel
theorem dX7_line_37 : decode cX7_line 37 = .ok (.getfield 87, 3) := by decide +kernel
theorem dX7_line_40 : decode cX7_line 40 = .ok (.if_icmp .ge 25, 3) := by decide +kernel
theorem dX7_line_43 : decode cX7_line 43 = .ok (.aload_n 2, 1) := by decide +kernel
theorem dX7_line_44 : decode cX7_line 44 = .ok (.aload_n 0, 1) := by decide +kernel
theorem dX7_line_45 : decode cX7_line 45 = .ok (.getfield 15, 3) := by decide +kernel
theorem dX7_line_48 : decode cX7_line 48 = .ok (.iload_n 3, 1) := by decide +kernel
theorem dX7_line_49 : decode cX7_line 49 = .ok (.iaload, 1) := by decide +kernel
theorem dX7_line_50 : decode cX7_line 50 = .ok (.aload_n 0, 1) := by decide +kernel
theorem dX7_line_51 : decode cX7_line 51 = .ok (.getfield 19, 3) := by decide +kernel
theorem dX7_line_54 : decode cX7_line 54 = .ok (.iload_n 3, 1) := by decide +kernel
theorem dX7_line_55 : decode cX7_line 55 = .ok (.iaload, 1) := by decide +kernel
theorem dX7_line_56 : decode cX7_line 56 = .ok (.invokevirtual 101, 3) := by decide +kernel
theorem dX7_line_59 : decode cX7_line 59 = .ok (.iinc 3 1, 3) := by decide +kernel
theorem dX7_line_62 : decode cX7_line 62 = .ok (.goto (-27), 3) := by decide +kernel
theorem dX7_line_65 : decode cX7_line 65 = .ok (.aload_n 0, 1) := by decide +kernel
theorem dX7_line_66 : decode cX7_line 66 = .ok (.iconst 0, 1) := by decide +kernel
theorem dX7_line_67 : decode cX7_line 67 = .ok (.putfield 87, 3) := by decide +kernel
theorem dX7_line_70 : decode cX7_line 70 = .ok (.aload_n 0, 1) := by decide +kernel
theorem dX7_line_71 : decode cX7_line 71 = .ok (.aload_n 2, 1) := by decide +kernel
theorem dX7_line_72 : decode cX7_line 72 = .ok (.invokevirtual 104, 3) := by decide +kernel
theorem dX7_line_75 : decode cX7_line 75 = .ok (.ireturn, 1) := by decide +kernel
theorem dX7_ground_0 : decode cX7_ground 0 = .ok (.iload_n 1, 1) := by decide +kernel
theorem dX7_ground_1 : decode cX7_ground 1 = .ok (.iload_n 2, 1) := by decide +kernel
theorem dX7_ground_2 : decode cX7_ground 2 = .ok (.invokestatic 83, 3) := by decide +kernel
theorem dX7_ground_5 : decode cX7_ground 5 = .ok (.ifCond .eq 32, 3) := by decide +kernel
theorem dX7_ground_8 : decode cX7_ground 8 = .ok (.iload_n 3, 1) := by decide +kernel
theorem dX7_ground_9 : decode cX7_ground 9 = .ok (.iload 4, 2) := by decide +kernel
theorem dX7_ground_11 : decode cX7_ground 11 = .ok (.invokestatic 83, 3) := by decide +kernel
theorem dX7_ground_14 : decode cX7_ground 14 = .ok (.ifCond .eq 23, 3) := by decide +kernel
theorem dX7_ground_17 : decode cX7_ground 17 = .ok (.iload_n 1, 1) := by decide +kernel
theorem dX7_ground_18 : decode cX7_ground 18 = .ok (.iload_n 3, 1) := by decide +kernel
theorem dX7_ground_19 : decode cX7_ground 19 = .ok (.if_icmp .gt 18, 3) := by decide +kernel
theorem dX7_ground_22 : decode cX7_ground 22 = .ok (.iload_n 2, 1) := by decide +kernel
theorem dX7_ground_23 : decode cX7_ground 23 = .ok (.iload 4, 2) := by decide +kernel
theorem dX7_ground_25 : decode cX7_ground 25 = .ok (.if_icmp .gt 12, 3) := by decide +kernel
theorem dX7_ground_28 : decode cX7_ground 28 = .ok (.aload_n 0, 1) := by decide +kernel
theorem dX7_ground_29 : decode cX7_ground 29 = .ok (.iload 5, 2) := by decide +kernel
theorem dX7_ground_31 : decode cX7_ground 31 = .ok (.invokevirtual 90, 3) := by decide +kernel
theorem dX7_ground_34 : decode cX7_ground 34 = .ok (.ifCond .ne 5, 3) := by decide +kernel
theorem dX7_ground_37 : decode cX7_ground 37 = .ok (.iconst (-1), 1) := by decide +kernel
theorem dX7_ground_38 : decode cX7_ground 38 = .ok (.ireturn, 1) := by decide +kernel
theorem dX7_ground_39 : decode cX7_ground 39 = .ok (.aload_n 0, 1) := by decide +kernel
theorem dX7_ground_40 : decode cX7_ground 40 = .ok (.getfield 11, 3) := by decide +kernel
theorem dX7_ground_43 : decode cX7_ground 43 = .ok (.aload_n 0, 1) := by decide +kernel
theorem dX7_ground_44 : decode cX7_ground 44 = .ok (.getfield 94, 3) := by decide +kernel
theorem dX7_ground_47 : decode cX7_ground 47 = .ok (.aaload, 1) := by decide +kernel
theorem dX7_ground_48 : decode cX7_ground 48 = .ok (.astore 6, 2) := by decide +kernel
theorem dX7_ground_50 : decode cX7_ground 50 = .ok (.aload 6, 2) := by decide +kernel
theorem dX7_ground_52 : decode cX7_ground 52 = .ok (.iconst 1, 1) := by decide +kernel
theorem dX7_ground_53 : decode cX7_ground 53 = .ok (.iload 5, 2) := by decide +kernel
theorem dX7_ground_55 : decode cX7_ground 55 = .ok (.invokevirtual 97, 3) := by decide +kernel
theorem dX7_ground_58 : decode cX7_ground 58 = .ok (.aload 6, 2) := by decide +kernel
theorem dX7_ground_60 : decode cX7_ground 60 = .ok (.iload_n 1, 1) := by decide +kernel
theorem dX7_ground_61 : decode cX7_ground 61 = .ok (.iload_n 2, 1) := by decide +kernel
theorem dX7_ground_62 : decode cX7_ground 62 = .ok (.invokevirtual 101, 3) := by decide +kernel
theorem dX7_ground_65 : decode cX7_ground 65 = .ok (.aload 6, 2) := by decide +kernel
theorem dX7_ground_67 : decode cX7_ground 67 = .ok (.iload_n 3, 1) := by decide +kernel
theorem dX7_ground_68 : decode cX7_ground 68 = .ok (.iload 4, 2) := by decide +kernel
theorem dX7_ground_70 : decode cX7_ground 70 = .ok (.invokevirtual 101, 3) := by decide +kernel
theorem dX7_ground_73 : decode cX7_ground 73 = .ok (.aload_n 0, 1) := by decide +kernel
theorem dX7_ground_74 : decode cX7_ground 74 = .ok (.aload 6, 2) := by decide +kernel
theorem dX7_ground_76 : decode cX7_ground 76 = .ok (.invokevirtual 104, 3) := by decide +kernel
theorem dX7_ground_79 : decode cX7_ground 79 = .ok (.ireturn, 1) := by decide +kernel
theorem dX7_mark_0 : decode cX7_mark 0 = .ok (.iload_n 1, 1) := by decide +kernel
theorem dX7_mark_1 : decode cX7_mark 1 = .ok (.iload_n 2, 1) := by decide +kernel
theorem dX7_mark_2 : decode cX7_mark 2 = .ok (.invokestatic 83, 3) := by decide +kernel
theorem dX7_mark_5 : decode cX7_mark 5 = .ok (.ifCond .eq 11, 3) := by decide +kernel
theorem dX7_mark_8 : decode cX7_mark 8 = .ok (.aload_n 0, 1) := by decide +kernel
theorem dX7_mark_9 : decode cX7_mark 9 = .ok (.iload_n 3, 1) := by decide +kernel
theorem dX7_mark_10 : decode cX7_mark 10 = .ok (.invokevirtual 90, 3) := by decide +kernel
theorem dX7_mark_13 : decode cX7_mark 13 = .ok (.ifCond .ne 5, 3) := by decide +kernel
theorem dX7_mark_16 : decode cX7_mark 16 = .ok (.iconst (-1), 1) := by decide +kernel
theorem dX7_mark_17 : decode cX7_mark 17 = .ok (.ireturn, 1) := by decide +kernel
theorem dX7_mark_18 : decode cX7_mark 18 = .ok (.aload_n 0, 1) := by decide +kernel
theorem dX7_mark_19 : decode cX7_mark 19 = .ok (.getfield 11, 3) := by decide +kernel
theorem dX7_mark_22 : decode cX7_mark 22 = .ok (.aload_n 0, 1) := by decide +kernel
theorem dX7_mark_23 : decode cX7_mark 23 = .ok (.getfield 94, 3) := by decide +kernel
theorem dX7_mark_26 : decode cX7_mark 26 = .ok (.aaload, 1) := by decide +kernel
theorem dX7_mark_27 : decode cX7_mark 27 = .ok (.astore 4, 2) := by decide +kernel
theorem dX7_mark_29 : decode cX7_mark 29 = .ok (.aload 4, 2) := by decide +kernel
theorem dX7_mark_31 : decode cX7_mark 31 = .ok (.iconst 2, 1) := by decide +kernel
theorem dX7_mark_32 : decode cX7_mark 32 = .ok (.iload_n 3, 1) := by decide +kernel
theorem dX7_mark_33 : decode cX7_mark 33 = .ok (.invokevirtual 97, 3) := by decide +kernel
theorem dX7_mark_36 : decode cX7_mark 36 = .ok (.aload 4, 2) := by decide +kernel
theorem dX7_mark_38 : decode cX7_mark 38 = .ok (.iload_n 1, 1) := by decide +kernel
theorem dX7_mark_39 : decode cX7_mark 39 = .ok (.iload_n 2, 1) := by decide +kernel
theorem dX7_mark_40 : decode cX7_mark 40 = .ok (.invokevirtual 101, 3) := by decide +kernel
theorem dX7_mark_43 : decode cX7_mark 43 = .ok (.aload_n 0, 1) := by decide +kernel
theorem dX7_mark_44 : decode cX7_mark 44 = .ok (.aload 4, 2) := by decide +kernel
theorem dX7_mark_46 : decode cX7_mark 46 = .ok (.invokevirtual 104, 3) := by decide +kernel
theorem dX7_mark_49 : decode cX7_mark 49 = .ok (.ireturn, 1) := by decide +kernel
theorem dX7_undo_0 : decode cX7_undo 0 = .ok (.aload_n 0, 1) := by decide +kernel
theorem dX7_undo_1 : decode cX7_undo 1 = .ok (.getfield 94, 3) := by decide +kernel
theorem dX7_undo_4 : decode cX7_undo 4 = .ok (.ifCond .ne 5, 3) := by decide +kernel
theorem dX7_undo_7 : decode cX7_undo 7 = .ok (.iconst 0, 1) := by decide +kernel
theorem dX7_undo_8 : decode cX7_undo 8 = .ok (.ireturn, 1) := by decide +kernel
theorem dX7_undo_9 : decode cX7_undo 9 = .ok (.aload_n 0, 1) := by decide +kernel
theorem dX7_undo_10 : decode cX7_undo 10 = .ok (.dup, 1) := by decide +kernel
theorem dX7_undo_11 : decode cX7_undo 11 = .ok (.getfield 94, 3) := by decide +kernel
theorem dX7_undo_14 : decode cX7_undo 14 = .ok (.iconst 1, 1) := by decide +kernel
theorem dX7_undo_15 : decode cX7_undo 15 = .ok (.isub, 1) := by decide +kernel
theorem dX7_undo_16 : decode cX7_undo 16 = .ok (.putfield 94, 3) := by decide +kernel
theorem dX7_undo_19 : decode cX7_undo 19 = .ok (.aload_n 0, 1) := by decide +kernel
theorem dX7_undo_20 : decode cX7_undo 20 = .ok (.getfield 26, 3) := by decide +kernel
theorem dX7_undo_23 : decode cX7_undo 23 = .ok (.aload_n 0, 1) := by decide +kernel
theorem dX7_undo_24 : decode cX7_undo 24 = .ok (.getfield 94, 3) := by decide +kernel
theorem dX7_undo_27 : decode cX7_undo 27 = .ok (.iconst 0, 1) := by decide +kernel
theorem dX7_undo_28 : decode cX7_undo 28 = .ok (.iastore, 1) := by decide +kernel
theorem dX7_undo_29 : decode cX7_undo 29 = .ok (.iconst 0, 1) := by decide +kernel
theorem dX7_undo_30 : decode cX7_undo 30 = .ok (.istore_n 1, 1) := by decide +kernel
theorem dX7_undo_31 : decode cX7_undo 31 = .ok (.iload_n 1, 1) := by decide +kernel
theorem dX7_undo_32 : decode cX7_undo 32 = .ok (.aload_n 0, 1) := by decide +kernel
theorem dX7_undo_33 : decode cX7_undo 33 = .ok (.getfield 94, 3) := by decide +kernel
theorem dX7_undo_36 : decode cX7_undo 36 = .ok (.if_icmp .ge 26, 3) := by decide +kernel
theorem dX7_undo_39 : decode cX7_undo 39 = .ok (.aload_n 0, 1) := by decide +kernel
theorem dX7_undo_40 : decode cX7_undo 40 = .ok (.getfield 26, 3) := by decide +kernel
theorem dX7_undo_43 : decode cX7_undo 43 = .ok (.iload_n 1, 1) := by decide +kernel
theorem dX7_undo_44 : decode cX7_undo 44 = .ok (.dup2, 1) := by decide +kernel
theorem dX7_undo_45 : decode cX7_undo 45 = .ok (.iaload, 1) := by decide +kernel
theorem dX7_undo_46 : decode cX7_undo 46 = .ok (.iconst 1, 1) := by decide +kernel
theorem dX7_undo_47 : decode cX7_undo 47 = .ok (.aload_n 0, 1) := by decide +kernel
theorem dX7_undo_48 : decode cX7_undo 48 = .ok (.getfield 94, 3) := by decide +kernel
theorem dX7_undo_51 : decode cX7_undo 51 = .ok (.ishl, 1) := by decide +kernel
theorem dX7_undo_52 : decode cX7_undo 52 = .ok (.iconst (-1), 1) := by decide +kernel
theorem dX7_undo_53 : decode cX7_undo 53 = .ok (.ixor, 1) := by decide +kernel
theorem dX7_undo_54 : decode cX7_undo 54 = .ok (.iand, 1) := by decide +kernel
theorem dX7_undo_55 : decode cX7_undo 55 = .ok (.iastore, 1) := by decide +kernel
theorem dX7_undo_56 : decode cX7_undo 56 = .ok (.iinc 1 1, 3) := by decide +kernel
theorem dX7_undo_59 : decode cX7_undo 59 = .ok (.goto (-28), 3) := by decide +kernel
theorem dX7_undo_62 : decode cX7_undo 62 = .ok (.aload_n 0, 1) := by decide +kernel
theorem dX7_undo_63 : decode cX7_undo 63 = .ok (.invokevirtual 108, 3) := by decide +kernel
theorem dX7_undo_66 : decode cX7_undo 66 = .ok (.iconst 1, 1) := by decide +kernel
theorem dX7_undo_67 : decode cX7_undo 67 = .ok (.ireturn, 1) := by decide +kernel
theorem dX7_gap_0 : decode cX7_gap 0 = .ok (.iload_n 1, 1) := by decide +kernel
theorem dX7_gap_1 : decode cX7_gap 1 = .ok (.iconst 1, 1) := by decide +kernel
theorem dX7_gap_2 : decode cX7_gap 2 = .ok (.if_icmp .lt 9, 3) := by decide +kernel
theorem dX7_gap_5 : decode cX7_gap 5 = .ok (.iload_n 1, 1) := by decide +kernel
theorem dX7_gap_6 : decode cX7_gap 6 = .ok (.bipush 6, 2) := by decide +kernel
theorem dX7_gap_8 : decode cX7_gap 8 = .ok (.if_icmp .le 5, 3) := by decide +kernel
theorem dX7_gap_11 : decode cX7_gap 11 = .ok (.iconst 0, 1) := by decide +kernel
theorem dX7_gap_12 : decode cX7_gap 12 = .ok (.ireturn, 1) := by decide +kernel
theorem dX7_gap_13 : decode cX7_gap 13 = .ok (.aload_n 0, 1) := by decide +kernel
theorem dX7_gap_14 : decode cX7_gap 14 = .ok (.iload_n 1, 1) := by decide +kernel
theorem dX7_gap_15 : decode cX7_gap 15 = .ok (.putfield 22, 3) := by decide +kernel
theorem dX7_gap_18 : decode cX7_gap 18 = .ok (.aload_n 0, 1) := by decide +kernel
theorem dX7_gap_19 : decode cX7_gap 19 = .ok (.invokevirtual 108, 3) := by decide +kernel
theorem dX7_gap_22 : decode cX7_gap 22 = .ok (.iconst 1, 1) := by decide +kernel
theorem dX7_gap_23 : decode cX7_gap 23 = .ok (.ireturn, 1) := by decide +kernel
theorem dX7_meet_0 : decode cX7_meet 0 = .ok (.aload_n 0, 1) := by decide +kernel
theorem dX7_meet_1 : decode cX7_meet 1 = .ok (.iload_n 1, 1) := by decide +kernel
theorem dX7_meet_2 : decode cX7_meet 2 = .ok (.invokevirtual 111, 3) := by decide +kernel
theorem dX7_meet_5 : decode cX7_meet 5 = .ok (.ifCond .eq 30, 3) := by decide +kernel
theorem dX7_meet_8 : decode cX7_meet 8 = .ok (.aload_n 0, 1) := by decide +kernel
theorem dX7_meet_9 : decode cX7_meet 9 = .ok (.iload_n 2, 1) := by decide +kernel
theorem dX7_meet_10 : decode cX7_meet 10 = .ok (.invokevirtual 111, 3) := by decide +kernel
theorem dX7_meet_13 : decode cX7_meet 13 = .ok (.ifCond .eq 22, 3) := by decide +kernel
theorem dX7_meet_16 : decode cX7_meet 16 = .ok (.iload_n 1, 1) := by decide +kernel
theorem dX7_meet_17 : decode cX7_meet 17 = .ok (.iload_n 2, 1) := by decide +kernel
theorem dX7_meet_18 : decode cX7_meet 18 = .ok (.if_icmp .eq 17, 3) := by decide +kernel
theorem dX7_meet_21 : decode cX7_meet 21 = .ok (.aload_n 0, 1) := by decide +kernel
theorem dX7_meet_22 : decode cX7_meet 22 = .ok (.getfield 26, 3) := by decide +kernel
theorem dX7_meet_25 : decode cX7_meet 25 = .ok (.iload_n 1, 1) := by decide +kernel
theorem dX7_meet_26 : decode cX7_meet 26 = .ok (.iaload, 1) := by decide +kernel
theorem dX7_meet_27 : decode cX7_meet 27 = .ok (.iload_n 2, 1) := by decide +kernel
theorem dX7_meet_28 : decode cX7_meet 28 = .ok (.invokestatic 114, 3) := by decide +kernel
theorem dX7_meet_31 : decode cX7_meet 31 = .ok (.iload_n 3, 1) := by decide +kernel
theorem dX7_meet_32 : decode cX7_meet 32 = .ok (.if_icmp .ne 5, 3) := by decide +kernel
theorem dX7_meet_35 : decode cX7_meet 35 = .ok (.iconst 0, 1) := by decide +kernel
theorem dX7_meet_36 : decode cX7_meet 36 = .ok (.ireturn, 1) := by decide +kernel
theorem dX7_meet_37 : decode cX7_meet 37 = .ok (.aload_n 0, 1) := by decide +kernel
theorem dX7_meet_38 : decode cX7_meet 38 = .ok (.getfield 26, 3) := by decide +kernel
theorem dX7_meet_41 : decode cX7_meet 41 = .ok (.iload_n 1, 1) := by decide +kernel
theorem dX7_meet_42 : decode cX7_meet 42 = .ok (.dup2, 1) := by decide +kernel
theorem dX7_meet_43 : decode cX7_meet 43 = .ok (.iaload, 1) := by decide +kernel
theorem dX7_meet_44 : decode cX7_meet 44 = .ok (.iconst 1, 1) := by decide +kernel
theorem dX7_meet_45 : decode cX7_meet 45 = .ok (.iload_n 2, 1) := by decide +kernel
theorem dX7_meet_46 : decode cX7_meet 46 = .ok (.ishl, 1) := by decide +kernel
theorem dX7_meet_47 : decode cX7_meet 47 = .ok (.ixor, 1) := by decide +kernel
theorem dX7_meet_48 : decode cX7_meet 48 = .ok (.iastore, 1) := by decide +kernel
theorem dX7_meet_49 : decode cX7_meet 49 = .ok (.aload_n 0, 1) := by decide +kernel
theorem dX7_meet_50 : decode cX7_meet 50 = .ok (.getfield 26, 3) := by decide +kernel
theorem dX7_meet_53 : decode cX7_meet 53 = .ok (.iload_n 2, 1) := by decide +kernel
theorem dX7_meet_54 : decode cX7_meet 54 = .ok (.dup2, 1) := by decide +kernel
theorem dX7_meet_55 : decode cX7_meet 55 = .ok (.iaload, 1) := by decide +kernel
theorem dX7_meet_56 : decode cX7_meet 56 = .ok (.iconst 1, 1) := by decide +kernel
theorem dX7_meet_57 : decode cX7_meet 57 = .ok (.iload_n 1, 1) := by decide +kernel
theorem dX7_meet_58 : decode cX7_meet 58 = .ok (.ishl, 1) := by decide +kernel
theorem dX7_meet_59 : decode cX7_meet 59 = .ok (.ixor, 1) := by decide +kernel
theorem dX7_meet_60 : decode cX7_meet 60 = .ok (.iastore, 1) := by decide +kernel
theorem dX7_meet_61 : decode cX7_meet 61 = .ok (.aload_n 0, 1) := by decide +kernel
theorem dX7_meet_62 : decode cX7_meet 62 = .ok (.invokevirtual 108, 3) := by decide +kernel
theorem dX7_meet_65 : decode cX7_meet 65 = .ok (.iconst 1, 1) := by decide +kernel
theorem dX7_meet_66 : decode cX7_meet 66 = .ok (.ireturn, 1) := by decide +kernel
theorem dX7_apart_0 : decode cX7_apart 0 = .ok (.iload_n 1, 1) := by decide +kernel
theorem dX7_apart_1 : decode cX7_apart 1 = .ok (.invokestatic 117, 3) := by decide +kernel
theorem dX7_apart_4 : decode cX7_apart 4 = .ok (.ifCond .eq 32, 3) := by decide +kernel
theorem dX7_apart_7 : decode cX7_apart 7 = .ok (.iload_n 2, 1) := by decide +kernel
theorem dX7_apart_8 : decode cX7_apart 8 = .ok (.invokestatic 117, 3) := by decide +kernel
theorem dX7_apart_11 : decode cX7_apart 11 = .ok (.ifCond .eq 25, 3) := by decide +kernel
theorem dX7_apart_14 : decode cX7_apart 14 = .ok (.iload_n 1, 1) := by decide +kernel
theorem dX7_apart_15 : decode cX7_apart 15 = .ok (.iload_n 2, 1) := by decide +kernel
theorem dX7_apart_16 : decode cX7_apart 16 = .ok (.if_icmp .eq 20, 3) := by decide +kernel
theorem dX7_apart_19 : decode cX7_apart 19 = .ok (.aload_n 0, 1) := by decide +kernel
theorem dX7_apart_20 : decode cX7_apart 20 = .ok (.getfield 65, 3) := by decide +kernel
theorem dX7_apart_23 : decode cX7_apart 23 = .ok (.getfield 120, 3) := by decide +kernel
theorem dX7_apart_26 : decode cX7_apart 26 = .ok (.iload_n 1, 1) := by decide +kernel
theorem dX7_apart_27 : decode cX7_apart 27 = .ok (.iaload, 1) := by decide +kernel
theorem dX7_apart_28 : decode cX7_apart 28 = .ok (.iload_n 2, 1) := by decide +kernel
theorem dX7_apart_29 : decode cX7_apart 29 = .ok (.invokestatic 114, 3) := by decide +kernel
theorem dX7_apart_32 : decode cX7_apart 32 = .ok (.iload_n 3, 1) := by decide +kernel
theorem dX7_apart_33 : decode cX7_apart 33 = .ok (.if_icmp .ne 5, 3) := by decide +kernel
theorem dX7_apart_36 : decode cX7_apart 36 = .ok (.iconst 0, 1) := by decide +kernel
theorem dX7_apart_37 : decode cX7_apart 37 = .ok (.ireturn, 1) := by decide +kernel
theorem dX7_apart_38 : decode cX7_apart 38 = .ok (.aload_n 0, 1) := by decide +kernel
theorem dX7_apart_39 : decode cX7_apart 39 = .ok (.getfield 65, 3) := by decide +kernel
theorem dX7_apart_42 : decode cX7_apart 42 = .ok (.getfield 120, 3) := by decide +kernel
theorem dX7_apart_45 : decode cX7_apart 45 = .ok (.iload_n 1, 1) := by decide +kernel
theorem dX7_apart_46 : decode cX7_apart 46 = .ok (.dup2, 1) := by decide +kernel
theorem dX7_apart_47 : decode cX7_apart 47 = .ok (.iaload, 1) := by decide +kernel
theorem dX7_apart_48 : decode cX7_apart 48 = .ok (.iconst 1, 1) := by decide +kernel
theorem dX7_apart_49 : decode cX7_apart 49 = .ok (.iload_n 2, 1) := by decide +kernel
theorem dX7_apart_50 : decode cX7_apart 50 = .ok (.ishl, 1) := by decide +kernel
theorem dX7_apart_51 : decode cX7_apart 51 = .ok (.ixor, 1) := by decide +kernel
theorem dX7_apart_52 : decode cX7_apart 52 = .ok (.iastore, 1) := by decide +kernel
theorem dX7_apart_53 : decode cX7_apart 53 = .ok (.aload_n 0, 1) := by decide +kernel
theorem dX7_apart_54 : decode cX7_apart 54 = .ok (.getfield 65, 3) := by decide +kernel
theorem dX7_apart_57 : decode cX7_apart 57 = .ok (.getfield 120, 3) := by decide +kernel
theorem dX7_apart_60 : decode cX7_apart 60 = .ok (.iload_n 2, 1) := by decide +kernel
theorem dX7_apart_61 : decode cX7_apart 61 = .ok (.dup2, 1) := by decide +kernel
theorem dX7_apart_62 : decode cX7_apart 62 = .ok (.iaload, 1) := by decide +kernel
theorem dX7_apart_63 : decode cX7_apart 63 = .ok (.iconst 1, 1) := by decide +kernel
theorem dX7_apart_64 : decode cX7_apart 64 = .ok (.iload_n 1, 1) := by decide +kernel
theorem dX7_apart_65 : decode cX7_apart 65 = .ok (.ishl, 1) := by decide +kernel
theorem dX7_apart_66 : decode cX7_apart 66 = .ok (.ixor, 1) := by decide +kernel
theorem dX7_apart_67 : decode cX7_apart 67 = .ok (.iastore, 1) := by decide +kernel
theorem dX7_apart_68 : decode cX7_apart 68 = .ok (.aload_n 0, 1) := by decide +kernel
theorem dX7_apart_69 : decode cX7_apart 69 = .ok (.invokevirtual 108, 3) := by decide +kernel
theorem dX7_apart_72 : decode cX7_apart 72 = .ok (.iconst 1, 1) := by decide +kernel
theorem dX7_apart_73 : decode cX7_apart 73 = .ok (.ireturn, 1) := by decide +kernel
theorem dX7_price_0 : decode cX7_price 0 = .ok (.iload_n 1, 1) := by decide +kernel
theorem dX7_price_1 : decode cX7_price 1 = .ok (.invokestatic 117, 3) := by decide +kernel
theorem dX7_price_4 : decode cX7_price 4 = .ok (.ifCond .eq 13, 3) := by decide +kernel
theorem dX7_price_7 : decode cX7_price 7 = .ok (.iload_n 2, 1) := by decide +kernel
theorem dX7_price_8 : decode cX7_price 8 = .ok (.ifCond .lt 9, 3) := by decide +kernel
theorem dX7_price_11 : decode cX7_price 11 = .ok (.iload_n 2, 1) := by decide +kernel
theorem dX7_price_12 : decode cX7_price 12 = .ok (.bipush 99, 2) := by decide +kernel
theorem dX7_price_14 : decode cX7_price 14 = .ok (.if_icmp .le 5, 3) := by decide +kernel
theorem dX7_price_17 : decode cX7_price 17 = .ok (.iconst 0, 1) := by decide +kernel
theorem dX7_price_18 : decode cX7_price 18 = .ok (.ireturn, 1) := by decide +kernel
theorem dX7_price_19 : decode cX7_price 19 = .ok (.aload_n 0, 1) := by decide +kernel
theorem dX7_price_20 : decode cX7_price 20 = .ok (.getfield 65, 3) := by decide +kernel
theorem dX7_price_23 : decode cX7_price 23 = .ok (.getfield 123, 3) := by decide +kernel
theorem dX7_price_26 : decode cX7_price 26 = .ok (.iload_n 1, 1) := by decide +kernel
theorem dX7_price_27 : decode cX7_price 27 = .ok (.iload_n 2, 1) := by decide +kernel
theorem dX7_price_28 : decode cX7_price 28 = .ok (.iastore, 1) := by decide +kernel
theorem dX7_price_29 : decode cX7_price 29 = .ok (.aload_n 0, 1) := by decide +kernel
theorem dX7_price_30 : decode cX7_price 30 = .ok (.invokevirtual 108, 3) := by decide +kernel
theorem dX7_price_33 : decode cX7_price 33 = .ok (.iconst 1, 1) := by decide +kernel
theorem dX7_price_34 : decode cX7_price 34 = .ok (.ireturn, 1) := by decide +kernel
theorem dX7_look_0 : decode cX7_look 0 = .ok (.iload_n 1, 1) := by decide +kernel
theorem dX7_look_1 : decode cX7_look 1 = .ok (.tableswitch 42 0 2 #[27, 32, 37], 27) := by decide +kernel
theorem dX7_look_28 : decode cX7_look 28 = .ok (.aload_n 0, 1) := by decide +kernel
theorem dX7_look_29 : decode cX7_look 29 = .ok (.getfield 94, 3) := by decide +kernel
theorem dX7_look_32 : decode cX7_look 32 = .ok (.ireturn, 1) := by decide +kernel
theorem dX7_look_33 : decode cX7_look 33 = .ok (.aload_n 0, 1) := by decide +kernel
theorem dX7_look_34 : decode cX7_look 34 = .ok (.getfield 87, 3) := by decide +kernel
theorem dX7_look_37 : decode cX7_look 37 = .ok (.ireturn, 1) := by decide +kernel
theorem dX7_look_38 : decode cX7_look 38 = .ok (.aload_n 0, 1) := by decide +kernel
theorem dX7_look_39 : decode cX7_look 39 = .ok (.getfield 22, 3) := by decide +kernel
theorem dX7_look_42 : decode cX7_look 42 = .ok (.ireturn, 1) := by decide +kernel
theorem dX7_look_43 : decode cX7_look 43 = .ok (.iconst (-1), 1) := by decide +kernel
theorem dX7_look_44 : decode cX7_look 44 = .ok (.ireturn, 1) := by decide +kernel
theorem dX7_of_0 : decode cX7_of 0 = .ok (.aload_n 0, 1) := by decide +kernel
theorem dX7_of_1 : decode cX7_of 1 = .ok (.iload_n 1, 1) := by decide +kernel
theorem dX7_of_2 : decode cX7_of 2 = .ok (.invokevirtual 111, 3) := by decide +kernel
theorem dX7_of_5 : decode cX7_of 5 = .ok (.ifCond .ne 5, 3) := by decide +kernel
theorem dX7_of_8 : decode cX7_of 8 = .ok (.iconst (-1), 1) := by decide +kernel
theorem dX7_of_9 : decode cX7_of 9 = .ok (.ireturn, 1) := by decide +kernel
theorem dX7_of_10 : decode cX7_of 10 = .ok (.aload_n 0, 1) := by decide +kernel
theorem dX7_of_11 : decode cX7_of 11 = .ok (.getfield 11, 3) := by decide +kernel
theorem dX7_of_14 : decode cX7_of 14 = .ok (.iload_n 1, 1) := by decide +kernel
theorem dX7_of_15 : decode cX7_of 15 = .ok (.aaload, 1) := by decide +kernel
theorem dX7_of_16 : decode cX7_of 16 = .ok (.astore_n 3, 1) := by decide +kernel
theorem dX7_of_17 : decode cX7_of 17 = .ok (.iload_n 2, 1) := by decide +kernel
theorem dX7_of_18 : decode cX7_of 18 = .ok (.tableswitch 64 0 3 #[30, 35, 40, 48], 30) := by decide +kernel
theorem dX7_of_48 : decode cX7_of 48 = .ok (.aload_n 3, 1) := by decide +kernel
theorem dX7_of_49 : decode cX7_of 49 = .ok (.getfield 126, 3) := by decide +kernel
theorem dX7_of_52 : decode cX7_of 52 = .ok (.ireturn, 1) := by decide +kernel
theorem dX7_of_53 : decode cX7_of 53 = .ok (.aload_n 3, 1) := by decide +kernel
theorem dX7_of_54 : decode cX7_of 54 = .ok (.getfield 129, 3) := by decide +kernel
theorem dX7_of_57 : decode cX7_of 57 = .ok (.ireturn, 1) := by decide +kernel
theorem dX7_of_58 : decode cX7_of 58 = .ok (.aload_n 3, 1) := by decide +kernel
theorem dX7_of_59 : decode cX7_of 59 = .ok (.getfield 132, 3) := by decide +kernel
theorem dX7_of_62 : decode cX7_of 62 = .ok (.invokevirtual 135, 3) := by decide +kernel
theorem dX7_of_65 : decode cX7_of 65 = .ok (.ireturn, 1) := by decide +kernel
theorem dX7_of_66 : decode cX7_of 66 = .ok (.aload_n 3, 1) := by decide +kernel
theorem dX7_of_67 : decode cX7_of 67 = .ok (.getfield 126, 3) := by decide +kernel
theorem dX7_of_70 : decode cX7_of 70 = .ok (.ifCond .ne 10, 3) := by decide +kernel
theorem dX7_of_73 : decode cX7_of 73 = .ok (.aload_n 3, 1) := by decide +kernel
theorem dX7_of_74 : decode cX7_of 74 = .ok (.getfield 139, 3) := by decide +kernel
theorem dX7_of_77 : decode cX7_of 77 = .ok (.goto 4, 3) := by decide +kernel
theorem dX7_of_80 : decode cX7_of 80 = .ok (.iconst 0, 1) := by decide +kernel
theorem dX7_of_81 : decode cX7_of 81 = .ok (.ireturn, 1) := by decide +kernel
theorem dX7_of_82 : decode cX7_of 82 = .ok (.iload_n 2, 1) := by decide +kernel
theorem dX7_of_83 : decode cX7_of 83 = .ok (.bipush 10, 2) := by decide +kernel
theorem dX7_of_85 : decode cX7_of 85 = .ok (.if_icmp .ge 7, 3) := by decide +kernel
theorem dX7_of_88 : decode cX7_of 88 = .ok (.iconst (-1), 1) := by decide +kernel
theorem dX7_of_89 : decode cX7_of 89 = .ok (.goto 11, 3) := by decide +kernel
theorem dX7_of_92 : decode cX7_of 92 = .ok (.aload_n 3, 1) := by decide +kernel
theorem dX7_of_93 : decode cX7_of 93 = .ok (.iload_n 2, 1) := by decide +kernel
theorem dX7_of_94 : decode cX7_of 94 = .ok (.bipush 10, 2) := by decide +kernel
theorem dX7_of_96 : decode cX7_of 96 = .ok (.isub, 1) := by decide +kernel
theorem dX7_of_97 : decode cX7_of 97 = .ok (.invokevirtual 142, 3) := by decide +kernel
theorem dX7_of_100 : decode cX7_of 100 = .ok (.ireturn, 1) := by decide +kernel
theorem dX7_pin_0 : decode cX7_pin 0 = .ok (.aload_n 0, 1) := by decide +kernel
theorem dX7_pin_1 : decode cX7_pin 1 = .ok (.iload_n 1, 1) := by decide +kernel
theorem dX7_pin_2 : decode cX7_pin 2 = .ok (.invokevirtual 111, 3) := by decide +kernel
theorem dX7_pin_5 : decode cX7_pin 5 = .ok (.ifCond .eq 11, 3) := by decide +kernel
theorem dX7_pin_8 : decode cX7_pin 8 = .ok (.iload_n 2, 1) := by decide +kernel
theorem dX7_pin_9 : decode cX7_pin 9 = .ok (.iload_n 3, 1) := by decide +kernel
theorem dX7_pin_10 : decode cX7_pin 10 = .ok (.invokestatic 83, 3) := by decide +kernel
theorem dX7_pin_13 : decode cX7_pin 13 = .ok (.ifCond .ne 5, 3) := by decide +kernel
theorem dX7_pin_16 : decode cX7_pin 16 = .ok (.iconst (-1), 1) := by decide +kernel
theorem dX7_pin_17 : decode cX7_pin 17 = .ok (.ireturn, 1) := by decide +kernel
theorem dX7_pin_18 : decode cX7_pin 18 = .ok (.aload_n 0, 1) := by decide +kernel
theorem dX7_pin_19 : decode cX7_pin 19 = .ok (.getfield 11, 3) := by decide +kernel
theorem dX7_pin_22 : decode cX7_pin 22 = .ok (.iload_n 1, 1) := by decide +kernel
theorem dX7_pin_23 : decode cX7_pin 23 = .ok (.aaload, 1) := by decide +kernel
theorem dX7_pin_24 : decode cX7_pin 24 = .ok (.getfield 132, 3) := by decide +kernel
theorem dX7_pin_27 : decode cX7_pin 27 = .ok (.iload_n 2, 1) := by decide +kernel
theorem dX7_pin_28 : decode cX7_pin 28 = .ok (.iload_n 3, 1) := by decide +kernel
theorem dX7_pin_29 : decode cX7_pin 29 = .ok (.invokevirtual 146, 3) := by decide +kernel
theorem dX7_pin_32 : decode cX7_pin 32 = .ok (.ifCond .eq 7, 3) := by decide +kernel
theorem dX7_pin_35 : decode cX7_pin 35 = .ok (.iconst 1, 1) := by decide +kernel
theorem dX7_pin_36 : decode cX7_pin 36 = .ok (.goto 4, 3) := by decide +kernel
theorem dX7_pin_39 : decode cX7_pin 39 = .ok (.iconst 0, 1) := by decide +kernel
theorem dX7_pin_40 : decode cX7_pin 40 = .ok (.ireturn, 1) := by decide +kernel
theorem dX7_far_0 : decode cX7_far 0 = .ok (.aload_n 0, 1) := by decide +kernel
theorem dX7_far_1 : decode cX7_far 1 = .ok (.iload_n 1, 1) := by decide +kernel
theorem dX7_far_2 : decode cX7_far 2 = .ok (.invokevirtual 111, 3) := by decide +kernel
theorem dX7_far_5 : decode cX7_far 5 = .ok (.ifCond .eq 11, 3) := by decide +kernel
theorem dX7_far_8 : decode cX7_far 8 = .ok (.aload_n 0, 1) := by decide +kernel
theorem dX7_far_9 : decode cX7_far 9 = .ok (.iload_n 2, 1) := by decide +kernel
theorem dX7_far_10 : decode cX7_far 10 = .ok (.invokevirtual 111, 3) := by decide +kernel
theorem dX7_far_13 : decode cX7_far 13 = .ok (.ifCond .ne 5, 3) := by decide +kernel
theorem dX7_far_16 : decode cX7_far 16 = .ok (.iconst (-1), 1) := by decide +kernel
theorem dX7_far_17 : decode cX7_far 17 = .ok (.ireturn, 1) := by decide +kernel
theorem dX7_far_18 : decode cX7_far 18 = .ok (.aload_n 0, 1) := by decide +kernel
theorem dX7_far_19 : decode cX7_far 19 = .ok (.getfield 31, 3) := by decide +kernel
theorem dX7_far_22 : decode cX7_far 22 = .ok (.iload_n 1, 1) := by decide +kernel
theorem dX7_far_23 : decode cX7_far 23 = .ok (.aaload, 1) := by decide +kernel
theorem dX7_far_24 : decode cX7_far 24 = .ok (.iload_n 2, 1) := by decide +kernel
theorem dX7_far_25 : decode cX7_far 25 = .ok (.iaload, 1) := by decide +kernel
theorem dX7_far_26 : decode cX7_far 26 = .ok (.ireturn, 1) := by decide +kernel
theorem dX7_simple_0 : decode cX7_simple 0 = .ok (.aload_n 0, 1) := by decide +kernel
theorem dX7_simple_1 : decode cX7_simple 1 = .ok (.iload_n 1, 1) := by decide +kernel
theorem dX7_simple_2 : decode cX7_simple 2 = .ok (.iload_n 2, 1) := by decide +kernel
theorem dX7_simple_3 : decode cX7_simple 3 = .ok (.invokevirtual 149, 3) := by decide +kernel
theorem dX7_simple_6 : decode cX7_simple 6 = .ok (.ifCond .eq 12, 3) := by decide +kernel
theorem dX7_simple_9 : decode cX7_simple 9 = .ok (.iload_n 3, 1) := by decide +kernel
theorem dX7_simple_10 : decode cX7_simple 10 = .ok (.ifCond .lt 8, 3) := by decide +kernel
theorem dX7_simple_13 : decode cX7_simple 13 = .ok (.iload_n 3, 1) := by decide +kernel
theorem dX7_simple_14 : decode cX7_simple 14 = .ok (.iconst 1, 1) := by decide +kernel
theorem dX7_simple_15 : decode cX7_simple 15 = .ok (.if_icmp .le 5, 3) := by decide +kernel
theorem dX7_simple_18 : decode cX7_simple 18 = .ok (.iconst (-1), 1) := by decide +kernel
theorem dX7_simple_19 : decode cX7_simple 19 = .ok (.ireturn, 1) := by decide +kernel
theorem dX7_simple_20 : decode cX7_simple 20 = .ok (.aload_n 0, 1) := by decide +kernel
theorem dX7_simple_21 : decode cX7_simple 21 = .ok (.getfield 44, 3) := by decide +kernel
theorem dX7_simple_24 : decode cX7_simple 24 = .ok (.aload_n 0, 1) := by decide +kernel
theorem dX7_simple_25 : decode cX7_simple 25 = .ok (.getfield 11, 3) := by decide +kernel
theorem dX7_simple_28 : decode cX7_simple 28 = .ok (.iload_n 1, 1) := by decide +kernel
theorem dX7_simple_29 : decode cX7_simple 29 = .ok (.aaload, 1) := by decide +kernel
theorem dX7_simple_30 : decode cX7_simple 30 = .ok (.iload_n 2, 1) := by decide +kernel
theorem dX7_simple_31 : decode cX7_simple 31 = .ok (.invokevirtual 152, 3) := by decide +kernel
theorem dX7_simple_34 : decode cX7_simple 34 = .ok (.istore 4, 2) := by decide +kernel
theorem dX7_simple_36 : decode cX7_simple 36 = .ok (.iload_n 3, 1) := by decide +kernel
theorem dX7_simple_37 : decode cX7_simple 37 = .ok (.ifCond .ne 11, 3) := by decide +kernel
theorem dX7_simple_40 : decode cX7_simple 40 = .ok (.iload 4, 2) := by decide +kernel
theorem dX7_simple_42 : decode cX7_simple 42 = .ok (.invokestatic 156, 3) := by decide +kernel
theorem dX7_simple_45 : decode cX7_simple 45 = .ok (.goto 5, 3) := by decide +kernel
theorem dX7_simple_48 : decode cX7_simple 48 = .ok (.iload 4, 2) := by decide +kernel
theorem dX7_simple_50 : decode cX7_simple 50 = .ok (.ireturn, 1) := by decide +kernel
theorem dX7_simplify_0 : decode cX7_simplify 0 = .ok (.aload_n 0, 1) := by decide +kernel
theorem dX7_simplify_1 : decode cX7_simplify 1 = .ok (.iload_n 1, 1) := by decide +kernel
theorem dX7_simplify_2 : decode cX7_simplify 2 = .ok (.iload_n 2, 1) := by decide +kernel
theorem dX7_simplify_3 : decode cX7_simplify 3 = .ok (.invokevirtual 149, 3) := by decide +kernel
theorem dX7_simplify_6 : decode cX7_simplify 6 = .ok (.ifCond .ne 5, 3) := by decide +kernel
theorem dX7_simplify_9 : decode cX7_simplify 9 = .ok (.iconst (-1), 1) := by decide +kernel
theorem dX7_simplify_10 : decode cX7_simplify 10 = .ok (.ireturn, 1) := by decide +kernel
theorem dX7_simplify_11 : decode cX7_simplify 11 = .ok (.aload_n 0, 1) := by decide +kernel
theorem dX7_simplify_12 : decode cX7_simplify 12 = .ok (.getfield 11, 3) := by decide +kernel
theorem dX7_simplify_15 : decode cX7_simplify 15 = .ok (.iload_n 1, 1) := by decide +kernel
theorem dX7_simplify_16 : decode cX7_simplify 16 = .ok (.aaload, 1) := by decide +kernel
theorem dX7_simplify_17 : decode cX7_simplify 17 = .ok (.astore_n 3, 1) := by decide +kernel
theorem dX7_simplify_18 : decode cX7_simplify 18 = .ok (.aload_n 3, 1) := by decide +kernel
theorem dX7_simplify_19 : decode cX7_simplify 19 = .ok (.aload_n 0, 1) := by decide +kernel
theorem dX7_simplify_20 : decode cX7_simplify 20 = .ok (.getfield 44, 3) := by decide +kernel
theorem dX7_simplify_23 : decode cX7_simplify 23 = .ok (.aload_n 3, 1) := by decide +kernel
theorem dX7_simplify_24 : decode cX7_simplify 24 = .ok (.iload_n 2, 1) := by decide +kernel
theorem dX7_simplify_25 : decode cX7_simplify 25 = .ok (.invokevirtual 152, 3) := by decide +kernel
theorem dX7_simplify_28 : decode cX7_simplify 28 = .ok (.invokevirtual 161, 3) := by decide +kernel
theorem dX7_simplify_31 : decode cX7_simplify 31 = .ok (.aload_n 3, 1) := by decide +kernel
theorem dX7_simplify_32 : decode cX7_simplify 32 = .ok (.invokevirtual 165, 3) := by decide +kernel
theorem dX7_simplify_35 : decode cX7_simplify 35 = .ok (.aload_n 0, 1) := by decide +kernel
theorem dX7_simplify_36 : decode cX7_simplify 36 = .ok (.iload_n 1, 1) := by decide +kernel
theorem dX7_simplify_37 : decode cX7_simplify 37 = .ok (.invokevirtual 168, 3) := by decide +kernel
theorem dX7_simplify_40 : decode cX7_simplify 40 = .ok (.aload_n 0, 1) := by decide +kernel
theorem dX7_simplify_41 : decode cX7_simplify 41 = .ok (.invokevirtual 108, 3) := by decide +kernel
theorem dX7_simplify_44 : decode cX7_simplify 44 = .ok (.aload_n 3, 1) := by decide +kernel
theorem dX7_simplify_45 : decode cX7_simplify 45 = .ok (.getfield 139, 3) := by decide +kernel
theorem dX7_simplify_48 : decode cX7_simplify 48 = .ok (.ireturn, 1) := by decide +kernel
theorem dX7_kept_0 : decode cX7_kept 0 = .ok (.aload_n 0, 1) := by decide +kernel
theorem dX7_kept_1 : decode cX7_kept 1 = .ok (.invokevirtual 171, 3) := by decide +kernel
theorem dX7_kept_4 : decode cX7_kept 4 = .ok (.ireturn, 1) := by decide +kernel
theorem dX7_loss_0 : decode cX7_loss 0 = .ok (.aload_n 0, 1) := by decide +kernel
theorem dX7_loss_1 : decode cX7_loss 1 = .ok (.invokevirtual 171, 3) := by decide +kernel
theorem dX7_loss_4 : decode cX7_loss 4 = .ok (.istore_n 1, 1) := by decide +kernel
theorem dX7_loss_5 : decode cX7_loss 5 = .ok (.iconst 0, 1) := by decide +kernel
theorem dX7_loss_6 : decode cX7_loss 6 = .ok (.istore_n 2, 1) := by decide +kernel
theorem dX7_loss_7 : decode cX7_loss 7 = .ok (.iconst 0, 1) := by decide +kernel
theorem dX7_loss_8 : decode cX7_loss 8 = .ok (.istore_n 3, 1) := by decide +kernel
theorem dX7_loss_9 : decode cX7_loss 9 = .ok (.iload_n 3, 1) := by decide +kernel
theorem dX7_loss_10 : decode cX7_loss 10 = .ok (.aload_n 0, 1) := by decide +kernel
theorem dX7_loss_11 : decode cX7_loss 11 = .ok (.getfield 94, 3) := by decide +kernel
theorem dX7_loss_14 : decode cX7_loss 14 = .ok (.if_icmp .ge 33, 3) := by decide +kernel
theorem dX7_loss_17 : decode cX7_loss 17 = .ok (.iload_n 2, 1) := by decide +kernel
theorem dX7_loss_18 : decode cX7_loss 18 = .ok (.iload_n 1, 1) := by decide +kernel
theorem dX7_loss_19 : decode cX7_loss 19 = .ok (.iload_n 3, 1) := by decide +kernel
theorem dX7_loss_20 : decode cX7_loss 20 = .ok (.invokestatic 114, 3) := by decide +kernel
theorem dX7_loss_23 : decode cX7_loss 23 = .ok (.ifCond .eq 7, 3) := by decide +kernel
theorem dX7_loss_26 : decode cX7_loss 26 = .ok (.iconst 0, 1) := by decide +kernel
theorem dX7_loss_27 : decode cX7_loss 27 = .ok (.goto 12, 3) := by decide +kernel
theorem dX7_loss_30 : decode cX7_loss 30 = .ok (.aload_n 0, 1) := by decide +kernel
theorem dX7_loss_31 : decode cX7_loss 31 = .ok (.getfield 11, 3) := by decide +kernel
theorem dX7_loss_34 : decode cX7_loss 34 = .ok (.iload_n 3, 1) := by decide +kernel
theorem dX7_loss_35 : decode cX7_loss 35 = .ok (.aaload, 1) := by decide +kernel
theorem dX7_loss_36 : decode cX7_loss 36 = .ok (.getfield 129, 3) := by decide +kernel
theorem dX7_loss_39 : decode cX7_loss 39 = .ok (.iadd, 1) := by decide +kernel
theorem dX7_loss_40 : decode cX7_loss 40 = .ok (.istore_n 2, 1) := by decide +kernel
theorem dX7_loss_41 : decode cX7_loss 41 = .ok (.iinc 3 1, 3) := by decide +kernel
theorem dX7_loss_44 : decode cX7_loss 44 = .ok (.goto (-35), 3) := by decide +kernel
theorem dX7_loss_47 : decode cX7_loss 47 = .ok (.iload_n 2, 1) := by decide +kernel
theorem dX7_loss_48 : decode cX7_loss 48 = .ok (.ireturn, 1) := by decide +kernel
theorem dX7_sheets_0 : decode cX7_sheets 0 = .ok (.aload_n 0, 1) := by decide +kernel
theorem dX7_sheets_1 : decode cX7_sheets 1 = .ok (.invokevirtual 174, 3) := by decide +kernel
theorem dX7_sheets_4 : decode cX7_sheets 4 = .ok (.aload_n 0, 1) := by decide +kernel
theorem dX7_sheets_5 : decode cX7_sheets 5 = .ok (.getfield 58, 3) := by decide +kernel
theorem dX7_sheets_8 : decode cX7_sheets 8 = .ok (.getfield 177, 3) := by decide +kernel
theorem dX7_sheets_11 : decode cX7_sheets 11 = .ok (.ireturn, 1) := by decide +kernel
theorem dX7_sheet_0 : decode cX7_sheet 0 = .ok (.aload_n 0, 1) := by decide +kernel
theorem dX7_sheet_1 : decode cX7_sheet 1 = .ok (.iload_n 1, 1) := by decide +kernel
theorem dX7_sheet_2 : decode cX7_sheet 2 = .ok (.invokevirtual 111, 3) := by decide +kernel
theorem dX7_sheet_5 : decode cX7_sheet 5 = .ok (.ifCond .ne 5, 3) := by decide +kernel
theorem dX7_sheet_8 : decode cX7_sheet 8 = .ok (.iconst (-1), 1) := by decide +kernel
theorem dX7_sheet_9 : decode cX7_sheet 9 = .ok (.ireturn, 1) := by decide +kernel
theorem dX7_sheet_10 : decode cX7_sheet 10 = .ok (.aload_n 0, 1) := by decide +kernel
theorem dX7_sheet_11 : decode cX7_sheet 11 = .ok (.invokevirtual 174, 3) := by decide +kernel
theorem dX7_sheet_14 : decode cX7_sheet 14 = .ok (.aload_n 0, 1) := by decide +kernel
theorem dX7_sheet_15 : decode cX7_sheet 15 = .ok (.getfield 58, 3) := by decide +kernel
theorem dX7_sheet_18 : decode cX7_sheet 18 = .ok (.getfield 180, 3) := by decide +kernel
theorem dX7_sheet_21 : decode cX7_sheet 21 = .ok (.iload_n 1, 1) := by decide +kernel
theorem dX7_sheet_22 : decode cX7_sheet 22 = .ok (.iaload, 1) := by decide +kernel
theorem dX7_sheet_23 : decode cX7_sheet 23 = .ok (.ireturn, 1) := by decide +kernel
theorem dX7_texture_0 : decode cX7_texture 0 = .ok (.aload_n 0, 1) := by decide +kernel
theorem dX7_texture_1 : decode cX7_texture 1 = .ok (.iload_n 1, 1) := by decide +kernel
theorem dX7_texture_2 : decode cX7_texture 2 = .ok (.invokevirtual 111, 3) := by decide +kernel
theorem dX7_texture_5 : decode cX7_texture 5 = .ok (.ifCond .ne 5, 3) := by decide +kernel
theorem dX7_texture_8 : decode cX7_texture 8 = .ok (.iconst (-1), 1) := by decide +kernel
theorem dX7_texture_9 : decode cX7_texture 9 = .ok (.ireturn, 1) := by decide +kernel
theorem dX7_texture_10 : decode cX7_texture 10 = .ok (.aload_n 0, 1) := by decide +kernel
theorem dX7_texture_11 : decode cX7_texture 11 = .ok (.invokevirtual 183, 3) := by decide +kernel
theorem dX7_texture_14 : decode cX7_texture 14 = .ok (.aload_n 0, 1) := by decide +kernel
theorem dX7_texture_15 : decode cX7_texture 15 = .ok (.getfield 65, 3) := by decide +kernel
theorem dX7_texture_18 : decode cX7_texture 18 = .ok (.iload_n 1, 1) := by decide +kernel
theorem dX7_texture_19 : decode cX7_texture 19 = .ok (.invokevirtual 186, 3) := by decide +kernel
theorem dX7_texture_22 : decode cX7_texture 22 = .ok (.ireturn, 1) := by decide +kernel
theorem dX7_cost_0 : decode cX7_cost 0 = .ok (.aload_n 0, 1) := by decide +kernel
theorem dX7_cost_1 : decode cX7_cost 1 = .ok (.invokevirtual 183, 3) := by decide +kernel
theorem dX7_cost_4 : decode cX7_cost 4 = .ok (.aload_n 0, 1) := by decide +kernel
theorem dX7_cost_5 : decode cX7_cost 5 = .ok (.getfield 65, 3) := by decide +kernel
theorem dX7_cost_8 : decode cX7_cost 8 = .ok (.invokevirtual 189, 3) := by decide +kernel
theorem dX7_cost_11 : decode cX7_cost 11 = .ok (.ireturn, 1) := by decide +kernel
theorem dX7_print_0 : decode cX7_print 0 = .ok (.iload_n 1, 1) := by decide +kernel
theorem dX7_print_1 : decode cX7_print 1 = .ok (.ifCond .lt 13, 3) := by decide +kernel
theorem dX7_print_4 : decode cX7_print 4 = .ok (.iload_n 1, 1) := by decide +kernel
theorem dX7_print_5 : decode cX7_print 5 = .ok (.iconst 1, 1) := by decide +kernel
theorem dX7_print_6 : decode cX7_print 6 = .ok (.aload_n 0, 1) := by decide +kernel
theorem dX7_print_7 : decode cX7_print 7 = .ok (.getfield 94, 3) := by decide +kernel
theorem dX7_print_10 : decode cX7_print 10 = .ok (.ishl, 1) := by decide +kernel
theorem dX7_print_11 : decode cX7_print 11 = .ok (.if_icmp .lt 5, 3) := by decide +kernel
theorem dX7_print_14 : decode cX7_print 14 = .ok (.iconst (-1), 1) := by decide +kernel
theorem dX7_print_15 : decode cX7_print 15 = .ok (.ireturn, 1) := by decide +kernel
theorem dX7_print_16 : decode cX7_print 16 = .ok (.aload_n 0, 1) := by decide +kernel
theorem dX7_print_17 : decode cX7_print 17 = .ok (.invokevirtual 183, 3) := by decide +kernel
theorem dX7_print_20 : decode cX7_print 20 = .ok (.aload_n 0, 1) := by decide +kernel
theorem dX7_print_21 : decode cX7_print 21 = .ok (.getfield 72, 3) := by decide +kernel
theorem dX7_print_24 : decode cX7_print 24 = .ok (.invokevirtual 192, 3) := by decide +kernel
theorem dX7_print_27 : decode cX7_print 27 = .ok (.iconst 0, 1) := by decide +kernel
theorem dX7_print_28 : decode cX7_print 28 = .ok (.istore_n 2, 1) := by decide +kernel
theorem dX7_print_29 : decode cX7_print 29 = .ok (.iload_n 2, 1) := by decide +kernel
theorem dX7_print_30 : decode cX7_print 30 = .ok (.aload_n 0, 1) := by decide +kernel
theorem dX7_print_31 : decode cX7_print 31 = .ok (.getfield 94, 3) := by decide +kernel
theorem dX7_print_34 : decode cX7_print 34 = .ok (.if_icmp .ge 35, 3) := by decide +kernel
theorem dX7_print_37 : decode cX7_print 37 = .ok (.iload_n 1, 1) := by decide +kernel
theorem dX7_print_38 : decode cX7_print 38 = .ok (.iload_n 2, 1) := by decide +kernel
theorem dX7_print_39 : decode cX7_print 39 = .ok (.invokestatic 114, 3) := by decide +kernel
theorem dX7_print_42 : decode cX7_print 42 = .ok (.ifCond .eq 21, 3) := by decide +kernel
theorem dX7_print_45 : decode cX7_print 45 = .ok (.aload_n 0, 1) := by decide +kernel
theorem dX7_print_46 : decode cX7_print 46 = .ok (.aload_n 0, 1) := by decide +kernel
theorem dX7_print_47 : decode cX7_print 47 = .ok (.getfield 11, 3) := by decide +kernel
theorem dX7_print_50 : decode cX7_print 50 = .ok (.iload_n 2, 1) := by decide +kernel
theorem dX7_print_51 : decode cX7_print 51 = .ok (.aaload, 1) := by decide +kernel
theorem dX7_print_52 : decode cX7_print 52 = .ok (.aload_n 0, 1) := by decide +kernel
theorem dX7_print_53 : decode cX7_print 53 = .ok (.getfield 65, 3) := by decide +kernel
theorem dX7_print_56 : decode cX7_print 56 = .ok (.iload_n 2, 1) := by decide +kernel
theorem dX7_print_57 : decode cX7_print 57 = .ok (.invokevirtual 186, 3) := by decide +kernel
theorem dX7_print_60 : decode cX7_print 60 = .ok (.invokevirtual 195, 3) := by decide +kernel
theorem dX7_print_63 : decode cX7_print 63 = .ok (.iinc 2 1, 3) := by decide +kernel
theorem dX7_print_66 : decode cX7_print 66 = .ok (.goto (-37), 3) := by decide +kernel
theorem dX7_print_69 : decode cX7_print 69 = .ok (.aload_n 0, 1) := by decide +kernel
theorem dX7_print_70 : decode cX7_print 70 = .ok (.getfield 78, 3) := by decide +kernel
theorem dX7_print_73 : decode cX7_print 73 = .ok (.aload_n 0, 1) := by decide +kernel
theorem dX7_print_74 : decode cX7_print 74 = .ok (.getfield 72, 3) := by decide +kernel
theorem dX7_print_77 : decode cX7_print 77 = .ok (.invokevirtual 199, 3) := by decide +kernel
theorem dX7_print_80 : decode cX7_print 80 = .ok (.aload_n 0, 1) := by decide +kernel
theorem dX7_print_81 : decode cX7_print 81 = .ok (.getfield 72, 3) := by decide +kernel
theorem dX7_print_84 : decode cX7_print 84 = .ok (.invokevirtual 135, 3) := by decide +kernel
theorem dX7_print_87 : decode cX7_print 87 = .ok (.ireturn, 1) := by decide +kernel
theorem dX7_up_0 : decode cX7_up 0 = .ok (.iload_n 1, 1) := by decide +kernel
theorem dX7_up_1 : decode cX7_up 1 = .ok (.iload_n 2, 1) := by decide +kernel
theorem dX7_up_2 : decode cX7_up 2 = .ok (.invokestatic 83, 3) := by decide +kernel
theorem dX7_up_5 : decode cX7_up 5 = .ok (.ifCond .ne 5, 3) := by decide +kernel
theorem dX7_up_8 : decode cX7_up 8 = .ok (.iconst (-1), 1) := by decide +kernel
theorem dX7_up_9 : decode cX7_up 9 = .ok (.ireturn, 1) := by decide +kernel
theorem dX7_up_10 : decode cX7_up 10 = .ok (.aload_n 0, 1) := by decide +kernel
theorem dX7_up_11 : decode cX7_up 11 = .ok (.getfield 72, 3) := by decide +kernel
theorem dX7_up_14 : decode cX7_up 14 = .ok (.iload_n 1, 1) := by decide +kernel
theorem dX7_up_15 : decode cX7_up 15 = .ok (.iload_n 2, 1) := by decide +kernel
theorem dX7_up_16 : decode cX7_up 16 = .ok (.invokevirtual 146, 3) := by decide +kernel
theorem dX7_up_19 : decode cX7_up 19 = .ok (.ifCond .eq 7, 3) := by decide +kernel
theorem dX7_up_22 : decode cX7_up 22 = .ok (.iconst 1, 1) := by decide +kernel
theorem dX7_up_23 : decode cX7_up 23 = .ok (.goto 4, 3) := by decide +kernel
theorem dX7_up_26 : decode cX7_up 26 = .ok (.iconst 0, 1) := by decide +kernel
theorem dX7_up_27 : decode cX7_up 27 = .ok (.ireturn, 1) := by decide +kernel
theorem dX7_things_0 : decode cX7_things 0 = .ok (.aload_n 0, 1) := by decide +kernel
theorem dX7_things_1 : decode cX7_things 1 = .ok (.getfield 78, 3) := by decide +kernel
theorem dX7_things_4 : decode cX7_things 4 = .ok (.getfield 203, 3) := by decide +kernel
theorem dX7_things_7 : decode cX7_things 7 = .ok (.ireturn, 1) := by decide +kernel
theorem dX7_thing_0 : decode cX7_thing 0 = .ok (.iload_n 1, 1) := by decide +kernel
theorem dX7_thing_1 : decode cX7_thing 1 = .ok (.ifCond .lt 24, 3) := by decide +kernel
theorem dX7_thing_4 : decode cX7_thing 4 = .ok (.iload_n 1, 1) := by decide +kernel
theorem dX7_thing_5 : decode cX7_thing 5 = .ok (.aload_n 0, 1) := by decide +kernel
theorem dX7_thing_6 : decode cX7_thing 6 = .ok (.getfield 78, 3) := by decide +kernel
theorem dX7_thing_9 : decode cX7_thing 9 = .ok (.getfield 203, 3) := by decide +kernel
theorem dX7_thing_12 : decode cX7_thing 12 = .ok (.if_icmp .ge 13, 3) := by decide +kernel
theorem dX7_thing_15 : decode cX7_thing 15 = .ok (.iload_n 2, 1) := by decide +kernel
theorem dX7_thing_16 : decode cX7_thing 16 = .ok (.ifCond .lt 9, 3) := by decide +kernel
theorem dX7_thing_19 : decode cX7_thing 19 = .ok (.iload_n 2, 1) := by decide +kernel
theorem dX7_thing_20 : decode cX7_thing 20 = .ok (.bipush 6, 2) := by decide +kernel
theorem dX7_thing_22 : decode cX7_thing 22 = .ok (.if_icmp .lt 5, 3) := by decide +kernel
theorem dX7_thing_25 : decode cX7_thing 25 = .ok (.iconst (-1), 1) := by decide +kernel
theorem dX7_thing_26 : decode cX7_thing 26 = .ok (.ireturn, 1) := by decide +kernel
theorem dX7_thing_27 : decode cX7_thing 27 = .ok (.aload_n 0, 1) := by decide +kernel
theorem dX7_thing_28 : decode cX7_thing 28 = .ok (.getfield 78, 3) := by decide +kernel
theorem dX7_thing_31 : decode cX7_thing 31 = .ok (.getfield 206, 3) := by decide +kernel
theorem dX7_thing_34 : decode cX7_thing 34 = .ok (.iload_n 1, 1) := by decide +kernel
