theorem dX4_walk_25 : decode cX4_walk 25 = .ok (.istore_n 3, 1) := by decide +kernel
theorem dX4_walk_26 : decode cX4_walk 26 = .ok (.iload_n 2, 1) := by decide +kernel
theorem dX4_walk_27 : decode cX4_walk 27 = .ok (.iconst 1, 1) := by decide +kernel
theorem dX4_walk_28 : decode cX4_walk 28 = .ok (.iload_n 3, 1) := by decide +kernel
theorem dX4_walk_29 : decode cX4_walk 29 = .ok (.ishl, 1) := by decide +kernel
theorem dX4_walk_30 : decode cX4_walk 30 = .ok (.ior, 1) := by decide +kernel
theorem dX4_walk_31 : decode cX4_walk 31 = .ok (.istore_n 2, 1) := by decide +kernel
theorem dX4_walk_32 : decode cX4_walk 32 = .ok (.iinc 4 1, 3) := by decide +kernel
theorem dX4_walk_35 : decode cX4_walk 35 = .ok (.goto (-28), 3) := by decide +kernel
theorem dX4_walk_38 : decode cX4_walk 38 = .ok (.iload_n 2, 1) := by decide +kernel
theorem dX4_walk_39 : decode cX4_walk 39 = .ok (.ireturn, 1) := by decide +kernel
theorem dX4_canStep_0 : decode cX4_canStep 0 = .ok (.iload_n 1, 1) := by decide +kernel
theorem dX4_canStep_1 : decode cX4_canStep 1 = .ok (.iconst 1, 1) := by decide +kernel
theorem dX4_canStep_2 : decode cX4_canStep 2 = .ok (.iadd, 1) := by decide +kernel
theorem dX4_canStep_3 : decode cX4_canStep 3 = .ok (.istore 4, 2) := by decide +kernel
theorem dX4_canStep_5 : decode cX4_canStep 5 = .ok (.iload 4, 2) := by decide +kernel
theorem dX4_canStep_7 : decode cX4_canStep 7 = .ok (.iload_n 2, 1) := by decide +kernel
theorem dX4_canStep_8 : decode cX4_canStep 8 = .ok (.if_icmp .ge 23, 3) := by decide +kernel
theorem dX4_canStep_11 : decode cX4_canStep 11 = .ok (.aload_n 0, 1) := by decide +kernel
theorem dX4_canStep_12 : decode cX4_canStep 12 = .ok (.iload 4, 2) := by decide +kernel
theorem dX4_canStep_14 : decode cX4_canStep 14 = .ok (.iload_n 1, 1) := by decide +kernel
theorem dX4_canStep_15 : decode cX4_canStep 15 = .ok (.iload_n 2, 1) := by decide +kernel
theorem dX4_canStep_16 : decode cX4_canStep 16 = .ok (.iload_n 3, 1) := by decide +kernel
theorem dX4_canStep_17 : decode cX4_canStep 17 = .ok (.invokestatic 32, 3) := by decide +kernel
theorem dX4_canStep_20 : decode cX4_canStep 20 = .ok (.ifCond .ne 5, 3) := by decide +kernel
theorem dX4_canStep_23 : decode cX4_canStep 23 = .ok (.iconst 0, 1) := by decide +kernel
theorem dX4_canStep_24 : decode cX4_canStep 24 = .ok (.ireturn, 1) := by decide +kernel
theorem dX4_canStep_25 : decode cX4_canStep 25 = .ok (.iinc 4 1, 3) := by decide +kernel
theorem dX4_canStep_28 : decode cX4_canStep 28 = .ok (.goto (-23), 3) := by decide +kernel
theorem dX4_canStep_31 : decode cX4_canStep 31 = .ok (.iconst 1, 1) := by decide +kernel
theorem dX4_canStep_32 : decode cX4_canStep 32 = .ok (.ireturn, 1) := by decide +kernel
theorem dX4_isWithin_0 : decode cX4_isWithin 0 = .ok (.aload_n 0, 1) := by decide +kernel
theorem dX4_isWithin_1 : decode cX4_isWithin 1 = .ok (.getfield 36, 3) := by decide +kernel
theorem dX4_isWithin_4 : decode cX4_isWithin 4 = .ok (.iload_n 3, 1) := by decide +kernel
theorem dX4_isWithin_5 : decode cX4_isWithin 5 = .ok (.iaload, 1) := by decide +kernel
theorem dX4_isWithin_6 : decode cX4_isWithin 6 = .ok (.aload_n 0, 1) := by decide +kernel
theorem dX4_isWithin_7 : decode cX4_isWithin 7 = .ok (.getfield 36, 3) := by decide +kernel
theorem dX4_isWithin_10 : decode cX4_isWithin 10 = .ok (.iload_n 2, 1) := by decide +kernel
theorem dX4_isWithin_11 : decode cX4_isWithin 11 = .ok (.iaload, 1) := by decide +kernel
theorem dX4_isWithin_12 : decode cX4_isWithin 12 = .ok (.isub, 1) := by decide +kernel
theorem dX4_isWithin_13 : decode cX4_isWithin 13 = .ok (.istore 5, 2) := by decide +kernel
theorem dX4_isWithin_15 : decode cX4_isWithin 15 = .ok (.aload_n 0, 1) := by decide +kernel
theorem dX4_isWithin_16 : decode cX4_isWithin 16 = .ok (.getfield 39, 3) := by decide +kernel
theorem dX4_isWithin_19 : decode cX4_isWithin 19 = .ok (.iload_n 3, 1) := by decide +kernel
theorem dX4_isWithin_20 : decode cX4_isWithin 20 = .ok (.iaload, 1) := by decide +kernel
theorem dX4_isWithin_21 : decode cX4_isWithin 21 = .ok (.aload_n 0, 1) := by decide +kernel
theorem dX4_isWithin_22 : decode cX4_isWithin 22 = .ok (.getfield 39, 3) := by decide +kernel
theorem dX4_isWithin_25 : decode cX4_isWithin 25 = .ok (.iload_n 2, 1) := by decide +kernel
theorem dX4_isWithin_26 : decode cX4_isWithin 26 = .ok (.iaload, 1) := by decide +kernel
theorem dX4_isWithin_27 : decode cX4_isWithin 27 = .ok (.isub, 1) := by decide +kernel
theorem dX4_isWithin_28 : decode cX4_isWithin 28 = .ok (.istore 6, 2) := by decide +kernel
theorem dX4_isWithin_30 : decode cX4_isWithin 30 = .ok (.aload_n 0, 1) := by decide +kernel
theorem dX4_isWithin_31 : decode cX4_isWithin 31 = .ok (.getfield 36, 3) := by decide +kernel
theorem dX4_isWithin_34 : decode cX4_isWithin 34 = .ok (.iload_n 1, 1) := by decide +kernel
theorem dX4_isWithin_35 : decode cX4_isWithin 35 = .ok (.iaload, 1) := by decide +kernel
theorem dX4_isWithin_36 : decode cX4_isWithin 36 = .ok (.aload_n 0, 1) := by decide +kernel
theorem dX4_isWithin_37 : decode cX4_isWithin 37 = .ok (.getfield 36, 3) := by decide +kernel
theorem dX4_isWithin_40 : decode cX4_isWithin 40 = .ok (.iload_n 2, 1) := by decide +kernel
theorem dX4_isWithin_41 : decode cX4_isWithin 41 = .ok (.iaload, 1) := by decide +kernel
theorem dX4_isWithin_42 : decode cX4_isWithin 42 = .ok (.isub, 1) := by decide +kernel
theorem dX4_isWithin_43 : decode cX4_isWithin 43 = .ok (.istore 7, 2) := by decide +kernel
theorem dX4_isWithin_45 : decode cX4_isWithin 45 = .ok (.aload_n 0, 1) := by decide +kernel
theorem dX4_isWithin_46 : decode cX4_isWithin 46 = .ok (.getfield 39, 3) := by decide +kernel
theorem dX4_isWithin_49 : decode cX4_isWithin 49 = .ok (.iload_n 1, 1) := by decide +kernel
theorem dX4_isWithin_50 : decode cX4_isWithin 50 = .ok (.iaload, 1) := by decide +kernel
theorem dX4_isWithin_51 : decode cX4_isWithin 51 = .ok (.aload_n 0, 1) := by decide +kernel
theorem dX4_isWithin_52 : decode cX4_isWithin 52 = .ok (.getfield 39, 3) := by decide +kernel
theorem dX4_isWithin_55 : decode cX4_isWithin 55 = .ok (.iload_n 2, 1) := by decide +kernel
theorem dX4_isWithin_56 : decode cX4_isWithin 56 = .ok (.iaload, 1) := by decide +kernel
theorem dX4_isWithin_57 : decode cX4_isWithin 57 = .ok (.isub, 1) := by decide +kernel
theorem dX4_isWithin_58 : decode cX4_isWithin 58 = .ok (.istore 8, 2) := by decide +kernel
theorem dX4_isWithin_60 : decode cX4_isWithin 60 = .ok (.iload 5, 2) := by decide +kernel
theorem dX4_isWithin_62 : decode cX4_isWithin 62 = .ok (.iload 5, 2) := by decide +kernel
theorem dX4_isWithin_64 : decode cX4_isWithin 64 = .ok (.imul, 1) := by decide +kernel
theorem dX4_isWithin_65 : decode cX4_isWithin 65 = .ok (.iload 6, 2) := by decide +kernel
theorem dX4_isWithin_67 : decode cX4_isWithin 67 = .ok (.iload 6, 2) := by decide +kernel
theorem dX4_isWithin_69 : decode cX4_isWithin 69 = .ok (.imul, 1) := by decide +kernel
theorem dX4_isWithin_70 : decode cX4_isWithin 70 = .ok (.iadd, 1) := by decide +kernel
theorem dX4_isWithin_71 : decode cX4_isWithin 71 = .ok (.istore 9, 2) := by decide +kernel
theorem dX4_isWithin_73 : decode cX4_isWithin 73 = .ok (.iload 7, 2) := by decide +kernel
theorem dX4_isWithin_75 : decode cX4_isWithin 75 = .ok (.iload 5, 2) := by decide +kernel
theorem dX4_isWithin_77 : decode cX4_isWithin 77 = .ok (.imul, 1) := by decide +kernel
theorem dX4_isWithin_78 : decode cX4_isWithin 78 = .ok (.iload 8, 2) := by decide +kernel
theorem dX4_isWithin_80 : decode cX4_isWithin 80 = .ok (.iload 6, 2) := by decide +kernel
theorem dX4_isWithin_82 : decode cX4_isWithin 82 = .ok (.imul, 1) := by decide +kernel
theorem dX4_isWithin_83 : decode cX4_isWithin 83 = .ok (.iadd, 1) := by decide +kernel
theorem dX4_isWithin_84 : decode cX4_isWithin 84 = .ok (.istore 10, 2) := by decide +kernel
theorem dX4_isWithin_86 : decode cX4_isWithin 86 = .ok (.iload 4, 2) := by decide +kernel
theorem dX4_isWithin_88 : decode cX4_isWithin 88 = .ok (.iload 4, 2) := by decide +kernel
theorem dX4_isWithin_90 : decode cX4_isWithin 90 = .ok (.imul, 1) := by decide +kernel
theorem dX4_isWithin_91 : decode cX4_isWithin 91 = .ok (.istore 11, 2) := by decide +kernel
theorem dX4_isWithin_93 : decode cX4_isWithin 93 = .ok (.iload 10, 2) := by decide +kernel
theorem dX4_isWithin_95 : decode cX4_isWithin 95 = .ok (.ifCond .gt 25, 3) := by decide +kernel
theorem dX4_isWithin_98 : decode cX4_isWithin 98 = .ok (.iload 7, 2) := by decide +kernel
theorem dX4_isWithin_100 : decode cX4_isWithin 100 = .ok (.iload 7, 2) := by decide +kernel
theorem dX4_isWithin_102 : decode cX4_isWithin 102 = .ok (.imul, 1) := by decide +kernel
theorem dX4_isWithin_103 : decode cX4_isWithin 103 = .ok (.iload 8, 2) := by decide +kernel
theorem dX4_isWithin_105 : decode cX4_isWithin 105 = .ok (.iload 8, 2) := by decide +kernel
theorem dX4_isWithin_107 : decode cX4_isWithin 107 = .ok (.imul, 1) := by decide +kernel
theorem dX4_isWithin_108 : decode cX4_isWithin 108 = .ok (.iadd, 1) := by decide +kernel
theorem dX4_isWithin_109 : decode cX4_isWithin 109 = .ok (.iload 11, 2) := by decide +kernel
theorem dX4_isWithin_111 : decode cX4_isWithin 111 = .ok (.if_icmp .gt 7, 3) := by decide +kernel
theorem dX4_isWithin_114 : decode cX4_isWithin 114 = .ok (.iconst 1, 1) := by decide +kernel
theorem dX4_isWithin_115 : decode cX4_isWithin 115 = .ok (.goto 4, 3) := by decide +kernel
theorem dX4_isWithin_118 : decode cX4_isWithin 118 = .ok (.iconst 0, 1) := by decide +kernel
theorem dX4_isWithin_119 : decode cX4_isWithin 119 = .ok (.ireturn, 1) := by decide +kernel
theorem dX4_isWithin_120 : decode cX4_isWithin 120 = .ok (.iload 10, 2) := by decide +kernel
theorem dX4_isWithin_122 : decode cX4_isWithin 122 = .ok (.iload 9, 2) := by decide +kernel
theorem dX4_isWithin_124 : decode cX4_isWithin 124 = .ok (.if_icmp .lt 39, 3) := by decide +kernel
theorem dX4_isWithin_127 : decode cX4_isWithin 127 = .ok (.iload 7, 2) := by decide +kernel
theorem dX4_isWithin_129 : decode cX4_isWithin 129 = .ok (.iload 5, 2) := by decide +kernel
theorem dX4_isWithin_131 : decode cX4_isWithin 131 = .ok (.isub, 1) := by decide +kernel
theorem dX4_isWithin_132 : decode cX4_isWithin 132 = .ok (.istore 12, 2) := by decide +kernel
theorem dX4_isWithin_134 : decode cX4_isWithin 134 = .ok (.iload 8, 2) := by decide +kernel
theorem dX4_isWithin_136 : decode cX4_isWithin 136 = .ok (.iload 6, 2) := by decide +kernel
theorem dX4_isWithin_138 : decode cX4_isWithin 138 = .ok (.isub, 1) := by decide +kernel
theorem dX4_isWithin_139 : decode cX4_isWithin 139 = .ok (.istore 13, 2) := by decide +kernel
theorem dX4_isWithin_141 : decode cX4_isWithin 141 = .ok (.iload 12, 2) := by decide +kernel
theorem dX4_isWithin_143 : decode cX4_isWithin 143 = .ok (.iload 12, 2) := by decide +kernel
theorem dX4_isWithin_145 : decode cX4_isWithin 145 = .ok (.imul, 1) := by decide +kernel
theorem dX4_isWithin_146 : decode cX4_isWithin 146 = .ok (.iload 13, 2) := by decide +kernel
theorem dX4_isWithin_148 : decode cX4_isWithin 148 = .ok (.iload 13, 2) := by decide +kernel
theorem dX4_isWithin_150 : decode cX4_isWithin 150 = .ok (.imul, 1) := by decide +kernel
theorem dX4_isWithin_151 : decode cX4_isWithin 151 = .ok (.iadd, 1) := by decide +kernel
theorem dX4_isWithin_152 : decode cX4_isWithin 152 = .ok (.iload 11, 2) := by decide +kernel
theorem dX4_isWithin_154 : decode cX4_isWithin 154 = .ok (.if_icmp .gt 7, 3) := by decide +kernel
theorem dX4_isWithin_157 : decode cX4_isWithin 157 = .ok (.iconst 1, 1) := by decide +kernel
theorem dX4_isWithin_158 : decode cX4_isWithin 158 = .ok (.goto 4, 3) := by decide +kernel
theorem dX4_isWithin_161 : decode cX4_isWithin 161 = .ok (.iconst 0, 1) := by decide +kernel
theorem dX4_isWithin_162 : decode cX4_isWithin 162 = .ok (.ireturn, 1) := by decide +kernel
theorem dX4_isWithin_163 : decode cX4_isWithin 163 = .ok (.iload 7, 2) := by decide +kernel
theorem dX4_isWithin_165 : decode cX4_isWithin 165 = .ok (.iload 6, 2) := by decide +kernel
theorem dX4_isWithin_167 : decode cX4_isWithin 167 = .ok (.imul, 1) := by decide +kernel
theorem dX4_isWithin_168 : decode cX4_isWithin 168 = .ok (.iload 8, 2) := by decide +kernel
theorem dX4_isWithin_170 : decode cX4_isWithin 170 = .ok (.iload 5, 2) := by decide +kernel
theorem dX4_isWithin_172 : decode cX4_isWithin 172 = .ok (.imul, 1) := by decide +kernel
theorem dX4_isWithin_173 : decode cX4_isWithin 173 = .ok (.isub, 1) := by decide +kernel
theorem dX4_isWithin_174 : decode cX4_isWithin 174 = .ok (.istore 12, 2) := by decide +kernel
theorem dX4_isWithin_176 : decode cX4_isWithin 176 = .ok (.iload 12, 2) := by decide +kernel
theorem dX4_isWithin_178 : decode cX4_isWithin 178 = .ok (.iload 12, 2) := by decide +kernel
theorem dX4_isWithin_180 : decode cX4_isWithin 180 = .ok (.imul, 1) := by decide +kernel
theorem dX4_isWithin_181 : decode cX4_isWithin 181 = .ok (.iload 11, 2) := by decide +kernel
theorem dX4_isWithin_183 : decode cX4_isWithin 183 = .ok (.iload 9, 2) := by decide +kernel
theorem dX4_isWithin_185 : decode cX4_isWithin 185 = .ok (.imul, 1) := by decide +kernel
theorem dX4_isWithin_186 : decode cX4_isWithin 186 = .ok (.if_icmp .gt 7, 3) := by decide +kernel
theorem dX4_isWithin_189 : decode cX4_isWithin 189 = .ok (.iconst 1, 1) := by decide +kernel
theorem dX4_isWithin_190 : decode cX4_isWithin 190 = .ok (.goto 4, 3) := by decide +kernel
theorem dX4_isWithin_193 : decode cX4_isWithin 193 = .ok (.iconst 0, 1) := by decide +kernel
theorem dX4_isWithin_194 : decode cX4_isWithin 194 = .ok (.ireturn, 1) := by decide +kernel
theorem dX5_init_0 : decode cX5_init 0 = .ok (.aload_n 0, 1) := by decide +kernel
theorem dX5_init_1 : decode cX5_init 1 = .ok (.invokespecial 3, 3) := by decide +kernel
theorem dX5_init_4 : decode cX5_init 4 = .ok (.aload_n 0, 1) := by decide +kernel
theorem dX5_init_5 : decode cX5_init 5 = .ok (.bipush 12, 2) := by decide +kernel
theorem dX5_init_7 : decode cX5_init 7 = .ok (.newarray .int, 2) := by decide +kernel
theorem dX5_init_9 : decode cX5_init 9 = .ok (.putfield 9, 3) := by decide +kernel
theorem dX5_init_12 : decode cX5_init 12 = .ok (.aload_n 0, 1) := by decide +kernel
theorem dX5_init_13 : decode cX5_init 13 = .ok (.bipush 12, 2) := by decide +kernel
theorem dX5_init_15 : decode cX5_init 15 = .ok (.newarray .int, 2) := by decide +kernel
theorem dX5_init_17 : decode cX5_init 17 = .ok (.putfield 15, 3) := by decide +kernel
theorem dX5_init_20 : decode cX5_init 20 = .ok (.aload_n 0, 1) := by decide +kernel
theorem dX5_init_21 : decode cX5_init 21 = .ok (.bipush 12, 2) := by decide +kernel
theorem dX5_init_23 : decode cX5_init 23 = .ok (.newarray .int, 2) := by decide +kernel
theorem dX5_init_25 : decode cX5_init 25 = .ok (.putfield 18, 3) := by decide +kernel
theorem dX5_init_28 : decode cX5_init 28 = .ok (.aload_n 0, 1) := by decide +kernel
theorem dX5_init_29 : decode cX5_init 29 = .ok (.bipush 12, 2) := by decide +kernel
theorem dX5_init_31 : decode cX5_init 31 = .ok (.newarray .int, 2) := by decide +kernel
theorem dX5_init_33 : decode cX5_init 33 = .ok (.putfield 21, 3) := by decide +kernel
theorem dX5_init_36 : decode cX5_init 36 = .ok (.return_, 1) := by decide +kernel
theorem dX5_lay_0 : decode cX5_lay 0 = .ok (.iconst 0, 1) := by decide +kernel
theorem dX5_lay_1 : decode cX5_lay 1 = .ok (.istore_n 3, 1) := by decide +kernel
theorem dX5_lay_2 : decode cX5_lay 2 = .ok (.iload_n 3, 1) := by decide +kernel
theorem dX5_lay_3 : decode cX5_lay 3 = .ok (.iload_n 2, 1) := by decide +kernel
theorem dX5_lay_4 : decode cX5_lay 4 = .ok (.if_icmp .ge 27, 3) := by decide +kernel
theorem dX5_lay_7 : decode cX5_lay 7 = .ok (.aload_n 0, 1) := by decide +kernel
theorem dX5_lay_8 : decode cX5_lay 8 = .ok (.getfield 15, 3) := by decide +kernel
theorem dX5_lay_11 : decode cX5_lay 11 = .ok (.iload_n 3, 1) := by decide +kernel
theorem dX5_lay_12 : decode cX5_lay 12 = .ok (.aload_n 1, 1) := by decide +kernel
theorem dX5_lay_13 : decode cX5_lay 13 = .ok (.iload_n 3, 1) := by decide +kernel
theorem dX5_lay_14 : decode cX5_lay 14 = .ok (.iaload, 1) := by decide +kernel
theorem dX5_lay_15 : decode cX5_lay 15 = .ok (.iconst (-1), 1) := by decide +kernel
theorem dX5_lay_16 : decode cX5_lay 16 = .ok (.ixor, 1) := by decide +kernel
theorem dX5_lay_17 : decode cX5_lay 17 = .ok (.iastore, 1) := by decide +kernel
theorem dX5_lay_18 : decode cX5_lay 18 = .ok (.aload_n 0, 1) := by decide +kernel
theorem dX5_lay_19 : decode cX5_lay 19 = .ok (.getfield 18, 3) := by decide +kernel
theorem dX5_lay_22 : decode cX5_lay 22 = .ok (.iload_n 3, 1) := by decide +kernel
theorem dX5_lay_23 : decode cX5_lay 23 = .ok (.iconst 1, 1) := by decide +kernel
theorem dX5_lay_24 : decode cX5_lay 24 = .ok (.iastore, 1) := by decide +kernel
theorem dX5_lay_25 : decode cX5_lay 25 = .ok (.iinc 3 1, 3) := by decide +kernel
theorem dX5_lay_28 : decode cX5_lay 28 = .ok (.goto (-26), 3) := by decide +kernel
theorem dX5_lay_31 : decode cX5_lay 31 = .ok (.iload_n 2, 1) := by decide +kernel
theorem dX5_lay_32 : decode cX5_lay 32 = .ok (.iconst 1, 1) := by decide +kernel
theorem dX5_lay_33 : decode cX5_lay 33 = .ok (.iload_n 2, 1) := by decide +kernel
theorem dX5_lay_34 : decode cX5_lay 34 = .ok (.ishl, 1) := by decide +kernel
theorem dX5_lay_35 : decode cX5_lay 35 = .ok (.iconst 1, 1) := by decide +kernel
theorem dX5_lay_36 : decode cX5_lay 36 = .ok (.isub, 1) := by decide +kernel
theorem dX5_lay_37 : decode cX5_lay 37 = .ok (.aload_n 0, 1) := by decide +kernel
theorem dX5_lay_38 : decode cX5_lay 38 = .ok (.getfield 15, 3) := by decide +kernel
theorem dX5_lay_41 : decode cX5_lay 41 = .ok (.aload_n 0, 1) := by decide +kernel
theorem dX5_lay_42 : decode cX5_lay 42 = .ok (.getfield 18, 3) := by decide +kernel
theorem dX5_lay_45 : decode cX5_lay 45 = .ok (.invokestatic 24, 3) := by decide +kernel
theorem dX5_lay_48 : decode cX5_lay 48 = .ok (.istore_n 3, 1) := by decide +kernel
theorem dX5_lay_49 : decode cX5_lay 49 = .ok (.iload_n 3, 1) := by decide +kernel
theorem dX5_lay_50 : decode cX5_lay 50 = .ok (.istore 4, 2) := by decide +kernel
theorem dX5_lay_52 : decode cX5_lay 52 = .ok (.iload 4, 2) := by decide +kernel
theorem dX5_lay_54 : decode cX5_lay 54 = .ok (.iload_n 2, 1) := by decide +kernel
theorem dX5_lay_55 : decode cX5_lay 55 = .ok (.if_icmp .gt 27, 3) := by decide +kernel
theorem dX5_lay_58 : decode cX5_lay 58 = .ok (.aload_n 0, 1) := by decide +kernel
theorem dX5_lay_59 : decode cX5_lay 59 = .ok (.iload 4, 2) := by decide +kernel
theorem dX5_lay_61 : decode cX5_lay 61 = .ok (.aload_n 1, 1) := by decide +kernel
theorem dX5_lay_62 : decode cX5_lay 62 = .ok (.iload_n 2, 1) := by decide +kernel
theorem dX5_lay_63 : decode cX5_lay 63 = .ok (.invokevirtual 28, 3) := by decide +kernel
theorem dX5_lay_66 : decode cX5_lay 66 = .ok (.ifCond .eq 10, 3) := by decide +kernel
theorem dX5_lay_69 : decode cX5_lay 69 = .ok (.aload_n 0, 1) := by decide +kernel
theorem dX5_lay_70 : decode cX5_lay 70 = .ok (.iload 4, 2) := by decide +kernel
theorem dX5_lay_72 : decode cX5_lay 72 = .ok (.putfield 32, 3) := by decide +kernel
theorem dX5_lay_75 : decode cX5_lay 75 = .ok (.return_, 1) := by decide +kernel
theorem dX5_lay_76 : decode cX5_lay 76 = .ok (.iinc 4 1, 3) := by decide +kernel
theorem dX5_lay_79 : decode cX5_lay 79 = .ok (.goto (-27), 3) := by decide +kernel
theorem dX5_lay_82 : decode cX5_lay 82 = .ok (.return_, 1) := by decide +kernel
theorem dX5_layOn_0 : decode cX5_layOn 0 = .ok (.iconst 0, 1) := by decide +kernel
theorem dX5_layOn_1 : decode cX5_layOn 1 = .ok (.istore 4, 2) := by decide +kernel
theorem dX5_layOn_3 : decode cX5_layOn 3 = .ok (.iload 4, 2) := by decide +kernel
theorem dX5_layOn_5 : decode cX5_layOn 5 = .ok (.iload_n 1, 1) := by decide +kernel
theorem dX5_layOn_6 : decode cX5_layOn 6 = .ok (.if_icmp .ge 17, 3) := by decide +kernel
theorem dX5_layOn_9 : decode cX5_layOn 9 = .ok (.aload_n 0, 1) := by decide +kernel
theorem dX5_layOn_10 : decode cX5_layOn 10 = .ok (.getfield 9, 3) := by decide +kernel
theorem dX5_layOn_13 : decode cX5_layOn 13 = .ok (.iload 4, 2) := by decide +kernel
theorem dX5_layOn_15 : decode cX5_layOn 15 = .ok (.iconst 0, 1) := by decide +kernel
theorem dX5_layOn_16 : decode cX5_layOn 16 = .ok (.iastore, 1) := by decide +kernel
theorem dX5_layOn_17 : decode cX5_layOn 17 = .ok (.iinc 4 1, 3) := by decide +kernel
theorem dX5_layOn_20 : decode cX5_layOn 20 = .ok (.goto (-17), 3) := by decide +kernel
theorem dX5_layOn_23 : decode cX5_layOn 23 = .ok (.aload_n 0, 1) := by decide +kernel
theorem dX5_layOn_24 : decode cX5_layOn 24 = .ok (.iconst 0, 1) := by decide +kernel
theorem dX5_layOn_25 : decode cX5_layOn 25 = .ok (.iconst 0, 1) := by decide +kernel
theorem dX5_layOn_26 : decode cX5_layOn 26 = .ok (.iload_n 1, 1) := by decide +kernel
theorem dX5_layOn_27 : decode cX5_layOn 27 = .ok (.aload_n 2, 1) := by decide +kernel
theorem dX5_layOn_28 : decode cX5_layOn 28 = .ok (.iload_n 3, 1) := by decide +kernel
theorem dX5_layOn_29 : decode cX5_layOn 29 = .ok (.invokevirtual 36, 3) := by decide +kernel
theorem dX5_layOn_32 : decode cX5_layOn 32 = .ok (.ireturn, 1) := by decide +kernel
theorem dX5_place_0 : decode cX5_place 0 = .ok (.iload_n 1, 1) := by decide +kernel
theorem dX5_place_1 : decode cX5_place 1 = .ok (.iload 5, 2) := by decide +kernel
theorem dX5_place_3 : decode cX5_place 3 = .ok (.if_icmp .lt 5, 3) := by decide +kernel
theorem dX5_place_6 : decode cX5_place 6 = .ok (.iconst 1, 1) := by decide +kernel
theorem dX5_place_7 : decode cX5_place 7 = .ok (.ireturn, 1) := by decide +kernel
theorem dX5_place_8 : decode cX5_place 8 = .ok (.iconst 0, 1) := by decide +kernel
theorem dX5_place_9 : decode cX5_place 9 = .ok (.istore 6, 2) := by decide +kernel
theorem dX5_place_11 : decode cX5_place 11 = .ok (.iload 6, 2) := by decide +kernel
theorem dX5_place_13 : decode cX5_place 13 = .ok (.iload_n 2, 1) := by decide +kernel
theorem dX5_place_14 : decode cX5_place 14 = .ok (.if_icmp .gt 117, 3) := by decide +kernel
theorem dX5_place_17 : decode cX5_place 17 = .ok (.iload 6, 2) := by decide +kernel
theorem dX5_place_19 : decode cX5_place 19 = .ok (.iload_n 3, 1) := by decide +kernel
theorem dX5_place_20 : decode cX5_place 20 = .ok (.if_icmp .ge 111, 3) := by decide +kernel
theorem dX5_place_23 : decode cX5_place 23 = .ok (.aload_n 0, 1) := by decide +kernel
theorem dX5_place_24 : decode cX5_place 24 = .ok (.getfield 9, 3) := by decide +kernel
theorem dX5_place_27 : decode cX5_place 27 = .ok (.iload 6, 2) := by decide +kernel
theorem dX5_place_29 : decode cX5_place 29 = .ok (.iaload, 1) := by decide +kernel
theorem dX5_place_30 : decode cX5_place 30 = .ok (.aload 4, 2) := by decide +kernel
theorem dX5_place_32 : decode cX5_place 32 = .ok (.iload_n 1, 1) := by decide +kernel
theorem dX5_place_33 : decode cX5_place 33 = .ok (.iaload, 1) := by decide +kernel
theorem dX5_place_34 : decode cX5_place 34 = .ok (.iand, 1) := by decide +kernel
theorem dX5_place_35 : decode cX5_place 35 = .ok (.ifCond .eq 6, 3) := by decide +kernel
theorem dX5_place_38 : decode cX5_place 38 = .ok (.goto 87, 3) := by decide +kernel
theorem dX5_place_41 : decode cX5_place 41 = .ok (.aload_n 0, 1) := by decide +kernel
theorem dX5_place_42 : decode cX5_place 42 = .ok (.getfield 9, 3) := by decide +kernel
theorem dX5_place_45 : decode cX5_place 45 = .ok (.iload 6, 2) := by decide +kernel
theorem dX5_place_47 : decode cX5_place 47 = .ok (.dup2, 1) := by decide +kernel
theorem dX5_place_48 : decode cX5_place 48 = .ok (.iaload, 1) := by decide +kernel
theorem dX5_place_49 : decode cX5_place 49 = .ok (.iconst 1, 1) := by decide +kernel
theorem dX5_place_50 : decode cX5_place 50 = .ok (.iload_n 1, 1) := by decide +kernel
theorem dX5_place_51 : decode cX5_place 51 = .ok (.ishl, 1) := by decide +kernel
theorem dX5_place_52 : decode cX5_place 52 = .ok (.ior, 1) := by decide +kernel
theorem dX5_place_53 : decode cX5_place 53 = .ok (.iastore, 1) := by decide +kernel
theorem dX5_place_54 : decode cX5_place 54 = .ok (.aload_n 0, 1) := by decide +kernel
theorem dX5_place_55 : decode cX5_place 55 = .ok (.getfield 21, 3) := by decide +kernel
theorem dX5_place_58 : decode cX5_place 58 = .ok (.iload_n 1, 1) := by decide +kernel
theorem dX5_place_59 : decode cX5_place 59 = .ok (.iload 6, 2) := by decide +kernel
theorem dX5_place_61 : decode cX5_place 61 = .ok (.iastore, 1) := by decide +kernel
theorem dX5_place_62 : decode cX5_place 62 = .ok (.aload_n 0, 1) := by decide +kernel
theorem dX5_place_63 : decode cX5_place 63 = .ok (.iload_n 1, 1) := by decide +kernel
theorem dX5_place_64 : decode cX5_place 64 = .ok (.iconst 1, 1) := by decide +kernel
theorem dX5_place_65 : decode cX5_place 65 = .ok (.iadd, 1) := by decide +kernel
theorem dX5_place_66 : decode cX5_place 66 = .ok (.iload_n 2, 1) := by decide +kernel
theorem dX5_place_67 : decode cX5_place 67 = .ok (.iload 6, 2) := by decide +kernel
theorem dX5_place_69 : decode cX5_place 69 = .ok (.iconst 1, 1) := by decide +kernel
theorem dX5_place_70 : decode cX5_place 70 = .ok (.iadd, 1) := by decide +kernel
theorem dX5_place_71 : decode cX5_place 71 = .ok (.invokestatic 40, 3) := by decide +kernel
theorem dX5_place_74 : decode cX5_place 74 = .ok (.iload_n 3, 1) := by decide +kernel
theorem dX5_place_75 : decode cX5_place 75 = .ok (.aload 4, 2) := by decide +kernel
theorem dX5_place_77 : decode cX5_place 77 = .ok (.iload 5, 2) := by decide +kernel
theorem dX5_place_79 : decode cX5_place 79 = .ok (.invokevirtual 36, 3) := by decide +kernel
theorem dX5_place_82 : decode cX5_place 82 = .ok (.ifCond .eq 5, 3) := by decide +kernel
theorem dX5_place_85 : decode cX5_place 85 = .ok (.iconst 1, 1) := by decide +kernel
theorem dX5_place_86 : decode cX5_place 86 = .ok (.ireturn, 1) := by decide +kernel
theorem dX5_place_87 : decode cX5_place 87 = .ok (.aload_n 0, 1) := by decide +kernel
theorem dX5_place_88 : decode cX5_place 88 = .ok (.getfield 9, 3) := by decide +kernel
theorem dX5_place_91 : decode cX5_place 91 = .ok (.iload 6, 2) := by decide +kernel
theorem dX5_place_93 : decode cX5_place 93 = .ok (.dup2, 1) := by decide +kernel
theorem dX5_place_94 : decode cX5_place 94 = .ok (.iaload, 1) := by decide +kernel
theorem dX5_place_95 : decode cX5_place 95 = .ok (.iconst 1, 1) := by decide +kernel
theorem dX5_place_96 : decode cX5_place 96 = .ok (.iload_n 1, 1) := by decide +kernel
theorem dX5_place_97 : decode cX5_place 97 = .ok (.ishl, 1) := by decide +kernel
theorem dX5_place_98 : decode cX5_place 98 = .ok (.iconst (-1), 1) := by decide +kernel
theorem dX5_place_99 : decode cX5_place 99 = .ok (.ixor, 1) := by decide +kernel
theorem dX5_place_100 : decode cX5_place 100 = .ok (.iand, 1) := by decide +kernel
theorem dX5_place_101 : decode cX5_place 101 = .ok (.iastore, 1) := by decide +kernel
theorem dX5_place_102 : decode cX5_place 102 = .ok (.aload 4, 2) := by decide +kernel
theorem dX5_place_104 : decode cX5_place 104 = .ok (.iload_n 1, 1) := by decide +kernel
theorem dX5_place_105 : decode cX5_place 105 = .ok (.iaload, 1) := by decide +kernel
theorem dX5_place_106 : decode cX5_place 106 = .ok (.iload_n 1, 1) := by decide +kernel
theorem dX5_place_107 : decode cX5_place 107 = .ok (.ishr, 1) := by decide +kernel
theorem dX5_place_108 : decode cX5_place 108 = .ok (.ifCond .ne 7, 3) := by decide +kernel
theorem dX5_place_111 : decode cX5_place 111 = .ok (.iconst 1, 1) := by decide +kernel
theorem dX5_place_112 : decode cX5_place 112 = .ok (.goto 4, 3) := by decide +kernel
theorem dX5_place_115 : decode cX5_place 115 = .ok (.iconst 0, 1) := by decide +kernel
theorem dX5_place_116 : decode cX5_place 116 = .ok (.istore 7, 2) := by decide +kernel
theorem dX5_place_118 : decode cX5_place 118 = .ok (.iload 7, 2) := by decide +kernel
theorem dX5_place_120 : decode cX5_place 120 = .ok (.ifCond .eq 5, 3) := by decide +kernel
theorem dX5_place_123 : decode cX5_place 123 = .ok (.iconst 0, 1) := by decide +kernel
theorem dX5_place_124 : decode cX5_place 124 = .ok (.ireturn, 1) := by decide +kernel
theorem dX5_place_125 : decode cX5_place 125 = .ok (.iinc 6 1, 3) := by decide +kernel
theorem dX5_place_128 : decode cX5_place 128 = .ok (.goto (-117), 3) := by decide +kernel
theorem dX5_place_131 : decode cX5_place 131 = .ok (.iconst 0, 1) := by decide +kernel
theorem dX5_place_132 : decode cX5_place 132 = .ok (.ireturn, 1) := by decide +kernel
theorem dX6_init_0 : decode cX6_init 0 = .ok (.aload_n 0, 1) := by decide +kernel
theorem dX6_init_1 : decode cX6_init 1 = .ok (.invokespecial 5, 3) := by decide +kernel
theorem dX6_init_4 : decode cX6_init 4 = .ok (.aload_n 0, 1) := by decide +kernel
theorem dX6_init_5 : decode cX6_init 5 = .ok (.iconst 4, 1) := by decide +kernel
theorem dX6_init_6 : decode cX6_init 6 = .ok (.newarray .int, 2) := by decide +kernel
theorem dX6_init_8 : decode cX6_init 8 = .ok (.putfield 11, 3) := by decide +kernel
theorem dX6_init_11 : decode cX6_init 11 = .ok (.aload_n 0, 1) := by decide +kernel
theorem dX6_init_12 : decode cX6_init 12 = .ok (.iconst 4, 1) := by decide +kernel
theorem dX6_init_13 : decode cX6_init 13 = .ok (.newarray .int, 2) := by decide +kernel
theorem dX6_init_15 : decode cX6_init 15 = .ok (.putfield 15, 3) := by decide +kernel
theorem dX6_init_18 : decode cX6_init 18 = .ok (.aload_n 0, 1) := by decide +kernel
theorem dX6_init_19 : decode cX6_init 19 = .ok (.bipush 12, 2) := by decide +kernel
theorem dX6_init_21 : decode cX6_init 21 = .ok (.newarray .int, 2) := by decide +kernel
theorem dX6_init_23 : decode cX6_init 23 = .ok (.putfield 18, 3) := by decide +kernel
theorem dX6_init_26 : decode cX6_init 26 = .ok (.aload_n 0, 1) := by decide +kernel
theorem dX6_init_27 : decode cX6_init 27 = .ok (.iconst 4, 1) := by decide +kernel
theorem dX6_init_28 : decode cX6_init 28 = .ok (.newarray .int, 2) := by decide +kernel
theorem dX6_init_30 : decode cX6_init 30 = .ok (.putfield 21, 3) := by decide +kernel
theorem dX6_init_33 : decode cX6_init 33 = .ok (.aload_n 0, 1) := by decide +kernel
theorem dX6_init_34 : decode cX6_init 34 = .ok (.bipush 16, 2) := by decide +kernel
theorem dX6_init_36 : decode cX6_init 36 = .ok (.newarray .int, 2) := by decide +kernel
theorem dX6_init_38 : decode cX6_init 38 = .ok (.putfield 24, 3) := by decide +kernel
theorem dX6_init_41 : decode cX6_init 41 = .ok (.aload_n 0, 1) := by decide +kernel
theorem dX6_init_42 : decode cX6_init 42 = .ok (.iconst 4, 1) := by decide +kernel
theorem dX6_init_43 : decode cX6_init 43 = .ok (.newarray .int, 2) := by decide +kernel
theorem dX6_init_45 : decode cX6_init 45 = .ok (.putfield 27, 3) := by decide +kernel
theorem dX6_init_48 : decode cX6_init 48 = .ok (.aload_n 0, 1) := by decide +kernel
theorem dX6_init_49 : decode cX6_init 49 = .ok (.bipush 13, 2) := by decide +kernel
theorem dX6_init_51 : decode cX6_init 51 = .ok (.bipush 12, 2) := by decide +kernel
theorem dX6_init_53 : decode cX6_init 53 = .ok (.multianewarray 30 2, 4) := by decide +kernel
theorem dX6_init_57 : decode cX6_init 57 = .ok (.putfield 32, 3) := by decide +kernel
theorem dX6_init_60 : decode cX6_init 60 = .ok (.iconst 0, 1) := by decide +kernel
theorem dX6_init_61 : decode cX6_init 61 = .ok (.istore_n 1, 1) := by decide +kernel
theorem dX6_init_62 : decode cX6_init 62 = .ok (.iload_n 1, 1) := by decide +kernel
theorem dX6_init_63 : decode cX6_init 63 = .ok (.iconst 4, 1) := by decide +kernel
theorem dX6_init_64 : decode cX6_init 64 = .ok (.if_icmp .ge 30, 3) := by decide +kernel
theorem dX6_init_67 : decode cX6_init 67 = .ok (.aload_n 0, 1) := by decide +kernel
theorem dX6_init_68 : decode cX6_init 68 = .ok (.getfield 11, 3) := by decide +kernel
theorem dX6_init_71 : decode cX6_init 71 = .ok (.iload_n 1, 1) := by decide +kernel
theorem dX6_init_72 : decode cX6_init 72 = .ok (.bipush 15, 2) := by decide +kernel
theorem dX6_init_74 : decode cX6_init 74 = .ok (.iconst 1, 1) := by decide +kernel
theorem dX6_init_75 : decode cX6_init 75 = .ok (.iload_n 1, 1) := by decide +kernel
theorem dX6_init_76 : decode cX6_init 76 = .ok (.ishl, 1) := by decide +kernel
theorem dX6_init_77 : decode cX6_init 77 = .ok (.iconst (-1), 1) := by decide +kernel
theorem dX6_init_78 : decode cX6_init 78 = .ok (.ixor, 1) := by decide +kernel
theorem dX6_init_79 : decode cX6_init 79 = .ok (.iand, 1) := by decide +kernel
theorem dX6_init_80 : decode cX6_init 80 = .ok (.iastore, 1) := by decide +kernel
theorem dX6_init_81 : decode cX6_init 81 = .ok (.aload_n 0, 1) := by decide +kernel
theorem dX6_init_82 : decode cX6_init 82 = .ok (.getfield 15, 3) := by decide +kernel
theorem dX6_init_85 : decode cX6_init 85 = .ok (.iload_n 1, 1) := by decide +kernel
theorem dX6_init_86 : decode cX6_init 86 = .ok (.iload_n 1, 1) := by decide +kernel
theorem dX6_init_87 : decode cX6_init 87 = .ok (.iastore, 1) := by decide +kernel
theorem dX6_init_88 : decode cX6_init 88 = .ok (.iinc 1 1, 3) := by decide +kernel
theorem dX6_init_91 : decode cX6_init 91 = .ok (.goto (-29), 3) := by decide +kernel
theorem dX6_init_94 : decode cX6_init 94 = .ok (.return_, 1) := by decide +kernel
theorem dX6_giveTextures_0 : decode cX6_giveTextures 0 = .ok (.aload_n 0, 1) := by decide +kernel
theorem dX6_giveTextures_1 : decode cX6_giveTextures 1 = .ok (.iload_n 1, 1) := by decide +kernel
theorem dX6_giveTextures_2 : decode cX6_giveTextures 2 = .ok (.putfield 35, 3) := by decide +kernel
theorem dX6_giveTextures_5 : decode cX6_giveTextures 5 = .ok (.aload_n 0, 1) := by decide +kernel
theorem dX6_giveTextures_6 : decode cX6_giveTextures 6 = .ok (.invokevirtual 39, 3) := by decide +kernel
theorem dX6_giveTextures_9 : decode cX6_giveTextures 9 = .ok (.iconst 0, 1) := by decide +kernel
theorem dX6_giveTextures_10 : decode cX6_giveTextures 10 = .ok (.istore_n 2, 1) := by decide +kernel
theorem dX6_giveTextures_11 : decode cX6_giveTextures 11 = .ok (.iload_n 2, 1) := by decide +kernel
theorem dX6_giveTextures_12 : decode cX6_giveTextures 12 = .ok (.bipush 12, 2) := by decide +kernel
theorem dX6_giveTextures_14 : decode cX6_giveTextures 14 = .ok (.if_icmp .ge 19, 3) := by decide +kernel
theorem dX6_giveTextures_17 : decode cX6_giveTextures 17 = .ok (.aload_n 0, 1) := by decide +kernel
theorem dX6_giveTextures_18 : decode cX6_giveTextures 18 = .ok (.getfield 32, 3) := by decide +kernel
theorem dX6_giveTextures_21 : decode cX6_giveTextures 21 = .ok (.iconst 0, 1) := by decide +kernel
theorem dX6_giveTextures_22 : decode cX6_giveTextures 22 = .ok (.aaload, 1) := by decide +kernel
theorem dX6_giveTextures_23 : decode cX6_giveTextures 23 = .ok (.iload_n 2, 1) := by decide +kernel
theorem dX6_giveTextures_24 : decode cX6_giveTextures 24 = .ok (.bipush 15, 2) := by decide +kernel
theorem dX6_giveTextures_26 : decode cX6_giveTextures 26 = .ok (.iastore, 1) := by decide +kernel
theorem dX6_giveTextures_27 : decode cX6_giveTextures 27 = .ok (.iinc 2 1, 3) := by decide +kernel
theorem dX6_giveTextures_30 : decode cX6_giveTextures 30 = .ok (.goto (-19), 3) := by decide +kernel
theorem dX6_giveTextures_33 : decode cX6_giveTextures 33 = .ok (.aload_n 0, 1) := by decide +kernel
theorem dX6_giveTextures_34 : decode cX6_giveTextures 34 = .ok (.aload_n 0, 1) := by decide +kernel
theorem dX6_giveTextures_35 : decode cX6_giveTextures 35 = .ok (.ldc2_w 42, 3) := by decide +kernel
theorem dX6_giveTextures_38 : decode cX6_giveTextures 38 = .ok (.aload_n 0, 1) := by decide +kernel
theorem dX6_giveTextures_39 : decode cX6_giveTextures 39 = .ok (.getfield 35, 3) := by decide +kernel
theorem dX6_giveTextures_42 : decode cX6_giveTextures 42 = .ok (.iconst 0, 1) := by decide +kernel
theorem dX6_giveTextures_43 : decode cX6_giveTextures 43 = .ok (.invokevirtual 44, 3) := by decide +kernel
theorem dX6_giveTextures_46 : decode cX6_giveTextures 46 = .ok (.putfield 48, 3) := by decide +kernel
theorem dX6_giveTextures_49 : decode cX6_giveTextures 49 = .ok (.return_, 1) := by decide +kernel
theorem dX6_textureOf_0 : decode cX6_textureOf 0 = .ok (.aload_n 0, 1) := by decide +kernel
theorem dX6_textureOf_1 : decode cX6_textureOf 1 = .ok (.getfield 48, 3) := by decide +kernel
theorem dX6_textureOf_4 : decode cX6_textureOf 4 = .ok (.ldc2_w 42, 3) := by decide +kernel
theorem dX6_textureOf_7 : decode cX6_textureOf 7 = .ok (.lcmp, 1) := by decide +kernel
theorem dX6_textureOf_8 : decode cX6_textureOf 8 = .ok (.ifCond .eq 14, 3) := by decide +kernel
theorem dX6_textureOf_11 : decode cX6_textureOf 11 = .ok (.aload_n 0, 1) := by decide +kernel
theorem dX6_textureOf_12 : decode cX6_textureOf 12 = .ok (.getfield 35, 3) := by decide +kernel
theorem dX6_textureOf_15 : decode cX6_textureOf 15 = .ok (.iload_n 1, 1) := by decide +kernel
theorem dX6_textureOf_16 : decode cX6_textureOf 16 = .ok (.invokestatic 52, 3) := by decide +kernel
theorem dX6_textureOf_19 : decode cX6_textureOf 19 = .ok (.ifCond .ne 5, 3) := by decide +kernel
theorem dX6_textureOf_22 : decode cX6_textureOf 22 = .ok (.iconst (-1), 1) := by decide +kernel
theorem dX6_textureOf_23 : decode cX6_textureOf 23 = .ok (.ireturn, 1) := by decide +kernel
theorem dX6_textureOf_24 : decode cX6_textureOf 24 = .ok (.aload_n 0, 1) := by decide +kernel
theorem dX6_textureOf_25 : decode cX6_textureOf 25 = .ok (.getfield 48, 3) := by decide +kernel
theorem dX6_textureOf_28 : decode cX6_textureOf 28 = .ok (.iload_n 1, 1) := by decide +kernel
theorem dX6_textureOf_29 : decode cX6_textureOf 29 = .ok (.invokestatic 56, 3) := by decide +kernel
theorem dX6_textureOf_32 : decode cX6_textureOf 32 = .ok (.lshr, 1) := by decide +kernel
theorem dX6_textureOf_33 : decode cX6_textureOf 33 = .ok (.l2i, 1) := by decide +kernel
theorem dX6_textureOf_34 : decode cX6_textureOf 34 = .ok (.iconst 3, 1) := by decide +kernel
theorem dX6_textureOf_35 : decode cX6_textureOf 35 = .ok (.iand, 1) := by decide +kernel
theorem dX6_textureOf_36 : decode cX6_textureOf 36 = .ok (.ireturn, 1) := by decide +kernel
theorem dX6_sumOfPrices_0 : decode cX6_sumOfPrices 0 = .ok (.aload_n 0, 1) := by decide +kernel
theorem dX6_sumOfPrices_1 : decode cX6_sumOfPrices 1 = .ok (.getfield 48, 3) := by decide +kernel
theorem dX6_sumOfPrices_4 : decode cX6_sumOfPrices 4 = .ok (.ldc2_w 42, 3) := by decide +kernel
theorem dX6_sumOfPrices_7 : decode cX6_sumOfPrices 7 = .ok (.lcmp, 1) := by decide +kernel
theorem dX6_sumOfPrices_8 : decode cX6_sumOfPrices 8 = .ok (.ifCond .ne 7, 3) := by decide +kernel
theorem dX6_sumOfPrices_11 : decode cX6_sumOfPrices 11 = .ok (.iconst (-1), 1) := by decide +kernel
theorem dX6_sumOfPrices_12 : decode cX6_sumOfPrices 12 = .ok (.goto 11, 3) := by decide +kernel
theorem dX6_sumOfPrices_15 : decode cX6_sumOfPrices 15 = .ok (.aload_n 0, 1) := by decide +kernel
theorem dX6_sumOfPrices_16 : decode cX6_sumOfPrices 16 = .ok (.getfield 48, 3) := by decide +kernel
theorem dX6_sumOfPrices_19 : decode cX6_sumOfPrices 19 = .ok (.bipush 24, 2) := by decide +kernel
theorem dX6_sumOfPrices_21 : decode cX6_sumOfPrices 21 = .ok (.lshr, 1) := by decide +kernel
theorem dX6_sumOfPrices_22 : decode cX6_sumOfPrices 22 = .ok (.l2i, 1) := by decide +kernel
theorem dX6_sumOfPrices_23 : decode cX6_sumOfPrices 23 = .ok (.ireturn, 1) := by decide +kernel
theorem dX6_placeOf_0 : decode cX6_placeOf 0 = .ok (.iconst 2, 1) := by decide +kernel
theorem dX6_placeOf_1 : decode cX6_placeOf 1 = .ok (.bipush 11, 2) := by decide +kernel
theorem dX6_placeOf_3 : decode cX6_placeOf 3 = .ok (.iload_n 0, 1) := by decide +kernel
theorem dX6_placeOf_4 : decode cX6_placeOf 4 = .ok (.isub, 1) := by decide +kernel
theorem dX6_placeOf_5 : decode cX6_placeOf 5 = .ok (.imul, 1) := by decide +kernel
theorem dX6_placeOf_6 : decode cX6_placeOf 6 = .ok (.ireturn, 1) := by decide +kernel
theorem dX6_weight_0 : decode cX6_weight 0 = .ok (.aload_n 0, 1) := by decide +kernel
theorem dX6_weight_1 : decode cX6_weight 1 = .ok (.getfield 15, 3) := by decide +kernel
theorem dX6_weight_4 : decode cX6_weight 4 = .ok (.iload_n 2, 1) := by decide +kernel
theorem dX6_weight_5 : decode cX6_weight 5 = .ok (.iaload, 1) := by decide +kernel
theorem dX6_weight_6 : decode cX6_weight 6 = .ok (.i2l, 1) := by decide +kernel
theorem dX6_weight_7 : decode cX6_weight 7 = .ok (.bipush 24, 2) := by decide +kernel
theorem dX6_weight_9 : decode cX6_weight 9 = .ok (.lshl, 1) := by decide +kernel
theorem dX6_weight_10 : decode cX6_weight 10 = .ok (.iload_n 2, 1) := by decide +kernel
theorem dX6_weight_11 : decode cX6_weight 11 = .ok (.i2l, 1) := by decide +kernel
theorem dX6_weight_12 : decode cX6_weight 12 = .ok (.iload_n 1, 1) := by decide +kernel
theorem dX6_weight_13 : decode cX6_weight 13 = .ok (.invokestatic 56, 3) := by decide +kernel
theorem dX6_weight_16 : decode cX6_weight 16 = .ok (.lshl, 1) := by decide +kernel
theorem dX6_weight_17 : decode cX6_weight 17 = .ok (.ladd, 1) := by decide +kernel
theorem dX6_weight_18 : decode cX6_weight 18 = .ok (.lreturn, 1) := by decide +kernel
theorem dX6_rankTextures_0 : decode cX6_rankTextures 0 = .ok (.iconst 0, 1) := by decide +kernel
theorem dX6_rankTextures_1 : decode cX6_rankTextures 1 = .ok (.istore_n 1, 1) := by decide +kernel
theorem dX6_rankTextures_2 : decode cX6_rankTextures 2 = .ok (.iload_n 1, 1) := by decide +kernel
theorem dX6_rankTextures_3 : decode cX6_rankTextures 3 = .ok (.iconst 4, 1) := by decide +kernel
theorem dX6_rankTextures_4 : decode cX6_rankTextures 4 = .ok (.if_icmp .ge 86, 3) := by decide +kernel
theorem dX6_rankTextures_7 : decode cX6_rankTextures 7 = .ok (.iconst 0, 1) := by decide +kernel
theorem dX6_rankTextures_8 : decode cX6_rankTextures 8 = .ok (.istore_n 2, 1) := by decide +kernel
theorem dX6_rankTextures_9 : decode cX6_rankTextures 9 = .ok (.iconst 0, 1) := by decide +kernel
theorem dX6_rankTextures_10 : decode cX6_rankTextures 10 = .ok (.istore_n 3, 1) := by decide +kernel
theorem dX6_rankTextures_11 : decode cX6_rankTextures 11 = .ok (.iload_n 3, 1) := by decide +kernel
theorem dX6_rankTextures_12 : decode cX6_rankTextures 12 = .ok (.iconst 4, 1) := by decide +kernel
theorem dX6_rankTextures_13 : decode cX6_rankTextures 13 = .ok (.if_icmp .ge 64, 3) := by decide +kernel
theorem dX6_rankTextures_16 : decode cX6_rankTextures 16 = .ok (.aload_n 0, 1) := by decide +kernel
theorem dX6_rankTextures_17 : decode cX6_rankTextures 17 = .ok (.getfield 15, 3) := by decide +kernel
theorem dX6_rankTextures_20 : decode cX6_rankTextures 20 = .ok (.iload_n 3, 1) := by decide +kernel
theorem dX6_rankTextures_21 : decode cX6_rankTextures 21 = .ok (.iaload, 1) := by decide +kernel
theorem dX6_rankTextures_22 : decode cX6_rankTextures 22 = .ok (.aload_n 0, 1) := by decide +kernel
theorem dX6_rankTextures_23 : decode cX6_rankTextures 23 = .ok (.getfield 15, 3) := by decide +kernel
theorem dX6_rankTextures_26 : decode cX6_rankTextures 26 = .ok (.iload_n 1, 1) := by decide +kernel
theorem dX6_rankTextures_27 : decode cX6_rankTextures 27 = .ok (.iaload, 1) := by decide +kernel
theorem dX6_rankTextures_28 : decode cX6_rankTextures 28 = .ok (.if_icmp .lt 23, 3) := by decide +kernel
theorem dX6_rankTextures_31 : decode cX6_rankTextures 31 = .ok (.aload_n 0, 1) := by decide +kernel
theorem dX6_rankTextures_32 : decode cX6_rankTextures 32 = .ok (.getfield 15, 3) := by decide +kernel
theorem dX6_rankTextures_35 : decode cX6_rankTextures 35 = .ok (.iload_n 3, 1) := by decide +kernel
theorem dX6_rankTextures_36 : decode cX6_rankTextures 36 = .ok (.iaload, 1) := by decide +kernel
theorem dX6_rankTextures_37 : decode cX6_rankTextures 37 = .ok (.aload_n 0, 1) := by decide +kernel
theorem dX6_rankTextures_38 : decode cX6_rankTextures 38 = .ok (.getfield 15, 3) := by decide +kernel
theorem dX6_rankTextures_41 : decode cX6_rankTextures 41 = .ok (.iload_n 1, 1) := by decide +kernel
theorem dX6_rankTextures_42 : decode cX6_rankTextures 42 = .ok (.iaload, 1) := by decide +kernel
theorem dX6_rankTextures_43 : decode cX6_rankTextures 43 = .ok (.if_icmp .ne 12, 3) := by decide +kernel
theorem dX6_rankTextures_46 : decode cX6_rankTextures 46 = .ok (.iload_n 3, 1) := by decide +kernel
theorem dX6_rankTextures_47 : decode cX6_rankTextures 47 = .ok (.iload_n 1, 1) := by decide +kernel
theorem dX6_rankTextures_48 : decode cX6_rankTextures 48 = .ok (.if_icmp .ge 7, 3) := by decide +kernel
theorem dX6_rankTextures_51 : decode cX6_rankTextures 51 = .ok (.iconst 1, 1) := by decide +kernel
theorem dX6_rankTextures_52 : decode cX6_rankTextures 52 = .ok (.goto 4, 3) := by decide +kernel
theorem dX6_rankTextures_55 : decode cX6_rankTextures 55 = .ok (.iconst 0, 1) := by decide +kernel
theorem dX6_rankTextures_56 : decode cX6_rankTextures 56 = .ok (.istore 4, 2) := by decide +kernel
theorem dX6_rankTextures_58 : decode cX6_rankTextures 58 = .ok (.iload_n 2, 1) := by decide +kernel
theorem dX6_rankTextures_59 : decode cX6_rankTextures 59 = .ok (.iload 4, 2) := by decide +kernel
theorem dX6_rankTextures_61 : decode cX6_rankTextures 61 = .ok (.ifCond .eq 7, 3) := by decide +kernel
theorem dX6_rankTextures_64 : decode cX6_rankTextures 64 = .ok (.iconst 1, 1) := by decide +kernel
theorem dX6_rankTextures_65 : decode cX6_rankTextures 65 = .ok (.goto 4, 3) := by decide +kernel
theorem dX6_rankTextures_68 : decode cX6_rankTextures 68 = .ok (.iconst 0, 1) := by decide +kernel
theorem dX6_rankTextures_69 : decode cX6_rankTextures 69 = .ok (.iadd, 1) := by decide +kernel
theorem dX6_rankTextures_70 : decode cX6_rankTextures 70 = .ok (.istore_n 2, 1) := by decide +kernel
theorem dX6_rankTextures_71 : decode cX6_rankTextures 71 = .ok (.iinc 3 1, 3) := by decide +kernel
theorem dX6_rankTextures_74 : decode cX6_rankTextures 74 = .ok (.goto (-63), 3) := by decide +kernel
theorem dX6_rankTextures_77 : decode cX6_rankTextures 77 = .ok (.aload_n 0, 1) := by decide +kernel
theorem dX6_rankTextures_78 : decode cX6_rankTextures 78 = .ok (.getfield 21, 3) := by decide +kernel
theorem dX6_rankTextures_81 : decode cX6_rankTextures 81 = .ok (.iload_n 2, 1) := by decide +kernel
theorem dX6_rankTextures_82 : decode cX6_rankTextures 82 = .ok (.iload_n 1, 1) := by decide +kernel
theorem dX6_rankTextures_83 : decode cX6_rankTextures 83 = .ok (.iastore, 1) := by decide +kernel
theorem dX6_rankTextures_84 : decode cX6_rankTextures 84 = .ok (.iinc 1 1, 3) := by decide +kernel
theorem dX6_rankTextures_87 : decode cX6_rankTextures 87 = .ok (.goto (-85), 3) := by decide +kernel
theorem dX6_rankTextures_90 : decode cX6_rankTextures 90 = .ok (.iconst 1, 1) := by decide +kernel
theorem dX6_rankTextures_91 : decode cX6_rankTextures 91 = .ok (.istore_n 1, 1) := by decide +kernel
theorem dX6_rankTextures_92 : decode cX6_rankTextures 92 = .ok (.iload_n 1, 1) := by decide +kernel
theorem dX6_rankTextures_93 : decode cX6_rankTextures 93 = .ok (.bipush 15, 2) := by decide +kernel
theorem dX6_rankTextures_95 : decode cX6_rankTextures 95 = .ok (.if_icmp .gt 20, 3) := by decide +kernel
theorem dX6_rankTextures_98 : decode cX6_rankTextures 98 = .ok (.aload_n 0, 1) := by decide +kernel
theorem dX6_rankTextures_99 : decode cX6_rankTextures 99 = .ok (.getfield 24, 3) := by decide +kernel
theorem dX6_rankTextures_102 : decode cX6_rankTextures 102 = .ok (.iload_n 1, 1) := by decide +kernel
theorem dX6_rankTextures_103 : decode cX6_rankTextures 103 = .ok (.aload_n 0, 1) := by decide +kernel
theorem dX6_rankTextures_104 : decode cX6_rankTextures 104 = .ok (.iload_n 1, 1) := by decide +kernel
theorem dX6_rankTextures_105 : decode cX6_rankTextures 105 = .ok (.invokevirtual 60, 3) := by decide +kernel
theorem dX6_rankTextures_108 : decode cX6_rankTextures 108 = .ok (.iastore, 1) := by decide +kernel
theorem dX6_rankTextures_109 : decode cX6_rankTextures 109 = .ok (.iinc 1 1, 3) := by decide +kernel
theorem dX6_rankTextures_112 : decode cX6_rankTextures 112 = .ok (.goto (-20), 3) := by decide +kernel
theorem dX6_rankTextures_115 : decode cX6_rankTextures 115 = .ok (.return_, 1) := by decide +kernel
theorem dX6_firstByPrice_0 : decode cX6_firstByPrice 0 = .ok (.iconst 0, 1) := by decide +kernel
theorem dX6_firstByPrice_1 : decode cX6_firstByPrice 1 = .ok (.istore_n 2, 1) := by decide +kernel
theorem dX6_firstByPrice_2 : decode cX6_firstByPrice 2 = .ok (.iload_n 2, 1) := by decide +kernel
theorem dX6_firstByPrice_3 : decode cX6_firstByPrice 3 = .ok (.iconst 4, 1) := by decide +kernel
theorem dX6_firstByPrice_4 : decode cX6_firstByPrice 4 = .ok (.if_icmp .ge 29, 3) := by decide +kernel
theorem dX6_firstByPrice_7 : decode cX6_firstByPrice 7 = .ok (.iload_n 1, 1) := by decide +kernel
theorem dX6_firstByPrice_8 : decode cX6_firstByPrice 8 = .ok (.aload_n 0, 1) := by decide +kernel
theorem dX6_firstByPrice_9 : decode cX6_firstByPrice 9 = .ok (.getfield 21, 3) := by decide +kernel
theorem dX6_firstByPrice_12 : decode cX6_firstByPrice 12 = .ok (.iload_n 2, 1) := by decide +kernel
theorem dX6_firstByPrice_13 : decode cX6_firstByPrice 13 = .ok (.iaload, 1) := by decide +kernel
theorem dX6_firstByPrice_14 : decode cX6_firstByPrice 14 = .ok (.invokestatic 52, 3) := by decide +kernel
theorem dX6_firstByPrice_17 : decode cX6_firstByPrice 17 = .ok (.ifCond .eq 10, 3) := by decide +kernel
theorem dX6_firstByPrice_20 : decode cX6_firstByPrice 20 = .ok (.aload_n 0, 1) := by decide +kernel
theorem dX6_firstByPrice_21 : decode cX6_firstByPrice 21 = .ok (.getfield 21, 3) := by decide +kernel
theorem dX6_firstByPrice_24 : decode cX6_firstByPrice 24 = .ok (.iload_n 2, 1) := by decide +kernel
theorem dX6_firstByPrice_25 : decode cX6_firstByPrice 25 = .ok (.iaload, 1) := by decide +kernel
theorem dX6_firstByPrice_26 : decode cX6_firstByPrice 26 = .ok (.ireturn, 1) := by decide +kernel
theorem dX6_firstByPrice_27 : decode cX6_firstByPrice 27 = .ok (.iinc 2 1, 3) := by decide +kernel
theorem dX6_firstByPrice_30 : decode cX6_firstByPrice 30 = .ok (.goto (-28), 3) := by decide +kernel
theorem dX6_firstByPrice_33 : decode cX6_firstByPrice 33 = .ok (.iconst 0, 1) := by decide +kernel
theorem dX6_firstByPrice_34 : decode cX6_firstByPrice 34 = .ok (.ireturn, 1) := by decide +kernel
theorem dX6_leastBelow_0 : decode cX6_leastBelow 0 = .ok (.aload_n 0, 1) := by decide +kernel
theorem dX6_leastBelow_1 : decode cX6_leastBelow 1 = .ok (.iload_n 3, 1) := by decide +kernel
theorem dX6_leastBelow_2 : decode cX6_leastBelow 2 = .ok (.aload_n 0, 1) := by decide +kernel
theorem dX6_leastBelow_3 : decode cX6_leastBelow 3 = .ok (.getfield 32, 3) := by decide +kernel
theorem dX6_leastBelow_6 : decode cX6_leastBelow 6 = .ok (.iload 4, 2) := by decide +kernel
theorem dX6_leastBelow_8 : decode cX6_leastBelow 8 = .ok (.aaload, 1) := by decide +kernel
theorem dX6_leastBelow_9 : decode cX6_leastBelow 9 = .ok (.invokevirtual 63, 3) := by decide +kernel
theorem dX6_leastBelow_12 : decode cX6_leastBelow 12 = .ok (.lstore 5, 2) := by decide +kernel
theorem dX6_leastBelow_14 : decode cX6_leastBelow 14 = .ok (.iload_n 3, 1) := by decide +kernel
theorem dX6_leastBelow_15 : decode cX6_leastBelow 15 = .ok (.istore 7, 2) := by decide +kernel
theorem dX6_leastBelow_17 : decode cX6_leastBelow 17 = .ok (.iconst 0, 1) := by decide +kernel
theorem dX6_leastBelow_18 : decode cX6_leastBelow 18 = .ok (.istore 8, 2) := by decide +kernel
theorem dX6_leastBelow_20 : decode cX6_leastBelow 20 = .ok (.iload 8, 2) := by decide +kernel
theorem dX6_leastBelow_22 : decode cX6_leastBelow 22 = .ok (.bipush 12, 2) := by decide +kernel
theorem dX6_leastBelow_24 : decode cX6_leastBelow 24 = .ok (.if_icmp .ge 115, 3) := by decide +kernel
theorem dX6_leastBelow_27 : decode cX6_leastBelow 27 = .ok (.lload 5, 2) := by decide +kernel
theorem dX6_leastBelow_29 : decode cX6_leastBelow 29 = .ok (.lload_n 1, 1) := by decide +kernel
theorem dX6_leastBelow_30 : decode cX6_leastBelow 30 = .ok (.lcmp, 1) := by decide +kernel
theorem dX6_leastBelow_31 : decode cX6_leastBelow 31 = .ok (.ifCond .ge 108, 3) := by decide +kernel
theorem dX6_leastBelow_34 : decode cX6_leastBelow 34 = .ok (.aload_n 0, 1) := by decide +kernel
theorem dX6_leastBelow_35 : decode cX6_leastBelow 35 = .ok (.iload 7, 2) := by decide +kernel
theorem dX6_leastBelow_37 : decode cX6_leastBelow 37 = .ok (.aload_n 0, 1) := by decide +kernel
theorem dX6_leastBelow_38 : decode cX6_leastBelow 38 = .ok (.getfield 32, 3) := by decide +kernel
theorem dX6_leastBelow_41 : decode cX6_leastBelow 41 = .ok (.iload 4, 2) := by decide +kernel
theorem dX6_leastBelow_43 : decode cX6_leastBelow 43 = .ok (.aaload, 1) := by decide +kernel
theorem dX6_leastBelow_44 : decode cX6_leastBelow 44 = .ok (.invokevirtual 67, 3) := by decide +kernel
theorem dX6_leastBelow_47 : decode cX6_leastBelow 47 = .ok (.istore 9, 2) := by decide +kernel
theorem dX6_leastBelow_49 : decode cX6_leastBelow 49 = .ok (.iload 9, 2) := by decide +kernel
theorem dX6_leastBelow_51 : decode cX6_leastBelow 51 = .ok (.iconst (-1), 1) := by decide +kernel
theorem dX6_leastBelow_52 : decode cX6_leastBelow 52 = .ok (.if_icmp .ne 6, 3) := by decide +kernel
theorem dX6_leastBelow_55 : decode cX6_leastBelow 55 = .ok (.lload 5, 2) := by decide +kernel
theorem dX6_leastBelow_57 : decode cX6_leastBelow 57 = .ok (.lreturn, 1) := by decide +kernel
theorem dX6_leastBelow_58 : decode cX6_leastBelow 58 = .ok (.aload_n 0, 1) := by decide +kernel
theorem dX6_leastBelow_59 : decode cX6_leastBelow 59 = .ok (.iload 9, 2) := by decide +kernel
theorem dX6_leastBelow_61 : decode cX6_leastBelow 61 = .ok (.iload 7, 2) := by decide +kernel
theorem dX6_leastBelow_63 : decode cX6_leastBelow 63 = .ok (.invokevirtual 71, 3) := by decide +kernel
theorem dX6_leastBelow_66 : decode cX6_leastBelow 66 = .ok (.istore 10, 2) := by decide +kernel
theorem dX6_leastBelow_68 : decode cX6_leastBelow 68 = .ok (.iload 7, 2) := by decide +kernel
theorem dX6_leastBelow_70 : decode cX6_leastBelow 70 = .ok (.iload 10, 2) := by decide +kernel
theorem dX6_leastBelow_72 : decode cX6_leastBelow 72 = .ok (.iconst (-1), 1) := by decide +kernel
theorem dX6_leastBelow_73 : decode cX6_leastBelow 73 = .ok (.ixor, 1) := by decide +kernel
theorem dX6_leastBelow_74 : decode cX6_leastBelow 74 = .ok (.iand, 1) := by decide +kernel
theorem dX6_leastBelow_75 : decode cX6_leastBelow 75 = .ok (.istore 7, 2) := by decide +kernel
theorem dX6_leastBelow_77 : decode cX6_leastBelow 77 = .ok (.lload 5, 2) := by decide +kernel
theorem dX6_leastBelow_79 : decode cX6_leastBelow 79 = .ok (.aload_n 0, 1) := by decide +kernel
theorem dX6_leastBelow_80 : decode cX6_leastBelow 80 = .ok (.iload 10, 2) := by decide +kernel
theorem dX6_leastBelow_82 : decode cX6_leastBelow 82 = .ok (.aload_n 0, 1) := by decide +kernel
theorem dX6_leastBelow_83 : decode cX6_leastBelow 83 = .ok (.getfield 32, 3) := by decide +kernel
theorem dX6_leastBelow_86 : decode cX6_leastBelow 86 = .ok (.iload 4, 2) := by decide +kernel
theorem dX6_leastBelow_88 : decode cX6_leastBelow 88 = .ok (.aaload, 1) := by decide +kernel
theorem dX6_leastBelow_89 : decode cX6_leastBelow 89 = .ok (.invokevirtual 63, 3) := by decide +kernel
theorem dX6_leastBelow_92 : decode cX6_leastBelow 92 = .ok (.lsub, 1) := by decide +kernel
theorem dX6_leastBelow_93 : decode cX6_leastBelow 93 = .ok (.lstore 5, 2) := by decide +kernel
theorem dX6_leastBelow_95 : decode cX6_leastBelow 95 = .ok (.aload_n 0, 1) := by decide +kernel
theorem dX6_leastBelow_96 : decode cX6_leastBelow 96 = .ok (.lload_n 1, 1) := by decide +kernel
theorem dX6_leastBelow_97 : decode cX6_leastBelow 97 = .ok (.lload 5, 2) := by decide +kernel
theorem dX6_leastBelow_99 : decode cX6_leastBelow 99 = .ok (.lsub, 1) := by decide +kernel
theorem dX6_leastBelow_100 : decode cX6_leastBelow 100 = .ok (.iload 9, 2) := by decide +kernel
theorem dX6_leastBelow_102 : decode cX6_leastBelow 102 = .ok (.iload 10, 2) := by decide +kernel
theorem dX6_leastBelow_104 : decode cX6_leastBelow 104 = .ok (.iload 4, 2) := by decide +kernel
theorem dX6_leastBelow_106 : decode cX6_leastBelow 106 = .ok (.invokevirtual 75, 3) := by decide +kernel
theorem dX6_leastBelow_109 : decode cX6_leastBelow 109 = .ok (.lstore 11, 2) := by decide +kernel
theorem dX6_leastBelow_111 : decode cX6_leastBelow 111 = .ok (.lload 11, 2) := by decide +kernel
theorem dX6_leastBelow_113 : decode cX6_leastBelow 113 = .ok (.ldc2_w 42, 3) := by decide +kernel
theorem dX6_leastBelow_116 : decode cX6_leastBelow 116 = .ok (.lcmp, 1) := by decide +kernel
theorem dX6_leastBelow_117 : decode cX6_leastBelow 117 = .ok (.ifCond .ne 9, 3) := by decide +kernel
theorem dX6_leastBelow_120 : decode cX6_leastBelow 120 = .ok (.ldc2_w 42, 3) := by decide +kernel
theorem dX6_leastBelow_123 : decode cX6_leastBelow 123 = .ok (.goto 8, 3) := by decide +kernel
theorem dX6_leastBelow_126 : decode cX6_leastBelow 126 = .ok (.lload 5, 2) := by decide +kernel
theorem dX6_leastBelow_128 : decode cX6_leastBelow 128 = .ok (.lload 11, 2) := by decide +kernel
theorem dX6_leastBelow_130 : decode cX6_leastBelow 130 = .ok (.ladd, 1) := by decide +kernel
theorem dX6_leastBelow_131 : decode cX6_leastBelow 131 = .ok (.lstore 5, 2) := by decide +kernel
theorem dX6_leastBelow_133 : decode cX6_leastBelow 133 = .ok (.iinc 8 1, 3) := by decide +kernel
theorem dX6_leastBelow_136 : decode cX6_leastBelow 136 = .ok (.goto (-116), 3) := by decide +kernel
theorem dX6_leastBelow_139 : decode cX6_leastBelow 139 = .ok (.lload 5, 2) := by decide +kernel
theorem dX6_leastBelow_141 : decode cX6_leastBelow 141 = .ok (.lload_n 1, 1) := by decide +kernel
theorem dX6_leastBelow_142 : decode cX6_leastBelow 142 = .ok (.lcmp, 1) := by decide +kernel
theorem dX6_leastBelow_143 : decode cX6_leastBelow 143 = .ok (.ifCond .ge 8, 3) := by decide +kernel
theorem dX6_leastBelow_146 : decode cX6_leastBelow 146 = .ok (.lload 5, 2) := by decide +kernel
theorem dX6_leastBelow_148 : decode cX6_leastBelow 148 = .ok (.goto 6, 3) := by decide +kernel
theorem dX6_leastBelow_151 : decode cX6_leastBelow 151 = .ok (.ldc2_w 42, 3) := by decide +kernel
theorem dX6_leastBelow_154 : decode cX6_leastBelow 154 = .ok (.lreturn, 1) := by decide +kernel
theorem dX6_tryEach_0 : decode cX6_tryEach 0 = .ok (.iload 5, 2) := by decide +kernel
theorem dX6_tryEach_2 : decode cX6_tryEach 2 = .ok (.bipush 12, 2) := by decide +kernel
theorem dX6_tryEach_4 : decode cX6_tryEach 4 = .ok (.if_icmp .lt 7, 3) := by decide +kernel
theorem dX6_tryEach_7 : decode cX6_tryEach 7 = .ok (.ldc2_w 42, 3) := by decide +kernel
theorem dX6_tryEach_10 : decode cX6_tryEach 10 = .ok (.lreturn, 1) := by decide +kernel
theorem dX6_tryEach_11 : decode cX6_tryEach 11 = .ok (.lload_n 1, 1) := by decide +kernel
theorem dX6_tryEach_12 : decode cX6_tryEach 12 = .ok (.lstore 6, 2) := by decide +kernel
theorem dX6_tryEach_14 : decode cX6_tryEach 14 = .ok (.iconst 0, 1) := by decide +kernel
theorem dX6_tryEach_15 : decode cX6_tryEach 15 = .ok (.istore 8, 2) := by decide +kernel
theorem dX6_tryEach_17 : decode cX6_tryEach 17 = .ok (.iconst 0, 1) := by decide +kernel
theorem dX6_tryEach_18 : decode cX6_tryEach 18 = .ok (.istore 9, 2) := by decide +kernel
theorem dX6_tryEach_20 : decode cX6_tryEach 20 = .ok (.iload 9, 2) := by decide +kernel
theorem dX6_tryEach_22 : decode cX6_tryEach 22 = .ok (.iconst 4, 1) := by decide +kernel
theorem dX6_tryEach_23 : decode cX6_tryEach 23 = .ok (.if_icmp .ge 97, 3) := by decide +kernel
theorem dX6_tryEach_26 : decode cX6_tryEach 26 = .ok (.aload_n 0, 1) := by decide +kernel
theorem dX6_tryEach_27 : decode cX6_tryEach 27 = .ok (.getfield 21, 3) := by decide +kernel
theorem dX6_tryEach_30 : decode cX6_tryEach 30 = .ok (.iload 9, 2) := by decide +kernel
theorem dX6_tryEach_32 : decode cX6_tryEach 32 = .ok (.iaload, 1) := by decide +kernel
theorem dX6_tryEach_33 : decode cX6_tryEach 33 = .ok (.istore 10, 2) := by decide +kernel
theorem dX6_tryEach_35 : decode cX6_tryEach 35 = .ok (.aload_n 0, 1) := by decide +kernel
theorem dX6_tryEach_36 : decode cX6_tryEach 36 = .ok (.getfield 32, 3) := by decide +kernel
theorem dX6_tryEach_39 : decode cX6_tryEach 39 = .ok (.iload 5, 2) := by decide +kernel
theorem dX6_tryEach_41 : decode cX6_tryEach 41 = .ok (.aaload, 1) := by decide +kernel
theorem dX6_tryEach_42 : decode cX6_tryEach 42 = .ok (.iload_n 3, 1) := by decide +kernel
theorem dX6_tryEach_43 : decode cX6_tryEach 43 = .ok (.iaload, 1) := by decide +kernel
theorem dX6_tryEach_44 : decode cX6_tryEach 44 = .ok (.iload 10, 2) := by decide +kernel
theorem dX6_tryEach_46 : decode cX6_tryEach 46 = .ok (.invokestatic 52, 3) := by decide +kernel
theorem dX6_tryEach_49 : decode cX6_tryEach 49 = .ok (.ifCond .eq 65, 3) := by decide +kernel
theorem dX6_tryEach_52 : decode cX6_tryEach 52 = .ok (.aload_n 0, 1) := by decide +kernel
theorem dX6_tryEach_53 : decode cX6_tryEach 53 = .ok (.iload_n 3, 1) := by decide +kernel
theorem dX6_tryEach_54 : decode cX6_tryEach 54 = .ok (.iload 10, 2) := by decide +kernel
theorem dX6_tryEach_56 : decode cX6_tryEach 56 = .ok (.iload 4, 2) := by decide +kernel
theorem dX6_tryEach_58 : decode cX6_tryEach 58 = .ok (.iload 5, 2) := by decide +kernel
theorem dX6_tryEach_60 : decode cX6_tryEach 60 = .ok (.invokevirtual 79, 3) := by decide +kernel
theorem dX6_tryEach_63 : decode cX6_tryEach 63 = .ok (.aload_n 0, 1) := by decide +kernel
theorem dX6_tryEach_64 : decode cX6_tryEach 64 = .ok (.iload_n 3, 1) := by decide +kernel
theorem dX6_tryEach_65 : decode cX6_tryEach 65 = .ok (.iload 10, 2) := by decide +kernel
theorem dX6_tryEach_67 : decode cX6_tryEach 67 = .ok (.invokevirtual 83, 3) := by decide +kernel
theorem dX6_tryEach_70 : decode cX6_tryEach 70 = .ok (.lstore 11, 2) := by decide +kernel
theorem dX6_tryEach_72 : decode cX6_tryEach 72 = .ok (.aload_n 0, 1) := by decide +kernel
theorem dX6_tryEach_73 : decode cX6_tryEach 73 = .ok (.lload 6, 2) := by decide +kernel
theorem dX6_tryEach_75 : decode cX6_tryEach 75 = .ok (.lload 11, 2) := by decide +kernel
theorem dX6_tryEach_77 : decode cX6_tryEach 77 = .ok (.lsub, 1) := by decide +kernel
theorem dX6_tryEach_78 : decode cX6_tryEach 78 = .ok (.iload 4, 2) := by decide +kernel
theorem dX6_tryEach_80 : decode cX6_tryEach 80 = .ok (.iconst 1, 1) := by decide +kernel
theorem dX6_tryEach_81 : decode cX6_tryEach 81 = .ok (.iload_n 3, 1) := by decide +kernel
theorem dX6_tryEach_82 : decode cX6_tryEach 82 = .ok (.ishl, 1) := by decide +kernel
theorem dX6_tryEach_83 : decode cX6_tryEach 83 = .ok (.iconst (-1), 1) := by decide +kernel
theorem dX6_tryEach_84 : decode cX6_tryEach 84 = .ok (.ixor, 1) := by decide +kernel
theorem dX6_tryEach_85 : decode cX6_tryEach 85 = .ok (.iand, 1) := by decide +kernel
theorem dX6_tryEach_86 : decode cX6_tryEach 86 = .ok (.iload 5, 2) := by decide +kernel
theorem dX6_tryEach_88 : decode cX6_tryEach 88 = .ok (.iconst 1, 1) := by decide +kernel
theorem dX6_tryEach_89 : decode cX6_tryEach 89 = .ok (.iadd, 1) := by decide +kernel
theorem dX6_tryEach_90 : decode cX6_tryEach 90 = .ok (.invokevirtual 44, 3) := by decide +kernel
theorem dX6_tryEach_93 : decode cX6_tryEach 93 = .ok (.lstore 13, 2) := by decide +kernel
theorem dX6_tryEach_95 : decode cX6_tryEach 95 = .ok (.lload 13, 2) := by decide +kernel
theorem dX6_tryEach_97 : decode cX6_tryEach 97 = .ok (.ldc2_w 42, 3) := by decide +kernel
theorem dX6_tryEach_100 : decode cX6_tryEach 100 = .ok (.lcmp, 1) := by decide +kernel
theorem dX6_tryEach_101 : decode cX6_tryEach 101 = .ok (.ifCond .eq 13, 3) := by decide +kernel
theorem dX6_tryEach_104 : decode cX6_tryEach 104 = .ok (.lload 11, 2) := by decide +kernel
theorem dX6_tryEach_106 : decode cX6_tryEach 106 = .ok (.lload 13, 2) := by decide +kernel
theorem dX6_tryEach_108 : decode cX6_tryEach 108 = .ok (.ladd, 1) := by decide +kernel
theorem dX6_tryEach_109 : decode cX6_tryEach 109 = .ok (.lstore 6, 2) := by decide +kernel
theorem dX6_tryEach_111 : decode cX6_tryEach 111 = .ok (.iconst 1, 1) := by decide +kernel
theorem dX6_tryEach_112 : decode cX6_tryEach 112 = .ok (.istore 8, 2) := by decide +kernel
theorem dX6_tryEach_114 : decode cX6_tryEach 114 = .ok (.iinc 9 1, 3) := by decide +kernel
theorem dX6_tryEach_117 : decode cX6_tryEach 117 = .ok (.goto (-97), 3) := by decide +kernel
theorem dX6_tryEach_120 : decode cX6_tryEach 120 = .ok (.iload 8, 2) := by decide +kernel
theorem dX6_tryEach_122 : decode cX6_tryEach 122 = .ok (.ifCond .eq 8, 3) := by decide +kernel
theorem dX6_tryEach_125 : decode cX6_tryEach 125 = .ok (.lload 6, 2) := by decide +kernel
theorem dX6_tryEach_127 : decode cX6_tryEach 127 = .ok (.goto 6, 3) := by decide +kernel
theorem dX6_tryEach_130 : decode cX6_tryEach 130 = .ok (.ldc2_w 42, 3) := by decide +kernel
theorem dX6_tryEach_133 : decode cX6_tryEach 133 = .ok (.lreturn, 1) := by decide +kernel
theorem dX6_give_0 : decode cX6_give 0 = .ok (.iconst 0, 1) := by decide +kernel
theorem dX6_give_1 : decode cX6_give 1 = .ok (.istore 5, 2) := by decide +kernel
theorem dX6_give_3 : decode cX6_give 3 = .ok (.iload 5, 2) := by decide +kernel
theorem dX6_give_5 : decode cX6_give 5 = .ok (.bipush 12, 2) := by decide +kernel
theorem dX6_give_7 : decode cX6_give 7 = .ok (.if_icmp .ge 78, 3) := by decide +kernel
theorem dX6_give_10 : decode cX6_give 10 = .ok (.iload_n 3, 1) := by decide +kernel
theorem dX6_give_11 : decode cX6_give 11 = .ok (.iload 5, 2) := by decide +kernel
theorem dX6_give_13 : decode cX6_give 13 = .ok (.invokestatic 52, 3) := by decide +kernel
theorem dX6_give_16 : decode cX6_give 16 = .ok (.ifCond .eq 63, 3) := by decide +kernel
theorem dX6_give_19 : decode cX6_give 19 = .ok (.aload_n 0, 1) := by decide +kernel
theorem dX6_give_20 : decode cX6_give 20 = .ok (.getfield 18, 3) := by decide +kernel
theorem dX6_give_23 : decode cX6_give 23 = .ok (.iload_n 1, 1) := by decide +kernel
theorem dX6_give_24 : decode cX6_give 24 = .ok (.iaload, 1) := by decide +kernel
theorem dX6_give_25 : decode cX6_give 25 = .ok (.iload 5, 2) := by decide +kernel
theorem dX6_give_27 : decode cX6_give 27 = .ok (.invokestatic 52, 3) := by decide +kernel
theorem dX6_give_30 : decode cX6_give 30 = .ok (.istore 6, 2) := by decide +kernel
theorem dX6_give_32 : decode cX6_give 32 = .ok (.aload_n 0, 1) := by decide +kernel
theorem dX6_give_33 : decode cX6_give 33 = .ok (.getfield 32, 3) := by decide +kernel
theorem dX6_give_36 : decode cX6_give 36 = .ok (.iload 4, 2) := by decide +kernel
theorem dX6_give_38 : decode cX6_give 38 = .ok (.iconst 1, 1) := by decide +kernel
theorem dX6_give_39 : decode cX6_give 39 = .ok (.iadd, 1) := by decide +kernel
theorem dX6_give_40 : decode cX6_give 40 = .ok (.aaload, 1) := by decide +kernel
theorem dX6_give_41 : decode cX6_give 41 = .ok (.iload 5, 2) := by decide +kernel
theorem dX6_give_43 : decode cX6_give 43 = .ok (.iload 6, 2) := by decide +kernel
theorem dX6_give_45 : decode cX6_give 45 = .ok (.ifCond .eq 23, 3) := by decide +kernel
theorem dX6_give_48 : decode cX6_give 48 = .ok (.aload_n 0, 1) := by decide +kernel
theorem dX6_give_49 : decode cX6_give 49 = .ok (.getfield 32, 3) := by decide +kernel
theorem dX6_give_52 : decode cX6_give 52 = .ok (.iload 4, 2) := by decide +kernel
theorem dX6_give_54 : decode cX6_give 54 = .ok (.aaload, 1) := by decide +kernel
theorem dX6_give_55 : decode cX6_give 55 = .ok (.iload 5, 2) := by decide +kernel
theorem dX6_give_57 : decode cX6_give 57 = .ok (.iaload, 1) := by decide +kernel
theorem dX6_give_58 : decode cX6_give 58 = .ok (.aload_n 0, 1) := by decide +kernel
theorem dX6_give_59 : decode cX6_give 59 = .ok (.getfield 11, 3) := by decide +kernel
theorem dX6_give_62 : decode cX6_give 62 = .ok (.iload_n 2, 1) := by decide +kernel
theorem dX6_give_63 : decode cX6_give 63 = .ok (.iaload, 1) := by decide +kernel
theorem dX6_give_64 : decode cX6_give 64 = .ok (.iand, 1) := by decide +kernel
theorem dX6_give_65 : decode cX6_give 65 = .ok (.goto 13, 3) := by decide +kernel
theorem dX6_give_68 : decode cX6_give 68 = .ok (.aload_n 0, 1) := by decide +kernel
theorem dX6_give_69 : decode cX6_give 69 = .ok (.getfield 32, 3) := by decide +kernel
theorem dX6_give_72 : decode cX6_give 72 = .ok (.iload 4, 2) := by decide +kernel
theorem dX6_give_74 : decode cX6_give 74 = .ok (.aaload, 1) := by decide +kernel
theorem dX6_give_75 : decode cX6_give 75 = .ok (.iload 5, 2) := by decide +kernel
theorem dX6_give_77 : decode cX6_give 77 = .ok (.iaload, 1) := by decide +kernel
theorem dX6_give_78 : decode cX6_give 78 = .ok (.iastore, 1) := by decide +kernel
theorem dX6_give_79 : decode cX6_give 79 = .ok (.iinc 5 1, 3) := by decide +kernel
theorem dX6_give_82 : decode cX6_give 82 = .ok (.goto (-79), 3) := by decide +kernel
theorem dX6_give_85 : decode cX6_give 85 = .ok (.return_, 1) := by decide +kernel
theorem dX6_groupOf_0 : decode cX6_groupOf 0 = .ok (.iconst 1, 1) := by decide +kernel
theorem dX6_groupOf_1 : decode cX6_groupOf 1 = .ok (.iload_n 1, 1) := by decide +kernel
theorem dX6_groupOf_2 : decode cX6_groupOf 2 = .ok (.ishl, 1) := by decide +kernel
theorem dX6_groupOf_3 : decode cX6_groupOf 3 = .ok (.istore_n 3, 1) := by decide +kernel
theorem dX6_groupOf_4 : decode cX6_groupOf 4 = .ok (.iconst 0, 1) := by decide +kernel
theorem dX6_groupOf_5 : decode cX6_groupOf 5 = .ok (.istore 4, 2) := by decide +kernel
theorem dX6_groupOf_7 : decode cX6_groupOf 7 = .ok (.iconst 0, 1) := by decide +kernel
theorem dX6_groupOf_8 : decode cX6_groupOf 8 = .ok (.istore 5, 2) := by decide +kernel
theorem dX6_groupOf_10 : decode cX6_groupOf 10 = .ok (.iload 5, 2) := by decide +kernel
theorem dX6_groupOf_12 : decode cX6_groupOf 12 = .ok (.bipush 12, 2) := by decide +kernel
theorem dX6_groupOf_14 : decode cX6_groupOf 14 = .ok (.if_icmp .ge 59, 3) := by decide +kernel
theorem dX6_groupOf_17 : decode cX6_groupOf 17 = .ok (.iload_n 3, 1) := by decide +kernel
theorem dX6_groupOf_18 : decode cX6_groupOf 18 = .ok (.iload 4, 2) := by decide +kernel
theorem dX6_groupOf_20 : decode cX6_groupOf 20 = .ok (.if_icmp .eq 53, 3) := by decide +kernel
theorem dX6_groupOf_23 : decode cX6_groupOf 23 = .ok (.iload_n 3, 1) := by decide +kernel
theorem dX6_groupOf_24 : decode cX6_groupOf 24 = .ok (.istore 4, 2) := by decide +kernel
theorem dX6_groupOf_26 : decode cX6_groupOf 26 = .ok (.iconst 0, 1) := by decide +kernel
theorem dX6_groupOf_27 : decode cX6_groupOf 27 = .ok (.istore 6, 2) := by decide +kernel
theorem dX6_groupOf_29 : decode cX6_groupOf 29 = .ok (.iload 6, 2) := by decide +kernel
theorem dX6_groupOf_31 : decode cX6_groupOf 31 = .ok (.bipush 12, 2) := by decide +kernel
theorem dX6_groupOf_33 : decode cX6_groupOf 33 = .ok (.if_icmp .ge 34, 3) := by decide +kernel
theorem dX6_groupOf_36 : decode cX6_groupOf 36 = .ok (.iload_n 3, 1) := by decide +kernel
theorem dX6_groupOf_37 : decode cX6_groupOf 37 = .ok (.iload_n 3, 1) := by decide +kernel
theorem dX6_groupOf_38 : decode cX6_groupOf 38 = .ok (.iload 6, 2) := by decide +kernel
theorem dX6_groupOf_40 : decode cX6_groupOf 40 = .ok (.invokestatic 52, 3) := by decide +kernel
theorem dX6_groupOf_43 : decode cX6_groupOf 43 = .ok (.ifCond .eq 15, 3) := by decide +kernel
theorem dX6_groupOf_46 : decode cX6_groupOf 46 = .ok (.aload_n 0, 1) := by decide +kernel
theorem dX6_groupOf_47 : decode cX6_groupOf 47 = .ok (.getfield 18, 3) := by decide +kernel
theorem dX6_groupOf_50 : decode cX6_groupOf 50 = .ok (.iload 6, 2) := by decide +kernel
theorem dX6_groupOf_52 : decode cX6_groupOf 52 = .ok (.iaload, 1) := by decide +kernel
theorem dX6_groupOf_53 : decode cX6_groupOf 53 = .ok (.iload_n 2, 1) := by decide +kernel
theorem dX6_groupOf_54 : decode cX6_groupOf 54 = .ok (.iand, 1) := by decide +kernel
theorem dX6_groupOf_55 : decode cX6_groupOf 55 = .ok (.goto 4, 3) := by decide +kernel
theorem dX6_groupOf_58 : decode cX6_groupOf 58 = .ok (.iconst 0, 1) := by decide +kernel
theorem dX6_groupOf_59 : decode cX6_groupOf 59 = .ok (.ior, 1) := by decide +kernel
theorem dX6_groupOf_60 : decode cX6_groupOf 60 = .ok (.istore_n 3, 1) := by decide +kernel
theorem dX6_groupOf_61 : decode cX6_groupOf 61 = .ok (.iinc 6 1, 3) := by decide +kernel
theorem dX6_groupOf_64 : decode cX6_groupOf 64 = .ok (.goto (-35), 3) := by decide +kernel
theorem dX6_groupOf_67 : decode cX6_groupOf 67 = .ok (.iinc 5 1, 3) := by decide +kernel
theorem dX6_groupOf_70 : decode cX6_groupOf 70 = .ok (.goto (-60), 3) := by decide +kernel
theorem dX6_groupOf_73 : decode cX6_groupOf 73 = .ok (.iload_n 3, 1) := by decide +kernel
theorem dX6_groupOf_74 : decode cX6_groupOf 74 = .ok (.ireturn, 1) := by decide +kernel
theorem dX6_cheapestWeight_0 : decode cX6_cheapestWeight 0 = .ok (.lconst 0, 1) := by decide +kernel
theorem dX6_cheapestWeight_1 : decode cX6_cheapestWeight 1 = .ok (.lstore_n 3, 1) := by decide +kernel
theorem dX6_cheapestWeight_2 : decode cX6_cheapestWeight 2 = .ok (.iconst 0, 1) := by decide +kernel
theorem dX6_cheapestWeight_3 : decode cX6_cheapestWeight 3 = .ok (.istore 5, 2) := by decide +kernel
theorem dX6_cheapestWeight_5 : decode cX6_cheapestWeight 5 = .ok (.iload 5, 2) := by decide +kernel
theorem dX6_cheapestWeight_7 : decode cX6_cheapestWeight 7 = .ok (.bipush 12, 2) := by decide +kernel
theorem dX6_cheapestWeight_9 : decode cX6_cheapestWeight 9 = .ok (.if_icmp .ge 47, 3) := by decide +kernel
theorem dX6_cheapestWeight_12 : decode cX6_cheapestWeight 12 = .ok (.iload_n 1, 1) := by decide +kernel
theorem dX6_cheapestWeight_13 : decode cX6_cheapestWeight 13 = .ok (.iload 5, 2) := by decide +kernel
theorem dX6_cheapestWeight_15 : decode cX6_cheapestWeight 15 = .ok (.invokestatic 52, 3) := by decide +kernel
theorem dX6_cheapestWeight_18 : decode cX6_cheapestWeight 18 = .ok (.ifCond .eq 32, 3) := by decide +kernel
theorem dX6_cheapestWeight_21 : decode cX6_cheapestWeight 21 = .ok (.aload_n 2, 1) := by decide +kernel
theorem dX6_cheapestWeight_22 : decode cX6_cheapestWeight 22 = .ok (.iload 5, 2) := by decide +kernel
theorem dX6_cheapestWeight_24 : decode cX6_cheapestWeight 24 = .ok (.iaload, 1) := by decide +kernel
theorem dX6_cheapestWeight_25 : decode cX6_cheapestWeight 25 = .ok (.ifCond .ne 7, 3) := by decide +kernel
theorem dX6_cheapestWeight_28 : decode cX6_cheapestWeight 28 = .ok (.ldc2_w 42, 3) := by decide +kernel
theorem dX6_cheapestWeight_31 : decode cX6_cheapestWeight 31 = .ok (.lreturn, 1) := by decide +kernel
theorem dX6_cheapestWeight_32 : decode cX6_cheapestWeight 32 = .ok (.lload_n 3, 1) := by decide +kernel
theorem dX6_cheapestWeight_33 : decode cX6_cheapestWeight 33 = .ok (.aload_n 0, 1) := by decide +kernel
theorem dX6_cheapestWeight_34 : decode cX6_cheapestWeight 34 = .ok (.iload 5, 2) := by decide +kernel
theorem dX6_cheapestWeight_36 : decode cX6_cheapestWeight 36 = .ok (.aload_n 0, 1) := by decide +kernel
theorem dX6_cheapestWeight_37 : decode cX6_cheapestWeight 37 = .ok (.getfield 24, 3) := by decide +kernel
theorem dX6_cheapestWeight_40 : decode cX6_cheapestWeight 40 = .ok (.aload_n 2, 1) := by decide +kernel
theorem dX6_cheapestWeight_41 : decode cX6_cheapestWeight 41 = .ok (.iload 5, 2) := by decide +kernel
theorem dX6_cheapestWeight_43 : decode cX6_cheapestWeight 43 = .ok (.iaload, 1) := by decide +kernel
theorem dX6_cheapestWeight_44 : decode cX6_cheapestWeight 44 = .ok (.iaload, 1) := by decide +kernel
theorem dX6_cheapestWeight_45 : decode cX6_cheapestWeight 45 = .ok (.invokevirtual 83, 3) := by decide +kernel
theorem dX6_cheapestWeight_48 : decode cX6_cheapestWeight 48 = .ok (.ladd, 1) := by decide +kernel
theorem dX6_cheapestWeight_49 : decode cX6_cheapestWeight 49 = .ok (.lstore_n 3, 1) := by decide +kernel
theorem dX6_cheapestWeight_50 : decode cX6_cheapestWeight 50 = .ok (.iinc 5 1, 3) := by decide +kernel
theorem dX6_cheapestWeight_53 : decode cX6_cheapestWeight 53 = .ok (.goto (-48), 3) := by decide +kernel
theorem dX6_cheapestWeight_56 : decode cX6_cheapestWeight 56 = .ok (.lload_n 3, 1) := by decide +kernel
theorem dX6_cheapestWeight_57 : decode cX6_cheapestWeight 57 = .ok (.lreturn, 1) := by decide +kernel
theorem dX6_clashing_0 : decode cX6_clashing 0 = .ok (.aload_n 0, 1) := by decide +kernel
theorem dX6_clashing_1 : decode cX6_clashing 1 = .ok (.iload_n 1, 1) := by decide +kernel
theorem dX6_clashing_2 : decode cX6_clashing 2 = .ok (.aload_n 2, 1) := by decide +kernel
theorem dX6_clashing_3 : decode cX6_clashing 3 = .ok (.invokevirtual 87, 3) := by decide +kernel
theorem dX6_clashing_6 : decode cX6_clashing 6 = .ok (.iconst (-1), 1) := by decide +kernel
theorem dX6_clashing_7 : decode cX6_clashing 7 = .ok (.istore_n 3, 1) := by decide +kernel
theorem dX6_clashing_8 : decode cX6_clashing 8 = .ok (.iconst (-1), 1) := by decide +kernel
theorem dX6_clashing_9 : decode cX6_clashing 9 = .ok (.istore 4, 2) := by decide +kernel
theorem dX6_clashing_11 : decode cX6_clashing 11 = .ok (.iconst 0, 1) := by decide +kernel
theorem dX6_clashing_12 : decode cX6_clashing 12 = .ok (.istore 5, 2) := by decide +kernel
theorem dX6_clashing_14 : decode cX6_clashing 14 = .ok (.iload 5, 2) := by decide +kernel
theorem dX6_clashing_16 : decode cX6_clashing 16 = .ok (.bipush 12, 2) := by decide +kernel
theorem dX6_clashing_18 : decode cX6_clashing 18 = .ok (.if_icmp .ge 87, 3) := by decide +kernel
theorem dX6_clashing_21 : decode cX6_clashing 21 = .ok (.iload_n 1, 1) := by decide +kernel
theorem dX6_clashing_22 : decode cX6_clashing 22 = .ok (.iload 5, 2) := by decide +kernel
theorem dX6_clashing_24 : decode cX6_clashing 24 = .ok (.invokestatic 52, 3) := by decide +kernel
theorem dX6_clashing_27 : decode cX6_clashing 27 = .ok (.ifCond .eq 72, 3) := by decide +kernel
theorem dX6_clashing_30 : decode cX6_clashing 30 = .ok (.aload_n 0, 1) := by decide +kernel
theorem dX6_clashing_31 : decode cX6_clashing 31 = .ok (.getfield 18, 3) := by decide +kernel
theorem dX6_clashing_34 : decode cX6_clashing 34 = .ok (.iload 5, 2) := by decide +kernel
theorem dX6_clashing_36 : decode cX6_clashing 36 = .ok (.iaload, 1) := by decide +kernel
theorem dX6_clashing_37 : decode cX6_clashing 37 = .ok (.aload_n 0, 1) := by decide +kernel
theorem dX6_clashing_38 : decode cX6_clashing 38 = .ok (.aload_n 0, 1) := by decide +kernel
theorem dX6_clashing_39 : decode cX6_clashing 39 = .ok (.getfield 24, 3) := by decide +kernel
theorem dX6_clashing_42 : decode cX6_clashing 42 = .ok (.aload_n 2, 1) := by decide +kernel
theorem dX6_clashing_43 : decode cX6_clashing 43 = .ok (.iload 5, 2) := by decide +kernel
theorem dX6_clashing_45 : decode cX6_clashing 45 = .ok (.iaload, 1) := by decide +kernel
theorem dX6_clashing_46 : decode cX6_clashing 46 = .ok (.iaload, 1) := by decide +kernel
theorem dX6_clashing_47 : decode cX6_clashing 47 = .ok (.invokevirtual 91, 3) := by decide +kernel
theorem dX6_clashing_50 : decode cX6_clashing 50 = .ok (.iand, 1) := by decide +kernel
theorem dX6_clashing_51 : decode cX6_clashing 51 = .ok (.ifCond .eq 48, 3) := by decide +kernel
theorem dX6_clashing_54 : decode cX6_clashing 54 = .ok (.iconst 4, 1) := by decide +kernel
theorem dX6_clashing_55 : decode cX6_clashing 55 = .ok (.aload_n 2, 1) := by decide +kernel
theorem dX6_clashing_56 : decode cX6_clashing 56 = .ok (.iload 5, 2) := by decide +kernel
theorem dX6_clashing_58 : decode cX6_clashing 58 = .ok (.iaload, 1) := by decide +kernel
theorem dX6_clashing_59 : decode cX6_clashing 59 = .ok (.invokestatic 94, 3) := by decide +kernel
theorem dX6_clashing_62 : decode cX6_clashing 62 = .ok (.isub, 1) := by decide +kernel
theorem dX6_clashing_63 : decode cX6_clashing 63 = .ok (.istore 6, 2) := by decide +kernel
theorem dX6_clashing_65 : decode cX6_clashing 65 = .ok (.iload 6, 2) := by decide +kernel
theorem dX6_clashing_67 : decode cX6_clashing 67 = .ok (.bipush 12, 2) := by decide +kernel
theorem dX6_clashing_69 : decode cX6_clashing 69 = .ok (.imul, 1) := by decide +kernel
theorem dX6_clashing_70 : decode cX6_clashing 70 = .ok (.aload_n 0, 1) := by decide +kernel
theorem dX6_clashing_71 : decode cX6_clashing 71 = .ok (.getfield 18, 3) := by decide +kernel
theorem dX6_clashing_74 : decode cX6_clashing 74 = .ok (.iload 5, 2) := by decide +kernel
theorem dX6_clashing_76 : decode cX6_clashing 76 = .ok (.iaload, 1) := by decide +kernel
theorem dX6_clashing_77 : decode cX6_clashing 77 = .ok (.iload_n 1, 1) := by decide +kernel
theorem dX6_clashing_78 : decode cX6_clashing 78 = .ok (.iand, 1) := by decide +kernel
theorem dX6_clashing_79 : decode cX6_clashing 79 = .ok (.invokestatic 94, 3) := by decide +kernel
theorem dX6_clashing_82 : decode cX6_clashing 82 = .ok (.iadd, 1) := by decide +kernel
theorem dX6_clashing_83 : decode cX6_clashing 83 = .ok (.istore 7, 2) := by decide +kernel
theorem dX6_clashing_85 : decode cX6_clashing 85 = .ok (.iload 7, 2) := by decide +kernel
theorem dX6_clashing_87 : decode cX6_clashing 87 = .ok (.iload 4, 2) := by decide +kernel
theorem dX6_clashing_89 : decode cX6_clashing 89 = .ok (.if_icmp .le 10, 3) := by decide +kernel
theorem dX6_clashing_92 : decode cX6_clashing 92 = .ok (.iload 5, 2) := by decide +kernel
theorem dX6_clashing_94 : decode cX6_clashing 94 = .ok (.istore_n 3, 1) := by decide +kernel
theorem dX6_clashing_95 : decode cX6_clashing 95 = .ok (.iload 7, 2) := by decide +kernel
theorem dX6_clashing_97 : decode cX6_clashing 97 = .ok (.istore 4, 2) := by decide +kernel
theorem dX6_clashing_99 : decode cX6_clashing 99 = .ok (.iinc 5 1, 3) := by decide +kernel
theorem dX6_clashing_102 : decode cX6_clashing 102 = .ok (.goto (-88), 3) := by decide +kernel
theorem dX6_clashing_105 : decode cX6_clashing 105 = .ok (.iload_n 3, 1) := by decide +kernel
theorem dX6_clashing_106 : decode cX6_clashing 106 = .ok (.ireturn, 1) := by decide +kernel
theorem dX6_listTakers_0 : decode cX6_listTakers 0 = .ok (.iconst 0, 1) := by decide +kernel
theorem dX6_listTakers_1 : decode cX6_listTakers 1 = .ok (.istore_n 3, 1) := by decide +kernel
theorem dX6_listTakers_2 : decode cX6_listTakers 2 = .ok (.iload_n 3, 1) := by decide +kernel
theorem dX6_listTakers_3 : decode cX6_listTakers 3 = .ok (.iconst 4, 1) := by decide +kernel
theorem dX6_listTakers_4 : decode cX6_listTakers 4 = .ok (.if_icmp .ge 16, 3) := by decide +kernel
theorem dX6_listTakers_7 : decode cX6_listTakers 7 = .ok (.aload_n 0, 1) := by decide +kernel
theorem dX6_listTakers_8 : decode cX6_listTakers 8 = .ok (.getfield 27, 3) := by decide +kernel
theorem dX6_listTakers_11 : decode cX6_listTakers 11 = .ok (.iload_n 3, 1) := by decide +kernel
theorem dX6_listTakers_12 : decode cX6_listTakers 12 = .ok (.iconst 0, 1) := by decide +kernel
theorem dX6_listTakers_13 : decode cX6_listTakers 13 = .ok (.iastore, 1) := by decide +kernel
theorem dX6_listTakers_14 : decode cX6_listTakers 14 = .ok (.iinc 3 1, 3) := by decide +kernel
theorem dX6_listTakers_17 : decode cX6_listTakers 17 = .ok (.goto (-15), 3) := by decide +kernel
theorem dX6_listTakers_20 : decode cX6_listTakers 20 = .ok (.iconst 0, 1) := by decide +kernel
theorem dX6_listTakers_21 : decode cX6_listTakers 21 = .ok (.istore_n 3, 1) := by decide +kernel
theorem dX6_listTakers_22 : decode cX6_listTakers 22 = .ok (.iload_n 3, 1) := by decide +kernel
theorem dX6_listTakers_23 : decode cX6_listTakers 23 = .ok (.bipush 12, 2) := by decide +kernel
theorem dX6_listTakers_25 : decode cX6_listTakers 25 = .ok (.if_icmp .ge 36, 3) := by decide +kernel
theorem dX6_listTakers_28 : decode cX6_listTakers 28 = .ok (.iload_n 1, 1) := by decide +kernel
theorem dX6_listTakers_29 : decode cX6_listTakers 29 = .ok (.iload_n 3, 1) := by decide +kernel
theorem dX6_listTakers_30 : decode cX6_listTakers 30 = .ok (.invokestatic 52, 3) := by decide +kernel
theorem dX6_listTakers_33 : decode cX6_listTakers 33 = .ok (.ifCond .eq 22, 3) := by decide +kernel
theorem dX6_listTakers_36 : decode cX6_listTakers 36 = .ok (.aload_n 0, 1) := by decide +kernel
theorem dX6_listTakers_37 : decode cX6_listTakers 37 = .ok (.getfield 27, 3) := by decide +kernel
theorem dX6_listTakers_40 : decode cX6_listTakers 40 = .ok (.aload_n 0, 1) := by decide +kernel
theorem dX6_listTakers_41 : decode cX6_listTakers 41 = .ok (.getfield 24, 3) := by decide +kernel
theorem dX6_listTakers_44 : decode cX6_listTakers 44 = .ok (.aload_n 2, 1) := by decide +kernel
theorem dX6_listTakers_45 : decode cX6_listTakers 45 = .ok (.iload_n 3, 1) := by decide +kernel
theorem dX6_listTakers_46 : decode cX6_listTakers 46 = .ok (.iaload, 1) := by decide +kernel
theorem dX6_listTakers_47 : decode cX6_listTakers 47 = .ok (.iaload, 1) := by decide +kernel
theorem dX6_listTakers_48 : decode cX6_listTakers 48 = .ok (.dup2, 1) := by decide +kernel
theorem dX6_listTakers_49 : decode cX6_listTakers 49 = .ok (.iaload, 1) := by decide +kernel
theorem dX6_listTakers_50 : decode cX6_listTakers 50 = .ok (.iconst 1, 1) := by decide +kernel
theorem dX6_listTakers_51 : decode cX6_listTakers 51 = .ok (.iload_n 3, 1) := by decide +kernel
theorem dX6_listTakers_52 : decode cX6_listTakers 52 = .ok (.ishl, 1) := by decide +kernel
theorem dX6_listTakers_53 : decode cX6_listTakers 53 = .ok (.ior, 1) := by decide +kernel
theorem dX6_listTakers_54 : decode cX6_listTakers 54 = .ok (.iastore, 1) := by decide +kernel
theorem dX6_listTakers_55 : decode cX6_listTakers 55 = .ok (.iinc 3 1, 3) := by decide +kernel
theorem dX6_listTakers_58 : decode cX6_listTakers 58 = .ok (.goto (-36), 3) := by decide +kernel
theorem dX6_listTakers_61 : decode cX6_listTakers 61 = .ok (.return_, 1) := by decide +kernel
theorem dX6_clashWith_0 : decode cX6_clashWith 0 = .ok (.iconst 0, 1) := by decide +kernel
theorem dX6_clashWith_1 : decode cX6_clashWith 1 = .ok (.istore_n 2, 1) := by decide +kernel
theorem dX6_clashWith_2 : decode cX6_clashWith 2 = .ok (.iconst 0, 1) := by decide +kernel
theorem dX6_clashWith_3 : decode cX6_clashWith 3 = .ok (.istore_n 3, 1) := by decide +kernel
theorem dX6_clashWith_4 : decode cX6_clashWith 4 = .ok (.iload_n 3, 1) := by decide +kernel
theorem dX6_clashWith_5 : decode cX6_clashWith 5 = .ok (.iconst 4, 1) := by decide +kernel
theorem dX6_clashWith_6 : decode cX6_clashWith 6 = .ok (.if_icmp .ge 35, 3) := by decide +kernel
theorem dX6_clashWith_9 : decode cX6_clashWith 9 = .ok (.iload_n 2, 1) := by decide +kernel
theorem dX6_clashWith_10 : decode cX6_clashWith 10 = .ok (.aload_n 0, 1) := by decide +kernel
theorem dX6_clashWith_11 : decode cX6_clashWith 11 = .ok (.getfield 11, 3) := by decide +kernel
theorem dX6_clashWith_14 : decode cX6_clashWith 14 = .ok (.iload_n 1, 1) := by decide +kernel
theorem dX6_clashWith_15 : decode cX6_clashWith 15 = .ok (.iaload, 1) := by decide +kernel
theorem dX6_clashWith_16 : decode cX6_clashWith 16 = .ok (.iload_n 3, 1) := by decide +kernel
theorem dX6_clashWith_17 : decode cX6_clashWith 17 = .ok (.invokestatic 52, 3) := by decide +kernel
theorem dX6_clashWith_20 : decode cX6_clashWith 20 = .ok (.ifCond .eq 7, 3) := by decide +kernel
theorem dX6_clashWith_23 : decode cX6_clashWith 23 = .ok (.iconst 0, 1) := by decide +kernel
theorem dX6_clashWith_24 : decode cX6_clashWith 24 = .ok (.goto 9, 3) := by decide +kernel
theorem dX6_clashWith_27 : decode cX6_clashWith 27 = .ok (.aload_n 0, 1) := by decide +kernel
theorem dX6_clashWith_28 : decode cX6_clashWith 28 = .ok (.getfield 27, 3) := by decide +kernel
theorem dX6_clashWith_31 : decode cX6_clashWith 31 = .ok (.iload_n 3, 1) := by decide +kernel
theorem dX6_clashWith_32 : decode cX6_clashWith 32 = .ok (.iaload, 1) := by decide +kernel
theorem dX6_clashWith_33 : decode cX6_clashWith 33 = .ok (.ior, 1) := by decide +kernel
theorem dX6_clashWith_34 : decode cX6_clashWith 34 = .ok (.istore_n 2, 1) := by decide +kernel
theorem dX6_clashWith_35 : decode cX6_clashWith 35 = .ok (.iinc 3 1, 3) := by decide +kernel
theorem dX6_clashWith_38 : decode cX6_clashWith 38 = .ok (.goto (-34), 3) := by decide +kernel
theorem dX6_clashWith_41 : decode cX6_clashWith 41 = .ok (.iload_n 2, 1) := by decide +kernel
theorem dX6_clashWith_42 : decode cX6_clashWith 42 = .ok (.ireturn, 1) := by decide +kernel
