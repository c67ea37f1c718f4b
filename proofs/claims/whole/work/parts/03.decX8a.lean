theorem dX8_init_0 : decode cX8_init 0 = .ok (.aload_n 0, 1) := by decide +kernel
theorem dX8_init_1 : decode cX8_init 1 = .ok (.invokespecial 1, 3) := by decide +kernel
theorem dX8_init_4 : decode cX8_init 4 = .ok (.aload_n 0, 1) := by decide +kernel
theorem dX8_init_5 : decode cX8_init 5 = .ok (.iconst 2, 1) := by decide +kernel
theorem dX8_init_6 : decode cX8_init 6 = .ok (.putfield 7, 3) := by decide +kernel
theorem dX8_init_9 : decode cX8_init 9 = .ok (.aload_n 0, 1) := by decide +kernel
theorem dX8_init_10 : decode cX8_init 10 = .ok (.bipush 8, 2) := by decide +kernel
theorem dX8_init_12 : decode cX8_init 12 = .ok (.newarray .int, 2) := by decide +kernel
theorem dX8_init_14 : decode cX8_init 14 = .ok (.putfield 13, 3) := by decide +kernel
theorem dX8_init_17 : decode cX8_init 17 = .ok (.aload_n 0, 1) := by decide +kernel
theorem dX8_init_18 : decode cX8_init 18 = .ok (.bipush 8, 2) := by decide +kernel
theorem dX8_init_20 : decode cX8_init 20 = .ok (.newarray .int, 2) := by decide +kernel
theorem dX8_init_22 : decode cX8_init 22 = .ok (.putfield 17, 3) := by decide +kernel
theorem dX8_init_25 : decode cX8_init 25 = .ok (.aload_n 0, 1) := by decide +kernel
theorem dX8_init_26 : decode cX8_init 26 = .ok (.bipush 12, 2) := by decide +kernel
theorem dX8_init_28 : decode cX8_init 28 = .ok (.newarray .int, 2) := by decide +kernel
theorem dX8_init_30 : decode cX8_init 30 = .ok (.putfield 20, 3) := by decide +kernel
theorem dX8_init_33 : decode cX8_init 33 = .ok (.aload_n 0, 1) := by decide +kernel
theorem dX8_init_34 : decode cX8_init 34 = .ok (.bipush 12, 2) := by decide +kernel
theorem dX8_init_36 : decode cX8_init 36 = .ok (.newarray .int, 2) := by decide +kernel
theorem dX8_init_38 : decode cX8_init 38 = .ok (.putfield 23, 3) := by decide +kernel
theorem dX8_init_41 : decode cX8_init 41 = .ok (.aload_n 0, 1) := by decide +kernel
theorem dX8_init_42 : decode cX8_init 42 = .ok (.bipush 12, 2) := by decide +kernel
theorem dX8_init_44 : decode cX8_init 44 = .ok (.newarray .int, 2) := by decide +kernel
theorem dX8_init_46 : decode cX8_init 46 = .ok (.putfield 26, 3) := by decide +kernel
theorem dX8_init_49 : decode cX8_init 49 = .ok (.aload_n 0, 1) := by decide +kernel
theorem dX8_init_50 : decode cX8_init 50 = .ok (.bipush 96, 2) := by decide +kernel
theorem dX8_init_52 : decode cX8_init 52 = .ok (.newarray .int, 2) := by decide +kernel
theorem dX8_init_54 : decode cX8_init 54 = .ok (.putfield 29, 3) := by decide +kernel
theorem dX8_init_57 : decode cX8_init 57 = .ok (.aload_n 0, 1) := by decide +kernel
theorem dX8_init_58 : decode cX8_init 58 = .ok (.bipush 96, 2) := by decide +kernel
theorem dX8_init_60 : decode cX8_init 60 = .ok (.newarray .int, 2) := by decide +kernel
theorem dX8_init_62 : decode cX8_init 62 = .ok (.putfield 32, 3) := by decide +kernel
theorem dX8_init_65 : decode cX8_init 65 = .ok (.aload_n 0, 1) := by decide +kernel
theorem dX8_init_66 : decode cX8_init 66 = .ok (.sipush 6912, 3) := by decide +kernel
theorem dX8_init_69 : decode cX8_init 69 = .ok (.newarray .boolean, 2) := by decide +kernel
theorem dX8_init_71 : decode cX8_init 71 = .ok (.putfield 35, 3) := by decide +kernel
theorem dX8_init_74 : decode cX8_init 74 = .ok (.aload_n 0, 1) := by decide +kernel
theorem dX8_init_75 : decode cX8_init 75 = .ok (.sipush 144, 3) := by decide +kernel
theorem dX8_init_78 : decode cX8_init 78 = .ok (.newarray .boolean, 2) := by decide +kernel
theorem dX8_init_80 : decode cX8_init 80 = .ok (.putfield 39, 3) := by decide +kernel
theorem dX8_init_83 : decode cX8_init 83 = .ok (.aload_n 0, 1) := by decide +kernel
theorem dX8_init_84 : decode cX8_init 84 = .ok (.bipush 16, 2) := by decide +kernel
theorem dX8_init_86 : decode cX8_init 86 = .ok (.newarray .boolean, 2) := by decide +kernel
theorem dX8_init_88 : decode cX8_init 88 = .ok (.putfield 42, 3) := by decide +kernel
theorem dX8_init_91 : decode cX8_init 91 = .ok (.aload_n 0, 1) := by decide +kernel
theorem dX8_init_92 : decode cX8_init 92 = .ok (.iconst 4, 1) := by decide +kernel
theorem dX8_init_93 : decode cX8_init 93 = .ok (.newarray .int, 2) := by decide +kernel
theorem dX8_init_95 : decode cX8_init 95 = .ok (.putfield 45, 3) := by decide +kernel
theorem dX8_init_98 : decode cX8_init 98 = .ok (.aload_n 0, 1) := by decide +kernel
theorem dX8_init_99 : decode cX8_init 99 = .ok (.bipush 12, 2) := by decide +kernel
theorem dX8_init_101 : decode cX8_init 101 = .ok (.newarray .int, 2) := by decide +kernel
theorem dX8_init_103 : decode cX8_init 103 = .ok (.putfield 48, 3) := by decide +kernel
theorem dX8_init_106 : decode cX8_init 106 = .ok (.aload_n 0, 1) := by decide +kernel
theorem dX8_init_107 : decode cX8_init 107 = .ok (.bipush 12, 2) := by decide +kernel
theorem dX8_init_109 : decode cX8_init 109 = .ok (.newarray .int, 2) := by decide +kernel
theorem dX8_init_111 : decode cX8_init 111 = .ok (.putfield 51, 3) := by decide +kernel
theorem dX8_init_114 : decode cX8_init 114 = .ok (.aload_n 0, 1) := by decide +kernel
theorem dX8_init_115 : decode cX8_init 115 = .ok (.bipush 12, 2) := by decide +kernel
theorem dX8_init_117 : decode cX8_init 117 = .ok (.newarray .int, 2) := by decide +kernel
theorem dX8_init_119 : decode cX8_init 119 = .ok (.putfield 54, 3) := by decide +kernel
theorem dX8_init_122 : decode cX8_init 122 = .ok (.aload_n 0, 1) := by decide +kernel
theorem dX8_init_123 : decode cX8_init 123 = .ok (.bipush 12, 2) := by decide +kernel
theorem dX8_init_125 : decode cX8_init 125 = .ok (.newarray .int, 2) := by decide +kernel
theorem dX8_init_127 : decode cX8_init 127 = .ok (.putfield 57, 3) := by decide +kernel
theorem dX8_init_130 : decode cX8_init 130 = .ok (.aload_n 0, 1) := by decide +kernel
theorem dX8_init_131 : decode cX8_init 131 = .ok (.bipush 12, 2) := by decide +kernel
theorem dX8_init_133 : decode cX8_init 133 = .ok (.newarray .int, 2) := by decide +kernel
theorem dX8_init_135 : decode cX8_init 135 = .ok (.putfield 60, 3) := by decide +kernel
theorem dX8_init_138 : decode cX8_init 138 = .ok (.aload_n 0, 1) := by decide +kernel
theorem dX8_init_139 : decode cX8_init 139 = .ok (.bipush 12, 2) := by decide +kernel
theorem dX8_init_141 : decode cX8_init 141 = .ok (.newarray .int, 2) := by decide +kernel
theorem dX8_init_143 : decode cX8_init 143 = .ok (.putfield 63, 3) := by decide +kernel
theorem dX8_init_146 : decode cX8_init 146 = .ok (.aload_n 0, 1) := by decide +kernel
theorem dX8_init_147 : decode cX8_init 147 = .ok (.sipush 576, 3) := by decide +kernel
theorem dX8_init_150 : decode cX8_init 150 = .ok (.newarray .boolean, 2) := by decide +kernel
theorem dX8_init_152 : decode cX8_init 152 = .ok (.putfield 66, 3) := by decide +kernel
theorem dX8_init_155 : decode cX8_init 155 = .ok (.aload_n 0, 1) := by decide +kernel
theorem dX8_init_156 : decode cX8_init 156 = .ok (.sipush 576, 3) := by decide +kernel
theorem dX8_init_159 : decode cX8_init 159 = .ok (.newarray .int, 2) := by decide +kernel
theorem dX8_init_161 : decode cX8_init 161 = .ok (.putfield 69, 3) := by decide +kernel
theorem dX8_init_164 : decode cX8_init 164 = .ok (.aload_n 0, 1) := by decide +kernel
theorem dX8_init_165 : decode cX8_init 165 = .ok (.sipush 576, 3) := by decide +kernel
theorem dX8_init_168 : decode cX8_init 168 = .ok (.newarray .int, 2) := by decide +kernel
theorem dX8_init_170 : decode cX8_init 170 = .ok (.putfield 72, 3) := by decide +kernel
theorem dX8_init_173 : decode cX8_init 173 = .ok (.iconst 0, 1) := by decide +kernel
theorem dX8_init_174 : decode cX8_init 174 = .ok (.istore_n 1, 1) := by decide +kernel
theorem dX8_init_175 : decode cX8_init 175 = .ok (.iload_n 1, 1) := by decide +kernel
theorem dX8_init_176 : decode cX8_init 176 = .ok (.iconst 4, 1) := by decide +kernel
theorem dX8_init_177 : decode cX8_init 177 = .ok (.if_icmp .ge 49, 3) := by decide +kernel
theorem dX8_init_180 : decode cX8_init 180 = .ok (.aload_n 0, 1) := by decide +kernel
theorem dX8_init_181 : decode cX8_init 181 = .ok (.getfield 45, 3) := by decide +kernel
theorem dX8_init_184 : decode cX8_init 184 = .ok (.iload_n 1, 1) := by decide +kernel
theorem dX8_init_185 : decode cX8_init 185 = .ok (.iload_n 1, 1) := by decide +kernel
theorem dX8_init_186 : decode cX8_init 186 = .ok (.iastore, 1) := by decide +kernel
theorem dX8_init_187 : decode cX8_init 187 = .ok (.iconst 0, 1) := by decide +kernel
theorem dX8_init_188 : decode cX8_init 188 = .ok (.istore_n 2, 1) := by decide +kernel
theorem dX8_init_189 : decode cX8_init 189 = .ok (.iload_n 2, 1) := by decide +kernel
theorem dX8_init_190 : decode cX8_init 190 = .ok (.iconst 4, 1) := by decide +kernel
theorem dX8_init_191 : decode cX8_init 191 = .ok (.if_icmp .ge 29, 3) := by decide +kernel
theorem dX8_init_194 : decode cX8_init 194 = .ok (.aload_n 0, 1) := by decide +kernel
theorem dX8_init_195 : decode cX8_init 195 = .ok (.getfield 42, 3) := by decide +kernel
theorem dX8_init_198 : decode cX8_init 198 = .ok (.iconst 4, 1) := by decide +kernel
theorem dX8_init_199 : decode cX8_init 199 = .ok (.iload_n 1, 1) := by decide +kernel
theorem dX8_init_200 : decode cX8_init 200 = .ok (.imul, 1) := by decide +kernel
theorem dX8_init_201 : decode cX8_init 201 = .ok (.iload_n 2, 1) := by decide +kernel
theorem dX8_init_202 : decode cX8_init 202 = .ok (.iadd, 1) := by decide +kernel
theorem dX8_init_203 : decode cX8_init 203 = .ok (.iload_n 1, 1) := by decide +kernel
theorem dX8_init_204 : decode cX8_init 204 = .ok (.iload_n 2, 1) := by decide +kernel
theorem dX8_init_205 : decode cX8_init 205 = .ok (.if_icmp .eq 7, 3) := by decide +kernel
theorem dX8_init_208 : decode cX8_init 208 = .ok (.iconst 1, 1) := by decide +kernel
theorem dX8_init_209 : decode cX8_init 209 = .ok (.goto 4, 3) := by decide +kernel
theorem dX8_init_212 : decode cX8_init 212 = .ok (.iconst 0, 1) := by decide +kernel
theorem dX8_init_213 : decode cX8_init 213 = .ok (.bastore, 1) := by decide +kernel
theorem dX8_init_214 : decode cX8_init 214 = .ok (.iinc 2 1, 3) := by decide +kernel
theorem dX8_init_217 : decode cX8_init 217 = .ok (.goto (-28), 3) := by decide +kernel
theorem dX8_init_220 : decode cX8_init 220 = .ok (.iinc 1 1, 3) := by decide +kernel
theorem dX8_init_223 : decode cX8_init 223 = .ok (.goto (-48), 3) := by decide +kernel
theorem dX8_init_226 : decode cX8_init 226 = .ok (.return_, 1) := by decide +kernel
theorem dX8_isIn_0 : decode cX8_isIn 0 = .ok (.iload_n 0, 1) := by decide +kernel
theorem dX8_isIn_1 : decode cX8_isIn 1 = .ok (.iload_n 1, 1) := by decide +kernel
theorem dX8_isIn_2 : decode cX8_isIn 2 = .ok (.if_icmp .lt 12, 3) := by decide +kernel
theorem dX8_isIn_5 : decode cX8_isIn 5 = .ok (.iload_n 0, 1) := by decide +kernel
theorem dX8_isIn_6 : decode cX8_isIn 6 = .ok (.iload_n 2, 1) := by decide +kernel
theorem dX8_isIn_7 : decode cX8_isIn 7 = .ok (.if_icmp .gt 7, 3) := by decide +kernel
theorem dX8_isIn_10 : decode cX8_isIn 10 = .ok (.iconst 1, 1) := by decide +kernel
theorem dX8_isIn_11 : decode cX8_isIn 11 = .ok (.goto 4, 3) := by decide +kernel
theorem dX8_isIn_14 : decode cX8_isIn 14 = .ok (.iconst 0, 1) := by decide +kernel
theorem dX8_isIn_15 : decode cX8_isIn 15 = .ok (.ireturn, 1) := by decide +kernel
theorem dX8_isPin_0 : decode cX8_isPin 0 = .ok (.iload_n 0, 1) := by decide +kernel
theorem dX8_isPin_1 : decode cX8_isPin 1 = .ok (.iconst 0, 1) := by decide +kernel
theorem dX8_isPin_2 : decode cX8_isPin 2 = .ok (.bipush 23, 2) := by decide +kernel
theorem dX8_isPin_4 : decode cX8_isPin 4 = .ok (.invokestatic 75, 3) := by decide +kernel
theorem dX8_isPin_7 : decode cX8_isPin 7 = .ok (.ifCond .eq 17, 3) := by decide +kernel
theorem dX8_isPin_10 : decode cX8_isPin 10 = .ok (.iload_n 1, 1) := by decide +kernel
theorem dX8_isPin_11 : decode cX8_isPin 11 = .ok (.iconst 0, 1) := by decide +kernel
theorem dX8_isPin_12 : decode cX8_isPin 12 = .ok (.bipush 23, 2) := by decide +kernel
theorem dX8_isPin_14 : decode cX8_isPin 14 = .ok (.invokestatic 75, 3) := by decide +kernel
theorem dX8_isPin_17 : decode cX8_isPin 17 = .ok (.ifCond .eq 7, 3) := by decide +kernel
theorem dX8_isPin_20 : decode cX8_isPin 20 = .ok (.iconst 1, 1) := by decide +kernel
theorem dX8_isPin_21 : decode cX8_isPin 21 = .ok (.goto 4, 3) := by decide +kernel
theorem dX8_isPin_24 : decode cX8_isPin 24 = .ok (.iconst 0, 1) := by decide +kernel
theorem dX8_isPin_25 : decode cX8_isPin 25 = .ok (.ireturn, 1) := by decide +kernel
theorem dX8_isShape_0 : decode cX8_isShape 0 = .ok (.iload_n 1, 1) := by decide +kernel
theorem dX8_isShape_1 : decode cX8_isShape 1 = .ok (.iconst 0, 1) := by decide +kernel
theorem dX8_isShape_2 : decode cX8_isShape 2 = .ok (.aload_n 0, 1) := by decide +kernel
theorem dX8_isShape_3 : decode cX8_isShape 3 = .ok (.getfield 79, 3) := by decide +kernel
theorem dX8_isShape_6 : decode cX8_isShape 6 = .ok (.iconst 1, 1) := by decide +kernel
theorem dX8_isShape_7 : decode cX8_isShape 7 = .ok (.isub, 1) := by decide +kernel
theorem dX8_isShape_8 : decode cX8_isShape 8 = .ok (.invokestatic 75, 3) := by decide +kernel
theorem dX8_isShape_11 : decode cX8_isShape 11 = .ok (.ireturn, 1) := by decide +kernel
theorem dX8_corner_0 : decode cX8_corner 0 = .ok (.iload_n 1, 1) := by decide +kernel
theorem dX8_corner_1 : decode cX8_corner 1 = .ok (.iload_n 2, 1) := by decide +kernel
theorem dX8_corner_2 : decode cX8_corner 2 = .ok (.invokestatic 82, 3) := by decide +kernel
theorem dX8_corner_5 : decode cX8_corner 5 = .ok (.ifCond .eq 12, 3) := by decide +kernel
theorem dX8_corner_8 : decode cX8_corner 8 = .ok (.aload_n 0, 1) := by decide +kernel
theorem dX8_corner_9 : decode cX8_corner 9 = .ok (.getfield 86, 3) := by decide +kernel
theorem dX8_corner_12 : decode cX8_corner 12 = .ok (.bipush 8, 2) := by decide +kernel
theorem dX8_corner_14 : decode cX8_corner 14 = .ok (.if_icmp .ne 5, 3) := by decide +kernel
theorem dX8_corner_17 : decode cX8_corner 17 = .ok (.iconst (-1), 1) := by decide +kernel
theorem dX8_corner_18 : decode cX8_corner 18 = .ok (.ireturn, 1) := by decide +kernel
theorem dX8_corner_19 : decode cX8_corner 19 = .ok (.aload_n 0, 1) := by decide +kernel
theorem dX8_corner_20 : decode cX8_corner 20 = .ok (.getfield 13, 3) := by decide +kernel
theorem dX8_corner_23 : decode cX8_corner 23 = .ok (.aload_n 0, 1) := by decide +kernel
theorem dX8_corner_24 : decode cX8_corner 24 = .ok (.getfield 86, 3) := by decide +kernel
theorem dX8_corner_27 : decode cX8_corner 27 = .ok (.iload_n 1, 1) := by decide +kernel
theorem dX8_corner_28 : decode cX8_corner 28 = .ok (.iastore, 1) := by decide +kernel
theorem dX8_corner_29 : decode cX8_corner 29 = .ok (.aload_n 0, 1) := by decide +kernel
theorem dX8_corner_30 : decode cX8_corner 30 = .ok (.getfield 17, 3) := by decide +kernel
theorem dX8_corner_33 : decode cX8_corner 33 = .ok (.aload_n 0, 1) := by decide +kernel
theorem dX8_corner_34 : decode cX8_corner 34 = .ok (.getfield 86, 3) := by decide +kernel
theorem dX8_corner_37 : decode cX8_corner 37 = .ok (.iload_n 2, 1) := by decide +kernel
theorem dX8_corner_38 : decode cX8_corner 38 = .ok (.iastore, 1) := by decide +kernel
theorem dX8_corner_39 : decode cX8_corner 39 = .ok (.aload_n 0, 1) := by decide +kernel
theorem dX8_corner_40 : decode cX8_corner 40 = .ok (.dup, 1) := by decide +kernel
theorem dX8_corner_41 : decode cX8_corner 41 = .ok (.getfield 86, 3) := by decide +kernel
theorem dX8_corner_44 : decode cX8_corner 44 = .ok (.iconst 1, 1) := by decide +kernel
theorem dX8_corner_45 : decode cX8_corner 45 = .ok (.iadd, 1) := by decide +kernel
theorem dX8_corner_46 : decode cX8_corner 46 = .ok (.putfield 86, 3) := by decide +kernel
theorem dX8_corner_49 : decode cX8_corner 49 = .ok (.aload_n 0, 1) := by decide +kernel
theorem dX8_corner_50 : decode cX8_corner 50 = .ok (.getfield 86, 3) := by decide +kernel
theorem dX8_corner_53 : decode cX8_corner 53 = .ok (.ireturn, 1) := by decide +kernel
theorem dX8_comes_0 : decode cX8_comes 0 = .ok (.aload_n 0, 1) := by decide +kernel
theorem dX8_comes_1 : decode cX8_comes 1 = .ok (.getfield 79, 3) := by decide +kernel
theorem dX8_comes_4 : decode cX8_comes 4 = .ok (.istore 4, 2) := by decide +kernel
theorem dX8_comes_6 : decode cX8_comes 6 = .ok (.aload_n 0, 1) := by decide +kernel
theorem dX8_comes_7 : decode cX8_comes 7 = .ok (.dup, 1) := by decide +kernel
theorem dX8_comes_8 : decode cX8_comes 8 = .ok (.getfield 79, 3) := by decide +kernel
theorem dX8_comes_11 : decode cX8_comes 11 = .ok (.iconst 1, 1) := by decide +kernel
theorem dX8_comes_12 : decode cX8_comes 12 = .ok (.iadd, 1) := by decide +kernel
theorem dX8_comes_13 : decode cX8_comes 13 = .ok (.putfield 79, 3) := by decide +kernel
theorem dX8_comes_16 : decode cX8_comes 16 = .ok (.aload_n 0, 1) := by decide +kernel
theorem dX8_comes_17 : decode cX8_comes 17 = .ok (.getfield 20, 3) := by decide +kernel
theorem dX8_comes_20 : decode cX8_comes 20 = .ok (.iload 4, 2) := by decide +kernel
theorem dX8_comes_22 : decode cX8_comes 22 = .ok (.iload_n 1, 1) := by decide +kernel
theorem dX8_comes_23 : decode cX8_comes 23 = .ok (.iastore, 1) := by decide +kernel
theorem dX8_comes_24 : decode cX8_comes 24 = .ok (.aload_n 0, 1) := by decide +kernel
theorem dX8_comes_25 : decode cX8_comes 25 = .ok (.getfield 23, 3) := by decide +kernel
theorem dX8_comes_28 : decode cX8_comes 28 = .ok (.iload 4, 2) := by decide +kernel
theorem dX8_comes_30 : decode cX8_comes 30 = .ok (.iload_n 2, 1) := by decide +kernel
theorem dX8_comes_31 : decode cX8_comes 31 = .ok (.iastore, 1) := by decide +kernel
theorem dX8_comes_32 : decode cX8_comes 32 = .ok (.aload_n 0, 1) := by decide +kernel
theorem dX8_comes_33 : decode cX8_comes 33 = .ok (.getfield 26, 3) := by decide +kernel
theorem dX8_comes_36 : decode cX8_comes 36 = .ok (.iload 4, 2) := by decide +kernel
theorem dX8_comes_38 : decode cX8_comes 38 = .ok (.iload_n 3, 1) := by decide +kernel
theorem dX8_comes_39 : decode cX8_comes 39 = .ok (.iastore, 1) := by decide +kernel
theorem dX8_comes_40 : decode cX8_comes 40 = .ok (.iconst 0, 1) := by decide +kernel
theorem dX8_comes_41 : decode cX8_comes 41 = .ok (.istore 5, 2) := by decide +kernel
theorem dX8_comes_43 : decode cX8_comes 43 = .ok (.iload 5, 2) := by decide +kernel
theorem dX8_comes_45 : decode cX8_comes 45 = .ok (.bipush 12, 2) := by decide +kernel
theorem dX8_comes_47 : decode cX8_comes 47 = .ok (.if_icmp .ge 37, 3) := by decide +kernel
theorem dX8_comes_50 : decode cX8_comes 50 = .ok (.aload_n 0, 1) := by decide +kernel
theorem dX8_comes_51 : decode cX8_comes 51 = .ok (.getfield 39, 3) := by decide +kernel
theorem dX8_comes_54 : decode cX8_comes 54 = .ok (.bipush 12, 2) := by decide +kernel
theorem dX8_comes_56 : decode cX8_comes 56 = .ok (.iload 4, 2) := by decide +kernel
theorem dX8_comes_58 : decode cX8_comes 58 = .ok (.imul, 1) := by decide +kernel
theorem dX8_comes_59 : decode cX8_comes 59 = .ok (.iload 5, 2) := by decide +kernel
theorem dX8_comes_61 : decode cX8_comes 61 = .ok (.iadd, 1) := by decide +kernel
theorem dX8_comes_62 : decode cX8_comes 62 = .ok (.iconst 0, 1) := by decide +kernel
theorem dX8_comes_63 : decode cX8_comes 63 = .ok (.bastore, 1) := by decide +kernel
theorem dX8_comes_64 : decode cX8_comes 64 = .ok (.aload_n 0, 1) := by decide +kernel
theorem dX8_comes_65 : decode cX8_comes 65 = .ok (.getfield 39, 3) := by decide +kernel
theorem dX8_comes_68 : decode cX8_comes 68 = .ok (.bipush 12, 2) := by decide +kernel
theorem dX8_comes_70 : decode cX8_comes 70 = .ok (.iload 5, 2) := by decide +kernel
theorem dX8_comes_72 : decode cX8_comes 72 = .ok (.imul, 1) := by decide +kernel
theorem dX8_comes_73 : decode cX8_comes 73 = .ok (.iload 4, 2) := by decide +kernel
theorem dX8_comes_75 : decode cX8_comes 75 = .ok (.iadd, 1) := by decide +kernel
theorem dX8_comes_76 : decode cX8_comes 76 = .ok (.iconst 0, 1) := by decide +kernel
theorem dX8_comes_77 : decode cX8_comes 77 = .ok (.bastore, 1) := by decide +kernel
theorem dX8_comes_78 : decode cX8_comes 78 = .ok (.iinc 5 1, 3) := by decide +kernel
theorem dX8_comes_81 : decode cX8_comes 81 = .ok (.goto (-38), 3) := by decide +kernel
theorem dX8_comes_84 : decode cX8_comes 84 = .ok (.iload 4, 2) := by decide +kernel
theorem dX8_comes_86 : decode cX8_comes 86 = .ok (.ireturn, 1) := by decide +kernel
theorem dX8_canCome_0 : decode cX8_canCome 0 = .ok (.iload_n 1, 1) := by decide +kernel
theorem dX8_canCome_1 : decode cX8_canCome 1 = .ok (.iconst 1, 1) := by decide +kernel
theorem dX8_canCome_2 : decode cX8_canCome 2 = .ok (.bipush 9, 2) := by decide +kernel
theorem dX8_canCome_4 : decode cX8_canCome 4 = .ok (.invokestatic 75, 3) := by decide +kernel
theorem dX8_canCome_7 : decode cX8_canCome 7 = .ok (.ifCond .eq 16, 3) := by decide +kernel
theorem dX8_canCome_10 : decode cX8_canCome 10 = .ok (.aload_n 0, 1) := by decide +kernel
theorem dX8_canCome_11 : decode cX8_canCome 11 = .ok (.getfield 79, 3) := by decide +kernel
theorem dX8_canCome_14 : decode cX8_canCome 14 = .ok (.bipush 12, 2) := by decide +kernel
theorem dX8_canCome_16 : decode cX8_canCome 16 = .ok (.if_icmp .ge 7, 3) := by decide +kernel
theorem dX8_canCome_19 : decode cX8_canCome 19 = .ok (.iconst 1, 1) := by decide +kernel
theorem dX8_canCome_20 : decode cX8_canCome 20 = .ok (.goto 4, 3) := by decide +kernel
theorem dX8_canCome_23 : decode cX8_canCome 23 = .ok (.iconst 0, 1) := by decide +kernel
theorem dX8_canCome_24 : decode cX8_canCome 24 = .ok (.ireturn, 1) := by decide +kernel
theorem dX8_line_0 : decode cX8_line 0 = .ok (.aload_n 0, 1) := by decide +kernel
theorem dX8_line_1 : decode cX8_line 1 = .ok (.getfield 86, 3) := by decide +kernel
theorem dX8_line_4 : decode cX8_line 4 = .ok (.ifCond .eq 11, 3) := by decide +kernel
theorem dX8_line_7 : decode cX8_line 7 = .ok (.aload_n 0, 1) := by decide +kernel
theorem dX8_line_8 : decode cX8_line 8 = .ok (.iload_n 1, 1) := by decide +kernel
theorem dX8_line_9 : decode cX8_line 9 = .ok (.invokevirtual 89, 3) := by decide +kernel
theorem dX8_line_12 : decode cX8_line 12 = .ok (.ifCond .ne 5, 3) := by decide +kernel
theorem dX8_line_15 : decode cX8_line 15 = .ok (.iconst (-1), 1) := by decide +kernel
theorem dX8_line_16 : decode cX8_line 16 = .ok (.ireturn, 1) := by decide +kernel
theorem dX8_line_17 : decode cX8_line 17 = .ok (.aload_n 0, 1) := by decide +kernel
theorem dX8_line_18 : decode cX8_line 18 = .ok (.iconst 0, 1) := by decide +kernel
theorem dX8_line_19 : decode cX8_line 19 = .ok (.iload_n 1, 1) := by decide +kernel
theorem dX8_line_20 : decode cX8_line 20 = .ok (.aload_n 0, 1) := by decide +kernel
theorem dX8_line_21 : decode cX8_line 21 = .ok (.getfield 86, 3) := by decide +kernel
theorem dX8_line_24 : decode cX8_line 24 = .ok (.invokevirtual 93, 3) := by decide +kernel
theorem dX8_line_27 : decode cX8_line 27 = .ok (.istore_n 2, 1) := by decide +kernel
theorem dX8_line_28 : decode cX8_line 28 = .ok (.iconst 0, 1) := by decide +kernel
theorem dX8_line_29 : decode cX8_line 29 = .ok (.istore_n 3, 1) := by decide +kernel
theorem dX8_line_30 : decode cX8_line 30 = .ok (.iload_n 3, 1) := by decide +kernel
theorem dX8_line_31 : decode cX8_line 31 = .ok (.aload_n 0, 1) := by decide +kernel
theorem dX8_line_32 : decode cX8_line 32 = .ok (.getfield 86, 3) := by decide +kernel
theorem dX8_line_35 : decode cX8_line 35 = .ok (.if_icmp .ge 43, 3) := by decide +kernel
theorem dX8_line_38 : decode cX8_line 38 = .ok (.aload_n 0, 1) := by decide +kernel
theorem dX8_line_39 : decode cX8_line 39 = .ok (.getfield 29, 3) := by decide +kernel
theorem dX8_line_42 : decode cX8_line 42 = .ok (.bipush 8, 2) := by decide +kernel
theorem dX8_line_44 : decode cX8_line 44 = .ok (.iload_n 2, 1) := by decide +kernel
theorem dX8_line_45 : decode cX8_line 45 = .ok (.imul, 1) := by decide +kernel
theorem dX8_line_46 : decode cX8_line 46 = .ok (.iload_n 3, 1) := by decide +kernel
theorem dX8_line_47 : decode cX8_line 47 = .ok (.iadd, 1) := by decide +kernel
theorem dX8_line_48 : decode cX8_line 48 = .ok (.aload_n 0, 1) := by decide +kernel
theorem dX8_line_49 : decode cX8_line 49 = .ok (.getfield 13, 3) := by decide +kernel
theorem dX8_line_52 : decode cX8_line 52 = .ok (.iload_n 3, 1) := by decide +kernel
theorem dX8_line_53 : decode cX8_line 53 = .ok (.iaload, 1) := by decide +kernel
theorem dX8_line_54 : decode cX8_line 54 = .ok (.iastore, 1) := by decide +kernel
theorem dX8_line_55 : decode cX8_line 55 = .ok (.aload_n 0, 1) := by decide +kernel
theorem dX8_line_56 : decode cX8_line 56 = .ok (.getfield 32, 3) := by decide +kernel
theorem dX8_line_59 : decode cX8_line 59 = .ok (.bipush 8, 2) := by decide +kernel
theorem dX8_line_61 : decode cX8_line 61 = .ok (.iload_n 2, 1) := by decide +kernel
theorem dX8_line_62 : decode cX8_line 62 = .ok (.imul, 1) := by decide +kernel
theorem dX8_line_63 : decode cX8_line 63 = .ok (.iload_n 3, 1) := by decide +kernel
theorem dX8_line_64 : decode cX8_line 64 = .ok (.iadd, 1) := by decide +kernel
theorem dX8_line_65 : decode cX8_line 65 = .ok (.aload_n 0, 1) := by decide +kernel
theorem dX8_line_66 : decode cX8_line 66 = .ok (.getfield 17, 3) := by decide +kernel
theorem dX8_line_69 : decode cX8_line 69 = .ok (.iload_n 3, 1) := by decide +kernel
theorem dX8_line_70 : decode cX8_line 70 = .ok (.iaload, 1) := by decide +kernel
theorem dX8_line_71 : decode cX8_line 71 = .ok (.iastore, 1) := by decide +kernel
theorem dX8_line_72 : decode cX8_line 72 = .ok (.iinc 3 1, 3) := by decide +kernel
theorem dX8_line_75 : decode cX8_line 75 = .ok (.goto (-45), 3) := by decide +kernel
theorem dX8_line_78 : decode cX8_line 78 = .ok (.aload_n 0, 1) := by decide +kernel
theorem dX8_line_79 : decode cX8_line 79 = .ok (.iconst 0, 1) := by decide +kernel
theorem dX8_line_80 : decode cX8_line 80 = .ok (.putfield 86, 3) := by decide +kernel
theorem dX8_line_83 : decode cX8_line 83 = .ok (.aload_n 0, 1) := by decide +kernel
theorem dX8_line_84 : decode cX8_line 84 = .ok (.iload_n 2, 1) := by decide +kernel
theorem dX8_line_85 : decode cX8_line 85 = .ok (.invokevirtual 97, 3) := by decide +kernel
theorem dX8_line_88 : decode cX8_line 88 = .ok (.iload_n 2, 1) := by decide +kernel
theorem dX8_line_89 : decode cX8_line 89 = .ok (.ireturn, 1) := by decide +kernel
theorem dX8_ground_0 : decode cX8_ground 0 = .ok (.iload_n 1, 1) := by decide +kernel
theorem dX8_ground_1 : decode cX8_ground 1 = .ok (.iload_n 2, 1) := by decide +kernel
theorem dX8_ground_2 : decode cX8_ground 2 = .ok (.invokestatic 82, 3) := by decide +kernel
theorem dX8_ground_5 : decode cX8_ground 5 = .ok (.ifCond .eq 32, 3) := by decide +kernel
theorem dX8_ground_8 : decode cX8_ground 8 = .ok (.iload_n 3, 1) := by decide +kernel
theorem dX8_ground_9 : decode cX8_ground 9 = .ok (.iload 4, 2) := by decide +kernel
theorem dX8_ground_11 : decode cX8_ground 11 = .ok (.invokestatic 82, 3) := by decide +kernel
theorem dX8_ground_14 : decode cX8_ground 14 = .ok (.ifCond .eq 23, 3) := by decide +kernel
theorem dX8_ground_17 : decode cX8_ground 17 = .ok (.iload_n 1, 1) := by decide +kernel
theorem dX8_ground_18 : decode cX8_ground 18 = .ok (.iload_n 3, 1) := by decide +kernel
theorem dX8_ground_19 : decode cX8_ground 19 = .ok (.if_icmp .gt 18, 3) := by decide +kernel
theorem dX8_ground_22 : decode cX8_ground 22 = .ok (.iload_n 2, 1) := by decide +kernel
theorem dX8_ground_23 : decode cX8_ground 23 = .ok (.iload 4, 2) := by decide +kernel
theorem dX8_ground_25 : decode cX8_ground 25 = .ok (.if_icmp .gt 12, 3) := by decide +kernel
theorem dX8_ground_28 : decode cX8_ground 28 = .ok (.aload_n 0, 1) := by decide +kernel
theorem dX8_ground_29 : decode cX8_ground 29 = .ok (.iload 5, 2) := by decide +kernel
theorem dX8_ground_31 : decode cX8_ground 31 = .ok (.invokevirtual 89, 3) := by decide +kernel
theorem dX8_ground_34 : decode cX8_ground 34 = .ok (.ifCond .ne 5, 3) := by decide +kernel
theorem dX8_ground_37 : decode cX8_ground 37 = .ok (.iconst (-1), 1) := by decide +kernel
theorem dX8_ground_38 : decode cX8_ground 38 = .ok (.ireturn, 1) := by decide +kernel
theorem dX8_ground_39 : decode cX8_ground 39 = .ok (.aload_n 0, 1) := by decide +kernel
theorem dX8_ground_40 : decode cX8_ground 40 = .ok (.iconst 1, 1) := by decide +kernel
theorem dX8_ground_41 : decode cX8_ground 41 = .ok (.iload 5, 2) := by decide +kernel
theorem dX8_ground_43 : decode cX8_ground 43 = .ok (.iconst 2, 1) := by decide +kernel
theorem dX8_ground_44 : decode cX8_ground 44 = .ok (.invokevirtual 93, 3) := by decide +kernel
theorem dX8_ground_47 : decode cX8_ground 47 = .ok (.istore 6, 2) := by decide +kernel
theorem dX8_ground_49 : decode cX8_ground 49 = .ok (.aload_n 0, 1) := by decide +kernel
theorem dX8_ground_50 : decode cX8_ground 50 = .ok (.getfield 29, 3) := by decide +kernel
theorem dX8_ground_53 : decode cX8_ground 53 = .ok (.bipush 8, 2) := by decide +kernel
theorem dX8_ground_55 : decode cX8_ground 55 = .ok (.iload 6, 2) := by decide +kernel
theorem dX8_ground_57 : decode cX8_ground 57 = .ok (.imul, 1) := by decide +kernel
theorem dX8_ground_58 : decode cX8_ground 58 = .ok (.iload_n 1, 1) := by decide +kernel
theorem dX8_ground_59 : decode cX8_ground 59 = .ok (.iastore, 1) := by decide +kernel
theorem dX8_ground_60 : decode cX8_ground 60 = .ok (.aload_n 0, 1) := by decide +kernel
theorem dX8_ground_61 : decode cX8_ground 61 = .ok (.getfield 32, 3) := by decide +kernel
theorem dX8_ground_64 : decode cX8_ground 64 = .ok (.bipush 8, 2) := by decide +kernel
theorem dX8_ground_66 : decode cX8_ground 66 = .ok (.iload 6, 2) := by decide +kernel
theorem dX8_ground_68 : decode cX8_ground 68 = .ok (.imul, 1) := by decide +kernel
theorem dX8_ground_69 : decode cX8_ground 69 = .ok (.iload_n 2, 1) := by decide +kernel
theorem dX8_ground_70 : decode cX8_ground 70 = .ok (.iastore, 1) := by decide +kernel
theorem dX8_ground_71 : decode cX8_ground 71 = .ok (.aload_n 0, 1) := by decide +kernel
theorem dX8_ground_72 : decode cX8_ground 72 = .ok (.getfield 29, 3) := by decide +kernel
theorem dX8_ground_75 : decode cX8_ground 75 = .ok (.bipush 8, 2) := by decide +kernel
theorem dX8_ground_77 : decode cX8_ground 77 = .ok (.iload 6, 2) := by decide +kernel
theorem dX8_ground_79 : decode cX8_ground 79 = .ok (.imul, 1) := by decide +kernel
theorem dX8_ground_80 : decode cX8_ground 80 = .ok (.iconst 1, 1) := by decide +kernel
theorem dX8_ground_81 : decode cX8_ground 81 = .ok (.iadd, 1) := by decide +kernel
theorem dX8_ground_82 : decode cX8_ground 82 = .ok (.iload_n 3, 1) := by decide +kernel
theorem dX8_ground_83 : decode cX8_ground 83 = .ok (.iastore, 1) := by decide +kernel
theorem dX8_ground_84 : decode cX8_ground 84 = .ok (.aload_n 0, 1) := by decide +kernel
theorem dX8_ground_85 : decode cX8_ground 85 = .ok (.getfield 32, 3) := by decide +kernel
theorem dX8_ground_88 : decode cX8_ground 88 = .ok (.bipush 8, 2) := by decide +kernel
theorem dX8_ground_90 : decode cX8_ground 90 = .ok (.iload 6, 2) := by decide +kernel
theorem dX8_ground_92 : decode cX8_ground 92 = .ok (.imul, 1) := by decide +kernel
theorem dX8_ground_93 : decode cX8_ground 93 = .ok (.iconst 1, 1) := by decide +kernel
theorem dX8_ground_94 : decode cX8_ground 94 = .ok (.iadd, 1) := by decide +kernel
theorem dX8_ground_95 : decode cX8_ground 95 = .ok (.iload 4, 2) := by decide +kernel
theorem dX8_ground_97 : decode cX8_ground 97 = .ok (.iastore, 1) := by decide +kernel
theorem dX8_ground_98 : decode cX8_ground 98 = .ok (.aload_n 0, 1) := by decide +kernel
theorem dX8_ground_99 : decode cX8_ground 99 = .ok (.iload 6, 2) := by decide +kernel
theorem dX8_ground_101 : decode cX8_ground 101 = .ok (.invokevirtual 97, 3) := by decide +kernel
theorem dX8_ground_104 : decode cX8_ground 104 = .ok (.iload 6, 2) := by decide +kernel
theorem dX8_ground_106 : decode cX8_ground 106 = .ok (.ireturn, 1) := by decide +kernel
theorem dX8_mark_0 : decode cX8_mark 0 = .ok (.iload_n 1, 1) := by decide +kernel
theorem dX8_mark_1 : decode cX8_mark 1 = .ok (.iload_n 2, 1) := by decide +kernel
theorem dX8_mark_2 : decode cX8_mark 2 = .ok (.invokestatic 82, 3) := by decide +kernel
theorem dX8_mark_5 : decode cX8_mark 5 = .ok (.ifCond .eq 11, 3) := by decide +kernel
theorem dX8_mark_8 : decode cX8_mark 8 = .ok (.aload_n 0, 1) := by decide +kernel
theorem dX8_mark_9 : decode cX8_mark 9 = .ok (.iload_n 3, 1) := by decide +kernel
theorem dX8_mark_10 : decode cX8_mark 10 = .ok (.invokevirtual 89, 3) := by decide +kernel
theorem dX8_mark_13 : decode cX8_mark 13 = .ok (.ifCond .ne 5, 3) := by decide +kernel
theorem dX8_mark_16 : decode cX8_mark 16 = .ok (.iconst (-1), 1) := by decide +kernel
theorem dX8_mark_17 : decode cX8_mark 17 = .ok (.ireturn, 1) := by decide +kernel
theorem dX8_mark_18 : decode cX8_mark 18 = .ok (.aload_n 0, 1) := by decide +kernel
theorem dX8_mark_19 : decode cX8_mark 19 = .ok (.iconst 2, 1) := by decide +kernel
theorem dX8_mark_20 : decode cX8_mark 20 = .ok (.iload_n 3, 1) := by decide +kernel
theorem dX8_mark_21 : decode cX8_mark 21 = .ok (.iconst 1, 1) := by decide +kernel
theorem dX8_mark_22 : decode cX8_mark 22 = .ok (.invokevirtual 93, 3) := by decide +kernel
theorem dX8_mark_25 : decode cX8_mark 25 = .ok (.istore 4, 2) := by decide +kernel
theorem dX8_mark_27 : decode cX8_mark 27 = .ok (.aload_n 0, 1) := by decide +kernel
theorem dX8_mark_28 : decode cX8_mark 28 = .ok (.getfield 29, 3) := by decide +kernel
theorem dX8_mark_31 : decode cX8_mark 31 = .ok (.bipush 8, 2) := by decide +kernel
theorem dX8_mark_33 : decode cX8_mark 33 = .ok (.iload 4, 2) := by decide +kernel
theorem dX8_mark_35 : decode cX8_mark 35 = .ok (.imul, 1) := by decide +kernel
theorem dX8_mark_36 : decode cX8_mark 36 = .ok (.iload_n 1, 1) := by decide +kernel
theorem dX8_mark_37 : decode cX8_mark 37 = .ok (.iastore, 1) := by decide +kernel
theorem dX8_mark_38 : decode cX8_mark 38 = .ok (.aload_n 0, 1) := by decide +kernel
theorem dX8_mark_39 : decode cX8_mark 39 = .ok (.getfield 32, 3) := by decide +kernel
theorem dX8_mark_42 : decode cX8_mark 42 = .ok (.bipush 8, 2) := by decide +kernel
theorem dX8_mark_44 : decode cX8_mark 44 = .ok (.iload 4, 2) := by decide +kernel
theorem dX8_mark_46 : decode cX8_mark 46 = .ok (.imul, 1) := by decide +kernel
theorem dX8_mark_47 : decode cX8_mark 47 = .ok (.iload_n 2, 1) := by decide +kernel
theorem dX8_mark_48 : decode cX8_mark 48 = .ok (.iastore, 1) := by decide +kernel
theorem dX8_mark_49 : decode cX8_mark 49 = .ok (.aload_n 0, 1) := by decide +kernel
theorem dX8_mark_50 : decode cX8_mark 50 = .ok (.iload 4, 2) := by decide +kernel
theorem dX8_mark_52 : decode cX8_mark 52 = .ok (.invokevirtual 97, 3) := by decide +kernel
theorem dX8_mark_55 : decode cX8_mark 55 = .ok (.iload 4, 2) := by decide +kernel
theorem dX8_mark_57 : decode cX8_mark 57 = .ok (.ireturn, 1) := by decide +kernel
theorem dX8_undo_0 : decode cX8_undo 0 = .ok (.aload_n 0, 1) := by decide +kernel
theorem dX8_undo_1 : decode cX8_undo 1 = .ok (.getfield 79, 3) := by decide +kernel
theorem dX8_undo_4 : decode cX8_undo 4 = .ok (.ifCond .ne 5, 3) := by decide +kernel
theorem dX8_undo_7 : decode cX8_undo 7 = .ok (.iconst 0, 1) := by decide +kernel
theorem dX8_undo_8 : decode cX8_undo 8 = .ok (.ireturn, 1) := by decide +kernel
theorem dX8_undo_9 : decode cX8_undo 9 = .ok (.aload_n 0, 1) := by decide +kernel
theorem dX8_undo_10 : decode cX8_undo 10 = .ok (.dup, 1) := by decide +kernel
theorem dX8_undo_11 : decode cX8_undo 11 = .ok (.getfield 79, 3) := by decide +kernel
theorem dX8_undo_14 : decode cX8_undo 14 = .ok (.iconst 1, 1) := by decide +kernel
theorem dX8_undo_15 : decode cX8_undo 15 = .ok (.isub, 1) := by decide +kernel
theorem dX8_undo_16 : decode cX8_undo 16 = .ok (.putfield 79, 3) := by decide +kernel
theorem dX8_undo_19 : decode cX8_undo 19 = .ok (.iconst 1, 1) := by decide +kernel
theorem dX8_undo_20 : decode cX8_undo 20 = .ok (.ireturn, 1) := by decide +kernel
theorem dX8_gap_0 : decode cX8_gap 0 = .ok (.iload_n 1, 1) := by decide +kernel
theorem dX8_gap_1 : decode cX8_gap 1 = .ok (.iconst 1, 1) := by decide +kernel
theorem dX8_gap_2 : decode cX8_gap 2 = .ok (.bipush 6, 2) := by decide +kernel
theorem dX8_gap_4 : decode cX8_gap 4 = .ok (.invokestatic 75, 3) := by decide +kernel
theorem dX8_gap_7 : decode cX8_gap 7 = .ok (.ifCond .ne 5, 3) := by decide +kernel
theorem dX8_gap_10 : decode cX8_gap 10 = .ok (.iconst 0, 1) := by decide +kernel
theorem dX8_gap_11 : decode cX8_gap 11 = .ok (.ireturn, 1) := by decide +kernel
theorem dX8_gap_12 : decode cX8_gap 12 = .ok (.aload_n 0, 1) := by decide +kernel
theorem dX8_gap_13 : decode cX8_gap 13 = .ok (.iload_n 1, 1) := by decide +kernel
theorem dX8_gap_14 : decode cX8_gap 14 = .ok (.putfield 7, 3) := by decide +kernel
theorem dX8_gap_17 : decode cX8_gap 17 = .ok (.iconst 1, 1) := by decide +kernel
theorem dX8_gap_18 : decode cX8_gap 18 = .ok (.ireturn, 1) := by decide +kernel
theorem dX8_meet_0 : decode cX8_meet 0 = .ok (.aload_n 0, 1) := by decide +kernel
theorem dX8_meet_1 : decode cX8_meet 1 = .ok (.iload_n 1, 1) := by decide +kernel
theorem dX8_meet_2 : decode cX8_meet 2 = .ok (.invokevirtual 101, 3) := by decide +kernel
theorem dX8_meet_5 : decode cX8_meet 5 = .ok (.ifCond .eq 31, 3) := by decide +kernel
theorem dX8_meet_8 : decode cX8_meet 8 = .ok (.aload_n 0, 1) := by decide +kernel
theorem dX8_meet_9 : decode cX8_meet 9 = .ok (.iload_n 2, 1) := by decide +kernel
theorem dX8_meet_10 : decode cX8_meet 10 = .ok (.invokevirtual 101, 3) := by decide +kernel
theorem dX8_meet_13 : decode cX8_meet 13 = .ok (.ifCond .eq 23, 3) := by decide +kernel
theorem dX8_meet_16 : decode cX8_meet 16 = .ok (.iload_n 1, 1) := by decide +kernel
theorem dX8_meet_17 : decode cX8_meet 17 = .ok (.iload_n 2, 1) := by decide +kernel
theorem dX8_meet_18 : decode cX8_meet 18 = .ok (.if_icmp .eq 18, 3) := by decide +kernel
theorem dX8_meet_21 : decode cX8_meet 21 = .ok (.aload_n 0, 1) := by decide +kernel
theorem dX8_meet_22 : decode cX8_meet 22 = .ok (.getfield 39, 3) := by decide +kernel
theorem dX8_meet_25 : decode cX8_meet 25 = .ok (.bipush 12, 2) := by decide +kernel
theorem dX8_meet_27 : decode cX8_meet 27 = .ok (.iload_n 1, 1) := by decide +kernel
theorem dX8_meet_28 : decode cX8_meet 28 = .ok (.imul, 1) := by decide +kernel
theorem dX8_meet_29 : decode cX8_meet 29 = .ok (.iload_n 2, 1) := by decide +kernel
theorem dX8_meet_30 : decode cX8_meet 30 = .ok (.iadd, 1) := by decide +kernel
theorem dX8_meet_31 : decode cX8_meet 31 = .ok (.baload, 1) := by decide +kernel
theorem dX8_meet_32 : decode cX8_meet 32 = .ok (.iload_n 3, 1) := by decide +kernel
theorem dX8_meet_33 : decode cX8_meet 33 = .ok (.if_icmp .ne 5, 3) := by decide +kernel
theorem dX8_meet_36 : decode cX8_meet 36 = .ok (.iconst 0, 1) := by decide +kernel
theorem dX8_meet_37 : decode cX8_meet 37 = .ok (.ireturn, 1) := by decide +kernel
theorem dX8_meet_38 : decode cX8_meet 38 = .ok (.aload_n 0, 1) := by decide +kernel
theorem dX8_meet_39 : decode cX8_meet 39 = .ok (.getfield 39, 3) := by decide +kernel
theorem dX8_meet_42 : decode cX8_meet 42 = .ok (.bipush 12, 2) := by decide +kernel
theorem dX8_meet_44 : decode cX8_meet 44 = .ok (.iload_n 1, 1) := by decide +kernel
theorem dX8_meet_45 : decode cX8_meet 45 = .ok (.imul, 1) := by decide +kernel
theorem dX8_meet_46 : decode cX8_meet 46 = .ok (.iload_n 2, 1) := by decide +kernel
theorem dX8_meet_47 : decode cX8_meet 47 = .ok (.iadd, 1) := by decide +kernel
theorem dX8_meet_48 : decode cX8_meet 48 = .ok (.iload_n 3, 1) := by decide +kernel
theorem dX8_meet_49 : decode cX8_meet 49 = .ok (.bastore, 1) := by decide +kernel
theorem dX8_meet_50 : decode cX8_meet 50 = .ok (.aload_n 0, 1) := by decide +kernel
theorem dX8_meet_51 : decode cX8_meet 51 = .ok (.getfield 39, 3) := by decide +kernel
theorem dX8_meet_54 : decode cX8_meet 54 = .ok (.bipush 12, 2) := by decide +kernel
theorem dX8_meet_56 : decode cX8_meet 56 = .ok (.iload_n 2, 1) := by decide +kernel
theorem dX8_meet_57 : decode cX8_meet 57 = .ok (.imul, 1) := by decide +kernel
theorem dX8_meet_58 : decode cX8_meet 58 = .ok (.iload_n 1, 1) := by decide +kernel
theorem dX8_meet_59 : decode cX8_meet 59 = .ok (.iadd, 1) := by decide +kernel
theorem dX8_meet_60 : decode cX8_meet 60 = .ok (.iload_n 3, 1) := by decide +kernel
theorem dX8_meet_61 : decode cX8_meet 61 = .ok (.bastore, 1) := by decide +kernel
theorem dX8_meet_62 : decode cX8_meet 62 = .ok (.iconst 1, 1) := by decide +kernel
theorem dX8_meet_63 : decode cX8_meet 63 = .ok (.ireturn, 1) := by decide +kernel
theorem dX8_isTexture_0 : decode cX8_isTexture 0 = .ok (.iload_n 0, 1) := by decide +kernel
theorem dX8_isTexture_1 : decode cX8_isTexture 1 = .ok (.iconst 0, 1) := by decide +kernel
theorem dX8_isTexture_2 : decode cX8_isTexture 2 = .ok (.iconst 3, 1) := by decide +kernel
theorem dX8_isTexture_3 : decode cX8_isTexture 3 = .ok (.invokestatic 75, 3) := by decide +kernel
theorem dX8_isTexture_6 : decode cX8_isTexture 6 = .ok (.ireturn, 1) := by decide +kernel
theorem dX8_apart_0 : decode cX8_apart 0 = .ok (.iload_n 1, 1) := by decide +kernel
theorem dX8_apart_1 : decode cX8_apart 1 = .ok (.invokestatic 104, 3) := by decide +kernel
theorem dX8_apart_4 : decode cX8_apart 4 = .ok (.ifCond .eq 29, 3) := by decide +kernel
theorem dX8_apart_7 : decode cX8_apart 7 = .ok (.iload_n 2, 1) := by decide +kernel
theorem dX8_apart_8 : decode cX8_apart 8 = .ok (.invokestatic 104, 3) := by decide +kernel
theorem dX8_apart_11 : decode cX8_apart 11 = .ok (.ifCond .eq 22, 3) := by decide +kernel
theorem dX8_apart_14 : decode cX8_apart 14 = .ok (.iload_n 1, 1) := by decide +kernel
theorem dX8_apart_15 : decode cX8_apart 15 = .ok (.iload_n 2, 1) := by decide +kernel
theorem dX8_apart_16 : decode cX8_apart 16 = .ok (.if_icmp .eq 17, 3) := by decide +kernel
theorem dX8_apart_19 : decode cX8_apart 19 = .ok (.aload_n 0, 1) := by decide +kernel
theorem dX8_apart_20 : decode cX8_apart 20 = .ok (.getfield 42, 3) := by decide +kernel
theorem dX8_apart_23 : decode cX8_apart 23 = .ok (.iconst 4, 1) := by decide +kernel
theorem dX8_apart_24 : decode cX8_apart 24 = .ok (.iload_n 1, 1) := by decide +kernel
theorem dX8_apart_25 : decode cX8_apart 25 = .ok (.imul, 1) := by decide +kernel
theorem dX8_apart_26 : decode cX8_apart 26 = .ok (.iload_n 2, 1) := by decide +kernel
theorem dX8_apart_27 : decode cX8_apart 27 = .ok (.iadd, 1) := by decide +kernel
theorem dX8_apart_28 : decode cX8_apart 28 = .ok (.baload, 1) := by decide +kernel
theorem dX8_apart_29 : decode cX8_apart 29 = .ok (.iload_n 3, 1) := by decide +kernel
theorem dX8_apart_30 : decode cX8_apart 30 = .ok (.if_icmp .ne 5, 3) := by decide +kernel
theorem dX8_apart_33 : decode cX8_apart 33 = .ok (.iconst 0, 1) := by decide +kernel
theorem dX8_apart_34 : decode cX8_apart 34 = .ok (.ireturn, 1) := by decide +kernel
theorem dX8_apart_35 : decode cX8_apart 35 = .ok (.aload_n 0, 1) := by decide +kernel
theorem dX8_apart_36 : decode cX8_apart 36 = .ok (.getfield 42, 3) := by decide +kernel
theorem dX8_apart_39 : decode cX8_apart 39 = .ok (.iconst 4, 1) := by decide +kernel
theorem dX8_apart_40 : decode cX8_apart 40 = .ok (.iload_n 1, 1) := by decide +kernel
theorem dX8_apart_41 : decode cX8_apart 41 = .ok (.imul, 1) := by decide +kernel
theorem dX8_apart_42 : decode cX8_apart 42 = .ok (.iload_n 2, 1) := by decide +kernel
theorem dX8_apart_43 : decode cX8_apart 43 = .ok (.iadd, 1) := by decide +kernel
theorem dX8_apart_44 : decode cX8_apart 44 = .ok (.iload_n 3, 1) := by decide +kernel
theorem dX8_apart_45 : decode cX8_apart 45 = .ok (.bastore, 1) := by decide +kernel
theorem dX8_apart_46 : decode cX8_apart 46 = .ok (.aload_n 0, 1) := by decide +kernel
theorem dX8_apart_47 : decode cX8_apart 47 = .ok (.getfield 42, 3) := by decide +kernel
theorem dX8_apart_50 : decode cX8_apart 50 = .ok (.iconst 4, 1) := by decide +kernel
theorem dX8_apart_51 : decode cX8_apart 51 = .ok (.iload_n 2, 1) := by decide +kernel
theorem dX8_apart_52 : decode cX8_apart 52 = .ok (.imul, 1) := by decide +kernel
theorem dX8_apart_53 : decode cX8_apart 53 = .ok (.iload_n 1, 1) := by decide +kernel
theorem dX8_apart_54 : decode cX8_apart 54 = .ok (.iadd, 1) := by decide +kernel
theorem dX8_apart_55 : decode cX8_apart 55 = .ok (.iload_n 3, 1) := by decide +kernel
theorem dX8_apart_56 : decode cX8_apart 56 = .ok (.bastore, 1) := by decide +kernel
theorem dX8_apart_57 : decode cX8_apart 57 = .ok (.iconst 1, 1) := by decide +kernel
theorem dX8_apart_58 : decode cX8_apart 58 = .ok (.ireturn, 1) := by decide +kernel
theorem dX8_price_0 : decode cX8_price 0 = .ok (.iload_n 1, 1) := by decide +kernel
theorem dX8_price_1 : decode cX8_price 1 = .ok (.invokestatic 104, 3) := by decide +kernel
theorem dX8_price_4 : decode cX8_price 4 = .ok (.ifCond .eq 13, 3) := by decide +kernel
theorem dX8_price_7 : decode cX8_price 7 = .ok (.iload_n 2, 1) := by decide +kernel
theorem dX8_price_8 : decode cX8_price 8 = .ok (.iconst 0, 1) := by decide +kernel
theorem dX8_price_9 : decode cX8_price 9 = .ok (.bipush 99, 2) := by decide +kernel
theorem dX8_price_11 : decode cX8_price 11 = .ok (.invokestatic 75, 3) := by decide +kernel
theorem dX8_price_14 : decode cX8_price 14 = .ok (.ifCond .ne 5, 3) := by decide +kernel
theorem dX8_price_17 : decode cX8_price 17 = .ok (.iconst 0, 1) := by decide +kernel
theorem dX8_price_18 : decode cX8_price 18 = .ok (.ireturn, 1) := by decide +kernel
theorem dX8_price_19 : decode cX8_price 19 = .ok (.aload_n 0, 1) := by decide +kernel
theorem dX8_price_20 : decode cX8_price 20 = .ok (.getfield 45, 3) := by decide +kernel
theorem dX8_price_23 : decode cX8_price 23 = .ok (.iload_n 1, 1) := by decide +kernel
theorem dX8_price_24 : decode cX8_price 24 = .ok (.iload_n 2, 1) := by decide +kernel
theorem dX8_price_25 : decode cX8_price 25 = .ok (.iastore, 1) := by decide +kernel
theorem dX8_price_26 : decode cX8_price 26 = .ok (.iconst 1, 1) := by decide +kernel
theorem dX8_price_27 : decode cX8_price 27 = .ok (.ireturn, 1) := by decide +kernel
theorem dX8_puts_0 : decode cX8_puts 0 = .ok (.iload_n 2, 1) := by decide +kernel
theorem dX8_puts_1 : decode cX8_puts 1 = .ok (.iload_n 3, 1) := by decide +kernel
theorem dX8_puts_2 : decode cX8_puts 2 = .ok (.invokestatic 82, 3) := by decide +kernel
theorem dX8_puts_5 : decode cX8_puts 5 = .ok (.ifCond .eq 21, 3) := by decide +kernel
theorem dX8_puts_8 : decode cX8_puts 8 = .ok (.aload_n 0, 1) := by decide +kernel
theorem dX8_puts_9 : decode cX8_puts 9 = .ok (.getfield 35, 3) := by decide +kernel
theorem dX8_puts_12 : decode cX8_puts 12 = .ok (.sipush 576, 3) := by decide +kernel
theorem dX8_puts_15 : decode cX8_puts 15 = .ok (.iload_n 1, 1) := by decide +kernel
theorem dX8_puts_16 : decode cX8_puts 16 = .ok (.imul, 1) := by decide +kernel
theorem dX8_puts_17 : decode cX8_puts 17 = .ok (.bipush 24, 2) := by decide +kernel
theorem dX8_puts_19 : decode cX8_puts 19 = .ok (.iload_n 3, 1) := by decide +kernel
theorem dX8_puts_20 : decode cX8_puts 20 = .ok (.imul, 1) := by decide +kernel
theorem dX8_puts_21 : decode cX8_puts 21 = .ok (.iadd, 1) := by decide +kernel
theorem dX8_puts_22 : decode cX8_puts 22 = .ok (.iload_n 2, 1) := by decide +kernel
theorem dX8_puts_23 : decode cX8_puts 23 = .ok (.iadd, 1) := by decide +kernel
theorem dX8_puts_24 : decode cX8_puts 24 = .ok (.iconst 1, 1) := by decide +kernel
theorem dX8_puts_25 : decode cX8_puts 25 = .ok (.bastore, 1) := by decide +kernel
theorem dX8_puts_26 : decode cX8_puts 26 = .ok (.return_, 1) := by decide +kernel
theorem dX8_abs_0 : decode cX8_abs 0 = .ok (.iload_n 0, 1) := by decide +kernel
theorem dX8_abs_1 : decode cX8_abs 1 = .ok (.ifCond .ge 8, 3) := by decide +kernel
theorem dX8_abs_4 : decode cX8_abs 4 = .ok (.iload_n 0, 1) := by decide +kernel
theorem dX8_abs_5 : decode cX8_abs 5 = .ok (.ineg, 1) := by decide +kernel
theorem dX8_abs_6 : decode cX8_abs 6 = .ok (.goto 4, 3) := by decide +kernel
theorem dX8_abs_9 : decode cX8_abs 9 = .ok (.iload_n 0, 1) := by decide +kernel
theorem dX8_abs_10 : decode cX8_abs 10 = .ok (.ireturn, 1) := by decide +kernel
theorem dX8_down_0 : decode cX8_down 0 = .ok (.iload_n 0, 1) := by decide +kernel
theorem dX8_down_1 : decode cX8_down 1 = .ok (.ifCond .lt 9, 3) := by decide +kernel
theorem dX8_down_4 : decode cX8_down 4 = .ok (.iload_n 0, 1) := by decide +kernel
theorem dX8_down_5 : decode cX8_down 5 = .ok (.iload_n 1, 1) := by decide +kernel
theorem dX8_down_6 : decode cX8_down 6 = .ok (.idiv, 1) := by decide +kernel
theorem dX8_down_7 : decode cX8_down 7 = .ok (.goto 12, 3) := by decide +kernel
theorem dX8_down_10 : decode cX8_down 10 = .ok (.iload_n 0, 1) := by decide +kernel
theorem dX8_down_11 : decode cX8_down 11 = .ok (.ineg, 1) := by decide +kernel
theorem dX8_down_12 : decode cX8_down 12 = .ok (.iload_n 1, 1) := by decide +kernel
theorem dX8_down_13 : decode cX8_down 13 = .ok (.iadd, 1) := by decide +kernel
theorem dX8_down_14 : decode cX8_down 14 = .ok (.iconst 1, 1) := by decide +kernel
theorem dX8_down_15 : decode cX8_down 15 = .ok (.isub, 1) := by decide +kernel
theorem dX8_down_16 : decode cX8_down 16 = .ok (.iload_n 1, 1) := by decide +kernel
theorem dX8_down_17 : decode cX8_down 17 = .ok (.idiv, 1) := by decide +kernel
theorem dX8_down_18 : decode cX8_down 18 = .ok (.ineg, 1) := by decide +kernel
theorem dX8_down_19 : decode cX8_down 19 = .ok (.ireturn, 1) := by decide +kernel
theorem dX8_draws_0 : decode cX8_draws 0 = .ok (.iconst 0, 1) := by decide +kernel
theorem dX8_draws_1 : decode cX8_draws 1 = .ok (.istore_n 2, 1) := by decide +kernel
theorem dX8_draws_2 : decode cX8_draws 2 = .ok (.iload_n 2, 1) := by decide +kernel
theorem dX8_draws_3 : decode cX8_draws 3 = .ok (.sipush 576, 3) := by decide +kernel
theorem dX8_draws_6 : decode cX8_draws 6 = .ok (.if_icmp .ge 22, 3) := by decide +kernel
theorem dX8_draws_9 : decode cX8_draws 9 = .ok (.aload_n 0, 1) := by decide +kernel
theorem dX8_draws_10 : decode cX8_draws 10 = .ok (.getfield 35, 3) := by decide +kernel
theorem dX8_draws_13 : decode cX8_draws 13 = .ok (.sipush 576, 3) := by decide +kernel
theorem dX8_draws_16 : decode cX8_draws 16 = .ok (.iload_n 1, 1) := by decide +kernel
theorem dX8_draws_17 : decode cX8_draws 17 = .ok (.imul, 1) := by decide +kernel
theorem dX8_draws_18 : decode cX8_draws 18 = .ok (.iload_n 2, 1) := by decide +kernel
theorem dX8_draws_19 : decode cX8_draws 19 = .ok (.iadd, 1) := by decide +kernel
theorem dX8_draws_20 : decode cX8_draws 20 = .ok (.iconst 0, 1) := by decide +kernel
theorem dX8_draws_21 : decode cX8_draws 21 = .ok (.bastore, 1) := by decide +kernel
theorem dX8_draws_22 : decode cX8_draws 22 = .ok (.iinc 2 1, 3) := by decide +kernel
theorem dX8_draws_25 : decode cX8_draws 25 = .ok (.goto (-23), 3) := by decide +kernel
theorem dX8_draws_28 : decode cX8_draws 28 = .ok (.bipush 8, 2) := by decide +kernel
theorem dX8_draws_30 : decode cX8_draws 30 = .ok (.iload_n 1, 1) := by decide +kernel
theorem dX8_draws_31 : decode cX8_draws 31 = .ok (.imul, 1) := by decide +kernel
theorem dX8_draws_32 : decode cX8_draws 32 = .ok (.istore_n 2, 1) := by decide +kernel
theorem dX8_draws_33 : decode cX8_draws 33 = .ok (.aload_n 0, 1) := by decide +kernel
theorem dX8_draws_34 : decode cX8_draws 34 = .ok (.getfield 20, 3) := by decide +kernel
theorem dX8_draws_37 : decode cX8_draws 37 = .ok (.iload_n 1, 1) := by decide +kernel
theorem dX8_draws_38 : decode cX8_draws 38 = .ok (.iaload, 1) := by decide +kernel
theorem dX8_draws_39 : decode cX8_draws 39 = .ok (.iconst 2, 1) := by decide +kernel
theorem dX8_draws_40 : decode cX8_draws 40 = .ok (.if_icmp .ne 99, 3) := by decide +kernel
theorem dX8_draws_43 : decode cX8_draws 43 = .ok (.aload_n 0, 1) := by decide +kernel
theorem dX8_draws_44 : decode cX8_draws 44 = .ok (.iload_n 1, 1) := by decide +kernel
theorem dX8_draws_45 : decode cX8_draws 45 = .ok (.aload_n 0, 1) := by decide +kernel
theorem dX8_draws_46 : decode cX8_draws 46 = .ok (.getfield 29, 3) := by decide +kernel
theorem dX8_draws_49 : decode cX8_draws 49 = .ok (.iload_n 2, 1) := by decide +kernel
theorem dX8_draws_50 : decode cX8_draws 50 = .ok (.iaload, 1) := by decide +kernel
theorem dX8_draws_51 : decode cX8_draws 51 = .ok (.aload_n 0, 1) := by decide +kernel
theorem dX8_draws_52 : decode cX8_draws 52 = .ok (.getfield 32, 3) := by decide +kernel
theorem dX8_draws_55 : decode cX8_draws 55 = .ok (.iload_n 2, 1) := by decide +kernel
theorem dX8_draws_56 : decode cX8_draws 56 = .ok (.iaload, 1) := by decide +kernel
theorem dX8_draws_57 : decode cX8_draws 57 = .ok (.invokevirtual 107, 3) := by decide +kernel
theorem dX8_draws_60 : decode cX8_draws 60 = .ok (.aload_n 0, 1) := by decide +kernel
theorem dX8_draws_61 : decode cX8_draws 61 = .ok (.iload_n 1, 1) := by decide +kernel
theorem dX8_draws_62 : decode cX8_draws 62 = .ok (.aload_n 0, 1) := by decide +kernel
theorem dX8_draws_63 : decode cX8_draws 63 = .ok (.getfield 29, 3) := by decide +kernel
theorem dX8_draws_66 : decode cX8_draws 66 = .ok (.iload_n 2, 1) := by decide +kernel
theorem dX8_draws_67 : decode cX8_draws 67 = .ok (.iaload, 1) := by decide +kernel
theorem dX8_draws_68 : decode cX8_draws 68 = .ok (.iconst 1, 1) := by decide +kernel
theorem dX8_draws_69 : decode cX8_draws 69 = .ok (.iadd, 1) := by decide +kernel
theorem dX8_draws_70 : decode cX8_draws 70 = .ok (.aload_n 0, 1) := by decide +kernel
theorem dX8_draws_71 : decode cX8_draws 71 = .ok (.getfield 32, 3) := by decide +kernel
theorem dX8_draws_74 : decode cX8_draws 74 = .ok (.iload_n 2, 1) := by decide +kernel
theorem dX8_draws_75 : decode cX8_draws 75 = .ok (.iaload, 1) := by decide +kernel
theorem dX8_draws_76 : decode cX8_draws 76 = .ok (.invokevirtual 107, 3) := by decide +kernel
theorem dX8_draws_79 : decode cX8_draws 79 = .ok (.aload_n 0, 1) := by decide +kernel
theorem dX8_draws_80 : decode cX8_draws 80 = .ok (.iload_n 1, 1) := by decide +kernel
theorem dX8_draws_81 : decode cX8_draws 81 = .ok (.aload_n 0, 1) := by decide +kernel
theorem dX8_draws_82 : decode cX8_draws 82 = .ok (.getfield 29, 3) := by decide +kernel
theorem dX8_draws_85 : decode cX8_draws 85 = .ok (.iload_n 2, 1) := by decide +kernel
theorem dX8_draws_86 : decode cX8_draws 86 = .ok (.iaload, 1) := by decide +kernel
theorem dX8_draws_87 : decode cX8_draws 87 = .ok (.iconst 1, 1) := by decide +kernel
theorem dX8_draws_88 : decode cX8_draws 88 = .ok (.isub, 1) := by decide +kernel
theorem dX8_draws_89 : decode cX8_draws 89 = .ok (.aload_n 0, 1) := by decide +kernel
theorem dX8_draws_90 : decode cX8_draws 90 = .ok (.getfield 32, 3) := by decide +kernel
theorem dX8_draws_93 : decode cX8_draws 93 = .ok (.iload_n 2, 1) := by decide +kernel
theorem dX8_draws_94 : decode cX8_draws 94 = .ok (.iaload, 1) := by decide +kernel
theorem dX8_draws_95 : decode cX8_draws 95 = .ok (.invokevirtual 107, 3) := by decide +kernel
theorem dX8_draws_98 : decode cX8_draws 98 = .ok (.aload_n 0, 1) := by decide +kernel
theorem dX8_draws_99 : decode cX8_draws 99 = .ok (.iload_n 1, 1) := by decide +kernel
theorem dX8_draws_100 : decode cX8_draws 100 = .ok (.aload_n 0, 1) := by decide +kernel
theorem dX8_draws_101 : decode cX8_draws 101 = .ok (.getfield 29, 3) := by decide +kernel
theorem dX8_draws_104 : decode cX8_draws 104 = .ok (.iload_n 2, 1) := by decide +kernel
theorem dX8_draws_105 : decode cX8_draws 105 = .ok (.iaload, 1) := by decide +kernel
theorem dX8_draws_106 : decode cX8_draws 106 = .ok (.aload_n 0, 1) := by decide +kernel
theorem dX8_draws_107 : decode cX8_draws 107 = .ok (.getfield 32, 3) := by decide +kernel
theorem dX8_draws_110 : decode cX8_draws 110 = .ok (.iload_n 2, 1) := by decide +kernel
theorem dX8_draws_111 : decode cX8_draws 111 = .ok (.iaload, 1) := by decide +kernel
theorem dX8_draws_112 : decode cX8_draws 112 = .ok (.iconst 1, 1) := by decide +kernel
theorem dX8_draws_113 : decode cX8_draws 113 = .ok (.iadd, 1) := by decide +kernel
theorem dX8_draws_114 : decode cX8_draws 114 = .ok (.invokevirtual 107, 3) := by decide +kernel
theorem dX8_draws_117 : decode cX8_draws 117 = .ok (.aload_n 0, 1) := by decide +kernel
theorem dX8_draws_118 : decode cX8_draws 118 = .ok (.iload_n 1, 1) := by decide +kernel
theorem dX8_draws_119 : decode cX8_draws 119 = .ok (.aload_n 0, 1) := by decide +kernel
theorem dX8_draws_120 : decode cX8_draws 120 = .ok (.getfield 29, 3) := by decide +kernel
theorem dX8_draws_123 : decode cX8_draws 123 = .ok (.iload_n 2, 1) := by decide +kernel
theorem dX8_draws_124 : decode cX8_draws 124 = .ok (.iaload, 1) := by decide +kernel
theorem dX8_draws_125 : decode cX8_draws 125 = .ok (.aload_n 0, 1) := by decide +kernel
theorem dX8_draws_126 : decode cX8_draws 126 = .ok (.getfield 32, 3) := by decide +kernel
theorem dX8_draws_129 : decode cX8_draws 129 = .ok (.iload_n 2, 1) := by decide +kernel
theorem dX8_draws_130 : decode cX8_draws 130 = .ok (.iaload, 1) := by decide +kernel
theorem dX8_draws_131 : decode cX8_draws 131 = .ok (.iconst 1, 1) := by decide +kernel
theorem dX8_draws_132 : decode cX8_draws 132 = .ok (.isub, 1) := by decide +kernel
theorem dX8_draws_133 : decode cX8_draws 133 = .ok (.invokevirtual 107, 3) := by decide +kernel
theorem dX8_draws_136 : decode cX8_draws 136 = .ok (.goto 172, 3) := by decide +kernel
theorem dX8_draws_139 : decode cX8_draws 139 = .ok (.aload_n 0, 1) := by decide +kernel
theorem dX8_draws_140 : decode cX8_draws 140 = .ok (.getfield 20, 3) := by decide +kernel
theorem dX8_draws_143 : decode cX8_draws 143 = .ok (.iload_n 1, 1) := by decide +kernel
theorem dX8_draws_144 : decode cX8_draws 144 = .ok (.iaload, 1) := by decide +kernel
theorem dX8_draws_145 : decode cX8_draws 145 = .ok (.iconst 1, 1) := by decide +kernel
theorem dX8_draws_146 : decode cX8_draws 146 = .ok (.if_icmp .ne 66, 3) := by decide +kernel
theorem dX8_draws_149 : decode cX8_draws 149 = .ok (.aload_n 0, 1) := by decide +kernel
theorem dX8_draws_150 : decode cX8_draws 150 = .ok (.getfield 32, 3) := by decide +kernel
theorem dX8_draws_153 : decode cX8_draws 153 = .ok (.iload_n 2, 1) := by decide +kernel
theorem dX8_draws_154 : decode cX8_draws 154 = .ok (.iaload, 1) := by decide +kernel
theorem dX8_draws_155 : decode cX8_draws 155 = .ok (.istore_n 3, 1) := by decide +kernel
theorem dX8_draws_156 : decode cX8_draws 156 = .ok (.iload_n 3, 1) := by decide +kernel
theorem dX8_draws_157 : decode cX8_draws 157 = .ok (.aload_n 0, 1) := by decide +kernel
theorem dX8_draws_158 : decode cX8_draws 158 = .ok (.getfield 32, 3) := by decide +kernel
theorem dX8_draws_161 : decode cX8_draws 161 = .ok (.iload_n 2, 1) := by decide +kernel
theorem dX8_draws_162 : decode cX8_draws 162 = .ok (.iconst 1, 1) := by decide +kernel
theorem dX8_draws_163 : decode cX8_draws 163 = .ok (.iadd, 1) := by decide +kernel
theorem dX8_draws_164 : decode cX8_draws 164 = .ok (.iaload, 1) := by decide +kernel
theorem dX8_draws_165 : decode cX8_draws 165 = .ok (.if_icmp .gt 44, 3) := by decide +kernel
theorem dX8_draws_168 : decode cX8_draws 168 = .ok (.aload_n 0, 1) := by decide +kernel
theorem dX8_draws_169 : decode cX8_draws 169 = .ok (.getfield 29, 3) := by decide +kernel
theorem dX8_draws_172 : decode cX8_draws 172 = .ok (.iload_n 2, 1) := by decide +kernel
theorem dX8_draws_173 : decode cX8_draws 173 = .ok (.iaload, 1) := by decide +kernel
theorem dX8_draws_174 : decode cX8_draws 174 = .ok (.istore 4, 2) := by decide +kernel
theorem dX8_draws_176 : decode cX8_draws 176 = .ok (.iload 4, 2) := by decide +kernel
theorem dX8_draws_178 : decode cX8_draws 178 = .ok (.aload_n 0, 1) := by decide +kernel
theorem dX8_draws_179 : decode cX8_draws 179 = .ok (.getfield 29, 3) := by decide +kernel
theorem dX8_draws_182 : decode cX8_draws 182 = .ok (.iload_n 2, 1) := by decide +kernel
theorem dX8_draws_183 : decode cX8_draws 183 = .ok (.iconst 1, 1) := by decide +kernel
theorem dX8_draws_184 : decode cX8_draws 184 = .ok (.iadd, 1) := by decide +kernel
theorem dX8_draws_185 : decode cX8_draws 185 = .ok (.iaload, 1) := by decide +kernel
theorem dX8_draws_186 : decode cX8_draws 186 = .ok (.if_icmp .gt 17, 3) := by decide +kernel
theorem dX8_draws_189 : decode cX8_draws 189 = .ok (.aload_n 0, 1) := by decide +kernel
theorem dX8_draws_190 : decode cX8_draws 190 = .ok (.iload_n 1, 1) := by decide +kernel
theorem dX8_draws_191 : decode cX8_draws 191 = .ok (.iload 4, 2) := by decide +kernel
theorem dX8_draws_193 : decode cX8_draws 193 = .ok (.iload_n 3, 1) := by decide +kernel
theorem dX8_draws_194 : decode cX8_draws 194 = .ok (.invokevirtual 107, 3) := by decide +kernel
theorem dX8_draws_197 : decode cX8_draws 197 = .ok (.iinc 4 1, 3) := by decide +kernel
theorem dX8_draws_200 : decode cX8_draws 200 = .ok (.goto (-24), 3) := by decide +kernel
theorem dX8_draws_203 : decode cX8_draws 203 = .ok (.iinc 3 1, 3) := by decide +kernel
theorem dX8_draws_206 : decode cX8_draws 206 = .ok (.goto (-50), 3) := by decide +kernel
theorem dX8_draws_209 : decode cX8_draws 209 = .ok (.goto 99, 3) := by decide +kernel
theorem dX8_draws_212 : decode cX8_draws 212 = .ok (.aload_n 0, 1) := by decide +kernel
theorem dX8_draws_213 : decode cX8_draws 213 = .ok (.iload_n 1, 1) := by decide +kernel
theorem dX8_draws_214 : decode cX8_draws 214 = .ok (.aload_n 0, 1) := by decide +kernel
theorem dX8_draws_215 : decode cX8_draws 215 = .ok (.getfield 29, 3) := by decide +kernel
theorem dX8_draws_218 : decode cX8_draws 218 = .ok (.iload_n 2, 1) := by decide +kernel
theorem dX8_draws_219 : decode cX8_draws 219 = .ok (.iaload, 1) := by decide +kernel
theorem dX8_draws_220 : decode cX8_draws 220 = .ok (.aload_n 0, 1) := by decide +kernel
theorem dX8_draws_221 : decode cX8_draws 221 = .ok (.getfield 32, 3) := by decide +kernel
theorem dX8_draws_224 : decode cX8_draws 224 = .ok (.iload_n 2, 1) := by decide +kernel
theorem dX8_draws_225 : decode cX8_draws 225 = .ok (.iaload, 1) := by decide +kernel
theorem dX8_draws_226 : decode cX8_draws 226 = .ok (.invokevirtual 107, 3) := by decide +kernel
theorem dX8_draws_229 : decode cX8_draws 229 = .ok (.iconst 0, 1) := by decide +kernel
theorem dX8_draws_230 : decode cX8_draws 230 = .ok (.istore_n 3, 1) := by decide +kernel
theorem dX8_draws_231 : decode cX8_draws 231 = .ok (.iload_n 3, 1) := by decide +kernel
theorem dX8_draws_232 : decode cX8_draws 232 = .ok (.iconst 1, 1) := by decide +kernel
theorem dX8_draws_233 : decode cX8_draws 233 = .ok (.iadd, 1) := by decide +kernel
theorem dX8_draws_234 : decode cX8_draws 234 = .ok (.aload_n 0, 1) := by decide +kernel
theorem dX8_draws_235 : decode cX8_draws 235 = .ok (.getfield 26, 3) := by decide +kernel
theorem dX8_draws_238 : decode cX8_draws 238 = .ok (.iload_n 1, 1) := by decide +kernel
theorem dX8_draws_239 : decode cX8_draws 239 = .ok (.iaload, 1) := by decide +kernel
theorem dX8_draws_240 : decode cX8_draws 240 = .ok (.if_icmp .ge 68, 3) := by decide +kernel
theorem dX8_draws_243 : decode cX8_draws 243 = .ok (.aload_n 0, 1) := by decide +kernel
theorem dX8_draws_244 : decode cX8_draws 244 = .ok (.iload_n 1, 1) := by decide +kernel
theorem dX8_draws_245 : decode cX8_draws 245 = .ok (.aload_n 0, 1) := by decide +kernel
theorem dX8_draws_246 : decode cX8_draws 246 = .ok (.getfield 29, 3) := by decide +kernel
theorem dX8_draws_249 : decode cX8_draws 249 = .ok (.iload_n 2, 1) := by decide +kernel
theorem dX8_draws_250 : decode cX8_draws 250 = .ok (.iload_n 3, 1) := by decide +kernel
theorem dX8_draws_251 : decode cX8_draws 251 = .ok (.iadd, 1) := by decide +kernel
theorem dX8_draws_252 : decode cX8_draws 252 = .ok (.iaload, 1) := by decide +kernel
theorem dX8_draws_253 : decode cX8_draws 253 = .ok (.aload_n 0, 1) := by decide +kernel
theorem dX8_draws_254 : decode cX8_draws 254 = .ok (.getfield 32, 3) := by decide +kernel
theorem dX8_draws_257 : decode cX8_draws 257 = .ok (.iload_n 2, 1) := by decide +kernel
theorem dX8_draws_258 : decode cX8_draws 258 = .ok (.iload_n 3, 1) := by decide +kernel
theorem dX8_draws_259 : decode cX8_draws 259 = .ok (.iadd, 1) := by decide +kernel
theorem dX8_draws_260 : decode cX8_draws 260 = .ok (.iaload, 1) := by decide +kernel
theorem dX8_draws_261 : decode cX8_draws 261 = .ok (.aload_n 0, 1) := by decide +kernel
theorem dX8_draws_262 : decode cX8_draws 262 = .ok (.getfield 29, 3) := by decide +kernel
theorem dX8_draws_265 : decode cX8_draws 265 = .ok (.iload_n 2, 1) := by decide +kernel
theorem dX8_draws_266 : decode cX8_draws 266 = .ok (.iload_n 3, 1) := by decide +kernel
theorem dX8_draws_267 : decode cX8_draws 267 = .ok (.iadd, 1) := by decide +kernel
theorem dX8_draws_268 : decode cX8_draws 268 = .ok (.iconst 1, 1) := by decide +kernel
theorem dX8_draws_269 : decode cX8_draws 269 = .ok (.iadd, 1) := by decide +kernel
theorem dX8_draws_270 : decode cX8_draws 270 = .ok (.iaload, 1) := by decide +kernel
theorem dX8_draws_271 : decode cX8_draws 271 = .ok (.aload_n 0, 1) := by decide +kernel
theorem dX8_draws_272 : decode cX8_draws 272 = .ok (.getfield 29, 3) := by decide +kernel
theorem dX8_draws_275 : decode cX8_draws 275 = .ok (.iload_n 2, 1) := by decide +kernel
theorem dX8_draws_276 : decode cX8_draws 276 = .ok (.iload_n 3, 1) := by decide +kernel
theorem dX8_draws_277 : decode cX8_draws 277 = .ok (.iadd, 1) := by decide +kernel
theorem dX8_draws_278 : decode cX8_draws 278 = .ok (.iaload, 1) := by decide +kernel
theorem dX8_draws_279 : decode cX8_draws 279 = .ok (.isub, 1) := by decide +kernel
theorem dX8_draws_280 : decode cX8_draws 280 = .ok (.aload_n 0, 1) := by decide +kernel
theorem dX8_draws_281 : decode cX8_draws 281 = .ok (.getfield 32, 3) := by decide +kernel
theorem dX8_draws_284 : decode cX8_draws 284 = .ok (.iload_n 2, 1) := by decide +kernel
theorem dX8_draws_285 : decode cX8_draws 285 = .ok (.iload_n 3, 1) := by decide +kernel
theorem dX8_draws_286 : decode cX8_draws 286 = .ok (.iadd, 1) := by decide +kernel
theorem dX8_draws_287 : decode cX8_draws 287 = .ok (.iconst 1, 1) := by decide +kernel
theorem dX8_draws_288 : decode cX8_draws 288 = .ok (.iadd, 1) := by decide +kernel
theorem dX8_draws_289 : decode cX8_draws 289 = .ok (.iaload, 1) := by decide +kernel
theorem dX8_draws_290 : decode cX8_draws 290 = .ok (.aload_n 0, 1) := by decide +kernel
theorem dX8_draws_291 : decode cX8_draws 291 = .ok (.getfield 32, 3) := by decide +kernel
theorem dX8_draws_294 : decode cX8_draws 294 = .ok (.iload_n 2, 1) := by decide +kernel
theorem dX8_draws_295 : decode cX8_draws 295 = .ok (.iload_n 3, 1) := by decide +kernel
theorem dX8_draws_296 : decode cX8_draws 296 = .ok (.iadd, 1) := by decide +kernel
theorem dX8_draws_297 : decode cX8_draws 297 = .ok (.iaload, 1) := by decide +kernel
theorem dX8_draws_298 : decode cX8_draws 298 = .ok (.isub, 1) := by decide +kernel
theorem dX8_draws_299 : decode cX8_draws 299 = .ok (.invokevirtual 111, 3) := by decide +kernel
theorem dX8_draws_302 : decode cX8_draws 302 = .ok (.iinc 3 1, 3) := by decide +kernel
theorem dX8_draws_305 : decode cX8_draws 305 = .ok (.goto (-74), 3) := by decide +kernel
theorem dX8_draws_308 : decode cX8_draws 308 = .ok (.return_, 1) := by decide +kernel
theorem dX8_steps_0 : decode cX8_steps 0 = .ok (.iload 4, 2) := by decide +kernel
theorem dX8_steps_2 : decode cX8_steps 2 = .ok (.invokestatic 115, 3) := by decide +kernel
theorem dX8_steps_5 : decode cX8_steps 5 = .ok (.iload 5, 2) := by decide +kernel
theorem dX8_steps_7 : decode cX8_steps 7 = .ok (.invokestatic 115, 3) := by decide +kernel
theorem dX8_steps_10 : decode cX8_steps 10 = .ok (.if_icmp .le 11, 3) := by decide +kernel
theorem dX8_steps_13 : decode cX8_steps 13 = .ok (.iload 4, 2) := by decide +kernel
theorem dX8_steps_15 : decode cX8_steps 15 = .ok (.invokestatic 115, 3) := by decide +kernel
theorem dX8_steps_18 : decode cX8_steps 18 = .ok (.goto 8, 3) := by decide +kernel
theorem dX8_steps_21 : decode cX8_steps 21 = .ok (.iload 5, 2) := by decide +kernel
theorem dX8_steps_23 : decode cX8_steps 23 = .ok (.invokestatic 115, 3) := by decide +kernel
theorem dX8_steps_26 : decode cX8_steps 26 = .ok (.istore 6, 2) := by decide +kernel
theorem dX8_steps_28 : decode cX8_steps 28 = .ok (.iconst 0, 1) := by decide +kernel
theorem dX8_steps_29 : decode cX8_steps 29 = .ok (.istore 7, 2) := by decide +kernel
theorem dX8_steps_31 : decode cX8_steps 31 = .ok (.iload 7, 2) := by decide +kernel
theorem dX8_steps_33 : decode cX8_steps 33 = .ok (.iload 6, 2) := by decide +kernel
theorem dX8_steps_35 : decode cX8_steps 35 = .ok (.if_icmp .gt 57, 3) := by decide +kernel
theorem dX8_steps_38 : decode cX8_steps 38 = .ok (.iload 6, 2) := by decide +kernel
theorem dX8_steps_40 : decode cX8_steps 40 = .ok (.ifCond .le 52, 3) := by decide +kernel
theorem dX8_steps_43 : decode cX8_steps 43 = .ok (.aload_n 0, 1) := by decide +kernel
theorem dX8_steps_44 : decode cX8_steps 44 = .ok (.iload_n 1, 1) := by decide +kernel
theorem dX8_steps_45 : decode cX8_steps 45 = .ok (.iload_n 2, 1) := by decide +kernel
theorem dX8_steps_46 : decode cX8_steps 46 = .ok (.iconst 2, 1) := by decide +kernel
theorem dX8_steps_47 : decode cX8_steps 47 = .ok (.iload 7, 2) := by decide +kernel
theorem dX8_steps_49 : decode cX8_steps 49 = .ok (.imul, 1) := by decide +kernel
theorem dX8_steps_50 : decode cX8_steps 50 = .ok (.iload 4, 2) := by decide +kernel
theorem dX8_steps_52 : decode cX8_steps 52 = .ok (.imul, 1) := by decide +kernel
theorem dX8_steps_53 : decode cX8_steps 53 = .ok (.iload 6, 2) := by decide +kernel
theorem dX8_steps_55 : decode cX8_steps 55 = .ok (.iadd, 1) := by decide +kernel
theorem dX8_steps_56 : decode cX8_steps 56 = .ok (.iconst 2, 1) := by decide +kernel
theorem dX8_steps_57 : decode cX8_steps 57 = .ok (.iload 6, 2) := by decide +kernel
theorem dX8_steps_59 : decode cX8_steps 59 = .ok (.imul, 1) := by decide +kernel
theorem dX8_steps_60 : decode cX8_steps 60 = .ok (.invokestatic 119, 3) := by decide +kernel
theorem dX8_steps_63 : decode cX8_steps 63 = .ok (.iadd, 1) := by decide +kernel
theorem dX8_steps_64 : decode cX8_steps 64 = .ok (.iload_n 3, 1) := by decide +kernel
theorem dX8_steps_65 : decode cX8_steps 65 = .ok (.iconst 2, 1) := by decide +kernel
theorem dX8_steps_66 : decode cX8_steps 66 = .ok (.iload 7, 2) := by decide +kernel
theorem dX8_steps_68 : decode cX8_steps 68 = .ok (.imul, 1) := by decide +kernel
theorem dX8_steps_69 : decode cX8_steps 69 = .ok (.iload 5, 2) := by decide +kernel
theorem dX8_steps_71 : decode cX8_steps 71 = .ok (.imul, 1) := by decide +kernel
theorem dX8_steps_72 : decode cX8_steps 72 = .ok (.iload 6, 2) := by decide +kernel
theorem dX8_steps_74 : decode cX8_steps 74 = .ok (.iadd, 1) := by decide +kernel
theorem dX8_steps_75 : decode cX8_steps 75 = .ok (.iconst 2, 1) := by decide +kernel
theorem dX8_steps_76 : decode cX8_steps 76 = .ok (.iload 6, 2) := by decide +kernel
theorem dX8_steps_78 : decode cX8_steps 78 = .ok (.imul, 1) := by decide +kernel
theorem dX8_steps_79 : decode cX8_steps 79 = .ok (.invokestatic 119, 3) := by decide +kernel
theorem dX8_steps_82 : decode cX8_steps 82 = .ok (.iadd, 1) := by decide +kernel
theorem dX8_steps_83 : decode cX8_steps 83 = .ok (.invokevirtual 107, 3) := by decide +kernel
theorem dX8_steps_86 : decode cX8_steps 86 = .ok (.iinc 7 1, 3) := by decide +kernel
theorem dX8_steps_89 : decode cX8_steps 89 = .ok (.goto (-58), 3) := by decide +kernel
theorem dX8_steps_92 : decode cX8_steps 92 = .ok (.return_, 1) := by decide +kernel
theorem dX8_has_0 : decode cX8_has 0 = .ok (.aload_n 0, 1) := by decide +kernel
theorem dX8_has_1 : decode cX8_has 1 = .ok (.getfield 35, 3) := by decide +kernel
theorem dX8_has_4 : decode cX8_has 4 = .ok (.sipush 576, 3) := by decide +kernel
theorem dX8_has_7 : decode cX8_has 7 = .ok (.iload_n 1, 1) := by decide +kernel
theorem dX8_has_8 : decode cX8_has 8 = .ok (.imul, 1) := by decide +kernel
theorem dX8_has_9 : decode cX8_has 9 = .ok (.bipush 24, 2) := by decide +kernel
theorem dX8_has_11 : decode cX8_has 11 = .ok (.iload_n 3, 1) := by decide +kernel
theorem dX8_has_12 : decode cX8_has 12 = .ok (.imul, 1) := by decide +kernel
theorem dX8_has_13 : decode cX8_has 13 = .ok (.iadd, 1) := by decide +kernel
theorem dX8_has_14 : decode cX8_has 14 = .ok (.iload_n 2, 1) := by decide +kernel
theorem dX8_has_15 : decode cX8_has 15 = .ok (.iadd, 1) := by decide +kernel
theorem dX8_has_16 : decode cX8_has 16 = .ok (.baload, 1) := by decide +kernel
theorem dX8_has_17 : decode cX8_has 17 = .ok (.ireturn, 1) := by decide +kernel
theorem dX8_pin_0 : decode cX8_pin 0 = .ok (.aload_n 0, 1) := by decide +kernel
theorem dX8_pin_1 : decode cX8_pin 1 = .ok (.iload_n 1, 1) := by decide +kernel
theorem dX8_pin_2 : decode cX8_pin 2 = .ok (.invokevirtual 101, 3) := by decide +kernel
theorem dX8_pin_5 : decode cX8_pin 5 = .ok (.ifCond .eq 11, 3) := by decide +kernel
theorem dX8_pin_8 : decode cX8_pin 8 = .ok (.iload_n 2, 1) := by decide +kernel
theorem dX8_pin_9 : decode cX8_pin 9 = .ok (.iload_n 3, 1) := by decide +kernel
theorem dX8_pin_10 : decode cX8_pin 10 = .ok (.invokestatic 82, 3) := by decide +kernel
theorem dX8_pin_13 : decode cX8_pin 13 = .ok (.ifCond .ne 7, 3) := by decide +kernel
theorem dX8_pin_16 : decode cX8_pin 16 = .ok (.iconst (-1), 1) := by decide +kernel
theorem dX8_pin_17 : decode cX8_pin 17 = .ok (.goto 18, 3) := by decide +kernel
theorem dX8_pin_20 : decode cX8_pin 20 = .ok (.aload_n 0, 1) := by decide +kernel
theorem dX8_pin_21 : decode cX8_pin 21 = .ok (.iload_n 1, 1) := by decide +kernel
theorem dX8_pin_22 : decode cX8_pin 22 = .ok (.iload_n 2, 1) := by decide +kernel
theorem dX8_pin_23 : decode cX8_pin 23 = .ok (.iload_n 3, 1) := by decide +kernel
theorem dX8_pin_24 : decode cX8_pin 24 = .ok (.invokevirtual 123, 3) := by decide +kernel
theorem dX8_pin_27 : decode cX8_pin 27 = .ok (.ifCond .eq 7, 3) := by decide +kernel
theorem dX8_pin_30 : decode cX8_pin 30 = .ok (.iconst 1, 1) := by decide +kernel
theorem dX8_pin_31 : decode cX8_pin 31 = .ok (.goto 4, 3) := by decide +kernel
theorem dX8_pin_34 : decode cX8_pin 34 = .ok (.iconst 0, 1) := by decide +kernel
theorem dX8_pin_35 : decode cX8_pin 35 = .ok (.ireturn, 1) := by decide +kernel
theorem dX8_look_0 : decode cX8_look 0 = .ok (.iload_n 1, 1) := by decide +kernel
theorem dX8_look_1 : decode cX8_look 1 = .ok (.ifCond .ne 10, 3) := by decide +kernel
theorem dX8_look_4 : decode cX8_look 4 = .ok (.aload_n 0, 1) := by decide +kernel
theorem dX8_look_5 : decode cX8_look 5 = .ok (.getfield 79, 3) := by decide +kernel
theorem dX8_look_8 : decode cX8_look 8 = .ok (.goto 28, 3) := by decide +kernel
theorem dX8_look_11 : decode cX8_look 11 = .ok (.iload_n 1, 1) := by decide +kernel
theorem dX8_look_12 : decode cX8_look 12 = .ok (.iconst 1, 1) := by decide +kernel
theorem dX8_look_13 : decode cX8_look 13 = .ok (.if_icmp .ne 10, 3) := by decide +kernel
theorem dX8_look_16 : decode cX8_look 16 = .ok (.aload_n 0, 1) := by decide +kernel
theorem dX8_look_17 : decode cX8_look 17 = .ok (.getfield 86, 3) := by decide +kernel
theorem dX8_look_20 : decode cX8_look 20 = .ok (.goto 16, 3) := by decide +kernel
theorem dX8_look_23 : decode cX8_look 23 = .ok (.iload_n 1, 1) := by decide +kernel
theorem dX8_look_24 : decode cX8_look 24 = .ok (.iconst 2, 1) := by decide +kernel
theorem dX8_look_25 : decode cX8_look 25 = .ok (.if_icmp .ne 10, 3) := by decide +kernel
theorem dX8_look_28 : decode cX8_look 28 = .ok (.aload_n 0, 1) := by decide +kernel
theorem dX8_look_29 : decode cX8_look 29 = .ok (.getfield 7, 3) := by decide +kernel
theorem dX8_look_32 : decode cX8_look 32 = .ok (.goto 4, 3) := by decide +kernel
theorem dX8_look_35 : decode cX8_look 35 = .ok (.iconst (-1), 1) := by decide +kernel
theorem dX8_look_36 : decode cX8_look 36 = .ok (.ireturn, 1) := by decide +kernel
theorem dX8_of_0 : decode cX8_of 0 = .ok (.aload_n 0, 1) := by decide +kernel
theorem dX8_of_1 : decode cX8_of 1 = .ok (.iload_n 1, 1) := by decide +kernel
theorem dX8_of_2 : decode cX8_of 2 = .ok (.invokevirtual 101, 3) := by decide +kernel
theorem dX8_of_5 : decode cX8_of 5 = .ok (.ifCond .ne 5, 3) := by decide +kernel
theorem dX8_of_8 : decode cX8_of 8 = .ok (.iconst (-1), 1) := by decide +kernel
theorem dX8_of_9 : decode cX8_of 9 = .ok (.ireturn, 1) := by decide +kernel
theorem dX8_of_10 : decode cX8_of 10 = .ok (.iconst 0, 1) := by decide +kernel
theorem dX8_of_11 : decode cX8_of 11 = .ok (.istore_n 3, 1) := by decide +kernel
theorem dX8_of_12 : decode cX8_of 12 = .ok (.iload_n 2, 1) := by decide +kernel
theorem dX8_of_13 : decode cX8_of 13 = .ok (.tableswitch 108 0 3 #[31, 38, 45, 88], 31) := by decide +kernel
theorem dX8_of_44 : decode cX8_of 44 = .ok (.aload_n 0, 1) := by decide +kernel
theorem dX8_of_45 : decode cX8_of 45 = .ok (.getfield 20, 3) := by decide +kernel
theorem dX8_of_48 : decode cX8_of 48 = .ok (.iload_n 1, 1) := by decide +kernel
theorem dX8_of_49 : decode cX8_of 49 = .ok (.iaload, 1) := by decide +kernel
theorem dX8_of_50 : decode cX8_of 50 = .ok (.ireturn, 1) := by decide +kernel
theorem dX8_of_51 : decode cX8_of 51 = .ok (.aload_n 0, 1) := by decide +kernel
theorem dX8_of_52 : decode cX8_of 52 = .ok (.getfield 23, 3) := by decide +kernel
theorem dX8_of_55 : decode cX8_of 55 = .ok (.iload_n 1, 1) := by decide +kernel
theorem dX8_of_56 : decode cX8_of 56 = .ok (.iaload, 1) := by decide +kernel
theorem dX8_of_57 : decode cX8_of 57 = .ok (.ireturn, 1) := by decide +kernel
theorem dX8_of_58 : decode cX8_of 58 = .ok (.iconst 0, 1) := by decide +kernel
theorem dX8_of_59 : decode cX8_of 59 = .ok (.istore 4, 2) := by decide +kernel
theorem dX8_of_61 : decode cX8_of 61 = .ok (.iload 4, 2) := by decide +kernel
theorem dX8_of_63 : decode cX8_of 63 = .ok (.sipush 576, 3) := by decide +kernel
theorem dX8_of_66 : decode cX8_of 66 = .ok (.if_icmp .ge 33, 3) := by decide +kernel
