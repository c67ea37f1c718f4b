theorem dX8_of_69 : decode cX8_of 69 = .ok (.iload_n 3, 1) := by decide +kernel
theorem dX8_of_70 : decode cX8_of 70 = .ok (.aload_n 0, 1) := by decide +kernel
theorem dX8_of_71 : decode cX8_of 71 = .ok (.getfield 35, 3) := by decide +kernel
theorem dX8_of_74 : decode cX8_of 74 = .ok (.sipush 576, 3) := by decide +kernel
theorem dX8_of_77 : decode cX8_of 77 = .ok (.iload_n 1, 1) := by decide +kernel
theorem dX8_of_78 : decode cX8_of 78 = .ok (.imul, 1) := by decide +kernel
theorem dX8_of_79 : decode cX8_of 79 = .ok (.iload 4, 2) := by decide +kernel
theorem dX8_of_81 : decode cX8_of 81 = .ok (.iadd, 1) := by decide +kernel
theorem dX8_of_82 : decode cX8_of 82 = .ok (.baload, 1) := by decide +kernel
theorem dX8_of_83 : decode cX8_of 83 = .ok (.ifCond .eq 7, 3) := by decide +kernel
theorem dX8_of_86 : decode cX8_of 86 = .ok (.iconst 1, 1) := by decide +kernel
theorem dX8_of_87 : decode cX8_of 87 = .ok (.goto 4, 3) := by decide +kernel
theorem dX8_of_90 : decode cX8_of 90 = .ok (.iconst 0, 1) := by decide +kernel
theorem dX8_of_91 : decode cX8_of 91 = .ok (.iadd, 1) := by decide +kernel
theorem dX8_of_92 : decode cX8_of 92 = .ok (.istore_n 3, 1) := by decide +kernel
theorem dX8_of_93 : decode cX8_of 93 = .ok (.iinc 4 1, 3) := by decide +kernel
theorem dX8_of_96 : decode cX8_of 96 = .ok (.goto (-35), 3) := by decide +kernel
theorem dX8_of_99 : decode cX8_of 99 = .ok (.iload_n 3, 1) := by decide +kernel
theorem dX8_of_100 : decode cX8_of 100 = .ok (.ireturn, 1) := by decide +kernel
theorem dX8_of_101 : decode cX8_of 101 = .ok (.aload_n 0, 1) := by decide +kernel
theorem dX8_of_102 : decode cX8_of 102 = .ok (.getfield 20, 3) := by decide +kernel
theorem dX8_of_105 : decode cX8_of 105 = .ok (.iload_n 1, 1) := by decide +kernel
theorem dX8_of_106 : decode cX8_of 106 = .ok (.iaload, 1) := by decide +kernel
theorem dX8_of_107 : decode cX8_of 107 = .ok (.ifCond .ne 12, 3) := by decide +kernel
theorem dX8_of_110 : decode cX8_of 110 = .ok (.aload_n 0, 1) := by decide +kernel
theorem dX8_of_111 : decode cX8_of 111 = .ok (.getfield 26, 3) := by decide +kernel
theorem dX8_of_114 : decode cX8_of 114 = .ok (.iload_n 1, 1) := by decide +kernel
theorem dX8_of_115 : decode cX8_of 115 = .ok (.iaload, 1) := by decide +kernel
theorem dX8_of_116 : decode cX8_of 116 = .ok (.goto 4, 3) := by decide +kernel
theorem dX8_of_119 : decode cX8_of 119 = .ok (.iconst 0, 1) := by decide +kernel
theorem dX8_of_120 : decode cX8_of 120 = .ok (.ireturn, 1) := by decide +kernel
theorem dX8_of_121 : decode cX8_of 121 = .ok (.iload_n 2, 1) := by decide +kernel
theorem dX8_of_122 : decode cX8_of 122 = .ok (.bipush 10, 2) := by decide +kernel
theorem dX8_of_124 : decode cX8_of 124 = .ok (.bipush 9, 2) := by decide +kernel
theorem dX8_of_126 : decode cX8_of 126 = .ok (.iconst 2, 1) := by decide +kernel
theorem dX8_of_127 : decode cX8_of 127 = .ok (.aload_n 0, 1) := by decide +kernel
theorem dX8_of_128 : decode cX8_of 128 = .ok (.getfield 26, 3) := by decide +kernel
theorem dX8_of_131 : decode cX8_of 131 = .ok (.iload_n 1, 1) := by decide +kernel
theorem dX8_of_132 : decode cX8_of 132 = .ok (.iaload, 1) := by decide +kernel
theorem dX8_of_133 : decode cX8_of 133 = .ok (.imul, 1) := by decide +kernel
theorem dX8_of_134 : decode cX8_of 134 = .ok (.iadd, 1) := by decide +kernel
theorem dX8_of_135 : decode cX8_of 135 = .ok (.invokestatic 75, 3) := by decide +kernel
theorem dX8_of_138 : decode cX8_of 138 = .ok (.ifCond .ne 5, 3) := by decide +kernel
theorem dX8_of_141 : decode cX8_of 141 = .ok (.iconst (-1), 1) := by decide +kernel
theorem dX8_of_142 : decode cX8_of 142 = .ok (.ireturn, 1) := by decide +kernel
theorem dX8_of_143 : decode cX8_of 143 = .ok (.iload_n 2, 1) := by decide +kernel
theorem dX8_of_144 : decode cX8_of 144 = .ok (.bipush 10, 2) := by decide +kernel
theorem dX8_of_146 : decode cX8_of 146 = .ok (.isub, 1) := by decide +kernel
theorem dX8_of_147 : decode cX8_of 147 = .ok (.iconst 2, 1) := by decide +kernel
theorem dX8_of_148 : decode cX8_of 148 = .ok (.idiv, 1) := by decide +kernel
theorem dX8_of_149 : decode cX8_of 149 = .ok (.istore 4, 2) := by decide +kernel
theorem dX8_of_151 : decode cX8_of 151 = .ok (.iload_n 2, 1) := by decide +kernel
theorem dX8_of_152 : decode cX8_of 152 = .ok (.iconst 2, 1) := by decide +kernel
theorem dX8_of_153 : decode cX8_of 153 = .ok (.irem, 1) := by decide +kernel
theorem dX8_of_154 : decode cX8_of 154 = .ok (.ifCond .ne 18, 3) := by decide +kernel
theorem dX8_of_157 : decode cX8_of 157 = .ok (.aload_n 0, 1) := by decide +kernel
theorem dX8_of_158 : decode cX8_of 158 = .ok (.getfield 29, 3) := by decide +kernel
theorem dX8_of_161 : decode cX8_of 161 = .ok (.bipush 8, 2) := by decide +kernel
theorem dX8_of_163 : decode cX8_of 163 = .ok (.iload_n 1, 1) := by decide +kernel
theorem dX8_of_164 : decode cX8_of 164 = .ok (.imul, 1) := by decide +kernel
theorem dX8_of_165 : decode cX8_of 165 = .ok (.iload 4, 2) := by decide +kernel
theorem dX8_of_167 : decode cX8_of 167 = .ok (.iadd, 1) := by decide +kernel
theorem dX8_of_168 : decode cX8_of 168 = .ok (.iaload, 1) := by decide +kernel
theorem dX8_of_169 : decode cX8_of 169 = .ok (.goto 15, 3) := by decide +kernel
theorem dX8_of_172 : decode cX8_of 172 = .ok (.aload_n 0, 1) := by decide +kernel
theorem dX8_of_173 : decode cX8_of 173 = .ok (.getfield 32, 3) := by decide +kernel
theorem dX8_of_176 : decode cX8_of 176 = .ok (.bipush 8, 2) := by decide +kernel
theorem dX8_of_178 : decode cX8_of 178 = .ok (.iload_n 1, 1) := by decide +kernel
theorem dX8_of_179 : decode cX8_of 179 = .ok (.imul, 1) := by decide +kernel
theorem dX8_of_180 : decode cX8_of 180 = .ok (.iload 4, 2) := by decide +kernel
theorem dX8_of_182 : decode cX8_of 182 = .ok (.iadd, 1) := by decide +kernel
theorem dX8_of_183 : decode cX8_of 183 = .ok (.iaload, 1) := by decide +kernel
theorem dX8_of_184 : decode cX8_of 184 = .ok (.ireturn, 1) := by decide +kernel
theorem dX8_farOf_0 : decode cX8_farOf 0 = .ok (.bipush 24, 2) := by decide +kernel
theorem dX8_farOf_2 : decode cX8_farOf 2 = .ok (.istore_n 3, 1) := by decide +kernel
theorem dX8_farOf_3 : decode cX8_farOf 3 = .ok (.iconst 0, 1) := by decide +kernel
theorem dX8_farOf_4 : decode cX8_farOf 4 = .ok (.istore 4, 2) := by decide +kernel
theorem dX8_farOf_6 : decode cX8_farOf 6 = .ok (.iload 4, 2) := by decide +kernel
theorem dX8_farOf_8 : decode cX8_farOf 8 = .ok (.sipush 576, 3) := by decide +kernel
theorem dX8_farOf_11 : decode cX8_farOf 11 = .ok (.if_icmp .ge 133, 3) := by decide +kernel
theorem dX8_farOf_14 : decode cX8_farOf 14 = .ok (.iload_n 3, 1) := by decide +kernel
theorem dX8_farOf_15 : decode cX8_farOf 15 = .ok (.ifCond .le 129, 3) := by decide +kernel
theorem dX8_farOf_18 : decode cX8_farOf 18 = .ok (.aload_n 0, 1) := by decide +kernel
theorem dX8_farOf_19 : decode cX8_farOf 19 = .ok (.getfield 35, 3) := by decide +kernel
theorem dX8_farOf_22 : decode cX8_farOf 22 = .ok (.sipush 576, 3) := by decide +kernel
theorem dX8_farOf_25 : decode cX8_farOf 25 = .ok (.iload_n 1, 1) := by decide +kernel
theorem dX8_farOf_26 : decode cX8_farOf 26 = .ok (.imul, 1) := by decide +kernel
theorem dX8_farOf_27 : decode cX8_farOf 27 = .ok (.iload 4, 2) := by decide +kernel
theorem dX8_farOf_29 : decode cX8_farOf 29 = .ok (.iadd, 1) := by decide +kernel
theorem dX8_farOf_30 : decode cX8_farOf 30 = .ok (.baload, 1) := by decide +kernel
theorem dX8_farOf_31 : decode cX8_farOf 31 = .ok (.ifCond .ne 6, 3) := by decide +kernel
theorem dX8_farOf_34 : decode cX8_farOf 34 = .ok (.goto 104, 3) := by decide +kernel
theorem dX8_farOf_37 : decode cX8_farOf 37 = .ok (.iconst 0, 1) := by decide +kernel
theorem dX8_farOf_38 : decode cX8_farOf 38 = .ok (.istore 5, 2) := by decide +kernel
theorem dX8_farOf_40 : decode cX8_farOf 40 = .ok (.iload 5, 2) := by decide +kernel
theorem dX8_farOf_42 : decode cX8_farOf 42 = .ok (.sipush 576, 3) := by decide +kernel
theorem dX8_farOf_45 : decode cX8_farOf 45 = .ok (.if_icmp .ge 93, 3) := by decide +kernel
theorem dX8_farOf_48 : decode cX8_farOf 48 = .ok (.iload_n 3, 1) := by decide +kernel
theorem dX8_farOf_49 : decode cX8_farOf 49 = .ok (.ifCond .le 89, 3) := by decide +kernel
theorem dX8_farOf_52 : decode cX8_farOf 52 = .ok (.aload_n 0, 1) := by decide +kernel
theorem dX8_farOf_53 : decode cX8_farOf 53 = .ok (.getfield 35, 3) := by decide +kernel
theorem dX8_farOf_56 : decode cX8_farOf 56 = .ok (.sipush 576, 3) := by decide +kernel
theorem dX8_farOf_59 : decode cX8_farOf 59 = .ok (.iload_n 2, 1) := by decide +kernel
theorem dX8_farOf_60 : decode cX8_farOf 60 = .ok (.imul, 1) := by decide +kernel
theorem dX8_farOf_61 : decode cX8_farOf 61 = .ok (.iload 5, 2) := by decide +kernel
theorem dX8_farOf_63 : decode cX8_farOf 63 = .ok (.iadd, 1) := by decide +kernel
theorem dX8_farOf_64 : decode cX8_farOf 64 = .ok (.baload, 1) := by decide +kernel
theorem dX8_farOf_65 : decode cX8_farOf 65 = .ok (.ifCond .ne 6, 3) := by decide +kernel
theorem dX8_farOf_68 : decode cX8_farOf 68 = .ok (.goto 64, 3) := by decide +kernel
theorem dX8_farOf_71 : decode cX8_farOf 71 = .ok (.iload 4, 2) := by decide +kernel
theorem dX8_farOf_73 : decode cX8_farOf 73 = .ok (.bipush 24, 2) := by decide +kernel
theorem dX8_farOf_75 : decode cX8_farOf 75 = .ok (.irem, 1) := by decide +kernel
theorem dX8_farOf_76 : decode cX8_farOf 76 = .ok (.iload 5, 2) := by decide +kernel
theorem dX8_farOf_78 : decode cX8_farOf 78 = .ok (.bipush 24, 2) := by decide +kernel
theorem dX8_farOf_80 : decode cX8_farOf 80 = .ok (.irem, 1) := by decide +kernel
theorem dX8_farOf_81 : decode cX8_farOf 81 = .ok (.isub, 1) := by decide +kernel
theorem dX8_farOf_82 : decode cX8_farOf 82 = .ok (.invokestatic 115, 3) := by decide +kernel
theorem dX8_farOf_85 : decode cX8_farOf 85 = .ok (.istore 6, 2) := by decide +kernel
theorem dX8_farOf_87 : decode cX8_farOf 87 = .ok (.iload 4, 2) := by decide +kernel
theorem dX8_farOf_89 : decode cX8_farOf 89 = .ok (.bipush 24, 2) := by decide +kernel
theorem dX8_farOf_91 : decode cX8_farOf 91 = .ok (.idiv, 1) := by decide +kernel
theorem dX8_farOf_92 : decode cX8_farOf 92 = .ok (.iload 5, 2) := by decide +kernel
theorem dX8_farOf_94 : decode cX8_farOf 94 = .ok (.bipush 24, 2) := by decide +kernel
theorem dX8_farOf_96 : decode cX8_farOf 96 = .ok (.idiv, 1) := by decide +kernel
theorem dX8_farOf_97 : decode cX8_farOf 97 = .ok (.isub, 1) := by decide +kernel
theorem dX8_farOf_98 : decode cX8_farOf 98 = .ok (.invokestatic 115, 3) := by decide +kernel
theorem dX8_farOf_101 : decode cX8_farOf 101 = .ok (.istore 7, 2) := by decide +kernel
theorem dX8_farOf_103 : decode cX8_farOf 103 = .ok (.iload 6, 2) := by decide +kernel
theorem dX8_farOf_105 : decode cX8_farOf 105 = .ok (.iload 7, 2) := by decide +kernel
theorem dX8_farOf_107 : decode cX8_farOf 107 = .ok (.if_icmp .le 8, 3) := by decide +kernel
theorem dX8_farOf_110 : decode cX8_farOf 110 = .ok (.iload 6, 2) := by decide +kernel
theorem dX8_farOf_112 : decode cX8_farOf 112 = .ok (.goto 5, 3) := by decide +kernel
theorem dX8_farOf_115 : decode cX8_farOf 115 = .ok (.iload 7, 2) := by decide +kernel
theorem dX8_farOf_117 : decode cX8_farOf 117 = .ok (.istore 8, 2) := by decide +kernel
theorem dX8_farOf_119 : decode cX8_farOf 119 = .ok (.iload 8, 2) := by decide +kernel
theorem dX8_farOf_121 : decode cX8_farOf 121 = .ok (.iload_n 3, 1) := by decide +kernel
theorem dX8_farOf_122 : decode cX8_farOf 122 = .ok (.if_icmp .ge 8, 3) := by decide +kernel
theorem dX8_farOf_125 : decode cX8_farOf 125 = .ok (.iload 8, 2) := by decide +kernel
theorem dX8_farOf_127 : decode cX8_farOf 127 = .ok (.goto 4, 3) := by decide +kernel
theorem dX8_farOf_130 : decode cX8_farOf 130 = .ok (.iload_n 3, 1) := by decide +kernel
theorem dX8_farOf_131 : decode cX8_farOf 131 = .ok (.istore_n 3, 1) := by decide +kernel
theorem dX8_farOf_132 : decode cX8_farOf 132 = .ok (.iinc 5 1, 3) := by decide +kernel
theorem dX8_farOf_135 : decode cX8_farOf 135 = .ok (.goto (-95), 3) := by decide +kernel
theorem dX8_farOf_138 : decode cX8_farOf 138 = .ok (.iinc 4 1, 3) := by decide +kernel
theorem dX8_farOf_141 : decode cX8_farOf 141 = .ok (.goto (-135), 3) := by decide +kernel
theorem dX8_farOf_144 : decode cX8_farOf 144 = .ok (.iload_n 3, 1) := by decide +kernel
theorem dX8_farOf_145 : decode cX8_farOf 145 = .ok (.ireturn, 1) := by decide +kernel
theorem dX8_far_0 : decode cX8_far 0 = .ok (.aload_n 0, 1) := by decide +kernel
theorem dX8_far_1 : decode cX8_far 1 = .ok (.iload_n 1, 1) := by decide +kernel
theorem dX8_far_2 : decode cX8_far 2 = .ok (.invokevirtual 101, 3) := by decide +kernel
theorem dX8_far_5 : decode cX8_far 5 = .ok (.ifCond .eq 20, 3) := by decide +kernel
theorem dX8_far_8 : decode cX8_far 8 = .ok (.aload_n 0, 1) := by decide +kernel
theorem dX8_far_9 : decode cX8_far 9 = .ok (.iload_n 2, 1) := by decide +kernel
theorem dX8_far_10 : decode cX8_far 10 = .ok (.invokevirtual 101, 3) := by decide +kernel
theorem dX8_far_13 : decode cX8_far 13 = .ok (.ifCond .eq 12, 3) := by decide +kernel
theorem dX8_far_16 : decode cX8_far 16 = .ok (.aload_n 0, 1) := by decide +kernel
theorem dX8_far_17 : decode cX8_far 17 = .ok (.iload_n 1, 1) := by decide +kernel
theorem dX8_far_18 : decode cX8_far 18 = .ok (.iload_n 2, 1) := by decide +kernel
theorem dX8_far_19 : decode cX8_far 19 = .ok (.invokevirtual 126, 3) := by decide +kernel
theorem dX8_far_22 : decode cX8_far 22 = .ok (.goto 4, 3) := by decide +kernel
theorem dX8_far_25 : decode cX8_far 25 = .ok (.iconst (-1), 1) := by decide +kernel
theorem dX8_far_26 : decode cX8_far 26 = .ok (.ireturn, 1) := by decide +kernel
theorem dX8_isBy_0 : decode cX8_isBy 0 = .ok (.aload_n 0, 1) := by decide +kernel
theorem dX8_isBy_1 : decode cX8_isBy 1 = .ok (.getfield 29, 3) := by decide +kernel
theorem dX8_isBy_4 : decode cX8_isBy 4 = .ok (.bipush 8, 2) := by decide +kernel
theorem dX8_isBy_6 : decode cX8_isBy 6 = .ok (.iload_n 1, 1) := by decide +kernel
theorem dX8_isBy_7 : decode cX8_isBy 7 = .ok (.imul, 1) := by decide +kernel
theorem dX8_isBy_8 : decode cX8_isBy 8 = .ok (.iload_n 2, 1) := by decide +kernel
theorem dX8_isBy_9 : decode cX8_isBy 9 = .ok (.iadd, 1) := by decide +kernel
theorem dX8_isBy_10 : decode cX8_isBy 10 = .ok (.iaload, 1) := by decide +kernel
theorem dX8_isBy_11 : decode cX8_isBy 11 = .ok (.istore 6, 2) := by decide +kernel
theorem dX8_isBy_13 : decode cX8_isBy 13 = .ok (.aload_n 0, 1) := by decide +kernel
theorem dX8_isBy_14 : decode cX8_isBy 14 = .ok (.getfield 32, 3) := by decide +kernel
theorem dX8_isBy_17 : decode cX8_isBy 17 = .ok (.bipush 8, 2) := by decide +kernel
theorem dX8_isBy_19 : decode cX8_isBy 19 = .ok (.iload_n 1, 1) := by decide +kernel
theorem dX8_isBy_20 : decode cX8_isBy 20 = .ok (.imul, 1) := by decide +kernel
theorem dX8_isBy_21 : decode cX8_isBy 21 = .ok (.iload_n 2, 1) := by decide +kernel
theorem dX8_isBy_22 : decode cX8_isBy 22 = .ok (.iadd, 1) := by decide +kernel
theorem dX8_isBy_23 : decode cX8_isBy 23 = .ok (.iaload, 1) := by decide +kernel
theorem dX8_isBy_24 : decode cX8_isBy 24 = .ok (.istore 7, 2) := by decide +kernel
theorem dX8_isBy_26 : decode cX8_isBy 26 = .ok (.aload_n 0, 1) := by decide +kernel
theorem dX8_isBy_27 : decode cX8_isBy 27 = .ok (.getfield 29, 3) := by decide +kernel
theorem dX8_isBy_30 : decode cX8_isBy 30 = .ok (.bipush 8, 2) := by decide +kernel
theorem dX8_isBy_32 : decode cX8_isBy 32 = .ok (.iload_n 1, 1) := by decide +kernel
theorem dX8_isBy_33 : decode cX8_isBy 33 = .ok (.imul, 1) := by decide +kernel
theorem dX8_isBy_34 : decode cX8_isBy 34 = .ok (.iload_n 3, 1) := by decide +kernel
theorem dX8_isBy_35 : decode cX8_isBy 35 = .ok (.iadd, 1) := by decide +kernel
theorem dX8_isBy_36 : decode cX8_isBy 36 = .ok (.iaload, 1) := by decide +kernel
theorem dX8_isBy_37 : decode cX8_isBy 37 = .ok (.iload 6, 2) := by decide +kernel
theorem dX8_isBy_39 : decode cX8_isBy 39 = .ok (.isub, 1) := by decide +kernel
theorem dX8_isBy_40 : decode cX8_isBy 40 = .ok (.istore 8, 2) := by decide +kernel
theorem dX8_isBy_42 : decode cX8_isBy 42 = .ok (.aload_n 0, 1) := by decide +kernel
theorem dX8_isBy_43 : decode cX8_isBy 43 = .ok (.getfield 32, 3) := by decide +kernel
theorem dX8_isBy_46 : decode cX8_isBy 46 = .ok (.bipush 8, 2) := by decide +kernel
theorem dX8_isBy_48 : decode cX8_isBy 48 = .ok (.iload_n 1, 1) := by decide +kernel
theorem dX8_isBy_49 : decode cX8_isBy 49 = .ok (.imul, 1) := by decide +kernel
theorem dX8_isBy_50 : decode cX8_isBy 50 = .ok (.iload_n 3, 1) := by decide +kernel
theorem dX8_isBy_51 : decode cX8_isBy 51 = .ok (.iadd, 1) := by decide +kernel
theorem dX8_isBy_52 : decode cX8_isBy 52 = .ok (.iaload, 1) := by decide +kernel
theorem dX8_isBy_53 : decode cX8_isBy 53 = .ok (.iload 7, 2) := by decide +kernel
theorem dX8_isBy_55 : decode cX8_isBy 55 = .ok (.isub, 1) := by decide +kernel
theorem dX8_isBy_56 : decode cX8_isBy 56 = .ok (.istore 9, 2) := by decide +kernel
theorem dX8_isBy_58 : decode cX8_isBy 58 = .ok (.aload_n 0, 1) := by decide +kernel
theorem dX8_isBy_59 : decode cX8_isBy 59 = .ok (.getfield 29, 3) := by decide +kernel
theorem dX8_isBy_62 : decode cX8_isBy 62 = .ok (.bipush 8, 2) := by decide +kernel
theorem dX8_isBy_64 : decode cX8_isBy 64 = .ok (.iload_n 1, 1) := by decide +kernel
theorem dX8_isBy_65 : decode cX8_isBy 65 = .ok (.imul, 1) := by decide +kernel
theorem dX8_isBy_66 : decode cX8_isBy 66 = .ok (.iload 4, 2) := by decide +kernel
theorem dX8_isBy_68 : decode cX8_isBy 68 = .ok (.iadd, 1) := by decide +kernel
theorem dX8_isBy_69 : decode cX8_isBy 69 = .ok (.iaload, 1) := by decide +kernel
theorem dX8_isBy_70 : decode cX8_isBy 70 = .ok (.iload 6, 2) := by decide +kernel
theorem dX8_isBy_72 : decode cX8_isBy 72 = .ok (.isub, 1) := by decide +kernel
theorem dX8_isBy_73 : decode cX8_isBy 73 = .ok (.istore 10, 2) := by decide +kernel
theorem dX8_isBy_75 : decode cX8_isBy 75 = .ok (.aload_n 0, 1) := by decide +kernel
theorem dX8_isBy_76 : decode cX8_isBy 76 = .ok (.getfield 32, 3) := by decide +kernel
theorem dX8_isBy_79 : decode cX8_isBy 79 = .ok (.bipush 8, 2) := by decide +kernel
theorem dX8_isBy_81 : decode cX8_isBy 81 = .ok (.iload_n 1, 1) := by decide +kernel
theorem dX8_isBy_82 : decode cX8_isBy 82 = .ok (.imul, 1) := by decide +kernel
theorem dX8_isBy_83 : decode cX8_isBy 83 = .ok (.iload 4, 2) := by decide +kernel
theorem dX8_isBy_85 : decode cX8_isBy 85 = .ok (.iadd, 1) := by decide +kernel
theorem dX8_isBy_86 : decode cX8_isBy 86 = .ok (.iaload, 1) := by decide +kernel
theorem dX8_isBy_87 : decode cX8_isBy 87 = .ok (.iload 7, 2) := by decide +kernel
theorem dX8_isBy_89 : decode cX8_isBy 89 = .ok (.isub, 1) := by decide +kernel
theorem dX8_isBy_90 : decode cX8_isBy 90 = .ok (.istore 11, 2) := by decide +kernel
theorem dX8_isBy_92 : decode cX8_isBy 92 = .ok (.iload 8, 2) := by decide +kernel
theorem dX8_isBy_94 : decode cX8_isBy 94 = .ok (.iload 8, 2) := by decide +kernel
theorem dX8_isBy_96 : decode cX8_isBy 96 = .ok (.imul, 1) := by decide +kernel
theorem dX8_isBy_97 : decode cX8_isBy 97 = .ok (.iload 9, 2) := by decide +kernel
theorem dX8_isBy_99 : decode cX8_isBy 99 = .ok (.iload 9, 2) := by decide +kernel
theorem dX8_isBy_101 : decode cX8_isBy 101 = .ok (.imul, 1) := by decide +kernel
theorem dX8_isBy_102 : decode cX8_isBy 102 = .ok (.iadd, 1) := by decide +kernel
theorem dX8_isBy_103 : decode cX8_isBy 103 = .ok (.istore 12, 2) := by decide +kernel
theorem dX8_isBy_105 : decode cX8_isBy 105 = .ok (.iload 8, 2) := by decide +kernel
theorem dX8_isBy_107 : decode cX8_isBy 107 = .ok (.iload 10, 2) := by decide +kernel
theorem dX8_isBy_109 : decode cX8_isBy 109 = .ok (.imul, 1) := by decide +kernel
theorem dX8_isBy_110 : decode cX8_isBy 110 = .ok (.iload 9, 2) := by decide +kernel
theorem dX8_isBy_112 : decode cX8_isBy 112 = .ok (.iload 11, 2) := by decide +kernel
theorem dX8_isBy_114 : decode cX8_isBy 114 = .ok (.imul, 1) := by decide +kernel
theorem dX8_isBy_115 : decode cX8_isBy 115 = .ok (.iadd, 1) := by decide +kernel
theorem dX8_isBy_116 : decode cX8_isBy 116 = .ok (.istore 13, 2) := by decide +kernel
theorem dX8_isBy_118 : decode cX8_isBy 118 = .ok (.iload 13, 2) := by decide +kernel
theorem dX8_isBy_120 : decode cX8_isBy 120 = .ok (.ifCond .gt 28, 3) := by decide +kernel
theorem dX8_isBy_123 : decode cX8_isBy 123 = .ok (.iload 10, 2) := by decide +kernel
theorem dX8_isBy_125 : decode cX8_isBy 125 = .ok (.iload 10, 2) := by decide +kernel
theorem dX8_isBy_127 : decode cX8_isBy 127 = .ok (.imul, 1) := by decide +kernel
theorem dX8_isBy_128 : decode cX8_isBy 128 = .ok (.iload 11, 2) := by decide +kernel
theorem dX8_isBy_130 : decode cX8_isBy 130 = .ok (.iload 11, 2) := by decide +kernel
theorem dX8_isBy_132 : decode cX8_isBy 132 = .ok (.imul, 1) := by decide +kernel
theorem dX8_isBy_133 : decode cX8_isBy 133 = .ok (.iadd, 1) := by decide +kernel
theorem dX8_isBy_134 : decode cX8_isBy 134 = .ok (.iload 5, 2) := by decide +kernel
theorem dX8_isBy_136 : decode cX8_isBy 136 = .ok (.iload 5, 2) := by decide +kernel
theorem dX8_isBy_138 : decode cX8_isBy 138 = .ok (.imul, 1) := by decide +kernel
theorem dX8_isBy_139 : decode cX8_isBy 139 = .ok (.if_icmp .gt 7, 3) := by decide +kernel
theorem dX8_isBy_142 : decode cX8_isBy 142 = .ok (.iconst 1, 1) := by decide +kernel
theorem dX8_isBy_143 : decode cX8_isBy 143 = .ok (.goto 4, 3) := by decide +kernel
theorem dX8_isBy_146 : decode cX8_isBy 146 = .ok (.iconst 0, 1) := by decide +kernel
theorem dX8_isBy_147 : decode cX8_isBy 147 = .ok (.ireturn, 1) := by decide +kernel
theorem dX8_isBy_148 : decode cX8_isBy 148 = .ok (.iload 13, 2) := by decide +kernel
theorem dX8_isBy_150 : decode cX8_isBy 150 = .ok (.iload 12, 2) := by decide +kernel
theorem dX8_isBy_152 : decode cX8_isBy 152 = .ok (.if_icmp .lt 40, 3) := by decide +kernel
theorem dX8_isBy_155 : decode cX8_isBy 155 = .ok (.iload 10, 2) := by decide +kernel
theorem dX8_isBy_157 : decode cX8_isBy 157 = .ok (.iload 8, 2) := by decide +kernel
theorem dX8_isBy_159 : decode cX8_isBy 159 = .ok (.isub, 1) := by decide +kernel
theorem dX8_isBy_160 : decode cX8_isBy 160 = .ok (.iload 10, 2) := by decide +kernel
theorem dX8_isBy_162 : decode cX8_isBy 162 = .ok (.iload 8, 2) := by decide +kernel
theorem dX8_isBy_164 : decode cX8_isBy 164 = .ok (.isub, 1) := by decide +kernel
theorem dX8_isBy_165 : decode cX8_isBy 165 = .ok (.imul, 1) := by decide +kernel
theorem dX8_isBy_166 : decode cX8_isBy 166 = .ok (.iload 11, 2) := by decide +kernel
theorem dX8_isBy_168 : decode cX8_isBy 168 = .ok (.iload 9, 2) := by decide +kernel
theorem dX8_isBy_170 : decode cX8_isBy 170 = .ok (.isub, 1) := by decide +kernel
theorem dX8_isBy_171 : decode cX8_isBy 171 = .ok (.iload 11, 2) := by decide +kernel
theorem dX8_isBy_173 : decode cX8_isBy 173 = .ok (.iload 9, 2) := by decide +kernel
theorem dX8_isBy_175 : decode cX8_isBy 175 = .ok (.isub, 1) := by decide +kernel
theorem dX8_isBy_176 : decode cX8_isBy 176 = .ok (.imul, 1) := by decide +kernel
theorem dX8_isBy_177 : decode cX8_isBy 177 = .ok (.iadd, 1) := by decide +kernel
theorem dX8_isBy_178 : decode cX8_isBy 178 = .ok (.iload 5, 2) := by decide +kernel
theorem dX8_isBy_180 : decode cX8_isBy 180 = .ok (.iload 5, 2) := by decide +kernel
theorem dX8_isBy_182 : decode cX8_isBy 182 = .ok (.imul, 1) := by decide +kernel
theorem dX8_isBy_183 : decode cX8_isBy 183 = .ok (.if_icmp .gt 7, 3) := by decide +kernel
theorem dX8_isBy_186 : decode cX8_isBy 186 = .ok (.iconst 1, 1) := by decide +kernel
theorem dX8_isBy_187 : decode cX8_isBy 187 = .ok (.goto 4, 3) := by decide +kernel
theorem dX8_isBy_190 : decode cX8_isBy 190 = .ok (.iconst 0, 1) := by decide +kernel
theorem dX8_isBy_191 : decode cX8_isBy 191 = .ok (.ireturn, 1) := by decide +kernel
theorem dX8_isBy_192 : decode cX8_isBy 192 = .ok (.iload 8, 2) := by decide +kernel
theorem dX8_isBy_194 : decode cX8_isBy 194 = .ok (.iload 11, 2) := by decide +kernel
theorem dX8_isBy_196 : decode cX8_isBy 196 = .ok (.imul, 1) := by decide +kernel
theorem dX8_isBy_197 : decode cX8_isBy 197 = .ok (.iload 9, 2) := by decide +kernel
theorem dX8_isBy_199 : decode cX8_isBy 199 = .ok (.iload 10, 2) := by decide +kernel
theorem dX8_isBy_201 : decode cX8_isBy 201 = .ok (.imul, 1) := by decide +kernel
theorem dX8_isBy_202 : decode cX8_isBy 202 = .ok (.isub, 1) := by decide +kernel
theorem dX8_isBy_203 : decode cX8_isBy 203 = .ok (.i2l, 1) := by decide +kernel
theorem dX8_isBy_204 : decode cX8_isBy 204 = .ok (.lstore 14, 2) := by decide +kernel
theorem dX8_isBy_206 : decode cX8_isBy 206 = .ok (.lload 14, 2) := by decide +kernel
theorem dX8_isBy_208 : decode cX8_isBy 208 = .ok (.lload 14, 2) := by decide +kernel
theorem dX8_isBy_210 : decode cX8_isBy 210 = .ok (.lmul, 1) := by decide +kernel
theorem dX8_isBy_211 : decode cX8_isBy 211 = .ok (.iload 5, 2) := by decide +kernel
theorem dX8_isBy_213 : decode cX8_isBy 213 = .ok (.i2l, 1) := by decide +kernel
theorem dX8_isBy_214 : decode cX8_isBy 214 = .ok (.iload 5, 2) := by decide +kernel
theorem dX8_isBy_216 : decode cX8_isBy 216 = .ok (.i2l, 1) := by decide +kernel
theorem dX8_isBy_217 : decode cX8_isBy 217 = .ok (.lmul, 1) := by decide +kernel
theorem dX8_isBy_218 : decode cX8_isBy 218 = .ok (.iload 12, 2) := by decide +kernel
theorem dX8_isBy_220 : decode cX8_isBy 220 = .ok (.i2l, 1) := by decide +kernel
theorem dX8_isBy_221 : decode cX8_isBy 221 = .ok (.lmul, 1) := by decide +kernel
theorem dX8_isBy_222 : decode cX8_isBy 222 = .ok (.lcmp, 1) := by decide +kernel
theorem dX8_isBy_223 : decode cX8_isBy 223 = .ok (.ifCond .gt 7, 3) := by decide +kernel
theorem dX8_isBy_226 : decode cX8_isBy 226 = .ok (.iconst 1, 1) := by decide +kernel
theorem dX8_isBy_227 : decode cX8_isBy 227 = .ok (.goto 4, 3) := by decide +kernel
theorem dX8_isBy_230 : decode cX8_isBy 230 = .ok (.iconst 0, 1) := by decide +kernel
theorem dX8_isBy_231 : decode cX8_isBy 231 = .ok (.ireturn, 1) := by decide +kernel
theorem dX8_isStep_0 : decode cX8_isStep 0 = .ok (.iconst 1, 1) := by decide +kernel
theorem dX8_isStep_1 : decode cX8_isStep 1 = .ok (.istore 5, 2) := by decide +kernel
theorem dX8_isStep_3 : decode cX8_isStep 3 = .ok (.iload_n 2, 1) := by decide +kernel
theorem dX8_isStep_4 : decode cX8_isStep 4 = .ok (.iconst 1, 1) := by decide +kernel
theorem dX8_isStep_5 : decode cX8_isStep 5 = .ok (.iadd, 1) := by decide +kernel
theorem dX8_isStep_6 : decode cX8_isStep 6 = .ok (.istore 6, 2) := by decide +kernel
theorem dX8_isStep_8 : decode cX8_isStep 8 = .ok (.iload 6, 2) := by decide +kernel
theorem dX8_isStep_10 : decode cX8_isStep 10 = .ok (.iload_n 3, 1) := by decide +kernel
theorem dX8_isStep_11 : decode cX8_isStep 11 = .ok (.if_icmp .ge 35, 3) := by decide +kernel
theorem dX8_isStep_14 : decode cX8_isStep 14 = .ok (.iload 5, 2) := by decide +kernel
theorem dX8_isStep_16 : decode cX8_isStep 16 = .ok (.ifCond .eq 21, 3) := by decide +kernel
theorem dX8_isStep_19 : decode cX8_isStep 19 = .ok (.aload_n 0, 1) := by decide +kernel
theorem dX8_isStep_20 : decode cX8_isStep 20 = .ok (.iload_n 1, 1) := by decide +kernel
theorem dX8_isStep_21 : decode cX8_isStep 21 = .ok (.iload_n 2, 1) := by decide +kernel
theorem dX8_isStep_22 : decode cX8_isStep 22 = .ok (.iload_n 3, 1) := by decide +kernel
theorem dX8_isStep_23 : decode cX8_isStep 23 = .ok (.iload 6, 2) := by decide +kernel
theorem dX8_isStep_25 : decode cX8_isStep 25 = .ok (.iload 4, 2) := by decide +kernel
theorem dX8_isStep_27 : decode cX8_isStep 27 = .ok (.invokevirtual 129, 3) := by decide +kernel
theorem dX8_isStep_30 : decode cX8_isStep 30 = .ok (.ifCond .eq 7, 3) := by decide +kernel
theorem dX8_isStep_33 : decode cX8_isStep 33 = .ok (.iconst 1, 1) := by decide +kernel
theorem dX8_isStep_34 : decode cX8_isStep 34 = .ok (.goto 4, 3) := by decide +kernel
theorem dX8_isStep_37 : decode cX8_isStep 37 = .ok (.iconst 0, 1) := by decide +kernel
theorem dX8_isStep_38 : decode cX8_isStep 38 = .ok (.istore 5, 2) := by decide +kernel
theorem dX8_isStep_40 : decode cX8_isStep 40 = .ok (.iinc 6 1, 3) := by decide +kernel
theorem dX8_isStep_43 : decode cX8_isStep 43 = .ok (.goto (-35), 3) := by decide +kernel
theorem dX8_isStep_46 : decode cX8_isStep 46 = .ok (.iload 5, 2) := by decide +kernel
theorem dX8_isStep_48 : decode cX8_isStep 48 = .ok (.ireturn, 1) := by decide +kernel
theorem dX8_bits_0 : decode cX8_bits 0 = .ok (.iconst 0, 1) := by decide +kernel
theorem dX8_bits_1 : decode cX8_bits 1 = .ok (.istore_n 1, 1) := by decide +kernel
theorem dX8_bits_2 : decode cX8_bits 2 = .ok (.iconst 0, 1) := by decide +kernel
theorem dX8_bits_3 : decode cX8_bits 3 = .ok (.istore_n 2, 1) := by decide +kernel
theorem dX8_bits_4 : decode cX8_bits 4 = .ok (.iload_n 2, 1) := by decide +kernel
theorem dX8_bits_5 : decode cX8_bits 5 = .ok (.bipush 12, 2) := by decide +kernel
theorem dX8_bits_7 : decode cX8_bits 7 = .ok (.if_icmp .ge 17, 3) := by decide +kernel
theorem dX8_bits_10 : decode cX8_bits 10 = .ok (.iload_n 1, 1) := by decide +kernel
theorem dX8_bits_11 : decode cX8_bits 11 = .ok (.iload_n 0, 1) := by decide +kernel
theorem dX8_bits_12 : decode cX8_bits 12 = .ok (.iload_n 2, 1) := by decide +kernel
theorem dX8_bits_13 : decode cX8_bits 13 = .ok (.ishr, 1) := by decide +kernel
theorem dX8_bits_14 : decode cX8_bits 14 = .ok (.iconst 1, 1) := by decide +kernel
theorem dX8_bits_15 : decode cX8_bits 15 = .ok (.iand, 1) := by decide +kernel
theorem dX8_bits_16 : decode cX8_bits 16 = .ok (.iadd, 1) := by decide +kernel
theorem dX8_bits_17 : decode cX8_bits 17 = .ok (.istore_n 1, 1) := by decide +kernel
theorem dX8_bits_18 : decode cX8_bits 18 = .ok (.iinc 2 1, 3) := by decide +kernel
theorem dX8_bits_21 : decode cX8_bits 21 = .ok (.goto (-17), 3) := by decide +kernel
theorem dX8_bits_24 : decode cX8_bits 24 = .ok (.iload_n 1, 1) := by decide +kernel
theorem dX8_bits_25 : decode cX8_bits 25 = .ok (.ireturn, 1) := by decide +kernel
theorem dX8_keeps_0 : decode cX8_keeps 0 = .ok (.iconst 0, 1) := by decide +kernel
theorem dX8_keeps_1 : decode cX8_keeps 1 = .ok (.istore 4, 2) := by decide +kernel
theorem dX8_keeps_3 : decode cX8_keeps 3 = .ok (.iconst 1, 1) := by decide +kernel
theorem dX8_keeps_4 : decode cX8_keeps 4 = .ok (.istore 5, 2) := by decide +kernel
theorem dX8_keeps_6 : decode cX8_keeps 6 = .ok (.iload 5, 2) := by decide +kernel
theorem dX8_keeps_8 : decode cX8_keeps 8 = .ok (.aload_n 0, 1) := by decide +kernel
theorem dX8_keeps_9 : decode cX8_keeps 9 = .ok (.getfield 26, 3) := by decide +kernel
theorem dX8_keeps_12 : decode cX8_keeps 12 = .ok (.iload_n 1, 1) := by decide +kernel
theorem dX8_keeps_13 : decode cX8_keeps 13 = .ok (.iaload, 1) := by decide +kernel
theorem dX8_keeps_14 : decode cX8_keeps 14 = .ok (.if_icmp .ge 40, 3) := by decide +kernel
theorem dX8_keeps_17 : decode cX8_keeps 17 = .ok (.iload_n 2, 1) := by decide +kernel
theorem dX8_keeps_18 : decode cX8_keeps 18 = .ok (.iload 5, 2) := by decide +kernel
theorem dX8_keeps_20 : decode cX8_keeps 20 = .ok (.ishr, 1) := by decide +kernel
theorem dX8_keeps_21 : decode cX8_keeps 21 = .ok (.iconst 1, 1) := by decide +kernel
theorem dX8_keeps_22 : decode cX8_keeps 22 = .ok (.iand, 1) := by decide +kernel
theorem dX8_keeps_23 : decode cX8_keeps 23 = .ok (.ifCond .ne 6, 3) := by decide +kernel
theorem dX8_keeps_26 : decode cX8_keeps 26 = .ok (.goto 22, 3) := by decide +kernel
theorem dX8_keeps_29 : decode cX8_keeps 29 = .ok (.aload_n 0, 1) := by decide +kernel
theorem dX8_keeps_30 : decode cX8_keeps 30 = .ok (.iload_n 1, 1) := by decide +kernel
theorem dX8_keeps_31 : decode cX8_keeps 31 = .ok (.iload 4, 2) := by decide +kernel
theorem dX8_keeps_33 : decode cX8_keeps 33 = .ok (.iload 5, 2) := by decide +kernel
theorem dX8_keeps_35 : decode cX8_keeps 35 = .ok (.iload_n 3, 1) := by decide +kernel
theorem dX8_keeps_36 : decode cX8_keeps 36 = .ok (.invokevirtual 133, 3) := by decide +kernel
theorem dX8_keeps_39 : decode cX8_keeps 39 = .ok (.ifCond .ne 5, 3) := by decide +kernel
theorem dX8_keeps_42 : decode cX8_keeps 42 = .ok (.iconst 0, 1) := by decide +kernel
theorem dX8_keeps_43 : decode cX8_keeps 43 = .ok (.ireturn, 1) := by decide +kernel
theorem dX8_keeps_44 : decode cX8_keeps 44 = .ok (.iload 5, 2) := by decide +kernel
theorem dX8_keeps_46 : decode cX8_keeps 46 = .ok (.istore 4, 2) := by decide +kernel
theorem dX8_keeps_48 : decode cX8_keeps 48 = .ok (.iinc 5 1, 3) := by decide +kernel
theorem dX8_keeps_51 : decode cX8_keeps 51 = .ok (.goto (-45), 3) := by decide +kernel
theorem dX8_keeps_54 : decode cX8_keeps 54 = .ok (.iconst 1, 1) := by decide +kernel
theorem dX8_keeps_55 : decode cX8_keeps 55 = .ok (.ireturn, 1) := by decide +kernel
theorem dX8_isAhead_0 : decode cX8_isAhead 0 = .ok (.iconst 0, 1) := by decide +kernel
theorem dX8_isAhead_1 : decode cX8_isAhead 1 = .ok (.istore_n 2, 1) := by decide +kernel
theorem dX8_isAhead_2 : decode cX8_isAhead 2 = .ok (.iload_n 2, 1) := by decide +kernel
theorem dX8_isAhead_3 : decode cX8_isAhead 3 = .ok (.bipush 12, 2) := by decide +kernel
theorem dX8_isAhead_5 : decode cX8_isAhead 5 = .ok (.if_icmp .ge 22, 3) := by decide +kernel
theorem dX8_isAhead_8 : decode cX8_isAhead 8 = .ok (.iload_n 0, 1) := by decide +kernel
theorem dX8_isAhead_9 : decode cX8_isAhead 9 = .ok (.iload_n 2, 1) := by decide +kernel
theorem dX8_isAhead_10 : decode cX8_isAhead 10 = .ok (.ishr, 1) := by decide +kernel
theorem dX8_isAhead_11 : decode cX8_isAhead 11 = .ok (.iconst 1, 1) := by decide +kernel
theorem dX8_isAhead_12 : decode cX8_isAhead 12 = .ok (.iand, 1) := by decide +kernel
theorem dX8_isAhead_13 : decode cX8_isAhead 13 = .ok (.iload_n 1, 1) := by decide +kernel
theorem dX8_isAhead_14 : decode cX8_isAhead 14 = .ok (.iload_n 2, 1) := by decide +kernel
theorem dX8_isAhead_15 : decode cX8_isAhead 15 = .ok (.ishr, 1) := by decide +kernel
theorem dX8_isAhead_16 : decode cX8_isAhead 16 = .ok (.iconst 1, 1) := by decide +kernel
theorem dX8_isAhead_17 : decode cX8_isAhead 17 = .ok (.iand, 1) := by decide +kernel
theorem dX8_isAhead_18 : decode cX8_isAhead 18 = .ok (.if_icmp .ne 9, 3) := by decide +kernel
theorem dX8_isAhead_21 : decode cX8_isAhead 21 = .ok (.iinc 2 1, 3) := by decide +kernel
theorem dX8_isAhead_24 : decode cX8_isAhead 24 = .ok (.goto (-22), 3) := by decide +kernel
theorem dX8_isAhead_27 : decode cX8_isAhead 27 = .ok (.iload_n 2, 1) := by decide +kernel
theorem dX8_isAhead_28 : decode cX8_isAhead 28 = .ok (.bipush 12, 2) := by decide +kernel
theorem dX8_isAhead_30 : decode cX8_isAhead 30 = .ok (.if_icmp .ge 16, 3) := by decide +kernel
theorem dX8_isAhead_33 : decode cX8_isAhead 33 = .ok (.iload_n 0, 1) := by decide +kernel
theorem dX8_isAhead_34 : decode cX8_isAhead 34 = .ok (.iload_n 2, 1) := by decide +kernel
theorem dX8_isAhead_35 : decode cX8_isAhead 35 = .ok (.ishr, 1) := by decide +kernel
theorem dX8_isAhead_36 : decode cX8_isAhead 36 = .ok (.iconst 1, 1) := by decide +kernel
theorem dX8_isAhead_37 : decode cX8_isAhead 37 = .ok (.iand, 1) := by decide +kernel
theorem dX8_isAhead_38 : decode cX8_isAhead 38 = .ok (.iconst 1, 1) := by decide +kernel
theorem dX8_isAhead_39 : decode cX8_isAhead 39 = .ok (.if_icmp .ne 7, 3) := by decide +kernel
theorem dX8_isAhead_42 : decode cX8_isAhead 42 = .ok (.iconst 1, 1) := by decide +kernel
theorem dX8_isAhead_43 : decode cX8_isAhead 43 = .ok (.goto 4, 3) := by decide +kernel
theorem dX8_isAhead_46 : decode cX8_isAhead 46 = .ok (.iconst 0, 1) := by decide +kernel
theorem dX8_isAhead_47 : decode cX8_isAhead 47 = .ok (.ireturn, 1) := by decide +kernel
theorem dX8_simpler_0 : decode cX8_simpler 0 = .ok (.iconst 1, 1) := by decide +kernel
theorem dX8_simpler_1 : decode cX8_simpler 1 = .ok (.iconst 1, 1) := by decide +kernel
theorem dX8_simpler_2 : decode cX8_simpler 2 = .ok (.aload_n 0, 1) := by decide +kernel
theorem dX8_simpler_3 : decode cX8_simpler 3 = .ok (.getfield 26, 3) := by decide +kernel
theorem dX8_simpler_6 : decode cX8_simpler 6 = .ok (.iload_n 1, 1) := by decide +kernel
theorem dX8_simpler_7 : decode cX8_simpler 7 = .ok (.iaload, 1) := by decide +kernel
theorem dX8_simpler_8 : decode cX8_simpler 8 = .ok (.iconst 1, 1) := by decide +kernel
theorem dX8_simpler_9 : decode cX8_simpler 9 = .ok (.isub, 1) := by decide +kernel
theorem dX8_simpler_10 : decode cX8_simpler 10 = .ok (.ishl, 1) := by decide +kernel
theorem dX8_simpler_11 : decode cX8_simpler 11 = .ok (.ior, 1) := by decide +kernel
theorem dX8_simpler_12 : decode cX8_simpler 12 = .ok (.istore_n 3, 1) := by decide +kernel
theorem dX8_simpler_13 : decode cX8_simpler 13 = .ok (.iconst (-1), 1) := by decide +kernel
theorem dX8_simpler_14 : decode cX8_simpler 14 = .ok (.istore 4, 2) := by decide +kernel
theorem dX8_simpler_16 : decode cX8_simpler 16 = .ok (.iconst 0, 1) := by decide +kernel
theorem dX8_simpler_17 : decode cX8_simpler 17 = .ok (.istore 5, 2) := by decide +kernel
theorem dX8_simpler_19 : decode cX8_simpler 19 = .ok (.iload 5, 2) := by decide +kernel
theorem dX8_simpler_21 : decode cX8_simpler 21 = .ok (.iconst 1, 1) := by decide +kernel
theorem dX8_simpler_22 : decode cX8_simpler 22 = .ok (.aload_n 0, 1) := by decide +kernel
theorem dX8_simpler_23 : decode cX8_simpler 23 = .ok (.getfield 26, 3) := by decide +kernel
theorem dX8_simpler_26 : decode cX8_simpler 26 = .ok (.iload_n 1, 1) := by decide +kernel
theorem dX8_simpler_27 : decode cX8_simpler 27 = .ok (.iaload, 1) := by decide +kernel
theorem dX8_simpler_28 : decode cX8_simpler 28 = .ok (.ishl, 1) := by decide +kernel
theorem dX8_simpler_29 : decode cX8_simpler 29 = .ok (.if_icmp .ge 77, 3) := by decide +kernel
theorem dX8_simpler_32 : decode cX8_simpler 32 = .ok (.iload 5, 2) := by decide +kernel
theorem dX8_simpler_34 : decode cX8_simpler 34 = .ok (.iload_n 3, 1) := by decide +kernel
theorem dX8_simpler_35 : decode cX8_simpler 35 = .ok (.iand, 1) := by decide +kernel
theorem dX8_simpler_36 : decode cX8_simpler 36 = .ok (.iload_n 3, 1) := by decide +kernel
theorem dX8_simpler_37 : decode cX8_simpler 37 = .ok (.if_icmp .ne 63, 3) := by decide +kernel
theorem dX8_simpler_40 : decode cX8_simpler 40 = .ok (.aload_n 0, 1) := by decide +kernel
theorem dX8_simpler_41 : decode cX8_simpler 41 = .ok (.iload_n 1, 1) := by decide +kernel
theorem dX8_simpler_42 : decode cX8_simpler 42 = .ok (.iload 5, 2) := by decide +kernel
theorem dX8_simpler_44 : decode cX8_simpler 44 = .ok (.iload_n 2, 1) := by decide +kernel
theorem dX8_simpler_45 : decode cX8_simpler 45 = .ok (.invokevirtual 137, 3) := by decide +kernel
theorem dX8_simpler_48 : decode cX8_simpler 48 = .ok (.ifCond .ne 6, 3) := by decide +kernel
theorem dX8_simpler_51 : decode cX8_simpler 51 = .ok (.goto 49, 3) := by decide +kernel
theorem dX8_simpler_54 : decode cX8_simpler 54 = .ok (.iload 4, 2) := by decide +kernel
theorem dX8_simpler_56 : decode cX8_simpler 56 = .ok (.iconst (-1), 1) := by decide +kernel
theorem dX8_simpler_57 : decode cX8_simpler 57 = .ok (.if_icmp .eq 39, 3) := by decide +kernel
theorem dX8_simpler_60 : decode cX8_simpler 60 = .ok (.iload 5, 2) := by decide +kernel
theorem dX8_simpler_62 : decode cX8_simpler 62 = .ok (.invokestatic 140, 3) := by decide +kernel
theorem dX8_simpler_65 : decode cX8_simpler 65 = .ok (.iload 4, 2) := by decide +kernel
theorem dX8_simpler_67 : decode cX8_simpler 67 = .ok (.invokestatic 140, 3) := by decide +kernel
theorem dX8_simpler_70 : decode cX8_simpler 70 = .ok (.if_icmp .lt 26, 3) := by decide +kernel
theorem dX8_simpler_73 : decode cX8_simpler 73 = .ok (.iload 5, 2) := by decide +kernel
theorem dX8_simpler_75 : decode cX8_simpler 75 = .ok (.invokestatic 140, 3) := by decide +kernel
theorem dX8_simpler_78 : decode cX8_simpler 78 = .ok (.iload 4, 2) := by decide +kernel
theorem dX8_simpler_80 : decode cX8_simpler 80 = .ok (.invokestatic 140, 3) := by decide +kernel
theorem dX8_simpler_83 : decode cX8_simpler 83 = .ok (.if_icmp .ne 17, 3) := by decide +kernel
theorem dX8_simpler_86 : decode cX8_simpler 86 = .ok (.iload 5, 2) := by decide +kernel
theorem dX8_simpler_88 : decode cX8_simpler 88 = .ok (.iload 4, 2) := by decide +kernel
theorem dX8_simpler_90 : decode cX8_simpler 90 = .ok (.invokestatic 143, 3) := by decide +kernel
theorem dX8_simpler_93 : decode cX8_simpler 93 = .ok (.ifCond .eq 7, 3) := by decide +kernel
theorem dX8_simpler_96 : decode cX8_simpler 96 = .ok (.iload 5, 2) := by decide +kernel
theorem dX8_simpler_98 : decode cX8_simpler 98 = .ok (.istore 4, 2) := by decide +kernel
theorem dX8_simpler_100 : decode cX8_simpler 100 = .ok (.iinc 5 1, 3) := by decide +kernel
theorem dX8_simpler_103 : decode cX8_simpler 103 = .ok (.goto (-84), 3) := by decide +kernel
theorem dX8_simpler_106 : decode cX8_simpler 106 = .ok (.iload 4, 2) := by decide +kernel
theorem dX8_simpler_108 : decode cX8_simpler 108 = .ok (.ireturn, 1) := by decide +kernel
theorem dX8_isLine_0 : decode cX8_isLine 0 = .ok (.aload_n 0, 1) := by decide +kernel
theorem dX8_isLine_1 : decode cX8_isLine 1 = .ok (.iload_n 1, 1) := by decide +kernel
theorem dX8_isLine_2 : decode cX8_isLine 2 = .ok (.invokevirtual 101, 3) := by decide +kernel
theorem dX8_isLine_5 : decode cX8_isLine 5 = .ok (.ifCond .eq 26, 3) := by decide +kernel
theorem dX8_isLine_8 : decode cX8_isLine 8 = .ok (.aload_n 0, 1) := by decide +kernel
theorem dX8_isLine_9 : decode cX8_isLine 9 = .ok (.getfield 20, 3) := by decide +kernel
theorem dX8_isLine_12 : decode cX8_isLine 12 = .ok (.iload_n 1, 1) := by decide +kernel
theorem dX8_isLine_13 : decode cX8_isLine 13 = .ok (.iaload, 1) := by decide +kernel
theorem dX8_isLine_14 : decode cX8_isLine 14 = .ok (.ifCond .ne 17, 3) := by decide +kernel
theorem dX8_isLine_17 : decode cX8_isLine 17 = .ok (.iload_n 2, 1) := by decide +kernel
theorem dX8_isLine_18 : decode cX8_isLine 18 = .ok (.iconst 0, 1) := by decide +kernel
theorem dX8_isLine_19 : decode cX8_isLine 19 = .ok (.bipush 30, 2) := by decide +kernel
theorem dX8_isLine_21 : decode cX8_isLine 21 = .ok (.invokestatic 75, 3) := by decide +kernel
theorem dX8_isLine_24 : decode cX8_isLine 24 = .ok (.ifCond .eq 7, 3) := by decide +kernel
theorem dX8_isLine_27 : decode cX8_isLine 27 = .ok (.iconst 1, 1) := by decide +kernel
theorem dX8_isLine_28 : decode cX8_isLine 28 = .ok (.goto 4, 3) := by decide +kernel
theorem dX8_isLine_31 : decode cX8_isLine 31 = .ok (.iconst 0, 1) := by decide +kernel
theorem dX8_isLine_32 : decode cX8_isLine 32 = .ok (.ireturn, 1) := by decide +kernel
theorem dX8_simple_0 : decode cX8_simple 0 = .ok (.aload_n 0, 1) := by decide +kernel
theorem dX8_simple_1 : decode cX8_simple 1 = .ok (.iload_n 1, 1) := by decide +kernel
theorem dX8_simple_2 : decode cX8_simple 2 = .ok (.iload_n 2, 1) := by decide +kernel
theorem dX8_simple_3 : decode cX8_simple 3 = .ok (.invokevirtual 146, 3) := by decide +kernel
theorem dX8_simple_6 : decode cX8_simple 6 = .ok (.ifCond .eq 12, 3) := by decide +kernel
theorem dX8_simple_9 : decode cX8_simple 9 = .ok (.iload_n 3, 1) := by decide +kernel
theorem dX8_simple_10 : decode cX8_simple 10 = .ok (.iconst 0, 1) := by decide +kernel
theorem dX8_simple_11 : decode cX8_simple 11 = .ok (.iconst 1, 1) := by decide +kernel
theorem dX8_simple_12 : decode cX8_simple 12 = .ok (.invokestatic 75, 3) := by decide +kernel
theorem dX8_simple_15 : decode cX8_simple 15 = .ok (.ifCond .ne 5, 3) := by decide +kernel
theorem dX8_simple_18 : decode cX8_simple 18 = .ok (.iconst (-1), 1) := by decide +kernel
theorem dX8_simple_19 : decode cX8_simple 19 = .ok (.ireturn, 1) := by decide +kernel
theorem dX8_simple_20 : decode cX8_simple 20 = .ok (.aload_n 0, 1) := by decide +kernel
theorem dX8_simple_21 : decode cX8_simple 21 = .ok (.iload_n 1, 1) := by decide +kernel
theorem dX8_simple_22 : decode cX8_simple 22 = .ok (.iload_n 2, 1) := by decide +kernel
theorem dX8_simple_23 : decode cX8_simple 23 = .ok (.invokevirtual 149, 3) := by decide +kernel
theorem dX8_simple_26 : decode cX8_simple 26 = .ok (.istore 4, 2) := by decide +kernel
theorem dX8_simple_28 : decode cX8_simple 28 = .ok (.iload_n 3, 1) := by decide +kernel
theorem dX8_simple_29 : decode cX8_simple 29 = .ok (.ifCond .ne 11, 3) := by decide +kernel
theorem dX8_simple_32 : decode cX8_simple 32 = .ok (.iload 4, 2) := by decide +kernel
theorem dX8_simple_34 : decode cX8_simple 34 = .ok (.invokestatic 140, 3) := by decide +kernel
theorem dX8_simple_37 : decode cX8_simple 37 = .ok (.goto 5, 3) := by decide +kernel
theorem dX8_simple_40 : decode cX8_simple 40 = .ok (.iload 4, 2) := by decide +kernel
theorem dX8_simple_42 : decode cX8_simple 42 = .ok (.ireturn, 1) := by decide +kernel
theorem dX8_simplify_0 : decode cX8_simplify 0 = .ok (.aload_n 0, 1) := by decide +kernel
theorem dX8_simplify_1 : decode cX8_simplify 1 = .ok (.iload_n 1, 1) := by decide +kernel
theorem dX8_simplify_2 : decode cX8_simplify 2 = .ok (.iload_n 2, 1) := by decide +kernel
theorem dX8_simplify_3 : decode cX8_simplify 3 = .ok (.invokevirtual 146, 3) := by decide +kernel
theorem dX8_simplify_6 : decode cX8_simplify 6 = .ok (.ifCond .ne 5, 3) := by decide +kernel
theorem dX8_simplify_9 : decode cX8_simplify 9 = .ok (.iconst (-1), 1) := by decide +kernel
theorem dX8_simplify_10 : decode cX8_simplify 10 = .ok (.ireturn, 1) := by decide +kernel
theorem dX8_simplify_11 : decode cX8_simplify 11 = .ok (.aload_n 0, 1) := by decide +kernel
theorem dX8_simplify_12 : decode cX8_simplify 12 = .ok (.iload_n 1, 1) := by decide +kernel
theorem dX8_simplify_13 : decode cX8_simplify 13 = .ok (.iload_n 2, 1) := by decide +kernel
theorem dX8_simplify_14 : decode cX8_simplify 14 = .ok (.invokevirtual 149, 3) := by decide +kernel
theorem dX8_simplify_17 : decode cX8_simplify 17 = .ok (.istore_n 3, 1) := by decide +kernel
theorem dX8_simplify_18 : decode cX8_simplify 18 = .ok (.iconst 0, 1) := by decide +kernel
theorem dX8_simplify_19 : decode cX8_simplify 19 = .ok (.istore 4, 2) := by decide +kernel
theorem dX8_simplify_21 : decode cX8_simplify 21 = .ok (.iconst 0, 1) := by decide +kernel
theorem dX8_simplify_22 : decode cX8_simplify 22 = .ok (.istore 5, 2) := by decide +kernel
theorem dX8_simplify_24 : decode cX8_simplify 24 = .ok (.iload 5, 2) := by decide +kernel
theorem dX8_simplify_26 : decode cX8_simplify 26 = .ok (.aload_n 0, 1) := by decide +kernel
theorem dX8_simplify_27 : decode cX8_simplify 27 = .ok (.getfield 26, 3) := by decide +kernel
theorem dX8_simplify_30 : decode cX8_simplify 30 = .ok (.iload_n 1, 1) := by decide +kernel
theorem dX8_simplify_31 : decode cX8_simplify 31 = .ok (.iaload, 1) := by decide +kernel
theorem dX8_simplify_32 : decode cX8_simplify 32 = .ok (.if_icmp .ge 72, 3) := by decide +kernel
theorem dX8_simplify_35 : decode cX8_simplify 35 = .ok (.iload_n 3, 1) := by decide +kernel
theorem dX8_simplify_36 : decode cX8_simplify 36 = .ok (.iload 5, 2) := by decide +kernel
theorem dX8_simplify_38 : decode cX8_simplify 38 = .ok (.ishr, 1) := by decide +kernel
theorem dX8_simplify_39 : decode cX8_simplify 39 = .ok (.iconst 1, 1) := by decide +kernel
theorem dX8_simplify_40 : decode cX8_simplify 40 = .ok (.iand, 1) := by decide +kernel
theorem dX8_simplify_41 : decode cX8_simplify 41 = .ok (.ifCond .ne 6, 3) := by decide +kernel
theorem dX8_simplify_44 : decode cX8_simplify 44 = .ok (.goto 54, 3) := by decide +kernel
theorem dX8_simplify_47 : decode cX8_simplify 47 = .ok (.aload_n 0, 1) := by decide +kernel
theorem dX8_simplify_48 : decode cX8_simplify 48 = .ok (.getfield 29, 3) := by decide +kernel
theorem dX8_simplify_51 : decode cX8_simplify 51 = .ok (.bipush 8, 2) := by decide +kernel
theorem dX8_simplify_53 : decode cX8_simplify 53 = .ok (.iload_n 1, 1) := by decide +kernel
theorem dX8_simplify_54 : decode cX8_simplify 54 = .ok (.imul, 1) := by decide +kernel
theorem dX8_simplify_55 : decode cX8_simplify 55 = .ok (.iload 4, 2) := by decide +kernel
theorem dX8_simplify_57 : decode cX8_simplify 57 = .ok (.iadd, 1) := by decide +kernel
theorem dX8_simplify_58 : decode cX8_simplify 58 = .ok (.aload_n 0, 1) := by decide +kernel
theorem dX8_simplify_59 : decode cX8_simplify 59 = .ok (.getfield 29, 3) := by decide +kernel
theorem dX8_simplify_62 : decode cX8_simplify 62 = .ok (.bipush 8, 2) := by decide +kernel
theorem dX8_simplify_64 : decode cX8_simplify 64 = .ok (.iload_n 1, 1) := by decide +kernel
theorem dX8_simplify_65 : decode cX8_simplify 65 = .ok (.imul, 1) := by decide +kernel
theorem dX8_simplify_66 : decode cX8_simplify 66 = .ok (.iload 5, 2) := by decide +kernel
theorem dX8_simplify_68 : decode cX8_simplify 68 = .ok (.iadd, 1) := by decide +kernel
theorem dX8_simplify_69 : decode cX8_simplify 69 = .ok (.iaload, 1) := by decide +kernel
theorem dX8_simplify_70 : decode cX8_simplify 70 = .ok (.iastore, 1) := by decide +kernel
theorem dX8_simplify_71 : decode cX8_simplify 71 = .ok (.aload_n 0, 1) := by decide +kernel
theorem dX8_simplify_72 : decode cX8_simplify 72 = .ok (.getfield 32, 3) := by decide +kernel
theorem dX8_simplify_75 : decode cX8_simplify 75 = .ok (.bipush 8, 2) := by decide +kernel
theorem dX8_simplify_77 : decode cX8_simplify 77 = .ok (.iload_n 1, 1) := by decide +kernel
theorem dX8_simplify_78 : decode cX8_simplify 78 = .ok (.imul, 1) := by decide +kernel
theorem dX8_simplify_79 : decode cX8_simplify 79 = .ok (.iload 4, 2) := by decide +kernel
theorem dX8_simplify_81 : decode cX8_simplify 81 = .ok (.iadd, 1) := by decide +kernel
theorem dX8_simplify_82 : decode cX8_simplify 82 = .ok (.aload_n 0, 1) := by decide +kernel
theorem dX8_simplify_83 : decode cX8_simplify 83 = .ok (.getfield 32, 3) := by decide +kernel
theorem dX8_simplify_86 : decode cX8_simplify 86 = .ok (.bipush 8, 2) := by decide +kernel
theorem dX8_simplify_88 : decode cX8_simplify 88 = .ok (.iload_n 1, 1) := by decide +kernel
theorem dX8_simplify_89 : decode cX8_simplify 89 = .ok (.imul, 1) := by decide +kernel
theorem dX8_simplify_90 : decode cX8_simplify 90 = .ok (.iload 5, 2) := by decide +kernel
theorem dX8_simplify_92 : decode cX8_simplify 92 = .ok (.iadd, 1) := by decide +kernel
theorem dX8_simplify_93 : decode cX8_simplify 93 = .ok (.iaload, 1) := by decide +kernel
theorem dX8_simplify_94 : decode cX8_simplify 94 = .ok (.iastore, 1) := by decide +kernel
theorem dX8_simplify_95 : decode cX8_simplify 95 = .ok (.iinc 4 1, 3) := by decide +kernel
theorem dX8_simplify_98 : decode cX8_simplify 98 = .ok (.iinc 5 1, 3) := by decide +kernel
theorem dX8_simplify_101 : decode cX8_simplify 101 = .ok (.goto (-77), 3) := by decide +kernel
theorem dX8_simplify_104 : decode cX8_simplify 104 = .ok (.aload_n 0, 1) := by decide +kernel
theorem dX8_simplify_105 : decode cX8_simplify 105 = .ok (.getfield 26, 3) := by decide +kernel
theorem dX8_simplify_108 : decode cX8_simplify 108 = .ok (.iload_n 1, 1) := by decide +kernel
theorem dX8_simplify_109 : decode cX8_simplify 109 = .ok (.iload 4, 2) := by decide +kernel
theorem dX8_simplify_111 : decode cX8_simplify 111 = .ok (.iastore, 1) := by decide +kernel
theorem dX8_simplify_112 : decode cX8_simplify 112 = .ok (.aload_n 0, 1) := by decide +kernel
theorem dX8_simplify_113 : decode cX8_simplify 113 = .ok (.iload_n 1, 1) := by decide +kernel
theorem dX8_simplify_114 : decode cX8_simplify 114 = .ok (.invokevirtual 97, 3) := by decide +kernel
theorem dX8_simplify_117 : decode cX8_simplify 117 = .ok (.iload 4, 2) := by decide +kernel
theorem dX8_simplify_119 : decode cX8_simplify 119 = .ok (.ireturn, 1) := by decide +kernel
theorem dX8_nears_0 : decode cX8_nears 0 = .ok (.iconst 0, 1) := by decide +kernel
theorem dX8_nears_1 : decode cX8_nears 1 = .ok (.istore_n 1, 1) := by decide +kernel
theorem dX8_nears_2 : decode cX8_nears 2 = .ok (.iload_n 1, 1) := by decide +kernel
theorem dX8_nears_3 : decode cX8_nears 3 = .ok (.aload_n 0, 1) := by decide +kernel
theorem dX8_nears_4 : decode cX8_nears 4 = .ok (.getfield 79, 3) := by decide +kernel
theorem dX8_nears_7 : decode cX8_nears 7 = .ok (.if_icmp .ge 80, 3) := by decide +kernel
theorem dX8_nears_10 : decode cX8_nears 10 = .ok (.aload_n 0, 1) := by decide +kernel
theorem dX8_nears_11 : decode cX8_nears 11 = .ok (.getfield 48, 3) := by decide +kernel
theorem dX8_nears_14 : decode cX8_nears 14 = .ok (.iload_n 1, 1) := by decide +kernel
theorem dX8_nears_15 : decode cX8_nears 15 = .ok (.iconst 0, 1) := by decide +kernel
theorem dX8_nears_16 : decode cX8_nears 16 = .ok (.iastore, 1) := by decide +kernel
theorem dX8_nears_17 : decode cX8_nears 17 = .ok (.iconst 0, 1) := by decide +kernel
theorem dX8_nears_18 : decode cX8_nears 18 = .ok (.istore_n 2, 1) := by decide +kernel
theorem dX8_nears_19 : decode cX8_nears 19 = .ok (.iload_n 2, 1) := by decide +kernel
theorem dX8_nears_20 : decode cX8_nears 20 = .ok (.aload_n 0, 1) := by decide +kernel
theorem dX8_nears_21 : decode cX8_nears 21 = .ok (.getfield 79, 3) := by decide +kernel
theorem dX8_nears_24 : decode cX8_nears 24 = .ok (.if_icmp .ge 57, 3) := by decide +kernel
theorem dX8_nears_27 : decode cX8_nears 27 = .ok (.aload_n 0, 1) := by decide +kernel
theorem dX8_nears_28 : decode cX8_nears 28 = .ok (.getfield 48, 3) := by decide +kernel
theorem dX8_nears_31 : decode cX8_nears 31 = .ok (.iload_n 1, 1) := by decide +kernel
theorem dX8_nears_32 : decode cX8_nears 32 = .ok (.dup2, 1) := by decide +kernel
theorem dX8_nears_33 : decode cX8_nears 33 = .ok (.iaload, 1) := by decide +kernel
theorem dX8_nears_34 : decode cX8_nears 34 = .ok (.iload_n 1, 1) := by decide +kernel
theorem dX8_nears_35 : decode cX8_nears 35 = .ok (.iload_n 2, 1) := by decide +kernel
theorem dX8_nears_36 : decode cX8_nears 36 = .ok (.if_icmp .eq 36, 3) := by decide +kernel
theorem dX8_nears_39 : decode cX8_nears 39 = .ok (.aload_n 0, 1) := by decide +kernel
theorem dX8_nears_40 : decode cX8_nears 40 = .ok (.getfield 39, 3) := by decide +kernel
theorem dX8_nears_43 : decode cX8_nears 43 = .ok (.bipush 12, 2) := by decide +kernel
theorem dX8_nears_45 : decode cX8_nears 45 = .ok (.iload_n 1, 1) := by decide +kernel
theorem dX8_nears_46 : decode cX8_nears 46 = .ok (.imul, 1) := by decide +kernel
theorem dX8_nears_47 : decode cX8_nears 47 = .ok (.iload_n 2, 1) := by decide +kernel
theorem dX8_nears_48 : decode cX8_nears 48 = .ok (.iadd, 1) := by decide +kernel
theorem dX8_nears_49 : decode cX8_nears 49 = .ok (.baload, 1) := by decide +kernel
theorem dX8_nears_50 : decode cX8_nears 50 = .ok (.ifCond .ne 22, 3) := by decide +kernel
theorem dX8_nears_53 : decode cX8_nears 53 = .ok (.aload_n 0, 1) := by decide +kernel
theorem dX8_nears_54 : decode cX8_nears 54 = .ok (.iload_n 1, 1) := by decide +kernel
theorem dX8_nears_55 : decode cX8_nears 55 = .ok (.iload_n 2, 1) := by decide +kernel
theorem dX8_nears_56 : decode cX8_nears 56 = .ok (.invokevirtual 126, 3) := by decide +kernel
theorem dX8_nears_59 : decode cX8_nears 59 = .ok (.aload_n 0, 1) := by decide +kernel
theorem dX8_nears_60 : decode cX8_nears 60 = .ok (.getfield 7, 3) := by decide +kernel
theorem dX8_nears_63 : decode cX8_nears 63 = .ok (.if_icmp .ge 9, 3) := by decide +kernel
theorem dX8_nears_66 : decode cX8_nears 66 = .ok (.iconst 1, 1) := by decide +kernel
theorem dX8_nears_67 : decode cX8_nears 67 = .ok (.iload_n 2, 1) := by decide +kernel
theorem dX8_nears_68 : decode cX8_nears 68 = .ok (.ishl, 1) := by decide +kernel
theorem dX8_nears_69 : decode cX8_nears 69 = .ok (.goto 4, 3) := by decide +kernel
theorem dX8_nears_72 : decode cX8_nears 72 = .ok (.iconst 0, 1) := by decide +kernel
theorem dX8_nears_73 : decode cX8_nears 73 = .ok (.ior, 1) := by decide +kernel
theorem dX8_nears_74 : decode cX8_nears 74 = .ok (.iastore, 1) := by decide +kernel
theorem dX8_nears_75 : decode cX8_nears 75 = .ok (.iinc 2 1, 3) := by decide +kernel
theorem dX8_nears_78 : decode cX8_nears 78 = .ok (.goto (-59), 3) := by decide +kernel
theorem dX8_nears_81 : decode cX8_nears 81 = .ok (.iinc 1 1, 3) := by decide +kernel
theorem dX8_nears_84 : decode cX8_nears 84 = .ok (.goto (-82), 3) := by decide +kernel
theorem dX8_nears_87 : decode cX8_nears 87 = .ok (.return_, 1) := by decide +kernel
theorem dX8_worthOf_0 : decode cX8_worthOf 0 = .ok (.iconst 0, 1) := by decide +kernel
theorem dX8_worthOf_1 : decode cX8_worthOf 1 = .ok (.istore_n 2, 1) := by decide +kernel
theorem dX8_worthOf_2 : decode cX8_worthOf 2 = .ok (.iconst 0, 1) := by decide +kernel
theorem dX8_worthOf_3 : decode cX8_worthOf 3 = .ok (.istore_n 3, 1) := by decide +kernel
theorem dX8_worthOf_4 : decode cX8_worthOf 4 = .ok (.iload_n 3, 1) := by decide +kernel
theorem dX8_worthOf_5 : decode cX8_worthOf 5 = .ok (.aload_n 0, 1) := by decide +kernel
theorem dX8_worthOf_6 : decode cX8_worthOf 6 = .ok (.getfield 79, 3) := by decide +kernel
theorem dX8_worthOf_9 : decode cX8_worthOf 9 = .ok (.if_icmp .ge 24, 3) := by decide +kernel
theorem dX8_worthOf_12 : decode cX8_worthOf 12 = .ok (.iload_n 2, 1) := by decide +kernel
theorem dX8_worthOf_13 : decode cX8_worthOf 13 = .ok (.iload_n 1, 1) := by decide +kernel
theorem dX8_worthOf_14 : decode cX8_worthOf 14 = .ok (.iload_n 3, 1) := by decide +kernel
theorem dX8_worthOf_15 : decode cX8_worthOf 15 = .ok (.ishr, 1) := by decide +kernel
theorem dX8_worthOf_16 : decode cX8_worthOf 16 = .ok (.iconst 1, 1) := by decide +kernel
theorem dX8_worthOf_17 : decode cX8_worthOf 17 = .ok (.iand, 1) := by decide +kernel
theorem dX8_worthOf_18 : decode cX8_worthOf 18 = .ok (.aload_n 0, 1) := by decide +kernel
theorem dX8_worthOf_19 : decode cX8_worthOf 19 = .ok (.getfield 23, 3) := by decide +kernel
theorem dX8_worthOf_22 : decode cX8_worthOf 22 = .ok (.iload_n 3, 1) := by decide +kernel
theorem dX8_worthOf_23 : decode cX8_worthOf 23 = .ok (.iaload, 1) := by decide +kernel
theorem dX8_worthOf_24 : decode cX8_worthOf 24 = .ok (.imul, 1) := by decide +kernel
theorem dX8_worthOf_25 : decode cX8_worthOf 25 = .ok (.iadd, 1) := by decide +kernel
theorem dX8_worthOf_26 : decode cX8_worthOf 26 = .ok (.istore_n 2, 1) := by decide +kernel
theorem dX8_worthOf_27 : decode cX8_worthOf 27 = .ok (.iinc 3 1, 3) := by decide +kernel
theorem dX8_worthOf_30 : decode cX8_worthOf 30 = .ok (.goto (-26), 3) := by decide +kernel
theorem dX8_worthOf_33 : decode cX8_worthOf 33 = .ok (.iload_n 2, 1) := by decide +kernel
theorem dX8_worthOf_34 : decode cX8_worthOf 34 = .ok (.ireturn, 1) := by decide +kernel
theorem dX8_kept_0 : decode cX8_kept 0 = .ok (.aload_n 0, 1) := by decide +kernel
theorem dX8_kept_1 : decode cX8_kept 1 = .ok (.invokevirtual 152, 3) := by decide +kernel
theorem dX8_kept_4 : decode cX8_kept 4 = .ok (.iconst 0, 1) := by decide +kernel
theorem dX8_kept_5 : decode cX8_kept 5 = .ok (.istore_n 1, 1) := by decide +kernel
theorem dX8_kept_6 : decode cX8_kept 6 = .ok (.iconst 1, 1) := by decide +kernel
theorem dX8_kept_7 : decode cX8_kept 7 = .ok (.istore_n 2, 1) := by decide +kernel
theorem dX8_kept_8 : decode cX8_kept 8 = .ok (.iload_n 2, 1) := by decide +kernel
theorem dX8_kept_9 : decode cX8_kept 9 = .ok (.iconst 1, 1) := by decide +kernel
theorem dX8_kept_10 : decode cX8_kept 10 = .ok (.aload_n 0, 1) := by decide +kernel
theorem dX8_kept_11 : decode cX8_kept 11 = .ok (.getfield 79, 3) := by decide +kernel
theorem dX8_kept_14 : decode cX8_kept 14 = .ok (.ishl, 1) := by decide +kernel
theorem dX8_kept_15 : decode cX8_kept 15 = .ok (.if_icmp .ge 103, 3) := by decide +kernel
theorem dX8_kept_18 : decode cX8_kept 18 = .ok (.iconst 1, 1) := by decide +kernel
theorem dX8_kept_19 : decode cX8_kept 19 = .ok (.istore_n 3, 1) := by decide +kernel
theorem dX8_kept_20 : decode cX8_kept 20 = .ok (.iconst 0, 1) := by decide +kernel
theorem dX8_kept_21 : decode cX8_kept 21 = .ok (.istore 4, 2) := by decide +kernel
theorem dX8_kept_23 : decode cX8_kept 23 = .ok (.iload 4, 2) := by decide +kernel
theorem dX8_kept_25 : decode cX8_kept 25 = .ok (.aload_n 0, 1) := by decide +kernel
theorem dX8_kept_26 : decode cX8_kept 26 = .ok (.getfield 79, 3) := by decide +kernel
theorem dX8_kept_29 : decode cX8_kept 29 = .ok (.if_icmp .ge 40, 3) := by decide +kernel
theorem dX8_kept_32 : decode cX8_kept 32 = .ok (.iload_n 3, 1) := by decide +kernel
theorem dX8_kept_33 : decode cX8_kept 33 = .ok (.ifCond .eq 36, 3) := by decide +kernel
theorem dX8_kept_36 : decode cX8_kept 36 = .ok (.iload_n 2, 1) := by decide +kernel
theorem dX8_kept_37 : decode cX8_kept 37 = .ok (.iload 4, 2) := by decide +kernel
theorem dX8_kept_39 : decode cX8_kept 39 = .ok (.ishr, 1) := by decide +kernel
theorem dX8_kept_40 : decode cX8_kept 40 = .ok (.iconst 1, 1) := by decide +kernel
theorem dX8_kept_41 : decode cX8_kept 41 = .ok (.iand, 1) := by decide +kernel
theorem dX8_kept_42 : decode cX8_kept 42 = .ok (.ifCond .eq 15, 3) := by decide +kernel
theorem dX8_kept_45 : decode cX8_kept 45 = .ok (.aload_n 0, 1) := by decide +kernel
theorem dX8_kept_46 : decode cX8_kept 46 = .ok (.getfield 48, 3) := by decide +kernel
theorem dX8_kept_49 : decode cX8_kept 49 = .ok (.iload 4, 2) := by decide +kernel
theorem dX8_kept_51 : decode cX8_kept 51 = .ok (.iaload, 1) := by decide +kernel
theorem dX8_kept_52 : decode cX8_kept 52 = .ok (.iload_n 2, 1) := by decide +kernel
theorem dX8_kept_53 : decode cX8_kept 53 = .ok (.iand, 1) := by decide +kernel
theorem dX8_kept_54 : decode cX8_kept 54 = .ok (.ifCond .ne 7, 3) := by decide +kernel
theorem dX8_kept_57 : decode cX8_kept 57 = .ok (.iconst 1, 1) := by decide +kernel
theorem dX8_kept_58 : decode cX8_kept 58 = .ok (.goto 4, 3) := by decide +kernel
theorem dX8_kept_61 : decode cX8_kept 61 = .ok (.iconst 0, 1) := by decide +kernel
theorem dX8_kept_62 : decode cX8_kept 62 = .ok (.istore_n 3, 1) := by decide +kernel
theorem dX8_kept_63 : decode cX8_kept 63 = .ok (.iinc 4 1, 3) := by decide +kernel
theorem dX8_kept_66 : decode cX8_kept 66 = .ok (.goto (-43), 3) := by decide +kernel
theorem dX8_kept_69 : decode cX8_kept 69 = .ok (.iload_n 3, 1) := by decide +kernel
theorem dX8_kept_70 : decode cX8_kept 70 = .ok (.ifCond .eq 42, 3) := by decide +kernel
theorem dX8_kept_73 : decode cX8_kept 73 = .ok (.aload_n 0, 1) := by decide +kernel
theorem dX8_kept_74 : decode cX8_kept 74 = .ok (.iload_n 2, 1) := by decide +kernel
theorem dX8_kept_75 : decode cX8_kept 75 = .ok (.invokevirtual 155, 3) := by decide +kernel
theorem dX8_kept_78 : decode cX8_kept 78 = .ok (.aload_n 0, 1) := by decide +kernel
theorem dX8_kept_79 : decode cX8_kept 79 = .ok (.iload_n 1, 1) := by decide +kernel
theorem dX8_kept_80 : decode cX8_kept 80 = .ok (.invokevirtual 155, 3) := by decide +kernel
theorem dX8_kept_83 : decode cX8_kept 83 = .ok (.if_icmp .gt 27, 3) := by decide +kernel
theorem dX8_kept_86 : decode cX8_kept 86 = .ok (.aload_n 0, 1) := by decide +kernel
theorem dX8_kept_87 : decode cX8_kept 87 = .ok (.iload_n 2, 1) := by decide +kernel
theorem dX8_kept_88 : decode cX8_kept 88 = .ok (.invokevirtual 155, 3) := by decide +kernel
theorem dX8_kept_91 : decode cX8_kept 91 = .ok (.aload_n 0, 1) := by decide +kernel
theorem dX8_kept_92 : decode cX8_kept 92 = .ok (.iload_n 1, 1) := by decide +kernel
theorem dX8_kept_93 : decode cX8_kept 93 = .ok (.invokevirtual 155, 3) := by decide +kernel
theorem dX8_kept_96 : decode cX8_kept 96 = .ok (.if_icmp .ne 16, 3) := by decide +kernel
theorem dX8_kept_99 : decode cX8_kept 99 = .ok (.iload_n 2, 1) := by decide +kernel
theorem dX8_kept_100 : decode cX8_kept 100 = .ok (.invokestatic 140, 3) := by decide +kernel
theorem dX8_kept_103 : decode cX8_kept 103 = .ok (.iload_n 1, 1) := by decide +kernel
theorem dX8_kept_104 : decode cX8_kept 104 = .ok (.invokestatic 140, 3) := by decide +kernel
theorem dX8_kept_107 : decode cX8_kept 107 = .ok (.if_icmp .le 5, 3) := by decide +kernel
theorem dX8_kept_110 : decode cX8_kept 110 = .ok (.iload_n 2, 1) := by decide +kernel
theorem dX8_kept_111 : decode cX8_kept 111 = .ok (.istore_n 1, 1) := by decide +kernel
theorem dX8_kept_112 : decode cX8_kept 112 = .ok (.iinc 2 1, 3) := by decide +kernel
theorem dX8_kept_115 : decode cX8_kept 115 = .ok (.goto (-107), 3) := by decide +kernel
theorem dX8_kept_118 : decode cX8_kept 118 = .ok (.iload_n 1, 1) := by decide +kernel
theorem dX8_kept_119 : decode cX8_kept 119 = .ok (.ireturn, 1) := by decide +kernel
theorem dX8_loss_0 : decode cX8_loss 0 = .ok (.aload_n 0, 1) := by decide +kernel
theorem dX8_loss_1 : decode cX8_loss 1 = .ok (.iconst 1, 1) := by decide +kernel
theorem dX8_loss_2 : decode cX8_loss 2 = .ok (.aload_n 0, 1) := by decide +kernel
theorem dX8_loss_3 : decode cX8_loss 3 = .ok (.getfield 79, 3) := by decide +kernel
theorem dX8_loss_6 : decode cX8_loss 6 = .ok (.ishl, 1) := by decide +kernel
theorem dX8_loss_7 : decode cX8_loss 7 = .ok (.iconst 1, 1) := by decide +kernel
theorem dX8_loss_8 : decode cX8_loss 8 = .ok (.isub, 1) := by decide +kernel
theorem dX8_loss_9 : decode cX8_loss 9 = .ok (.aload_n 0, 1) := by decide +kernel
theorem dX8_loss_10 : decode cX8_loss 10 = .ok (.invokevirtual 158, 3) := by decide +kernel
theorem dX8_loss_13 : decode cX8_loss 13 = .ok (.iconst (-1), 1) := by decide +kernel
theorem dX8_loss_14 : decode cX8_loss 14 = .ok (.ixor, 1) := by decide +kernel
theorem dX8_loss_15 : decode cX8_loss 15 = .ok (.iand, 1) := by decide +kernel
theorem dX8_loss_16 : decode cX8_loss 16 = .ok (.invokevirtual 155, 3) := by decide +kernel
theorem dX8_loss_19 : decode cX8_loss 19 = .ok (.ireturn, 1) := by decide +kernel
theorem dX8_lays_0 : decode cX8_lays 0 = .ok (.iconst 0, 1) := by decide +kernel
theorem dX8_lays_1 : decode cX8_lays 1 = .ok (.istore_n 2, 1) := by decide +kernel
theorem dX8_lays_2 : decode cX8_lays 2 = .ok (.aload_n 0, 1) := by decide +kernel
theorem dX8_lays_3 : decode cX8_lays 3 = .ok (.getfield 51, 3) := by decide +kernel
theorem dX8_lays_6 : decode cX8_lays 6 = .ok (.iconst 0, 1) := by decide +kernel
theorem dX8_lays_7 : decode cX8_lays 7 = .ok (.iconst (-1), 1) := by decide +kernel
theorem dX8_lays_8 : decode cX8_lays 8 = .ok (.iastore, 1) := by decide +kernel
theorem dX8_lays_9 : decode cX8_lays 9 = .ok (.iload_n 2, 1) := by decide +kernel
theorem dX8_lays_10 : decode cX8_lays 10 = .ok (.ifCond .lt 122, 3) := by decide +kernel
theorem dX8_lays_13 : decode cX8_lays 13 = .ok (.iload_n 2, 1) := by decide +kernel
theorem dX8_lays_14 : decode cX8_lays 14 = .ok (.aload_n 0, 1) := by decide +kernel
theorem dX8_lays_15 : decode cX8_lays 15 = .ok (.getfield 79, 3) := by decide +kernel
theorem dX8_lays_18 : decode cX8_lays 18 = .ok (.if_icmp .ge 114, 3) := by decide +kernel
theorem dX8_lays_21 : decode cX8_lays 21 = .ok (.aload_n 0, 1) := by decide +kernel
theorem dX8_lays_22 : decode cX8_lays 22 = .ok (.getfield 51, 3) := by decide +kernel
theorem dX8_lays_25 : decode cX8_lays 25 = .ok (.iload_n 2, 1) := by decide +kernel
theorem dX8_lays_26 : decode cX8_lays 26 = .ok (.dup2, 1) := by decide +kernel
theorem dX8_lays_27 : decode cX8_lays 27 = .ok (.iaload, 1) := by decide +kernel
theorem dX8_lays_28 : decode cX8_lays 28 = .ok (.iconst 1, 1) := by decide +kernel
theorem dX8_lays_29 : decode cX8_lays 29 = .ok (.iadd, 1) := by decide +kernel
theorem dX8_lays_30 : decode cX8_lays 30 = .ok (.iastore, 1) := by decide +kernel
theorem dX8_lays_31 : decode cX8_lays 31 = .ok (.aload_n 0, 1) := by decide +kernel
theorem dX8_lays_32 : decode cX8_lays 32 = .ok (.getfield 51, 3) := by decide +kernel
theorem dX8_lays_35 : decode cX8_lays 35 = .ok (.iload_n 2, 1) := by decide +kernel
theorem dX8_lays_36 : decode cX8_lays 36 = .ok (.iaload, 1) := by decide +kernel
theorem dX8_lays_37 : decode cX8_lays 37 = .ok (.iload_n 1, 1) := by decide +kernel
theorem dX8_lays_38 : decode cX8_lays 38 = .ok (.if_icmp .ne 9, 3) := by decide +kernel
theorem dX8_lays_41 : decode cX8_lays 41 = .ok (.iinc 2 (-1), 3) := by decide +kernel
theorem dX8_lays_44 : decode cX8_lays 44 = .ok (.goto (-35), 3) := by decide +kernel
theorem dX8_lays_47 : decode cX8_lays 47 = .ok (.iconst 1, 1) := by decide +kernel
theorem dX8_lays_48 : decode cX8_lays 48 = .ok (.istore_n 3, 1) := by decide +kernel
theorem dX8_lays_49 : decode cX8_lays 49 = .ok (.iconst 0, 1) := by decide +kernel
theorem dX8_lays_50 : decode cX8_lays 50 = .ok (.istore 4, 2) := by decide +kernel
theorem dX8_lays_52 : decode cX8_lays 52 = .ok (.iload 4, 2) := by decide +kernel
theorem dX8_lays_54 : decode cX8_lays 54 = .ok (.iload_n 2, 1) := by decide +kernel
theorem dX8_lays_55 : decode cX8_lays 55 = .ok (.if_icmp .ge 49, 3) := by decide +kernel
theorem dX8_lays_58 : decode cX8_lays 58 = .ok (.iload_n 3, 1) := by decide +kernel
theorem dX8_lays_59 : decode cX8_lays 59 = .ok (.ifCond .eq 37, 3) := by decide +kernel
theorem dX8_lays_62 : decode cX8_lays 62 = .ok (.aload_n 0, 1) := by decide +kernel
theorem dX8_lays_63 : decode cX8_lays 63 = .ok (.getfield 48, 3) := by decide +kernel
theorem dX8_lays_66 : decode cX8_lays 66 = .ok (.iload_n 2, 1) := by decide +kernel
theorem dX8_lays_67 : decode cX8_lays 67 = .ok (.iaload, 1) := by decide +kernel
theorem dX8_lays_68 : decode cX8_lays 68 = .ok (.iload 4, 2) := by decide +kernel
theorem dX8_lays_70 : decode cX8_lays 70 = .ok (.ishr, 1) := by decide +kernel
theorem dX8_lays_71 : decode cX8_lays 71 = .ok (.iconst 1, 1) := by decide +kernel
theorem dX8_lays_72 : decode cX8_lays 72 = .ok (.iand, 1) := by decide +kernel
theorem dX8_lays_73 : decode cX8_lays 73 = .ok (.ifCond .eq 19, 3) := by decide +kernel
theorem dX8_lays_76 : decode cX8_lays 76 = .ok (.aload_n 0, 1) := by decide +kernel
theorem dX8_lays_77 : decode cX8_lays 77 = .ok (.getfield 51, 3) := by decide +kernel
theorem dX8_lays_80 : decode cX8_lays 80 = .ok (.iload 4, 2) := by decide +kernel
theorem dX8_lays_82 : decode cX8_lays 82 = .ok (.iaload, 1) := by decide +kernel
theorem dX8_lays_83 : decode cX8_lays 83 = .ok (.aload_n 0, 1) := by decide +kernel
theorem dX8_lays_84 : decode cX8_lays 84 = .ok (.getfield 51, 3) := by decide +kernel
theorem dX8_lays_87 : decode cX8_lays 87 = .ok (.iload_n 2, 1) := by decide +kernel
theorem dX8_lays_88 : decode cX8_lays 88 = .ok (.iaload, 1) := by decide +kernel
theorem dX8_lays_89 : decode cX8_lays 89 = .ok (.if_icmp .eq 7, 3) := by decide +kernel
theorem dX8_lays_92 : decode cX8_lays 92 = .ok (.iconst 1, 1) := by decide +kernel
theorem dX8_lays_93 : decode cX8_lays 93 = .ok (.goto 4, 3) := by decide +kernel
theorem dX8_lays_96 : decode cX8_lays 96 = .ok (.iconst 0, 1) := by decide +kernel
theorem dX8_lays_97 : decode cX8_lays 97 = .ok (.istore_n 3, 1) := by decide +kernel
theorem dX8_lays_98 : decode cX8_lays 98 = .ok (.iinc 4 1, 3) := by decide +kernel
theorem dX8_lays_101 : decode cX8_lays 101 = .ok (.goto (-49), 3) := by decide +kernel
theorem dX8_lays_104 : decode cX8_lays 104 = .ok (.iload_n 3, 1) := by decide +kernel
theorem dX8_lays_105 : decode cX8_lays 105 = .ok (.ifCond .ne 6, 3) := by decide +kernel
theorem dX8_lays_108 : decode cX8_lays 108 = .ok (.goto (-99), 3) := by decide +kernel
theorem dX8_lays_111 : decode cX8_lays 111 = .ok (.iinc 2 1, 3) := by decide +kernel
theorem dX8_lays_114 : decode cX8_lays 114 = .ok (.iload_n 2, 1) := by decide +kernel
theorem dX8_lays_115 : decode cX8_lays 115 = .ok (.aload_n 0, 1) := by decide +kernel
theorem dX8_lays_116 : decode cX8_lays 116 = .ok (.getfield 79, 3) := by decide +kernel
theorem dX8_lays_119 : decode cX8_lays 119 = .ok (.if_icmp .ge 10, 3) := by decide +kernel
theorem dX8_lays_122 : decode cX8_lays 122 = .ok (.aload_n 0, 1) := by decide +kernel
theorem dX8_lays_123 : decode cX8_lays 123 = .ok (.getfield 51, 3) := by decide +kernel
theorem dX8_lays_126 : decode cX8_lays 126 = .ok (.iload_n 2, 1) := by decide +kernel
theorem dX8_lays_127 : decode cX8_lays 127 = .ok (.iconst (-1), 1) := by decide +kernel
theorem dX8_lays_128 : decode cX8_lays 128 = .ok (.iastore, 1) := by decide +kernel
theorem dX8_lays_129 : decode cX8_lays 129 = .ok (.goto (-120), 3) := by decide +kernel
theorem dX8_lays_132 : decode cX8_lays 132 = .ok (.iload_n 2, 1) := by decide +kernel
theorem dX8_lays_133 : decode cX8_lays 133 = .ok (.ifCond .lt 7, 3) := by decide +kernel
theorem dX8_lays_136 : decode cX8_lays 136 = .ok (.iconst 1, 1) := by decide +kernel
theorem dX8_lays_137 : decode cX8_lays 137 = .ok (.goto 4, 3) := by decide +kernel
theorem dX8_lays_140 : decode cX8_lays 140 = .ok (.iconst 0, 1) := by decide +kernel
theorem dX8_lays_141 : decode cX8_lays 141 = .ok (.ireturn, 1) := by decide +kernel
theorem dX8_sheets_0 : decode cX8_sheets 0 = .ok (.aload_n 0, 1) := by decide +kernel
theorem dX8_sheets_1 : decode cX8_sheets 1 = .ok (.getfield 79, 3) := by decide +kernel
theorem dX8_sheets_4 : decode cX8_sheets 4 = .ok (.ifCond .ne 5, 3) := by decide +kernel
theorem dX8_sheets_7 : decode cX8_sheets 7 = .ok (.iconst 0, 1) := by decide +kernel
theorem dX8_sheets_8 : decode cX8_sheets 8 = .ok (.ireturn, 1) := by decide +kernel
theorem dX8_sheets_9 : decode cX8_sheets 9 = .ok (.aload_n 0, 1) := by decide +kernel
theorem dX8_sheets_10 : decode cX8_sheets 10 = .ok (.invokevirtual 152, 3) := by decide +kernel
theorem dX8_sheets_13 : decode cX8_sheets 13 = .ok (.iconst 1, 1) := by decide +kernel
theorem dX8_sheets_14 : decode cX8_sheets 14 = .ok (.istore_n 1, 1) := by decide +kernel
theorem dX8_sheets_15 : decode cX8_sheets 15 = .ok (.aload_n 0, 1) := by decide +kernel
theorem dX8_sheets_16 : decode cX8_sheets 16 = .ok (.iload_n 1, 1) := by decide +kernel
theorem dX8_sheets_17 : decode cX8_sheets 17 = .ok (.invokevirtual 162, 3) := by decide +kernel
theorem dX8_sheets_20 : decode cX8_sheets 20 = .ok (.ifCond .ne 9, 3) := by decide +kernel
theorem dX8_sheets_23 : decode cX8_sheets 23 = .ok (.iinc 1 1, 3) := by decide +kernel
theorem dX8_sheets_26 : decode cX8_sheets 26 = .ok (.goto (-11), 3) := by decide +kernel
theorem dX8_sheets_29 : decode cX8_sheets 29 = .ok (.iload_n 1, 1) := by decide +kernel
theorem dX8_sheets_30 : decode cX8_sheets 30 = .ok (.ireturn, 1) := by decide +kernel
theorem dX8_sheet_0 : decode cX8_sheet 0 = .ok (.aload_n 0, 1) := by decide +kernel
theorem dX8_sheet_1 : decode cX8_sheet 1 = .ok (.iload_n 1, 1) := by decide +kernel
theorem dX8_sheet_2 : decode cX8_sheet 2 = .ok (.invokevirtual 101, 3) := by decide +kernel
theorem dX8_sheet_5 : decode cX8_sheet 5 = .ok (.ifCond .ne 5, 3) := by decide +kernel
theorem dX8_sheet_8 : decode cX8_sheet 8 = .ok (.iconst (-1), 1) := by decide +kernel
theorem dX8_sheet_9 : decode cX8_sheet 9 = .ok (.ireturn, 1) := by decide +kernel
theorem dX8_sheet_10 : decode cX8_sheet 10 = .ok (.aload_n 0, 1) := by decide +kernel
theorem dX8_sheet_11 : decode cX8_sheet 11 = .ok (.invokevirtual 165, 3) := by decide +kernel
theorem dX8_sheet_14 : decode cX8_sheet 14 = .ok (.pop, 1) := by decide +kernel
theorem dX8_sheet_15 : decode cX8_sheet 15 = .ok (.aload_n 0, 1) := by decide +kernel
theorem dX8_sheet_16 : decode cX8_sheet 16 = .ok (.getfield 51, 3) := by decide +kernel
theorem dX8_sheet_19 : decode cX8_sheet 19 = .ok (.iload_n 1, 1) := by decide +kernel
theorem dX8_sheet_20 : decode cX8_sheet 20 = .ok (.iaload, 1) := by decide +kernel
theorem dX8_sheet_21 : decode cX8_sheet 21 = .ok (.ireturn, 1) := by decide +kernel
theorem dX8_textured_0 : decode cX8_textured 0 = .ok (.aload_n 0, 1) := by decide +kernel
theorem dX8_textured_1 : decode cX8_textured 1 = .ok (.iconst 0, 1) := by decide +kernel
theorem dX8_textured_2 : decode cX8_textured 2 = .ok (.putfield 168, 3) := by decide +kernel
theorem dX8_textured_5 : decode cX8_textured 5 = .ok (.iconst 0, 1) := by decide +kernel
theorem dX8_textured_6 : decode cX8_textured 6 = .ok (.istore_n 1, 1) := by decide +kernel
theorem dX8_textured_7 : decode cX8_textured 7 = .ok (.iload_n 1, 1) := by decide +kernel
theorem dX8_textured_8 : decode cX8_textured 8 = .ok (.aload_n 0, 1) := by decide +kernel
theorem dX8_textured_9 : decode cX8_textured 9 = .ok (.getfield 79, 3) := by decide +kernel
theorem dX8_textured_12 : decode cX8_textured 12 = .ok (.if_icmp .ge 102, 3) := by decide +kernel
theorem dX8_textured_15 : decode cX8_textured 15 = .ok (.aload_n 0, 1) := by decide +kernel
theorem dX8_textured_16 : decode cX8_textured 16 = .ok (.getfield 20, 3) := by decide +kernel
theorem dX8_textured_19 : decode cX8_textured 19 = .ok (.iload_n 1, 1) := by decide +kernel
theorem dX8_textured_20 : decode cX8_textured 20 = .ok (.iaload, 1) := by decide +kernel
theorem dX8_textured_21 : decode cX8_textured 21 = .ok (.iconst 1, 1) := by decide +kernel
theorem dX8_textured_22 : decode cX8_textured 22 = .ok (.if_icmp .eq 6, 3) := by decide +kernel
theorem dX8_textured_25 : decode cX8_textured 25 = .ok (.goto 83, 3) := by decide +kernel
theorem dX8_textured_28 : decode cX8_textured 28 = .ok (.aload_n 0, 1) := by decide +kernel
theorem dX8_textured_29 : decode cX8_textured 29 = .ok (.getfield 54, 3) := by decide +kernel
theorem dX8_textured_32 : decode cX8_textured 32 = .ok (.aload_n 0, 1) := by decide +kernel
theorem dX8_textured_33 : decode cX8_textured 33 = .ok (.getfield 168, 3) := by decide +kernel
theorem dX8_textured_36 : decode cX8_textured 36 = .ok (.iload_n 1, 1) := by decide +kernel
theorem dX8_textured_37 : decode cX8_textured 37 = .ok (.iastore, 1) := by decide +kernel
theorem dX8_textured_38 : decode cX8_textured 38 = .ok (.aload_n 0, 1) := by decide +kernel
theorem dX8_textured_39 : decode cX8_textured 39 = .ok (.getfield 63, 3) := by decide +kernel
theorem dX8_textured_42 : decode cX8_textured 42 = .ok (.aload_n 0, 1) := by decide +kernel
theorem dX8_textured_43 : decode cX8_textured 43 = .ok (.getfield 168, 3) := by decide +kernel
theorem dX8_textured_46 : decode cX8_textured 46 = .ok (.iconst 0, 1) := by decide +kernel
theorem dX8_textured_47 : decode cX8_textured 47 = .ok (.iastore, 1) := by decide +kernel
theorem dX8_textured_48 : decode cX8_textured 48 = .ok (.iconst 0, 1) := by decide +kernel
theorem dX8_textured_49 : decode cX8_textured 49 = .ok (.istore_n 2, 1) := by decide +kernel
theorem dX8_textured_50 : decode cX8_textured 50 = .ok (.iload_n 2, 1) := by decide +kernel
theorem dX8_textured_51 : decode cX8_textured 51 = .ok (.aload_n 0, 1) := by decide +kernel
theorem dX8_textured_52 : decode cX8_textured 52 = .ok (.getfield 168, 3) := by decide +kernel
theorem dX8_textured_55 : decode cX8_textured 55 = .ok (.if_icmp .ge 43, 3) := by decide +kernel
