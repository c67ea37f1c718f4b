theorem dX7_thing_35 : decode cX7_thing 35 = .ok (.aaload, 1) := by decide +kernel
theorem dX7_thing_36 : decode cX7_thing 36 = .ok (.iload_n 2, 1) := by decide +kernel
theorem dX7_thing_37 : decode cX7_thing 37 = .ok (.iaload, 1) := by decide +kernel
theorem dX7_thing_38 : decode cX7_thing 38 = .ok (.ireturn, 1) := by decide +kernel
theorem dX7_isPin_0 : decode cX7_isPin 0 = .ok (.iload_n 0, 1) := by decide +kernel
theorem dX7_isPin_1 : decode cX7_isPin 1 = .ok (.ifCond .lt 23, 3) := by decide +kernel
theorem dX7_isPin_4 : decode cX7_isPin 4 = .ok (.iload_n 0, 1) := by decide +kernel
theorem dX7_isPin_5 : decode cX7_isPin 5 = .ok (.bipush 24, 2) := by decide +kernel
theorem dX7_isPin_7 : decode cX7_isPin 7 = .ok (.if_icmp .ge 17, 3) := by decide +kernel
theorem dX7_isPin_10 : decode cX7_isPin 10 = .ok (.iload_n 1, 1) := by decide +kernel
theorem dX7_isPin_11 : decode cX7_isPin 11 = .ok (.ifCond .lt 13, 3) := by decide +kernel
theorem dX7_isPin_14 : decode cX7_isPin 14 = .ok (.iload_n 1, 1) := by decide +kernel
theorem dX7_isPin_15 : decode cX7_isPin 15 = .ok (.bipush 24, 2) := by decide +kernel
theorem dX7_isPin_17 : decode cX7_isPin 17 = .ok (.if_icmp .ge 7, 3) := by decide +kernel
theorem dX7_isPin_20 : decode cX7_isPin 20 = .ok (.iconst 1, 1) := by decide +kernel
theorem dX7_isPin_21 : decode cX7_isPin 21 = .ok (.goto 4, 3) := by decide +kernel
theorem dX7_isPin_24 : decode cX7_isPin 24 = .ok (.iconst 0, 1) := by decide +kernel
theorem dX7_isPin_25 : decode cX7_isPin 25 = .ok (.ireturn, 1) := by decide +kernel
theorem dX7_isTexture_0 : decode cX7_isTexture 0 = .ok (.iload_n 0, 1) := by decide +kernel
theorem dX7_isTexture_1 : decode cX7_isTexture 1 = .ok (.ifCond .lt 12, 3) := by decide +kernel
theorem dX7_isTexture_4 : decode cX7_isTexture 4 = .ok (.iload_n 0, 1) := by decide +kernel
theorem dX7_isTexture_5 : decode cX7_isTexture 5 = .ok (.iconst 4, 1) := by decide +kernel
theorem dX7_isTexture_6 : decode cX7_isTexture 6 = .ok (.if_icmp .ge 7, 3) := by decide +kernel
theorem dX7_isTexture_9 : decode cX7_isTexture 9 = .ok (.iconst 1, 1) := by decide +kernel
theorem dX7_isTexture_10 : decode cX7_isTexture 10 = .ok (.goto 4, 3) := by decide +kernel
theorem dX7_isTexture_13 : decode cX7_isTexture 13 = .ok (.iconst 0, 1) := by decide +kernel
theorem dX7_isTexture_14 : decode cX7_isTexture 14 = .ok (.ireturn, 1) := by decide +kernel
theorem dX7_has_0 : decode cX7_has 0 = .ok (.iload_n 0, 1) := by decide +kernel
theorem dX7_has_1 : decode cX7_has 1 = .ok (.iload_n 1, 1) := by decide +kernel
theorem dX7_has_2 : decode cX7_has 2 = .ok (.ishr, 1) := by decide +kernel
theorem dX7_has_3 : decode cX7_has 3 = .ok (.iconst 1, 1) := by decide +kernel
theorem dX7_has_4 : decode cX7_has 4 = .ok (.iand, 1) := by decide +kernel
theorem dX7_has_5 : decode cX7_has 5 = .ok (.ifCond .eq 7, 3) := by decide +kernel
theorem dX7_has_8 : decode cX7_has 8 = .ok (.iconst 1, 1) := by decide +kernel
theorem dX7_has_9 : decode cX7_has 9 = .ok (.goto 4, 3) := by decide +kernel
theorem dX7_has_12 : decode cX7_has 12 = .ok (.iconst 0, 1) := by decide +kernel
theorem dX7_has_13 : decode cX7_has 13 = .ok (.ireturn, 1) := by decide +kernel
theorem dX7_isShape_0 : decode cX7_isShape 0 = .ok (.iload_n 1, 1) := by decide +kernel
theorem dX7_isShape_1 : decode cX7_isShape 1 = .ok (.ifCond .lt 15, 3) := by decide +kernel
theorem dX7_isShape_4 : decode cX7_isShape 4 = .ok (.iload_n 1, 1) := by decide +kernel
theorem dX7_isShape_5 : decode cX7_isShape 5 = .ok (.aload_n 0, 1) := by decide +kernel
theorem dX7_isShape_6 : decode cX7_isShape 6 = .ok (.getfield 94, 3) := by decide +kernel
theorem dX7_isShape_9 : decode cX7_isShape 9 = .ok (.if_icmp .ge 7, 3) := by decide +kernel
theorem dX7_isShape_12 : decode cX7_isShape 12 = .ok (.iconst 1, 1) := by decide +kernel
theorem dX7_isShape_13 : decode cX7_isShape 13 = .ok (.goto 4, 3) := by decide +kernel
theorem dX7_isShape_16 : decode cX7_isShape 16 = .ok (.iconst 0, 1) := by decide +kernel
theorem dX7_isShape_17 : decode cX7_isShape 17 = .ok (.ireturn, 1) := by decide +kernel
theorem dX7_canAdd_0 : decode cX7_canAdd 0 = .ok (.iload_n 1, 1) := by decide +kernel
theorem dX7_canAdd_1 : decode cX7_canAdd 1 = .ok (.iconst 1, 1) := by decide +kernel
theorem dX7_canAdd_2 : decode cX7_canAdd 2 = .ok (.if_icmp .lt 22, 3) := by decide +kernel
theorem dX7_canAdd_5 : decode cX7_canAdd 5 = .ok (.iload_n 1, 1) := by decide +kernel
theorem dX7_canAdd_6 : decode cX7_canAdd 6 = .ok (.bipush 9, 2) := by decide +kernel
theorem dX7_canAdd_8 : decode cX7_canAdd 8 = .ok (.if_icmp .gt 16, 3) := by decide +kernel
theorem dX7_canAdd_11 : decode cX7_canAdd 11 = .ok (.aload_n 0, 1) := by decide +kernel
theorem dX7_canAdd_12 : decode cX7_canAdd 12 = .ok (.getfield 94, 3) := by decide +kernel
theorem dX7_canAdd_15 : decode cX7_canAdd 15 = .ok (.bipush 12, 2) := by decide +kernel
theorem dX7_canAdd_17 : decode cX7_canAdd 17 = .ok (.if_icmp .ge 7, 3) := by decide +kernel
theorem dX7_canAdd_20 : decode cX7_canAdd 20 = .ok (.iconst 1, 1) := by decide +kernel
theorem dX7_canAdd_21 : decode cX7_canAdd 21 = .ok (.goto 4, 3) := by decide +kernel
theorem dX7_canAdd_24 : decode cX7_canAdd 24 = .ok (.iconst 0, 1) := by decide +kernel
theorem dX7_canAdd_25 : decode cX7_canAdd 25 = .ok (.ireturn, 1) := by decide +kernel
theorem dX7_canSimplify_0 : decode cX7_canSimplify 0 = .ok (.aload_n 0, 1) := by decide +kernel
theorem dX7_canSimplify_1 : decode cX7_canSimplify 1 = .ok (.iload_n 1, 1) := by decide +kernel
theorem dX7_canSimplify_2 : decode cX7_canSimplify 2 = .ok (.invokevirtual 111, 3) := by decide +kernel
theorem dX7_canSimplify_5 : decode cX7_canSimplify 5 = .ok (.ifCond .eq 29, 3) := by decide +kernel
theorem dX7_canSimplify_8 : decode cX7_canSimplify 8 = .ok (.aload_n 0, 1) := by decide +kernel
theorem dX7_canSimplify_9 : decode cX7_canSimplify 9 = .ok (.getfield 11, 3) := by decide +kernel
theorem dX7_canSimplify_12 : decode cX7_canSimplify 12 = .ok (.iload_n 1, 1) := by decide +kernel
theorem dX7_canSimplify_13 : decode cX7_canSimplify 13 = .ok (.aaload, 1) := by decide +kernel
theorem dX7_canSimplify_14 : decode cX7_canSimplify 14 = .ok (.getfield 126, 3) := by decide +kernel
theorem dX7_canSimplify_17 : decode cX7_canSimplify 17 = .ok (.ifCond .ne 17, 3) := by decide +kernel
theorem dX7_canSimplify_20 : decode cX7_canSimplify 20 = .ok (.iload_n 2, 1) := by decide +kernel
theorem dX7_canSimplify_21 : decode cX7_canSimplify 21 = .ok (.ifCond .lt 13, 3) := by decide +kernel
theorem dX7_canSimplify_24 : decode cX7_canSimplify 24 = .ok (.iload_n 2, 1) := by decide +kernel
theorem dX7_canSimplify_25 : decode cX7_canSimplify 25 = .ok (.bipush 30, 2) := by decide +kernel
theorem dX7_canSimplify_27 : decode cX7_canSimplify 27 = .ok (.if_icmp .gt 7, 3) := by decide +kernel
theorem dX7_canSimplify_30 : decode cX7_canSimplify 30 = .ok (.iconst 1, 1) := by decide +kernel
theorem dX7_canSimplify_31 : decode cX7_canSimplify 31 = .ok (.goto 4, 3) := by decide +kernel
theorem dX7_canSimplify_34 : decode cX7_canSimplify 34 = .ok (.iconst 0, 1) := by decide +kernel
theorem dX7_canSimplify_35 : decode cX7_canSimplify 35 = .ok (.ireturn, 1) := by decide +kernel
theorem dX7_finish_0 : decode cX7_finish 0 = .ok (.aload_n 0, 1) := by decide +kernel
theorem dX7_finish_1 : decode cX7_finish 1 = .ok (.getfield 94, 3) := by decide +kernel
theorem dX7_finish_4 : decode cX7_finish 4 = .ok (.istore_n 2, 1) := by decide +kernel
theorem dX7_finish_5 : decode cX7_finish 5 = .ok (.aload_n 1, 1) := by decide +kernel
theorem dX7_finish_6 : decode cX7_finish 6 = .ok (.invokevirtual 165, 3) := by decide +kernel
theorem dX7_finish_9 : decode cX7_finish 9 = .ok (.aload_n 0, 1) := by decide +kernel
theorem dX7_finish_10 : decode cX7_finish 10 = .ok (.dup, 1) := by decide +kernel
theorem dX7_finish_11 : decode cX7_finish 11 = .ok (.getfield 94, 3) := by decide +kernel
theorem dX7_finish_14 : decode cX7_finish 14 = .ok (.iconst 1, 1) := by decide +kernel
theorem dX7_finish_15 : decode cX7_finish 15 = .ok (.iadd, 1) := by decide +kernel
theorem dX7_finish_16 : decode cX7_finish 16 = .ok (.putfield 94, 3) := by decide +kernel
theorem dX7_finish_19 : decode cX7_finish 19 = .ok (.aload_n 0, 1) := by decide +kernel
theorem dX7_finish_20 : decode cX7_finish 20 = .ok (.iload_n 2, 1) := by decide +kernel
theorem dX7_finish_21 : decode cX7_finish 21 = .ok (.invokevirtual 168, 3) := by decide +kernel
theorem dX7_finish_24 : decode cX7_finish 24 = .ok (.aload_n 0, 1) := by decide +kernel
theorem dX7_finish_25 : decode cX7_finish 25 = .ok (.invokevirtual 108, 3) := by decide +kernel
theorem dX7_finish_28 : decode cX7_finish 28 = .ok (.iload_n 2, 1) := by decide +kernel
theorem dX7_finish_29 : decode cX7_finish 29 = .ok (.ireturn, 1) := by decide +kernel
theorem dX7_forgetAnswers_0 : decode cX7_forgetAnswers 0 = .ok (.aload_n 0, 1) := by decide +kernel
theorem dX7_forgetAnswers_1 : decode cX7_forgetAnswers 1 = .ok (.iconst 0, 1) := by decide +kernel
theorem dX7_forgetAnswers_2 : decode cX7_forgetAnswers 2 = .ok (.putfield 209, 3) := by decide +kernel
theorem dX7_forgetAnswers_5 : decode cX7_forgetAnswers 5 = .ok (.aload_n 0, 1) := by decide +kernel
theorem dX7_forgetAnswers_6 : decode cX7_forgetAnswers 6 = .ok (.iconst 0, 1) := by decide +kernel
theorem dX7_forgetAnswers_7 : decode cX7_forgetAnswers 7 = .ok (.putfield 213, 3) := by decide +kernel
theorem dX7_forgetAnswers_10 : decode cX7_forgetAnswers 10 = .ok (.aload_n 0, 1) := by decide +kernel
theorem dX7_forgetAnswers_11 : decode cX7_forgetAnswers 11 = .ok (.iconst 0, 1) := by decide +kernel
theorem dX7_forgetAnswers_12 : decode cX7_forgetAnswers 12 = .ok (.putfield 216, 3) := by decide +kernel
theorem dX7_forgetAnswers_15 : decode cX7_forgetAnswers 15 = .ok (.return_, 1) := by decide +kernel
theorem dX7_measure_0 : decode cX7_measure 0 = .ok (.aload_n 0, 1) := by decide +kernel
theorem dX7_measure_1 : decode cX7_measure 1 = .ok (.getfield 37, 3) := by decide +kernel
theorem dX7_measure_4 : decode cX7_measure 4 = .ok (.aload_n 0, 1) := by decide +kernel
theorem dX7_measure_5 : decode cX7_measure 5 = .ok (.getfield 11, 3) := by decide +kernel
theorem dX7_measure_8 : decode cX7_measure 8 = .ok (.iload_n 1, 1) := by decide +kernel
theorem dX7_measure_9 : decode cX7_measure 9 = .ok (.aaload, 1) := by decide +kernel
theorem dX7_measure_10 : decode cX7_measure 10 = .ok (.getfield 132, 3) := by decide +kernel
theorem dX7_measure_13 : decode cX7_measure 13 = .ok (.invokevirtual 219, 3) := by decide +kernel
theorem dX7_measure_16 : decode cX7_measure 16 = .ok (.iconst 1, 1) := by decide +kernel
theorem dX7_measure_17 : decode cX7_measure 17 = .ok (.aload_n 0, 1) := by decide +kernel
theorem dX7_measure_18 : decode cX7_measure 18 = .ok (.getfield 94, 3) := by decide +kernel
theorem dX7_measure_21 : decode cX7_measure 21 = .ok (.ishl, 1) := by decide +kernel
theorem dX7_measure_22 : decode cX7_measure 22 = .ok (.iconst 1, 1) := by decide +kernel
theorem dX7_measure_23 : decode cX7_measure 23 = .ok (.isub, 1) := by decide +kernel
theorem dX7_measure_24 : decode cX7_measure 24 = .ok (.istore_n 2, 1) := by decide +kernel
theorem dX7_measure_25 : decode cX7_measure 25 = .ok (.iconst 0, 1) := by decide +kernel
theorem dX7_measure_26 : decode cX7_measure 26 = .ok (.istore_n 3, 1) := by decide +kernel
theorem dX7_measure_27 : decode cX7_measure 27 = .ok (.iload_n 3, 1) := by decide +kernel
theorem dX7_measure_28 : decode cX7_measure 28 = .ok (.bipush 24, 2) := by decide +kernel
theorem dX7_measure_30 : decode cX7_measure 30 = .ok (.if_icmp .ge 96, 3) := by decide +kernel
theorem dX7_measure_33 : decode cX7_measure 33 = .ok (.iload_n 2, 1) := by decide +kernel
theorem dX7_measure_34 : decode cX7_measure 34 = .ok (.ifCond .eq 92, 3) := by decide +kernel
theorem dX7_measure_37 : decode cX7_measure 37 = .ok (.iconst 0, 1) := by decide +kernel
theorem dX7_measure_38 : decode cX7_measure 38 = .ok (.istore 4, 2) := by decide +kernel
theorem dX7_measure_40 : decode cX7_measure 40 = .ok (.iload 4, 2) := by decide +kernel
theorem dX7_measure_42 : decode cX7_measure 42 = .ok (.aload_n 0, 1) := by decide +kernel
theorem dX7_measure_43 : decode cX7_measure 43 = .ok (.getfield 94, 3) := by decide +kernel
theorem dX7_measure_46 : decode cX7_measure 46 = .ok (.if_icmp .ge 67, 3) := by decide +kernel
theorem dX7_measure_49 : decode cX7_measure 49 = .ok (.iload_n 2, 1) := by decide +kernel
theorem dX7_measure_50 : decode cX7_measure 50 = .ok (.iload 4, 2) := by decide +kernel
theorem dX7_measure_52 : decode cX7_measure 52 = .ok (.invokestatic 114, 3) := by decide +kernel
theorem dX7_measure_55 : decode cX7_measure 55 = .ok (.ifCond .eq 52, 3) := by decide +kernel
theorem dX7_measure_58 : decode cX7_measure 58 = .ok (.aload_n 0, 1) := by decide +kernel
theorem dX7_measure_59 : decode cX7_measure 59 = .ok (.getfield 37, 3) := by decide +kernel
theorem dX7_measure_62 : decode cX7_measure 62 = .ok (.aload_n 0, 1) := by decide +kernel
theorem dX7_measure_63 : decode cX7_measure 63 = .ok (.getfield 11, 3) := by decide +kernel
theorem dX7_measure_66 : decode cX7_measure 66 = .ok (.iload 4, 2) := by decide +kernel
theorem dX7_measure_68 : decode cX7_measure 68 = .ok (.aaload, 1) := by decide +kernel
theorem dX7_measure_69 : decode cX7_measure 69 = .ok (.getfield 132, 3) := by decide +kernel
theorem dX7_measure_72 : decode cX7_measure 72 = .ok (.invokevirtual 222, 3) := by decide +kernel
theorem dX7_measure_75 : decode cX7_measure 75 = .ok (.ifCond .eq 32, 3) := by decide +kernel
theorem dX7_measure_78 : decode cX7_measure 78 = .ok (.iload_n 2, 1) := by decide +kernel
theorem dX7_measure_79 : decode cX7_measure 79 = .ok (.iconst 1, 1) := by decide +kernel
theorem dX7_measure_80 : decode cX7_measure 80 = .ok (.iload 4, 2) := by decide +kernel
theorem dX7_measure_82 : decode cX7_measure 82 = .ok (.ishl, 1) := by decide +kernel
theorem dX7_measure_83 : decode cX7_measure 83 = .ok (.iconst (-1), 1) := by decide +kernel
theorem dX7_measure_84 : decode cX7_measure 84 = .ok (.ixor, 1) := by decide +kernel
theorem dX7_measure_85 : decode cX7_measure 85 = .ok (.iand, 1) := by decide +kernel
theorem dX7_measure_86 : decode cX7_measure 86 = .ok (.istore_n 2, 1) := by decide +kernel
theorem dX7_measure_87 : decode cX7_measure 87 = .ok (.aload_n 0, 1) := by decide +kernel
theorem dX7_measure_88 : decode cX7_measure 88 = .ok (.getfield 31, 3) := by decide +kernel
theorem dX7_measure_91 : decode cX7_measure 91 = .ok (.iload_n 1, 1) := by decide +kernel
theorem dX7_measure_92 : decode cX7_measure 92 = .ok (.aaload, 1) := by decide +kernel
theorem dX7_measure_93 : decode cX7_measure 93 = .ok (.iload 4, 2) := by decide +kernel
theorem dX7_measure_95 : decode cX7_measure 95 = .ok (.iload_n 3, 1) := by decide +kernel
theorem dX7_measure_96 : decode cX7_measure 96 = .ok (.iastore, 1) := by decide +kernel
theorem dX7_measure_97 : decode cX7_measure 97 = .ok (.aload_n 0, 1) := by decide +kernel
theorem dX7_measure_98 : decode cX7_measure 98 = .ok (.getfield 31, 3) := by decide +kernel
theorem dX7_measure_101 : decode cX7_measure 101 = .ok (.iload 4, 2) := by decide +kernel
theorem dX7_measure_103 : decode cX7_measure 103 = .ok (.aaload, 1) := by decide +kernel
theorem dX7_measure_104 : decode cX7_measure 104 = .ok (.iload_n 1, 1) := by decide +kernel
theorem dX7_measure_105 : decode cX7_measure 105 = .ok (.iload_n 3, 1) := by decide +kernel
theorem dX7_measure_106 : decode cX7_measure 106 = .ok (.iastore, 1) := by decide +kernel
theorem dX7_measure_107 : decode cX7_measure 107 = .ok (.iinc 4 1, 3) := by decide +kernel
theorem dX7_measure_110 : decode cX7_measure 110 = .ok (.goto (-70), 3) := by decide +kernel
theorem dX7_measure_113 : decode cX7_measure 113 = .ok (.aload_n 0, 1) := by decide +kernel
theorem dX7_measure_114 : decode cX7_measure 114 = .ok (.getfield 37, 3) := by decide +kernel
theorem dX7_measure_117 : decode cX7_measure 117 = .ok (.invokevirtual 226, 3) := by decide +kernel
theorem dX7_measure_120 : decode cX7_measure 120 = .ok (.iinc 3 1, 3) := by decide +kernel
theorem dX7_measure_123 : decode cX7_measure 123 = .ok (.goto (-96), 3) := by decide +kernel
theorem dX7_measure_126 : decode cX7_measure 126 = .ok (.return_, 1) := by decide +kernel
theorem dX7_lookWhatIsNear_0 : decode cX7_lookWhatIsNear 0 = .ok (.iconst 0, 1) := by decide +kernel
theorem dX7_lookWhatIsNear_1 : decode cX7_lookWhatIsNear 1 = .ok (.istore_n 1, 1) := by decide +kernel
theorem dX7_lookWhatIsNear_2 : decode cX7_lookWhatIsNear 2 = .ok (.iload_n 1, 1) := by decide +kernel
theorem dX7_lookWhatIsNear_3 : decode cX7_lookWhatIsNear 3 = .ok (.aload_n 0, 1) := by decide +kernel
theorem dX7_lookWhatIsNear_4 : decode cX7_lookWhatIsNear 4 = .ok (.getfield 94, 3) := by decide +kernel
theorem dX7_lookWhatIsNear_7 : decode cX7_lookWhatIsNear 7 = .ok (.if_icmp .ge 35, 3) := by decide +kernel
theorem dX7_lookWhatIsNear_10 : decode cX7_lookWhatIsNear 10 = .ok (.aload_n 0, 1) := by decide +kernel
theorem dX7_lookWhatIsNear_11 : decode cX7_lookWhatIsNear 11 = .ok (.getfield 69, 3) := by decide +kernel
theorem dX7_lookWhatIsNear_14 : decode cX7_lookWhatIsNear 14 = .ok (.iload_n 1, 1) := by decide +kernel
theorem dX7_lookWhatIsNear_15 : decode cX7_lookWhatIsNear 15 = .ok (.aload_n 0, 1) := by decide +kernel
theorem dX7_lookWhatIsNear_16 : decode cX7_lookWhatIsNear 16 = .ok (.iload_n 1, 1) := by decide +kernel
theorem dX7_lookWhatIsNear_17 : decode cX7_lookWhatIsNear 17 = .ok (.aload_n 0, 1) := by decide +kernel
theorem dX7_lookWhatIsNear_18 : decode cX7_lookWhatIsNear 18 = .ok (.getfield 22, 3) := by decide +kernel
theorem dX7_lookWhatIsNear_21 : decode cX7_lookWhatIsNear 21 = .ok (.iconst 1, 1) := by decide +kernel
theorem dX7_lookWhatIsNear_22 : decode cX7_lookWhatIsNear 22 = .ok (.isub, 1) := by decide +kernel
theorem dX7_lookWhatIsNear_23 : decode cX7_lookWhatIsNear 23 = .ok (.invokevirtual 229, 3) := by decide +kernel
theorem dX7_lookWhatIsNear_26 : decode cX7_lookWhatIsNear 26 = .ok (.aload_n 0, 1) := by decide +kernel
theorem dX7_lookWhatIsNear_27 : decode cX7_lookWhatIsNear 27 = .ok (.getfield 26, 3) := by decide +kernel
theorem dX7_lookWhatIsNear_30 : decode cX7_lookWhatIsNear 30 = .ok (.iload_n 1, 1) := by decide +kernel
theorem dX7_lookWhatIsNear_31 : decode cX7_lookWhatIsNear 31 = .ok (.iaload, 1) := by decide +kernel
theorem dX7_lookWhatIsNear_32 : decode cX7_lookWhatIsNear 32 = .ok (.iconst (-1), 1) := by decide +kernel
theorem dX7_lookWhatIsNear_33 : decode cX7_lookWhatIsNear 33 = .ok (.ixor, 1) := by decide +kernel
theorem dX7_lookWhatIsNear_34 : decode cX7_lookWhatIsNear 34 = .ok (.iand, 1) := by decide +kernel
theorem dX7_lookWhatIsNear_35 : decode cX7_lookWhatIsNear 35 = .ok (.iastore, 1) := by decide +kernel
theorem dX7_lookWhatIsNear_36 : decode cX7_lookWhatIsNear 36 = .ok (.iinc 1 1, 3) := by decide +kernel
theorem dX7_lookWhatIsNear_39 : decode cX7_lookWhatIsNear 39 = .ok (.goto (-37), 3) := by decide +kernel
theorem dX7_lookWhatIsNear_42 : decode cX7_lookWhatIsNear 42 = .ok (.return_, 1) := by decide +kernel
theorem dX7_within_0 : decode cX7_within 0 = .ok (.iconst 0, 1) := by decide +kernel
theorem dX7_within_1 : decode cX7_within 1 = .ok (.istore_n 3, 1) := by decide +kernel
theorem dX7_within_2 : decode cX7_within 2 = .ok (.iconst 0, 1) := by decide +kernel
theorem dX7_within_3 : decode cX7_within 3 = .ok (.istore 4, 2) := by decide +kernel
theorem dX7_within_5 : decode cX7_within 5 = .ok (.iload 4, 2) := by decide +kernel
theorem dX7_within_7 : decode cX7_within 7 = .ok (.aload_n 0, 1) := by decide +kernel
theorem dX7_within_8 : decode cX7_within 8 = .ok (.getfield 94, 3) := by decide +kernel
theorem dX7_within_11 : decode cX7_within 11 = .ok (.if_icmp .ge 35, 3) := by decide +kernel
theorem dX7_within_14 : decode cX7_within 14 = .ok (.iload 4, 2) := by decide +kernel
theorem dX7_within_16 : decode cX7_within 16 = .ok (.iload_n 1, 1) := by decide +kernel
theorem dX7_within_17 : decode cX7_within 17 = .ok (.if_icmp .eq 23, 3) := by decide +kernel
theorem dX7_within_20 : decode cX7_within 20 = .ok (.aload_n 0, 1) := by decide +kernel
theorem dX7_within_21 : decode cX7_within 21 = .ok (.getfield 31, 3) := by decide +kernel
theorem dX7_within_24 : decode cX7_within 24 = .ok (.iload_n 1, 1) := by decide +kernel
theorem dX7_within_25 : decode cX7_within 25 = .ok (.aaload, 1) := by decide +kernel
theorem dX7_within_26 : decode cX7_within 26 = .ok (.iload 4, 2) := by decide +kernel
theorem dX7_within_28 : decode cX7_within 28 = .ok (.iaload, 1) := by decide +kernel
theorem dX7_within_29 : decode cX7_within 29 = .ok (.iload_n 2, 1) := by decide +kernel
theorem dX7_within_30 : decode cX7_within 30 = .ok (.if_icmp .gt 10, 3) := by decide +kernel
theorem dX7_within_33 : decode cX7_within 33 = .ok (.iload_n 3, 1) := by decide +kernel
theorem dX7_within_34 : decode cX7_within 34 = .ok (.iconst 1, 1) := by decide +kernel
theorem dX7_within_35 : decode cX7_within 35 = .ok (.iload 4, 2) := by decide +kernel
theorem dX7_within_37 : decode cX7_within 37 = .ok (.ishl, 1) := by decide +kernel
theorem dX7_within_38 : decode cX7_within 38 = .ok (.ior, 1) := by decide +kernel
theorem dX7_within_39 : decode cX7_within 39 = .ok (.istore_n 3, 1) := by decide +kernel
theorem dX7_within_40 : decode cX7_within 40 = .ok (.iinc 4 1, 3) := by decide +kernel
theorem dX7_within_43 : decode cX7_within 43 = .ok (.goto (-38), 3) := by decide +kernel
theorem dX7_within_46 : decode cX7_within 46 = .ok (.iload_n 3, 1) := by decide +kernel
theorem dX7_within_47 : decode cX7_within 47 = .ok (.ireturn, 1) := by decide +kernel
theorem dX7_chosen_0 : decode cX7_chosen 0 = .ok (.aload_n 0, 1) := by decide +kernel
theorem dX7_chosen_1 : decode cX7_chosen 1 = .ok (.getfield 209, 3) := by decide +kernel
theorem dX7_chosen_4 : decode cX7_chosen 4 = .ok (.ifCond .ne 31, 3) := by decide +kernel
theorem dX7_chosen_7 : decode cX7_chosen 7 = .ok (.aload_n 0, 1) := by decide +kernel
theorem dX7_chosen_8 : decode cX7_chosen 8 = .ok (.invokevirtual 233, 3) := by decide +kernel
theorem dX7_chosen_11 : decode cX7_chosen 11 = .ok (.aload_n 0, 1) := by decide +kernel
theorem dX7_chosen_12 : decode cX7_chosen 12 = .ok (.getfield 51, 3) := by decide +kernel
theorem dX7_chosen_15 : decode cX7_chosen 15 = .ok (.aload_n 0, 1) := by decide +kernel
theorem dX7_chosen_16 : decode cX7_chosen 16 = .ok (.getfield 11, 3) := by decide +kernel
theorem dX7_chosen_19 : decode cX7_chosen 19 = .ok (.aload_n 0, 1) := by decide +kernel
theorem dX7_chosen_20 : decode cX7_chosen 20 = .ok (.getfield 69, 3) := by decide +kernel
theorem dX7_chosen_23 : decode cX7_chosen 23 = .ok (.aload_n 0, 1) := by decide +kernel
theorem dX7_chosen_24 : decode cX7_chosen 24 = .ok (.getfield 94, 3) := by decide +kernel
theorem dX7_chosen_27 : decode cX7_chosen 27 = .ok (.invokevirtual 236, 3) := by decide +kernel
theorem dX7_chosen_30 : decode cX7_chosen 30 = .ok (.aload_n 0, 1) := by decide +kernel
theorem dX7_chosen_31 : decode cX7_chosen 31 = .ok (.iconst 1, 1) := by decide +kernel
theorem dX7_chosen_32 : decode cX7_chosen 32 = .ok (.putfield 209, 3) := by decide +kernel
theorem dX7_chosen_35 : decode cX7_chosen 35 = .ok (.aload_n 0, 1) := by decide +kernel
theorem dX7_chosen_36 : decode cX7_chosen 36 = .ok (.getfield 51, 3) := by decide +kernel
theorem dX7_chosen_39 : decode cX7_chosen 39 = .ok (.getfield 240, 3) := by decide +kernel
theorem dX7_chosen_42 : decode cX7_chosen 42 = .ok (.ireturn, 1) := by decide +kernel
theorem dX7_stack_0 : decode cX7_stack 0 = .ok (.aload_n 0, 1) := by decide +kernel
theorem dX7_stack_1 : decode cX7_stack 1 = .ok (.getfield 213, 3) := by decide +kernel
theorem dX7_stack_4 : decode cX7_stack 4 = .ok (.ifCond .ne 27, 3) := by decide +kernel
theorem dX7_stack_7 : decode cX7_stack 7 = .ok (.aload_n 0, 1) := by decide +kernel
theorem dX7_stack_8 : decode cX7_stack 8 = .ok (.invokevirtual 233, 3) := by decide +kernel
theorem dX7_stack_11 : decode cX7_stack 11 = .ok (.aload_n 0, 1) := by decide +kernel
theorem dX7_stack_12 : decode cX7_stack 12 = .ok (.getfield 58, 3) := by decide +kernel
theorem dX7_stack_15 : decode cX7_stack 15 = .ok (.aload_n 0, 1) := by decide +kernel
theorem dX7_stack_16 : decode cX7_stack 16 = .ok (.getfield 69, 3) := by decide +kernel
theorem dX7_stack_19 : decode cX7_stack 19 = .ok (.aload_n 0, 1) := by decide +kernel
theorem dX7_stack_20 : decode cX7_stack 20 = .ok (.getfield 94, 3) := by decide +kernel
theorem dX7_stack_23 : decode cX7_stack 23 = .ok (.invokevirtual 243, 3) := by decide +kernel
theorem dX7_stack_26 : decode cX7_stack 26 = .ok (.aload_n 0, 1) := by decide +kernel
theorem dX7_stack_27 : decode cX7_stack 27 = .ok (.iconst 1, 1) := by decide +kernel
theorem dX7_stack_28 : decode cX7_stack 28 = .ok (.putfield 213, 3) := by decide +kernel
theorem dX7_stack_31 : decode cX7_stack 31 = .ok (.return_, 1) := by decide +kernel
theorem dX7_weave_0 : decode cX7_weave 0 = .ok (.aload_n 0, 1) := by decide +kernel
theorem dX7_weave_1 : decode cX7_weave 1 = .ok (.getfield 216, 3) := by decide +kernel
theorem dX7_weave_4 : decode cX7_weave 4 = .ok (.ifCond .ne 54, 3) := by decide +kernel
theorem dX7_weave_7 : decode cX7_weave 7 = .ok (.aload_n 0, 1) := by decide +kernel
theorem dX7_weave_8 : decode cX7_weave 8 = .ok (.invokevirtual 247, 3) := by decide +kernel
theorem dX7_weave_11 : decode cX7_weave 11 = .ok (.istore_n 1, 1) := by decide +kernel
theorem dX7_weave_12 : decode cX7_weave 12 = .ok (.iconst 0, 1) := by decide +kernel
theorem dX7_weave_13 : decode cX7_weave 13 = .ok (.istore_n 2, 1) := by decide +kernel
theorem dX7_weave_14 : decode cX7_weave 14 = .ok (.iload_n 2, 1) := by decide +kernel
theorem dX7_weave_15 : decode cX7_weave 15 = .ok (.aload_n 0, 1) := by decide +kernel
theorem dX7_weave_16 : decode cX7_weave 16 = .ok (.getfield 94, 3) := by decide +kernel
theorem dX7_weave_19 : decode cX7_weave 19 = .ok (.if_icmp .ge 26, 3) := by decide +kernel
theorem dX7_weave_22 : decode cX7_weave 22 = .ok (.aload_n 0, 1) := by decide +kernel
theorem dX7_weave_23 : decode cX7_weave 23 = .ok (.getfield 65, 3) := by decide +kernel
theorem dX7_weave_26 : decode cX7_weave 26 = .ok (.getfield 250, 3) := by decide +kernel
theorem dX7_weave_29 : decode cX7_weave 29 = .ok (.iload_n 2, 1) := by decide +kernel
theorem dX7_weave_30 : decode cX7_weave 30 = .ok (.aload_n 0, 1) := by decide +kernel
theorem dX7_weave_31 : decode cX7_weave 31 = .ok (.iload_n 2, 1) := by decide +kernel
theorem dX7_weave_32 : decode cX7_weave 32 = .ok (.iconst 3, 1) := by decide +kernel
theorem dX7_weave_33 : decode cX7_weave 33 = .ok (.invokevirtual 229, 3) := by decide +kernel
theorem dX7_weave_36 : decode cX7_weave 36 = .ok (.iload_n 1, 1) := by decide +kernel
theorem dX7_weave_37 : decode cX7_weave 37 = .ok (.iand, 1) := by decide +kernel
theorem dX7_weave_38 : decode cX7_weave 38 = .ok (.iastore, 1) := by decide +kernel
theorem dX7_weave_39 : decode cX7_weave 39 = .ok (.iinc 2 1, 3) := by decide +kernel
theorem dX7_weave_42 : decode cX7_weave 42 = .ok (.goto (-28), 3) := by decide +kernel
theorem dX7_weave_45 : decode cX7_weave 45 = .ok (.aload_n 0, 1) := by decide +kernel
theorem dX7_weave_46 : decode cX7_weave 46 = .ok (.getfield 65, 3) := by decide +kernel
theorem dX7_weave_49 : decode cX7_weave 49 = .ok (.iload_n 1, 1) := by decide +kernel
theorem dX7_weave_50 : decode cX7_weave 50 = .ok (.invokevirtual 253, 3) := by decide +kernel
theorem dX7_weave_53 : decode cX7_weave 53 = .ok (.aload_n 0, 1) := by decide +kernel
theorem dX7_weave_54 : decode cX7_weave 54 = .ok (.iconst 1, 1) := by decide +kernel
theorem dX7_weave_55 : decode cX7_weave 55 = .ok (.putfield 216, 3) := by decide +kernel
theorem dX7_weave_58 : decode cX7_weave 58 = .ok (.return_, 1) := by decide +kernel
theorem dX7_groundSet_0 : decode cX7_groundSet 0 = .ok (.iconst 0, 1) := by decide +kernel
theorem dX7_groundSet_1 : decode cX7_groundSet 1 = .ok (.istore_n 1, 1) := by decide +kernel
theorem dX7_groundSet_2 : decode cX7_groundSet 2 = .ok (.iconst 0, 1) := by decide +kernel
theorem dX7_groundSet_3 : decode cX7_groundSet 3 = .ok (.istore_n 2, 1) := by decide +kernel
theorem dX7_groundSet_4 : decode cX7_groundSet 4 = .ok (.iload_n 2, 1) := by decide +kernel
theorem dX7_groundSet_5 : decode cX7_groundSet 5 = .ok (.aload_n 0, 1) := by decide +kernel
theorem dX7_groundSet_6 : decode cX7_groundSet 6 = .ok (.getfield 94, 3) := by decide +kernel
theorem dX7_groundSet_9 : decode cX7_groundSet 9 = .ok (.if_icmp .ge 28, 3) := by decide +kernel
theorem dX7_groundSet_12 : decode cX7_groundSet 12 = .ok (.aload_n 0, 1) := by decide +kernel
theorem dX7_groundSet_13 : decode cX7_groundSet 13 = .ok (.getfield 11, 3) := by decide +kernel
theorem dX7_groundSet_16 : decode cX7_groundSet 16 = .ok (.iload_n 2, 1) := by decide +kernel
theorem dX7_groundSet_17 : decode cX7_groundSet 17 = .ok (.aaload, 1) := by decide +kernel
theorem dX7_groundSet_18 : decode cX7_groundSet 18 = .ok (.getfield 126, 3) := by decide +kernel
theorem dX7_groundSet_21 : decode cX7_groundSet 21 = .ok (.iconst 1, 1) := by decide +kernel
theorem dX7_groundSet_22 : decode cX7_groundSet 22 = .ok (.if_icmp .ne 9, 3) := by decide +kernel
theorem dX7_groundSet_25 : decode cX7_groundSet 25 = .ok (.iload_n 1, 1) := by decide +kernel
theorem dX7_groundSet_26 : decode cX7_groundSet 26 = .ok (.iconst 1, 1) := by decide +kernel
theorem dX7_groundSet_27 : decode cX7_groundSet 27 = .ok (.iload_n 2, 1) := by decide +kernel
theorem dX7_groundSet_28 : decode cX7_groundSet 28 = .ok (.ishl, 1) := by decide +kernel
theorem dX7_groundSet_29 : decode cX7_groundSet 29 = .ok (.ior, 1) := by decide +kernel
theorem dX7_groundSet_30 : decode cX7_groundSet 30 = .ok (.istore_n 1, 1) := by decide +kernel
theorem dX7_groundSet_31 : decode cX7_groundSet 31 = .ok (.iinc 2 1, 3) := by decide +kernel
theorem dX7_groundSet_34 : decode cX7_groundSet 34 = .ok (.goto (-30), 3) := by decide +kernel
theorem dX7_groundSet_37 : decode cX7_groundSet 37 = .ok (.iload_n 1, 1) := by decide +kernel
theorem dX7_groundSet_38 : decode cX7_groundSet 38 = .ok (.ireturn, 1) := by decide +kernel
theorem dX7_press_0 : decode cX7_press 0 = .ok (.aload_n 1, 1) := by decide +kernel
theorem dX7_press_1 : decode cX7_press 1 = .ok (.getfield 126, 3) := by decide +kernel
theorem dX7_press_4 : decode cX7_press 4 = .ok (.iconst 1, 1) := by decide +kernel
theorem dX7_press_5 : decode cX7_press 5 = .ok (.if_icmp .eq 15, 3) := by decide +kernel
theorem dX7_press_8 : decode cX7_press 8 = .ok (.aload_n 0, 1) := by decide +kernel
theorem dX7_press_9 : decode cX7_press 9 = .ok (.getfield 72, 3) := by decide +kernel
theorem dX7_press_12 : decode cX7_press 12 = .ok (.aload_n 1, 1) := by decide +kernel
theorem dX7_press_13 : decode cX7_press 13 = .ok (.getfield 132, 3) := by decide +kernel
theorem dX7_press_16 : decode cX7_press 16 = .ok (.invokevirtual 256, 3) := by decide +kernel
theorem dX7_press_19 : decode cX7_press 19 = .ok (.return_, 1) := by decide +kernel
theorem dX7_press_20 : decode cX7_press 20 = .ok (.iconst 1, 1) := by decide +kernel
theorem dX7_press_21 : decode cX7_press 21 = .ok (.aload_n 1, 1) := by decide +kernel
theorem dX7_press_22 : decode cX7_press 22 = .ok (.getfield 259, 3) := by decide +kernel
theorem dX7_press_25 : decode cX7_press 25 = .ok (.iconst 0, 1) := by decide +kernel
theorem dX7_press_26 : decode cX7_press 26 = .ok (.iaload, 1) := by decide +kernel
theorem dX7_press_27 : decode cX7_press 27 = .ok (.ishl, 1) := by decide +kernel
theorem dX7_press_28 : decode cX7_press 28 = .ok (.iconst 1, 1) := by decide +kernel
theorem dX7_press_29 : decode cX7_press 29 = .ok (.aload_n 1, 1) := by decide +kernel
theorem dX7_press_30 : decode cX7_press 30 = .ok (.getfield 259, 3) := by decide +kernel
theorem dX7_press_33 : decode cX7_press 33 = .ok (.iconst 1, 1) := by decide +kernel
theorem dX7_press_34 : decode cX7_press 34 = .ok (.iaload, 1) := by decide +kernel
theorem dX7_press_35 : decode cX7_press 35 = .ok (.ishl, 1) := by decide +kernel
theorem dX7_press_36 : decode cX7_press 36 = .ok (.ior, 1) := by decide +kernel
theorem dX7_press_37 : decode cX7_press 37 = .ok (.istore_n 3, 1) := by decide +kernel
theorem dX7_press_38 : decode cX7_press 38 = .ok (.aload_n 1, 1) := by decide +kernel
theorem dX7_press_39 : decode cX7_press 39 = .ok (.getfield 262, 3) := by decide +kernel
theorem dX7_press_42 : decode cX7_press 42 = .ok (.iconst 0, 1) := by decide +kernel
theorem dX7_press_43 : decode cX7_press 43 = .ok (.iaload, 1) := by decide +kernel
theorem dX7_press_44 : decode cX7_press 44 = .ok (.istore 4, 2) := by decide +kernel
theorem dX7_press_46 : decode cX7_press 46 = .ok (.iload 4, 2) := by decide +kernel
theorem dX7_press_48 : decode cX7_press 48 = .ok (.aload_n 1, 1) := by decide +kernel
theorem dX7_press_49 : decode cX7_press 49 = .ok (.getfield 262, 3) := by decide +kernel
theorem dX7_press_52 : decode cX7_press 52 = .ok (.iconst 1, 1) := by decide +kernel
theorem dX7_press_53 : decode cX7_press 53 = .ok (.iaload, 1) := by decide +kernel
theorem dX7_press_54 : decode cX7_press 54 = .ok (.if_icmp .gt 85, 3) := by decide +kernel
theorem dX7_press_57 : decode cX7_press 57 = .ok (.iload 4, 2) := by decide +kernel
theorem dX7_press_59 : decode cX7_press 59 = .ok (.aload_n 1, 1) := by decide +kernel
theorem dX7_press_60 : decode cX7_press 60 = .ok (.getfield 262, 3) := by decide +kernel
theorem dX7_press_63 : decode cX7_press 63 = .ok (.iconst 0, 1) := by decide +kernel
theorem dX7_press_64 : decode cX7_press 64 = .ok (.iaload, 1) := by decide +kernel
theorem dX7_press_65 : decode cX7_press 65 = .ok (.if_icmp .eq 14, 3) := by decide +kernel
theorem dX7_press_68 : decode cX7_press 68 = .ok (.iload 4, 2) := by decide +kernel
theorem dX7_press_70 : decode cX7_press 70 = .ok (.aload_n 1, 1) := by decide +kernel
theorem dX7_press_71 : decode cX7_press 71 = .ok (.getfield 262, 3) := by decide +kernel
theorem dX7_press_74 : decode cX7_press 74 = .ok (.iconst 1, 1) := by decide +kernel
theorem dX7_press_75 : decode cX7_press 75 = .ok (.iaload, 1) := by decide +kernel
theorem dX7_press_76 : decode cX7_press 76 = .ok (.if_icmp .ne 7, 3) := by decide +kernel
theorem dX7_press_79 : decode cX7_press 79 = .ok (.iconst 1, 1) := by decide +kernel
theorem dX7_press_80 : decode cX7_press 80 = .ok (.goto 4, 3) := by decide +kernel
theorem dX7_press_83 : decode cX7_press 83 = .ok (.iconst 0, 1) := by decide +kernel
theorem dX7_press_84 : decode cX7_press 84 = .ok (.istore 5, 2) := by decide +kernel
theorem dX7_press_86 : decode cX7_press 86 = .ok (.iload 5, 2) := by decide +kernel
theorem dX7_press_88 : decode cX7_press 88 = .ok (.ifCond .eq 9, 3) := by decide +kernel
theorem dX7_press_91 : decode cX7_press 91 = .ok (.ldc_w 265, 3) := by decide +kernel
theorem dX7_press_94 : decode cX7_press 94 = .ok (.goto 11, 3) := by decide +kernel
theorem dX7_press_97 : decode cX7_press 97 = .ok (.iload_n 3, 1) := by decide +kernel
theorem dX7_press_98 : decode cX7_press 98 = .ok (.iload_n 2, 1) := by decide +kernel
theorem dX7_press_99 : decode cX7_press 99 = .ok (.iload 4, 2) := by decide +kernel
theorem dX7_press_101 : decode cX7_press 101 = .ok (.invokestatic 266, 3) := by decide +kernel
theorem dX7_press_104 : decode cX7_press 104 = .ok (.ior, 1) := by decide +kernel
theorem dX7_press_105 : decode cX7_press 105 = .ok (.istore 6, 2) := by decide +kernel
theorem dX7_press_107 : decode cX7_press 107 = .ok (.aload_n 0, 1) := by decide +kernel
theorem dX7_press_108 : decode cX7_press 108 = .ok (.getfield 72, 3) := by decide +kernel
theorem dX7_press_111 : decode cX7_press 111 = .ok (.getfield 269, 3) := by decide +kernel
theorem dX7_press_114 : decode cX7_press 114 = .ok (.iload 4, 2) := by decide +kernel
theorem dX7_press_116 : decode cX7_press 116 = .ok (.dup2, 1) := by decide +kernel
theorem dX7_press_117 : decode cX7_press 117 = .ok (.iaload, 1) := by decide +kernel
theorem dX7_press_118 : decode cX7_press 118 = .ok (.aload_n 1, 1) := by decide +kernel
theorem dX7_press_119 : decode cX7_press 119 = .ok (.getfield 132, 3) := by decide +kernel
theorem dX7_press_122 : decode cX7_press 122 = .ok (.getfield 269, 3) := by decide +kernel
theorem dX7_press_125 : decode cX7_press 125 = .ok (.iload 4, 2) := by decide +kernel
theorem dX7_press_127 : decode cX7_press 127 = .ok (.iaload, 1) := by decide +kernel
theorem dX7_press_128 : decode cX7_press 128 = .ok (.iload 6, 2) := by decide +kernel
theorem dX7_press_130 : decode cX7_press 130 = .ok (.iand, 1) := by decide +kernel
theorem dX7_press_131 : decode cX7_press 131 = .ok (.ior, 1) := by decide +kernel
theorem dX7_press_132 : decode cX7_press 132 = .ok (.iastore, 1) := by decide +kernel
theorem dX7_press_133 : decode cX7_press 133 = .ok (.iinc 4 1, 3) := by decide +kernel
theorem dX7_press_136 : decode cX7_press 136 = .ok (.goto (-90), 3) := by decide +kernel
theorem dX7_press_139 : decode cX7_press 139 = .ok (.return_, 1) := by decide +kernel
theorem dX7_rowOfTexture_0 : decode cX7_rowOfTexture 0 = .ok (.iload_n 1, 1) := by decide +kernel
theorem dX7_rowOfTexture_1 : decode cX7_rowOfTexture 1 = .ok (.iconst 2, 1) := by decide +kernel
theorem dX7_rowOfTexture_2 : decode cX7_rowOfTexture 2 = .ok (.irem, 1) := by decide +kernel
theorem dX7_rowOfTexture_3 : decode cX7_rowOfTexture 3 = .ok (.ifCond .ne 7, 3) := by decide +kernel
theorem dX7_rowOfTexture_6 : decode cX7_rowOfTexture 6 = .ok (.iconst 1, 1) := by decide +kernel
theorem dX7_rowOfTexture_7 : decode cX7_rowOfTexture 7 = .ok (.goto 4, 3) := by decide +kernel
theorem dX7_rowOfTexture_10 : decode cX7_rowOfTexture 10 = .ok (.iconst 0, 1) := by decide +kernel
theorem dX7_rowOfTexture_11 : decode cX7_rowOfTexture 11 = .ok (.istore_n 2, 1) := by decide +kernel
theorem dX7_rowOfTexture_12 : decode cX7_rowOfTexture 12 = .ok (.iload_n 0, 1) := by decide +kernel
theorem dX7_rowOfTexture_13 : decode cX7_rowOfTexture 13 = .ok (.tableswitch 63 0 3 #[31, 33, 47, 51], 31) := by decide +kernel
theorem dX7_rowOfTexture_44 : decode cX7_rowOfTexture 44 = .ok (.iconst 0, 1) := by decide +kernel
theorem dX7_rowOfTexture_45 : decode cX7_rowOfTexture 45 = .ok (.ireturn, 1) := by decide +kernel
theorem dX7_rowOfTexture_46 : decode cX7_rowOfTexture 46 = .ok (.iload_n 2, 1) := by decide +kernel
theorem dX7_rowOfTexture_47 : decode cX7_rowOfTexture 47 = .ok (.ifCond .eq 9, 3) := by decide +kernel
theorem dX7_rowOfTexture_50 : decode cX7_rowOfTexture 50 = .ok (.ldc_w 272, 3) := by decide +kernel
theorem dX7_rowOfTexture_53 : decode cX7_rowOfTexture 53 = .ok (.goto 6, 3) := by decide +kernel
theorem dX7_rowOfTexture_56 : decode cX7_rowOfTexture 56 = .ok (.ldc_w 273, 3) := by decide +kernel
theorem dX7_rowOfTexture_59 : decode cX7_rowOfTexture 59 = .ok (.ireturn, 1) := by decide +kernel
theorem dX7_rowOfTexture_60 : decode cX7_rowOfTexture 60 = .ok (.ldc_w 272, 3) := by decide +kernel
theorem dX7_rowOfTexture_63 : decode cX7_rowOfTexture 63 = .ok (.ireturn, 1) := by decide +kernel
theorem dX7_rowOfTexture_64 : decode cX7_rowOfTexture 64 = .ok (.iload_n 2, 1) := by decide +kernel
theorem dX7_rowOfTexture_65 : decode cX7_rowOfTexture 65 = .ok (.ifCond .eq 9, 3) := by decide +kernel
theorem dX7_rowOfTexture_68 : decode cX7_rowOfTexture 68 = .ok (.ldc_w 265, 3) := by decide +kernel
theorem dX7_rowOfTexture_71 : decode cX7_rowOfTexture 71 = .ok (.goto 4, 3) := by decide +kernel
theorem dX7_rowOfTexture_74 : decode cX7_rowOfTexture 74 = .ok (.iconst 0, 1) := by decide +kernel
theorem dX7_rowOfTexture_75 : decode cX7_rowOfTexture 75 = .ok (.ireturn, 1) := by decide +kernel
theorem dX7_rowOfTexture_76 : decode cX7_rowOfTexture 76 = .ok (.ldc_w 265, 3) := by decide +kernel
theorem dX7_rowOfTexture_79 : decode cX7_rowOfTexture 79 = .ok (.ireturn, 1) := by decide +kernel
theorem dX7_heaviest_0 : decode cX7_heaviest 0 = .ok (.iload_n 0, 1) := by decide +kernel
theorem dX7_heaviest_1 : decode cX7_heaviest 1 = .ok (.iconst 1, 1) := by decide +kernel
theorem dX7_heaviest_2 : decode cX7_heaviest 2 = .ok (.isub, 1) := by decide +kernel
theorem dX7_heaviest_3 : decode cX7_heaviest 3 = .ok (.istore 4, 2) := by decide +kernel
theorem dX7_heaviest_5 : decode cX7_heaviest 5 = .ok (.iload 4, 2) := by decide +kernel
theorem dX7_heaviest_7 : decode cX7_heaviest 7 = .ok (.ifCond .lt 18, 3) := by decide +kernel
theorem dX7_heaviest_10 : decode cX7_heaviest 10 = .ok (.iload_n 1, 1) := by decide +kernel
theorem dX7_heaviest_11 : decode cX7_heaviest 11 = .ok (.iload 4, 2) := by decide +kernel
theorem dX7_heaviest_13 : decode cX7_heaviest 13 = .ok (.invokestatic 114, 3) := by decide +kernel
theorem dX7_heaviest_16 : decode cX7_heaviest 16 = .ok (.ifCond .ne 9, 3) := by decide +kernel
theorem dX7_heaviest_19 : decode cX7_heaviest 19 = .ok (.iinc 4 (-1), 3) := by decide +kernel
theorem dX7_heaviest_22 : decode cX7_heaviest 22 = .ok (.goto (-17), 3) := by decide +kernel
theorem dX7_heaviest_25 : decode cX7_heaviest 25 = .ok (.iload 4, 2) := by decide +kernel
theorem dX7_heaviest_27 : decode cX7_heaviest 27 = .ok (.ifCond .ge 5, 3) := by decide +kernel
theorem dX7_heaviest_30 : decode cX7_heaviest 30 = .ok (.iconst 0, 1) := by decide +kernel
theorem dX7_heaviest_31 : decode cX7_heaviest 31 = .ok (.ireturn, 1) := by decide +kernel
theorem dX7_heaviest_32 : decode cX7_heaviest 32 = .ok (.iload_n 1, 1) := by decide +kernel
theorem dX7_heaviest_33 : decode cX7_heaviest 33 = .ok (.iconst 1, 1) := by decide +kernel
theorem dX7_heaviest_34 : decode cX7_heaviest 34 = .ok (.iload 4, 2) := by decide +kernel
theorem dX7_heaviest_36 : decode cX7_heaviest 36 = .ok (.ishl, 1) := by decide +kernel
theorem dX7_heaviest_37 : decode cX7_heaviest 37 = .ok (.iconst 1, 1) := by decide +kernel
theorem dX7_heaviest_38 : decode cX7_heaviest 38 = .ok (.isub, 1) := by decide +kernel
theorem dX7_heaviest_39 : decode cX7_heaviest 39 = .ok (.iand, 1) := by decide +kernel
theorem dX7_heaviest_40 : decode cX7_heaviest 40 = .ok (.istore 5, 2) := by decide +kernel
theorem dX7_heaviest_42 : decode cX7_heaviest 42 = .ok (.aload_n 3, 1) := by decide +kernel
theorem dX7_heaviest_43 : decode cX7_heaviest 43 = .ok (.iload 4, 2) := by decide +kernel
theorem dX7_heaviest_45 : decode cX7_heaviest 45 = .ok (.iaload, 1) := by decide +kernel
theorem dX7_heaviest_46 : decode cX7_heaviest 46 = .ok (.iload 4, 2) := by decide +kernel
theorem dX7_heaviest_48 : decode cX7_heaviest 48 = .ok (.iload 5, 2) := by decide +kernel
theorem dX7_heaviest_50 : decode cX7_heaviest 50 = .ok (.aload_n 2, 1) := by decide +kernel
theorem dX7_heaviest_51 : decode cX7_heaviest 51 = .ok (.iload 4, 2) := by decide +kernel
theorem dX7_heaviest_53 : decode cX7_heaviest 53 = .ok (.iaload, 1) := by decide +kernel
theorem dX7_heaviest_54 : decode cX7_heaviest 54 = .ok (.iconst (-1), 1) := by decide +kernel
theorem dX7_heaviest_55 : decode cX7_heaviest 55 = .ok (.ixor, 1) := by decide +kernel
theorem dX7_heaviest_56 : decode cX7_heaviest 56 = .ok (.iand, 1) := by decide +kernel
theorem dX7_heaviest_57 : decode cX7_heaviest 57 = .ok (.aload_n 2, 1) := by decide +kernel
theorem dX7_heaviest_58 : decode cX7_heaviest 58 = .ok (.aload_n 3, 1) := by decide +kernel
theorem dX7_heaviest_59 : decode cX7_heaviest 59 = .ok (.invokestatic 274, 3) := by decide +kernel
theorem dX7_heaviest_62 : decode cX7_heaviest 62 = .ok (.iadd, 1) := by decide +kernel
theorem dX7_heaviest_63 : decode cX7_heaviest 63 = .ok (.istore 6, 2) := by decide +kernel
theorem dX7_heaviest_65 : decode cX7_heaviest 65 = .ok (.iload 5, 2) := by decide +kernel
theorem dX7_heaviest_67 : decode cX7_heaviest 67 = .ok (.aload_n 2, 1) := by decide +kernel
theorem dX7_heaviest_68 : decode cX7_heaviest 68 = .ok (.iload 4, 2) := by decide +kernel
theorem dX7_heaviest_70 : decode cX7_heaviest 70 = .ok (.iaload, 1) := by decide +kernel
theorem dX7_heaviest_71 : decode cX7_heaviest 71 = .ok (.iand, 1) := by decide +kernel
theorem dX7_heaviest_72 : decode cX7_heaviest 72 = .ok (.ifCond .ne 6, 3) := by decide +kernel
theorem dX7_heaviest_75 : decode cX7_heaviest 75 = .ok (.iload 6, 2) := by decide +kernel
theorem dX7_heaviest_77 : decode cX7_heaviest 77 = .ok (.ireturn, 1) := by decide +kernel
theorem dX7_heaviest_78 : decode cX7_heaviest 78 = .ok (.iload 6, 2) := by decide +kernel
theorem dX7_heaviest_80 : decode cX7_heaviest 80 = .ok (.iload 4, 2) := by decide +kernel
theorem dX7_heaviest_82 : decode cX7_heaviest 82 = .ok (.iload 5, 2) := by decide +kernel
theorem dX7_heaviest_84 : decode cX7_heaviest 84 = .ok (.aload_n 2, 1) := by decide +kernel
theorem dX7_heaviest_85 : decode cX7_heaviest 85 = .ok (.aload_n 3, 1) := by decide +kernel
theorem dX7_heaviest_86 : decode cX7_heaviest 86 = .ok (.invokestatic 274, 3) := by decide +kernel
theorem dX7_heaviest_89 : decode cX7_heaviest 89 = .ok (.invokestatic 278, 3) := by decide +kernel
theorem dX7_heaviest_92 : decode cX7_heaviest 92 = .ok (.ireturn, 1) := by decide +kernel
