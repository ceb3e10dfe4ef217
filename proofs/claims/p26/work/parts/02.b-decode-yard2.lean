theorem dX7_cut_7 : decode cX7_cut 7 = .ok (.iload_n 2, 1) := by decide +kernel
theorem dX7_cut_8 : decode cX7_cut 8 = .ok (.invokestatic 219, 3) := by decide +kernel
theorem dX7_cut_11 : decode cX7_cut 11 = .ok (.ifCond .eq 18, 3) := by decide +kernel
theorem dX7_cut_14 : decode cX7_cut 14 = .ok (.iload_n 3, 1) := by decide +kernel
theorem dX7_cut_15 : decode cX7_cut 15 = .ok (.bipush (-50), 2) := by decide +kernel
theorem dX7_cut_17 : decode cX7_cut 17 = .ok (.bipush 50, 2) := by decide +kernel
theorem dX7_cut_19 : decode cX7_cut 19 = .ok (.invokestatic 72, 3) := by decide +kernel
theorem dX7_cut_22 : decode cX7_cut 22 = .ok (.ifCond .eq 7, 3) := by decide +kernel
theorem dX7_cut_25 : decode cX7_cut 25 = .ok (.iconst 1, 1) := by decide +kernel
theorem dX7_cut_26 : decode cX7_cut 26 = .ok (.goto 4, 3) := by decide +kernel
theorem dX7_cut_29 : decode cX7_cut 29 = .ok (.iconst 0, 1) := by decide +kernel
theorem dX7_cut_30 : decode cX7_cut 30 = .ok (.invokestatic 76, 3) := by decide +kernel
theorem dX7_cut_33 : decode cX7_cut 33 = .ok (.aload 4, 2) := by decide +kernel
theorem dX7_cut_35 : decode cX7_cut 35 = .ok (.iload_n 2, 1) := by decide +kernel
theorem dX7_cut_36 : decode cX7_cut 36 = .ok (.invokevirtual 252, 3) := by decide +kernel
theorem dX7_cut_39 : decode cX7_cut 39 = .ok (.ifCond .ne 16, 3) := by decide +kernel
theorem dX7_cut_42 : decode cX7_cut 42 = .ok (.aload_n 0, 1) := by decide +kernel
theorem dX7_cut_43 : decode cX7_cut 43 = .ok (.aload 4, 2) := by decide +kernel
theorem dX7_cut_45 : decode cX7_cut 45 = .ok (.getfield 185, 3) := by decide +kernel
theorem dX7_cut_48 : decode cX7_cut 48 = .ok (.iload_n 2, 1) := by decide +kernel
theorem dX7_cut_49 : decode cX7_cut 49 = .ok (.invokevirtual 222, 3) := by decide +kernel
theorem dX7_cut_52 : decode cX7_cut 52 = .ok (.ifCond .ne 13, 3) := by decide +kernel
theorem dX7_cut_55 : decode cX7_cut 55 = .ok (.new 121, 3) := by decide +kernel
theorem dX7_cut_58 : decode cX7_cut 58 = .ok (.dup, 1) := by decide +kernel
theorem dX7_cut_59 : decode cX7_cut 59 = .ok (.ldc 255, 2) := by decide +kernel
theorem dX7_cut_61 : decode cX7_cut 61 = .ok (.invokespecial 125, 3) := by decide +kernel
theorem dX7_cut_64 : decode cX7_cut 64 = .ok (.athrow, 1) := by decide +kernel
theorem dX7_cut_65 : decode cX7_cut 65 = .ok (.aload 4, 2) := by decide +kernel
theorem dX7_cut_67 : decode cX7_cut 67 = .ok (.iload_n 2, 1) := by decide +kernel
theorem dX7_cut_68 : decode cX7_cut 68 = .ok (.iload_n 3, 1) := by decide +kernel
theorem dX7_cut_69 : decode cX7_cut 69 = .ok (.invokevirtual 257, 3) := by decide +kernel
theorem dX7_cut_72 : decode cX7_cut 72 = .ok (.aload_n 0, 1) := by decide +kernel
theorem dX7_cut_73 : decode cX7_cut 73 = .ok (.getfield 46, 3) := by decide +kernel
theorem dX7_cut_76 : decode cX7_cut 76 = .ok (.getfield 212, 3) := by decide +kernel
theorem dX7_cut_79 : decode cX7_cut 79 = .ok (.aload_n 0, 1) := by decide +kernel
theorem dX7_cut_80 : decode cX7_cut 80 = .ok (.getfield 49, 3) := by decide +kernel
theorem dX7_cut_83 : decode cX7_cut 83 = .ok (.getfield 212, 3) := by decide +kernel
theorem dX7_cut_86 : decode cX7_cut 86 = .ok (.isub, 1) := by decide +kernel
theorem dX7_cut_87 : decode cX7_cut 87 = .ok (.invokestatic 215, 3) := by decide +kernel
theorem dX7_cut_90 : decode cX7_cut 90 = .ok (.aload_n 0, 1) := by decide +kernel
theorem dX7_cut_91 : decode cX7_cut 91 = .ok (.getfield 46, 3) := by decide +kernel
theorem dX7_cut_94 : decode cX7_cut 94 = .ok (.getfield 209, 3) := by decide +kernel
theorem dX7_cut_97 : decode cX7_cut 97 = .ok (.aload_n 0, 1) := by decide +kernel
theorem dX7_cut_98 : decode cX7_cut 98 = .ok (.getfield 49, 3) := by decide +kernel
theorem dX7_cut_101 : decode cX7_cut 101 = .ok (.getfield 209, 3) := by decide +kernel
theorem dX7_cut_104 : decode cX7_cut 104 = .ok (.isub, 1) := by decide +kernel
theorem dX7_cut_105 : decode cX7_cut 105 = .ok (.invokestatic 215, 3) := by decide +kernel
theorem dX7_cut_108 : decode cX7_cut 108 = .ok (.iadd, 1) := by decide +kernel
theorem dX7_cut_109 : decode cX7_cut 109 = .ok (.istore 5, 2) := by decide +kernel
theorem dX7_cut_111 : decode cX7_cut 111 = .ok (.iconst 3, 1) := by decide +kernel
theorem dX7_cut_112 : decode cX7_cut 112 = .ok (.iload 5, 2) := by decide +kernel
theorem dX7_cut_114 : decode cX7_cut 114 = .ok (.imul, 1) := by decide +kernel
theorem dX7_cut_115 : decode cX7_cut 115 = .ok (.bipush 50, 2) := by decide +kernel
theorem dX7_cut_117 : decode cX7_cut 117 = .ok (.iadd, 1) := by decide +kernel
theorem dX7_cut_118 : decode cX7_cut 118 = .ok (.istore 6, 2) := by decide +kernel
theorem dX7_cut_120 : decode cX7_cut 120 = .ok (.aload_n 0, 1) := by decide +kernel
theorem dX7_cut_121 : decode cX7_cut 121 = .ok (.dup, 1) := by decide +kernel
theorem dX7_cut_122 : decode cX7_cut 122 = .ok (.getfield 260, 3) := by decide +kernel
theorem dX7_cut_125 : decode cX7_cut 125 = .ok (.iload 6, 2) := by decide +kernel
theorem dX7_cut_127 : decode cX7_cut 127 = .ok (.i2l, 1) := by decide +kernel
theorem dX7_cut_128 : decode cX7_cut 128 = .ok (.ladd, 1) := by decide +kernel
theorem dX7_cut_129 : decode cX7_cut 129 = .ok (.putfield 260, 3) := by decide +kernel
theorem dX7_cut_132 : decode cX7_cut 132 = .ok (.iload 6, 2) := by decide +kernel
theorem dX7_cut_134 : decode cX7_cut 134 = .ok (.ireturn, 1) := by decide +kernel
theorem dX7_lies_0 : decode cX7_lies 0 = .ok (.aload_n 0, 1) := by decide +kernel
theorem dX7_lies_1 : decode cX7_lies 1 = .ok (.iload_n 1, 1) := by decide +kernel
theorem dX7_lies_2 : decode cX7_lies 2 = .ok (.invokevirtual 195, 3) := by decide +kernel
theorem dX7_lies_5 : decode cX7_lies 5 = .ok (.getfield 263, 3) := by decide +kernel
theorem dX7_lies_8 : decode cX7_lies 8 = .ok (.ireturn, 1) := by decide +kernel
theorem dX7_cost_0 : decode cX7_cost 0 = .ok (.aload_n 0, 1) := by decide +kernel
theorem dX7_cost_1 : decode cX7_cost 1 = .ok (.getfield 260, 3) := by decide +kernel
theorem dX7_cost_4 : decode cX7_cost 4 = .ok (.lreturn, 1) := by decide +kernel
theorem dX7_find_0 : decode cX7_find 0 = .ok (.iload_n 1, 1) := by decide +kernel
theorem dX7_find_1 : decode cX7_find 1 = .ok (.invokestatic 84, 3) := by decide +kernel
theorem dX7_find_4 : decode cX7_find 4 = .ok (.ifCond .eq 31, 3) := by decide +kernel
theorem dX7_find_7 : decode cX7_find 7 = .ok (.iload_n 2, 1) := by decide +kernel
theorem dX7_find_8 : decode cX7_find 8 = .ok (.invokestatic 97, 3) := by decide +kernel
theorem dX7_find_11 : decode cX7_find 11 = .ok (.ifCond .eq 24, 3) := by decide +kernel
theorem dX7_find_14 : decode cX7_find 14 = .ok (.iload_n 3, 1) := by decide +kernel
theorem dX7_find_15 : decode cX7_find 15 = .ok (.i2l, 1) := by decide +kernel
theorem dX7_find_16 : decode cX7_find 16 = .ok (.invokestatic 228, 3) := by decide +kernel
theorem dX7_find_19 : decode cX7_find 19 = .ok (.ifCond .eq 16, 3) := by decide +kernel
theorem dX7_find_22 : decode cX7_find 22 = .ok (.iload 4, 2) := by decide +kernel
theorem dX7_find_24 : decode cX7_find 24 = .ok (.i2l, 1) := by decide +kernel
theorem dX7_find_25 : decode cX7_find 25 = .ok (.invokestatic 228, 3) := by decide +kernel
theorem dX7_find_28 : decode cX7_find 28 = .ok (.ifCond .eq 7, 3) := by decide +kernel
theorem dX7_find_31 : decode cX7_find 31 = .ok (.iconst 1, 1) := by decide +kernel
theorem dX7_find_32 : decode cX7_find 32 = .ok (.goto 4, 3) := by decide +kernel
theorem dX7_find_35 : decode cX7_find 35 = .ok (.iconst 0, 1) := by decide +kernel
theorem dX7_find_36 : decode cX7_find 36 = .ok (.invokestatic 76, 3) := by decide +kernel
theorem dX7_find_39 : decode cX7_find 39 = .ok (.aload_n 0, 1) := by decide +kernel
theorem dX7_find_40 : decode cX7_find 40 = .ok (.getfield 24, 3) := by decide +kernel
theorem dX7_find_43 : decode cX7_find 43 = .ok (.getfield 266, 3) := by decide +kernel
theorem dX7_find_46 : decode cX7_find 46 = .ok (.bipush 6, 2) := by decide +kernel
theorem dX7_find_48 : decode cX7_find 48 = .ok (.if_icmp .lt 14, 3) := by decide +kernel
theorem dX7_find_51 : decode cX7_find 51 = .ok (.new 121, 3) := by decide +kernel
theorem dX7_find_54 : decode cX7_find 54 = .ok (.dup, 1) := by decide +kernel
theorem dX7_find_55 : decode cX7_find 55 = .ok (.ldc_w 269, 3) := by decide +kernel
theorem dX7_find_58 : decode cX7_find 58 = .ok (.invokespecial 125, 3) := by decide +kernel
theorem dX7_find_61 : decode cX7_find 61 = .ok (.athrow, 1) := by decide +kernel
theorem dX7_find_62 : decode cX7_find 62 = .ok (.aload_n 0, 1) := by decide +kernel
theorem dX7_find_63 : decode cX7_find 63 = .ok (.getfield 24, 3) := by decide +kernel
theorem dX7_find_66 : decode cX7_find 66 = .ok (.iload_n 1, 1) := by decide +kernel
theorem dX7_find_67 : decode cX7_find 67 = .ok (.iload_n 2, 1) := by decide +kernel
theorem dX7_find_68 : decode cX7_find 68 = .ok (.iload_n 3, 1) := by decide +kernel
theorem dX7_find_69 : decode cX7_find 69 = .ok (.iload 4, 2) := by decide +kernel
theorem dX7_find_71 : decode cX7_find 71 = .ok (.invokevirtual 271, 3) := by decide +kernel
theorem dX7_find_74 : decode cX7_find 74 = .ok (.aload_n 0, 1) := by decide +kernel
theorem dX7_find_75 : decode cX7_find 75 = .ok (.getfield 24, 3) := by decide +kernel
theorem dX7_find_78 : decode cX7_find 78 = .ok (.getfield 266, 3) := by decide +kernel
theorem dX7_find_81 : decode cX7_find 81 = .ok (.ireturn, 1) := by decide +kernel
theorem dX7_forget_0 : decode cX7_forget 0 = .ok (.aload_n 0, 1) := by decide +kernel
theorem dX7_forget_1 : decode cX7_forget 1 = .ok (.getfield 24, 3) := by decide +kernel
theorem dX7_forget_4 : decode cX7_forget 4 = .ok (.getfield 266, 3) := by decide +kernel
theorem dX7_forget_7 : decode cX7_forget 7 = .ok (.istore_n 1, 1) := by decide +kernel
theorem dX7_forget_8 : decode cX7_forget 8 = .ok (.aload_n 0, 1) := by decide +kernel
theorem dX7_forget_9 : decode cX7_forget 9 = .ok (.getfield 24, 3) := by decide +kernel
theorem dX7_forget_12 : decode cX7_forget 12 = .ok (.iconst 0, 1) := by decide +kernel
theorem dX7_forget_13 : decode cX7_forget 13 = .ok (.putfield 266, 3) := by decide +kernel
theorem dX7_forget_16 : decode cX7_forget 16 = .ok (.iload_n 1, 1) := by decide +kernel
theorem dX7_forget_17 : decode cX7_forget 17 = .ok (.ireturn, 1) := by decide +kernel
theorem dX7_fits_0 : decode cX7_fits 0 = .ok (.iload_n 1, 1) := by decide +kernel
theorem dX7_fits_1 : decode cX7_fits 1 = .ok (.invokestatic 169, 3) := by decide +kernel
theorem dX7_fits_4 : decode cX7_fits 4 = .ok (.ifCond .eq 31, 3) := by decide +kernel
theorem dX7_fits_7 : decode cX7_fits 7 = .ok (.iload_n 2, 1) := by decide +kernel
theorem dX7_fits_8 : decode cX7_fits 8 = .ok (.invokestatic 172, 3) := by decide +kernel
theorem dX7_fits_11 : decode cX7_fits 11 = .ok (.ifCond .eq 24, 3) := by decide +kernel
theorem dX7_fits_14 : decode cX7_fits 14 = .ok (.iload_n 3, 1) := by decide +kernel
theorem dX7_fits_15 : decode cX7_fits 15 = .ok (.invokestatic 175, 3) := by decide +kernel
theorem dX7_fits_18 : decode cX7_fits 18 = .ok (.ifCond .eq 17, 3) := by decide +kernel
theorem dX7_fits_21 : decode cX7_fits 21 = .ok (.iload 4, 2) := by decide +kernel
theorem dX7_fits_23 : decode cX7_fits 23 = .ok (.iconst 0, 1) := by decide +kernel
theorem dX7_fits_24 : decode cX7_fits 24 = .ok (.iconst 2, 1) := by decide +kernel
theorem dX7_fits_25 : decode cX7_fits 25 = .ok (.invokestatic 72, 3) := by decide +kernel
theorem dX7_fits_28 : decode cX7_fits 28 = .ok (.ifCond .eq 7, 3) := by decide +kernel
theorem dX7_fits_31 : decode cX7_fits 31 = .ok (.iconst 1, 1) := by decide +kernel
theorem dX7_fits_32 : decode cX7_fits 32 = .ok (.goto 4, 3) := by decide +kernel
theorem dX7_fits_35 : decode cX7_fits 35 = .ok (.iconst 0, 1) := by decide +kernel
theorem dX7_fits_36 : decode cX7_fits 36 = .ok (.invokestatic 76, 3) := by decide +kernel
theorem dX7_fits_39 : decode cX7_fits 39 = .ok (.iconst 0, 1) := by decide +kernel
theorem dX7_fits_40 : decode cX7_fits 40 = .ok (.istore 5, 2) := by decide +kernel
theorem dX7_fits_42 : decode cX7_fits 42 = .ok (.iconst 0, 1) := by decide +kernel
theorem dX7_fits_43 : decode cX7_fits 43 = .ok (.istore 6, 2) := by decide +kernel
theorem dX7_fits_45 : decode cX7_fits 45 = .ok (.iconst 0, 1) := by decide +kernel
theorem dX7_fits_46 : decode cX7_fits 46 = .ok (.istore 7, 2) := by decide +kernel
theorem dX7_fits_48 : decode cX7_fits 48 = .ok (.bipush (-66), 2) := by decide +kernel
theorem dX7_fits_50 : decode cX7_fits 50 = .ok (.istore 8, 2) := by decide +kernel
theorem dX7_fits_52 : decode cX7_fits 52 = .ok (.iload 8, 2) := by decide +kernel
theorem dX7_fits_54 : decode cX7_fits 54 = .ok (.bipush 66, 2) := by decide +kernel
theorem dX7_fits_56 : decode cX7_fits 56 = .ok (.if_icmp .gt 64, 3) := by decide +kernel
theorem dX7_fits_59 : decode cX7_fits 59 = .ok (.aload_n 0, 1) := by decide +kernel
theorem dX7_fits_60 : decode cX7_fits 60 = .ok (.getfield 55, 3) := by decide +kernel
theorem dX7_fits_63 : decode cX7_fits 63 = .ok (.iload 8, 2) := by decide +kernel
theorem dX7_fits_65 : decode cX7_fits 65 = .ok (.iload_n 1, 1) := by decide +kernel
theorem dX7_fits_66 : decode cX7_fits 66 = .ok (.iload_n 2, 1) := by decide +kernel
theorem dX7_fits_67 : decode cX7_fits 67 = .ok (.iload_n 3, 1) := by decide +kernel
theorem dX7_fits_68 : decode cX7_fits 68 = .ok (.invokevirtual 188, 3) := by decide +kernel
theorem dX7_fits_71 : decode cX7_fits 71 = .ok (.aload_n 0, 1) := by decide +kernel
theorem dX7_fits_72 : decode cX7_fits 72 = .ok (.getfield 24, 3) := by decide +kernel
theorem dX7_fits_75 : decode cX7_fits 75 = .ok (.aload_n 0, 1) := by decide +kernel
theorem dX7_fits_76 : decode cX7_fits 76 = .ok (.getfield 55, 3) := by decide +kernel
theorem dX7_fits_79 : decode cX7_fits 79 = .ok (.aload_n 0, 1) := by decide +kernel
theorem dX7_fits_80 : decode cX7_fits 80 = .ok (.getfield 35, 3) := by decide +kernel
theorem dX7_fits_83 : decode cX7_fits 83 = .ok (.aload_n 0, 1) := by decide +kernel
theorem dX7_fits_84 : decode cX7_fits 84 = .ok (.getfield 42, 3) := by decide +kernel
theorem dX7_fits_87 : decode cX7_fits 87 = .ok (.invokevirtual 274, 3) := by decide +kernel
theorem dX7_fits_90 : decode cX7_fits 90 = .ok (.ifCond .eq 24, 3) := by decide +kernel
theorem dX7_fits_93 : decode cX7_fits 93 = .ok (.iload 5, 2) := by decide +kernel
theorem dX7_fits_95 : decode cX7_fits 95 = .ok (.ifCond .ne 8, 3) := by decide +kernel
theorem dX7_fits_98 : decode cX7_fits 98 = .ok (.iload 8, 2) := by decide +kernel
theorem dX7_fits_100 : decode cX7_fits 100 = .ok (.goto 5, 3) := by decide +kernel
theorem dX7_fits_103 : decode cX7_fits 103 = .ok (.iload 6, 2) := by decide +kernel
theorem dX7_fits_105 : decode cX7_fits 105 = .ok (.istore 6, 2) := by decide +kernel
theorem dX7_fits_107 : decode cX7_fits 107 = .ok (.iload 8, 2) := by decide +kernel
theorem dX7_fits_109 : decode cX7_fits 109 = .ok (.istore 7, 2) := by decide +kernel
theorem dX7_fits_111 : decode cX7_fits 111 = .ok (.iinc 5 1, 3) := by decide +kernel
theorem dX7_fits_114 : decode cX7_fits 114 = .ok (.iinc 8 1, 3) := by decide +kernel
theorem dX7_fits_117 : decode cX7_fits 117 = .ok (.goto (-65), 3) := by decide +kernel
theorem dX7_fits_120 : decode cX7_fits 120 = .ok (.iload 4, 2) := by decide +kernel
theorem dX7_fits_122 : decode cX7_fits 122 = .ok (.ifCond .ne 6, 3) := by decide +kernel
theorem dX7_fits_125 : decode cX7_fits 125 = .ok (.iload 5, 2) := by decide +kernel
theorem dX7_fits_127 : decode cX7_fits 127 = .ok (.ireturn, 1) := by decide +kernel
theorem dX7_fits_128 : decode cX7_fits 128 = .ok (.iload 5, 2) := by decide +kernel
theorem dX7_fits_130 : decode cX7_fits 130 = .ok (.ifCond .ne 14, 3) := by decide +kernel
theorem dX7_fits_133 : decode cX7_fits 133 = .ok (.new 121, 3) := by decide +kernel
theorem dX7_fits_136 : decode cX7_fits 136 = .ok (.dup, 1) := by decide +kernel
theorem dX7_fits_137 : decode cX7_fits 137 = .ok (.ldc_w 278, 3) := by decide +kernel
theorem dX7_fits_140 : decode cX7_fits 140 = .ok (.invokespecial 125, 3) := by decide +kernel
theorem dX7_fits_143 : decode cX7_fits 143 = .ok (.athrow, 1) := by decide +kernel
theorem dX7_fits_144 : decode cX7_fits 144 = .ok (.iload 4, 2) := by decide +kernel
theorem dX7_fits_146 : decode cX7_fits 146 = .ok (.iconst 1, 1) := by decide +kernel
theorem dX7_fits_147 : decode cX7_fits 147 = .ok (.if_icmp .ne 8, 3) := by decide +kernel
theorem dX7_fits_150 : decode cX7_fits 150 = .ok (.iload 6, 2) := by decide +kernel
theorem dX7_fits_152 : decode cX7_fits 152 = .ok (.goto 5, 3) := by decide +kernel
theorem dX7_fits_155 : decode cX7_fits 155 = .ok (.iload 7, 2) := by decide +kernel
theorem dX7_fits_157 : decode cX7_fits 157 = .ok (.ireturn, 1) := by decide +kernel
theorem dX7_isWithin_0 : decode cX7_isWithin 0 = .ok (.iload_n 0, 1) := by decide +kernel
theorem dX7_isWithin_1 : decode cX7_isWithin 1 = .ok (.iload_n 1, 1) := by decide +kernel
theorem dX7_isWithin_2 : decode cX7_isWithin 2 = .ok (.if_icmp .lt 12, 3) := by decide +kernel
theorem dX7_isWithin_5 : decode cX7_isWithin 5 = .ok (.iload_n 0, 1) := by decide +kernel
theorem dX7_isWithin_6 : decode cX7_isWithin 6 = .ok (.iload_n 2, 1) := by decide +kernel
theorem dX7_isWithin_7 : decode cX7_isWithin 7 = .ok (.if_icmp .gt 7, 3) := by decide +kernel
theorem dX7_isWithin_10 : decode cX7_isWithin 10 = .ok (.iconst 1, 1) := by decide +kernel
theorem dX7_isWithin_11 : decode cX7_isWithin 11 = .ok (.goto 4, 3) := by decide +kernel
theorem dX7_isWithin_14 : decode cX7_isWithin 14 = .ok (.iconst 0, 1) := by decide +kernel
theorem dX7_isWithin_15 : decode cX7_isWithin 15 = .ok (.ireturn, 1) := by decide +kernel
theorem dX7_isDay_0 : decode cX7_isDay 0 = .ok (.iload_n 0, 1) := by decide +kernel
theorem dX7_isDay_1 : decode cX7_isDay 1 = .ok (.iconst 0, 1) := by decide +kernel
theorem dX7_isDay_2 : decode cX7_isDay 2 = .ok (.sipush 359, 3) := by decide +kernel
theorem dX7_isDay_5 : decode cX7_isDay 5 = .ok (.invokestatic 72, 3) := by decide +kernel
theorem dX7_isDay_8 : decode cX7_isDay 8 = .ok (.ireturn, 1) := by decide +kernel
theorem dX7_isTick_0 : decode cX7_isTick 0 = .ok (.iload_n 0, 1) := by decide +kernel
theorem dX7_isTick_1 : decode cX7_isTick 1 = .ok (.iconst 0, 1) := by decide +kernel
theorem dX7_isTick_2 : decode cX7_isTick 2 = .ok (.sipush 359, 3) := by decide +kernel
theorem dX7_isTick_5 : decode cX7_isTick 5 = .ok (.invokestatic 72, 3) := by decide +kernel
theorem dX7_isTick_8 : decode cX7_isTick 8 = .ok (.ireturn, 1) := by decide +kernel
theorem dX7_isHour_0 : decode cX7_isHour 0 = .ok (.iload_n 0, 1) := by decide +kernel
theorem dX7_isHour_1 : decode cX7_isHour 1 = .ok (.iconst 1, 1) := by decide +kernel
theorem dX7_isHour_2 : decode cX7_isHour 2 = .ok (.bipush 23, 2) := by decide +kernel
theorem dX7_isHour_4 : decode cX7_isHour 4 = .ok (.invokestatic 72, 3) := by decide +kernel
theorem dX7_isHour_7 : decode cX7_isHour 7 = .ok (.ireturn, 1) := by decide +kernel
theorem dX7_isLatitude_0 : decode cX7_isLatitude 0 = .ok (.iload_n 0, 1) := by decide +kernel
theorem dX7_isLatitude_1 : decode cX7_isLatitude 1 = .ok (.bipush (-66), 2) := by decide +kernel
theorem dX7_isLatitude_3 : decode cX7_isLatitude 3 = .ok (.bipush 66, 2) := by decide +kernel
theorem dX7_isLatitude_5 : decode cX7_isLatitude 5 = .ok (.invokestatic 72, 3) := by decide +kernel
theorem dX7_isLatitude_8 : decode cX7_isLatitude 8 = .ok (.ireturn, 1) := by decide +kernel
theorem dX7_isTilt_0 : decode cX7_isTilt 0 = .ok (.iload_n 0, 1) := by decide +kernel
theorem dX7_isTilt_1 : decode cX7_isTilt 1 = .ok (.iconst 0, 1) := by decide +kernel
theorem dX7_isTilt_2 : decode cX7_isTilt 2 = .ok (.bipush 90, 2) := by decide +kernel
theorem dX7_isTilt_4 : decode cX7_isTilt 4 = .ok (.invokestatic 72, 3) := by decide +kernel
theorem dX7_isTilt_7 : decode cX7_isTilt 7 = .ok (.ireturn, 1) := by decide +kernel
theorem dX7_isFacing_0 : decode cX7_isFacing 0 = .ok (.iload_n 0, 1) := by decide +kernel
theorem dX7_isFacing_1 : decode cX7_isFacing 1 = .ok (.sipush (-180), 3) := by decide +kernel
theorem dX7_isFacing_4 : decode cX7_isFacing 4 = .ok (.sipush 180, 3) := by decide +kernel
theorem dX7_isFacing_7 : decode cX7_isFacing 7 = .ok (.invokestatic 72, 3) := by decide +kernel
theorem dX7_isFacing_10 : decode cX7_isFacing 10 = .ok (.ireturn, 1) := by decide +kernel
theorem dX7_isRod_0 : decode cX7_isRod 0 = .ok (.iload_n 0, 1) := by decide +kernel
theorem dX7_isRod_1 : decode cX7_isRod 1 = .ok (.iconst 1, 1) := by decide +kernel
theorem dX7_isRod_2 : decode cX7_isRod 2 = .ok (.sipush 500, 3) := by decide +kernel
theorem dX7_isRod_5 : decode cX7_isRod 5 = .ok (.invokestatic 72, 3) := by decide +kernel
theorem dX7_isRod_8 : decode cX7_isRod 8 = .ok (.ireturn, 1) := by decide +kernel
theorem dX7_isOnPlate_0 : decode cX7_isOnPlate 0 = .ok (.lload_n 0, 1) := by decide +kernel
theorem dX7_isOnPlate_1 : decode cX7_isOnPlate 1 = .ok (.ldc2_w 280, 3) := by decide +kernel
theorem dX7_isOnPlate_4 : decode cX7_isOnPlate 4 = .ok (.lcmp, 1) := by decide +kernel
theorem dX7_isOnPlate_5 : decode cX7_isOnPlate 5 = .ok (.ifCond .lt 15, 3) := by decide +kernel
theorem dX7_isOnPlate_8 : decode cX7_isOnPlate 8 = .ok (.lload_n 0, 1) := by decide +kernel
theorem dX7_isOnPlate_9 : decode cX7_isOnPlate 9 = .ok (.ldc2_w 282, 3) := by decide +kernel
theorem dX7_isOnPlate_12 : decode cX7_isOnPlate 12 = .ok (.lcmp, 1) := by decide +kernel
theorem dX7_isOnPlate_13 : decode cX7_isOnPlate 13 = .ok (.ifCond .gt 7, 3) := by decide +kernel
theorem dX7_isOnPlate_16 : decode cX7_isOnPlate 16 = .ok (.iconst 1, 1) := by decide +kernel
theorem dX7_isOnPlate_17 : decode cX7_isOnPlate 17 = .ok (.goto 4, 3) := by decide +kernel
theorem dX7_isOnPlate_20 : decode cX7_isOnPlate 20 = .ok (.iconst 0, 1) := by decide +kernel
theorem dX7_isOnPlate_21 : decode cX7_isOnPlate 21 = .ok (.ireturn, 1) := by decide +kernel
theorem dX7_refuseUnless_0 : decode cX7_refuseUnless 0 = .ok (.iload_n 0, 1) := by decide +kernel
theorem dX7_refuseUnless_1 : decode cX7_refuseUnless 1 = .ok (.ifCond .ne 14, 3) := by decide +kernel
theorem dX7_refuseUnless_4 : decode cX7_refuseUnless 4 = .ok (.new 284, 3) := by decide +kernel
theorem dX7_refuseUnless_7 : decode cX7_refuseUnless 7 = .ok (.dup, 1) := by decide +kernel
theorem dX7_refuseUnless_8 : decode cX7_refuseUnless 8 = .ok (.ldc_w 286, 3) := by decide +kernel
theorem dX7_refuseUnless_11 : decode cX7_refuseUnless 11 = .ok (.invokespecial 288, 3) := by decide +kernel
theorem dX7_refuseUnless_14 : decode cX7_refuseUnless 14 = .ok (.athrow, 1) := by decide +kernel
theorem dX7_refuseUnless_15 : decode cX7_refuseUnless 15 = .ok (.return_, 1) := by decide +kernel
theorem dX7_placeAt_0 : decode cX7_placeAt 0 = .ok (.iload_n 1, 1) := by decide +kernel
theorem dX7_placeAt_1 : decode cX7_placeAt 1 = .ok (.ifCond .lt 29, 3) := by decide +kernel
theorem dX7_placeAt_4 : decode cX7_placeAt 4 = .ok (.iload_n 1, 1) := by decide +kernel
theorem dX7_placeAt_5 : decode cX7_placeAt 5 = .ok (.aload_n 0, 1) := by decide +kernel
theorem dX7_placeAt_6 : decode cX7_placeAt 6 = .ok (.getfield 118, 3) := by decide +kernel
theorem dX7_placeAt_9 : decode cX7_placeAt 9 = .ok (.if_icmp .ge 21, 3) := by decide +kernel
theorem dX7_placeAt_12 : decode cX7_placeAt 12 = .ok (.iload_n 1, 1) := by decide +kernel
theorem dX7_placeAt_13 : decode cX7_placeAt 13 = .ok (.aload_n 0, 1) := by decide +kernel
theorem dX7_placeAt_14 : decode cX7_placeAt 14 = .ok (.getfield 11, 3) := by decide +kernel
theorem dX7_placeAt_17 : decode cX7_placeAt 17 = .ok (.arraylength, 1) := by decide +kernel
theorem dX7_placeAt_18 : decode cX7_placeAt 18 = .ok (.if_icmp .ge 12, 3) := by decide +kernel
theorem dX7_placeAt_21 : decode cX7_placeAt 21 = .ok (.aload_n 0, 1) := by decide +kernel
theorem dX7_placeAt_22 : decode cX7_placeAt 22 = .ok (.getfield 11, 3) := by decide +kernel
theorem dX7_placeAt_25 : decode cX7_placeAt 25 = .ok (.iload_n 1, 1) := by decide +kernel
theorem dX7_placeAt_26 : decode cX7_placeAt 26 = .ok (.aaload, 1) := by decide +kernel
theorem dX7_placeAt_27 : decode cX7_placeAt 27 = .ok (.goto 4, 3) := by decide +kernel
theorem dX7_placeAt_30 : decode cX7_placeAt 30 = .ok (.aconst_null, 1) := by decide +kernel
theorem dX7_placeAt_31 : decode cX7_placeAt 31 = .ok (.astore_n 2, 1) := by decide +kernel
theorem dX7_placeAt_32 : decode cX7_placeAt 32 = .ok (.aload_n 2, 1) := by decide +kernel
theorem dX7_placeAt_33 : decode cX7_placeAt 33 = .ok (.ifnonnull 14, 3) := by decide +kernel
theorem dX7_placeAt_36 : decode cX7_placeAt 36 = .ok (.new 289, 3) := by decide +kernel
theorem dX7_placeAt_39 : decode cX7_placeAt 39 = .ok (.dup, 1) := by decide +kernel
theorem dX7_placeAt_40 : decode cX7_placeAt 40 = .ok (.ldc_w 291, 3) := by decide +kernel
theorem dX7_placeAt_43 : decode cX7_placeAt 43 = .ok (.invokespecial 293, 3) := by decide +kernel
theorem dX7_placeAt_46 : decode cX7_placeAt 46 = .ok (.athrow, 1) := by decide +kernel
theorem dX7_placeAt_47 : decode cX7_placeAt 47 = .ok (.aload_n 2, 1) := by decide +kernel
theorem dX7_placeAt_48 : decode cX7_placeAt 48 = .ok (.areturn, 1) := by decide +kernel
theorem dX7_dialAt_0 : decode cX7_dialAt 0 = .ok (.iload_n 1, 1) := by decide +kernel
theorem dX7_dialAt_1 : decode cX7_dialAt 1 = .ok (.ifCond .lt 29, 3) := by decide +kernel
theorem dX7_dialAt_4 : decode cX7_dialAt 4 = .ok (.iload_n 1, 1) := by decide +kernel
theorem dX7_dialAt_5 : decode cX7_dialAt 5 = .ok (.aload_n 0, 1) := by decide +kernel
theorem dX7_dialAt_6 : decode cX7_dialAt 6 = .ok (.getfield 178, 3) := by decide +kernel
theorem dX7_dialAt_9 : decode cX7_dialAt 9 = .ok (.if_icmp .ge 21, 3) := by decide +kernel
theorem dX7_dialAt_12 : decode cX7_dialAt 12 = .ok (.iload_n 1, 1) := by decide +kernel
theorem dX7_dialAt_13 : decode cX7_dialAt 13 = .ok (.aload_n 0, 1) := by decide +kernel
theorem dX7_dialAt_14 : decode cX7_dialAt 14 = .ok (.getfield 17, 3) := by decide +kernel
theorem dX7_dialAt_17 : decode cX7_dialAt 17 = .ok (.arraylength, 1) := by decide +kernel
theorem dX7_dialAt_18 : decode cX7_dialAt 18 = .ok (.if_icmp .ge 12, 3) := by decide +kernel
theorem dX7_dialAt_21 : decode cX7_dialAt 21 = .ok (.aload_n 0, 1) := by decide +kernel
theorem dX7_dialAt_22 : decode cX7_dialAt 22 = .ok (.getfield 17, 3) := by decide +kernel
theorem dX7_dialAt_25 : decode cX7_dialAt 25 = .ok (.iload_n 1, 1) := by decide +kernel
theorem dX7_dialAt_26 : decode cX7_dialAt 26 = .ok (.aaload, 1) := by decide +kernel
theorem dX7_dialAt_27 : decode cX7_dialAt 27 = .ok (.goto 4, 3) := by decide +kernel
theorem dX7_dialAt_30 : decode cX7_dialAt 30 = .ok (.aconst_null, 1) := by decide +kernel
theorem dX7_dialAt_31 : decode cX7_dialAt 31 = .ok (.astore_n 2, 1) := by decide +kernel
theorem dX7_dialAt_32 : decode cX7_dialAt 32 = .ok (.aload_n 2, 1) := by decide +kernel
theorem dX7_dialAt_33 : decode cX7_dialAt 33 = .ok (.ifnonnull 14, 3) := by decide +kernel
theorem dX7_dialAt_36 : decode cX7_dialAt 36 = .ok (.new 289, 3) := by decide +kernel
theorem dX7_dialAt_39 : decode cX7_dialAt 39 = .ok (.dup, 1) := by decide +kernel
theorem dX7_dialAt_40 : decode cX7_dialAt 40 = .ok (.ldc_w 294, 3) := by decide +kernel
theorem dX7_dialAt_43 : decode cX7_dialAt 43 = .ok (.invokespecial 293, 3) := by decide +kernel
theorem dX7_dialAt_46 : decode cX7_dialAt 46 = .ok (.athrow, 1) := by decide +kernel
theorem dX7_dialAt_47 : decode cX7_dialAt 47 = .ok (.aload_n 2, 1) := by decide +kernel
theorem dX7_dialAt_48 : decode cX7_dialAt 48 = .ok (.areturn, 1) := by decide +kernel
theorem dX7_arcOf_0 : decode cX7_arcOf 0 = .ok (.iload_n 0, 1) := by decide +kernel
theorem dX7_arcOf_1 : decode cX7_arcOf 1 = .ok (.sipush 180, 3) := by decide +kernel
theorem dX7_arcOf_4 : decode cX7_arcOf 4 = .ok (.iload_n 0, 1) := by decide +kernel
theorem dX7_arcOf_5 : decode cX7_arcOf 5 = .ok (.isub, 1) := by decide +kernel
theorem dX7_arcOf_6 : decode cX7_arcOf 6 = .ok (.imul, 1) := by decide +kernel
theorem dX7_arcOf_7 : decode cX7_arcOf 7 = .ok (.istore_n 1, 1) := by decide +kernel
theorem dX7_arcOf_8 : decode cX7_arcOf 8 = .ok (.ldc_w 296, 3) := by decide +kernel
theorem dX7_arcOf_11 : decode cX7_arcOf 11 = .ok (.iload_n 1, 1) := by decide +kernel
theorem dX7_arcOf_12 : decode cX7_arcOf 12 = .ok (.isub, 1) := by decide +kernel
theorem dX7_arcOf_13 : decode cX7_arcOf 13 = .ok (.istore_n 2, 1) := by decide +kernel
theorem dX7_arcOf_14 : decode cX7_arcOf 14 = .ok (.iload_n 2, 1) := by decide +kernel
theorem dX7_arcOf_15 : decode cX7_arcOf 15 = .ok (.ifCond .le 13, 3) := by decide +kernel
theorem dX7_arcOf_18 : decode cX7_arcOf 18 = .ok (.sipush 4000, 3) := by decide +kernel
theorem dX7_arcOf_21 : decode cX7_arcOf 21 = .ok (.iload_n 1, 1) := by decide +kernel
theorem dX7_arcOf_22 : decode cX7_arcOf 22 = .ok (.imul, 1) := by decide +kernel
theorem dX7_arcOf_23 : decode cX7_arcOf 23 = .ok (.iload_n 2, 1) := by decide +kernel
theorem dX7_arcOf_24 : decode cX7_arcOf 24 = .ok (.idiv, 1) := by decide +kernel
theorem dX7_arcOf_25 : decode cX7_arcOf 25 = .ok (.goto 4, 3) := by decide +kernel
theorem dX7_arcOf_28 : decode cX7_arcOf 28 = .ok (.iconst 0, 1) := by decide +kernel
theorem dX7_arcOf_29 : decode cX7_arcOf 29 = .ok (.ireturn, 1) := by decide +kernel
theorem dX7_sineOf_0 : decode cX7_sineOf 0 = .ok (.iload_n 0, 1) := by decide +kernel
theorem dX7_sineOf_1 : decode cX7_sineOf 1 = .ok (.sipush 360, 3) := by decide +kernel
theorem dX7_sineOf_4 : decode cX7_sineOf 4 = .ok (.invokestatic 297, 3) := by decide +kernel
theorem dX7_sineOf_7 : decode cX7_sineOf 7 = .ok (.istore_n 1, 1) := by decide +kernel
theorem dX7_sineOf_8 : decode cX7_sineOf 8 = .ok (.iload_n 1, 1) := by decide +kernel
theorem dX7_sineOf_9 : decode cX7_sineOf 9 = .ok (.sipush 180, 3) := by decide +kernel
theorem dX7_sineOf_12 : decode cX7_sineOf 12 = .ok (.if_icmp .gt 10, 3) := by decide +kernel
theorem dX7_sineOf_15 : decode cX7_sineOf 15 = .ok (.iload_n 1, 1) := by decide +kernel
theorem dX7_sineOf_16 : decode cX7_sineOf 16 = .ok (.invokestatic 300, 3) := by decide +kernel
theorem dX7_sineOf_19 : decode cX7_sineOf 19 = .ok (.goto 12, 3) := by decide +kernel
theorem dX7_sineOf_22 : decode cX7_sineOf 22 = .ok (.iload_n 1, 1) := by decide +kernel
theorem dX7_sineOf_23 : decode cX7_sineOf 23 = .ok (.sipush 180, 3) := by decide +kernel
theorem dX7_sineOf_26 : decode cX7_sineOf 26 = .ok (.isub, 1) := by decide +kernel
theorem dX7_sineOf_27 : decode cX7_sineOf 27 = .ok (.invokestatic 300, 3) := by decide +kernel
theorem dX7_sineOf_30 : decode cX7_sineOf 30 = .ok (.ineg, 1) := by decide +kernel
theorem dX7_sineOf_31 : decode cX7_sineOf 31 = .ok (.ireturn, 1) := by decide +kernel
theorem dX7_cosineOf_0 : decode cX7_cosineOf 0 = .ok (.bipush 90, 2) := by decide +kernel
theorem dX7_cosineOf_2 : decode cX7_cosineOf 2 = .ok (.iload_n 0, 1) := by decide +kernel
theorem dX7_cosineOf_3 : decode cX7_cosineOf 3 = .ok (.isub, 1) := by decide +kernel
theorem dX7_cosineOf_4 : decode cX7_cosineOf 4 = .ok (.invokestatic 80, 3) := by decide +kernel
theorem dX7_cosineOf_7 : decode cX7_cosineOf 7 = .ok (.ireturn, 1) := by decide +kernel
theorem dX7_slantOf_0 : decode cX7_slantOf 0 = .ok (.bipush 23, 2) := by decide +kernel
theorem dX7_slantOf_2 : decode cX7_slantOf 2 = .ok (.iload_n 0, 1) := by decide +kernel
theorem dX7_slantOf_3 : decode cX7_slantOf 3 = .ok (.invokestatic 80, 3) := by decide +kernel
theorem dX7_slantOf_6 : decode cX7_slantOf 6 = .ok (.imul, 1) := by decide +kernel
theorem dX7_slantOf_7 : decode cX7_slantOf 7 = .ok (.sipush 1000, 3) := by decide +kernel
theorem dX7_slantOf_10 : decode cX7_slantOf 10 = .ok (.idiv, 1) := by decide +kernel
theorem dX7_slantOf_11 : decode cX7_slantOf 11 = .ok (.ireturn, 1) := by decide +kernel
theorem dX7_lateOf_0 : decode cX7_lateOf 0 = .ok (.bipush 10, 2) := by decide +kernel
theorem dX7_lateOf_2 : decode cX7_lateOf 2 = .ok (.iconst 2, 1) := by decide +kernel
theorem dX7_lateOf_3 : decode cX7_lateOf 3 = .ok (.iload_n 0, 1) := by decide +kernel
theorem dX7_lateOf_4 : decode cX7_lateOf 4 = .ok (.imul, 1) := by decide +kernel
theorem dX7_lateOf_5 : decode cX7_lateOf 5 = .ok (.invokestatic 80, 3) := by decide +kernel
theorem dX7_lateOf_8 : decode cX7_lateOf 8 = .ok (.imul, 1) := by decide +kernel
theorem dX7_lateOf_9 : decode cX7_lateOf 9 = .ok (.bipush 8, 2) := by decide +kernel
theorem dX7_lateOf_11 : decode cX7_lateOf 11 = .ok (.iload_n 0, 1) := by decide +kernel
theorem dX7_lateOf_12 : decode cX7_lateOf 12 = .ok (.bipush 80, 2) := by decide +kernel
theorem dX7_lateOf_14 : decode cX7_lateOf 14 = .ok (.iadd, 1) := by decide +kernel
theorem dX7_lateOf_15 : decode cX7_lateOf 15 = .ok (.invokestatic 80, 3) := by decide +kernel
theorem dX7_lateOf_18 : decode cX7_lateOf 18 = .ok (.imul, 1) := by decide +kernel
theorem dX7_lateOf_19 : decode cX7_lateOf 19 = .ok (.isub, 1) := by decide +kernel
theorem dX7_lateOf_20 : decode cX7_lateOf 20 = .ok (.sipush 1000, 3) := by decide +kernel
theorem dX7_lateOf_23 : decode cX7_lateOf 23 = .ok (.invokestatic 303, 3) := by decide +kernel
theorem dX7_lateOf_26 : decode cX7_lateOf 26 = .ok (.ireturn, 1) := by decide +kernel
theorem dX7_isBright_0 : decode cX7_isBright 0 = .ok (.aload_n 0, 1) := by decide +kernel
theorem dX7_isBright_1 : decode cX7_isBright 1 = .ok (.getfield 35, 3) := by decide +kernel
theorem dX7_isBright_4 : decode cX7_isBright 4 = .ok (.iload_n 1, 1) := by decide +kernel
theorem dX7_isBright_5 : decode cX7_isBright 5 = .ok (.iload_n 2, 1) := by decide +kernel
theorem dX7_isBright_6 : decode cX7_isBright 6 = .ok (.invokevirtual 100, 3) := by decide +kernel
theorem dX7_isBright_9 : decode cX7_isBright 9 = .ok (.aload_n 0, 1) := by decide +kernel
theorem dX7_isBright_10 : decode cX7_isBright 10 = .ok (.getfield 35, 3) := by decide +kernel
theorem dX7_isBright_13 : decode cX7_isBright 13 = .ok (.iload_n 3, 1) := by decide +kernel
theorem dX7_isBright_14 : decode cX7_isBright 14 = .ok (.invokevirtual 306, 3) := by decide +kernel
theorem dX7_isBright_17 : decode cX7_isBright 17 = .ok (.ireturn, 1) := by decide +kernel
theorem dX7_riseOf_0 : decode cX7_riseOf 0 = .ok (.aload_n 0, 1) := by decide +kernel
theorem dX7_riseOf_1 : decode cX7_riseOf 1 = .ok (.getfield 35, 3) := by decide +kernel
theorem dX7_riseOf_4 : decode cX7_riseOf 4 = .ok (.iload_n 1, 1) := by decide +kernel
theorem dX7_riseOf_5 : decode cX7_riseOf 5 = .ok (.iload_n 2, 1) := by decide +kernel
theorem dX7_riseOf_6 : decode cX7_riseOf 6 = .ok (.invokevirtual 100, 3) := by decide +kernel
theorem dX7_riseOf_9 : decode cX7_riseOf 9 = .ok (.iconst 0, 1) := by decide +kernel
theorem dX7_riseOf_10 : decode cX7_riseOf 10 = .ok (.istore_n 3, 1) := by decide +kernel
theorem dX7_riseOf_11 : decode cX7_riseOf 11 = .ok (.iload_n 3, 1) := by decide +kernel
theorem dX7_riseOf_12 : decode cX7_riseOf 12 = .ok (.sipush 360, 3) := by decide +kernel
theorem dX7_riseOf_15 : decode cX7_riseOf 15 = .ok (.if_icmp .ge 22, 3) := by decide +kernel
theorem dX7_riseOf_18 : decode cX7_riseOf 18 = .ok (.aload_n 0, 1) := by decide +kernel
theorem dX7_riseOf_19 : decode cX7_riseOf 19 = .ok (.getfield 35, 3) := by decide +kernel
theorem dX7_riseOf_22 : decode cX7_riseOf 22 = .ok (.iload_n 3, 1) := by decide +kernel
theorem dX7_riseOf_23 : decode cX7_riseOf 23 = .ok (.invokevirtual 306, 3) := by decide +kernel
theorem dX7_riseOf_26 : decode cX7_riseOf 26 = .ok (.ifCond .eq 5, 3) := by decide +kernel
theorem dX7_riseOf_29 : decode cX7_riseOf 29 = .ok (.iload_n 3, 1) := by decide +kernel
theorem dX7_riseOf_30 : decode cX7_riseOf 30 = .ok (.ireturn, 1) := by decide +kernel
theorem dX7_riseOf_31 : decode cX7_riseOf 31 = .ok (.iinc 3 1, 3) := by decide +kernel
theorem dX7_riseOf_34 : decode cX7_riseOf 34 = .ok (.goto (-23), 3) := by decide +kernel
theorem dX7_riseOf_37 : decode cX7_riseOf 37 = .ok (.iconst (-1), 1) := by decide +kernel
theorem dX7_riseOf_38 : decode cX7_riseOf 38 = .ok (.ireturn, 1) := by decide +kernel
theorem dX7_setOf_0 : decode cX7_setOf 0 = .ok (.aload_n 0, 1) := by decide +kernel
theorem dX7_setOf_1 : decode cX7_setOf 1 = .ok (.getfield 35, 3) := by decide +kernel
theorem dX7_setOf_4 : decode cX7_setOf 4 = .ok (.iload_n 1, 1) := by decide +kernel
theorem dX7_setOf_5 : decode cX7_setOf 5 = .ok (.iload_n 2, 1) := by decide +kernel
theorem dX7_setOf_6 : decode cX7_setOf 6 = .ok (.invokevirtual 100, 3) := by decide +kernel
theorem dX7_setOf_9 : decode cX7_setOf 9 = .ok (.sipush 359, 3) := by decide +kernel
theorem dX7_setOf_12 : decode cX7_setOf 12 = .ok (.istore_n 3, 1) := by decide +kernel
theorem dX7_setOf_13 : decode cX7_setOf 13 = .ok (.iload_n 3, 1) := by decide +kernel
theorem dX7_setOf_14 : decode cX7_setOf 14 = .ok (.ifCond .lt 24, 3) := by decide +kernel
theorem dX7_setOf_17 : decode cX7_setOf 17 = .ok (.aload_n 0, 1) := by decide +kernel
theorem dX7_setOf_18 : decode cX7_setOf 18 = .ok (.getfield 35, 3) := by decide +kernel
theorem dX7_setOf_21 : decode cX7_setOf 21 = .ok (.iload_n 3, 1) := by decide +kernel
theorem dX7_setOf_22 : decode cX7_setOf 22 = .ok (.invokevirtual 306, 3) := by decide +kernel
theorem dX7_setOf_25 : decode cX7_setOf 25 = .ok (.ifCond .eq 7, 3) := by decide +kernel
theorem dX7_setOf_28 : decode cX7_setOf 28 = .ok (.iload_n 3, 1) := by decide +kernel
theorem dX7_setOf_29 : decode cX7_setOf 29 = .ok (.iconst 1, 1) := by decide +kernel
theorem dX7_setOf_30 : decode cX7_setOf 30 = .ok (.iadd, 1) := by decide +kernel
theorem dX7_setOf_31 : decode cX7_setOf 31 = .ok (.ireturn, 1) := by decide +kernel
theorem dX7_setOf_32 : decode cX7_setOf 32 = .ok (.iinc 3 (-1), 3) := by decide +kernel
theorem dX7_setOf_35 : decode cX7_setOf 35 = .ok (.goto (-22), 3) := by decide +kernel
theorem dX7_setOf_38 : decode cX7_setOf 38 = .ok (.iconst (-1), 1) := by decide +kernel
theorem dX7_setOf_39 : decode cX7_setOf 39 = .ok (.ireturn, 1) := by decide +kernel
theorem dX7_brightTicksOf_0 : decode cX7_brightTicksOf 0 = .ok (.aload_n 0, 1) := by decide +kernel
theorem dX7_brightTicksOf_1 : decode cX7_brightTicksOf 1 = .ok (.getfield 35, 3) := by decide +kernel
theorem dX7_brightTicksOf_4 : decode cX7_brightTicksOf 4 = .ok (.iload_n 1, 1) := by decide +kernel
theorem dX7_brightTicksOf_5 : decode cX7_brightTicksOf 5 = .ok (.iload_n 2, 1) := by decide +kernel
theorem dX7_brightTicksOf_6 : decode cX7_brightTicksOf 6 = .ok (.invokevirtual 100, 3) := by decide +kernel
theorem dX7_brightTicksOf_9 : decode cX7_brightTicksOf 9 = .ok (.iconst 0, 1) := by decide +kernel
theorem dX7_brightTicksOf_10 : decode cX7_brightTicksOf 10 = .ok (.istore_n 3, 1) := by decide +kernel
theorem dX7_brightTicksOf_11 : decode cX7_brightTicksOf 11 = .ok (.iconst 0, 1) := by decide +kernel
theorem dX7_brightTicksOf_12 : decode cX7_brightTicksOf 12 = .ok (.istore 4, 2) := by decide +kernel
theorem dX7_brightTicksOf_14 : decode cX7_brightTicksOf 14 = .ok (.iload 4, 2) := by decide +kernel
theorem dX7_brightTicksOf_16 : decode cX7_brightTicksOf 16 = .ok (.sipush 360, 3) := by decide +kernel
theorem dX7_brightTicksOf_19 : decode cX7_brightTicksOf 19 = .ok (.if_icmp .ge 24, 3) := by decide +kernel
theorem dX7_brightTicksOf_22 : decode cX7_brightTicksOf 22 = .ok (.aload_n 0, 1) := by decide +kernel
theorem dX7_brightTicksOf_23 : decode cX7_brightTicksOf 23 = .ok (.getfield 35, 3) := by decide +kernel
theorem dX7_brightTicksOf_26 : decode cX7_brightTicksOf 26 = .ok (.iload 4, 2) := by decide +kernel
theorem dX7_brightTicksOf_28 : decode cX7_brightTicksOf 28 = .ok (.invokevirtual 306, 3) := by decide +kernel
theorem dX7_brightTicksOf_31 : decode cX7_brightTicksOf 31 = .ok (.ifCond .eq 6, 3) := by decide +kernel
theorem dX7_brightTicksOf_34 : decode cX7_brightTicksOf 34 = .ok (.iinc 3 1, 3) := by decide +kernel
theorem dX7_brightTicksOf_37 : decode cX7_brightTicksOf 37 = .ok (.iinc 4 1, 3) := by decide +kernel
theorem dX7_brightTicksOf_40 : decode cX7_brightTicksOf 40 = .ok (.goto (-26), 3) := by decide +kernel
theorem dX7_brightTicksOf_43 : decode cX7_brightTicksOf 43 = .ok (.iload_n 3, 1) := by decide +kernel
theorem dX7_brightTicksOf_44 : decode cX7_brightTicksOf 44 = .ok (.ireturn, 1) := by decide +kernel
theorem dX7_unequalHour_0 : decode cX7_unequalHour 0 = .ok (.aload_n 0, 1) := by decide +kernel
theorem dX7_unequalHour_1 : decode cX7_unequalHour 1 = .ok (.iload_n 1, 1) := by decide +kernel
theorem dX7_unequalHour_2 : decode cX7_unequalHour 2 = .ok (.iload_n 2, 1) := by decide +kernel
theorem dX7_unequalHour_3 : decode cX7_unequalHour 3 = .ok (.invokevirtual 137, 3) := by decide +kernel
theorem dX7_unequalHour_6 : decode cX7_unequalHour 6 = .ok (.istore 4, 2) := by decide +kernel
theorem dX7_unequalHour_8 : decode cX7_unequalHour 8 = .ok (.aload_n 0, 1) := by decide +kernel
theorem dX7_unequalHour_9 : decode cX7_unequalHour 9 = .ok (.iload_n 1, 1) := by decide +kernel
theorem dX7_unequalHour_10 : decode cX7_unequalHour 10 = .ok (.iload_n 2, 1) := by decide +kernel
theorem dX7_unequalHour_11 : decode cX7_unequalHour 11 = .ok (.invokevirtual 141, 3) := by decide +kernel
theorem dX7_unequalHour_14 : decode cX7_unequalHour 14 = .ok (.iload 4, 2) := by decide +kernel
theorem dX7_unequalHour_16 : decode cX7_unequalHour 16 = .ok (.isub, 1) := by decide +kernel
theorem dX7_unequalHour_17 : decode cX7_unequalHour 17 = .ok (.istore 5, 2) := by decide +kernel
theorem dX7_unequalHour_19 : decode cX7_unequalHour 19 = .ok (.iload 5, 2) := by decide +kernel
theorem dX7_unequalHour_21 : decode cX7_unequalHour 21 = .ok (.ifCond .le 13, 3) := by decide +kernel
theorem dX7_unequalHour_24 : decode cX7_unequalHour 24 = .ok (.aload_n 0, 1) := by decide +kernel
theorem dX7_unequalHour_25 : decode cX7_unequalHour 25 = .ok (.iload_n 1, 1) := by decide +kernel
theorem dX7_unequalHour_26 : decode cX7_unequalHour 26 = .ok (.iload_n 2, 1) := by decide +kernel
theorem dX7_unequalHour_27 : decode cX7_unequalHour 27 = .ok (.iload_n 3, 1) := by decide +kernel
theorem dX7_unequalHour_28 : decode cX7_unequalHour 28 = .ok (.invokevirtual 309, 3) := by decide +kernel
theorem dX7_unequalHour_31 : decode cX7_unequalHour 31 = .ok (.ifCond .ne 5, 3) := by decide +kernel
theorem dX7_unequalHour_34 : decode cX7_unequalHour 34 = .ok (.iconst (-1), 1) := by decide +kernel
theorem dX7_unequalHour_35 : decode cX7_unequalHour 35 = .ok (.ireturn, 1) := by decide +kernel
theorem dX7_unequalHour_36 : decode cX7_unequalHour 36 = .ok (.bipush 12, 2) := by decide +kernel
theorem dX7_unequalHour_38 : decode cX7_unequalHour 38 = .ok (.iload_n 3, 1) := by decide +kernel
theorem dX7_unequalHour_39 : decode cX7_unequalHour 39 = .ok (.iload 4, 2) := by decide +kernel
theorem dX7_unequalHour_41 : decode cX7_unequalHour 41 = .ok (.isub, 1) := by decide +kernel
theorem dX7_unequalHour_42 : decode cX7_unequalHour 42 = .ok (.imul, 1) := by decide +kernel
theorem dX7_unequalHour_43 : decode cX7_unequalHour 43 = .ok (.iload 5, 2) := by decide +kernel
theorem dX7_unequalHour_45 : decode cX7_unequalHour 45 = .ok (.invokestatic 303, 3) := by decide +kernel
theorem dX7_unequalHour_48 : decode cX7_unequalHour 48 = .ok (.ireturn, 1) := by decide +kernel
theorem dX7_hourFromRise_0 : decode cX7_hourFromRise 0 = .ok (.aload_n 0, 1) := by decide +kernel
theorem dX7_hourFromRise_1 : decode cX7_hourFromRise 1 = .ok (.iload_n 1, 1) := by decide +kernel
theorem dX7_hourFromRise_2 : decode cX7_hourFromRise 2 = .ok (.iload_n 2, 1) := by decide +kernel
theorem dX7_hourFromRise_3 : decode cX7_hourFromRise 3 = .ok (.iload_n 3, 1) := by decide +kernel
theorem dX7_hourFromRise_4 : decode cX7_hourFromRise 4 = .ok (.invokevirtual 309, 3) := by decide +kernel
theorem dX7_hourFromRise_7 : decode cX7_hourFromRise 7 = .ok (.ifCond .eq 14, 3) := by decide +kernel
theorem dX7_hourFromRise_10 : decode cX7_hourFromRise 10 = .ok (.iload_n 3, 1) := by decide +kernel
theorem dX7_hourFromRise_11 : decode cX7_hourFromRise 11 = .ok (.aload_n 0, 1) := by decide +kernel
theorem dX7_hourFromRise_12 : decode cX7_hourFromRise 12 = .ok (.iload_n 1, 1) := by decide +kernel
theorem dX7_hourFromRise_13 : decode cX7_hourFromRise 13 = .ok (.iload_n 2, 1) := by decide +kernel
theorem dX7_hourFromRise_14 : decode cX7_hourFromRise 14 = .ok (.invokevirtual 137, 3) := by decide +kernel
theorem dX7_hourFromRise_17 : decode cX7_hourFromRise 17 = .ok (.isub, 1) := by decide +kernel
theorem dX7_hourFromRise_18 : decode cX7_hourFromRise 18 = .ok (.goto 4, 3) := by decide +kernel
theorem dX7_hourFromRise_21 : decode cX7_hourFromRise 21 = .ok (.iconst (-1), 1) := by decide +kernel
theorem dX7_hourFromRise_22 : decode cX7_hourFromRise 22 = .ok (.ireturn, 1) := by decide +kernel
theorem dX7_hourFromSet_0 : decode cX7_hourFromSet 0 = .ok (.aload_n 0, 1) := by decide +kernel
theorem dX7_hourFromSet_1 : decode cX7_hourFromSet 1 = .ok (.iload_n 1, 1) := by decide +kernel
theorem dX7_hourFromSet_2 : decode cX7_hourFromSet 2 = .ok (.iload_n 2, 1) := by decide +kernel
theorem dX7_hourFromSet_3 : decode cX7_hourFromSet 3 = .ok (.invokevirtual 141, 3) := by decide +kernel
theorem dX7_hourFromSet_6 : decode cX7_hourFromSet 6 = .ok (.istore 4, 2) := by decide +kernel
theorem dX7_hourFromSet_8 : decode cX7_hourFromSet 8 = .ok (.iload 4, 2) := by decide +kernel
theorem dX7_hourFromSet_10 : decode cX7_hourFromSet 10 = .ok (.iconst (-1), 1) := by decide +kernel
theorem dX7_hourFromSet_11 : decode cX7_hourFromSet 11 = .ok (.if_icmp .ne 7, 3) := by decide +kernel
theorem dX7_hourFromSet_14 : decode cX7_hourFromSet 14 = .ok (.iconst (-1), 1) := by decide +kernel
theorem dX7_hourFromSet_15 : decode cX7_hourFromSet 15 = .ok (.goto 17, 3) := by decide +kernel
theorem dX7_hourFromSet_18 : decode cX7_hourFromSet 18 = .ok (.iload_n 3, 1) := by decide +kernel
theorem dX7_hourFromSet_19 : decode cX7_hourFromSet 19 = .ok (.iload 4, 2) := by decide +kernel
theorem dX7_hourFromSet_21 : decode cX7_hourFromSet 21 = .ok (.isub, 1) := by decide +kernel
theorem dX7_hourFromSet_22 : decode cX7_hourFromSet 22 = .ok (.sipush 360, 3) := by decide +kernel
theorem dX7_hourFromSet_25 : decode cX7_hourFromSet 25 = .ok (.iadd, 1) := by decide +kernel
theorem dX7_hourFromSet_26 : decode cX7_hourFromSet 26 = .ok (.sipush 360, 3) := by decide +kernel
theorem dX7_hourFromSet_29 : decode cX7_hourFromSet 29 = .ok (.invokestatic 297, 3) := by decide +kernel
theorem dX7_hourFromSet_32 : decode cX7_hourFromSet 32 = .ok (.ireturn, 1) := by decide +kernel
theorem dX7_clockOf_0 : decode cX7_clockOf 0 = .ok (.iconst 4, 1) := by decide +kernel
theorem dX7_clockOf_1 : decode cX7_clockOf 1 = .ok (.iload_n 3, 1) := by decide +kernel
theorem dX7_clockOf_2 : decode cX7_clockOf 2 = .ok (.imul, 1) := by decide +kernel
theorem dX7_clockOf_3 : decode cX7_clockOf 3 = .ok (.iload_n 2, 1) := by decide +kernel
theorem dX7_clockOf_4 : decode cX7_clockOf 4 = .ok (.invokestatic 91, 3) := by decide +kernel
theorem dX7_clockOf_7 : decode cX7_clockOf 7 = .ok (.iadd, 1) := by decide +kernel
theorem dX7_clockOf_8 : decode cX7_clockOf 8 = .ok (.aload_n 1, 1) := by decide +kernel
theorem dX7_clockOf_9 : decode cX7_clockOf 9 = .ok (.getfield 312, 3) := by decide +kernel
theorem dX7_clockOf_12 : decode cX7_clockOf 12 = .ok (.isub, 1) := by decide +kernel
theorem dX7_clockOf_13 : decode cX7_clockOf 13 = .ok (.istore 4, 2) := by decide +kernel
theorem dX7_clockOf_15 : decode cX7_clockOf 15 = .ok (.iload_n 2, 1) := by decide +kernel
theorem dX7_clockOf_16 : decode cX7_clockOf 16 = .ok (.aload_n 0, 1) := by decide +kernel
theorem dX7_clockOf_17 : decode cX7_clockOf 17 = .ok (.getfield 166, 3) := by decide +kernel
theorem dX7_clockOf_20 : decode cX7_clockOf 20 = .ok (.aload_n 0, 1) := by decide +kernel
theorem dX7_clockOf_21 : decode cX7_clockOf 21 = .ok (.getfield 28, 3) := by decide +kernel
theorem dX7_clockOf_24 : decode cX7_clockOf 24 = .ok (.invokestatic 72, 3) := by decide +kernel
theorem dX7_clockOf_27 : decode cX7_clockOf 27 = .ok (.ifCond .eq 6, 3) := by decide +kernel
theorem dX7_clockOf_30 : decode cX7_clockOf 30 = .ok (.iinc 4 60, 3) := by decide +kernel
theorem dX7_clockOf_33 : decode cX7_clockOf 33 = .ok (.iload 4, 2) := by decide +kernel
theorem dX7_clockOf_35 : decode cX7_clockOf 35 = .ok (.sipush 1440, 3) := by decide +kernel
theorem dX7_clockOf_38 : decode cX7_clockOf 38 = .ok (.invokestatic 297, 3) := by decide +kernel
theorem dX7_clockOf_41 : decode cX7_clockOf 41 = .ok (.ireturn, 1) := by decide +kernel
theorem dX7_castShadow_0 : decode cX7_castShadow 0 = .ok (.aload_n 0, 1) := by decide +kernel
theorem dX7_castShadow_1 : decode cX7_castShadow 1 = .ok (.getfield 35, 3) := by decide +kernel
theorem dX7_castShadow_4 : decode cX7_castShadow 4 = .ok (.aload_n 2, 1) := by decide +kernel
theorem dX7_castShadow_5 : decode cX7_castShadow 5 = .ok (.getfield 239, 3) := by decide +kernel
theorem dX7_castShadow_8 : decode cX7_castShadow 8 = .ok (.iload_n 3, 1) := by decide +kernel
theorem dX7_castShadow_9 : decode cX7_castShadow 9 = .ok (.invokevirtual 100, 3) := by decide +kernel
theorem dX7_castShadow_12 : decode cX7_castShadow 12 = .ok (.aload_n 0, 1) := by decide +kernel
theorem dX7_castShadow_13 : decode cX7_castShadow 13 = .ok (.getfield 35, 3) := by decide +kernel
theorem dX7_castShadow_16 : decode cX7_castShadow 16 = .ok (.iload 4, 2) := by decide +kernel
theorem dX7_castShadow_18 : decode cX7_castShadow 18 = .ok (.invokevirtual 104, 3) := by decide +kernel
theorem dX7_castShadow_21 : decode cX7_castShadow 21 = .ok (.aload_n 1, 1) := by decide +kernel
theorem dX7_castShadow_22 : decode cX7_castShadow 22 = .ok (.aload_n 2, 1) := by decide +kernel
theorem dX7_castShadow_23 : decode cX7_castShadow 23 = .ok (.aload_n 0, 1) := by decide +kernel
theorem dX7_castShadow_24 : decode cX7_castShadow 24 = .ok (.getfield 35, 3) := by decide +kernel
theorem dX7_castShadow_27 : decode cX7_castShadow 27 = .ok (.invokevirtual 315, 3) := by decide +kernel
theorem dX7_castShadow_30 : decode cX7_castShadow 30 = .ok (.return_, 1) := by decide +kernel
theorem dX7_castStanding_0 : decode cX7_castStanding 0 = .ok (.aload_n 0, 1) := by decide +kernel
theorem dX7_castStanding_1 : decode cX7_castStanding 1 = .ok (.iload_n 1, 1) := by decide +kernel
theorem dX7_castStanding_2 : decode cX7_castStanding 2 = .ok (.invokevirtual 195, 3) := by decide +kernel
theorem dX7_castStanding_5 : decode cX7_castStanding 5 = .ok (.getfield 192, 3) := by decide +kernel
theorem dX7_castStanding_8 : decode cX7_castStanding 8 = .ok (.astore 4, 2) := by decide +kernel
theorem dX7_castStanding_10 : decode cX7_castStanding 10 = .ok (.iload_n 2, 1) := by decide +kernel
theorem dX7_castStanding_11 : decode cX7_castStanding 11 = .ok (.invokestatic 84, 3) := by decide +kernel
theorem dX7_castStanding_14 : decode cX7_castStanding 14 = .ok (.ifCond .eq 14, 3) := by decide +kernel
theorem dX7_castStanding_17 : decode cX7_castStanding 17 = .ok (.iload_n 3, 1) := by decide +kernel
theorem dX7_castStanding_18 : decode cX7_castStanding 18 = .ok (.invokestatic 97, 3) := by decide +kernel
theorem dX7_castStanding_21 : decode cX7_castStanding 21 = .ok (.ifCond .eq 7, 3) := by decide +kernel
theorem dX7_castStanding_24 : decode cX7_castStanding 24 = .ok (.iconst 1, 1) := by decide +kernel
theorem dX7_castStanding_25 : decode cX7_castStanding 25 = .ok (.goto 4, 3) := by decide +kernel
theorem dX7_castStanding_28 : decode cX7_castStanding 28 = .ok (.iconst 0, 1) := by decide +kernel
theorem dX7_castStanding_29 : decode cX7_castStanding 29 = .ok (.invokestatic 76, 3) := by decide +kernel
theorem dX7_castStanding_32 : decode cX7_castStanding 32 = .ok (.aload_n 0, 1) := by decide +kernel
theorem dX7_castStanding_33 : decode cX7_castStanding 33 = .ok (.aload_n 0, 1) := by decide +kernel
theorem dX7_castStanding_34 : decode cX7_castStanding 34 = .ok (.getfield 42, 3) := by decide +kernel
theorem dX7_castStanding_37 : decode cX7_castStanding 37 = .ok (.aload 4, 2) := by decide +kernel
theorem dX7_castStanding_39 : decode cX7_castStanding 39 = .ok (.iload_n 2, 1) := by decide +kernel
theorem dX7_castStanding_40 : decode cX7_castStanding 40 = .ok (.iload_n 3, 1) := by decide +kernel
theorem dX7_castStanding_41 : decode cX7_castStanding 41 = .ok (.invokevirtual 319, 3) := by decide +kernel
theorem dX7_castStanding_44 : decode cX7_castStanding 44 = .ok (.aload_n 0, 1) := by decide +kernel
theorem dX7_castStanding_45 : decode cX7_castStanding 45 = .ok (.getfield 42, 3) := by decide +kernel
theorem dX7_castStanding_48 : decode cX7_castStanding 48 = .ok (.getfield 323, 3) := by decide +kernel
theorem dX7_castStanding_51 : decode cX7_castStanding 51 = .ok (.ifCond .ne 14, 3) := by decide +kernel
theorem dX7_castStanding_54 : decode cX7_castStanding 54 = .ok (.new 121, 3) := by decide +kernel
theorem dX7_castStanding_57 : decode cX7_castStanding 57 = .ok (.dup, 1) := by decide +kernel
theorem dX7_castStanding_58 : decode cX7_castStanding 58 = .ok (.ldc_w 327, 3) := by decide +kernel
theorem dX7_castStanding_61 : decode cX7_castStanding 61 = .ok (.invokespecial 125, 3) := by decide +kernel
theorem dX7_castStanding_64 : decode cX7_castStanding 64 = .ok (.athrow, 1) := by decide +kernel
theorem dX7_castStanding_65 : decode cX7_castStanding 65 = .ok (.aload 4, 2) := by decide +kernel
theorem dX7_castStanding_67 : decode cX7_castStanding 67 = .ok (.areturn, 1) := by decide +kernel
theorem dX7_drawLine_0 : decode cX7_drawLine 0 = .ok (.bipush 15, 2) := by decide +kernel
theorem dX7_drawLine_2 : decode cX7_drawLine 2 = .ok (.iload_n 2, 1) := by decide +kernel
theorem dX7_drawLine_3 : decode cX7_drawLine 3 = .ok (.imul, 1) := by decide +kernel
theorem dX7_drawLine_4 : decode cX7_drawLine 4 = .ok (.istore_n 3, 1) := by decide +kernel
theorem dX7_drawLine_5 : decode cX7_drawLine 5 = .ok (.aload_n 0, 1) := by decide +kernel
theorem dX7_drawLine_6 : decode cX7_drawLine 6 = .ok (.aload_n 0, 1) := by decide +kernel
theorem dX7_drawLine_7 : decode cX7_drawLine 7 = .ok (.getfield 46, 3) := by decide +kernel
theorem dX7_drawLine_10 : decode cX7_drawLine 10 = .ok (.aload_n 1, 1) := by decide +kernel
theorem dX7_drawLine_11 : decode cX7_drawLine 11 = .ok (.bipush 90, 2) := by decide +kernel
theorem dX7_drawLine_13 : decode cX7_drawLine 13 = .ok (.iload_n 3, 1) := by decide +kernel
theorem dX7_drawLine_14 : decode cX7_drawLine 14 = .ok (.invokevirtual 319, 3) := by decide +kernel
theorem dX7_drawLine_17 : decode cX7_drawLine 17 = .ok (.aload_n 0, 1) := by decide +kernel
theorem dX7_drawLine_18 : decode cX7_drawLine 18 = .ok (.aload_n 0, 1) := by decide +kernel
theorem dX7_drawLine_19 : decode cX7_drawLine 19 = .ok (.getfield 49, 3) := by decide +kernel
theorem dX7_drawLine_22 : decode cX7_drawLine 22 = .ok (.aload_n 1, 1) := by decide +kernel
theorem dX7_drawLine_23 : decode cX7_drawLine 23 = .ok (.sipush 270, 3) := by decide +kernel
theorem dX7_drawLine_26 : decode cX7_drawLine 26 = .ok (.iload_n 3, 1) := by decide +kernel
theorem dX7_drawLine_27 : decode cX7_drawLine 27 = .ok (.invokevirtual 319, 3) := by decide +kernel
theorem dX7_drawLine_30 : decode cX7_drawLine 30 = .ok (.aload_n 0, 1) := by decide +kernel
theorem dX7_drawLine_31 : decode cX7_drawLine 31 = .ok (.getfield 46, 3) := by decide +kernel
theorem dX7_drawLine_34 : decode cX7_drawLine 34 = .ok (.getfield 323, 3) := by decide +kernel
theorem dX7_drawLine_37 : decode cX7_drawLine 37 = .ok (.ifCond .eq 17, 3) := by decide +kernel
theorem dX7_drawLine_40 : decode cX7_drawLine 40 = .ok (.aload_n 0, 1) := by decide +kernel
theorem dX7_drawLine_41 : decode cX7_drawLine 41 = .ok (.getfield 49, 3) := by decide +kernel
theorem dX7_drawLine_44 : decode cX7_drawLine 44 = .ok (.getfield 323, 3) := by decide +kernel
theorem dX7_drawLine_47 : decode cX7_drawLine 47 = .ok (.ifCond .eq 7, 3) := by decide +kernel
theorem dX7_drawLine_50 : decode cX7_drawLine 50 = .ok (.iconst 1, 1) := by decide +kernel
theorem dX7_drawLine_51 : decode cX7_drawLine 51 = .ok (.goto 4, 3) := by decide +kernel
theorem dX7_drawLine_54 : decode cX7_drawLine 54 = .ok (.iconst 0, 1) := by decide +kernel
theorem dX7_drawLine_55 : decode cX7_drawLine 55 = .ok (.ireturn, 1) := by decide +kernel
theorem dX7_toldIn_0 : decode cX7_toldIn 0 = .ok (.aload_n 0, 1) := by decide +kernel
theorem dX7_toldIn_1 : decode cX7_toldIn 1 = .ok (.getfield 35, 3) := by decide +kernel
theorem dX7_toldIn_4 : decode cX7_toldIn 4 = .ok (.iload_n 1, 1) := by decide +kernel
theorem dX7_toldIn_5 : decode cX7_toldIn 5 = .ok (.invokevirtual 104, 3) := by decide +kernel
theorem dX7_toldIn_8 : decode cX7_toldIn 8 = .ok (.aload_n 0, 1) := by decide +kernel
theorem dX7_toldIn_9 : decode cX7_toldIn 9 = .ok (.getfield 42, 3) := by decide +kernel
theorem dX7_toldIn_12 : decode cX7_toldIn 12 = .ok (.aload_n 2, 1) := by decide +kernel
theorem dX7_toldIn_13 : decode cX7_toldIn 13 = .ok (.aload_n 0, 1) := by decide +kernel
theorem dX7_toldIn_14 : decode cX7_toldIn 14 = .ok (.getfield 35, 3) := by decide +kernel
theorem dX7_toldIn_17 : decode cX7_toldIn 17 = .ok (.invokevirtual 315, 3) := by decide +kernel
theorem dX7_toldIn_20 : decode cX7_toldIn 20 = .ok (.aload_n 0, 1) := by decide +kernel
theorem dX7_toldIn_21 : decode cX7_toldIn 21 = .ok (.getfield 42, 3) := by decide +kernel
theorem dX7_toldIn_24 : decode cX7_toldIn 24 = .ok (.getfield 323, 3) := by decide +kernel
theorem dX7_toldIn_27 : decode cX7_toldIn 27 = .ok (.ifCond .eq 24, 3) := by decide +kernel
theorem dX7_toldIn_30 : decode cX7_toldIn 30 = .ok (.aload_n 3, 1) := by decide +kernel
theorem dX7_toldIn_31 : decode cX7_toldIn 31 = .ok (.aload_n 0, 1) := by decide +kernel
theorem dX7_toldIn_32 : decode cX7_toldIn 32 = .ok (.getfield 42, 3) := by decide +kernel
theorem dX7_toldIn_35 : decode cX7_toldIn 35 = .ok (.getfield 212, 3) := by decide +kernel
theorem dX7_toldIn_38 : decode cX7_toldIn 38 = .ok (.aload_n 0, 1) := by decide +kernel
theorem dX7_toldIn_39 : decode cX7_toldIn 39 = .ok (.getfield 42, 3) := by decide +kernel
theorem dX7_toldIn_42 : decode cX7_toldIn 42 = .ok (.getfield 209, 3) := by decide +kernel
theorem dX7_toldIn_45 : decode cX7_toldIn 45 = .ok (.invokevirtual 236, 3) := by decide +kernel
theorem dX7_toldIn_48 : decode cX7_toldIn 48 = .ok (.goto 4, 3) := by decide +kernel
theorem dX7_toldIn_51 : decode cX7_toldIn 51 = .ok (.iconst (-1), 1) := by decide +kernel
theorem dX7_toldIn_52 : decode cX7_toldIn 52 = .ok (.ireturn, 1) := by decide +kernel
theorem dX7_drawTrialTraces_0 : decode cX7_drawTrialTraces 0 = .ok (.iconst 0, 1) := by decide +kernel
theorem dX7_drawTrialTraces_1 : decode cX7_drawTrialTraces 1 = .ok (.istore_n 2, 1) := by decide +kernel
theorem dX7_drawTrialTraces_2 : decode cX7_drawTrialTraces 2 = .ok (.iload_n 2, 1) := by decide +kernel
theorem dX7_drawTrialTraces_3 : decode cX7_drawTrialTraces 3 = .ok (.getstatic 329, 3) := by decide +kernel
theorem dX7_drawTrialTraces_6 : decode cX7_drawTrialTraces 6 = .ok (.arraylength, 1) := by decide +kernel
theorem dX7_drawTrialTraces_7 : decode cX7_drawTrialTraces 7 = .ok (.if_icmp .ge 41, 3) := by decide +kernel
theorem dX7_drawTrialTraces_10 : decode cX7_drawTrialTraces 10 = .ok (.iload_n 2, 1) := by decide +kernel
theorem dX7_drawTrialTraces_11 : decode cX7_drawTrialTraces 11 = .ok (.aload_n 0, 1) := by decide +kernel
theorem dX7_drawTrialTraces_12 : decode cX7_drawTrialTraces 12 = .ok (.getfield 66, 3) := by decide +kernel
theorem dX7_drawTrialTraces_15 : decode cX7_drawTrialTraces 15 = .ok (.arraylength, 1) := by decide +kernel
theorem dX7_drawTrialTraces_16 : decode cX7_drawTrialTraces 16 = .ok (.if_icmp .ge 32, 3) := by decide +kernel
theorem dX7_drawTrialTraces_19 : decode cX7_drawTrialTraces 19 = .ok (.aload_n 0, 1) := by decide +kernel
theorem dX7_drawTrialTraces_20 : decode cX7_drawTrialTraces 20 = .ok (.getfield 66, 3) := by decide +kernel
theorem dX7_drawTrialTraces_23 : decode cX7_drawTrialTraces 23 = .ok (.iload_n 2, 1) := by decide +kernel
theorem dX7_drawTrialTraces_24 : decode cX7_drawTrialTraces 24 = .ok (.aaload, 1) := by decide +kernel
theorem dX7_drawTrialTraces_25 : decode cX7_drawTrialTraces 25 = .ok (.aload_n 1, 1) := by decide +kernel
theorem dX7_drawTrialTraces_26 : decode cX7_drawTrialTraces 26 = .ok (.getstatic 329, 3) := by decide +kernel
theorem dX7_drawTrialTraces_29 : decode cX7_drawTrialTraces 29 = .ok (.iload_n 2, 1) := by decide +kernel
theorem dX7_drawTrialTraces_30 : decode cX7_drawTrialTraces 30 = .ok (.iaload, 1) := by decide +kernel
theorem dX7_drawTrialTraces_31 : decode cX7_drawTrialTraces 31 = .ok (.aload_n 0, 1) := by decide +kernel
theorem dX7_drawTrialTraces_32 : decode cX7_drawTrialTraces 32 = .ok (.getfield 35, 3) := by decide +kernel
theorem dX7_drawTrialTraces_35 : decode cX7_drawTrialTraces 35 = .ok (.aload_n 0, 1) := by decide +kernel
theorem dX7_drawTrialTraces_36 : decode cX7_drawTrialTraces 36 = .ok (.getfield 42, 3) := by decide +kernel
theorem dX7_drawTrialTraces_39 : decode cX7_drawTrialTraces 39 = .ok (.invokevirtual 232, 3) := by decide +kernel
theorem dX7_drawTrialTraces_42 : decode cX7_drawTrialTraces 42 = .ok (.iinc 2 1, 3) := by decide +kernel
theorem dX7_drawTrialTraces_45 : decode cX7_drawTrialTraces 45 = .ok (.goto (-43), 3) := by decide +kernel
theorem dX7_drawTrialTraces_48 : decode cX7_drawTrialTraces 48 = .ok (.return_, 1) := by decide +kernel
theorem dX7_errorsOfTrial_0 : decode cX7_errorsOfTrial 0 = .ok (.iconst 0, 1) := by decide +kernel
theorem dX7_errorsOfTrial_1 : decode cX7_errorsOfTrial 1 = .ok (.istore_n 2, 1) := by decide +kernel
theorem dX7_errorsOfTrial_2 : decode cX7_errorsOfTrial 2 = .ok (.aload_n 0, 1) := by decide +kernel
theorem dX7_errorsOfTrial_3 : decode cX7_errorsOfTrial 3 = .ok (.getfield 66, 3) := by decide +kernel
theorem dX7_errorsOfTrial_6 : decode cX7_errorsOfTrial 6 = .ok (.astore_n 3, 1) := by decide +kernel
theorem dX7_errorsOfTrial_7 : decode cX7_errorsOfTrial 7 = .ok (.aload_n 3, 1) := by decide +kernel
theorem dX7_errorsOfTrial_8 : decode cX7_errorsOfTrial 8 = .ok (.arraylength, 1) := by decide +kernel
theorem dX7_errorsOfTrial_9 : decode cX7_errorsOfTrial 9 = .ok (.istore 4, 2) := by decide +kernel
theorem dX7_errorsOfTrial_11 : decode cX7_errorsOfTrial 11 = .ok (.iconst 0, 1) := by decide +kernel
theorem dX7_errorsOfTrial_12 : decode cX7_errorsOfTrial 12 = .ok (.istore 5, 2) := by decide +kernel
theorem dX7_errorsOfTrial_14 : decode cX7_errorsOfTrial 14 = .ok (.iload 5, 2) := by decide +kernel
theorem dX7_errorsOfTrial_16 : decode cX7_errorsOfTrial 16 = .ok (.iload 4, 2) := by decide +kernel
theorem dX7_errorsOfTrial_18 : decode cX7_errorsOfTrial 18 = .ok (.if_icmp .ge 106, 3) := by decide +kernel
theorem dX7_errorsOfTrial_21 : decode cX7_errorsOfTrial 21 = .ok (.aload_n 3, 1) := by decide +kernel
theorem dX7_errorsOfTrial_22 : decode cX7_errorsOfTrial 22 = .ok (.iload 5, 2) := by decide +kernel
theorem dX7_errorsOfTrial_24 : decode cX7_errorsOfTrial 24 = .ok (.aaload, 1) := by decide +kernel
theorem dX7_errorsOfTrial_25 : decode cX7_errorsOfTrial 25 = .ok (.astore 6, 2) := by decide +kernel
theorem dX7_errorsOfTrial_27 : decode cX7_errorsOfTrial 27 = .ok (.aload_n 0, 1) := by decide +kernel
theorem dX7_errorsOfTrial_28 : decode cX7_errorsOfTrial 28 = .ok (.getfield 35, 3) := by decide +kernel
theorem dX7_errorsOfTrial_31 : decode cX7_errorsOfTrial 31 = .ok (.aload_n 0, 1) := by decide +kernel
theorem dX7_errorsOfTrial_32 : decode cX7_errorsOfTrial 32 = .ok (.getfield 55, 3) := by decide +kernel
theorem dX7_errorsOfTrial_35 : decode cX7_errorsOfTrial 35 = .ok (.getfield 239, 3) := by decide +kernel
theorem dX7_errorsOfTrial_38 : decode cX7_errorsOfTrial 38 = .ok (.aload 6, 2) := by decide +kernel
theorem dX7_errorsOfTrial_40 : decode cX7_errorsOfTrial 40 = .ok (.getfield 333, 3) := by decide +kernel
theorem dX7_errorsOfTrial_43 : decode cX7_errorsOfTrial 43 = .ok (.invokevirtual 100, 3) := by decide +kernel
theorem dX7_errorsOfTrial_46 : decode cX7_errorsOfTrial 46 = .ok (.iconst 0, 1) := by decide +kernel
theorem dX7_errorsOfTrial_47 : decode cX7_errorsOfTrial 47 = .ok (.istore 7, 2) := by decide +kernel
theorem dX7_errorsOfTrial_49 : decode cX7_errorsOfTrial 49 = .ok (.iload 7, 2) := by decide +kernel
theorem dX7_errorsOfTrial_51 : decode cX7_errorsOfTrial 51 = .ok (.sipush 360, 3) := by decide +kernel
theorem dX7_errorsOfTrial_54 : decode cX7_errorsOfTrial 54 = .ok (.if_icmp .ge 64, 3) := by decide +kernel
theorem dX7_errorsOfTrial_57 : decode cX7_errorsOfTrial 57 = .ok (.iload_n 2, 1) := by decide +kernel
theorem dX7_errorsOfTrial_58 : decode cX7_errorsOfTrial 58 = .ok (.iload_n 1, 1) := by decide +kernel
theorem dX7_errorsOfTrial_59 : decode cX7_errorsOfTrial 59 = .ok (.if_icmp .ge 59, 3) := by decide +kernel
theorem dX7_errorsOfTrial_62 : decode cX7_errorsOfTrial 62 = .ok (.aload_n 0, 1) := by decide +kernel
theorem dX7_errorsOfTrial_63 : decode cX7_errorsOfTrial 63 = .ok (.iload 7, 2) := by decide +kernel
theorem dX7_errorsOfTrial_65 : decode cX7_errorsOfTrial 65 = .ok (.aload_n 0, 1) := by decide +kernel
theorem dX7_errorsOfTrial_66 : decode cX7_errorsOfTrial 66 = .ok (.getfield 55, 3) := by decide +kernel
theorem dX7_errorsOfTrial_69 : decode cX7_errorsOfTrial 69 = .ok (.aload 6, 2) := by decide +kernel
theorem dX7_errorsOfTrial_71 : decode cX7_errorsOfTrial 71 = .ok (.invokevirtual 240, 3) := by decide +kernel
theorem dX7_errorsOfTrial_74 : decode cX7_errorsOfTrial 74 = .ok (.istore 8, 2) := by decide +kernel
theorem dX7_errorsOfTrial_76 : decode cX7_errorsOfTrial 76 = .ok (.iload 8, 2) := by decide +kernel
theorem dX7_errorsOfTrial_78 : decode cX7_errorsOfTrial 78 = .ok (.iconst (-1), 1) := by decide +kernel
theorem dX7_errorsOfTrial_79 : decode cX7_errorsOfTrial 79 = .ok (.if_icmp .eq 17, 3) := by decide +kernel
theorem dX7_errorsOfTrial_82 : decode cX7_errorsOfTrial 82 = .ok (.iload_n 2, 1) := by decide +kernel
theorem dX7_errorsOfTrial_83 : decode cX7_errorsOfTrial 83 = .ok (.iload 8, 2) := by decide +kernel
theorem dX7_errorsOfTrial_85 : decode cX7_errorsOfTrial 85 = .ok (.iload 7, 2) := by decide +kernel
theorem dX7_errorsOfTrial_87 : decode cX7_errorsOfTrial 87 = .ok (.isub, 1) := by decide +kernel
theorem dX7_errorsOfTrial_88 : decode cX7_errorsOfTrial 88 = .ok (.invokestatic 215, 3) := by decide +kernel
theorem dX7_errorsOfTrial_91 : decode cX7_errorsOfTrial 91 = .ok (.iadd, 1) := by decide +kernel
theorem dX7_errorsOfTrial_92 : decode cX7_errorsOfTrial 92 = .ok (.istore_n 2, 1) := by decide +kernel
theorem dX7_errorsOfTrial_93 : decode cX7_errorsOfTrial 93 = .ok (.goto 19, 3) := by decide +kernel
theorem dX7_errorsOfTrial_96 : decode cX7_errorsOfTrial 96 = .ok (.aload_n 0, 1) := by decide +kernel
theorem dX7_errorsOfTrial_97 : decode cX7_errorsOfTrial 97 = .ok (.getfield 35, 3) := by decide +kernel
theorem dX7_errorsOfTrial_100 : decode cX7_errorsOfTrial 100 = .ok (.invokevirtual 336, 3) := by decide +kernel
theorem dX7_errorsOfTrial_103 : decode cX7_errorsOfTrial 103 = .ok (.ifCond .eq 9, 3) := by decide +kernel
theorem dX7_errorsOfTrial_106 : decode cX7_errorsOfTrial 106 = .ok (.iinc 2 180, 6) := by decide +kernel
theorem dX7_errorsOfTrial_112 : decode cX7_errorsOfTrial 112 = .ok (.iinc 7 15, 3) := by decide +kernel
theorem dX7_errorsOfTrial_115 : decode cX7_errorsOfTrial 115 = .ok (.goto (-66), 3) := by decide +kernel
theorem dX7_errorsOfTrial_118 : decode cX7_errorsOfTrial 118 = .ok (.iinc 5 1, 3) := by decide +kernel
theorem dX7_errorsOfTrial_121 : decode cX7_errorsOfTrial 121 = .ok (.goto (-107), 3) := by decide +kernel
theorem dX7_errorsOfTrial_124 : decode cX7_errorsOfTrial 124 = .ok (.iload_n 2, 1) := by decide +kernel
theorem dX7_errorsOfTrial_125 : decode cX7_errorsOfTrial 125 = .ok (.ireturn, 1) := by decide +kernel
