theorem dX8_init_0 : decode cX8_init 0 = .ok (.aload_n 0, 1) := by decide +kernel
theorem dX8_init_1 : decode cX8_init 1 = .ok (.invokespecial 1, 3) := by decide +kernel
theorem dX8_init_4 : decode cX8_init 4 = .ok (.aload_n 0, 1) := by decide +kernel
theorem dX8_init_5 : decode cX8_init 5 = .ok (.bipush 8, 2) := by decide +kernel
theorem dX8_init_7 : decode cX8_init 7 = .ok (.newarray .int, 2) := by decide +kernel
theorem dX8_init_9 : decode cX8_init 9 = .ok (.putfield 7, 3) := by decide +kernel
theorem dX8_init_12 : decode cX8_init 12 = .ok (.aload_n 0, 1) := by decide +kernel
theorem dX8_init_13 : decode cX8_init 13 = .ok (.bipush 8, 2) := by decide +kernel
theorem dX8_init_15 : decode cX8_init 15 = .ok (.newarray .int, 2) := by decide +kernel
theorem dX8_init_17 : decode cX8_init 17 = .ok (.putfield 13, 3) := by decide +kernel
theorem dX8_init_20 : decode cX8_init 20 = .ok (.aload_n 0, 1) := by decide +kernel
theorem dX8_init_21 : decode cX8_init 21 = .ok (.iconst (-1), 1) := by decide +kernel
theorem dX8_init_22 : decode cX8_init 22 = .ok (.putfield 16, 3) := by decide +kernel
theorem dX8_init_25 : decode cX8_init 25 = .ok (.aload_n 0, 1) := by decide +kernel
theorem dX8_init_26 : decode cX8_init 26 = .ok (.iconst (-1), 1) := by decide +kernel
theorem dX8_init_27 : decode cX8_init 27 = .ok (.putfield 20, 3) := by decide +kernel
theorem dX8_init_30 : decode cX8_init 30 = .ok (.aload_n 0, 1) := by decide +kernel
theorem dX8_init_31 : decode cX8_init 31 = .ok (.bipush 10, 2) := by decide +kernel
theorem dX8_init_33 : decode cX8_init 33 = .ok (.newarray .int, 2) := by decide +kernel
theorem dX8_init_35 : decode cX8_init 35 = .ok (.putfield 23, 3) := by decide +kernel
theorem dX8_init_38 : decode cX8_init 38 = .ok (.aload_n 0, 1) := by decide +kernel
theorem dX8_init_39 : decode cX8_init 39 = .ok (.bipush 10, 2) := by decide +kernel
theorem dX8_init_41 : decode cX8_init 41 = .ok (.newarray .int, 2) := by decide +kernel
theorem dX8_init_43 : decode cX8_init 43 = .ok (.putfield 26, 3) := by decide +kernel
theorem dX8_init_46 : decode cX8_init 46 = .ok (.aload_n 0, 1) := by decide +kernel
theorem dX8_init_47 : decode cX8_init 47 = .ok (.bipush 10, 2) := by decide +kernel
theorem dX8_init_49 : decode cX8_init 49 = .ok (.newarray .int, 2) := by decide +kernel
theorem dX8_init_51 : decode cX8_init 51 = .ok (.putfield 29, 3) := by decide +kernel
theorem dX8_init_54 : decode cX8_init 54 = .ok (.aload_n 0, 1) := by decide +kernel
theorem dX8_init_55 : decode cX8_init 55 = .ok (.bipush 10, 2) := by decide +kernel
theorem dX8_init_57 : decode cX8_init 57 = .ok (.newarray .int, 2) := by decide +kernel
theorem dX8_init_59 : decode cX8_init 59 = .ok (.putfield 32, 3) := by decide +kernel
theorem dX8_init_62 : decode cX8_init 62 = .ok (.aload_n 0, 1) := by decide +kernel
theorem dX8_init_63 : decode cX8_init 63 = .ok (.bipush 10, 2) := by decide +kernel
theorem dX8_init_65 : decode cX8_init 65 = .ok (.newarray .int, 2) := by decide +kernel
theorem dX8_init_67 : decode cX8_init 67 = .ok (.putfield 35, 3) := by decide +kernel
theorem dX8_init_70 : decode cX8_init 70 = .ok (.aload_n 0, 1) := by decide +kernel
theorem dX8_init_71 : decode cX8_init 71 = .ok (.bipush 10, 2) := by decide +kernel
theorem dX8_init_73 : decode cX8_init 73 = .ok (.newarray .int, 2) := by decide +kernel
theorem dX8_init_75 : decode cX8_init 75 = .ok (.putfield 38, 3) := by decide +kernel
theorem dX8_init_78 : decode cX8_init 78 = .ok (.aload_n 0, 1) := by decide +kernel
theorem dX8_init_79 : decode cX8_init 79 = .ok (.bipush 10, 2) := by decide +kernel
theorem dX8_init_81 : decode cX8_init 81 = .ok (.newarray .int, 2) := by decide +kernel
theorem dX8_init_83 : decode cX8_init 83 = .ok (.putfield 41, 3) := by decide +kernel
theorem dX8_init_86 : decode cX8_init 86 = .ok (.aload_n 0, 1) := by decide +kernel
theorem dX8_init_87 : decode cX8_init 87 = .ok (.sipush 240, 3) := by decide +kernel
theorem dX8_init_90 : decode cX8_init 90 = .ok (.newarray .boolean, 2) := by decide +kernel
theorem dX8_init_92 : decode cX8_init 92 = .ok (.putfield 44, 3) := by decide +kernel
theorem dX8_init_95 : decode cX8_init 95 = .ok (.aload_n 0, 1) := by decide +kernel
theorem dX8_init_96 : decode cX8_init 96 = .ok (.bipush 10, 2) := by decide +kernel
theorem dX8_init_98 : decode cX8_init 98 = .ok (.newarray .int, 2) := by decide +kernel
theorem dX8_init_100 : decode cX8_init 100 = .ok (.putfield 48, 3) := by decide +kernel
theorem dX8_init_103 : decode cX8_init 103 = .ok (.aload_n 0, 1) := by decide +kernel
theorem dX8_init_104 : decode cX8_init 104 = .ok (.bipush 6, 2) := by decide +kernel
theorem dX8_init_106 : decode cX8_init 106 = .ok (.newarray .int, 2) := by decide +kernel
theorem dX8_init_108 : decode cX8_init 108 = .ok (.putfield 51, 3) := by decide +kernel
theorem dX8_init_111 : decode cX8_init 111 = .ok (.aload_n 0, 1) := by decide +kernel
theorem dX8_init_112 : decode cX8_init 112 = .ok (.bipush 6, 2) := by decide +kernel
theorem dX8_init_114 : decode cX8_init 114 = .ok (.newarray .int, 2) := by decide +kernel
theorem dX8_init_116 : decode cX8_init 116 = .ok (.putfield 54, 3) := by decide +kernel
theorem dX8_init_119 : decode cX8_init 119 = .ok (.aload_n 0, 1) := by decide +kernel
theorem dX8_init_120 : decode cX8_init 120 = .ok (.bipush 6, 2) := by decide +kernel
theorem dX8_init_122 : decode cX8_init 122 = .ok (.newarray .int, 2) := by decide +kernel
theorem dX8_init_124 : decode cX8_init 124 = .ok (.putfield 57, 3) := by decide +kernel
theorem dX8_init_127 : decode cX8_init 127 = .ok (.aload_n 0, 1) := by decide +kernel
theorem dX8_init_128 : decode cX8_init 128 = .ok (.bipush 6, 2) := by decide +kernel
theorem dX8_init_130 : decode cX8_init 130 = .ok (.newarray .int, 2) := by decide +kernel
theorem dX8_init_132 : decode cX8_init 132 = .ok (.putfield 60, 3) := by decide +kernel
theorem dX8_init_135 : decode cX8_init 135 = .ok (.aload_n 0, 1) := by decide +kernel
theorem dX8_init_136 : decode cX8_init 136 = .ok (.sipush 360, 3) := by decide +kernel
theorem dX8_init_139 : decode cX8_init 139 = .ok (.newarray .boolean, 2) := by decide +kernel
theorem dX8_init_141 : decode cX8_init 141 = .ok (.putfield 63, 3) := by decide +kernel
theorem dX8_init_144 : decode cX8_init 144 = .ok (.aload_n 0, 1) := by decide +kernel
theorem dX8_init_145 : decode cX8_init 145 = .ok (.sipush 360, 3) := by decide +kernel
theorem dX8_init_148 : decode cX8_init 148 = .ok (.newarray .int, 2) := by decide +kernel
theorem dX8_init_150 : decode cX8_init 150 = .ok (.putfield 66, 3) := by decide +kernel
theorem dX8_init_153 : decode cX8_init 153 = .ok (.aload_n 0, 1) := by decide +kernel
theorem dX8_init_154 : decode cX8_init 154 = .ok (.sipush 360, 3) := by decide +kernel
theorem dX8_init_157 : decode cX8_init 157 = .ok (.newarray .int, 2) := by decide +kernel
theorem dX8_init_159 : decode cX8_init 159 = .ok (.putfield 69, 3) := by decide +kernel
theorem dX8_init_162 : decode cX8_init 162 = .ok (.aload_n 0, 1) := by decide +kernel
theorem dX8_init_163 : decode cX8_init 163 = .ok (.bipush 91, 2) := by decide +kernel
theorem dX8_init_165 : decode cX8_init 165 = .ok (.newarray .int, 2) := by decide +kernel
theorem dX8_init_167 : decode cX8_init 167 = .ok (.putfield 72, 3) := by decide +kernel
theorem dX8_init_170 : decode cX8_init 170 = .ok (.return_, 1) := by decide +kernel
theorem dX8_thrown_0 : decode cX8_thrown 0 = .ok (.aload_n 0, 1) := by decide +kernel
theorem dX8_thrown_1 : decode cX8_thrown 1 = .ok (.getfield 75, 3) := by decide +kernel
theorem dX8_thrown_4 : decode cX8_thrown 4 = .ok (.ireturn, 1) := by decide +kernel
theorem dX8_goesWell_0 : decode cX8_goesWell 0 = .ok (.aload_n 0, 1) := by decide +kernel
theorem dX8_goesWell_1 : decode cX8_goesWell 1 = .ok (.iload_n 1, 1) := by decide +kernel
theorem dX8_goesWell_2 : decode cX8_goesWell 2 = .ok (.putfield 75, 3) := by decide +kernel
theorem dX8_goesWell_5 : decode cX8_goesWell 5 = .ok (.iload_n 1, 1) := by decide +kernel
theorem dX8_goesWell_6 : decode cX8_goesWell 6 = .ok (.ifCond .ne 7, 3) := by decide +kernel
theorem dX8_goesWell_9 : decode cX8_goesWell 9 = .ok (.iconst 1, 1) := by decide +kernel
theorem dX8_goesWell_10 : decode cX8_goesWell 10 = .ok (.goto 4, 3) := by decide +kernel
theorem dX8_goesWell_13 : decode cX8_goesWell 13 = .ok (.iconst 0, 1) := by decide +kernel
theorem dX8_goesWell_14 : decode cX8_goesWell 14 = .ok (.ireturn, 1) := by decide +kernel
theorem dX8_in_0 : decode cX8_in 0 = .ok (.iload_n 0, 1) := by decide +kernel
theorem dX8_in_1 : decode cX8_in 1 = .ok (.iload_n 1, 1) := by decide +kernel
theorem dX8_in_2 : decode cX8_in 2 = .ok (.if_icmp .lt 12, 3) := by decide +kernel
theorem dX8_in_5 : decode cX8_in 5 = .ok (.iload_n 0, 1) := by decide +kernel
theorem dX8_in_6 : decode cX8_in 6 = .ok (.iload_n 2, 1) := by decide +kernel
theorem dX8_in_7 : decode cX8_in 7 = .ok (.if_icmp .gt 7, 3) := by decide +kernel
theorem dX8_in_10 : decode cX8_in 10 = .ok (.iconst 1, 1) := by decide +kernel
theorem dX8_in_11 : decode cX8_in 11 = .ok (.goto 4, 3) := by decide +kernel
theorem dX8_in_14 : decode cX8_in 14 = .ok (.iconst 0, 1) := by decide +kernel
theorem dX8_in_15 : decode cX8_in 15 = .ok (.ireturn, 1) := by decide +kernel
theorem dX8_isDay_0 : decode cX8_isDay 0 = .ok (.iload_n 0, 1) := by decide +kernel
theorem dX8_isDay_1 : decode cX8_isDay 1 = .ok (.iconst 0, 1) := by decide +kernel
theorem dX8_isDay_2 : decode cX8_isDay 2 = .ok (.sipush 359, 3) := by decide +kernel
theorem dX8_isDay_5 : decode cX8_isDay 5 = .ok (.invokestatic 78, 3) := by decide +kernel
theorem dX8_isDay_8 : decode cX8_isDay 8 = .ok (.ireturn, 1) := by decide +kernel
theorem dX8_isTick_0 : decode cX8_isTick 0 = .ok (.iload_n 0, 1) := by decide +kernel
theorem dX8_isTick_1 : decode cX8_isTick 1 = .ok (.iconst 0, 1) := by decide +kernel
theorem dX8_isTick_2 : decode cX8_isTick 2 = .ok (.sipush 359, 3) := by decide +kernel
theorem dX8_isTick_5 : decode cX8_isTick 5 = .ok (.invokestatic 78, 3) := by decide +kernel
theorem dX8_isTick_8 : decode cX8_isTick 8 = .ok (.ireturn, 1) := by decide +kernel
theorem dX8_isPlace_0 : decode cX8_isPlace 0 = .ok (.iload_n 1, 1) := by decide +kernel
theorem dX8_isPlace_1 : decode cX8_isPlace 1 = .ok (.iconst 0, 1) := by decide +kernel
theorem dX8_isPlace_2 : decode cX8_isPlace 2 = .ok (.aload_n 0, 1) := by decide +kernel
theorem dX8_isPlace_3 : decode cX8_isPlace 3 = .ok (.getfield 82, 3) := by decide +kernel
theorem dX8_isPlace_6 : decode cX8_isPlace 6 = .ok (.iconst 1, 1) := by decide +kernel
theorem dX8_isPlace_7 : decode cX8_isPlace 7 = .ok (.isub, 1) := by decide +kernel
theorem dX8_isPlace_8 : decode cX8_isPlace 8 = .ok (.invokestatic 78, 3) := by decide +kernel
theorem dX8_isPlace_11 : decode cX8_isPlace 11 = .ok (.ireturn, 1) := by decide +kernel
theorem dX8_isDial_0 : decode cX8_isDial 0 = .ok (.iload_n 1, 1) := by decide +kernel
theorem dX8_isDial_1 : decode cX8_isDial 1 = .ok (.iconst 0, 1) := by decide +kernel
theorem dX8_isDial_2 : decode cX8_isDial 2 = .ok (.aload_n 0, 1) := by decide +kernel
theorem dX8_isDial_3 : decode cX8_isDial 3 = .ok (.getfield 85, 3) := by decide +kernel
theorem dX8_isDial_6 : decode cX8_isDial 6 = .ok (.iconst 1, 1) := by decide +kernel
theorem dX8_isDial_7 : decode cX8_isDial 7 = .ok (.isub, 1) := by decide +kernel
theorem dX8_isDial_8 : decode cX8_isDial 8 = .ok (.invokestatic 78, 3) := by decide +kernel
theorem dX8_isDial_11 : decode cX8_isDial 11 = .ok (.ireturn, 1) := by decide +kernel
theorem dX8_size_0 : decode cX8_size 0 = .ok (.iload_n 0, 1) := by decide +kernel
theorem dX8_size_1 : decode cX8_size 1 = .ok (.ifCond .ge 8, 3) := by decide +kernel
theorem dX8_size_4 : decode cX8_size 4 = .ok (.iload_n 0, 1) := by decide +kernel
theorem dX8_size_5 : decode cX8_size 5 = .ok (.ineg, 1) := by decide +kernel
theorem dX8_size_6 : decode cX8_size 6 = .ok (.goto 4, 3) := by decide +kernel
theorem dX8_size_9 : decode cX8_size 9 = .ok (.iload_n 0, 1) := by decide +kernel
theorem dX8_size_10 : decode cX8_size 10 = .ok (.ireturn, 1) := by decide +kernel
theorem dX8_down_0 : decode cX8_down 0 = .ok (.lload_n 0, 1) := by decide +kernel
theorem dX8_down_1 : decode cX8_down 1 = .ok (.lload_n 2, 1) := by decide +kernel
theorem dX8_down_2 : decode cX8_down 2 = .ok (.ldiv, 1) := by decide +kernel
theorem dX8_down_3 : decode cX8_down 3 = .ok (.lload_n 0, 1) := by decide +kernel
theorem dX8_down_4 : decode cX8_down 4 = .ok (.lload_n 2, 1) := by decide +kernel
theorem dX8_down_5 : decode cX8_down 5 = .ok (.lrem, 1) := by decide +kernel
theorem dX8_down_6 : decode cX8_down 6 = .ok (.lconst 0, 1) := by decide +kernel
theorem dX8_down_7 : decode cX8_down 7 = .ok (.lcmp, 1) := by decide +kernel
theorem dX8_down_8 : decode cX8_down 8 = .ok (.ifCond .eq 32, 3) := by decide +kernel
theorem dX8_down_11 : decode cX8_down 11 = .ok (.lload_n 0, 1) := by decide +kernel
theorem dX8_down_12 : decode cX8_down 12 = .ok (.lconst 0, 1) := by decide +kernel
theorem dX8_down_13 : decode cX8_down 13 = .ok (.lcmp, 1) := by decide +kernel
theorem dX8_down_14 : decode cX8_down 14 = .ok (.ifCond .ge 7, 3) := by decide +kernel
theorem dX8_down_17 : decode cX8_down 17 = .ok (.iconst 1, 1) := by decide +kernel
theorem dX8_down_18 : decode cX8_down 18 = .ok (.goto 4, 3) := by decide +kernel
theorem dX8_down_21 : decode cX8_down 21 = .ok (.iconst 0, 1) := by decide +kernel
theorem dX8_down_22 : decode cX8_down 22 = .ok (.lload_n 2, 1) := by decide +kernel
theorem dX8_down_23 : decode cX8_down 23 = .ok (.lconst 0, 1) := by decide +kernel
theorem dX8_down_24 : decode cX8_down 24 = .ok (.lcmp, 1) := by decide +kernel
theorem dX8_down_25 : decode cX8_down 25 = .ok (.ifCond .ge 7, 3) := by decide +kernel
theorem dX8_down_28 : decode cX8_down 28 = .ok (.iconst 1, 1) := by decide +kernel
theorem dX8_down_29 : decode cX8_down 29 = .ok (.goto 4, 3) := by decide +kernel
theorem dX8_down_32 : decode cX8_down 32 = .ok (.iconst 0, 1) := by decide +kernel
theorem dX8_down_33 : decode cX8_down 33 = .ok (.if_icmp .eq 7, 3) := by decide +kernel
theorem dX8_down_36 : decode cX8_down 36 = .ok (.lconst 1, 1) := by decide +kernel
theorem dX8_down_37 : decode cX8_down 37 = .ok (.goto 4, 3) := by decide +kernel
theorem dX8_down_40 : decode cX8_down 40 = .ok (.lconst 0, 1) := by decide +kernel
theorem dX8_down_41 : decode cX8_down 41 = .ok (.lsub, 1) := by decide +kernel
theorem dX8_down_42 : decode cX8_down 42 = .ok (.lreturn, 1) := by decide +kernel
theorem dX8_rest_0 : decode cX8_rest 0 = .ok (.iload_n 0, 1) := by decide +kernel
theorem dX8_rest_1 : decode cX8_rest 1 = .ok (.iload_n 1, 1) := by decide +kernel
theorem dX8_rest_2 : decode cX8_rest 2 = .ok (.irem, 1) := by decide +kernel
theorem dX8_rest_3 : decode cX8_rest 3 = .ok (.ifCond .ge 11, 3) := by decide +kernel
theorem dX8_rest_6 : decode cX8_rest 6 = .ok (.iload_n 0, 1) := by decide +kernel
theorem dX8_rest_7 : decode cX8_rest 7 = .ok (.iload_n 1, 1) := by decide +kernel
theorem dX8_rest_8 : decode cX8_rest 8 = .ok (.irem, 1) := by decide +kernel
theorem dX8_rest_9 : decode cX8_rest 9 = .ok (.iload_n 1, 1) := by decide +kernel
theorem dX8_rest_10 : decode cX8_rest 10 = .ok (.iadd, 1) := by decide +kernel
theorem dX8_rest_11 : decode cX8_rest 11 = .ok (.goto 6, 3) := by decide +kernel
theorem dX8_rest_14 : decode cX8_rest 14 = .ok (.iload_n 0, 1) := by decide +kernel
theorem dX8_rest_15 : decode cX8_rest 15 = .ok (.iload_n 1, 1) := by decide +kernel
theorem dX8_rest_16 : decode cX8_rest 16 = .ok (.irem, 1) := by decide +kernel
theorem dX8_rest_17 : decode cX8_rest 17 = .ok (.ireturn, 1) := by decide +kernel
theorem dX8_arc_0 : decode cX8_arc 0 = .ok (.iload_n 0, 1) := by decide +kernel
theorem dX8_arc_1 : decode cX8_arc 1 = .ok (.sipush 180, 3) := by decide +kernel
theorem dX8_arc_4 : decode cX8_arc 4 = .ok (.iload_n 0, 1) := by decide +kernel
theorem dX8_arc_5 : decode cX8_arc 5 = .ok (.isub, 1) := by decide +kernel
theorem dX8_arc_6 : decode cX8_arc 6 = .ok (.imul, 1) := by decide +kernel
theorem dX8_arc_7 : decode cX8_arc 7 = .ok (.istore_n 1, 1) := by decide +kernel
theorem dX8_arc_8 : decode cX8_arc 8 = .ok (.sipush 4000, 3) := by decide +kernel
theorem dX8_arc_11 : decode cX8_arc 11 = .ok (.iload_n 1, 1) := by decide +kernel
theorem dX8_arc_12 : decode cX8_arc 12 = .ok (.imul, 1) := by decide +kernel
theorem dX8_arc_13 : decode cX8_arc 13 = .ok (.ldc 88, 2) := by decide +kernel
theorem dX8_arc_15 : decode cX8_arc 15 = .ok (.iload_n 1, 1) := by decide +kernel
theorem dX8_arc_16 : decode cX8_arc 16 = .ok (.isub, 1) := by decide +kernel
theorem dX8_arc_17 : decode cX8_arc 17 = .ok (.idiv, 1) := by decide +kernel
theorem dX8_arc_18 : decode cX8_arc 18 = .ok (.ireturn, 1) := by decide +kernel
theorem dX8_sin_0 : decode cX8_sin 0 = .ok (.iload_n 0, 1) := by decide +kernel
theorem dX8_sin_1 : decode cX8_sin 1 = .ok (.sipush 360, 3) := by decide +kernel
theorem dX8_sin_4 : decode cX8_sin 4 = .ok (.invokestatic 89, 3) := by decide +kernel
theorem dX8_sin_7 : decode cX8_sin 7 = .ok (.istore_n 1, 1) := by decide +kernel
theorem dX8_sin_8 : decode cX8_sin 8 = .ok (.iload_n 1, 1) := by decide +kernel
theorem dX8_sin_9 : decode cX8_sin 9 = .ok (.sipush 180, 3) := by decide +kernel
theorem dX8_sin_12 : decode cX8_sin 12 = .ok (.if_icmp .gt 10, 3) := by decide +kernel
theorem dX8_sin_15 : decode cX8_sin 15 = .ok (.iload_n 1, 1) := by decide +kernel
theorem dX8_sin_16 : decode cX8_sin 16 = .ok (.invokestatic 93, 3) := by decide +kernel
theorem dX8_sin_19 : decode cX8_sin 19 = .ok (.goto 12, 3) := by decide +kernel
theorem dX8_sin_22 : decode cX8_sin 22 = .ok (.iload_n 1, 1) := by decide +kernel
theorem dX8_sin_23 : decode cX8_sin 23 = .ok (.sipush 180, 3) := by decide +kernel
theorem dX8_sin_26 : decode cX8_sin 26 = .ok (.isub, 1) := by decide +kernel
theorem dX8_sin_27 : decode cX8_sin 27 = .ok (.invokestatic 93, 3) := by decide +kernel
theorem dX8_sin_30 : decode cX8_sin 30 = .ok (.ineg, 1) := by decide +kernel
theorem dX8_sin_31 : decode cX8_sin 31 = .ok (.ireturn, 1) := by decide +kernel
theorem dX8_cos_0 : decode cX8_cos 0 = .ok (.bipush 90, 2) := by decide +kernel
theorem dX8_cos_2 : decode cX8_cos 2 = .ok (.iload_n 0, 1) := by decide +kernel
theorem dX8_cos_3 : decode cX8_cos 3 = .ok (.isub, 1) := by decide +kernel
theorem dX8_cos_4 : decode cX8_cos 4 = .ok (.invokestatic 97, 3) := by decide +kernel
theorem dX8_cos_7 : decode cX8_cos 7 = .ok (.ireturn, 1) := by decide +kernel
theorem dX8_sine_0 : decode cX8_sine 0 = .ok (.aload_n 0, 1) := by decide +kernel
theorem dX8_sine_1 : decode cX8_sine 1 = .ok (.iload_n 1, 1) := by decide +kernel
theorem dX8_sine_2 : decode cX8_sine 2 = .ok (.ldc 100, 2) := by decide +kernel
theorem dX8_sine_4 : decode cX8_sine 4 = .ok (.ldc 101, 2) := by decide +kernel
theorem dX8_sine_6 : decode cX8_sine 6 = .ok (.invokestatic 78, 3) := by decide +kernel
theorem dX8_sine_9 : decode cX8_sine 9 = .ok (.ifCond .eq 7, 3) := by decide +kernel
theorem dX8_sine_12 : decode cX8_sine 12 = .ok (.iconst 0, 1) := by decide +kernel
theorem dX8_sine_13 : decode cX8_sine 13 = .ok (.goto 4, 3) := by decide +kernel
theorem dX8_sine_16 : decode cX8_sine 16 = .ok (.iconst 1, 1) := by decide +kernel
theorem dX8_sine_17 : decode cX8_sine 17 = .ok (.invokevirtual 102, 3) := by decide +kernel
theorem dX8_sine_20 : decode cX8_sine 20 = .ok (.ifCond .eq 10, 3) := by decide +kernel
theorem dX8_sine_23 : decode cX8_sine 23 = .ok (.iload_n 1, 1) := by decide +kernel
theorem dX8_sine_24 : decode cX8_sine 24 = .ok (.invokestatic 97, 3) := by decide +kernel
theorem dX8_sine_27 : decode cX8_sine 27 = .ok (.goto 4, 3) := by decide +kernel
theorem dX8_sine_30 : decode cX8_sine 30 = .ok (.iconst 0, 1) := by decide +kernel
theorem dX8_sine_31 : decode cX8_sine 31 = .ok (.ireturn, 1) := by decide +kernel
theorem dX8_slant_0 : decode cX8_slant 0 = .ok (.bipush 23, 2) := by decide +kernel
theorem dX8_slant_2 : decode cX8_slant 2 = .ok (.iload_n 0, 1) := by decide +kernel
theorem dX8_slant_3 : decode cX8_slant 3 = .ok (.invokestatic 97, 3) := by decide +kernel
theorem dX8_slant_6 : decode cX8_slant 6 = .ok (.imul, 1) := by decide +kernel
theorem dX8_slant_7 : decode cX8_slant 7 = .ok (.sipush 1000, 3) := by decide +kernel
theorem dX8_slant_10 : decode cX8_slant 10 = .ok (.idiv, 1) := by decide +kernel
theorem dX8_slant_11 : decode cX8_slant 11 = .ok (.ireturn, 1) := by decide +kernel
theorem dX8_late_0 : decode cX8_late 0 = .ok (.ldc2_w 106, 3) := by decide +kernel
theorem dX8_late_3 : decode cX8_late 3 = .ok (.iconst 2, 1) := by decide +kernel
theorem dX8_late_4 : decode cX8_late 4 = .ok (.iload_n 0, 1) := by decide +kernel
theorem dX8_late_5 : decode cX8_late 5 = .ok (.imul, 1) := by decide +kernel
theorem dX8_late_6 : decode cX8_late 6 = .ok (.invokestatic 97, 3) := by decide +kernel
theorem dX8_late_9 : decode cX8_late 9 = .ok (.i2l, 1) := by decide +kernel
theorem dX8_late_10 : decode cX8_late 10 = .ok (.lmul, 1) := by decide +kernel
theorem dX8_late_11 : decode cX8_late 11 = .ok (.ldc2_w 108, 3) := by decide +kernel
theorem dX8_late_14 : decode cX8_late 14 = .ok (.iload_n 0, 1) := by decide +kernel
theorem dX8_late_15 : decode cX8_late 15 = .ok (.bipush 80, 2) := by decide +kernel
theorem dX8_late_17 : decode cX8_late 17 = .ok (.iadd, 1) := by decide +kernel
theorem dX8_late_18 : decode cX8_late 18 = .ok (.invokestatic 97, 3) := by decide +kernel
theorem dX8_late_21 : decode cX8_late 21 = .ok (.i2l, 1) := by decide +kernel
theorem dX8_late_22 : decode cX8_late 22 = .ok (.lmul, 1) := by decide +kernel
theorem dX8_late_23 : decode cX8_late 23 = .ok (.lsub, 1) := by decide +kernel
theorem dX8_late_24 : decode cX8_late 24 = .ok (.ldc2_w 110, 3) := by decide +kernel
theorem dX8_late_27 : decode cX8_late 27 = .ok (.invokestatic 112, 3) := by decide +kernel
theorem dX8_late_30 : decode cX8_late 30 = .ok (.l2i, 1) := by decide +kernel
theorem dX8_late_31 : decode cX8_late 31 = .ok (.ireturn, 1) := by decide +kernel
theorem dX8_day_0 : decode cX8_day 0 = .ok (.aload_n 0, 1) := by decide +kernel
theorem dX8_day_1 : decode cX8_day 1 = .ok (.iload_n 1, 1) := by decide +kernel
theorem dX8_day_2 : decode cX8_day 2 = .ok (.invokestatic 116, 3) := by decide +kernel
theorem dX8_day_5 : decode cX8_day 5 = .ok (.ifCond .eq 16, 3) := by decide +kernel
theorem dX8_day_8 : decode cX8_day 8 = .ok (.iload_n 2, 1) := by decide +kernel
theorem dX8_day_9 : decode cX8_day 9 = .ok (.iconst 0, 1) := by decide +kernel
theorem dX8_day_10 : decode cX8_day 10 = .ok (.iconst 1, 1) := by decide +kernel
theorem dX8_day_11 : decode cX8_day 11 = .ok (.invokestatic 78, 3) := by decide +kernel
theorem dX8_day_14 : decode cX8_day 14 = .ok (.ifCond .eq 7, 3) := by decide +kernel
theorem dX8_day_17 : decode cX8_day 17 = .ok (.iconst 0, 1) := by decide +kernel
theorem dX8_day_18 : decode cX8_day 18 = .ok (.goto 4, 3) := by decide +kernel
theorem dX8_day_21 : decode cX8_day 21 = .ok (.iconst 1, 1) := by decide +kernel
theorem dX8_day_22 : decode cX8_day 22 = .ok (.invokevirtual 102, 3) := by decide +kernel
theorem dX8_day_25 : decode cX8_day 25 = .ok (.ifCond .ne 5, 3) := by decide +kernel
theorem dX8_day_28 : decode cX8_day 28 = .ok (.iconst 0, 1) := by decide +kernel
theorem dX8_day_29 : decode cX8_day 29 = .ok (.ireturn, 1) := by decide +kernel
theorem dX8_day_30 : decode cX8_day 30 = .ok (.iload_n 2, 1) := by decide +kernel
theorem dX8_day_31 : decode cX8_day 31 = .ok (.ifCond .ne 10, 3) := by decide +kernel
theorem dX8_day_34 : decode cX8_day 34 = .ok (.iload_n 1, 1) := by decide +kernel
theorem dX8_day_35 : decode cX8_day 35 = .ok (.invokestatic 119, 3) := by decide +kernel
theorem dX8_day_38 : decode cX8_day 38 = .ok (.goto 7, 3) := by decide +kernel
theorem dX8_day_41 : decode cX8_day 41 = .ok (.iload_n 1, 1) := by decide +kernel
theorem dX8_day_42 : decode cX8_day 42 = .ok (.invokestatic 122, 3) := by decide +kernel
theorem dX8_day_45 : decode cX8_day 45 = .ok (.ireturn, 1) := by decide +kernel
theorem dX8_shines_0 : decode cX8_shines 0 = .ok (.iload_n 2, 1) := by decide +kernel
theorem dX8_shines_1 : decode cX8_shines 1 = .ok (.invokestatic 119, 3) := by decide +kernel
theorem dX8_shines_4 : decode cX8_shines 4 = .ok (.istore 4, 2) := by decide +kernel
theorem dX8_shines_6 : decode cX8_shines 6 = .ok (.iload_n 3, 1) := by decide +kernel
theorem dX8_shines_7 : decode cX8_shines 7 = .ok (.sipush 180, 3) := by decide +kernel
theorem dX8_shines_10 : decode cX8_shines 10 = .ok (.isub, 1) := by decide +kernel
theorem dX8_shines_11 : decode cX8_shines 11 = .ok (.istore 5, 2) := by decide +kernel
theorem dX8_shines_13 : decode cX8_shines 13 = .ok (.iload 4, 2) := by decide +kernel
theorem dX8_shines_15 : decode cX8_shines 15 = .ok (.invokestatic 125, 3) := by decide +kernel
theorem dX8_shines_18 : decode cX8_shines 18 = .ok (.i2l, 1) := by decide +kernel
theorem dX8_shines_19 : decode cX8_shines 19 = .ok (.iload 5, 2) := by decide +kernel
theorem dX8_shines_21 : decode cX8_shines 21 = .ok (.invokestatic 125, 3) := by decide +kernel
theorem dX8_shines_24 : decode cX8_shines 24 = .ok (.i2l, 1) := by decide +kernel
theorem dX8_shines_25 : decode cX8_shines 25 = .ok (.lmul, 1) := by decide +kernel
theorem dX8_shines_26 : decode cX8_shines 26 = .ok (.lstore 6, 2) := by decide +kernel
theorem dX8_shines_28 : decode cX8_shines 28 = .ok (.aload_n 0, 1) := by decide +kernel
theorem dX8_shines_29 : decode cX8_shines 29 = .ok (.ldc2_w 110, 3) := by decide +kernel
theorem dX8_shines_32 : decode cX8_shines 32 = .ok (.iload_n 1, 1) := by decide +kernel
theorem dX8_shines_33 : decode cX8_shines 33 = .ok (.invokestatic 97, 3) := by decide +kernel
theorem dX8_shines_36 : decode cX8_shines 36 = .ok (.i2l, 1) := by decide +kernel
theorem dX8_shines_37 : decode cX8_shines 37 = .ok (.lmul, 1) := by decide +kernel
theorem dX8_shines_38 : decode cX8_shines 38 = .ok (.iload 4, 2) := by decide +kernel
theorem dX8_shines_40 : decode cX8_shines 40 = .ok (.invokestatic 97, 3) := by decide +kernel
theorem dX8_shines_43 : decode cX8_shines 43 = .ok (.i2l, 1) := by decide +kernel
theorem dX8_shines_44 : decode cX8_shines 44 = .ok (.lmul, 1) := by decide +kernel
theorem dX8_shines_45 : decode cX8_shines 45 = .ok (.iload_n 1, 1) := by decide +kernel
theorem dX8_shines_46 : decode cX8_shines 46 = .ok (.invokestatic 125, 3) := by decide +kernel
theorem dX8_shines_49 : decode cX8_shines 49 = .ok (.i2l, 1) := by decide +kernel
theorem dX8_shines_50 : decode cX8_shines 50 = .ok (.lload 6, 2) := by decide +kernel
theorem dX8_shines_52 : decode cX8_shines 52 = .ok (.lmul, 1) := by decide +kernel
theorem dX8_shines_53 : decode cX8_shines 53 = .ok (.ladd, 1) := by decide +kernel
theorem dX8_shines_54 : decode cX8_shines 54 = .ok (.putfield 128, 3) := by decide +kernel
theorem dX8_shines_57 : decode cX8_shines 57 = .ok (.aload_n 0, 1) := by decide +kernel
theorem dX8_shines_58 : decode cX8_shines 58 = .ok (.iload_n 1, 1) := by decide +kernel
theorem dX8_shines_59 : decode cX8_shines 59 = .ok (.invokestatic 97, 3) := by decide +kernel
theorem dX8_shines_62 : decode cX8_shines 62 = .ok (.i2l, 1) := by decide +kernel
theorem dX8_shines_63 : decode cX8_shines 63 = .ok (.lload 6, 2) := by decide +kernel
theorem dX8_shines_65 : decode cX8_shines 65 = .ok (.lmul, 1) := by decide +kernel
theorem dX8_shines_66 : decode cX8_shines 66 = .ok (.ldc2_w 110, 3) := by decide +kernel
theorem dX8_shines_69 : decode cX8_shines 69 = .ok (.iload_n 1, 1) := by decide +kernel
theorem dX8_shines_70 : decode cX8_shines 70 = .ok (.invokestatic 125, 3) := by decide +kernel
theorem dX8_shines_73 : decode cX8_shines 73 = .ok (.i2l, 1) := by decide +kernel
theorem dX8_shines_74 : decode cX8_shines 74 = .ok (.lmul, 1) := by decide +kernel
theorem dX8_shines_75 : decode cX8_shines 75 = .ok (.iload 4, 2) := by decide +kernel
theorem dX8_shines_77 : decode cX8_shines 77 = .ok (.invokestatic 97, 3) := by decide +kernel
theorem dX8_shines_80 : decode cX8_shines 80 = .ok (.i2l, 1) := by decide +kernel
theorem dX8_shines_81 : decode cX8_shines 81 = .ok (.lmul, 1) := by decide +kernel
theorem dX8_shines_82 : decode cX8_shines 82 = .ok (.lsub, 1) := by decide +kernel
theorem dX8_shines_83 : decode cX8_shines 83 = .ok (.putfield 132, 3) := by decide +kernel
theorem dX8_shines_86 : decode cX8_shines 86 = .ok (.aload_n 0, 1) := by decide +kernel
theorem dX8_shines_87 : decode cX8_shines 87 = .ok (.ldc2_w 110, 3) := by decide +kernel
theorem dX8_shines_90 : decode cX8_shines 90 = .ok (.iload 4, 2) := by decide +kernel
theorem dX8_shines_92 : decode cX8_shines 92 = .ok (.invokestatic 125, 3) := by decide +kernel
theorem dX8_shines_95 : decode cX8_shines 95 = .ok (.i2l, 1) := by decide +kernel
theorem dX8_shines_96 : decode cX8_shines 96 = .ok (.lmul, 1) := by decide +kernel
theorem dX8_shines_97 : decode cX8_shines 97 = .ok (.iload 5, 2) := by decide +kernel
theorem dX8_shines_99 : decode cX8_shines 99 = .ok (.invokestatic 97, 3) := by decide +kernel
theorem dX8_shines_102 : decode cX8_shines 102 = .ok (.i2l, 1) := by decide +kernel
theorem dX8_shines_103 : decode cX8_shines 103 = .ok (.lmul, 1) := by decide +kernel
theorem dX8_shines_104 : decode cX8_shines 104 = .ok (.putfield 135, 3) := by decide +kernel
theorem dX8_shines_107 : decode cX8_shines 107 = .ok (.aload_n 0, 1) := by decide +kernel
theorem dX8_shines_108 : decode cX8_shines 108 = .ok (.getfield 128, 3) := by decide +kernel
theorem dX8_shines_111 : decode cX8_shines 111 = .ok (.lconst 0, 1) := by decide +kernel
theorem dX8_shines_112 : decode cX8_shines 112 = .ok (.lcmp, 1) := by decide +kernel
theorem dX8_shines_113 : decode cX8_shines 113 = .ok (.ifCond .le 7, 3) := by decide +kernel
theorem dX8_shines_116 : decode cX8_shines 116 = .ok (.iconst 1, 1) := by decide +kernel
theorem dX8_shines_117 : decode cX8_shines 117 = .ok (.goto 4, 3) := by decide +kernel
theorem dX8_shines_120 : decode cX8_shines 120 = .ok (.iconst 0, 1) := by decide +kernel
theorem dX8_shines_121 : decode cX8_shines 121 = .ok (.ireturn, 1) := by decide +kernel
theorem dX8_sun_0 : decode cX8_sun 0 = .ok (.aload_n 0, 1) := by decide +kernel
theorem dX8_sun_1 : decode cX8_sun 1 = .ok (.iload_n 1, 1) := by decide +kernel
theorem dX8_sun_2 : decode cX8_sun 2 = .ok (.bipush (-66), 2) := by decide +kernel
theorem dX8_sun_4 : decode cX8_sun 4 = .ok (.bipush 66, 2) := by decide +kernel
theorem dX8_sun_6 : decode cX8_sun 6 = .ok (.invokestatic 78, 3) := by decide +kernel
theorem dX8_sun_9 : decode cX8_sun 9 = .ok (.ifCond .eq 31, 3) := by decide +kernel
theorem dX8_sun_12 : decode cX8_sun 12 = .ok (.iload_n 2, 1) := by decide +kernel
theorem dX8_sun_13 : decode cX8_sun 13 = .ok (.invokestatic 116, 3) := by decide +kernel
theorem dX8_sun_16 : decode cX8_sun 16 = .ok (.ifCond .eq 24, 3) := by decide +kernel
theorem dX8_sun_19 : decode cX8_sun 19 = .ok (.iload_n 3, 1) := by decide +kernel
theorem dX8_sun_20 : decode cX8_sun 20 = .ok (.invokestatic 138, 3) := by decide +kernel
theorem dX8_sun_23 : decode cX8_sun 23 = .ok (.ifCond .eq 17, 3) := by decide +kernel
theorem dX8_sun_26 : decode cX8_sun 26 = .ok (.iload 4, 2) := by decide +kernel
theorem dX8_sun_28 : decode cX8_sun 28 = .ok (.iconst 0, 1) := by decide +kernel
theorem dX8_sun_29 : decode cX8_sun 29 = .ok (.iconst 2, 1) := by decide +kernel
theorem dX8_sun_30 : decode cX8_sun 30 = .ok (.invokestatic 78, 3) := by decide +kernel
theorem dX8_sun_33 : decode cX8_sun 33 = .ok (.ifCond .eq 7, 3) := by decide +kernel
theorem dX8_sun_36 : decode cX8_sun 36 = .ok (.iconst 0, 1) := by decide +kernel
theorem dX8_sun_37 : decode cX8_sun 37 = .ok (.goto 4, 3) := by decide +kernel
theorem dX8_sun_40 : decode cX8_sun 40 = .ok (.iconst 1, 1) := by decide +kernel
theorem dX8_sun_41 : decode cX8_sun 41 = .ok (.invokevirtual 102, 3) := by decide +kernel
theorem dX8_sun_44 : decode cX8_sun 44 = .ok (.ifCond .ne 5, 3) := by decide +kernel
theorem dX8_sun_47 : decode cX8_sun 47 = .ok (.lconst 0, 1) := by decide +kernel
theorem dX8_sun_48 : decode cX8_sun 48 = .ok (.lreturn, 1) := by decide +kernel
theorem dX8_sun_49 : decode cX8_sun 49 = .ok (.aload_n 0, 1) := by decide +kernel
theorem dX8_sun_50 : decode cX8_sun 50 = .ok (.iload_n 1, 1) := by decide +kernel
theorem dX8_sun_51 : decode cX8_sun 51 = .ok (.iload_n 2, 1) := by decide +kernel
theorem dX8_sun_52 : decode cX8_sun 52 = .ok (.iload_n 3, 1) := by decide +kernel
theorem dX8_sun_53 : decode cX8_sun 53 = .ok (.invokevirtual 141, 3) := by decide +kernel
theorem dX8_sun_56 : decode cX8_sun 56 = .ok (.istore 5, 2) := by decide +kernel
theorem dX8_sun_58 : decode cX8_sun 58 = .ok (.iload 4, 2) := by decide +kernel
theorem dX8_sun_60 : decode cX8_sun 60 = .ok (.ifCond .ne 10, 3) := by decide +kernel
theorem dX8_sun_63 : decode cX8_sun 63 = .ok (.aload_n 0, 1) := by decide +kernel
theorem dX8_sun_64 : decode cX8_sun 64 = .ok (.getfield 128, 3) := by decide +kernel
theorem dX8_sun_67 : decode cX8_sun 67 = .ok (.goto 20, 3) := by decide +kernel
theorem dX8_sun_70 : decode cX8_sun 70 = .ok (.iload 4, 2) := by decide +kernel
theorem dX8_sun_72 : decode cX8_sun 72 = .ok (.iconst 1, 1) := by decide +kernel
theorem dX8_sun_73 : decode cX8_sun 73 = .ok (.if_icmp .ne 10, 3) := by decide +kernel
theorem dX8_sun_76 : decode cX8_sun 76 = .ok (.aload_n 0, 1) := by decide +kernel
theorem dX8_sun_77 : decode cX8_sun 77 = .ok (.getfield 132, 3) := by decide +kernel
theorem dX8_sun_80 : decode cX8_sun 80 = .ok (.goto 7, 3) := by decide +kernel
theorem dX8_sun_83 : decode cX8_sun 83 = .ok (.aload_n 0, 1) := by decide +kernel
theorem dX8_sun_84 : decode cX8_sun 84 = .ok (.getfield 135, 3) := by decide +kernel
theorem dX8_sun_87 : decode cX8_sun 87 = .ok (.lreturn, 1) := by decide +kernel
theorem dX8_place_0 : decode cX8_place 0 = .ok (.iload_n 1, 1) := by decide +kernel
theorem dX8_place_1 : decode cX8_place 1 = .ok (.bipush (-66), 2) := by decide +kernel
theorem dX8_place_3 : decode cX8_place 3 = .ok (.bipush 66, 2) := by decide +kernel
theorem dX8_place_5 : decode cX8_place 5 = .ok (.invokestatic 78, 3) := by decide +kernel
theorem dX8_place_8 : decode cX8_place 8 = .ok (.ifCond .eq 20, 3) := by decide +kernel
theorem dX8_place_11 : decode cX8_place 11 = .ok (.iload_n 2, 1) := by decide +kernel
theorem dX8_place_12 : decode cX8_place 12 = .ok (.sipush (-720), 3) := by decide +kernel
theorem dX8_place_15 : decode cX8_place 15 = .ok (.sipush 720, 3) := by decide +kernel
theorem dX8_place_18 : decode cX8_place 18 = .ok (.invokestatic 78, 3) := by decide +kernel
theorem dX8_place_21 : decode cX8_place 21 = .ok (.ifCond .eq 7, 3) := by decide +kernel
theorem dX8_place_24 : decode cX8_place 24 = .ok (.iconst 1, 1) := by decide +kernel
theorem dX8_place_25 : decode cX8_place 25 = .ok (.goto 4, 3) := by decide +kernel
theorem dX8_place_28 : decode cX8_place 28 = .ok (.iconst 0, 1) := by decide +kernel
theorem dX8_place_29 : decode cX8_place 29 = .ok (.istore_n 3, 1) := by decide +kernel
theorem dX8_place_30 : decode cX8_place 30 = .ok (.aload_n 0, 1) := by decide +kernel
theorem dX8_place_31 : decode cX8_place 31 = .ok (.iload_n 3, 1) := by decide +kernel
theorem dX8_place_32 : decode cX8_place 32 = .ok (.ifCond .ne 7, 3) := by decide +kernel
theorem dX8_place_35 : decode cX8_place 35 = .ok (.iconst 1, 1) := by decide +kernel
theorem dX8_place_36 : decode cX8_place 36 = .ok (.goto 17, 3) := by decide +kernel
theorem dX8_place_39 : decode cX8_place 39 = .ok (.aload_n 0, 1) := by decide +kernel
theorem dX8_place_40 : decode cX8_place 40 = .ok (.getfield 82, 3) := by decide +kernel
theorem dX8_place_43 : decode cX8_place 43 = .ok (.bipush 8, 2) := by decide +kernel
theorem dX8_place_45 : decode cX8_place 45 = .ok (.if_icmp .ne 7, 3) := by decide +kernel
theorem dX8_place_48 : decode cX8_place 48 = .ok (.iconst 2, 1) := by decide +kernel
theorem dX8_place_49 : decode cX8_place 49 = .ok (.goto 4, 3) := by decide +kernel
theorem dX8_place_52 : decode cX8_place 52 = .ok (.iconst 0, 1) := by decide +kernel
theorem dX8_place_53 : decode cX8_place 53 = .ok (.invokevirtual 102, 3) := by decide +kernel
theorem dX8_place_56 : decode cX8_place 56 = .ok (.ifCond .ne 5, 3) := by decide +kernel
theorem dX8_place_59 : decode cX8_place 59 = .ok (.iconst 0, 1) := by decide +kernel
theorem dX8_place_60 : decode cX8_place 60 = .ok (.ireturn, 1) := by decide +kernel
theorem dX8_place_61 : decode cX8_place 61 = .ok (.aload_n 0, 1) := by decide +kernel
theorem dX8_place_62 : decode cX8_place 62 = .ok (.getfield 7, 3) := by decide +kernel
theorem dX8_place_65 : decode cX8_place 65 = .ok (.aload_n 0, 1) := by decide +kernel
theorem dX8_place_66 : decode cX8_place 66 = .ok (.getfield 82, 3) := by decide +kernel
theorem dX8_place_69 : decode cX8_place 69 = .ok (.iload_n 1, 1) := by decide +kernel
theorem dX8_place_70 : decode cX8_place 70 = .ok (.iastore, 1) := by decide +kernel
theorem dX8_place_71 : decode cX8_place 71 = .ok (.aload_n 0, 1) := by decide +kernel
theorem dX8_place_72 : decode cX8_place 72 = .ok (.getfield 13, 3) := by decide +kernel
theorem dX8_place_75 : decode cX8_place 75 = .ok (.aload_n 0, 1) := by decide +kernel
theorem dX8_place_76 : decode cX8_place 76 = .ok (.getfield 82, 3) := by decide +kernel
theorem dX8_place_79 : decode cX8_place 79 = .ok (.iload_n 2, 1) := by decide +kernel
theorem dX8_place_80 : decode cX8_place 80 = .ok (.iastore, 1) := by decide +kernel
theorem dX8_place_81 : decode cX8_place 81 = .ok (.aload_n 0, 1) := by decide +kernel
theorem dX8_place_82 : decode cX8_place 82 = .ok (.dup, 1) := by decide +kernel
theorem dX8_place_83 : decode cX8_place 83 = .ok (.getfield 82, 3) := by decide +kernel
theorem dX8_place_86 : decode cX8_place 86 = .ok (.iconst 1, 1) := by decide +kernel
theorem dX8_place_87 : decode cX8_place 87 = .ok (.iadd, 1) := by decide +kernel
theorem dX8_place_88 : decode cX8_place 88 = .ok (.putfield 82, 3) := by decide +kernel
theorem dX8_place_91 : decode cX8_place 91 = .ok (.aload_n 0, 1) := by decide +kernel
theorem dX8_place_92 : decode cX8_place 92 = .ok (.getfield 82, 3) := by decide +kernel
theorem dX8_place_95 : decode cX8_place 95 = .ok (.iconst 1, 1) := by decide +kernel
theorem dX8_place_96 : decode cX8_place 96 = .ok (.isub, 1) := by decide +kernel
theorem dX8_place_97 : decode cX8_place 97 = .ok (.ireturn, 1) := by decide +kernel
theorem dX8_rise_0 : decode cX8_rise 0 = .ok (.iconst 0, 1) := by decide +kernel
theorem dX8_rise_1 : decode cX8_rise 1 = .ok (.istore_n 3, 1) := by decide +kernel
theorem dX8_rise_2 : decode cX8_rise 2 = .ok (.iload_n 3, 1) := by decide +kernel
theorem dX8_rise_3 : decode cX8_rise 3 = .ok (.sipush 360, 3) := by decide +kernel
theorem dX8_rise_6 : decode cX8_rise 6 = .ok (.if_icmp .ge 21, 3) := by decide +kernel
theorem dX8_rise_9 : decode cX8_rise 9 = .ok (.aload_n 0, 1) := by decide +kernel
theorem dX8_rise_10 : decode cX8_rise 10 = .ok (.iload_n 1, 1) := by decide +kernel
theorem dX8_rise_11 : decode cX8_rise 11 = .ok (.iload_n 2, 1) := by decide +kernel
theorem dX8_rise_12 : decode cX8_rise 12 = .ok (.iload_n 3, 1) := by decide +kernel
theorem dX8_rise_13 : decode cX8_rise 13 = .ok (.invokevirtual 141, 3) := by decide +kernel
theorem dX8_rise_16 : decode cX8_rise 16 = .ok (.ifCond .eq 5, 3) := by decide +kernel
theorem dX8_rise_19 : decode cX8_rise 19 = .ok (.iload_n 3, 1) := by decide +kernel
theorem dX8_rise_20 : decode cX8_rise 20 = .ok (.ireturn, 1) := by decide +kernel
theorem dX8_rise_21 : decode cX8_rise 21 = .ok (.iinc 3 1, 3) := by decide +kernel
theorem dX8_rise_24 : decode cX8_rise 24 = .ok (.goto (-22), 3) := by decide +kernel
theorem dX8_rise_27 : decode cX8_rise 27 = .ok (.iconst (-1), 1) := by decide +kernel
theorem dX8_rise_28 : decode cX8_rise 28 = .ok (.ireturn, 1) := by decide +kernel
theorem dX8_set_0 : decode cX8_set 0 = .ok (.sipush 359, 3) := by decide +kernel
theorem dX8_set_3 : decode cX8_set 3 = .ok (.istore_n 3, 1) := by decide +kernel
theorem dX8_set_4 : decode cX8_set 4 = .ok (.iload_n 3, 1) := by decide +kernel
theorem dX8_set_5 : decode cX8_set 5 = .ok (.ifCond .lt 23, 3) := by decide +kernel
theorem dX8_set_8 : decode cX8_set 8 = .ok (.aload_n 0, 1) := by decide +kernel
theorem dX8_set_9 : decode cX8_set 9 = .ok (.iload_n 1, 1) := by decide +kernel
theorem dX8_set_10 : decode cX8_set 10 = .ok (.iload_n 2, 1) := by decide +kernel
theorem dX8_set_11 : decode cX8_set 11 = .ok (.iload_n 3, 1) := by decide +kernel
theorem dX8_set_12 : decode cX8_set 12 = .ok (.invokevirtual 141, 3) := by decide +kernel
theorem dX8_set_15 : decode cX8_set 15 = .ok (.ifCond .eq 7, 3) := by decide +kernel
theorem dX8_set_18 : decode cX8_set 18 = .ok (.iload_n 3, 1) := by decide +kernel
theorem dX8_set_19 : decode cX8_set 19 = .ok (.iconst 1, 1) := by decide +kernel
theorem dX8_set_20 : decode cX8_set 20 = .ok (.iadd, 1) := by decide +kernel
theorem dX8_set_21 : decode cX8_set 21 = .ok (.ireturn, 1) := by decide +kernel
theorem dX8_set_22 : decode cX8_set 22 = .ok (.iinc 3 (-1), 3) := by decide +kernel
theorem dX8_set_25 : decode cX8_set 25 = .ok (.goto (-21), 3) := by decide +kernel
theorem dX8_set_28 : decode cX8_set 28 = .ok (.iconst (-1), 1) := by decide +kernel
theorem dX8_set_29 : decode cX8_set 29 = .ok (.ireturn, 1) := by decide +kernel
theorem dX8_bright_0 : decode cX8_bright 0 = .ok (.iconst 0, 1) := by decide +kernel
theorem dX8_bright_1 : decode cX8_bright 1 = .ok (.istore_n 3, 1) := by decide +kernel
theorem dX8_bright_2 : decode cX8_bright 2 = .ok (.iconst 0, 1) := by decide +kernel
theorem dX8_bright_3 : decode cX8_bright 3 = .ok (.istore 4, 2) := by decide +kernel
theorem dX8_bright_5 : decode cX8_bright 5 = .ok (.iload 4, 2) := by decide +kernel
theorem dX8_bright_7 : decode cX8_bright 7 = .ok (.sipush 360, 3) := by decide +kernel
theorem dX8_bright_10 : decode cX8_bright 10 = .ok (.if_icmp .ge 28, 3) := by decide +kernel
theorem dX8_bright_13 : decode cX8_bright 13 = .ok (.iload_n 3, 1) := by decide +kernel
theorem dX8_bright_14 : decode cX8_bright 14 = .ok (.aload_n 0, 1) := by decide +kernel
theorem dX8_bright_15 : decode cX8_bright 15 = .ok (.iload_n 1, 1) := by decide +kernel
theorem dX8_bright_16 : decode cX8_bright 16 = .ok (.iload_n 2, 1) := by decide +kernel
theorem dX8_bright_17 : decode cX8_bright 17 = .ok (.iload 4, 2) := by decide +kernel
theorem dX8_bright_19 : decode cX8_bright 19 = .ok (.invokevirtual 141, 3) := by decide +kernel
theorem dX8_bright_22 : decode cX8_bright 22 = .ok (.ifCond .eq 7, 3) := by decide +kernel
theorem dX8_bright_25 : decode cX8_bright 25 = .ok (.iconst 1, 1) := by decide +kernel
theorem dX8_bright_26 : decode cX8_bright 26 = .ok (.goto 4, 3) := by decide +kernel
theorem dX8_bright_29 : decode cX8_bright 29 = .ok (.iconst 0, 1) := by decide +kernel
theorem dX8_bright_30 : decode cX8_bright 30 = .ok (.iadd, 1) := by decide +kernel
theorem dX8_bright_31 : decode cX8_bright 31 = .ok (.istore_n 3, 1) := by decide +kernel
theorem dX8_bright_32 : decode cX8_bright 32 = .ok (.iinc 4 1, 3) := by decide +kernel
theorem dX8_bright_35 : decode cX8_bright 35 = .ok (.goto (-30), 3) := by decide +kernel
theorem dX8_bright_38 : decode cX8_bright 38 = .ok (.iload_n 3, 1) := by decide +kernel
theorem dX8_bright_39 : decode cX8_bright 39 = .ok (.ireturn, 1) := by decide +kernel
theorem dX8_light_0 : decode cX8_light 0 = .ok (.aload_n 0, 1) := by decide +kernel
theorem dX8_light_1 : decode cX8_light 1 = .ok (.iload_n 1, 1) := by decide +kernel
theorem dX8_light_2 : decode cX8_light 2 = .ok (.invokevirtual 144, 3) := by decide +kernel
theorem dX8_light_5 : decode cX8_light 5 = .ok (.istore 4, 2) := by decide +kernel
theorem dX8_light_7 : decode cX8_light 7 = .ok (.aload_n 0, 1) := by decide +kernel
theorem dX8_light_8 : decode cX8_light 8 = .ok (.iload 4, 2) := by decide +kernel
theorem dX8_light_10 : decode cX8_light 10 = .ok (.ifCond .ne 7, 3) := by decide +kernel
theorem dX8_light_13 : decode cX8_light 13 = .ok (.iconst 1, 1) := by decide +kernel
theorem dX8_light_14 : decode cX8_light 14 = .ok (.goto 24, 3) := by decide +kernel
theorem dX8_light_17 : decode cX8_light 17 = .ok (.iload_n 2, 1) := by decide +kernel
theorem dX8_light_18 : decode cX8_light 18 = .ok (.invokestatic 116, 3) := by decide +kernel
theorem dX8_light_21 : decode cX8_light 21 = .ok (.ifCond .eq 16, 3) := by decide +kernel
theorem dX8_light_24 : decode cX8_light 24 = .ok (.iload_n 3, 1) := by decide +kernel
theorem dX8_light_25 : decode cX8_light 25 = .ok (.iconst 0, 1) := by decide +kernel
theorem dX8_light_26 : decode cX8_light 26 = .ok (.iconst 2, 1) := by decide +kernel
theorem dX8_light_27 : decode cX8_light 27 = .ok (.invokestatic 78, 3) := by decide +kernel
theorem dX8_light_30 : decode cX8_light 30 = .ok (.ifCond .eq 7, 3) := by decide +kernel
theorem dX8_light_33 : decode cX8_light 33 = .ok (.iconst 0, 1) := by decide +kernel
theorem dX8_light_34 : decode cX8_light 34 = .ok (.goto 4, 3) := by decide +kernel
theorem dX8_light_37 : decode cX8_light 37 = .ok (.iconst 2, 1) := by decide +kernel
theorem dX8_light_38 : decode cX8_light 38 = .ok (.invokevirtual 102, 3) := by decide +kernel
theorem dX8_light_41 : decode cX8_light 41 = .ok (.ifCond .ne 5, 3) := by decide +kernel
theorem dX8_light_44 : decode cX8_light 44 = .ok (.iconst 0, 1) := by decide +kernel
theorem dX8_light_45 : decode cX8_light 45 = .ok (.ireturn, 1) := by decide +kernel
theorem dX8_light_46 : decode cX8_light 46 = .ok (.iload_n 3, 1) := by decide +kernel
theorem dX8_light_47 : decode cX8_light 47 = .ok (.ifCond .ne 17, 3) := by decide +kernel
theorem dX8_light_50 : decode cX8_light 50 = .ok (.aload_n 0, 1) := by decide +kernel
theorem dX8_light_51 : decode cX8_light 51 = .ok (.aload_n 0, 1) := by decide +kernel
theorem dX8_light_52 : decode cX8_light 52 = .ok (.getfield 7, 3) := by decide +kernel
theorem dX8_light_55 : decode cX8_light 55 = .ok (.iload_n 1, 1) := by decide +kernel
theorem dX8_light_56 : decode cX8_light 56 = .ok (.iaload, 1) := by decide +kernel
theorem dX8_light_57 : decode cX8_light 57 = .ok (.iload_n 2, 1) := by decide +kernel
theorem dX8_light_58 : decode cX8_light 58 = .ok (.invokevirtual 147, 3) := by decide +kernel
theorem dX8_light_61 : decode cX8_light 61 = .ok (.goto 33, 3) := by decide +kernel
theorem dX8_light_64 : decode cX8_light 64 = .ok (.iload_n 3, 1) := by decide +kernel
theorem dX8_light_65 : decode cX8_light 65 = .ok (.iconst 1, 1) := by decide +kernel
theorem dX8_light_66 : decode cX8_light 66 = .ok (.if_icmp .ne 17, 3) := by decide +kernel
theorem dX8_light_69 : decode cX8_light 69 = .ok (.aload_n 0, 1) := by decide +kernel
theorem dX8_light_70 : decode cX8_light 70 = .ok (.aload_n 0, 1) := by decide +kernel
theorem dX8_light_71 : decode cX8_light 71 = .ok (.getfield 7, 3) := by decide +kernel
theorem dX8_light_74 : decode cX8_light 74 = .ok (.iload_n 1, 1) := by decide +kernel
theorem dX8_light_75 : decode cX8_light 75 = .ok (.iaload, 1) := by decide +kernel
theorem dX8_light_76 : decode cX8_light 76 = .ok (.iload_n 2, 1) := by decide +kernel
theorem dX8_light_77 : decode cX8_light 77 = .ok (.invokevirtual 150, 3) := by decide +kernel
theorem dX8_light_80 : decode cX8_light 80 = .ok (.goto 14, 3) := by decide +kernel
theorem dX8_light_83 : decode cX8_light 83 = .ok (.aload_n 0, 1) := by decide +kernel
theorem dX8_light_84 : decode cX8_light 84 = .ok (.aload_n 0, 1) := by decide +kernel
theorem dX8_light_85 : decode cX8_light 85 = .ok (.getfield 7, 3) := by decide +kernel
theorem dX8_light_88 : decode cX8_light 88 = .ok (.iload_n 1, 1) := by decide +kernel
theorem dX8_light_89 : decode cX8_light 89 = .ok (.iaload, 1) := by decide +kernel
theorem dX8_light_90 : decode cX8_light 90 = .ok (.iload_n 2, 1) := by decide +kernel
theorem dX8_light_91 : decode cX8_light 91 = .ok (.invokevirtual 153, 3) := by decide +kernel
theorem dX8_light_94 : decode cX8_light 94 = .ok (.ireturn, 1) := by decide +kernel
theorem dX8_lightAnew_0 : decode cX8_lightAnew 0 = .ok (.aload_n 0, 1) := by decide +kernel
theorem dX8_lightAnew_1 : decode cX8_lightAnew 1 = .ok (.iload_n 1, 1) := by decide +kernel
theorem dX8_lightAnew_2 : decode cX8_lightAnew 2 = .ok (.invokevirtual 144, 3) := by decide +kernel
theorem dX8_lightAnew_5 : decode cX8_lightAnew 5 = .ok (.istore_n 3, 1) := by decide +kernel
theorem dX8_lightAnew_6 : decode cX8_lightAnew 6 = .ok (.aload_n 0, 1) := by decide +kernel
theorem dX8_lightAnew_7 : decode cX8_lightAnew 7 = .ok (.iload_n 3, 1) := by decide +kernel
theorem dX8_lightAnew_8 : decode cX8_lightAnew 8 = .ok (.ifCond .ne 7, 3) := by decide +kernel
theorem dX8_lightAnew_11 : decode cX8_lightAnew 11 = .ok (.iconst 1, 1) := by decide +kernel
theorem dX8_lightAnew_12 : decode cX8_lightAnew 12 = .ok (.goto 15, 3) := by decide +kernel
theorem dX8_lightAnew_15 : decode cX8_lightAnew 15 = .ok (.iload_n 2, 1) := by decide +kernel
theorem dX8_lightAnew_16 : decode cX8_lightAnew 16 = .ok (.invokestatic 116, 3) := by decide +kernel
theorem dX8_lightAnew_19 : decode cX8_lightAnew 19 = .ok (.ifCond .eq 7, 3) := by decide +kernel
theorem dX8_lightAnew_22 : decode cX8_lightAnew 22 = .ok (.iconst 0, 1) := by decide +kernel
theorem dX8_lightAnew_23 : decode cX8_lightAnew 23 = .ok (.goto 4, 3) := by decide +kernel
theorem dX8_lightAnew_26 : decode cX8_lightAnew 26 = .ok (.iconst 2, 1) := by decide +kernel
theorem dX8_lightAnew_27 : decode cX8_lightAnew 27 = .ok (.invokevirtual 102, 3) := by decide +kernel
theorem dX8_lightAnew_30 : decode cX8_lightAnew 30 = .ok (.ifCond .eq 17, 3) := by decide +kernel
theorem dX8_lightAnew_33 : decode cX8_lightAnew 33 = .ok (.aload_n 0, 1) := by decide +kernel
theorem dX8_lightAnew_34 : decode cX8_lightAnew 34 = .ok (.aload_n 0, 1) := by decide +kernel
theorem dX8_lightAnew_35 : decode cX8_lightAnew 35 = .ok (.getfield 7, 3) := by decide +kernel
theorem dX8_lightAnew_38 : decode cX8_lightAnew 38 = .ok (.iload_n 1, 1) := by decide +kernel
theorem dX8_lightAnew_39 : decode cX8_lightAnew 39 = .ok (.iaload, 1) := by decide +kernel
theorem dX8_lightAnew_40 : decode cX8_lightAnew 40 = .ok (.iload_n 2, 1) := by decide +kernel
theorem dX8_lightAnew_41 : decode cX8_lightAnew 41 = .ok (.invokevirtual 153, 3) := by decide +kernel
theorem dX8_lightAnew_44 : decode cX8_lightAnew 44 = .ok (.goto 4, 3) := by decide +kernel
theorem dX8_lightAnew_47 : decode cX8_lightAnew 47 = .ok (.iconst 0, 1) := by decide +kernel
theorem dX8_lightAnew_48 : decode cX8_lightAnew 48 = .ok (.ireturn, 1) := by decide +kernel
theorem dX8_hour_0 : decode cX8_hour 0 = .ok (.aload_n 0, 1) := by decide +kernel
theorem dX8_hour_1 : decode cX8_hour 1 = .ok (.iload_n 1, 1) := by decide +kernel
theorem dX8_hour_2 : decode cX8_hour 2 = .ok (.invokevirtual 144, 3) := by decide +kernel
theorem dX8_hour_5 : decode cX8_hour 5 = .ok (.istore 5, 2) := by decide +kernel
theorem dX8_hour_7 : decode cX8_hour 7 = .ok (.aload_n 0, 1) := by decide +kernel
theorem dX8_hour_8 : decode cX8_hour 8 = .ok (.iload 5, 2) := by decide +kernel
theorem dX8_hour_10 : decode cX8_hour 10 = .ok (.ifCond .ne 7, 3) := by decide +kernel
theorem dX8_hour_13 : decode cX8_hour 13 = .ok (.iconst 1, 1) := by decide +kernel
theorem dX8_hour_14 : decode cX8_hour 14 = .ok (.goto 32, 3) := by decide +kernel
theorem dX8_hour_17 : decode cX8_hour 17 = .ok (.iload_n 2, 1) := by decide +kernel
theorem dX8_hour_18 : decode cX8_hour 18 = .ok (.invokestatic 116, 3) := by decide +kernel
theorem dX8_hour_21 : decode cX8_hour 21 = .ok (.ifCond .eq 24, 3) := by decide +kernel
theorem dX8_hour_24 : decode cX8_hour 24 = .ok (.iload_n 3, 1) := by decide +kernel
theorem dX8_hour_25 : decode cX8_hour 25 = .ok (.invokestatic 138, 3) := by decide +kernel
theorem dX8_hour_28 : decode cX8_hour 28 = .ok (.ifCond .eq 17, 3) := by decide +kernel
theorem dX8_hour_31 : decode cX8_hour 31 = .ok (.iload 4, 2) := by decide +kernel
theorem dX8_hour_33 : decode cX8_hour 33 = .ok (.iconst 0, 1) := by decide +kernel
theorem dX8_hour_34 : decode cX8_hour 34 = .ok (.iconst 3, 1) := by decide +kernel
theorem dX8_hour_35 : decode cX8_hour 35 = .ok (.invokestatic 78, 3) := by decide +kernel
theorem dX8_hour_38 : decode cX8_hour 38 = .ok (.ifCond .eq 7, 3) := by decide +kernel
theorem dX8_hour_41 : decode cX8_hour 41 = .ok (.iconst 0, 1) := by decide +kernel
theorem dX8_hour_42 : decode cX8_hour 42 = .ok (.goto 4, 3) := by decide +kernel
theorem dX8_hour_45 : decode cX8_hour 45 = .ok (.iconst 2, 1) := by decide +kernel
theorem dX8_hour_46 : decode cX8_hour 46 = .ok (.invokevirtual 102, 3) := by decide +kernel
theorem dX8_hour_49 : decode cX8_hour 49 = .ok (.ifCond .ne 5, 3) := by decide +kernel
theorem dX8_hour_52 : decode cX8_hour 52 = .ok (.iconst 0, 1) := by decide +kernel
theorem dX8_hour_53 : decode cX8_hour 53 = .ok (.ireturn, 1) := by decide +kernel
theorem dX8_hour_54 : decode cX8_hour 54 = .ok (.iload 4, 2) := by decide +kernel
theorem dX8_hour_56 : decode cX8_hour 56 = .ok (.iconst 3, 1) := by decide +kernel
theorem dX8_hour_57 : decode cX8_hour 57 = .ok (.if_icmp .ne 59, 3) := by decide +kernel
theorem dX8_hour_60 : decode cX8_hour 60 = .ok (.aload_n 0, 1) := by decide +kernel
theorem dX8_hour_61 : decode cX8_hour 61 = .ok (.getfield 20, 3) := by decide +kernel
theorem dX8_hour_64 : decode cX8_hour 64 = .ok (.iconst (-1), 1) := by decide +kernel
theorem dX8_hour_65 : decode cX8_hour 65 = .ok (.if_icmp .eq 23, 3) := by decide +kernel
theorem dX8_hour_68 : decode cX8_hour 68 = .ok (.iload_n 2, 1) := by decide +kernel
theorem dX8_hour_69 : decode cX8_hour 69 = .ok (.aload_n 0, 1) := by decide +kernel
theorem dX8_hour_70 : decode cX8_hour 70 = .ok (.getfield 16, 3) := by decide +kernel
theorem dX8_hour_73 : decode cX8_hour 73 = .ok (.aload_n 0, 1) := by decide +kernel
theorem dX8_hour_74 : decode cX8_hour 74 = .ok (.getfield 20, 3) := by decide +kernel
theorem dX8_hour_77 : decode cX8_hour 77 = .ok (.invokestatic 78, 3) := by decide +kernel
theorem dX8_hour_80 : decode cX8_hour 80 = .ok (.ifCond .eq 8, 3) := by decide +kernel
theorem dX8_hour_83 : decode cX8_hour 83 = .ok (.bipush 60, 2) := by decide +kernel
theorem dX8_hour_85 : decode cX8_hour 85 = .ok (.goto 4, 3) := by decide +kernel
theorem dX8_hour_88 : decode cX8_hour 88 = .ok (.iconst 0, 1) := by decide +kernel
theorem dX8_hour_89 : decode cX8_hour 89 = .ok (.istore 6, 2) := by decide +kernel
theorem dX8_hour_91 : decode cX8_hour 91 = .ok (.iconst 4, 1) := by decide +kernel
theorem dX8_hour_92 : decode cX8_hour 92 = .ok (.iload_n 3, 1) := by decide +kernel
theorem dX8_hour_93 : decode cX8_hour 93 = .ok (.imul, 1) := by decide +kernel
theorem dX8_hour_94 : decode cX8_hour 94 = .ok (.iload_n 2, 1) := by decide +kernel
theorem dX8_hour_95 : decode cX8_hour 95 = .ok (.invokestatic 122, 3) := by decide +kernel
theorem dX8_hour_98 : decode cX8_hour 98 = .ok (.iadd, 1) := by decide +kernel
theorem dX8_hour_99 : decode cX8_hour 99 = .ok (.aload_n 0, 1) := by decide +kernel
theorem dX8_hour_100 : decode cX8_hour 100 = .ok (.getfield 13, 3) := by decide +kernel
theorem dX8_hour_103 : decode cX8_hour 103 = .ok (.iload_n 1, 1) := by decide +kernel
theorem dX8_hour_104 : decode cX8_hour 104 = .ok (.iaload, 1) := by decide +kernel
theorem dX8_hour_105 : decode cX8_hour 105 = .ok (.isub, 1) := by decide +kernel
theorem dX8_hour_106 : decode cX8_hour 106 = .ok (.iload 6, 2) := by decide +kernel
theorem dX8_hour_108 : decode cX8_hour 108 = .ok (.iadd, 1) := by decide +kernel
theorem dX8_hour_109 : decode cX8_hour 109 = .ok (.sipush 1440, 3) := by decide +kernel
theorem dX8_hour_112 : decode cX8_hour 112 = .ok (.invokestatic 89, 3) := by decide +kernel
theorem dX8_hour_115 : decode cX8_hour 115 = .ok (.ireturn, 1) := by decide +kernel
theorem dX8_hour_116 : decode cX8_hour 116 = .ok (.aload_n 0, 1) := by decide +kernel
theorem dX8_hour_117 : decode cX8_hour 117 = .ok (.aload_n 0, 1) := by decide +kernel
theorem dX8_hour_118 : decode cX8_hour 118 = .ok (.getfield 7, 3) := by decide +kernel
theorem dX8_hour_121 : decode cX8_hour 121 = .ok (.iload_n 1, 1) := by decide +kernel
theorem dX8_hour_122 : decode cX8_hour 122 = .ok (.iaload, 1) := by decide +kernel
theorem dX8_hour_123 : decode cX8_hour 123 = .ok (.iload_n 2, 1) := by decide +kernel
theorem dX8_hour_124 : decode cX8_hour 124 = .ok (.invokevirtual 147, 3) := by decide +kernel
theorem dX8_hour_127 : decode cX8_hour 127 = .ok (.istore 6, 2) := by decide +kernel
theorem dX8_hour_129 : decode cX8_hour 129 = .ok (.aload_n 0, 1) := by decide +kernel
theorem dX8_hour_130 : decode cX8_hour 130 = .ok (.aload_n 0, 1) := by decide +kernel
theorem dX8_hour_131 : decode cX8_hour 131 = .ok (.getfield 7, 3) := by decide +kernel
theorem dX8_hour_134 : decode cX8_hour 134 = .ok (.iload_n 1, 1) := by decide +kernel
theorem dX8_hour_135 : decode cX8_hour 135 = .ok (.iaload, 1) := by decide +kernel
theorem dX8_hour_136 : decode cX8_hour 136 = .ok (.iload_n 2, 1) := by decide +kernel
theorem dX8_hour_137 : decode cX8_hour 137 = .ok (.invokevirtual 150, 3) := by decide +kernel
theorem dX8_hour_140 : decode cX8_hour 140 = .ok (.istore 7, 2) := by decide +kernel
theorem dX8_hour_142 : decode cX8_hour 142 = .ok (.iload 4, 2) := by decide +kernel
theorem dX8_hour_144 : decode cX8_hour 144 = .ok (.iconst 2, 1) := by decide +kernel
theorem dX8_hour_145 : decode cX8_hour 145 = .ok (.if_icmp .ne 28, 3) := by decide +kernel
theorem dX8_hour_148 : decode cX8_hour 148 = .ok (.iload 7, 2) := by decide +kernel
theorem dX8_hour_150 : decode cX8_hour 150 = .ok (.iconst (-1), 1) := by decide +kernel
theorem dX8_hour_151 : decode cX8_hour 151 = .ok (.if_icmp .ne 7, 3) := by decide +kernel
theorem dX8_hour_154 : decode cX8_hour 154 = .ok (.iconst (-1), 1) := by decide +kernel
theorem dX8_hour_155 : decode cX8_hour 155 = .ok (.goto 17, 3) := by decide +kernel
theorem dX8_hour_158 : decode cX8_hour 158 = .ok (.iload_n 3, 1) := by decide +kernel
theorem dX8_hour_159 : decode cX8_hour 159 = .ok (.iload 7, 2) := by decide +kernel
theorem dX8_hour_161 : decode cX8_hour 161 = .ok (.isub, 1) := by decide +kernel
theorem dX8_hour_162 : decode cX8_hour 162 = .ok (.sipush 360, 3) := by decide +kernel
theorem dX8_hour_165 : decode cX8_hour 165 = .ok (.iadd, 1) := by decide +kernel
theorem dX8_hour_166 : decode cX8_hour 166 = .ok (.sipush 360, 3) := by decide +kernel
theorem dX8_hour_169 : decode cX8_hour 169 = .ok (.invokestatic 89, 3) := by decide +kernel
theorem dX8_hour_172 : decode cX8_hour 172 = .ok (.ireturn, 1) := by decide +kernel
theorem dX8_hour_173 : decode cX8_hour 173 = .ok (.aload_n 0, 1) := by decide +kernel
theorem dX8_hour_174 : decode cX8_hour 174 = .ok (.aload_n 0, 1) := by decide +kernel
theorem dX8_hour_175 : decode cX8_hour 175 = .ok (.getfield 7, 3) := by decide +kernel
theorem dX8_hour_178 : decode cX8_hour 178 = .ok (.iload_n 1, 1) := by decide +kernel
theorem dX8_hour_179 : decode cX8_hour 179 = .ok (.iaload, 1) := by decide +kernel
theorem dX8_hour_180 : decode cX8_hour 180 = .ok (.iload_n 2, 1) := by decide +kernel
theorem dX8_hour_181 : decode cX8_hour 181 = .ok (.iload_n 3, 1) := by decide +kernel
theorem dX8_hour_182 : decode cX8_hour 182 = .ok (.invokevirtual 141, 3) := by decide +kernel
theorem dX8_hour_185 : decode cX8_hour 185 = .ok (.ifCond .ne 5, 3) := by decide +kernel
theorem dX8_hour_188 : decode cX8_hour 188 = .ok (.iconst (-1), 1) := by decide +kernel
theorem dX8_hour_189 : decode cX8_hour 189 = .ok (.ireturn, 1) := by decide +kernel
theorem dX8_hour_190 : decode cX8_hour 190 = .ok (.iload 4, 2) := by decide +kernel
theorem dX8_hour_192 : decode cX8_hour 192 = .ok (.ifCond .ne 19, 3) := by decide +kernel
theorem dX8_hour_195 : decode cX8_hour 195 = .ok (.bipush 12, 2) := by decide +kernel
theorem dX8_hour_197 : decode cX8_hour 197 = .ok (.iload_n 3, 1) := by decide +kernel
theorem dX8_hour_198 : decode cX8_hour 198 = .ok (.iload 6, 2) := by decide +kernel
theorem dX8_hour_200 : decode cX8_hour 200 = .ok (.isub, 1) := by decide +kernel
theorem dX8_hour_201 : decode cX8_hour 201 = .ok (.imul, 1) := by decide +kernel
theorem dX8_hour_202 : decode cX8_hour 202 = .ok (.iload 7, 2) := by decide +kernel
theorem dX8_hour_204 : decode cX8_hour 204 = .ok (.iload 6, 2) := by decide +kernel
theorem dX8_hour_206 : decode cX8_hour 206 = .ok (.isub, 1) := by decide +kernel
theorem dX8_hour_207 : decode cX8_hour 207 = .ok (.idiv, 1) := by decide +kernel
theorem dX8_hour_208 : decode cX8_hour 208 = .ok (.goto 7, 3) := by decide +kernel
theorem dX8_hour_211 : decode cX8_hour 211 = .ok (.iload_n 3, 1) := by decide +kernel
theorem dX8_hour_212 : decode cX8_hour 212 = .ok (.iload 6, 2) := by decide +kernel
theorem dX8_hour_214 : decode cX8_hour 214 = .ok (.isub, 1) := by decide +kernel
theorem dX8_hour_215 : decode cX8_hour 215 = .ok (.ireturn, 1) := by decide +kernel
theorem dX8_summer_0 : decode cX8_summer 0 = .ok (.iload_n 1, 1) := by decide +kernel
theorem dX8_summer_1 : decode cX8_summer 1 = .ok (.invokestatic 116, 3) := by decide +kernel
theorem dX8_summer_4 : decode cX8_summer 4 = .ok (.ifCond .eq 23, 3) := by decide +kernel
theorem dX8_summer_7 : decode cX8_summer 7 = .ok (.iload_n 2, 1) := by decide +kernel
theorem dX8_summer_8 : decode cX8_summer 8 = .ok (.iconst (-1), 1) := by decide +kernel
theorem dX8_summer_9 : decode cX8_summer 9 = .ok (.if_icmp .eq 14, 3) := by decide +kernel
theorem dX8_summer_12 : decode cX8_summer 12 = .ok (.iload_n 2, 1) := by decide +kernel
theorem dX8_summer_13 : decode cX8_summer 13 = .ok (.iload_n 1, 1) := by decide +kernel
theorem dX8_summer_14 : decode cX8_summer 14 = .ok (.sipush 359, 3) := by decide +kernel
theorem dX8_summer_17 : decode cX8_summer 17 = .ok (.invokestatic 78, 3) := by decide +kernel
theorem dX8_summer_20 : decode cX8_summer 20 = .ok (.ifCond .eq 7, 3) := by decide +kernel
theorem dX8_summer_23 : decode cX8_summer 23 = .ok (.iconst 1, 1) := by decide +kernel
theorem dX8_summer_24 : decode cX8_summer 24 = .ok (.goto 4, 3) := by decide +kernel
theorem dX8_summer_27 : decode cX8_summer 27 = .ok (.iconst 0, 1) := by decide +kernel
theorem dX8_summer_28 : decode cX8_summer 28 = .ok (.istore_n 3, 1) := by decide +kernel
theorem dX8_summer_29 : decode cX8_summer 29 = .ok (.aload_n 0, 1) := by decide +kernel
theorem dX8_summer_30 : decode cX8_summer 30 = .ok (.iload_n 3, 1) := by decide +kernel
theorem dX8_summer_31 : decode cX8_summer 31 = .ok (.ifCond .eq 7, 3) := by decide +kernel
theorem dX8_summer_34 : decode cX8_summer 34 = .ok (.iconst 0, 1) := by decide +kernel
theorem dX8_summer_35 : decode cX8_summer 35 = .ok (.goto 4, 3) := by decide +kernel
theorem dX8_summer_38 : decode cX8_summer 38 = .ok (.iconst 1, 1) := by decide +kernel
theorem dX8_summer_39 : decode cX8_summer 39 = .ok (.invokevirtual 102, 3) := by decide +kernel
theorem dX8_summer_42 : decode cX8_summer 42 = .ok (.ifCond .eq 13, 3) := by decide +kernel
theorem dX8_summer_45 : decode cX8_summer 45 = .ok (.aload_n 0, 1) := by decide +kernel
theorem dX8_summer_46 : decode cX8_summer 46 = .ok (.iload_n 1, 1) := by decide +kernel
theorem dX8_summer_47 : decode cX8_summer 47 = .ok (.putfield 16, 3) := by decide +kernel
theorem dX8_summer_50 : decode cX8_summer 50 = .ok (.aload_n 0, 1) := by decide +kernel
theorem dX8_summer_51 : decode cX8_summer 51 = .ok (.iload_n 2, 1) := by decide +kernel
theorem dX8_summer_52 : decode cX8_summer 52 = .ok (.putfield 20, 3) := by decide +kernel
theorem dX8_summer_55 : decode cX8_summer 55 = .ok (.return_, 1) := by decide +kernel
theorem dX8_isLay_0 : decode cX8_isLay 0 = .ok (.iload_n 0, 1) := by decide +kernel
theorem dX8_isLay_1 : decode cX8_isLay 1 = .ok (.iconst 0, 1) := by decide +kernel
theorem dX8_isLay_2 : decode cX8_isLay 2 = .ok (.bipush 90, 2) := by decide +kernel
theorem dX8_isLay_4 : decode cX8_isLay 4 = .ok (.invokestatic 78, 3) := by decide +kernel
theorem dX8_isLay_7 : decode cX8_isLay 7 = .ok (.ifCond .eq 20, 3) := by decide +kernel
theorem dX8_isLay_10 : decode cX8_isLay 10 = .ok (.iload_n 1, 1) := by decide +kernel
theorem dX8_isLay_11 : decode cX8_isLay 11 = .ok (.sipush (-180), 3) := by decide +kernel
theorem dX8_isLay_14 : decode cX8_isLay 14 = .ok (.sipush 180, 3) := by decide +kernel
theorem dX8_isLay_17 : decode cX8_isLay 17 = .ok (.invokestatic 78, 3) := by decide +kernel
theorem dX8_isLay_20 : decode cX8_isLay 20 = .ok (.ifCond .eq 7, 3) := by decide +kernel
theorem dX8_isLay_23 : decode cX8_isLay 23 = .ok (.iconst 1, 1) := by decide +kernel
theorem dX8_isLay_24 : decode cX8_isLay 24 = .ok (.goto 4, 3) := by decide +kernel
theorem dX8_isLay_27 : decode cX8_isLay 27 = .ok (.iconst 0, 1) := by decide +kernel
theorem dX8_isLay_28 : decode cX8_isLay 28 = .ok (.ireturn, 1) := by decide +kernel
theorem dX8_dial_0 : decode cX8_dial 0 = .ok (.aload_n 0, 1) := by decide +kernel
theorem dX8_dial_1 : decode cX8_dial 1 = .ok (.iload_n 1, 1) := by decide +kernel
theorem dX8_dial_2 : decode cX8_dial 2 = .ok (.invokevirtual 144, 3) := by decide +kernel
theorem dX8_dial_5 : decode cX8_dial 5 = .ok (.istore 5, 2) := by decide +kernel
theorem dX8_dial_7 : decode cX8_dial 7 = .ok (.iload_n 2, 1) := by decide +kernel
theorem dX8_dial_8 : decode cX8_dial 8 = .ok (.iload_n 3, 1) := by decide +kernel
theorem dX8_dial_9 : decode cX8_dial 9 = .ok (.invokestatic 156, 3) := by decide +kernel
theorem dX8_dial_12 : decode cX8_dial 12 = .ok (.ifCond .eq 19, 3) := by decide +kernel
theorem dX8_dial_15 : decode cX8_dial 15 = .ok (.iload 4, 2) := by decide +kernel
theorem dX8_dial_17 : decode cX8_dial 17 = .ok (.iconst 1, 1) := by decide +kernel
theorem dX8_dial_18 : decode cX8_dial 18 = .ok (.sipush 500, 3) := by decide +kernel
theorem dX8_dial_21 : decode cX8_dial 21 = .ok (.invokestatic 78, 3) := by decide +kernel
theorem dX8_dial_24 : decode cX8_dial 24 = .ok (.ifCond .eq 7, 3) := by decide +kernel
theorem dX8_dial_27 : decode cX8_dial 27 = .ok (.iconst 1, 1) := by decide +kernel
theorem dX8_dial_28 : decode cX8_dial 28 = .ok (.goto 4, 3) := by decide +kernel
theorem dX8_dial_31 : decode cX8_dial 31 = .ok (.iconst 0, 1) := by decide +kernel
theorem dX8_dial_32 : decode cX8_dial 32 = .ok (.istore 6, 2) := by decide +kernel
theorem dX8_dial_34 : decode cX8_dial 34 = .ok (.aload_n 0, 1) := by decide +kernel
theorem dX8_dial_35 : decode cX8_dial 35 = .ok (.iload 5, 2) := by decide +kernel
theorem dX8_dial_37 : decode cX8_dial 37 = .ok (.ifCond .ne 7, 3) := by decide +kernel
theorem dX8_dial_40 : decode cX8_dial 40 = .ok (.iconst 1, 1) := by decide +kernel
theorem dX8_dial_41 : decode cX8_dial 41 = .ok (.goto 26, 3) := by decide +kernel
theorem dX8_dial_44 : decode cX8_dial 44 = .ok (.iload 6, 2) := by decide +kernel
theorem dX8_dial_46 : decode cX8_dial 46 = .ok (.ifCond .ne 7, 3) := by decide +kernel
theorem dX8_dial_49 : decode cX8_dial 49 = .ok (.iconst 2, 1) := by decide +kernel
theorem dX8_dial_50 : decode cX8_dial 50 = .ok (.goto 17, 3) := by decide +kernel
theorem dX8_dial_53 : decode cX8_dial 53 = .ok (.aload_n 0, 1) := by decide +kernel
theorem dX8_dial_54 : decode cX8_dial 54 = .ok (.getfield 85, 3) := by decide +kernel
theorem dX8_dial_57 : decode cX8_dial 57 = .ok (.bipush 10, 2) := by decide +kernel
theorem dX8_dial_59 : decode cX8_dial 59 = .ok (.if_icmp .ne 7, 3) := by decide +kernel
theorem dX8_dial_62 : decode cX8_dial 62 = .ok (.iconst 3, 1) := by decide +kernel
theorem dX8_dial_63 : decode cX8_dial 63 = .ok (.goto 4, 3) := by decide +kernel
theorem dX8_dial_66 : decode cX8_dial 66 = .ok (.iconst 0, 1) := by decide +kernel
theorem dX8_dial_67 : decode cX8_dial 67 = .ok (.invokevirtual 102, 3) := by decide +kernel
theorem dX8_dial_70 : decode cX8_dial 70 = .ok (.ifCond .ne 5, 3) := by decide +kernel
theorem dX8_dial_73 : decode cX8_dial 73 = .ok (.iconst 0, 1) := by decide +kernel
theorem dX8_dial_74 : decode cX8_dial 74 = .ok (.ireturn, 1) := by decide +kernel
theorem dX8_dial_75 : decode cX8_dial 75 = .ok (.aload_n 0, 1) := by decide +kernel
theorem dX8_dial_76 : decode cX8_dial 76 = .ok (.getfield 23, 3) := by decide +kernel
theorem dX8_dial_79 : decode cX8_dial 79 = .ok (.aload_n 0, 1) := by decide +kernel
theorem dX8_dial_80 : decode cX8_dial 80 = .ok (.getfield 85, 3) := by decide +kernel
theorem dX8_dial_83 : decode cX8_dial 83 = .ok (.iload 4, 2) := by decide +kernel
theorem dX8_dial_85 : decode cX8_dial 85 = .ok (.iastore, 1) := by decide +kernel
theorem dX8_dial_86 : decode cX8_dial 86 = .ok (.aload_n 0, 1) := by decide +kernel
theorem dX8_dial_87 : decode cX8_dial 87 = .ok (.getfield 26, 3) := by decide +kernel
theorem dX8_dial_90 : decode cX8_dial 90 = .ok (.aload_n 0, 1) := by decide +kernel
theorem dX8_dial_91 : decode cX8_dial 91 = .ok (.getfield 85, 3) := by decide +kernel
theorem dX8_dial_94 : decode cX8_dial 94 = .ok (.iload_n 1, 1) := by decide +kernel
theorem dX8_dial_95 : decode cX8_dial 95 = .ok (.iastore, 1) := by decide +kernel
theorem dX8_dial_96 : decode cX8_dial 96 = .ok (.aload_n 0, 1) := by decide +kernel
theorem dX8_dial_97 : decode cX8_dial 97 = .ok (.getfield 29, 3) := by decide +kernel
theorem dX8_dial_100 : decode cX8_dial 100 = .ok (.aload_n 0, 1) := by decide +kernel
theorem dX8_dial_101 : decode cX8_dial 101 = .ok (.getfield 85, 3) := by decide +kernel
theorem dX8_dial_104 : decode cX8_dial 104 = .ok (.iload_n 2, 1) := by decide +kernel
theorem dX8_dial_105 : decode cX8_dial 105 = .ok (.iastore, 1) := by decide +kernel
theorem dX8_dial_106 : decode cX8_dial 106 = .ok (.aload_n 0, 1) := by decide +kernel
theorem dX8_dial_107 : decode cX8_dial 107 = .ok (.getfield 32, 3) := by decide +kernel
theorem dX8_dial_110 : decode cX8_dial 110 = .ok (.aload_n 0, 1) := by decide +kernel
theorem dX8_dial_111 : decode cX8_dial 111 = .ok (.getfield 85, 3) := by decide +kernel
theorem dX8_dial_114 : decode cX8_dial 114 = .ok (.iload_n 3, 1) := by decide +kernel
theorem dX8_dial_115 : decode cX8_dial 115 = .ok (.iastore, 1) := by decide +kernel
theorem dX8_dial_116 : decode cX8_dial 116 = .ok (.aload_n 0, 1) := by decide +kernel
theorem dX8_dial_117 : decode cX8_dial 117 = .ok (.getfield 35, 3) := by decide +kernel
theorem dX8_dial_120 : decode cX8_dial 120 = .ok (.aload_n 0, 1) := by decide +kernel
theorem dX8_dial_121 : decode cX8_dial 121 = .ok (.getfield 85, 3) := by decide +kernel
theorem dX8_dial_124 : decode cX8_dial 124 = .ok (.iload_n 1, 1) := by decide +kernel
theorem dX8_dial_125 : decode cX8_dial 125 = .ok (.iastore, 1) := by decide +kernel
theorem dX8_dial_126 : decode cX8_dial 126 = .ok (.aload_n 0, 1) := by decide +kernel
theorem dX8_dial_127 : decode cX8_dial 127 = .ok (.getfield 38, 3) := by decide +kernel
theorem dX8_dial_130 : decode cX8_dial 130 = .ok (.aload_n 0, 1) := by decide +kernel
theorem dX8_dial_131 : decode cX8_dial 131 = .ok (.getfield 85, 3) := by decide +kernel
theorem dX8_dial_134 : decode cX8_dial 134 = .ok (.iload_n 2, 1) := by decide +kernel
theorem dX8_dial_135 : decode cX8_dial 135 = .ok (.iastore, 1) := by decide +kernel
theorem dX8_dial_136 : decode cX8_dial 136 = .ok (.aload_n 0, 1) := by decide +kernel
theorem dX8_dial_137 : decode cX8_dial 137 = .ok (.getfield 41, 3) := by decide +kernel
theorem dX8_dial_140 : decode cX8_dial 140 = .ok (.aload_n 0, 1) := by decide +kernel
theorem dX8_dial_141 : decode cX8_dial 141 = .ok (.getfield 85, 3) := by decide +kernel
theorem dX8_dial_144 : decode cX8_dial 144 = .ok (.iload_n 3, 1) := by decide +kernel
theorem dX8_dial_145 : decode cX8_dial 145 = .ok (.iastore, 1) := by decide +kernel
theorem dX8_dial_146 : decode cX8_dial 146 = .ok (.aload_n 0, 1) := by decide +kernel
theorem dX8_dial_147 : decode cX8_dial 147 = .ok (.dup, 1) := by decide +kernel
theorem dX8_dial_148 : decode cX8_dial 148 = .ok (.getfield 85, 3) := by decide +kernel
theorem dX8_dial_151 : decode cX8_dial 151 = .ok (.iconst 1, 1) := by decide +kernel
theorem dX8_dial_152 : decode cX8_dial 152 = .ok (.iadd, 1) := by decide +kernel
theorem dX8_dial_153 : decode cX8_dial 153 = .ok (.putfield 85, 3) := by decide +kernel
theorem dX8_dial_156 : decode cX8_dial 156 = .ok (.aload_n 0, 1) := by decide +kernel
theorem dX8_dial_157 : decode cX8_dial 157 = .ok (.getfield 85, 3) := by decide +kernel
theorem dX8_dial_160 : decode cX8_dial 160 = .ok (.iconst 1, 1) := by decide +kernel
theorem dX8_dial_161 : decode cX8_dial 161 = .ok (.isub, 1) := by decide +kernel
theorem dX8_dial_162 : decode cX8_dial 162 = .ok (.ireturn, 1) := by decide +kernel
theorem dX8_stand_0 : decode cX8_stand 0 = .ok (.aload_n 0, 1) := by decide +kernel
theorem dX8_stand_1 : decode cX8_stand 1 = .ok (.iload_n 1, 1) := by decide +kernel
theorem dX8_stand_2 : decode cX8_stand 2 = .ok (.invokevirtual 160, 3) := by decide +kernel
theorem dX8_stand_5 : decode cX8_stand 5 = .ok (.ifCond .eq 15, 3) := by decide +kernel
theorem dX8_stand_8 : decode cX8_stand 8 = .ok (.aload_n 0, 1) := by decide +kernel
theorem dX8_stand_9 : decode cX8_stand 9 = .ok (.iload_n 2, 1) := by decide +kernel
theorem dX8_stand_10 : decode cX8_stand 10 = .ok (.invokevirtual 144, 3) := by decide +kernel
theorem dX8_stand_13 : decode cX8_stand 13 = .ok (.ifCond .eq 7, 3) := by decide +kernel
theorem dX8_stand_16 : decode cX8_stand 16 = .ok (.iconst 1, 1) := by decide +kernel
theorem dX8_stand_17 : decode cX8_stand 17 = .ok (.goto 4, 3) := by decide +kernel
theorem dX8_stand_20 : decode cX8_stand 20 = .ok (.iconst 0, 1) := by decide +kernel
theorem dX8_stand_21 : decode cX8_stand 21 = .ok (.istore 5, 2) := by decide +kernel
theorem dX8_stand_23 : decode cX8_stand 23 = .ok (.aload_n 0, 1) := by decide +kernel
theorem dX8_stand_24 : decode cX8_stand 24 = .ok (.iload 5, 2) := by decide +kernel
theorem dX8_stand_26 : decode cX8_stand 26 = .ok (.ifCond .ne 7, 3) := by decide +kernel
theorem dX8_stand_29 : decode cX8_stand 29 = .ok (.iconst 1, 1) := by decide +kernel
theorem dX8_stand_30 : decode cX8_stand 30 = .ok (.goto 17, 3) := by decide +kernel
theorem dX8_stand_33 : decode cX8_stand 33 = .ok (.iload_n 3, 1) := by decide +kernel
theorem dX8_stand_34 : decode cX8_stand 34 = .ok (.iload 4, 2) := by decide +kernel
theorem dX8_stand_36 : decode cX8_stand 36 = .ok (.invokestatic 156, 3) := by decide +kernel
theorem dX8_stand_39 : decode cX8_stand 39 = .ok (.ifCond .eq 7, 3) := by decide +kernel
theorem dX8_stand_42 : decode cX8_stand 42 = .ok (.iconst 0, 1) := by decide +kernel
theorem dX8_stand_43 : decode cX8_stand 43 = .ok (.goto 4, 3) := by decide +kernel
theorem dX8_stand_46 : decode cX8_stand 46 = .ok (.iconst 2, 1) := by decide +kernel
theorem dX8_stand_47 : decode cX8_stand 47 = .ok (.invokevirtual 102, 3) := by decide +kernel
theorem dX8_stand_50 : decode cX8_stand 50 = .ok (.ifCond .ne 5, 3) := by decide +kernel
theorem dX8_stand_53 : decode cX8_stand 53 = .ok (.iconst 0, 1) := by decide +kernel
theorem dX8_stand_54 : decode cX8_stand 54 = .ok (.ireturn, 1) := by decide +kernel
theorem dX8_stand_55 : decode cX8_stand 55 = .ok (.aload_n 0, 1) := by decide +kernel
theorem dX8_stand_56 : decode cX8_stand 56 = .ok (.getfield 35, 3) := by decide +kernel
theorem dX8_stand_59 : decode cX8_stand 59 = .ok (.iload_n 1, 1) := by decide +kernel
theorem dX8_stand_60 : decode cX8_stand 60 = .ok (.iaload, 1) := by decide +kernel
theorem dX8_stand_61 : decode cX8_stand 61 = .ok (.istore 6, 2) := by decide +kernel
theorem dX8_stand_63 : decode cX8_stand 63 = .ok (.aload_n 0, 1) := by decide +kernel
theorem dX8_stand_64 : decode cX8_stand 64 = .ok (.getfield 35, 3) := by decide +kernel
theorem dX8_stand_67 : decode cX8_stand 67 = .ok (.iload_n 1, 1) := by decide +kernel
theorem dX8_stand_68 : decode cX8_stand 68 = .ok (.iload_n 2, 1) := by decide +kernel
theorem dX8_stand_69 : decode cX8_stand 69 = .ok (.iastore, 1) := by decide +kernel
theorem dX8_stand_70 : decode cX8_stand 70 = .ok (.aload_n 0, 1) := by decide +kernel
theorem dX8_stand_71 : decode cX8_stand 71 = .ok (.getfield 38, 3) := by decide +kernel
theorem dX8_stand_74 : decode cX8_stand 74 = .ok (.iload_n 1, 1) := by decide +kernel
theorem dX8_stand_75 : decode cX8_stand 75 = .ok (.iload_n 3, 1) := by decide +kernel
theorem dX8_stand_76 : decode cX8_stand 76 = .ok (.iastore, 1) := by decide +kernel
theorem dX8_stand_77 : decode cX8_stand 77 = .ok (.aload_n 0, 1) := by decide +kernel
theorem dX8_stand_78 : decode cX8_stand 78 = .ok (.getfield 41, 3) := by decide +kernel
theorem dX8_stand_81 : decode cX8_stand 81 = .ok (.iload_n 1, 1) := by decide +kernel
theorem dX8_stand_82 : decode cX8_stand 82 = .ok (.iload 4, 2) := by decide +kernel
theorem dX8_stand_84 : decode cX8_stand 84 = .ok (.iastore, 1) := by decide +kernel
theorem dX8_stand_85 : decode cX8_stand 85 = .ok (.iload 6, 2) := by decide +kernel
theorem dX8_stand_87 : decode cX8_stand 87 = .ok (.ireturn, 1) := by decide +kernel
theorem dX8_falls_0 : decode cX8_falls 0 = .ok (.aload_n 0, 1) := by decide +kernel
theorem dX8_falls_1 : decode cX8_falls 1 = .ok (.iload_n 1, 1) := by decide +kernel
theorem dX8_falls_2 : decode cX8_falls 2 = .ok (.iload_n 2, 1) := by decide +kernel
theorem dX8_falls_3 : decode cX8_falls 3 = .ok (.iload_n 3, 1) := by decide +kernel
theorem dX8_falls_4 : decode cX8_falls 4 = .ok (.invokevirtual 141, 3) := by decide +kernel
theorem dX8_falls_7 : decode cX8_falls 7 = .ok (.ifCond .ne 5, 3) := by decide +kernel
theorem dX8_falls_10 : decode cX8_falls 10 = .ok (.iconst 0, 1) := by decide +kernel
theorem dX8_falls_11 : decode cX8_falls 11 = .ok (.ireturn, 1) := by decide +kernel
theorem dX8_falls_12 : decode cX8_falls 12 = .ok (.aload_n 0, 1) := by decide +kernel
theorem dX8_falls_13 : decode cX8_falls 13 = .ok (.getfield 132, 3) := by decide +kernel
theorem dX8_falls_16 : decode cX8_falls 16 = .ok (.iload 5, 2) := by decide +kernel
theorem dX8_falls_18 : decode cX8_falls 18 = .ok (.invokestatic 125, 3) := by decide +kernel
theorem dX8_falls_21 : decode cX8_falls 21 = .ok (.i2l, 1) := by decide +kernel
theorem dX8_falls_22 : decode cX8_falls 22 = .ok (.lmul, 1) := by decide +kernel
theorem dX8_falls_23 : decode cX8_falls 23 = .ok (.aload_n 0, 1) := by decide +kernel
theorem dX8_falls_24 : decode cX8_falls 24 = .ok (.getfield 135, 3) := by decide +kernel
theorem dX8_falls_27 : decode cX8_falls 27 = .ok (.iload 5, 2) := by decide +kernel
theorem dX8_falls_29 : decode cX8_falls 29 = .ok (.invokestatic 97, 3) := by decide +kernel
theorem dX8_falls_32 : decode cX8_falls 32 = .ok (.i2l, 1) := by decide +kernel
theorem dX8_falls_33 : decode cX8_falls 33 = .ok (.lmul, 1) := by decide +kernel
theorem dX8_falls_34 : decode cX8_falls 34 = .ok (.ladd, 1) := by decide +kernel
theorem dX8_falls_35 : decode cX8_falls 35 = .ok (.lstore 7, 2) := by decide +kernel
theorem dX8_falls_37 : decode cX8_falls 37 = .ok (.ldc2_w 110, 3) := by decide +kernel
theorem dX8_falls_40 : decode cX8_falls 40 = .ok (.aload_n 0, 1) := by decide +kernel
theorem dX8_falls_41 : decode cX8_falls 41 = .ok (.getfield 128, 3) := by decide +kernel
theorem dX8_falls_44 : decode cX8_falls 44 = .ok (.lmul, 1) := by decide +kernel
theorem dX8_falls_45 : decode cX8_falls 45 = .ok (.iload 4, 2) := by decide +kernel
theorem dX8_falls_47 : decode cX8_falls 47 = .ok (.invokestatic 125, 3) := by decide +kernel
theorem dX8_falls_50 : decode cX8_falls 50 = .ok (.i2l, 1) := by decide +kernel
theorem dX8_falls_51 : decode cX8_falls 51 = .ok (.lmul, 1) := by decide +kernel
theorem dX8_falls_52 : decode cX8_falls 52 = .ok (.lload 7, 2) := by decide +kernel
theorem dX8_falls_54 : decode cX8_falls 54 = .ok (.iload 4, 2) := by decide +kernel
theorem dX8_falls_56 : decode cX8_falls 56 = .ok (.invokestatic 97, 3) := by decide +kernel
theorem dX8_falls_59 : decode cX8_falls 59 = .ok (.i2l, 1) := by decide +kernel
theorem dX8_falls_60 : decode cX8_falls 60 = .ok (.lmul, 1) := by decide +kernel
theorem dX8_falls_61 : decode cX8_falls 61 = .ok (.ladd, 1) := by decide +kernel
theorem dX8_falls_62 : decode cX8_falls 62 = .ok (.lstore 9, 2) := by decide +kernel
theorem dX8_falls_64 : decode cX8_falls 64 = .ok (.lload 9, 2) := by decide +kernel
theorem dX8_falls_66 : decode cX8_falls 66 = .ok (.lconst 0, 1) := by decide +kernel
theorem dX8_falls_67 : decode cX8_falls 67 = .ok (.lcmp, 1) := by decide +kernel
theorem dX8_falls_68 : decode cX8_falls 68 = .ok (.ifCond .gt 5, 3) := by decide +kernel
theorem dX8_falls_71 : decode cX8_falls 71 = .ok (.iconst 0, 1) := by decide +kernel
theorem dX8_falls_72 : decode cX8_falls 72 = .ok (.ireturn, 1) := by decide +kernel
theorem dX8_falls_73 : decode cX8_falls 73 = .ok (.ldc2_w 110, 3) := by decide +kernel
theorem dX8_falls_76 : decode cX8_falls 76 = .ok (.aload_n 0, 1) := by decide +kernel
theorem dX8_falls_77 : decode cX8_falls 77 = .ok (.getfield 135, 3) := by decide +kernel
theorem dX8_falls_80 : decode cX8_falls 80 = .ok (.iload 5, 2) := by decide +kernel
theorem dX8_falls_82 : decode cX8_falls 82 = .ok (.invokestatic 125, 3) := by decide +kernel
theorem dX8_falls_85 : decode cX8_falls 85 = .ok (.i2l, 1) := by decide +kernel
theorem dX8_falls_86 : decode cX8_falls 86 = .ok (.lmul, 1) := by decide +kernel
theorem dX8_falls_87 : decode cX8_falls 87 = .ok (.aload_n 0, 1) := by decide +kernel
theorem dX8_falls_88 : decode cX8_falls 88 = .ok (.getfield 132, 3) := by decide +kernel
theorem dX8_falls_91 : decode cX8_falls 91 = .ok (.iload 5, 2) := by decide +kernel
theorem dX8_falls_93 : decode cX8_falls 93 = .ok (.invokestatic 97, 3) := by decide +kernel
theorem dX8_falls_96 : decode cX8_falls 96 = .ok (.i2l, 1) := by decide +kernel
theorem dX8_falls_97 : decode cX8_falls 97 = .ok (.lmul, 1) := by decide +kernel
theorem dX8_falls_98 : decode cX8_falls 98 = .ok (.lsub, 1) := by decide +kernel
theorem dX8_falls_99 : decode cX8_falls 99 = .ok (.lmul, 1) := by decide +kernel
theorem dX8_falls_100 : decode cX8_falls 100 = .ok (.lstore 11, 2) := by decide +kernel
theorem dX8_falls_102 : decode cX8_falls 102 = .ok (.ldc2_w 110, 3) := by decide +kernel
theorem dX8_falls_105 : decode cX8_falls 105 = .ok (.aload_n 0, 1) := by decide +kernel
theorem dX8_falls_106 : decode cX8_falls 106 = .ok (.getfield 128, 3) := by decide +kernel
theorem dX8_falls_109 : decode cX8_falls 109 = .ok (.lmul, 1) := by decide +kernel
theorem dX8_falls_110 : decode cX8_falls 110 = .ok (.iload 4, 2) := by decide +kernel
theorem dX8_falls_112 : decode cX8_falls 112 = .ok (.invokestatic 97, 3) := by decide +kernel
theorem dX8_falls_115 : decode cX8_falls 115 = .ok (.i2l, 1) := by decide +kernel
theorem dX8_falls_116 : decode cX8_falls 116 = .ok (.lmul, 1) := by decide +kernel
theorem dX8_falls_117 : decode cX8_falls 117 = .ok (.lload 7, 2) := by decide +kernel
theorem dX8_falls_119 : decode cX8_falls 119 = .ok (.iload 4, 2) := by decide +kernel
theorem dX8_falls_121 : decode cX8_falls 121 = .ok (.invokestatic 125, 3) := by decide +kernel
theorem dX8_falls_124 : decode cX8_falls 124 = .ok (.i2l, 1) := by decide +kernel
theorem dX8_falls_125 : decode cX8_falls 125 = .ok (.lmul, 1) := by decide +kernel
theorem dX8_falls_126 : decode cX8_falls 126 = .ok (.lsub, 1) := by decide +kernel
theorem dX8_falls_127 : decode cX8_falls 127 = .ok (.lstore 13, 2) := by decide +kernel
theorem dX8_falls_129 : decode cX8_falls 129 = .ok (.iload 6, 2) := by decide +kernel
theorem dX8_falls_131 : decode cX8_falls 131 = .ok (.i2l, 1) := by decide +kernel
theorem dX8_falls_132 : decode cX8_falls 132 = .ok (.lload 11, 2) := by decide +kernel
theorem dX8_falls_134 : decode cX8_falls 134 = .ok (.lmul, 1) := by decide +kernel
theorem dX8_falls_135 : decode cX8_falls 135 = .ok (.lneg, 1) := by decide +kernel
theorem dX8_falls_136 : decode cX8_falls 136 = .ok (.lload 9, 2) := by decide +kernel
theorem dX8_falls_138 : decode cX8_falls 138 = .ok (.invokestatic 112, 3) := by decide +kernel
theorem dX8_falls_141 : decode cX8_falls 141 = .ok (.lstore 15, 2) := by decide +kernel
theorem dX8_falls_143 : decode cX8_falls 143 = .ok (.iload 6, 2) := by decide +kernel
theorem dX8_falls_145 : decode cX8_falls 145 = .ok (.i2l, 1) := by decide +kernel
theorem dX8_falls_146 : decode cX8_falls 146 = .ok (.lload 13, 2) := by decide +kernel
theorem dX8_falls_148 : decode cX8_falls 148 = .ok (.lmul, 1) := by decide +kernel
theorem dX8_falls_149 : decode cX8_falls 149 = .ok (.lneg, 1) := by decide +kernel
theorem dX8_falls_150 : decode cX8_falls 150 = .ok (.lload 9, 2) := by decide +kernel
theorem dX8_falls_152 : decode cX8_falls 152 = .ok (.invokestatic 112, 3) := by decide +kernel
theorem dX8_falls_155 : decode cX8_falls 155 = .ok (.lstore 17, 2) := by decide +kernel
theorem dX8_falls_157 : decode cX8_falls 157 = .ok (.lload 15, 2) := by decide +kernel
theorem dX8_falls_159 : decode cX8_falls 159 = .ok (.ldc2_w 163, 3) := by decide +kernel
theorem dX8_falls_162 : decode cX8_falls 162 = .ok (.lcmp, 1) := by decide +kernel
theorem dX8_falls_163 : decode cX8_falls 163 = .ok (.ifCond .lt 34, 3) := by decide +kernel
theorem dX8_falls_166 : decode cX8_falls 166 = .ok (.lload 15, 2) := by decide +kernel
theorem dX8_falls_168 : decode cX8_falls 168 = .ok (.ldc2_w 165, 3) := by decide +kernel
theorem dX8_falls_171 : decode cX8_falls 171 = .ok (.lcmp, 1) := by decide +kernel
theorem dX8_falls_172 : decode cX8_falls 172 = .ok (.ifCond .gt 25, 3) := by decide +kernel
theorem dX8_falls_175 : decode cX8_falls 175 = .ok (.lload 17, 2) := by decide +kernel
theorem dX8_falls_177 : decode cX8_falls 177 = .ok (.ldc2_w 163, 3) := by decide +kernel
theorem dX8_falls_180 : decode cX8_falls 180 = .ok (.lcmp, 1) := by decide +kernel
theorem dX8_falls_181 : decode cX8_falls 181 = .ok (.ifCond .lt 16, 3) := by decide +kernel
theorem dX8_falls_184 : decode cX8_falls 184 = .ok (.lload 17, 2) := by decide +kernel
theorem dX8_falls_186 : decode cX8_falls 186 = .ok (.ldc2_w 165, 3) := by decide +kernel
theorem dX8_falls_189 : decode cX8_falls 189 = .ok (.lcmp, 1) := by decide +kernel
theorem dX8_falls_190 : decode cX8_falls 190 = .ok (.ifCond .gt 7, 3) := by decide +kernel
theorem dX8_falls_193 : decode cX8_falls 193 = .ok (.iconst 1, 1) := by decide +kernel
theorem dX8_falls_194 : decode cX8_falls 194 = .ok (.goto 4, 3) := by decide +kernel
theorem dX8_falls_197 : decode cX8_falls 197 = .ok (.iconst 0, 1) := by decide +kernel
theorem dX8_falls_198 : decode cX8_falls 198 = .ok (.istore 19, 2) := by decide +kernel
theorem dX8_falls_200 : decode cX8_falls 200 = .ok (.aload_n 0, 1) := by decide +kernel
theorem dX8_falls_201 : decode cX8_falls 201 = .ok (.iload 19, 2) := by decide +kernel
theorem dX8_falls_203 : decode cX8_falls 203 = .ok (.ifCond .eq 9, 3) := by decide +kernel
theorem dX8_falls_206 : decode cX8_falls 206 = .ok (.lload 15, 2) := by decide +kernel
theorem dX8_falls_208 : decode cX8_falls 208 = .ok (.l2i, 1) := by decide +kernel
theorem dX8_falls_209 : decode cX8_falls 209 = .ok (.goto 4, 3) := by decide +kernel
theorem dX8_falls_212 : decode cX8_falls 212 = .ok (.iconst 0, 1) := by decide +kernel
theorem dX8_falls_213 : decode cX8_falls 213 = .ok (.putfield 167, 3) := by decide +kernel
theorem dX8_falls_216 : decode cX8_falls 216 = .ok (.aload_n 0, 1) := by decide +kernel
theorem dX8_falls_217 : decode cX8_falls 217 = .ok (.iload 19, 2) := by decide +kernel
theorem dX8_falls_219 : decode cX8_falls 219 = .ok (.ifCond .eq 9, 3) := by decide +kernel
