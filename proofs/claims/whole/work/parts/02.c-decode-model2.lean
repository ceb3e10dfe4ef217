theorem dX8_falls_222 : decode cX8_falls 222 = .ok (.lload 17, 2) := by decide +kernel
theorem dX8_falls_224 : decode cX8_falls 224 = .ok (.l2i, 1) := by decide +kernel
theorem dX8_falls_225 : decode cX8_falls 225 = .ok (.goto 4, 3) := by decide +kernel
theorem dX8_falls_228 : decode cX8_falls 228 = .ok (.iconst 0, 1) := by decide +kernel
theorem dX8_falls_229 : decode cX8_falls 229 = .ok (.putfield 170, 3) := by decide +kernel
theorem dX8_falls_232 : decode cX8_falls 232 = .ok (.iload 19, 2) := by decide +kernel
theorem dX8_falls_234 : decode cX8_falls 234 = .ok (.ireturn, 1) := by decide +kernel
theorem dX8_fallsAsItStands_0 : decode cX8_fallsAsItStands 0 = .ok (.aload_n 0, 1) := by decide +kernel
theorem dX8_fallsAsItStands_1 : decode cX8_fallsAsItStands 1 = .ok (.aload_n 0, 1) := by decide +kernel
theorem dX8_fallsAsItStands_2 : decode cX8_fallsAsItStands 2 = .ok (.getfield 7, 3) := by decide +kernel
theorem dX8_fallsAsItStands_5 : decode cX8_fallsAsItStands 5 = .ok (.aload_n 0, 1) := by decide +kernel
theorem dX8_fallsAsItStands_6 : decode cX8_fallsAsItStands 6 = .ok (.getfield 35, 3) := by decide +kernel
theorem dX8_fallsAsItStands_9 : decode cX8_fallsAsItStands 9 = .ok (.iload_n 1, 1) := by decide +kernel
theorem dX8_fallsAsItStands_10 : decode cX8_fallsAsItStands 10 = .ok (.iaload, 1) := by decide +kernel
theorem dX8_fallsAsItStands_11 : decode cX8_fallsAsItStands 11 = .ok (.iaload, 1) := by decide +kernel
theorem dX8_fallsAsItStands_12 : decode cX8_fallsAsItStands 12 = .ok (.iload_n 2, 1) := by decide +kernel
theorem dX8_fallsAsItStands_13 : decode cX8_fallsAsItStands 13 = .ok (.iload_n 3, 1) := by decide +kernel
theorem dX8_fallsAsItStands_14 : decode cX8_fallsAsItStands 14 = .ok (.aload_n 0, 1) := by decide +kernel
theorem dX8_fallsAsItStands_15 : decode cX8_fallsAsItStands 15 = .ok (.getfield 38, 3) := by decide +kernel
theorem dX8_fallsAsItStands_18 : decode cX8_fallsAsItStands 18 = .ok (.iload_n 1, 1) := by decide +kernel
theorem dX8_fallsAsItStands_19 : decode cX8_fallsAsItStands 19 = .ok (.iaload, 1) := by decide +kernel
theorem dX8_fallsAsItStands_20 : decode cX8_fallsAsItStands 20 = .ok (.aload_n 0, 1) := by decide +kernel
theorem dX8_fallsAsItStands_21 : decode cX8_fallsAsItStands 21 = .ok (.getfield 41, 3) := by decide +kernel
theorem dX8_fallsAsItStands_24 : decode cX8_fallsAsItStands 24 = .ok (.iload_n 1, 1) := by decide +kernel
theorem dX8_fallsAsItStands_25 : decode cX8_fallsAsItStands 25 = .ok (.iaload, 1) := by decide +kernel
theorem dX8_fallsAsItStands_26 : decode cX8_fallsAsItStands 26 = .ok (.aload_n 0, 1) := by decide +kernel
theorem dX8_fallsAsItStands_27 : decode cX8_fallsAsItStands 27 = .ok (.getfield 23, 3) := by decide +kernel
theorem dX8_fallsAsItStands_30 : decode cX8_fallsAsItStands 30 = .ok (.iload_n 1, 1) := by decide +kernel
theorem dX8_fallsAsItStands_31 : decode cX8_fallsAsItStands 31 = .ok (.iaload, 1) := by decide +kernel
theorem dX8_fallsAsItStands_32 : decode cX8_fallsAsItStands 32 = .ok (.invokevirtual 173, 3) := by decide +kernel
theorem dX8_fallsAsItStands_35 : decode cX8_fallsAsItStands 35 = .ok (.ireturn, 1) := by decide +kernel
theorem dX8_fallsAsMade_0 : decode cX8_fallsAsMade 0 = .ok (.aload_n 0, 1) := by decide +kernel
theorem dX8_fallsAsMade_1 : decode cX8_fallsAsMade 1 = .ok (.aload_n 0, 1) := by decide +kernel
theorem dX8_fallsAsMade_2 : decode cX8_fallsAsMade 2 = .ok (.getfield 7, 3) := by decide +kernel
theorem dX8_fallsAsMade_5 : decode cX8_fallsAsMade 5 = .ok (.aload_n 0, 1) := by decide +kernel
theorem dX8_fallsAsMade_6 : decode cX8_fallsAsMade 6 = .ok (.getfield 26, 3) := by decide +kernel
theorem dX8_fallsAsMade_9 : decode cX8_fallsAsMade 9 = .ok (.iload_n 1, 1) := by decide +kernel
theorem dX8_fallsAsMade_10 : decode cX8_fallsAsMade 10 = .ok (.iaload, 1) := by decide +kernel
theorem dX8_fallsAsMade_11 : decode cX8_fallsAsMade 11 = .ok (.iaload, 1) := by decide +kernel
theorem dX8_fallsAsMade_12 : decode cX8_fallsAsMade 12 = .ok (.iload_n 2, 1) := by decide +kernel
theorem dX8_fallsAsMade_13 : decode cX8_fallsAsMade 13 = .ok (.iload_n 3, 1) := by decide +kernel
theorem dX8_fallsAsMade_14 : decode cX8_fallsAsMade 14 = .ok (.aload_n 0, 1) := by decide +kernel
theorem dX8_fallsAsMade_15 : decode cX8_fallsAsMade 15 = .ok (.getfield 29, 3) := by decide +kernel
theorem dX8_fallsAsMade_18 : decode cX8_fallsAsMade 18 = .ok (.iload_n 1, 1) := by decide +kernel
theorem dX8_fallsAsMade_19 : decode cX8_fallsAsMade 19 = .ok (.iaload, 1) := by decide +kernel
theorem dX8_fallsAsMade_20 : decode cX8_fallsAsMade 20 = .ok (.aload_n 0, 1) := by decide +kernel
theorem dX8_fallsAsMade_21 : decode cX8_fallsAsMade 21 = .ok (.getfield 32, 3) := by decide +kernel
theorem dX8_fallsAsMade_24 : decode cX8_fallsAsMade 24 = .ok (.iload_n 1, 1) := by decide +kernel
theorem dX8_fallsAsMade_25 : decode cX8_fallsAsMade 25 = .ok (.iaload, 1) := by decide +kernel
theorem dX8_fallsAsMade_26 : decode cX8_fallsAsMade 26 = .ok (.aload_n 0, 1) := by decide +kernel
theorem dX8_fallsAsMade_27 : decode cX8_fallsAsMade 27 = .ok (.getfield 23, 3) := by decide +kernel
theorem dX8_fallsAsMade_30 : decode cX8_fallsAsMade 30 = .ok (.iload_n 1, 1) := by decide +kernel
theorem dX8_fallsAsMade_31 : decode cX8_fallsAsMade 31 = .ok (.iaload, 1) := by decide +kernel
theorem dX8_fallsAsMade_32 : decode cX8_fallsAsMade 32 = .ok (.invokevirtual 173, 3) := by decide +kernel
theorem dX8_fallsAsMade_35 : decode cX8_fallsAsMade 35 = .ok (.ireturn, 1) := by decide +kernel
theorem dX8_shadow_0 : decode cX8_shadow 0 = .ok (.aload_n 0, 1) := by decide +kernel
theorem dX8_shadow_1 : decode cX8_shadow 1 = .ok (.iload_n 1, 1) := by decide +kernel
theorem dX8_shadow_2 : decode cX8_shadow 2 = .ok (.invokevirtual 160, 3) := by decide +kernel
theorem dX8_shadow_5 : decode cX8_shadow 5 = .ok (.istore 5, 2) := by decide +kernel
theorem dX8_shadow_7 : decode cX8_shadow 7 = .ok (.iload_n 2, 1) := by decide +kernel
theorem dX8_shadow_8 : decode cX8_shadow 8 = .ok (.invokestatic 116, 3) := by decide +kernel
theorem dX8_shadow_11 : decode cX8_shadow 11 = .ok (.ifCond .eq 14, 3) := by decide +kernel
theorem dX8_shadow_14 : decode cX8_shadow 14 = .ok (.iload_n 3, 1) := by decide +kernel
theorem dX8_shadow_15 : decode cX8_shadow 15 = .ok (.invokestatic 138, 3) := by decide +kernel
theorem dX8_shadow_18 : decode cX8_shadow 18 = .ok (.ifCond .eq 7, 3) := by decide +kernel
theorem dX8_shadow_21 : decode cX8_shadow 21 = .ok (.iconst 1, 1) := by decide +kernel
theorem dX8_shadow_22 : decode cX8_shadow 22 = .ok (.goto 4, 3) := by decide +kernel
theorem dX8_shadow_25 : decode cX8_shadow 25 = .ok (.iconst 0, 1) := by decide +kernel
theorem dX8_shadow_26 : decode cX8_shadow 26 = .ok (.istore 6, 2) := by decide +kernel
theorem dX8_shadow_28 : decode cX8_shadow 28 = .ok (.aload_n 0, 1) := by decide +kernel
theorem dX8_shadow_29 : decode cX8_shadow 29 = .ok (.iload 5, 2) := by decide +kernel
theorem dX8_shadow_31 : decode cX8_shadow 31 = .ok (.ifCond .ne 7, 3) := by decide +kernel
theorem dX8_shadow_34 : decode cX8_shadow 34 = .ok (.iconst 1, 1) := by decide +kernel
theorem dX8_shadow_35 : decode cX8_shadow 35 = .ok (.goto 27, 3) := by decide +kernel
theorem dX8_shadow_38 : decode cX8_shadow 38 = .ok (.iload 6, 2) := by decide +kernel
theorem dX8_shadow_40 : decode cX8_shadow 40 = .ok (.ifCond .ne 7, 3) := by decide +kernel
theorem dX8_shadow_43 : decode cX8_shadow 43 = .ok (.iconst 2, 1) := by decide +kernel
theorem dX8_shadow_44 : decode cX8_shadow 44 = .ok (.goto 18, 3) := by decide +kernel
theorem dX8_shadow_47 : decode cX8_shadow 47 = .ok (.aload_n 0, 1) := by decide +kernel
theorem dX8_shadow_48 : decode cX8_shadow 48 = .ok (.iload_n 1, 1) := by decide +kernel
theorem dX8_shadow_49 : decode cX8_shadow 49 = .ok (.iload_n 2, 1) := by decide +kernel
theorem dX8_shadow_50 : decode cX8_shadow 50 = .ok (.iload_n 3, 1) := by decide +kernel
theorem dX8_shadow_51 : decode cX8_shadow 51 = .ok (.invokevirtual 177, 3) := by decide +kernel
theorem dX8_shadow_54 : decode cX8_shadow 54 = .ok (.ifCond .eq 7, 3) := by decide +kernel
theorem dX8_shadow_57 : decode cX8_shadow 57 = .ok (.iconst 0, 1) := by decide +kernel
theorem dX8_shadow_58 : decode cX8_shadow 58 = .ok (.goto 4, 3) := by decide +kernel
theorem dX8_shadow_61 : decode cX8_shadow 61 = .ok (.iconst 3, 1) := by decide +kernel
theorem dX8_shadow_62 : decode cX8_shadow 62 = .ok (.invokevirtual 102, 3) := by decide +kernel
theorem dX8_shadow_65 : decode cX8_shadow 65 = .ok (.ifCond .ne 5, 3) := by decide +kernel
theorem dX8_shadow_68 : decode cX8_shadow 68 = .ok (.iconst 0, 1) := by decide +kernel
theorem dX8_shadow_69 : decode cX8_shadow 69 = .ok (.ireturn, 1) := by decide +kernel
theorem dX8_shadow_70 : decode cX8_shadow 70 = .ok (.iload 4, 2) := by decide +kernel
theorem dX8_shadow_72 : decode cX8_shadow 72 = .ok (.ifCond .eq 10, 3) := by decide +kernel
theorem dX8_shadow_75 : decode cX8_shadow 75 = .ok (.aload_n 0, 1) := by decide +kernel
theorem dX8_shadow_76 : decode cX8_shadow 76 = .ok (.getfield 170, 3) := by decide +kernel
theorem dX8_shadow_79 : decode cX8_shadow 79 = .ok (.goto 7, 3) := by decide +kernel
theorem dX8_shadow_82 : decode cX8_shadow 82 = .ok (.aload_n 0, 1) := by decide +kernel
theorem dX8_shadow_83 : decode cX8_shadow 83 = .ok (.getfield 167, 3) := by decide +kernel
theorem dX8_shadow_86 : decode cX8_shadow 86 = .ok (.ireturn, 1) := by decide +kernel
theorem dX8_blur_0 : decode cX8_blur 0 = .ok (.aload_n 0, 1) := by decide +kernel
theorem dX8_blur_1 : decode cX8_blur 1 = .ok (.iload_n 1, 1) := by decide +kernel
theorem dX8_blur_2 : decode cX8_blur 2 = .ok (.invokevirtual 160, 3) := by decide +kernel
theorem dX8_blur_5 : decode cX8_blur 5 = .ok (.istore 4, 2) := by decide +kernel
theorem dX8_blur_7 : decode cX8_blur 7 = .ok (.iload_n 2, 1) := by decide +kernel
theorem dX8_blur_8 : decode cX8_blur 8 = .ok (.invokestatic 116, 3) := by decide +kernel
theorem dX8_blur_11 : decode cX8_blur 11 = .ok (.ifCond .eq 14, 3) := by decide +kernel
theorem dX8_blur_14 : decode cX8_blur 14 = .ok (.iload_n 3, 1) := by decide +kernel
theorem dX8_blur_15 : decode cX8_blur 15 = .ok (.invokestatic 138, 3) := by decide +kernel
theorem dX8_blur_18 : decode cX8_blur 18 = .ok (.ifCond .eq 7, 3) := by decide +kernel
theorem dX8_blur_21 : decode cX8_blur 21 = .ok (.iconst 1, 1) := by decide +kernel
theorem dX8_blur_22 : decode cX8_blur 22 = .ok (.goto 4, 3) := by decide +kernel
theorem dX8_blur_25 : decode cX8_blur 25 = .ok (.iconst 0, 1) := by decide +kernel
theorem dX8_blur_26 : decode cX8_blur 26 = .ok (.istore 5, 2) := by decide +kernel
theorem dX8_blur_28 : decode cX8_blur 28 = .ok (.aload_n 0, 1) := by decide +kernel
theorem dX8_blur_29 : decode cX8_blur 29 = .ok (.iload 4, 2) := by decide +kernel
theorem dX8_blur_31 : decode cX8_blur 31 = .ok (.ifCond .ne 7, 3) := by decide +kernel
theorem dX8_blur_34 : decode cX8_blur 34 = .ok (.iconst 1, 1) := by decide +kernel
theorem dX8_blur_35 : decode cX8_blur 35 = .ok (.goto 27, 3) := by decide +kernel
theorem dX8_blur_38 : decode cX8_blur 38 = .ok (.iload 5, 2) := by decide +kernel
theorem dX8_blur_40 : decode cX8_blur 40 = .ok (.ifCond .ne 7, 3) := by decide +kernel
theorem dX8_blur_43 : decode cX8_blur 43 = .ok (.iconst 2, 1) := by decide +kernel
theorem dX8_blur_44 : decode cX8_blur 44 = .ok (.goto 18, 3) := by decide +kernel
theorem dX8_blur_47 : decode cX8_blur 47 = .ok (.aload_n 0, 1) := by decide +kernel
theorem dX8_blur_48 : decode cX8_blur 48 = .ok (.iload_n 1, 1) := by decide +kernel
theorem dX8_blur_49 : decode cX8_blur 49 = .ok (.iload_n 2, 1) := by decide +kernel
theorem dX8_blur_50 : decode cX8_blur 50 = .ok (.iload_n 3, 1) := by decide +kernel
theorem dX8_blur_51 : decode cX8_blur 51 = .ok (.invokevirtual 177, 3) := by decide +kernel
theorem dX8_blur_54 : decode cX8_blur 54 = .ok (.ifCond .eq 7, 3) := by decide +kernel
theorem dX8_blur_57 : decode cX8_blur 57 = .ok (.iconst 0, 1) := by decide +kernel
theorem dX8_blur_58 : decode cX8_blur 58 = .ok (.goto 4, 3) := by decide +kernel
theorem dX8_blur_61 : decode cX8_blur 61 = .ok (.iconst 3, 1) := by decide +kernel
theorem dX8_blur_62 : decode cX8_blur 62 = .ok (.invokevirtual 102, 3) := by decide +kernel
theorem dX8_blur_65 : decode cX8_blur 65 = .ok (.ifCond .ne 5, 3) := by decide +kernel
theorem dX8_blur_68 : decode cX8_blur 68 = .ok (.fconst 0, 1) := by decide +kernel
theorem dX8_blur_69 : decode cX8_blur 69 = .ok (.freturn, 1) := by decide +kernel
theorem dX8_blur_70 : decode cX8_blur 70 = .ok (.aload_n 0, 1) := by decide +kernel
theorem dX8_blur_71 : decode cX8_blur 71 = .ok (.getfield 167, 3) := by decide +kernel
theorem dX8_blur_74 : decode cX8_blur 74 = .ok (.invokestatic 180, 3) := by decide +kernel
theorem dX8_blur_77 : decode cX8_blur 77 = .ok (.aload_n 0, 1) := by decide +kernel
theorem dX8_blur_78 : decode cX8_blur 78 = .ok (.getfield 170, 3) := by decide +kernel
theorem dX8_blur_81 : decode cX8_blur 81 = .ok (.invokestatic 180, 3) := by decide +kernel
theorem dX8_blur_84 : decode cX8_blur 84 = .ok (.iadd, 1) := by decide +kernel
theorem dX8_blur_85 : decode cX8_blur 85 = .ok (.aload_n 0, 1) := by decide +kernel
theorem dX8_blur_86 : decode cX8_blur 86 = .ok (.getfield 23, 3) := by decide +kernel
theorem dX8_blur_89 : decode cX8_blur 89 = .ok (.iload_n 1, 1) := by decide +kernel
theorem dX8_blur_90 : decode cX8_blur 90 = .ok (.iaload, 1) := by decide +kernel
theorem dX8_blur_91 : decode cX8_blur 91 = .ok (.iadd, 1) := by decide +kernel
theorem dX8_blur_92 : decode cX8_blur 92 = .ok (.i2f, 1) := by decide +kernel
theorem dX8_blur_93 : decode cX8_blur 93 = .ok (.ldc 183, 2) := by decide +kernel
theorem dX8_blur_95 : decode cX8_blur 95 = .ok (.fdiv, 1) := by decide +kernel
theorem dX8_blur_96 : decode cX8_blur 96 = .ok (.freturn, 1) := by decide +kernel
theorem dX8_isLine_0 : decode cX8_isLine 0 = .ok (.aload_n 0, 1) := by decide +kernel
theorem dX8_isLine_1 : decode cX8_isLine 1 = .ok (.iload_n 1, 1) := by decide +kernel
theorem dX8_isLine_2 : decode cX8_isLine 2 = .ok (.bipush 90, 2) := by decide +kernel
theorem dX8_isLine_4 : decode cX8_isLine 4 = .ok (.bipush 15, 2) := by decide +kernel
theorem dX8_isLine_6 : decode cX8_isLine 6 = .ok (.iload_n 2, 1) := by decide +kernel
theorem dX8_isLine_7 : decode cX8_isLine 7 = .ok (.imul, 1) := by decide +kernel
theorem dX8_isLine_8 : decode cX8_isLine 8 = .ok (.invokevirtual 184, 3) := by decide +kernel
theorem dX8_isLine_11 : decode cX8_isLine 11 = .ok (.ifCond .eq 22, 3) := by decide +kernel
theorem dX8_isLine_14 : decode cX8_isLine 14 = .ok (.aload_n 0, 1) := by decide +kernel
theorem dX8_isLine_15 : decode cX8_isLine 15 = .ok (.iload_n 1, 1) := by decide +kernel
theorem dX8_isLine_16 : decode cX8_isLine 16 = .ok (.sipush 270, 3) := by decide +kernel
theorem dX8_isLine_19 : decode cX8_isLine 19 = .ok (.bipush 15, 2) := by decide +kernel
theorem dX8_isLine_21 : decode cX8_isLine 21 = .ok (.iload_n 2, 1) := by decide +kernel
theorem dX8_isLine_22 : decode cX8_isLine 22 = .ok (.imul, 1) := by decide +kernel
theorem dX8_isLine_23 : decode cX8_isLine 23 = .ok (.invokevirtual 184, 3) := by decide +kernel
theorem dX8_isLine_26 : decode cX8_isLine 26 = .ok (.ifCond .eq 7, 3) := by decide +kernel
theorem dX8_isLine_29 : decode cX8_isLine 29 = .ok (.iconst 1, 1) := by decide +kernel
theorem dX8_isLine_30 : decode cX8_isLine 30 = .ok (.goto 4, 3) := by decide +kernel
theorem dX8_isLine_33 : decode cX8_isLine 33 = .ok (.iconst 0, 1) := by decide +kernel
theorem dX8_isLine_34 : decode cX8_isLine 34 = .ok (.ireturn, 1) := by decide +kernel
theorem dX8_line_0 : decode cX8_line 0 = .ok (.aload_n 0, 1) := by decide +kernel
theorem dX8_line_1 : decode cX8_line 1 = .ok (.iload_n 1, 1) := by decide +kernel
theorem dX8_line_2 : decode cX8_line 2 = .ok (.invokevirtual 160, 3) := by decide +kernel
theorem dX8_line_5 : decode cX8_line 5 = .ok (.istore 4, 2) := by decide +kernel
theorem dX8_line_7 : decode cX8_line 7 = .ok (.iload_n 2, 1) := by decide +kernel
theorem dX8_line_8 : decode cX8_line 8 = .ok (.iconst 1, 1) := by decide +kernel
theorem dX8_line_9 : decode cX8_line 9 = .ok (.bipush 23, 2) := by decide +kernel
theorem dX8_line_11 : decode cX8_line 11 = .ok (.invokestatic 78, 3) := by decide +kernel
theorem dX8_line_14 : decode cX8_line 14 = .ok (.ifCond .eq 16, 3) := by decide +kernel
theorem dX8_line_17 : decode cX8_line 17 = .ok (.iload_n 3, 1) := by decide +kernel
theorem dX8_line_18 : decode cX8_line 18 = .ok (.iconst 0, 1) := by decide +kernel
theorem dX8_line_19 : decode cX8_line 19 = .ok (.iconst 4, 1) := by decide +kernel
theorem dX8_line_20 : decode cX8_line 20 = .ok (.invokestatic 78, 3) := by decide +kernel
theorem dX8_line_23 : decode cX8_line 23 = .ok (.ifCond .eq 7, 3) := by decide +kernel
theorem dX8_line_26 : decode cX8_line 26 = .ok (.iconst 1, 1) := by decide +kernel
theorem dX8_line_27 : decode cX8_line 27 = .ok (.goto 4, 3) := by decide +kernel
theorem dX8_line_30 : decode cX8_line 30 = .ok (.iconst 0, 1) := by decide +kernel
theorem dX8_line_31 : decode cX8_line 31 = .ok (.istore 5, 2) := by decide +kernel
theorem dX8_line_33 : decode cX8_line 33 = .ok (.iload 4, 2) := by decide +kernel
theorem dX8_line_35 : decode cX8_line 35 = .ok (.ifCond .eq 21, 3) := by decide +kernel
theorem dX8_line_38 : decode cX8_line 38 = .ok (.iload 5, 2) := by decide +kernel
theorem dX8_line_40 : decode cX8_line 40 = .ok (.ifCond .eq 16, 3) := by decide +kernel
theorem dX8_line_43 : decode cX8_line 43 = .ok (.aload_n 0, 1) := by decide +kernel
theorem dX8_line_44 : decode cX8_line 44 = .ok (.iload_n 1, 1) := by decide +kernel
theorem dX8_line_45 : decode cX8_line 45 = .ok (.iload_n 2, 1) := by decide +kernel
theorem dX8_line_46 : decode cX8_line 46 = .ok (.invokevirtual 187, 3) := by decide +kernel
theorem dX8_line_49 : decode cX8_line 49 = .ok (.ifCond .eq 7, 3) := by decide +kernel
theorem dX8_line_52 : decode cX8_line 52 = .ok (.iconst 1, 1) := by decide +kernel
theorem dX8_line_53 : decode cX8_line 53 = .ok (.goto 4, 3) := by decide +kernel
theorem dX8_line_56 : decode cX8_line 56 = .ok (.iconst 0, 1) := by decide +kernel
theorem dX8_line_57 : decode cX8_line 57 = .ok (.istore 6, 2) := by decide +kernel
theorem dX8_line_59 : decode cX8_line 59 = .ok (.aload_n 0, 1) := by decide +kernel
theorem dX8_line_60 : decode cX8_line 60 = .ok (.iload 4, 2) := by decide +kernel
theorem dX8_line_62 : decode cX8_line 62 = .ok (.ifCond .ne 7, 3) := by decide +kernel
theorem dX8_line_65 : decode cX8_line 65 = .ok (.iconst 1, 1) := by decide +kernel
theorem dX8_line_66 : decode cX8_line 66 = .ok (.goto 26, 3) := by decide +kernel
theorem dX8_line_69 : decode cX8_line 69 = .ok (.iload 5, 2) := by decide +kernel
theorem dX8_line_71 : decode cX8_line 71 = .ok (.ifCond .ne 7, 3) := by decide +kernel
theorem dX8_line_74 : decode cX8_line 74 = .ok (.iconst 2, 1) := by decide +kernel
theorem dX8_line_75 : decode cX8_line 75 = .ok (.goto 17, 3) := by decide +kernel
theorem dX8_line_78 : decode cX8_line 78 = .ok (.iload 6, 2) := by decide +kernel
theorem dX8_line_80 : decode cX8_line 80 = .ok (.ifCond .ne 7, 3) := by decide +kernel
theorem dX8_line_83 : decode cX8_line 83 = .ok (.iload_n 3, 1) := by decide +kernel
theorem dX8_line_84 : decode cX8_line 84 = .ok (.ifCond .ne 7, 3) := by decide +kernel
theorem dX8_line_87 : decode cX8_line 87 = .ok (.iconst 0, 1) := by decide +kernel
theorem dX8_line_88 : decode cX8_line 88 = .ok (.goto 4, 3) := by decide +kernel
theorem dX8_line_91 : decode cX8_line 91 = .ok (.iconst 3, 1) := by decide +kernel
theorem dX8_line_92 : decode cX8_line 92 = .ok (.invokevirtual 102, 3) := by decide +kernel
theorem dX8_line_95 : decode cX8_line 95 = .ok (.ifCond .ne 5, 3) := by decide +kernel
theorem dX8_line_98 : decode cX8_line 98 = .ok (.iconst 0, 1) := by decide +kernel
theorem dX8_line_99 : decode cX8_line 99 = .ok (.ireturn, 1) := by decide +kernel
theorem dX8_line_100 : decode cX8_line 100 = .ok (.iload_n 3, 1) := by decide +kernel
theorem dX8_line_101 : decode cX8_line 101 = .ok (.ifCond .ne 14, 3) := by decide +kernel
theorem dX8_line_104 : decode cX8_line 104 = .ok (.iload 6, 2) := by decide +kernel
theorem dX8_line_106 : decode cX8_line 106 = .ok (.ifCond .eq 7, 3) := by decide +kernel
theorem dX8_line_109 : decode cX8_line 109 = .ok (.iconst 1, 1) := by decide +kernel
theorem dX8_line_110 : decode cX8_line 110 = .ok (.goto 4, 3) := by decide +kernel
theorem dX8_line_113 : decode cX8_line 113 = .ok (.iconst 0, 1) := by decide +kernel
theorem dX8_line_114 : decode cX8_line 114 = .ok (.ireturn, 1) := by decide +kernel
theorem dX8_line_115 : decode cX8_line 115 = .ok (.aload_n 0, 1) := by decide +kernel
theorem dX8_line_116 : decode cX8_line 116 = .ok (.iload_n 1, 1) := by decide +kernel
theorem dX8_line_117 : decode cX8_line 117 = .ok (.iload_n 3, 1) := by decide +kernel
theorem dX8_line_118 : decode cX8_line 118 = .ok (.iconst 3, 1) := by decide +kernel
theorem dX8_line_119 : decode cX8_line 119 = .ok (.if_icmp .ge 8, 3) := by decide +kernel
theorem dX8_line_122 : decode cX8_line 122 = .ok (.bipush 90, 2) := by decide +kernel
theorem dX8_line_124 : decode cX8_line 124 = .ok (.goto 6, 3) := by decide +kernel
theorem dX8_line_127 : decode cX8_line 127 = .ok (.sipush 270, 3) := by decide +kernel
theorem dX8_line_130 : decode cX8_line 130 = .ok (.bipush 15, 2) := by decide +kernel
theorem dX8_line_132 : decode cX8_line 132 = .ok (.iload_n 2, 1) := by decide +kernel
theorem dX8_line_133 : decode cX8_line 133 = .ok (.imul, 1) := by decide +kernel
theorem dX8_line_134 : decode cX8_line 134 = .ok (.invokevirtual 184, 3) := by decide +kernel
theorem dX8_line_137 : decode cX8_line 137 = .ok (.istore 7, 2) := by decide +kernel
theorem dX8_line_139 : decode cX8_line 139 = .ok (.iload_n 3, 1) := by decide +kernel
theorem dX8_line_140 : decode cX8_line 140 = .ok (.iconst 2, 1) := by decide +kernel
theorem dX8_line_141 : decode cX8_line 141 = .ok (.irem, 1) := by decide +kernel
theorem dX8_line_142 : decode cX8_line 142 = .ok (.iconst 1, 1) := by decide +kernel
theorem dX8_line_143 : decode cX8_line 143 = .ok (.if_icmp .ne 10, 3) := by decide +kernel
theorem dX8_line_146 : decode cX8_line 146 = .ok (.aload_n 0, 1) := by decide +kernel
theorem dX8_line_147 : decode cX8_line 147 = .ok (.getfield 167, 3) := by decide +kernel
theorem dX8_line_150 : decode cX8_line 150 = .ok (.goto 7, 3) := by decide +kernel
theorem dX8_line_153 : decode cX8_line 153 = .ok (.aload_n 0, 1) := by decide +kernel
theorem dX8_line_154 : decode cX8_line 154 = .ok (.getfield 170, 3) := by decide +kernel
theorem dX8_line_157 : decode cX8_line 157 = .ok (.ireturn, 1) := by decide +kernel
theorem dX8_layRow_0 : decode cX8_layRow 0 = .ok (.iconst 0, 1) := by decide +kernel
theorem dX8_layRow_1 : decode cX8_layRow 1 = .ok (.istore_n 3, 1) := by decide +kernel
theorem dX8_layRow_2 : decode cX8_layRow 2 = .ok (.iload_n 3, 1) := by decide +kernel
theorem dX8_layRow_3 : decode cX8_layRow 3 = .ok (.sipush 360, 3) := by decide +kernel
theorem dX8_layRow_6 : decode cX8_layRow 6 = .ok (.if_icmp .ge 42, 3) := by decide +kernel
theorem dX8_layRow_9 : decode cX8_layRow 9 = .ok (.aload_n 0, 1) := by decide +kernel
theorem dX8_layRow_10 : decode cX8_layRow 10 = .ok (.getfield 63, 3) := by decide +kernel
theorem dX8_layRow_13 : decode cX8_layRow 13 = .ok (.iload_n 3, 1) := by decide +kernel
theorem dX8_layRow_14 : decode cX8_layRow 14 = .ok (.aload_n 0, 1) := by decide +kernel
theorem dX8_layRow_15 : decode cX8_layRow 15 = .ok (.iload_n 1, 1) := by decide +kernel
theorem dX8_layRow_16 : decode cX8_layRow 16 = .ok (.iload_n 2, 1) := by decide +kernel
theorem dX8_layRow_17 : decode cX8_layRow 17 = .ok (.iload_n 3, 1) := by decide +kernel
theorem dX8_layRow_18 : decode cX8_layRow 18 = .ok (.invokevirtual 184, 3) := by decide +kernel
theorem dX8_layRow_21 : decode cX8_layRow 21 = .ok (.bastore, 1) := by decide +kernel
theorem dX8_layRow_22 : decode cX8_layRow 22 = .ok (.aload_n 0, 1) := by decide +kernel
theorem dX8_layRow_23 : decode cX8_layRow 23 = .ok (.getfield 66, 3) := by decide +kernel
theorem dX8_layRow_26 : decode cX8_layRow 26 = .ok (.iload_n 3, 1) := by decide +kernel
theorem dX8_layRow_27 : decode cX8_layRow 27 = .ok (.aload_n 0, 1) := by decide +kernel
theorem dX8_layRow_28 : decode cX8_layRow 28 = .ok (.getfield 167, 3) := by decide +kernel
theorem dX8_layRow_31 : decode cX8_layRow 31 = .ok (.iastore, 1) := by decide +kernel
theorem dX8_layRow_32 : decode cX8_layRow 32 = .ok (.aload_n 0, 1) := by decide +kernel
theorem dX8_layRow_33 : decode cX8_layRow 33 = .ok (.getfield 69, 3) := by decide +kernel
theorem dX8_layRow_36 : decode cX8_layRow 36 = .ok (.iload_n 3, 1) := by decide +kernel
theorem dX8_layRow_37 : decode cX8_layRow 37 = .ok (.aload_n 0, 1) := by decide +kernel
theorem dX8_layRow_38 : decode cX8_layRow 38 = .ok (.getfield 170, 3) := by decide +kernel
theorem dX8_layRow_41 : decode cX8_layRow 41 = .ok (.iastore, 1) := by decide +kernel
theorem dX8_layRow_42 : decode cX8_layRow 42 = .ok (.iinc 3 1, 3) := by decide +kernel
theorem dX8_layRow_45 : decode cX8_layRow 45 = .ok (.goto (-43), 3) := by decide +kernel
theorem dX8_layRow_48 : decode cX8_layRow 48 = .ok (.return_, 1) := by decide +kernel
theorem dX8_readIn_0 : decode cX8_readIn 0 = .ok (.iconst (-1), 1) := by decide +kernel
theorem dX8_readIn_1 : decode cX8_readIn 1 = .ok (.istore_n 3, 1) := by decide +kernel
theorem dX8_readIn_2 : decode cX8_readIn 2 = .ok (.iconst 0, 1) := by decide +kernel
theorem dX8_readIn_3 : decode cX8_readIn 3 = .ok (.istore 4, 2) := by decide +kernel
theorem dX8_readIn_5 : decode cX8_readIn 5 = .ok (.iconst 0, 1) := by decide +kernel
theorem dX8_readIn_6 : decode cX8_readIn 6 = .ok (.istore 5, 2) := by decide +kernel
theorem dX8_readIn_8 : decode cX8_readIn 8 = .ok (.iload 5, 2) := by decide +kernel
theorem dX8_readIn_10 : decode cX8_readIn 10 = .ok (.sipush 360, 3) := by decide +kernel
theorem dX8_readIn_13 : decode cX8_readIn 13 = .ok (.if_icmp .ge 91, 3) := by decide +kernel
theorem dX8_readIn_16 : decode cX8_readIn 16 = .ok (.aload_n 0, 1) := by decide +kernel
theorem dX8_readIn_17 : decode cX8_readIn 17 = .ok (.getfield 66, 3) := by decide +kernel
theorem dX8_readIn_20 : decode cX8_readIn 20 = .ok (.iload 5, 2) := by decide +kernel
theorem dX8_readIn_22 : decode cX8_readIn 22 = .ok (.iaload, 1) := by decide +kernel
theorem dX8_readIn_23 : decode cX8_readIn 23 = .ok (.iload_n 1, 1) := by decide +kernel
theorem dX8_readIn_24 : decode cX8_readIn 24 = .ok (.isub, 1) := by decide +kernel
theorem dX8_readIn_25 : decode cX8_readIn 25 = .ok (.invokestatic 180, 3) := by decide +kernel
theorem dX8_readIn_28 : decode cX8_readIn 28 = .ok (.aload_n 0, 1) := by decide +kernel
theorem dX8_readIn_29 : decode cX8_readIn 29 = .ok (.getfield 69, 3) := by decide +kernel
theorem dX8_readIn_32 : decode cX8_readIn 32 = .ok (.iload 5, 2) := by decide +kernel
theorem dX8_readIn_34 : decode cX8_readIn 34 = .ok (.iaload, 1) := by decide +kernel
theorem dX8_readIn_35 : decode cX8_readIn 35 = .ok (.iload_n 2, 1) := by decide +kernel
theorem dX8_readIn_36 : decode cX8_readIn 36 = .ok (.isub, 1) := by decide +kernel
theorem dX8_readIn_37 : decode cX8_readIn 37 = .ok (.invokestatic 180, 3) := by decide +kernel
theorem dX8_readIn_40 : decode cX8_readIn 40 = .ok (.iadd, 1) := by decide +kernel
theorem dX8_readIn_41 : decode cX8_readIn 41 = .ok (.istore 6, 2) := by decide +kernel
theorem dX8_readIn_43 : decode cX8_readIn 43 = .ok (.aload_n 0, 1) := by decide +kernel
theorem dX8_readIn_44 : decode cX8_readIn 44 = .ok (.getfield 63, 3) := by decide +kernel
theorem dX8_readIn_47 : decode cX8_readIn 47 = .ok (.iload 5, 2) := by decide +kernel
theorem dX8_readIn_49 : decode cX8_readIn 49 = .ok (.baload, 1) := by decide +kernel
theorem dX8_readIn_50 : decode cX8_readIn 50 = .ok (.ifCond .eq 19, 3) := by decide +kernel
theorem dX8_readIn_53 : decode cX8_readIn 53 = .ok (.iload_n 3, 1) := by decide +kernel
theorem dX8_readIn_54 : decode cX8_readIn 54 = .ok (.iconst (-1), 1) := by decide +kernel
theorem dX8_readIn_55 : decode cX8_readIn 55 = .ok (.if_icmp .eq 10, 3) := by decide +kernel
theorem dX8_readIn_58 : decode cX8_readIn 58 = .ok (.iload 6, 2) := by decide +kernel
theorem dX8_readIn_60 : decode cX8_readIn 60 = .ok (.iload 4, 2) := by decide +kernel
theorem dX8_readIn_62 : decode cX8_readIn 62 = .ok (.if_icmp .ge 7, 3) := by decide +kernel
theorem dX8_readIn_65 : decode cX8_readIn 65 = .ok (.iconst 1, 1) := by decide +kernel
theorem dX8_readIn_66 : decode cX8_readIn 66 = .ok (.goto 4, 3) := by decide +kernel
theorem dX8_readIn_69 : decode cX8_readIn 69 = .ok (.iconst 0, 1) := by decide +kernel
theorem dX8_readIn_70 : decode cX8_readIn 70 = .ok (.istore 7, 2) := by decide +kernel
theorem dX8_readIn_72 : decode cX8_readIn 72 = .ok (.iload 7, 2) := by decide +kernel
theorem dX8_readIn_74 : decode cX8_readIn 74 = .ok (.ifCond .eq 8, 3) := by decide +kernel
theorem dX8_readIn_77 : decode cX8_readIn 77 = .ok (.iload 5, 2) := by decide +kernel
theorem dX8_readIn_79 : decode cX8_readIn 79 = .ok (.goto 4, 3) := by decide +kernel
theorem dX8_readIn_82 : decode cX8_readIn 82 = .ok (.iload_n 3, 1) := by decide +kernel
theorem dX8_readIn_83 : decode cX8_readIn 83 = .ok (.istore_n 3, 1) := by decide +kernel
theorem dX8_readIn_84 : decode cX8_readIn 84 = .ok (.iload 7, 2) := by decide +kernel
theorem dX8_readIn_86 : decode cX8_readIn 86 = .ok (.ifCond .eq 8, 3) := by decide +kernel
theorem dX8_readIn_89 : decode cX8_readIn 89 = .ok (.iload 6, 2) := by decide +kernel
theorem dX8_readIn_91 : decode cX8_readIn 91 = .ok (.goto 5, 3) := by decide +kernel
theorem dX8_readIn_94 : decode cX8_readIn 94 = .ok (.iload 4, 2) := by decide +kernel
theorem dX8_readIn_96 : decode cX8_readIn 96 = .ok (.istore 4, 2) := by decide +kernel
theorem dX8_readIn_98 : decode cX8_readIn 98 = .ok (.iinc 5 1, 3) := by decide +kernel
theorem dX8_readIn_101 : decode cX8_readIn 101 = .ok (.goto (-93), 3) := by decide +kernel
theorem dX8_readIn_104 : decode cX8_readIn 104 = .ok (.iload_n 3, 1) := by decide +kernel
theorem dX8_readIn_105 : decode cX8_readIn 105 = .ok (.ireturn, 1) := by decide +kernel
theorem dX8_read_0 : decode cX8_read 0 = .ok (.aload_n 0, 1) := by decide +kernel
theorem dX8_read_1 : decode cX8_read 1 = .ok (.iload_n 1, 1) := by decide +kernel
theorem dX8_read_2 : decode cX8_read 2 = .ok (.invokevirtual 160, 3) := by decide +kernel
theorem dX8_read_5 : decode cX8_read 5 = .ok (.istore 5, 2) := by decide +kernel
theorem dX8_read_7 : decode cX8_read 7 = .ok (.iload_n 2, 1) := by decide +kernel
theorem dX8_read_8 : decode cX8_read 8 = .ok (.sipush (-9999), 3) := by decide +kernel
theorem dX8_read_11 : decode cX8_read 11 = .ok (.sipush 9999, 3) := by decide +kernel
theorem dX8_read_14 : decode cX8_read 14 = .ok (.invokestatic 78, 3) := by decide +kernel
theorem dX8_read_17 : decode cX8_read 17 = .ok (.ifCond .eq 28, 3) := by decide +kernel
theorem dX8_read_20 : decode cX8_read 20 = .ok (.iload_n 3, 1) := by decide +kernel
theorem dX8_read_21 : decode cX8_read 21 = .ok (.sipush (-9999), 3) := by decide +kernel
theorem dX8_read_24 : decode cX8_read 24 = .ok (.sipush 9999, 3) := by decide +kernel
theorem dX8_read_27 : decode cX8_read 27 = .ok (.invokestatic 78, 3) := by decide +kernel
theorem dX8_read_30 : decode cX8_read 30 = .ok (.ifCond .eq 15, 3) := by decide +kernel
theorem dX8_read_33 : decode cX8_read 33 = .ok (.iload 4, 2) := by decide +kernel
theorem dX8_read_35 : decode cX8_read 35 = .ok (.invokestatic 116, 3) := by decide +kernel
theorem dX8_read_38 : decode cX8_read 38 = .ok (.ifCond .eq 7, 3) := by decide +kernel
theorem dX8_read_41 : decode cX8_read 41 = .ok (.iconst 1, 1) := by decide +kernel
theorem dX8_read_42 : decode cX8_read 42 = .ok (.goto 4, 3) := by decide +kernel
theorem dX8_read_45 : decode cX8_read 45 = .ok (.iconst 0, 1) := by decide +kernel
theorem dX8_read_46 : decode cX8_read 46 = .ok (.istore 6, 2) := by decide +kernel
theorem dX8_read_48 : decode cX8_read 48 = .ok (.aload_n 0, 1) := by decide +kernel
theorem dX8_read_49 : decode cX8_read 49 = .ok (.iload 5, 2) := by decide +kernel
theorem dX8_read_51 : decode cX8_read 51 = .ok (.ifCond .ne 7, 3) := by decide +kernel
theorem dX8_read_54 : decode cX8_read 54 = .ok (.iconst 1, 1) := by decide +kernel
theorem dX8_read_55 : decode cX8_read 55 = .ok (.goto 13, 3) := by decide +kernel
theorem dX8_read_58 : decode cX8_read 58 = .ok (.iload 6, 2) := by decide +kernel
theorem dX8_read_60 : decode cX8_read 60 = .ok (.ifCond .eq 7, 3) := by decide +kernel
theorem dX8_read_63 : decode cX8_read 63 = .ok (.iconst 0, 1) := by decide +kernel
theorem dX8_read_64 : decode cX8_read 64 = .ok (.goto 4, 3) := by decide +kernel
theorem dX8_read_67 : decode cX8_read 67 = .ok (.iconst 2, 1) := by decide +kernel
theorem dX8_read_68 : decode cX8_read 68 = .ok (.invokevirtual 102, 3) := by decide +kernel
theorem dX8_read_71 : decode cX8_read 71 = .ok (.ifCond .ne 5, 3) := by decide +kernel
theorem dX8_read_74 : decode cX8_read 74 = .ok (.iconst 0, 1) := by decide +kernel
theorem dX8_read_75 : decode cX8_read 75 = .ok (.ireturn, 1) := by decide +kernel
theorem dX8_read_76 : decode cX8_read 76 = .ok (.aload_n 0, 1) := by decide +kernel
theorem dX8_read_77 : decode cX8_read 77 = .ok (.iload_n 1, 1) := by decide +kernel
theorem dX8_read_78 : decode cX8_read 78 = .ok (.iload 4, 2) := by decide +kernel
theorem dX8_read_80 : decode cX8_read 80 = .ok (.invokevirtual 190, 3) := by decide +kernel
theorem dX8_read_83 : decode cX8_read 83 = .ok (.aload_n 0, 1) := by decide +kernel
theorem dX8_read_84 : decode cX8_read 84 = .ok (.iload_n 2, 1) := by decide +kernel
theorem dX8_read_85 : decode cX8_read 85 = .ok (.iload_n 3, 1) := by decide +kernel
theorem dX8_read_86 : decode cX8_read 86 = .ok (.invokevirtual 194, 3) := by decide +kernel
theorem dX8_read_89 : decode cX8_read 89 = .ok (.ireturn, 1) := by decide +kernel
theorem dX8_tells_0 : decode cX8_tells 0 = .ok (.aload_n 0, 1) := by decide +kernel
theorem dX8_tells_1 : decode cX8_tells 1 = .ok (.iload_n 1, 1) := by decide +kernel
theorem dX8_tells_2 : decode cX8_tells 2 = .ok (.invokevirtual 160, 3) := by decide +kernel
theorem dX8_tells_5 : decode cX8_tells 5 = .ok (.istore 4, 2) := by decide +kernel
theorem dX8_tells_7 : decode cX8_tells 7 = .ok (.aload_n 0, 1) := by decide +kernel
theorem dX8_tells_8 : decode cX8_tells 8 = .ok (.iload 4, 2) := by decide +kernel
theorem dX8_tells_10 : decode cX8_tells 10 = .ok (.ifCond .ne 7, 3) := by decide +kernel
theorem dX8_tells_13 : decode cX8_tells 13 = .ok (.iconst 1, 1) := by decide +kernel
theorem dX8_tells_14 : decode cX8_tells 14 = .ok (.goto 22, 3) := by decide +kernel
theorem dX8_tells_17 : decode cX8_tells 17 = .ok (.iload_n 2, 1) := by decide +kernel
theorem dX8_tells_18 : decode cX8_tells 18 = .ok (.invokestatic 116, 3) := by decide +kernel
theorem dX8_tells_21 : decode cX8_tells 21 = .ok (.ifCond .eq 14, 3) := by decide +kernel
theorem dX8_tells_24 : decode cX8_tells 24 = .ok (.iload_n 3, 1) := by decide +kernel
theorem dX8_tells_25 : decode cX8_tells 25 = .ok (.invokestatic 138, 3) := by decide +kernel
theorem dX8_tells_28 : decode cX8_tells 28 = .ok (.ifCond .eq 7, 3) := by decide +kernel
theorem dX8_tells_31 : decode cX8_tells 31 = .ok (.iconst 0, 1) := by decide +kernel
theorem dX8_tells_32 : decode cX8_tells 32 = .ok (.goto 4, 3) := by decide +kernel
theorem dX8_tells_35 : decode cX8_tells 35 = .ok (.iconst 2, 1) := by decide +kernel
theorem dX8_tells_36 : decode cX8_tells 36 = .ok (.invokevirtual 102, 3) := by decide +kernel
theorem dX8_tells_39 : decode cX8_tells 39 = .ok (.ifCond .ne 5, 3) := by decide +kernel
theorem dX8_tells_42 : decode cX8_tells 42 = .ok (.iconst 0, 1) := by decide +kernel
theorem dX8_tells_43 : decode cX8_tells 43 = .ok (.ireturn, 1) := by decide +kernel
theorem dX8_tells_44 : decode cX8_tells 44 = .ok (.aload_n 0, 1) := by decide +kernel
theorem dX8_tells_45 : decode cX8_tells 45 = .ok (.iload_n 1, 1) := by decide +kernel
theorem dX8_tells_46 : decode cX8_tells 46 = .ok (.iload_n 2, 1) := by decide +kernel
theorem dX8_tells_47 : decode cX8_tells 47 = .ok (.invokevirtual 190, 3) := by decide +kernel
theorem dX8_tells_50 : decode cX8_tells 50 = .ok (.aload_n 0, 1) := by decide +kernel
theorem dX8_tells_51 : decode cX8_tells 51 = .ok (.iload_n 1, 1) := by decide +kernel
theorem dX8_tells_52 : decode cX8_tells 52 = .ok (.iload_n 2, 1) := by decide +kernel
theorem dX8_tells_53 : decode cX8_tells 53 = .ok (.iload_n 3, 1) := by decide +kernel
theorem dX8_tells_54 : decode cX8_tells 54 = .ok (.invokevirtual 177, 3) := by decide +kernel
theorem dX8_tells_57 : decode cX8_tells 57 = .ok (.ifCond .eq 18, 3) := by decide +kernel
theorem dX8_tells_60 : decode cX8_tells 60 = .ok (.aload_n 0, 1) := by decide +kernel
theorem dX8_tells_61 : decode cX8_tells 61 = .ok (.aload_n 0, 1) := by decide +kernel
theorem dX8_tells_62 : decode cX8_tells 62 = .ok (.getfield 167, 3) := by decide +kernel
theorem dX8_tells_65 : decode cX8_tells 65 = .ok (.aload_n 0, 1) := by decide +kernel
theorem dX8_tells_66 : decode cX8_tells 66 = .ok (.getfield 170, 3) := by decide +kernel
theorem dX8_tells_69 : decode cX8_tells 69 = .ok (.invokevirtual 194, 3) := by decide +kernel
theorem dX8_tells_72 : decode cX8_tells 72 = .ok (.goto 4, 3) := by decide +kernel
theorem dX8_tells_75 : decode cX8_tells 75 = .ok (.iconst (-1), 1) := by decide +kernel
theorem dX8_tells_76 : decode cX8_tells 76 = .ok (.ireturn, 1) := by decide +kernel
theorem dX8_worst_0 : decode cX8_worst 0 = .ok (.aload_n 0, 1) := by decide +kernel
theorem dX8_worst_1 : decode cX8_worst 1 = .ok (.iload_n 1, 1) := by decide +kernel
theorem dX8_worst_2 : decode cX8_worst 2 = .ok (.invokevirtual 160, 3) := by decide +kernel
theorem dX8_worst_5 : decode cX8_worst 5 = .ok (.istore 4, 2) := by decide +kernel
theorem dX8_worst_7 : decode cX8_worst 7 = .ok (.aload_n 0, 1) := by decide +kernel
theorem dX8_worst_8 : decode cX8_worst 8 = .ok (.iload 4, 2) := by decide +kernel
theorem dX8_worst_10 : decode cX8_worst 10 = .ok (.ifCond .ne 7, 3) := by decide +kernel
theorem dX8_worst_13 : decode cX8_worst 13 = .ok (.iconst 1, 1) := by decide +kernel
theorem dX8_worst_14 : decode cX8_worst 14 = .ok (.goto 24, 3) := by decide +kernel
theorem dX8_worst_17 : decode cX8_worst 17 = .ok (.iload_n 2, 1) := by decide +kernel
theorem dX8_worst_18 : decode cX8_worst 18 = .ok (.invokestatic 116, 3) := by decide +kernel
theorem dX8_worst_21 : decode cX8_worst 21 = .ok (.ifCond .eq 16, 3) := by decide +kernel
theorem dX8_worst_24 : decode cX8_worst 24 = .ok (.iload_n 3, 1) := by decide +kernel
theorem dX8_worst_25 : decode cX8_worst 25 = .ok (.iconst 0, 1) := by decide +kernel
theorem dX8_worst_26 : decode cX8_worst 26 = .ok (.iconst 1, 1) := by decide +kernel
theorem dX8_worst_27 : decode cX8_worst 27 = .ok (.invokestatic 78, 3) := by decide +kernel
theorem dX8_worst_30 : decode cX8_worst 30 = .ok (.ifCond .eq 7, 3) := by decide +kernel
theorem dX8_worst_33 : decode cX8_worst 33 = .ok (.iconst 0, 1) := by decide +kernel
theorem dX8_worst_34 : decode cX8_worst 34 = .ok (.goto 4, 3) := by decide +kernel
theorem dX8_worst_37 : decode cX8_worst 37 = .ok (.iconst 2, 1) := by decide +kernel
theorem dX8_worst_38 : decode cX8_worst 38 = .ok (.invokevirtual 102, 3) := by decide +kernel
theorem dX8_worst_41 : decode cX8_worst 41 = .ok (.ifCond .ne 5, 3) := by decide +kernel
theorem dX8_worst_44 : decode cX8_worst 44 = .ok (.iconst 0, 1) := by decide +kernel
theorem dX8_worst_45 : decode cX8_worst 45 = .ok (.ireturn, 1) := by decide +kernel
theorem dX8_worst_46 : decode cX8_worst 46 = .ok (.aload_n 0, 1) := by decide +kernel
theorem dX8_worst_47 : decode cX8_worst 47 = .ok (.iload_n 1, 1) := by decide +kernel
theorem dX8_worst_48 : decode cX8_worst 48 = .ok (.iload_n 2, 1) := by decide +kernel
theorem dX8_worst_49 : decode cX8_worst 49 = .ok (.invokevirtual 190, 3) := by decide +kernel
theorem dX8_worst_52 : decode cX8_worst 52 = .ok (.iconst (-1), 1) := by decide +kernel
theorem dX8_worst_53 : decode cX8_worst 53 = .ok (.istore 5, 2) := by decide +kernel
theorem dX8_worst_55 : decode cX8_worst 55 = .ok (.iconst (-1), 1) := by decide +kernel
theorem dX8_worst_56 : decode cX8_worst 56 = .ok (.istore 6, 2) := by decide +kernel
theorem dX8_worst_58 : decode cX8_worst 58 = .ok (.iconst 0, 1) := by decide +kernel
theorem dX8_worst_59 : decode cX8_worst 59 = .ok (.istore 7, 2) := by decide +kernel
theorem dX8_worst_61 : decode cX8_worst 61 = .ok (.iload 7, 2) := by decide +kernel
theorem dX8_worst_63 : decode cX8_worst 63 = .ok (.sipush 360, 3) := by decide +kernel
theorem dX8_worst_66 : decode cX8_worst 66 = .ok (.if_icmp .ge 90, 3) := by decide +kernel
theorem dX8_worst_69 : decode cX8_worst 69 = .ok (.aload_n 0, 1) := by decide +kernel
theorem dX8_worst_70 : decode cX8_worst 70 = .ok (.iload_n 1, 1) := by decide +kernel
theorem dX8_worst_71 : decode cX8_worst 71 = .ok (.iload_n 2, 1) := by decide +kernel
theorem dX8_worst_72 : decode cX8_worst 72 = .ok (.iload 7, 2) := by decide +kernel
theorem dX8_worst_74 : decode cX8_worst 74 = .ok (.invokevirtual 177, 3) := by decide +kernel
theorem dX8_worst_77 : decode cX8_worst 77 = .ok (.ifCond .eq 18, 3) := by decide +kernel
theorem dX8_worst_80 : decode cX8_worst 80 = .ok (.aload_n 0, 1) := by decide +kernel
theorem dX8_worst_81 : decode cX8_worst 81 = .ok (.aload_n 0, 1) := by decide +kernel
theorem dX8_worst_82 : decode cX8_worst 82 = .ok (.getfield 167, 3) := by decide +kernel
theorem dX8_worst_85 : decode cX8_worst 85 = .ok (.aload_n 0, 1) := by decide +kernel
theorem dX8_worst_86 : decode cX8_worst 86 = .ok (.getfield 170, 3) := by decide +kernel
theorem dX8_worst_89 : decode cX8_worst 89 = .ok (.invokevirtual 194, 3) := by decide +kernel
theorem dX8_worst_92 : decode cX8_worst 92 = .ok (.goto 4, 3) := by decide +kernel
theorem dX8_worst_95 : decode cX8_worst 95 = .ok (.iconst (-1), 1) := by decide +kernel
theorem dX8_worst_96 : decode cX8_worst 96 = .ok (.istore 8, 2) := by decide +kernel
theorem dX8_worst_98 : decode cX8_worst 98 = .ok (.iload 8, 2) := by decide +kernel
theorem dX8_worst_100 : decode cX8_worst 100 = .ok (.iconst (-1), 1) := by decide +kernel
theorem dX8_worst_101 : decode cX8_worst 101 = .ok (.if_icmp .ne 7, 3) := by decide +kernel
theorem dX8_worst_104 : decode cX8_worst 104 = .ok (.iconst (-1), 1) := by decide +kernel
theorem dX8_worst_105 : decode cX8_worst 105 = .ok (.goto 11, 3) := by decide +kernel
theorem dX8_worst_108 : decode cX8_worst 108 = .ok (.iload 8, 2) := by decide +kernel
theorem dX8_worst_110 : decode cX8_worst 110 = .ok (.iload 7, 2) := by decide +kernel
theorem dX8_worst_112 : decode cX8_worst 112 = .ok (.isub, 1) := by decide +kernel
theorem dX8_worst_113 : decode cX8_worst 113 = .ok (.invokestatic 180, 3) := by decide +kernel
theorem dX8_worst_116 : decode cX8_worst 116 = .ok (.istore 9, 2) := by decide +kernel
theorem dX8_worst_118 : decode cX8_worst 118 = .ok (.iload 9, 2) := by decide +kernel
theorem dX8_worst_120 : decode cX8_worst 120 = .ok (.iload 5, 2) := by decide +kernel
theorem dX8_worst_122 : decode cX8_worst 122 = .ok (.if_icmp .le 8, 3) := by decide +kernel
theorem dX8_worst_125 : decode cX8_worst 125 = .ok (.iload 7, 2) := by decide +kernel
theorem dX8_worst_127 : decode cX8_worst 127 = .ok (.goto 5, 3) := by decide +kernel
theorem dX8_worst_130 : decode cX8_worst 130 = .ok (.iload 6, 2) := by decide +kernel
theorem dX8_worst_132 : decode cX8_worst 132 = .ok (.istore 6, 2) := by decide +kernel
theorem dX8_worst_134 : decode cX8_worst 134 = .ok (.iload 9, 2) := by decide +kernel
theorem dX8_worst_136 : decode cX8_worst 136 = .ok (.iload 5, 2) := by decide +kernel
theorem dX8_worst_138 : decode cX8_worst 138 = .ok (.if_icmp .le 8, 3) := by decide +kernel
theorem dX8_worst_141 : decode cX8_worst 141 = .ok (.iload 9, 2) := by decide +kernel
theorem dX8_worst_143 : decode cX8_worst 143 = .ok (.goto 5, 3) := by decide +kernel
theorem dX8_worst_146 : decode cX8_worst 146 = .ok (.iload 5, 2) := by decide +kernel
theorem dX8_worst_148 : decode cX8_worst 148 = .ok (.istore 5, 2) := by decide +kernel
theorem dX8_worst_150 : decode cX8_worst 150 = .ok (.iinc 7 1, 3) := by decide +kernel
theorem dX8_worst_153 : decode cX8_worst 153 = .ok (.goto (-92), 3) := by decide +kernel
theorem dX8_worst_156 : decode cX8_worst 156 = .ok (.iload_n 3, 1) := by decide +kernel
theorem dX8_worst_157 : decode cX8_worst 157 = .ok (.ifCond .ne 8, 3) := by decide +kernel
theorem dX8_worst_160 : decode cX8_worst 160 = .ok (.iload 5, 2) := by decide +kernel
theorem dX8_worst_162 : decode cX8_worst 162 = .ok (.goto 5, 3) := by decide +kernel
theorem dX8_worst_165 : decode cX8_worst 165 = .ok (.iload 6, 2) := by decide +kernel
theorem dX8_worst_167 : decode cX8_worst 167 = .ok (.ireturn, 1) := by decide +kernel
theorem dX8_addFaults_0 : decode cX8_addFaults 0 = .ok (.aload_n 0, 1) := by decide +kernel
theorem dX8_addFaults_1 : decode cX8_addFaults 1 = .ok (.iload_n 1, 1) := by decide +kernel
theorem dX8_addFaults_2 : decode cX8_addFaults 2 = .ok (.iload_n 2, 1) := by decide +kernel
theorem dX8_addFaults_3 : decode cX8_addFaults 3 = .ok (.invokevirtual 190, 3) := by decide +kernel
theorem dX8_addFaults_6 : decode cX8_addFaults 6 = .ok (.iconst 0, 1) := by decide +kernel
theorem dX8_addFaults_7 : decode cX8_addFaults 7 = .ok (.istore 5, 2) := by decide +kernel
theorem dX8_addFaults_9 : decode cX8_addFaults 9 = .ok (.iload 5, 2) := by decide +kernel
theorem dX8_addFaults_11 : decode cX8_addFaults 11 = .ok (.bipush 90, 2) := by decide +kernel
theorem dX8_addFaults_13 : decode cX8_addFaults 13 = .ok (.if_icmp .gt 110, 3) := by decide +kernel
theorem dX8_addFaults_16 : decode cX8_addFaults 16 = .ok (.iconst 0, 1) := by decide +kernel
theorem dX8_addFaults_17 : decode cX8_addFaults 17 = .ok (.istore 6, 2) := by decide +kernel
theorem dX8_addFaults_19 : decode cX8_addFaults 19 = .ok (.iload 6, 2) := by decide +kernel
theorem dX8_addFaults_21 : decode cX8_addFaults 21 = .ok (.sipush 360, 3) := by decide +kernel
theorem dX8_addFaults_24 : decode cX8_addFaults 24 = .ok (.if_icmp .ge 93, 3) := by decide +kernel
theorem dX8_addFaults_27 : decode cX8_addFaults 27 = .ok (.aload_n 0, 1) := by decide +kernel
theorem dX8_addFaults_28 : decode cX8_addFaults 28 = .ok (.iload_n 3, 1) := by decide +kernel
theorem dX8_addFaults_29 : decode cX8_addFaults 29 = .ok (.iload_n 2, 1) := by decide +kernel
theorem dX8_addFaults_30 : decode cX8_addFaults 30 = .ok (.iload 6, 2) := by decide +kernel
theorem dX8_addFaults_32 : decode cX8_addFaults 32 = .ok (.iload 5, 2) := by decide +kernel
theorem dX8_addFaults_34 : decode cX8_addFaults 34 = .ok (.iload 4, 2) := by decide +kernel
theorem dX8_addFaults_36 : decode cX8_addFaults 36 = .ok (.aload_n 0, 1) := by decide +kernel
theorem dX8_addFaults_37 : decode cX8_addFaults 37 = .ok (.getfield 23, 3) := by decide +kernel
theorem dX8_addFaults_40 : decode cX8_addFaults 40 = .ok (.iload_n 1, 1) := by decide +kernel
theorem dX8_addFaults_41 : decode cX8_addFaults 41 = .ok (.iaload, 1) := by decide +kernel
theorem dX8_addFaults_42 : decode cX8_addFaults 42 = .ok (.invokevirtual 173, 3) := by decide +kernel
theorem dX8_addFaults_45 : decode cX8_addFaults 45 = .ok (.ifCond .eq 18, 3) := by decide +kernel
theorem dX8_addFaults_48 : decode cX8_addFaults 48 = .ok (.aload_n 0, 1) := by decide +kernel
theorem dX8_addFaults_49 : decode cX8_addFaults 49 = .ok (.aload_n 0, 1) := by decide +kernel
theorem dX8_addFaults_50 : decode cX8_addFaults 50 = .ok (.getfield 167, 3) := by decide +kernel
theorem dX8_addFaults_53 : decode cX8_addFaults 53 = .ok (.aload_n 0, 1) := by decide +kernel
theorem dX8_addFaults_54 : decode cX8_addFaults 54 = .ok (.getfield 170, 3) := by decide +kernel
theorem dX8_addFaults_57 : decode cX8_addFaults 57 = .ok (.invokevirtual 194, 3) := by decide +kernel
theorem dX8_addFaults_60 : decode cX8_addFaults 60 = .ok (.goto 4, 3) := by decide +kernel
theorem dX8_addFaults_63 : decode cX8_addFaults 63 = .ok (.iconst (-1), 1) := by decide +kernel
theorem dX8_addFaults_64 : decode cX8_addFaults 64 = .ok (.istore 7, 2) := by decide +kernel
theorem dX8_addFaults_66 : decode cX8_addFaults 66 = .ok (.aload_n 0, 1) := by decide +kernel
theorem dX8_addFaults_67 : decode cX8_addFaults 67 = .ok (.getfield 72, 3) := by decide +kernel
theorem dX8_addFaults_70 : decode cX8_addFaults 70 = .ok (.iload 5, 2) := by decide +kernel
theorem dX8_addFaults_72 : decode cX8_addFaults 72 = .ok (.dup2, 1) := by decide +kernel
theorem dX8_addFaults_73 : decode cX8_addFaults 73 = .ok (.iaload, 1) := by decide +kernel
theorem dX8_addFaults_74 : decode cX8_addFaults 74 = .ok (.iload 7, 2) := by decide +kernel
theorem dX8_addFaults_76 : decode cX8_addFaults 76 = .ok (.iconst (-1), 1) := by decide +kernel
theorem dX8_addFaults_77 : decode cX8_addFaults 77 = .ok (.if_icmp .eq 14, 3) := by decide +kernel
theorem dX8_addFaults_80 : decode cX8_addFaults 80 = .ok (.iload 7, 2) := by decide +kernel
theorem dX8_addFaults_82 : decode cX8_addFaults 82 = .ok (.iload 6, 2) := by decide +kernel
theorem dX8_addFaults_84 : decode cX8_addFaults 84 = .ok (.isub, 1) := by decide +kernel
theorem dX8_addFaults_85 : decode cX8_addFaults 85 = .ok (.invokestatic 180, 3) := by decide +kernel
theorem dX8_addFaults_88 : decode cX8_addFaults 88 = .ok (.goto 21, 3) := by decide +kernel
theorem dX8_addFaults_91 : decode cX8_addFaults 91 = .ok (.aload_n 0, 1) := by decide +kernel
theorem dX8_addFaults_92 : decode cX8_addFaults 92 = .ok (.iload_n 3, 1) := by decide +kernel
theorem dX8_addFaults_93 : decode cX8_addFaults 93 = .ok (.iload_n 2, 1) := by decide +kernel
theorem dX8_addFaults_94 : decode cX8_addFaults 94 = .ok (.iload 6, 2) := by decide +kernel
theorem dX8_addFaults_96 : decode cX8_addFaults 96 = .ok (.invokevirtual 141, 3) := by decide +kernel
theorem dX8_addFaults_99 : decode cX8_addFaults 99 = .ok (.ifCond .eq 9, 3) := by decide +kernel
theorem dX8_addFaults_102 : decode cX8_addFaults 102 = .ok (.sipush 180, 3) := by decide +kernel
theorem dX8_addFaults_105 : decode cX8_addFaults 105 = .ok (.goto 4, 3) := by decide +kernel
theorem dX8_addFaults_108 : decode cX8_addFaults 108 = .ok (.iconst 0, 1) := by decide +kernel
theorem dX8_addFaults_109 : decode cX8_addFaults 109 = .ok (.iadd, 1) := by decide +kernel
theorem dX8_addFaults_110 : decode cX8_addFaults 110 = .ok (.iastore, 1) := by decide +kernel
theorem dX8_addFaults_111 : decode cX8_addFaults 111 = .ok (.iinc 6 15, 3) := by decide +kernel
theorem dX8_addFaults_114 : decode cX8_addFaults 114 = .ok (.goto (-95), 3) := by decide +kernel
theorem dX8_addFaults_117 : decode cX8_addFaults 117 = .ok (.iinc 5 1, 3) := by decide +kernel
theorem dX8_addFaults_120 : decode cX8_addFaults 120 = .ok (.goto (-111), 3) := by decide +kernel
theorem dX8_addFaults_123 : decode cX8_addFaults 123 = .ok (.return_, 1) := by decide +kernel
theorem dX8_best_0 : decode cX8_best 0 = .ok (.aload_n 0, 1) := by decide +kernel
theorem dX8_best_1 : decode cX8_best 1 = .ok (.iload_n 1, 1) := by decide +kernel
theorem dX8_best_2 : decode cX8_best 2 = .ok (.invokevirtual 160, 3) := by decide +kernel
theorem dX8_best_5 : decode cX8_best 5 = .ok (.ifCond .eq 15, 3) := by decide +kernel
theorem dX8_best_8 : decode cX8_best 8 = .ok (.aload_n 0, 1) := by decide +kernel
theorem dX8_best_9 : decode cX8_best 9 = .ok (.iload_n 2, 1) := by decide +kernel
theorem dX8_best_10 : decode cX8_best 10 = .ok (.invokevirtual 144, 3) := by decide +kernel
theorem dX8_best_13 : decode cX8_best 13 = .ok (.ifCond .eq 7, 3) := by decide +kernel
theorem dX8_best_16 : decode cX8_best 16 = .ok (.iconst 1, 1) := by decide +kernel
theorem dX8_best_17 : decode cX8_best 17 = .ok (.goto 4, 3) := by decide +kernel
theorem dX8_best_20 : decode cX8_best 20 = .ok (.iconst 0, 1) := by decide +kernel
theorem dX8_best_21 : decode cX8_best 21 = .ok (.istore 4, 2) := by decide +kernel
theorem dX8_best_23 : decode cX8_best 23 = .ok (.aload_n 0, 1) := by decide +kernel
theorem dX8_best_24 : decode cX8_best 24 = .ok (.iload 4, 2) := by decide +kernel
theorem dX8_best_26 : decode cX8_best 26 = .ok (.ifCond .ne 7, 3) := by decide +kernel
theorem dX8_best_29 : decode cX8_best 29 = .ok (.iconst 1, 1) := by decide +kernel
theorem dX8_best_30 : decode cX8_best 30 = .ok (.goto 21, 3) := by decide +kernel
theorem dX8_best_33 : decode cX8_best 33 = .ok (.iload_n 3, 1) := by decide +kernel
theorem dX8_best_34 : decode cX8_best 34 = .ok (.sipush (-180), 3) := by decide +kernel
theorem dX8_best_37 : decode cX8_best 37 = .ok (.sipush 180, 3) := by decide +kernel
theorem dX8_best_40 : decode cX8_best 40 = .ok (.invokestatic 78, 3) := by decide +kernel
theorem dX8_best_43 : decode cX8_best 43 = .ok (.ifCond .eq 7, 3) := by decide +kernel
theorem dX8_best_46 : decode cX8_best 46 = .ok (.iconst 0, 1) := by decide +kernel
theorem dX8_best_47 : decode cX8_best 47 = .ok (.goto 4, 3) := by decide +kernel
theorem dX8_best_50 : decode cX8_best 50 = .ok (.iconst 2, 1) := by decide +kernel
theorem dX8_best_51 : decode cX8_best 51 = .ok (.invokevirtual 102, 3) := by decide +kernel
theorem dX8_best_54 : decode cX8_best 54 = .ok (.ifCond .ne 5, 3) := by decide +kernel
theorem dX8_best_57 : decode cX8_best 57 = .ok (.iconst 0, 1) := by decide +kernel
theorem dX8_best_58 : decode cX8_best 58 = .ok (.ireturn, 1) := by decide +kernel
theorem dX8_best_59 : decode cX8_best 59 = .ok (.iconst 0, 1) := by decide +kernel
theorem dX8_best_60 : decode cX8_best 60 = .ok (.istore 5, 2) := by decide +kernel
theorem dX8_best_62 : decode cX8_best 62 = .ok (.iload 5, 2) := by decide +kernel
theorem dX8_best_64 : decode cX8_best 64 = .ok (.bipush 90, 2) := by decide +kernel
theorem dX8_best_66 : decode cX8_best 66 = .ok (.if_icmp .gt 17, 3) := by decide +kernel
theorem dX8_best_69 : decode cX8_best 69 = .ok (.aload_n 0, 1) := by decide +kernel
theorem dX8_best_70 : decode cX8_best 70 = .ok (.getfield 72, 3) := by decide +kernel
theorem dX8_best_73 : decode cX8_best 73 = .ok (.iload 5, 2) := by decide +kernel
theorem dX8_best_75 : decode cX8_best 75 = .ok (.iconst 0, 1) := by decide +kernel
theorem dX8_best_76 : decode cX8_best 76 = .ok (.iastore, 1) := by decide +kernel
theorem dX8_best_77 : decode cX8_best 77 = .ok (.iinc 5 1, 3) := by decide +kernel
theorem dX8_best_80 : decode cX8_best 80 = .ok (.goto (-18), 3) := by decide +kernel
theorem dX8_best_83 : decode cX8_best 83 = .ok (.aload_n 0, 1) := by decide +kernel
theorem dX8_best_84 : decode cX8_best 84 = .ok (.iload_n 1, 1) := by decide +kernel
theorem dX8_best_85 : decode cX8_best 85 = .ok (.iconst 0, 1) := by decide +kernel
theorem dX8_best_86 : decode cX8_best 86 = .ok (.aload_n 0, 1) := by decide +kernel
theorem dX8_best_87 : decode cX8_best 87 = .ok (.getfield 7, 3) := by decide +kernel
theorem dX8_best_90 : decode cX8_best 90 = .ok (.iload_n 2, 1) := by decide +kernel
theorem dX8_best_91 : decode cX8_best 91 = .ok (.iaload, 1) := by decide +kernel
theorem dX8_best_92 : decode cX8_best 92 = .ok (.iload_n 3, 1) := by decide +kernel
theorem dX8_best_93 : decode cX8_best 93 = .ok (.invokevirtual 197, 3) := by decide +kernel
theorem dX8_best_96 : decode cX8_best 96 = .ok (.aload_n 0, 1) := by decide +kernel
theorem dX8_best_97 : decode cX8_best 97 = .ok (.iload_n 1, 1) := by decide +kernel
theorem dX8_best_98 : decode cX8_best 98 = .ok (.bipush 90, 2) := by decide +kernel
theorem dX8_best_100 : decode cX8_best 100 = .ok (.aload_n 0, 1) := by decide +kernel
theorem dX8_best_101 : decode cX8_best 101 = .ok (.getfield 7, 3) := by decide +kernel
theorem dX8_best_104 : decode cX8_best 104 = .ok (.iload_n 2, 1) := by decide +kernel
theorem dX8_best_105 : decode cX8_best 105 = .ok (.iaload, 1) := by decide +kernel
theorem dX8_best_106 : decode cX8_best 106 = .ok (.iload_n 3, 1) := by decide +kernel
theorem dX8_best_107 : decode cX8_best 107 = .ok (.invokevirtual 197, 3) := by decide +kernel
theorem dX8_best_110 : decode cX8_best 110 = .ok (.aload_n 0, 1) := by decide +kernel
theorem dX8_best_111 : decode cX8_best 111 = .ok (.iload_n 1, 1) := by decide +kernel
theorem dX8_best_112 : decode cX8_best 112 = .ok (.sipush 270, 3) := by decide +kernel
theorem dX8_best_115 : decode cX8_best 115 = .ok (.aload_n 0, 1) := by decide +kernel
theorem dX8_best_116 : decode cX8_best 116 = .ok (.getfield 7, 3) := by decide +kernel
theorem dX8_best_119 : decode cX8_best 119 = .ok (.iload_n 2, 1) := by decide +kernel
theorem dX8_best_120 : decode cX8_best 120 = .ok (.iaload, 1) := by decide +kernel
theorem dX8_best_121 : decode cX8_best 121 = .ok (.iload_n 3, 1) := by decide +kernel
theorem dX8_best_122 : decode cX8_best 122 = .ok (.invokevirtual 197, 3) := by decide +kernel
theorem dX8_best_125 : decode cX8_best 125 = .ok (.iconst 0, 1) := by decide +kernel
theorem dX8_best_126 : decode cX8_best 126 = .ok (.istore 5, 2) := by decide +kernel
theorem dX8_best_128 : decode cX8_best 128 = .ok (.iconst 0, 1) := by decide +kernel
theorem dX8_best_129 : decode cX8_best 129 = .ok (.istore 6, 2) := by decide +kernel
theorem dX8_best_131 : decode cX8_best 131 = .ok (.iload 6, 2) := by decide +kernel
theorem dX8_best_133 : decode cX8_best 133 = .ok (.bipush 90, 2) := by decide +kernel
theorem dX8_best_135 : decode cX8_best 135 = .ok (.if_icmp .gt 35, 3) := by decide +kernel
theorem dX8_best_138 : decode cX8_best 138 = .ok (.aload_n 0, 1) := by decide +kernel
theorem dX8_best_139 : decode cX8_best 139 = .ok (.getfield 72, 3) := by decide +kernel
theorem dX8_best_142 : decode cX8_best 142 = .ok (.iload 6, 2) := by decide +kernel
theorem dX8_best_144 : decode cX8_best 144 = .ok (.iaload, 1) := by decide +kernel
theorem dX8_best_145 : decode cX8_best 145 = .ok (.aload_n 0, 1) := by decide +kernel
theorem dX8_best_146 : decode cX8_best 146 = .ok (.getfield 72, 3) := by decide +kernel
theorem dX8_best_149 : decode cX8_best 149 = .ok (.iload 5, 2) := by decide +kernel
theorem dX8_best_151 : decode cX8_best 151 = .ok (.iaload, 1) := by decide +kernel
theorem dX8_best_152 : decode cX8_best 152 = .ok (.if_icmp .ge 8, 3) := by decide +kernel
theorem dX8_best_155 : decode cX8_best 155 = .ok (.iload 6, 2) := by decide +kernel
theorem dX8_best_157 : decode cX8_best 157 = .ok (.goto 5, 3) := by decide +kernel
theorem dX8_best_160 : decode cX8_best 160 = .ok (.iload 5, 2) := by decide +kernel
theorem dX8_best_162 : decode cX8_best 162 = .ok (.istore 5, 2) := by decide +kernel
theorem dX8_best_164 : decode cX8_best 164 = .ok (.iinc 6 1, 3) := by decide +kernel
theorem dX8_best_167 : decode cX8_best 167 = .ok (.goto (-36), 3) := by decide +kernel
theorem dX8_best_170 : decode cX8_best 170 = .ok (.iload 5, 2) := by decide +kernel
theorem dX8_best_172 : decode cX8_best 172 = .ok (.ireturn, 1) := by decide +kernel
theorem dX8_cut_0 : decode cX8_cut 0 = .ok (.aload_n 0, 1) := by decide +kernel
theorem dX8_cut_1 : decode cX8_cut 1 = .ok (.iload_n 1, 1) := by decide +kernel
theorem dX8_cut_2 : decode cX8_cut 2 = .ok (.invokevirtual 160, 3) := by decide +kernel
theorem dX8_cut_5 : decode cX8_cut 5 = .ok (.istore 4, 2) := by decide +kernel
theorem dX8_cut_7 : decode cX8_cut 7 = .ok (.iload_n 2, 1) := by decide +kernel
theorem dX8_cut_8 : decode cX8_cut 8 = .ok (.iconst 1, 1) := by decide +kernel
theorem dX8_cut_9 : decode cX8_cut 9 = .ok (.bipush 23, 2) := by decide +kernel
theorem dX8_cut_11 : decode cX8_cut 11 = .ok (.invokestatic 78, 3) := by decide +kernel
theorem dX8_cut_14 : decode cX8_cut 14 = .ok (.ifCond .eq 18, 3) := by decide +kernel
theorem dX8_cut_17 : decode cX8_cut 17 = .ok (.iload_n 3, 1) := by decide +kernel
theorem dX8_cut_18 : decode cX8_cut 18 = .ok (.bipush (-50), 2) := by decide +kernel
theorem dX8_cut_20 : decode cX8_cut 20 = .ok (.bipush 50, 2) := by decide +kernel
theorem dX8_cut_22 : decode cX8_cut 22 = .ok (.invokestatic 78, 3) := by decide +kernel
theorem dX8_cut_25 : decode cX8_cut 25 = .ok (.ifCond .eq 7, 3) := by decide +kernel
theorem dX8_cut_28 : decode cX8_cut 28 = .ok (.iconst 1, 1) := by decide +kernel
theorem dX8_cut_29 : decode cX8_cut 29 = .ok (.goto 4, 3) := by decide +kernel
theorem dX8_cut_32 : decode cX8_cut 32 = .ok (.iconst 0, 1) := by decide +kernel
theorem dX8_cut_33 : decode cX8_cut 33 = .ok (.istore 5, 2) := by decide +kernel
theorem dX8_cut_35 : decode cX8_cut 35 = .ok (.aload_n 0, 1) := by decide +kernel
theorem dX8_cut_36 : decode cX8_cut 36 = .ok (.iload 4, 2) := by decide +kernel
theorem dX8_cut_38 : decode cX8_cut 38 = .ok (.ifCond .ne 7, 3) := by decide +kernel
theorem dX8_cut_41 : decode cX8_cut 41 = .ok (.iconst 1, 1) := by decide +kernel
theorem dX8_cut_42 : decode cX8_cut 42 = .ok (.goto 40, 3) := by decide +kernel
theorem dX8_cut_45 : decode cX8_cut 45 = .ok (.iload 5, 2) := by decide +kernel
theorem dX8_cut_47 : decode cX8_cut 47 = .ok (.ifCond .ne 7, 3) := by decide +kernel
theorem dX8_cut_50 : decode cX8_cut 50 = .ok (.iconst 2, 1) := by decide +kernel
theorem dX8_cut_51 : decode cX8_cut 51 = .ok (.goto 31, 3) := by decide +kernel
theorem dX8_cut_54 : decode cX8_cut 54 = .ok (.aload_n 0, 1) := by decide +kernel
theorem dX8_cut_55 : decode cX8_cut 55 = .ok (.iload_n 1, 1) := by decide +kernel
theorem dX8_cut_56 : decode cX8_cut 56 = .ok (.iload_n 2, 1) := by decide +kernel
theorem dX8_cut_57 : decode cX8_cut 57 = .ok (.invokevirtual 187, 3) := by decide +kernel
theorem dX8_cut_60 : decode cX8_cut 60 = .ok (.ifCond .eq 21, 3) := by decide +kernel
theorem dX8_cut_63 : decode cX8_cut 63 = .ok (.aload_n 0, 1) := by decide +kernel
theorem dX8_cut_64 : decode cX8_cut 64 = .ok (.getfield 44, 3) := by decide +kernel
theorem dX8_cut_67 : decode cX8_cut 67 = .ok (.bipush 24, 2) := by decide +kernel
theorem dX8_cut_69 : decode cX8_cut 69 = .ok (.iload_n 1, 1) := by decide +kernel
theorem dX8_cut_70 : decode cX8_cut 70 = .ok (.imul, 1) := by decide +kernel
theorem dX8_cut_71 : decode cX8_cut 71 = .ok (.iload_n 2, 1) := by decide +kernel
theorem dX8_cut_72 : decode cX8_cut 72 = .ok (.iadd, 1) := by decide +kernel
theorem dX8_cut_73 : decode cX8_cut 73 = .ok (.baload, 1) := by decide +kernel
theorem dX8_cut_74 : decode cX8_cut 74 = .ok (.ifCond .ne 7, 3) := by decide +kernel
theorem dX8_cut_77 : decode cX8_cut 77 = .ok (.iconst 0, 1) := by decide +kernel
theorem dX8_cut_78 : decode cX8_cut 78 = .ok (.goto 4, 3) := by decide +kernel
theorem dX8_cut_81 : decode cX8_cut 81 = .ok (.iconst 3, 1) := by decide +kernel
theorem dX8_cut_82 : decode cX8_cut 82 = .ok (.invokevirtual 102, 3) := by decide +kernel
theorem dX8_cut_85 : decode cX8_cut 85 = .ok (.ifCond .ne 5, 3) := by decide +kernel
theorem dX8_cut_88 : decode cX8_cut 88 = .ok (.iconst 0, 1) := by decide +kernel
theorem dX8_cut_89 : decode cX8_cut 89 = .ok (.ireturn, 1) := by decide +kernel
theorem dX8_cut_90 : decode cX8_cut 90 = .ok (.aload_n 0, 1) := by decide +kernel
theorem dX8_cut_91 : decode cX8_cut 91 = .ok (.iload_n 1, 1) := by decide +kernel
theorem dX8_cut_92 : decode cX8_cut 92 = .ok (.bipush 90, 2) := by decide +kernel
theorem dX8_cut_94 : decode cX8_cut 94 = .ok (.bipush 15, 2) := by decide +kernel
theorem dX8_cut_96 : decode cX8_cut 96 = .ok (.iload_n 2, 1) := by decide +kernel
theorem dX8_cut_97 : decode cX8_cut 97 = .ok (.imul, 1) := by decide +kernel
theorem dX8_cut_98 : decode cX8_cut 98 = .ok (.invokevirtual 184, 3) := by decide +kernel
theorem dX8_cut_101 : decode cX8_cut 101 = .ok (.istore 6, 2) := by decide +kernel
theorem dX8_cut_103 : decode cX8_cut 103 = .ok (.aload_n 0, 1) := by decide +kernel
theorem dX8_cut_104 : decode cX8_cut 104 = .ok (.getfield 167, 3) := by decide +kernel
theorem dX8_cut_107 : decode cX8_cut 107 = .ok (.istore 7, 2) := by decide +kernel
theorem dX8_cut_109 : decode cX8_cut 109 = .ok (.aload_n 0, 1) := by decide +kernel
theorem dX8_cut_110 : decode cX8_cut 110 = .ok (.getfield 170, 3) := by decide +kernel
theorem dX8_cut_113 : decode cX8_cut 113 = .ok (.istore 8, 2) := by decide +kernel
theorem dX8_cut_115 : decode cX8_cut 115 = .ok (.aload_n 0, 1) := by decide +kernel
theorem dX8_cut_116 : decode cX8_cut 116 = .ok (.iload_n 1, 1) := by decide +kernel
theorem dX8_cut_117 : decode cX8_cut 117 = .ok (.sipush 270, 3) := by decide +kernel
theorem dX8_cut_120 : decode cX8_cut 120 = .ok (.bipush 15, 2) := by decide +kernel
theorem dX8_cut_122 : decode cX8_cut 122 = .ok (.iload_n 2, 1) := by decide +kernel
theorem dX8_cut_123 : decode cX8_cut 123 = .ok (.imul, 1) := by decide +kernel
theorem dX8_cut_124 : decode cX8_cut 124 = .ok (.invokevirtual 184, 3) := by decide +kernel
theorem dX8_cut_127 : decode cX8_cut 127 = .ok (.istore 6, 2) := by decide +kernel
theorem dX8_cut_129 : decode cX8_cut 129 = .ok (.iconst 3, 1) := by decide +kernel
theorem dX8_cut_130 : decode cX8_cut 130 = .ok (.aload_n 0, 1) := by decide +kernel
theorem dX8_cut_131 : decode cX8_cut 131 = .ok (.getfield 167, 3) := by decide +kernel
theorem dX8_cut_134 : decode cX8_cut 134 = .ok (.iload 7, 2) := by decide +kernel
theorem dX8_cut_136 : decode cX8_cut 136 = .ok (.isub, 1) := by decide +kernel
theorem dX8_cut_137 : decode cX8_cut 137 = .ok (.invokestatic 180, 3) := by decide +kernel
theorem dX8_cut_140 : decode cX8_cut 140 = .ok (.aload_n 0, 1) := by decide +kernel
theorem dX8_cut_141 : decode cX8_cut 141 = .ok (.getfield 170, 3) := by decide +kernel
theorem dX8_cut_144 : decode cX8_cut 144 = .ok (.iload 8, 2) := by decide +kernel
theorem dX8_cut_146 : decode cX8_cut 146 = .ok (.isub, 1) := by decide +kernel
theorem dX8_cut_147 : decode cX8_cut 147 = .ok (.invokestatic 180, 3) := by decide +kernel
theorem dX8_cut_150 : decode cX8_cut 150 = .ok (.iadd, 1) := by decide +kernel
theorem dX8_cut_151 : decode cX8_cut 151 = .ok (.imul, 1) := by decide +kernel
theorem dX8_cut_152 : decode cX8_cut 152 = .ok (.bipush 50, 2) := by decide +kernel
theorem dX8_cut_154 : decode cX8_cut 154 = .ok (.iadd, 1) := by decide +kernel
theorem dX8_cut_155 : decode cX8_cut 155 = .ok (.istore 9, 2) := by decide +kernel
theorem dX8_cut_157 : decode cX8_cut 157 = .ok (.aload_n 0, 1) := by decide +kernel
theorem dX8_cut_158 : decode cX8_cut 158 = .ok (.getfield 44, 3) := by decide +kernel
theorem dX8_cut_161 : decode cX8_cut 161 = .ok (.bipush 24, 2) := by decide +kernel
theorem dX8_cut_163 : decode cX8_cut 163 = .ok (.iload_n 1, 1) := by decide +kernel
theorem dX8_cut_164 : decode cX8_cut 164 = .ok (.imul, 1) := by decide +kernel
theorem dX8_cut_165 : decode cX8_cut 165 = .ok (.iload_n 2, 1) := by decide +kernel
theorem dX8_cut_166 : decode cX8_cut 166 = .ok (.iadd, 1) := by decide +kernel
theorem dX8_cut_167 : decode cX8_cut 167 = .ok (.iconst 1, 1) := by decide +kernel
theorem dX8_cut_168 : decode cX8_cut 168 = .ok (.bastore, 1) := by decide +kernel
theorem dX8_cut_169 : decode cX8_cut 169 = .ok (.aload_n 0, 1) := by decide +kernel
theorem dX8_cut_170 : decode cX8_cut 170 = .ok (.getfield 48, 3) := by decide +kernel
theorem dX8_cut_173 : decode cX8_cut 173 = .ok (.iload_n 1, 1) := by decide +kernel
theorem dX8_cut_174 : decode cX8_cut 174 = .ok (.iload_n 3, 1) := by decide +kernel
theorem dX8_cut_175 : decode cX8_cut 175 = .ok (.invokestatic 180, 3) := by decide +kernel
theorem dX8_cut_178 : decode cX8_cut 178 = .ok (.aload_n 0, 1) := by decide +kernel
theorem dX8_cut_179 : decode cX8_cut 179 = .ok (.getfield 48, 3) := by decide +kernel
theorem dX8_cut_182 : decode cX8_cut 182 = .ok (.iload_n 1, 1) := by decide +kernel
theorem dX8_cut_183 : decode cX8_cut 183 = .ok (.iaload, 1) := by decide +kernel
theorem dX8_cut_184 : decode cX8_cut 184 = .ok (.if_icmp .le 10, 3) := by decide +kernel
theorem dX8_cut_187 : decode cX8_cut 187 = .ok (.iload_n 3, 1) := by decide +kernel
theorem dX8_cut_188 : decode cX8_cut 188 = .ok (.invokestatic 180, 3) := by decide +kernel
theorem dX8_cut_191 : decode cX8_cut 191 = .ok (.goto 9, 3) := by decide +kernel
theorem dX8_cut_194 : decode cX8_cut 194 = .ok (.aload_n 0, 1) := by decide +kernel
theorem dX8_cut_195 : decode cX8_cut 195 = .ok (.getfield 48, 3) := by decide +kernel
theorem dX8_cut_198 : decode cX8_cut 198 = .ok (.iload_n 1, 1) := by decide +kernel
theorem dX8_cut_199 : decode cX8_cut 199 = .ok (.iaload, 1) := by decide +kernel
theorem dX8_cut_200 : decode cX8_cut 200 = .ok (.iastore, 1) := by decide +kernel
theorem dX8_cut_201 : decode cX8_cut 201 = .ok (.aload_n 0, 1) := by decide +kernel
theorem dX8_cut_202 : decode cX8_cut 202 = .ok (.dup, 1) := by decide +kernel
theorem dX8_cut_203 : decode cX8_cut 203 = .ok (.getfield 201, 3) := by decide +kernel
theorem dX8_cut_206 : decode cX8_cut 206 = .ok (.iload 9, 2) := by decide +kernel
theorem dX8_cut_208 : decode cX8_cut 208 = .ok (.i2l, 1) := by decide +kernel
theorem dX8_cut_209 : decode cX8_cut 209 = .ok (.ladd, 1) := by decide +kernel
theorem dX8_cut_210 : decode cX8_cut 210 = .ok (.putfield 201, 3) := by decide +kernel
theorem dX8_cut_213 : decode cX8_cut 213 = .ok (.iload 9, 2) := by decide +kernel
theorem dX8_cut_215 : decode cX8_cut 215 = .ok (.ireturn, 1) := by decide +kernel
theorem dX8_lies_0 : decode cX8_lies 0 = .ok (.aload_n 0, 1) := by decide +kernel
theorem dX8_lies_1 : decode cX8_lies 1 = .ok (.aload_n 0, 1) := by decide +kernel
theorem dX8_lies_2 : decode cX8_lies 2 = .ok (.iload_n 1, 1) := by decide +kernel
theorem dX8_lies_3 : decode cX8_lies 3 = .ok (.invokevirtual 160, 3) := by decide +kernel
theorem dX8_lies_6 : decode cX8_lies 6 = .ok (.ifCond .eq 7, 3) := by decide +kernel
theorem dX8_lies_9 : decode cX8_lies 9 = .ok (.iconst 0, 1) := by decide +kernel
theorem dX8_lies_10 : decode cX8_lies 10 = .ok (.goto 4, 3) := by decide +kernel
theorem dX8_lies_13 : decode cX8_lies 13 = .ok (.iconst 1, 1) := by decide +kernel
theorem dX8_lies_14 : decode cX8_lies 14 = .ok (.invokevirtual 102, 3) := by decide +kernel
theorem dX8_lies_17 : decode cX8_lies 17 = .ok (.ifCond .eq 12, 3) := by decide +kernel
theorem dX8_lies_20 : decode cX8_lies 20 = .ok (.aload_n 0, 1) := by decide +kernel
theorem dX8_lies_21 : decode cX8_lies 21 = .ok (.getfield 48, 3) := by decide +kernel
theorem dX8_lies_24 : decode cX8_lies 24 = .ok (.iload_n 1, 1) := by decide +kernel
theorem dX8_lies_25 : decode cX8_lies 25 = .ok (.iaload, 1) := by decide +kernel
theorem dX8_lies_26 : decode cX8_lies 26 = .ok (.goto 4, 3) := by decide +kernel
theorem dX8_lies_29 : decode cX8_lies 29 = .ok (.iconst 0, 1) := by decide +kernel
theorem dX8_lies_30 : decode cX8_lies 30 = .ok (.ireturn, 1) := by decide +kernel
theorem dX8_cost_0 : decode cX8_cost 0 = .ok (.aload_n 0, 1) := by decide +kernel
theorem dX8_cost_1 : decode cX8_cost 1 = .ok (.iconst 0, 1) := by decide +kernel
theorem dX8_cost_2 : decode cX8_cost 2 = .ok (.putfield 75, 3) := by decide +kernel
theorem dX8_cost_5 : decode cX8_cost 5 = .ok (.aload_n 0, 1) := by decide +kernel
theorem dX8_cost_6 : decode cX8_cost 6 = .ok (.getfield 201, 3) := by decide +kernel
theorem dX8_cost_9 : decode cX8_cost 9 = .ok (.lreturn, 1) := by decide +kernel
theorem dX8_find_0 : decode cX8_find 0 = .ok (.iload_n 1, 1) := by decide +kernel
theorem dX8_find_1 : decode cX8_find 1 = .ok (.invokestatic 116, 3) := by decide +kernel
theorem dX8_find_4 : decode cX8_find 4 = .ok (.ifCond .eq 41, 3) := by decide +kernel
theorem dX8_find_7 : decode cX8_find 7 = .ok (.iload_n 2, 1) := by decide +kernel
theorem dX8_find_8 : decode cX8_find 8 = .ok (.invokestatic 138, 3) := by decide +kernel
theorem dX8_find_11 : decode cX8_find 11 = .ok (.ifCond .eq 34, 3) := by decide +kernel
theorem dX8_find_14 : decode cX8_find 14 = .ok (.iload_n 3, 1) := by decide +kernel
theorem dX8_find_15 : decode cX8_find 15 = .ok (.sipush (-9999), 3) := by decide +kernel
theorem dX8_find_18 : decode cX8_find 18 = .ok (.sipush 9999, 3) := by decide +kernel
theorem dX8_find_21 : decode cX8_find 21 = .ok (.invokestatic 78, 3) := by decide +kernel
theorem dX8_find_24 : decode cX8_find 24 = .ok (.ifCond .eq 21, 3) := by decide +kernel
theorem dX8_find_27 : decode cX8_find 27 = .ok (.iload 4, 2) := by decide +kernel
theorem dX8_find_29 : decode cX8_find 29 = .ok (.sipush (-9999), 3) := by decide +kernel
theorem dX8_find_32 : decode cX8_find 32 = .ok (.sipush 9999, 3) := by decide +kernel
theorem dX8_find_35 : decode cX8_find 35 = .ok (.invokestatic 78, 3) := by decide +kernel
theorem dX8_find_38 : decode cX8_find 38 = .ok (.ifCond .eq 7, 3) := by decide +kernel
theorem dX8_find_41 : decode cX8_find 41 = .ok (.iconst 1, 1) := by decide +kernel
theorem dX8_find_42 : decode cX8_find 42 = .ok (.goto 4, 3) := by decide +kernel
theorem dX8_find_45 : decode cX8_find 45 = .ok (.iconst 0, 1) := by decide +kernel
theorem dX8_find_46 : decode cX8_find 46 = .ok (.istore 5, 2) := by decide +kernel
theorem dX8_find_48 : decode cX8_find 48 = .ok (.aload_n 0, 1) := by decide +kernel
theorem dX8_find_49 : decode cX8_find 49 = .ok (.iload 5, 2) := by decide +kernel
theorem dX8_find_51 : decode cX8_find 51 = .ok (.ifCond .ne 7, 3) := by decide +kernel
theorem dX8_find_54 : decode cX8_find 54 = .ok (.iconst 1, 1) := by decide +kernel
theorem dX8_find_55 : decode cX8_find 55 = .ok (.goto 17, 3) := by decide +kernel
theorem dX8_find_58 : decode cX8_find 58 = .ok (.aload_n 0, 1) := by decide +kernel
theorem dX8_find_59 : decode cX8_find 59 = .ok (.getfield 204, 3) := by decide +kernel
theorem dX8_find_62 : decode cX8_find 62 = .ok (.bipush 6, 2) := by decide +kernel
theorem dX8_find_64 : decode cX8_find 64 = .ok (.if_icmp .ne 7, 3) := by decide +kernel
theorem dX8_find_67 : decode cX8_find 67 = .ok (.iconst 2, 1) := by decide +kernel
theorem dX8_find_68 : decode cX8_find 68 = .ok (.goto 4, 3) := by decide +kernel
theorem dX8_find_71 : decode cX8_find 71 = .ok (.iconst 0, 1) := by decide +kernel
theorem dX8_find_72 : decode cX8_find 72 = .ok (.invokevirtual 102, 3) := by decide +kernel
theorem dX8_find_75 : decode cX8_find 75 = .ok (.ifCond .ne 5, 3) := by decide +kernel
theorem dX8_find_78 : decode cX8_find 78 = .ok (.iconst 0, 1) := by decide +kernel
theorem dX8_find_79 : decode cX8_find 79 = .ok (.ireturn, 1) := by decide +kernel
theorem dX8_find_80 : decode cX8_find 80 = .ok (.aload_n 0, 1) := by decide +kernel
theorem dX8_find_81 : decode cX8_find 81 = .ok (.getfield 51, 3) := by decide +kernel
theorem dX8_find_84 : decode cX8_find 84 = .ok (.aload_n 0, 1) := by decide +kernel
theorem dX8_find_85 : decode cX8_find 85 = .ok (.getfield 204, 3) := by decide +kernel
theorem dX8_find_88 : decode cX8_find 88 = .ok (.iload_n 1, 1) := by decide +kernel
theorem dX8_find_89 : decode cX8_find 89 = .ok (.iastore, 1) := by decide +kernel
theorem dX8_find_90 : decode cX8_find 90 = .ok (.aload_n 0, 1) := by decide +kernel
theorem dX8_find_91 : decode cX8_find 91 = .ok (.getfield 54, 3) := by decide +kernel
theorem dX8_find_94 : decode cX8_find 94 = .ok (.aload_n 0, 1) := by decide +kernel
theorem dX8_find_95 : decode cX8_find 95 = .ok (.getfield 204, 3) := by decide +kernel
theorem dX8_find_98 : decode cX8_find 98 = .ok (.iload_n 2, 1) := by decide +kernel
theorem dX8_find_99 : decode cX8_find 99 = .ok (.iastore, 1) := by decide +kernel
theorem dX8_find_100 : decode cX8_find 100 = .ok (.aload_n 0, 1) := by decide +kernel
theorem dX8_find_101 : decode cX8_find 101 = .ok (.getfield 57, 3) := by decide +kernel
theorem dX8_find_104 : decode cX8_find 104 = .ok (.aload_n 0, 1) := by decide +kernel
theorem dX8_find_105 : decode cX8_find 105 = .ok (.getfield 204, 3) := by decide +kernel
theorem dX8_find_108 : decode cX8_find 108 = .ok (.iload_n 3, 1) := by decide +kernel
theorem dX8_find_109 : decode cX8_find 109 = .ok (.iastore, 1) := by decide +kernel
theorem dX8_find_110 : decode cX8_find 110 = .ok (.aload_n 0, 1) := by decide +kernel
theorem dX8_find_111 : decode cX8_find 111 = .ok (.getfield 60, 3) := by decide +kernel
theorem dX8_find_114 : decode cX8_find 114 = .ok (.aload_n 0, 1) := by decide +kernel
theorem dX8_find_115 : decode cX8_find 115 = .ok (.getfield 204, 3) := by decide +kernel
theorem dX8_find_118 : decode cX8_find 118 = .ok (.iload 4, 2) := by decide +kernel
theorem dX8_find_120 : decode cX8_find 120 = .ok (.iastore, 1) := by decide +kernel
theorem dX8_find_121 : decode cX8_find 121 = .ok (.aload_n 0, 1) := by decide +kernel
theorem dX8_find_122 : decode cX8_find 122 = .ok (.dup, 1) := by decide +kernel
theorem dX8_find_123 : decode cX8_find 123 = .ok (.getfield 204, 3) := by decide +kernel
theorem dX8_find_126 : decode cX8_find 126 = .ok (.iconst 1, 1) := by decide +kernel
theorem dX8_find_127 : decode cX8_find 127 = .ok (.iadd, 1) := by decide +kernel
theorem dX8_find_128 : decode cX8_find 128 = .ok (.putfield 204, 3) := by decide +kernel
theorem dX8_find_131 : decode cX8_find 131 = .ok (.aload_n 0, 1) := by decide +kernel
theorem dX8_find_132 : decode cX8_find 132 = .ok (.getfield 204, 3) := by decide +kernel
theorem dX8_find_135 : decode cX8_find 135 = .ok (.ireturn, 1) := by decide +kernel
theorem dX8_forget_0 : decode cX8_forget 0 = .ok (.aload_n 0, 1) := by decide +kernel
theorem dX8_forget_1 : decode cX8_forget 1 = .ok (.iconst 0, 1) := by decide +kernel
theorem dX8_forget_2 : decode cX8_forget 2 = .ok (.putfield 75, 3) := by decide +kernel
theorem dX8_forget_5 : decode cX8_forget 5 = .ok (.aload_n 0, 1) := by decide +kernel
theorem dX8_forget_6 : decode cX8_forget 6 = .ok (.getfield 204, 3) := by decide +kernel
theorem dX8_forget_9 : decode cX8_forget 9 = .ok (.istore_n 1, 1) := by decide +kernel
theorem dX8_forget_10 : decode cX8_forget 10 = .ok (.aload_n 0, 1) := by decide +kernel
theorem dX8_forget_11 : decode cX8_forget 11 = .ok (.iconst 0, 1) := by decide +kernel
theorem dX8_forget_12 : decode cX8_forget 12 = .ok (.putfield 204, 3) := by decide +kernel
theorem dX8_forget_15 : decode cX8_forget 15 = .ok (.iload_n 1, 1) := by decide +kernel
theorem dX8_forget_16 : decode cX8_forget 16 = .ok (.ireturn, 1) := by decide +kernel
theorem dX8_isFit_0 : decode cX8_isFit 0 = .ok (.iconst 1, 1) := by decide +kernel
theorem dX8_isFit_1 : decode cX8_isFit 1 = .ok (.istore 5, 2) := by decide +kernel
theorem dX8_isFit_3 : decode cX8_isFit 3 = .ok (.iconst 0, 1) := by decide +kernel
theorem dX8_isFit_4 : decode cX8_isFit 4 = .ok (.istore 6, 2) := by decide +kernel
theorem dX8_isFit_6 : decode cX8_isFit 6 = .ok (.iload 6, 2) := by decide +kernel
theorem dX8_isFit_8 : decode cX8_isFit 8 = .ok (.aload_n 0, 1) := by decide +kernel
theorem dX8_isFit_9 : decode cX8_isFit 9 = .ok (.getfield 204, 3) := by decide +kernel
theorem dX8_isFit_12 : decode cX8_isFit 12 = .ok (.if_icmp .ge 75, 3) := by decide +kernel
theorem dX8_isFit_15 : decode cX8_isFit 15 = .ok (.iload 5, 2) := by decide +kernel
theorem dX8_isFit_17 : decode cX8_isFit 17 = .ok (.ifCond .eq 61, 3) := by decide +kernel
theorem dX8_isFit_20 : decode cX8_isFit 20 = .ok (.aload_n 0, 1) := by decide +kernel
theorem dX8_isFit_21 : decode cX8_isFit 21 = .ok (.iload_n 1, 1) := by decide +kernel
theorem dX8_isFit_22 : decode cX8_isFit 22 = .ok (.aload_n 0, 1) := by decide +kernel
theorem dX8_isFit_23 : decode cX8_isFit 23 = .ok (.getfield 51, 3) := by decide +kernel
theorem dX8_isFit_26 : decode cX8_isFit 26 = .ok (.iload 6, 2) := by decide +kernel
theorem dX8_isFit_28 : decode cX8_isFit 28 = .ok (.iaload, 1) := by decide +kernel
theorem dX8_isFit_29 : decode cX8_isFit 29 = .ok (.aload_n 0, 1) := by decide +kernel
theorem dX8_isFit_30 : decode cX8_isFit 30 = .ok (.getfield 54, 3) := by decide +kernel
theorem dX8_isFit_33 : decode cX8_isFit 33 = .ok (.iload 6, 2) := by decide +kernel
theorem dX8_isFit_35 : decode cX8_isFit 35 = .ok (.iaload, 1) := by decide +kernel
theorem dX8_isFit_36 : decode cX8_isFit 36 = .ok (.iload_n 2, 1) := by decide +kernel
theorem dX8_isFit_37 : decode cX8_isFit 37 = .ok (.iload_n 3, 1) := by decide +kernel
theorem dX8_isFit_38 : decode cX8_isFit 38 = .ok (.iload 4, 2) := by decide +kernel
theorem dX8_isFit_40 : decode cX8_isFit 40 = .ok (.invokevirtual 173, 3) := by decide +kernel
theorem dX8_isFit_43 : decode cX8_isFit 43 = .ok (.ifCond .eq 35, 3) := by decide +kernel
theorem dX8_isFit_46 : decode cX8_isFit 46 = .ok (.aload_n 0, 1) := by decide +kernel
theorem dX8_isFit_47 : decode cX8_isFit 47 = .ok (.getfield 167, 3) := by decide +kernel
theorem dX8_isFit_50 : decode cX8_isFit 50 = .ok (.aload_n 0, 1) := by decide +kernel
theorem dX8_isFit_51 : decode cX8_isFit 51 = .ok (.getfield 57, 3) := by decide +kernel
theorem dX8_isFit_54 : decode cX8_isFit 54 = .ok (.iload 6, 2) := by decide +kernel
theorem dX8_isFit_56 : decode cX8_isFit 56 = .ok (.iaload, 1) := by decide +kernel
theorem dX8_isFit_57 : decode cX8_isFit 57 = .ok (.if_icmp .ne 21, 3) := by decide +kernel
theorem dX8_isFit_60 : decode cX8_isFit 60 = .ok (.aload_n 0, 1) := by decide +kernel
theorem dX8_isFit_61 : decode cX8_isFit 61 = .ok (.getfield 170, 3) := by decide +kernel
theorem dX8_isFit_64 : decode cX8_isFit 64 = .ok (.aload_n 0, 1) := by decide +kernel
theorem dX8_isFit_65 : decode cX8_isFit 65 = .ok (.getfield 60, 3) := by decide +kernel
theorem dX8_isFit_68 : decode cX8_isFit 68 = .ok (.iload 6, 2) := by decide +kernel
theorem dX8_isFit_70 : decode cX8_isFit 70 = .ok (.iaload, 1) := by decide +kernel
theorem dX8_isFit_71 : decode cX8_isFit 71 = .ok (.if_icmp .ne 7, 3) := by decide +kernel
theorem dX8_isFit_74 : decode cX8_isFit 74 = .ok (.iconst 1, 1) := by decide +kernel
theorem dX8_isFit_75 : decode cX8_isFit 75 = .ok (.goto 4, 3) := by decide +kernel
theorem dX8_isFit_78 : decode cX8_isFit 78 = .ok (.iconst 0, 1) := by decide +kernel
theorem dX8_isFit_79 : decode cX8_isFit 79 = .ok (.istore 5, 2) := by decide +kernel
theorem dX8_isFit_81 : decode cX8_isFit 81 = .ok (.iinc 6 1, 3) := by decide +kernel
theorem dX8_isFit_84 : decode cX8_isFit 84 = .ok (.goto (-78), 3) := by decide +kernel
theorem dX8_isFit_87 : decode cX8_isFit 87 = .ok (.iload 5, 2) := by decide +kernel
theorem dX8_isFit_89 : decode cX8_isFit 89 = .ok (.ireturn, 1) := by decide +kernel
theorem dX8_fits_0 : decode cX8_fits 0 = .ok (.iload_n 1, 1) := by decide +kernel
theorem dX8_fits_1 : decode cX8_fits 1 = .ok (.iload_n 2, 1) := by decide +kernel
theorem dX8_fits_2 : decode cX8_fits 2 = .ok (.invokestatic 156, 3) := by decide +kernel
theorem dX8_fits_5 : decode cX8_fits 5 = .ok (.ifCond .eq 28, 3) := by decide +kernel
theorem dX8_fits_8 : decode cX8_fits 8 = .ok (.iload_n 3, 1) := by decide +kernel
theorem dX8_fits_9 : decode cX8_fits 9 = .ok (.iconst 1, 1) := by decide +kernel
theorem dX8_fits_10 : decode cX8_fits 10 = .ok (.sipush 500, 3) := by decide +kernel
theorem dX8_fits_13 : decode cX8_fits 13 = .ok (.invokestatic 78, 3) := by decide +kernel
theorem dX8_fits_16 : decode cX8_fits 16 = .ok (.ifCond .eq 17, 3) := by decide +kernel
theorem dX8_fits_19 : decode cX8_fits 19 = .ok (.iload 4, 2) := by decide +kernel
theorem dX8_fits_21 : decode cX8_fits 21 = .ok (.iconst 0, 1) := by decide +kernel
theorem dX8_fits_22 : decode cX8_fits 22 = .ok (.iconst 2, 1) := by decide +kernel
theorem dX8_fits_23 : decode cX8_fits 23 = .ok (.invokestatic 78, 3) := by decide +kernel
theorem dX8_fits_26 : decode cX8_fits 26 = .ok (.ifCond .eq 7, 3) := by decide +kernel
theorem dX8_fits_29 : decode cX8_fits 29 = .ok (.iconst 1, 1) := by decide +kernel
theorem dX8_fits_30 : decode cX8_fits 30 = .ok (.goto 4, 3) := by decide +kernel
theorem dX8_fits_33 : decode cX8_fits 33 = .ok (.iconst 0, 1) := by decide +kernel
theorem dX8_fits_34 : decode cX8_fits 34 = .ok (.istore 5, 2) := by decide +kernel
theorem dX8_fits_36 : decode cX8_fits 36 = .ok (.iconst 0, 1) := by decide +kernel
theorem dX8_fits_37 : decode cX8_fits 37 = .ok (.istore 6, 2) := by decide +kernel
theorem dX8_fits_39 : decode cX8_fits 39 = .ok (.iconst 0, 1) := by decide +kernel
theorem dX8_fits_40 : decode cX8_fits 40 = .ok (.istore 7, 2) := by decide +kernel
theorem dX8_fits_42 : decode cX8_fits 42 = .ok (.iconst 0, 1) := by decide +kernel
theorem dX8_fits_43 : decode cX8_fits 43 = .ok (.istore 8, 2) := by decide +kernel
theorem dX8_fits_45 : decode cX8_fits 45 = .ok (.bipush (-66), 2) := by decide +kernel
theorem dX8_fits_47 : decode cX8_fits 47 = .ok (.istore 9, 2) := by decide +kernel
theorem dX8_fits_49 : decode cX8_fits 49 = .ok (.iload 9, 2) := by decide +kernel
theorem dX8_fits_51 : decode cX8_fits 51 = .ok (.bipush 66, 2) := by decide +kernel
theorem dX8_fits_53 : decode cX8_fits 53 = .ok (.if_icmp .gt 47, 3) := by decide +kernel
theorem dX8_fits_56 : decode cX8_fits 56 = .ok (.iload 5, 2) := by decide +kernel
theorem dX8_fits_58 : decode cX8_fits 58 = .ok (.ifCond .eq 42, 3) := by decide +kernel
theorem dX8_fits_61 : decode cX8_fits 61 = .ok (.aload_n 0, 1) := by decide +kernel
theorem dX8_fits_62 : decode cX8_fits 62 = .ok (.iload 9, 2) := by decide +kernel
theorem dX8_fits_64 : decode cX8_fits 64 = .ok (.iload_n 1, 1) := by decide +kernel
theorem dX8_fits_65 : decode cX8_fits 65 = .ok (.iload_n 2, 1) := by decide +kernel
theorem dX8_fits_66 : decode cX8_fits 66 = .ok (.iload_n 3, 1) := by decide +kernel
theorem dX8_fits_67 : decode cX8_fits 67 = .ok (.invokevirtual 207, 3) := by decide +kernel
theorem dX8_fits_70 : decode cX8_fits 70 = .ok (.ifCond .eq 24, 3) := by decide +kernel
theorem dX8_fits_73 : decode cX8_fits 73 = .ok (.iload 6, 2) := by decide +kernel
theorem dX8_fits_75 : decode cX8_fits 75 = .ok (.ifCond .ne 8, 3) := by decide +kernel
theorem dX8_fits_78 : decode cX8_fits 78 = .ok (.iload 9, 2) := by decide +kernel
theorem dX8_fits_80 : decode cX8_fits 80 = .ok (.goto 5, 3) := by decide +kernel
theorem dX8_fits_83 : decode cX8_fits 83 = .ok (.iload 7, 2) := by decide +kernel
theorem dX8_fits_85 : decode cX8_fits 85 = .ok (.istore 7, 2) := by decide +kernel
theorem dX8_fits_87 : decode cX8_fits 87 = .ok (.iload 9, 2) := by decide +kernel
theorem dX8_fits_89 : decode cX8_fits 89 = .ok (.istore 8, 2) := by decide +kernel
theorem dX8_fits_91 : decode cX8_fits 91 = .ok (.iinc 6 1, 3) := by decide +kernel
theorem dX8_fits_94 : decode cX8_fits 94 = .ok (.iinc 9 1, 3) := by decide +kernel
theorem dX8_fits_97 : decode cX8_fits 97 = .ok (.goto (-48), 3) := by decide +kernel
theorem dX8_fits_100 : decode cX8_fits 100 = .ok (.aload_n 0, 1) := by decide +kernel
theorem dX8_fits_101 : decode cX8_fits 101 = .ok (.iload 5, 2) := by decide +kernel
theorem dX8_fits_103 : decode cX8_fits 103 = .ok (.ifCond .ne 7, 3) := by decide +kernel
theorem dX8_fits_106 : decode cX8_fits 106 = .ok (.iconst 1, 1) := by decide +kernel
theorem dX8_fits_107 : decode cX8_fits 107 = .ok (.goto 18, 3) := by decide +kernel
theorem dX8_fits_110 : decode cX8_fits 110 = .ok (.iload 6, 2) := by decide +kernel
theorem dX8_fits_112 : decode cX8_fits 112 = .ok (.ifCond .ne 12, 3) := by decide +kernel
theorem dX8_fits_115 : decode cX8_fits 115 = .ok (.iload 4, 2) := by decide +kernel
theorem dX8_fits_117 : decode cX8_fits 117 = .ok (.ifCond .le 7, 3) := by decide +kernel
theorem dX8_fits_120 : decode cX8_fits 120 = .ok (.iconst 2, 1) := by decide +kernel
theorem dX8_fits_121 : decode cX8_fits 121 = .ok (.goto 4, 3) := by decide +kernel
theorem dX8_fits_124 : decode cX8_fits 124 = .ok (.iconst 0, 1) := by decide +kernel
theorem dX8_fits_125 : decode cX8_fits 125 = .ok (.invokevirtual 102, 3) := by decide +kernel
theorem dX8_fits_128 : decode cX8_fits 128 = .ok (.ifCond .ne 5, 3) := by decide +kernel
theorem dX8_fits_131 : decode cX8_fits 131 = .ok (.iconst 0, 1) := by decide +kernel
theorem dX8_fits_132 : decode cX8_fits 132 = .ok (.ireturn, 1) := by decide +kernel
theorem dX8_fits_133 : decode cX8_fits 133 = .ok (.iload 4, 2) := by decide +kernel
theorem dX8_fits_135 : decode cX8_fits 135 = .ok (.ifCond .ne 8, 3) := by decide +kernel
theorem dX8_fits_138 : decode cX8_fits 138 = .ok (.iload 6, 2) := by decide +kernel
theorem dX8_fits_140 : decode cX8_fits 140 = .ok (.goto 16, 3) := by decide +kernel
theorem dX8_fits_143 : decode cX8_fits 143 = .ok (.iload 4, 2) := by decide +kernel
theorem dX8_fits_145 : decode cX8_fits 145 = .ok (.iconst 1, 1) := by decide +kernel
theorem dX8_fits_146 : decode cX8_fits 146 = .ok (.if_icmp .ne 8, 3) := by decide +kernel
theorem dX8_fits_149 : decode cX8_fits 149 = .ok (.iload 7, 2) := by decide +kernel
theorem dX8_fits_151 : decode cX8_fits 151 = .ok (.goto 5, 3) := by decide +kernel
theorem dX8_fits_154 : decode cX8_fits 154 = .ok (.iload 8, 2) := by decide +kernel
theorem dX8_fits_156 : decode cX8_fits 156 = .ok (.ireturn, 1) := by decide +kernel
