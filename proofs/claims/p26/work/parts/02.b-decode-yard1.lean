theorem dX7_init_0 : decode cX7_init 0 = .ok (.aload_n 0, 1) := by decide +kernel
theorem dX7_init_1 : decode cX7_init 1 = .ok (.invokespecial 1, 3) := by decide +kernel
theorem dX7_init_4 : decode cX7_init 4 = .ok (.aload_n 0, 1) := by decide +kernel
theorem dX7_init_5 : decode cX7_init 5 = .ok (.bipush 8, 2) := by decide +kernel
theorem dX7_init_7 : decode cX7_init 7 = .ok (.anewarray 9, 3) := by decide +kernel
theorem dX7_init_10 : decode cX7_init 10 = .ok (.putfield 11, 3) := by decide +kernel
theorem dX7_init_13 : decode cX7_init 13 = .ok (.aload_n 0, 1) := by decide +kernel
theorem dX7_init_14 : decode cX7_init 14 = .ok (.bipush 10, 2) := by decide +kernel
theorem dX7_init_16 : decode cX7_init 16 = .ok (.anewarray 15, 3) := by decide +kernel
theorem dX7_init_19 : decode cX7_init 19 = .ok (.putfield 17, 3) := by decide +kernel
theorem dX7_init_22 : decode cX7_init 22 = .ok (.aload_n 0, 1) := by decide +kernel
theorem dX7_init_23 : decode cX7_init 23 = .ok (.new 21, 3) := by decide +kernel
theorem dX7_init_26 : decode cX7_init 26 = .ok (.dup, 1) := by decide +kernel
theorem dX7_init_27 : decode cX7_init 27 = .ok (.invokespecial 23, 3) := by decide +kernel
theorem dX7_init_30 : decode cX7_init 30 = .ok (.putfield 24, 3) := by decide +kernel
theorem dX7_init_33 : decode cX7_init 33 = .ok (.aload_n 0, 1) := by decide +kernel
theorem dX7_init_34 : decode cX7_init 34 = .ok (.iconst (-1), 1) := by decide +kernel
theorem dX7_init_35 : decode cX7_init 35 = .ok (.putfield 28, 3) := by decide +kernel
theorem dX7_init_38 : decode cX7_init 38 = .ok (.aload_n 0, 1) := by decide +kernel
theorem dX7_init_39 : decode cX7_init 39 = .ok (.new 32, 3) := by decide +kernel
theorem dX7_init_42 : decode cX7_init 42 = .ok (.dup, 1) := by decide +kernel
theorem dX7_init_43 : decode cX7_init 43 = .ok (.invokespecial 34, 3) := by decide +kernel
theorem dX7_init_46 : decode cX7_init 46 = .ok (.putfield 35, 3) := by decide +kernel
theorem dX7_init_49 : decode cX7_init 49 = .ok (.aload_n 0, 1) := by decide +kernel
theorem dX7_init_50 : decode cX7_init 50 = .ok (.new 39, 3) := by decide +kernel
theorem dX7_init_53 : decode cX7_init 53 = .ok (.dup, 1) := by decide +kernel
theorem dX7_init_54 : decode cX7_init 54 = .ok (.invokespecial 41, 3) := by decide +kernel
theorem dX7_init_57 : decode cX7_init 57 = .ok (.putfield 42, 3) := by decide +kernel
theorem dX7_init_60 : decode cX7_init 60 = .ok (.aload_n 0, 1) := by decide +kernel
theorem dX7_init_61 : decode cX7_init 61 = .ok (.new 39, 3) := by decide +kernel
theorem dX7_init_64 : decode cX7_init 64 = .ok (.dup, 1) := by decide +kernel
theorem dX7_init_65 : decode cX7_init 65 = .ok (.invokespecial 41, 3) := by decide +kernel
theorem dX7_init_68 : decode cX7_init 68 = .ok (.putfield 46, 3) := by decide +kernel
theorem dX7_init_71 : decode cX7_init 71 = .ok (.aload_n 0, 1) := by decide +kernel
theorem dX7_init_72 : decode cX7_init 72 = .ok (.new 39, 3) := by decide +kernel
theorem dX7_init_75 : decode cX7_init 75 = .ok (.dup, 1) := by decide +kernel
theorem dX7_init_76 : decode cX7_init 76 = .ok (.invokespecial 41, 3) := by decide +kernel
theorem dX7_init_79 : decode cX7_init 79 = .ok (.putfield 49, 3) := by decide +kernel
theorem dX7_init_82 : decode cX7_init 82 = .ok (.aload_n 0, 1) := by decide +kernel
theorem dX7_init_83 : decode cX7_init 83 = .ok (.new 52, 3) := by decide +kernel
theorem dX7_init_86 : decode cX7_init 86 = .ok (.dup, 1) := by decide +kernel
theorem dX7_init_87 : decode cX7_init 87 = .ok (.invokespecial 54, 3) := by decide +kernel
theorem dX7_init_90 : decode cX7_init 90 = .ok (.putfield 55, 3) := by decide +kernel
theorem dX7_init_93 : decode cX7_init 93 = .ok (.aload_n 0, 1) := by decide +kernel
theorem dX7_init_94 : decode cX7_init 94 = .ok (.new 59, 3) := by decide +kernel
theorem dX7_init_97 : decode cX7_init 97 = .ok (.dup, 1) := by decide +kernel
theorem dX7_init_98 : decode cX7_init 98 = .ok (.invokespecial 61, 3) := by decide +kernel
theorem dX7_init_101 : decode cX7_init 101 = .ok (.putfield 62, 3) := by decide +kernel
theorem dX7_init_104 : decode cX7_init 104 = .ok (.aload_n 0, 1) := by decide +kernel
theorem dX7_init_105 : decode cX7_init 105 = .ok (.iconst 3, 1) := by decide +kernel
theorem dX7_init_106 : decode cX7_init 106 = .ok (.anewarray 59, 3) := by decide +kernel
theorem dX7_init_109 : decode cX7_init 109 = .ok (.dup, 1) := by decide +kernel
theorem dX7_init_110 : decode cX7_init 110 = .ok (.iconst 0, 1) := by decide +kernel
theorem dX7_init_111 : decode cX7_init 111 = .ok (.new 59, 3) := by decide +kernel
theorem dX7_init_114 : decode cX7_init 114 = .ok (.dup, 1) := by decide +kernel
theorem dX7_init_115 : decode cX7_init 115 = .ok (.invokespecial 61, 3) := by decide +kernel
theorem dX7_init_118 : decode cX7_init 118 = .ok (.aastore, 1) := by decide +kernel
theorem dX7_init_119 : decode cX7_init 119 = .ok (.dup, 1) := by decide +kernel
theorem dX7_init_120 : decode cX7_init 120 = .ok (.iconst 1, 1) := by decide +kernel
theorem dX7_init_121 : decode cX7_init 121 = .ok (.new 59, 3) := by decide +kernel
theorem dX7_init_124 : decode cX7_init 124 = .ok (.dup, 1) := by decide +kernel
theorem dX7_init_125 : decode cX7_init 125 = .ok (.invokespecial 61, 3) := by decide +kernel
theorem dX7_init_128 : decode cX7_init 128 = .ok (.aastore, 1) := by decide +kernel
theorem dX7_init_129 : decode cX7_init 129 = .ok (.dup, 1) := by decide +kernel
theorem dX7_init_130 : decode cX7_init 130 = .ok (.iconst 2, 1) := by decide +kernel
theorem dX7_init_131 : decode cX7_init 131 = .ok (.new 59, 3) := by decide +kernel
theorem dX7_init_134 : decode cX7_init 134 = .ok (.dup, 1) := by decide +kernel
theorem dX7_init_135 : decode cX7_init 135 = .ok (.invokespecial 61, 3) := by decide +kernel
theorem dX7_init_138 : decode cX7_init 138 = .ok (.aastore, 1) := by decide +kernel
theorem dX7_init_139 : decode cX7_init 139 = .ok (.putfield 66, 3) := by decide +kernel
theorem dX7_init_142 : decode cX7_init 142 = .ok (.return_, 1) := by decide +kernel
theorem dX7_sine_0 : decode cX7_sine 0 = .ok (.iload_n 1, 1) := by decide +kernel
theorem dX7_sine_1 : decode cX7_sine 1 = .ok (.ldc 70, 2) := by decide +kernel
theorem dX7_sine_3 : decode cX7_sine 3 = .ok (.ldc 71, 2) := by decide +kernel
theorem dX7_sine_5 : decode cX7_sine 5 = .ok (.invokestatic 72, 3) := by decide +kernel
theorem dX7_sine_8 : decode cX7_sine 8 = .ok (.invokestatic 76, 3) := by decide +kernel
theorem dX7_sine_11 : decode cX7_sine 11 = .ok (.iload_n 1, 1) := by decide +kernel
theorem dX7_sine_12 : decode cX7_sine 12 = .ok (.invokestatic 80, 3) := by decide +kernel
theorem dX7_sine_15 : decode cX7_sine 15 = .ok (.ireturn, 1) := by decide +kernel
theorem dX7_day_0 : decode cX7_day 0 = .ok (.iload_n 1, 1) := by decide +kernel
theorem dX7_day_1 : decode cX7_day 1 = .ok (.invokestatic 84, 3) := by decide +kernel
theorem dX7_day_4 : decode cX7_day 4 = .ok (.ifCond .eq 16, 3) := by decide +kernel
theorem dX7_day_7 : decode cX7_day 7 = .ok (.iload_n 2, 1) := by decide +kernel
theorem dX7_day_8 : decode cX7_day 8 = .ok (.iconst 0, 1) := by decide +kernel
theorem dX7_day_9 : decode cX7_day 9 = .ok (.iconst 1, 1) := by decide +kernel
theorem dX7_day_10 : decode cX7_day 10 = .ok (.invokestatic 72, 3) := by decide +kernel
theorem dX7_day_13 : decode cX7_day 13 = .ok (.ifCond .eq 7, 3) := by decide +kernel
theorem dX7_day_16 : decode cX7_day 16 = .ok (.iconst 1, 1) := by decide +kernel
theorem dX7_day_17 : decode cX7_day 17 = .ok (.goto 4, 3) := by decide +kernel
theorem dX7_day_20 : decode cX7_day 20 = .ok (.iconst 0, 1) := by decide +kernel
theorem dX7_day_21 : decode cX7_day 21 = .ok (.invokestatic 76, 3) := by decide +kernel
theorem dX7_day_24 : decode cX7_day 24 = .ok (.iload_n 2, 1) := by decide +kernel
theorem dX7_day_25 : decode cX7_day 25 = .ok (.ifCond .ne 10, 3) := by decide +kernel
theorem dX7_day_28 : decode cX7_day 28 = .ok (.iload_n 1, 1) := by decide +kernel
theorem dX7_day_29 : decode cX7_day 29 = .ok (.invokestatic 88, 3) := by decide +kernel
theorem dX7_day_32 : decode cX7_day 32 = .ok (.goto 7, 3) := by decide +kernel
theorem dX7_day_35 : decode cX7_day 35 = .ok (.iload_n 1, 1) := by decide +kernel
theorem dX7_day_36 : decode cX7_day 36 = .ok (.invokestatic 91, 3) := by decide +kernel
theorem dX7_day_39 : decode cX7_day 39 = .ok (.ireturn, 1) := by decide +kernel
theorem dX7_sun_0 : decode cX7_sun 0 = .ok (.iload_n 1, 1) := by decide +kernel
theorem dX7_sun_1 : decode cX7_sun 1 = .ok (.invokestatic 94, 3) := by decide +kernel
theorem dX7_sun_4 : decode cX7_sun 4 = .ok (.ifCond .eq 31, 3) := by decide +kernel
theorem dX7_sun_7 : decode cX7_sun 7 = .ok (.iload_n 2, 1) := by decide +kernel
theorem dX7_sun_8 : decode cX7_sun 8 = .ok (.invokestatic 84, 3) := by decide +kernel
theorem dX7_sun_11 : decode cX7_sun 11 = .ok (.ifCond .eq 24, 3) := by decide +kernel
theorem dX7_sun_14 : decode cX7_sun 14 = .ok (.iload_n 3, 1) := by decide +kernel
theorem dX7_sun_15 : decode cX7_sun 15 = .ok (.invokestatic 97, 3) := by decide +kernel
theorem dX7_sun_18 : decode cX7_sun 18 = .ok (.ifCond .eq 17, 3) := by decide +kernel
theorem dX7_sun_21 : decode cX7_sun 21 = .ok (.iload 4, 2) := by decide +kernel
theorem dX7_sun_23 : decode cX7_sun 23 = .ok (.iconst 0, 1) := by decide +kernel
theorem dX7_sun_24 : decode cX7_sun 24 = .ok (.iconst 2, 1) := by decide +kernel
theorem dX7_sun_25 : decode cX7_sun 25 = .ok (.invokestatic 72, 3) := by decide +kernel
theorem dX7_sun_28 : decode cX7_sun 28 = .ok (.ifCond .eq 7, 3) := by decide +kernel
theorem dX7_sun_31 : decode cX7_sun 31 = .ok (.iconst 1, 1) := by decide +kernel
theorem dX7_sun_32 : decode cX7_sun 32 = .ok (.goto 4, 3) := by decide +kernel
theorem dX7_sun_35 : decode cX7_sun 35 = .ok (.iconst 0, 1) := by decide +kernel
theorem dX7_sun_36 : decode cX7_sun 36 = .ok (.invokestatic 76, 3) := by decide +kernel
theorem dX7_sun_39 : decode cX7_sun 39 = .ok (.aload_n 0, 1) := by decide +kernel
theorem dX7_sun_40 : decode cX7_sun 40 = .ok (.getfield 35, 3) := by decide +kernel
theorem dX7_sun_43 : decode cX7_sun 43 = .ok (.iload_n 1, 1) := by decide +kernel
theorem dX7_sun_44 : decode cX7_sun 44 = .ok (.iload_n 2, 1) := by decide +kernel
theorem dX7_sun_45 : decode cX7_sun 45 = .ok (.invokevirtual 100, 3) := by decide +kernel
theorem dX7_sun_48 : decode cX7_sun 48 = .ok (.aload_n 0, 1) := by decide +kernel
theorem dX7_sun_49 : decode cX7_sun 49 = .ok (.getfield 35, 3) := by decide +kernel
theorem dX7_sun_52 : decode cX7_sun 52 = .ok (.iload_n 3, 1) := by decide +kernel
theorem dX7_sun_53 : decode cX7_sun 53 = .ok (.invokevirtual 104, 3) := by decide +kernel
theorem dX7_sun_56 : decode cX7_sun 56 = .ok (.iload 4, 2) := by decide +kernel
theorem dX7_sun_58 : decode cX7_sun 58 = .ok (.ifCond .ne 11, 3) := by decide +kernel
theorem dX7_sun_61 : decode cX7_sun 61 = .ok (.aload_n 0, 1) := by decide +kernel
theorem dX7_sun_62 : decode cX7_sun 62 = .ok (.getfield 35, 3) := by decide +kernel
theorem dX7_sun_65 : decode cX7_sun 65 = .ok (.getfield 108, 3) := by decide +kernel
theorem dX7_sun_68 : decode cX7_sun 68 = .ok (.lreturn, 1) := by decide +kernel
theorem dX7_sun_69 : decode cX7_sun 69 = .ok (.iload 4, 2) := by decide +kernel
theorem dX7_sun_71 : decode cX7_sun 71 = .ok (.iconst 1, 1) := by decide +kernel
theorem dX7_sun_72 : decode cX7_sun 72 = .ok (.if_icmp .ne 13, 3) := by decide +kernel
theorem dX7_sun_75 : decode cX7_sun 75 = .ok (.aload_n 0, 1) := by decide +kernel
theorem dX7_sun_76 : decode cX7_sun 76 = .ok (.getfield 35, 3) := by decide +kernel
theorem dX7_sun_79 : decode cX7_sun 79 = .ok (.getfield 112, 3) := by decide +kernel
theorem dX7_sun_82 : decode cX7_sun 82 = .ok (.goto 10, 3) := by decide +kernel
theorem dX7_sun_85 : decode cX7_sun 85 = .ok (.aload_n 0, 1) := by decide +kernel
theorem dX7_sun_86 : decode cX7_sun 86 = .ok (.getfield 35, 3) := by decide +kernel
theorem dX7_sun_89 : decode cX7_sun 89 = .ok (.getfield 115, 3) := by decide +kernel
theorem dX7_sun_92 : decode cX7_sun 92 = .ok (.lreturn, 1) := by decide +kernel
theorem dX7_place_0 : decode cX7_place 0 = .ok (.iload_n 1, 1) := by decide +kernel
theorem dX7_place_1 : decode cX7_place 1 = .ok (.invokestatic 94, 3) := by decide +kernel
theorem dX7_place_4 : decode cX7_place 4 = .ok (.ifCond .eq 20, 3) := by decide +kernel
theorem dX7_place_7 : decode cX7_place 7 = .ok (.iload_n 2, 1) := by decide +kernel
theorem dX7_place_8 : decode cX7_place 8 = .ok (.sipush (-720), 3) := by decide +kernel
theorem dX7_place_11 : decode cX7_place 11 = .ok (.sipush 720, 3) := by decide +kernel
theorem dX7_place_14 : decode cX7_place 14 = .ok (.invokestatic 72, 3) := by decide +kernel
theorem dX7_place_17 : decode cX7_place 17 = .ok (.ifCond .eq 7, 3) := by decide +kernel
theorem dX7_place_20 : decode cX7_place 20 = .ok (.iconst 1, 1) := by decide +kernel
theorem dX7_place_21 : decode cX7_place 21 = .ok (.goto 4, 3) := by decide +kernel
theorem dX7_place_24 : decode cX7_place 24 = .ok (.iconst 0, 1) := by decide +kernel
theorem dX7_place_25 : decode cX7_place 25 = .ok (.invokestatic 76, 3) := by decide +kernel
theorem dX7_place_28 : decode cX7_place 28 = .ok (.aload_n 0, 1) := by decide +kernel
theorem dX7_place_29 : decode cX7_place 29 = .ok (.getfield 118, 3) := by decide +kernel
theorem dX7_place_32 : decode cX7_place 32 = .ok (.aload_n 0, 1) := by decide +kernel
theorem dX7_place_33 : decode cX7_place 33 = .ok (.getfield 11, 3) := by decide +kernel
theorem dX7_place_36 : decode cX7_place 36 = .ok (.arraylength, 1) := by decide +kernel
theorem dX7_place_37 : decode cX7_place 37 = .ok (.if_icmp .lt 13, 3) := by decide +kernel
theorem dX7_place_40 : decode cX7_place 40 = .ok (.new 121, 3) := by decide +kernel
theorem dX7_place_43 : decode cX7_place 43 = .ok (.dup, 1) := by decide +kernel
theorem dX7_place_44 : decode cX7_place 44 = .ok (.ldc 123, 2) := by decide +kernel
theorem dX7_place_46 : decode cX7_place 46 = .ok (.invokespecial 125, 3) := by decide +kernel
theorem dX7_place_49 : decode cX7_place 49 = .ok (.athrow, 1) := by decide +kernel
theorem dX7_place_50 : decode cX7_place 50 = .ok (.aload_n 0, 1) := by decide +kernel
theorem dX7_place_51 : decode cX7_place 51 = .ok (.getfield 11, 3) := by decide +kernel
theorem dX7_place_54 : decode cX7_place 54 = .ok (.aload_n 0, 1) := by decide +kernel
theorem dX7_place_55 : decode cX7_place 55 = .ok (.getfield 118, 3) := by decide +kernel
theorem dX7_place_58 : decode cX7_place 58 = .ok (.new 9, 3) := by decide +kernel
theorem dX7_place_61 : decode cX7_place 61 = .ok (.dup, 1) := by decide +kernel
theorem dX7_place_62 : decode cX7_place 62 = .ok (.iload_n 1, 1) := by decide +kernel
theorem dX7_place_63 : decode cX7_place 63 = .ok (.iload_n 2, 1) := by decide +kernel
theorem dX7_place_64 : decode cX7_place 64 = .ok (.invokespecial 128, 3) := by decide +kernel
theorem dX7_place_67 : decode cX7_place 67 = .ok (.aastore, 1) := by decide +kernel
theorem dX7_place_68 : decode cX7_place 68 = .ok (.aload_n 0, 1) := by decide +kernel
theorem dX7_place_69 : decode cX7_place 69 = .ok (.dup, 1) := by decide +kernel
theorem dX7_place_70 : decode cX7_place 70 = .ok (.getfield 118, 3) := by decide +kernel
theorem dX7_place_73 : decode cX7_place 73 = .ok (.iconst 1, 1) := by decide +kernel
theorem dX7_place_74 : decode cX7_place 74 = .ok (.iadd, 1) := by decide +kernel
theorem dX7_place_75 : decode cX7_place 75 = .ok (.putfield 118, 3) := by decide +kernel
theorem dX7_place_78 : decode cX7_place 78 = .ok (.aload_n 0, 1) := by decide +kernel
theorem dX7_place_79 : decode cX7_place 79 = .ok (.getfield 118, 3) := by decide +kernel
theorem dX7_place_82 : decode cX7_place 82 = .ok (.iconst 1, 1) := by decide +kernel
theorem dX7_place_83 : decode cX7_place 83 = .ok (.isub, 1) := by decide +kernel
theorem dX7_place_84 : decode cX7_place 84 = .ok (.ireturn, 1) := by decide +kernel
theorem dX7_light_0 : decode cX7_light 0 = .ok (.aload_n 0, 1) := by decide +kernel
theorem dX7_light_1 : decode cX7_light 1 = .ok (.iload_n 1, 1) := by decide +kernel
theorem dX7_light_2 : decode cX7_light 2 = .ok (.invokevirtual 130, 3) := by decide +kernel
theorem dX7_light_5 : decode cX7_light 5 = .ok (.astore 4, 2) := by decide +kernel
theorem dX7_light_7 : decode cX7_light 7 = .ok (.iload_n 2, 1) := by decide +kernel
theorem dX7_light_8 : decode cX7_light 8 = .ok (.invokestatic 84, 3) := by decide +kernel
theorem dX7_light_11 : decode cX7_light 11 = .ok (.ifCond .eq 16, 3) := by decide +kernel
theorem dX7_light_14 : decode cX7_light 14 = .ok (.iload_n 3, 1) := by decide +kernel
theorem dX7_light_15 : decode cX7_light 15 = .ok (.iconst 0, 1) := by decide +kernel
theorem dX7_light_16 : decode cX7_light 16 = .ok (.iconst 2, 1) := by decide +kernel
theorem dX7_light_17 : decode cX7_light 17 = .ok (.invokestatic 72, 3) := by decide +kernel
theorem dX7_light_20 : decode cX7_light 20 = .ok (.ifCond .eq 7, 3) := by decide +kernel
theorem dX7_light_23 : decode cX7_light 23 = .ok (.iconst 1, 1) := by decide +kernel
theorem dX7_light_24 : decode cX7_light 24 = .ok (.goto 4, 3) := by decide +kernel
theorem dX7_light_27 : decode cX7_light 27 = .ok (.iconst 0, 1) := by decide +kernel
theorem dX7_light_28 : decode cX7_light 28 = .ok (.invokestatic 76, 3) := by decide +kernel
theorem dX7_light_31 : decode cX7_light 31 = .ok (.iload_n 3, 1) := by decide +kernel
theorem dX7_light_32 : decode cX7_light 32 = .ok (.ifCond .ne 14, 3) := by decide +kernel
theorem dX7_light_35 : decode cX7_light 35 = .ok (.aload_n 0, 1) := by decide +kernel
theorem dX7_light_36 : decode cX7_light 36 = .ok (.aload 4, 2) := by decide +kernel
theorem dX7_light_38 : decode cX7_light 38 = .ok (.getfield 134, 3) := by decide +kernel
theorem dX7_light_41 : decode cX7_light 41 = .ok (.iload_n 2, 1) := by decide +kernel
theorem dX7_light_42 : decode cX7_light 42 = .ok (.invokevirtual 137, 3) := by decide +kernel
theorem dX7_light_45 : decode cX7_light 45 = .ok (.ireturn, 1) := by decide +kernel
theorem dX7_light_46 : decode cX7_light 46 = .ok (.iload_n 3, 1) := by decide +kernel
theorem dX7_light_47 : decode cX7_light 47 = .ok (.iconst 1, 1) := by decide +kernel
theorem dX7_light_48 : decode cX7_light 48 = .ok (.if_icmp .ne 16, 3) := by decide +kernel
theorem dX7_light_51 : decode cX7_light 51 = .ok (.aload_n 0, 1) := by decide +kernel
theorem dX7_light_52 : decode cX7_light 52 = .ok (.aload 4, 2) := by decide +kernel
theorem dX7_light_54 : decode cX7_light 54 = .ok (.getfield 134, 3) := by decide +kernel
theorem dX7_light_57 : decode cX7_light 57 = .ok (.iload_n 2, 1) := by decide +kernel
theorem dX7_light_58 : decode cX7_light 58 = .ok (.invokevirtual 141, 3) := by decide +kernel
theorem dX7_light_61 : decode cX7_light 61 = .ok (.goto 13, 3) := by decide +kernel
theorem dX7_light_64 : decode cX7_light 64 = .ok (.aload_n 0, 1) := by decide +kernel
theorem dX7_light_65 : decode cX7_light 65 = .ok (.aload 4, 2) := by decide +kernel
theorem dX7_light_67 : decode cX7_light 67 = .ok (.getfield 134, 3) := by decide +kernel
theorem dX7_light_70 : decode cX7_light 70 = .ok (.iload_n 2, 1) := by decide +kernel
theorem dX7_light_71 : decode cX7_light 71 = .ok (.invokevirtual 144, 3) := by decide +kernel
theorem dX7_light_74 : decode cX7_light 74 = .ok (.ireturn, 1) := by decide +kernel
theorem dX7_lightAnew_0 : decode cX7_lightAnew 0 = .ok (.aload_n 0, 1) := by decide +kernel
theorem dX7_lightAnew_1 : decode cX7_lightAnew 1 = .ok (.iload_n 1, 1) := by decide +kernel
theorem dX7_lightAnew_2 : decode cX7_lightAnew 2 = .ok (.invokevirtual 130, 3) := by decide +kernel
theorem dX7_lightAnew_5 : decode cX7_lightAnew 5 = .ok (.astore_n 3, 1) := by decide +kernel
theorem dX7_lightAnew_6 : decode cX7_lightAnew 6 = .ok (.iload_n 2, 1) := by decide +kernel
theorem dX7_lightAnew_7 : decode cX7_lightAnew 7 = .ok (.invokestatic 84, 3) := by decide +kernel
theorem dX7_lightAnew_10 : decode cX7_lightAnew 10 = .ok (.invokestatic 76, 3) := by decide +kernel
theorem dX7_lightAnew_13 : decode cX7_lightAnew 13 = .ok (.aload_n 0, 1) := by decide +kernel
theorem dX7_lightAnew_14 : decode cX7_lightAnew 14 = .ok (.aload_n 3, 1) := by decide +kernel
theorem dX7_lightAnew_15 : decode cX7_lightAnew 15 = .ok (.getfield 134, 3) := by decide +kernel
theorem dX7_lightAnew_18 : decode cX7_lightAnew 18 = .ok (.iload_n 2, 1) := by decide +kernel
theorem dX7_lightAnew_19 : decode cX7_lightAnew 19 = .ok (.invokevirtual 137, 3) := by decide +kernel
theorem dX7_lightAnew_22 : decode cX7_lightAnew 22 = .ok (.istore 4, 2) := by decide +kernel
theorem dX7_lightAnew_24 : decode cX7_lightAnew 24 = .ok (.iload 4, 2) := by decide +kernel
theorem dX7_lightAnew_26 : decode cX7_lightAnew 26 = .ok (.iconst (-1), 1) := by decide +kernel
theorem dX7_lightAnew_27 : decode cX7_lightAnew 27 = .ok (.if_icmp .ne 5, 3) := by decide +kernel
theorem dX7_lightAnew_30 : decode cX7_lightAnew 30 = .ok (.iconst 0, 1) := by decide +kernel
theorem dX7_lightAnew_31 : decode cX7_lightAnew 31 = .ok (.ireturn, 1) := by decide +kernel
theorem dX7_lightAnew_32 : decode cX7_lightAnew 32 = .ok (.sipush 360, 3) := by decide +kernel
theorem dX7_lightAnew_35 : decode cX7_lightAnew 35 = .ok (.iload 4, 2) := by decide +kernel
theorem dX7_lightAnew_37 : decode cX7_lightAnew 37 = .ok (.isub, 1) := by decide +kernel
theorem dX7_lightAnew_38 : decode cX7_lightAnew 38 = .ok (.sipush 359, 3) := by decide +kernel
theorem dX7_lightAnew_41 : decode cX7_lightAnew 41 = .ok (.invokestatic 147, 3) := by decide +kernel
theorem dX7_lightAnew_44 : decode cX7_lightAnew 44 = .ok (.istore 5, 2) := by decide +kernel
theorem dX7_lightAnew_46 : decode cX7_lightAnew 46 = .ok (.iload 5, 2) := by decide +kernel
theorem dX7_lightAnew_48 : decode cX7_lightAnew 48 = .ok (.iload 4, 2) := by decide +kernel
theorem dX7_lightAnew_50 : decode cX7_lightAnew 50 = .ok (.isub, 1) := by decide +kernel
theorem dX7_lightAnew_51 : decode cX7_lightAnew 51 = .ok (.iconst 1, 1) := by decide +kernel
theorem dX7_lightAnew_52 : decode cX7_lightAnew 52 = .ok (.iadd, 1) := by decide +kernel
theorem dX7_lightAnew_53 : decode cX7_lightAnew 53 = .ok (.ireturn, 1) := by decide +kernel
theorem dX7_hour_0 : decode cX7_hour 0 = .ok (.aload_n 0, 1) := by decide +kernel
theorem dX7_hour_1 : decode cX7_hour 1 = .ok (.iload_n 1, 1) := by decide +kernel
theorem dX7_hour_2 : decode cX7_hour 2 = .ok (.invokevirtual 130, 3) := by decide +kernel
theorem dX7_hour_5 : decode cX7_hour 5 = .ok (.astore 5, 2) := by decide +kernel
theorem dX7_hour_7 : decode cX7_hour 7 = .ok (.iload_n 2, 1) := by decide +kernel
theorem dX7_hour_8 : decode cX7_hour 8 = .ok (.invokestatic 84, 3) := by decide +kernel
theorem dX7_hour_11 : decode cX7_hour 11 = .ok (.ifCond .eq 24, 3) := by decide +kernel
theorem dX7_hour_14 : decode cX7_hour 14 = .ok (.iload_n 3, 1) := by decide +kernel
theorem dX7_hour_15 : decode cX7_hour 15 = .ok (.invokestatic 97, 3) := by decide +kernel
theorem dX7_hour_18 : decode cX7_hour 18 = .ok (.ifCond .eq 17, 3) := by decide +kernel
theorem dX7_hour_21 : decode cX7_hour 21 = .ok (.iload 4, 2) := by decide +kernel
theorem dX7_hour_23 : decode cX7_hour 23 = .ok (.iconst 0, 1) := by decide +kernel
theorem dX7_hour_24 : decode cX7_hour 24 = .ok (.iconst 3, 1) := by decide +kernel
theorem dX7_hour_25 : decode cX7_hour 25 = .ok (.invokestatic 72, 3) := by decide +kernel
theorem dX7_hour_28 : decode cX7_hour 28 = .ok (.ifCond .eq 7, 3) := by decide +kernel
theorem dX7_hour_31 : decode cX7_hour 31 = .ok (.iconst 1, 1) := by decide +kernel
theorem dX7_hour_32 : decode cX7_hour 32 = .ok (.goto 4, 3) := by decide +kernel
theorem dX7_hour_35 : decode cX7_hour 35 = .ok (.iconst 0, 1) := by decide +kernel
theorem dX7_hour_36 : decode cX7_hour 36 = .ok (.invokestatic 76, 3) := by decide +kernel
theorem dX7_hour_39 : decode cX7_hour 39 = .ok (.iload 4, 2) := by decide +kernel
theorem dX7_hour_41 : decode cX7_hour 41 = .ok (.iconst 3, 1) := by decide +kernel
theorem dX7_hour_42 : decode cX7_hour 42 = .ok (.if_icmp .ne 12, 3) := by decide +kernel
theorem dX7_hour_45 : decode cX7_hour 45 = .ok (.aload_n 0, 1) := by decide +kernel
theorem dX7_hour_46 : decode cX7_hour 46 = .ok (.aload 5, 2) := by decide +kernel
theorem dX7_hour_48 : decode cX7_hour 48 = .ok (.iload_n 2, 1) := by decide +kernel
theorem dX7_hour_49 : decode cX7_hour 49 = .ok (.iload_n 3, 1) := by decide +kernel
theorem dX7_hour_50 : decode cX7_hour 50 = .ok (.invokevirtual 152, 3) := by decide +kernel
theorem dX7_hour_53 : decode cX7_hour 53 = .ok (.ireturn, 1) := by decide +kernel
theorem dX7_hour_54 : decode cX7_hour 54 = .ok (.iload 4, 2) := by decide +kernel
theorem dX7_hour_56 : decode cX7_hour 56 = .ok (.iconst 2, 1) := by decide +kernel
theorem dX7_hour_57 : decode cX7_hour 57 = .ok (.if_icmp .ne 15, 3) := by decide +kernel
theorem dX7_hour_60 : decode cX7_hour 60 = .ok (.aload_n 0, 1) := by decide +kernel
theorem dX7_hour_61 : decode cX7_hour 61 = .ok (.aload 5, 2) := by decide +kernel
theorem dX7_hour_63 : decode cX7_hour 63 = .ok (.getfield 134, 3) := by decide +kernel
theorem dX7_hour_66 : decode cX7_hour 66 = .ok (.iload_n 2, 1) := by decide +kernel
theorem dX7_hour_67 : decode cX7_hour 67 = .ok (.iload_n 3, 1) := by decide +kernel
theorem dX7_hour_68 : decode cX7_hour 68 = .ok (.invokevirtual 156, 3) := by decide +kernel
theorem dX7_hour_71 : decode cX7_hour 71 = .ok (.ireturn, 1) := by decide +kernel
theorem dX7_hour_72 : decode cX7_hour 72 = .ok (.iload 4, 2) := by decide +kernel
theorem dX7_hour_74 : decode cX7_hour 74 = .ok (.iconst 1, 1) := by decide +kernel
theorem dX7_hour_75 : decode cX7_hour 75 = .ok (.if_icmp .ne 17, 3) := by decide +kernel
theorem dX7_hour_78 : decode cX7_hour 78 = .ok (.aload_n 0, 1) := by decide +kernel
theorem dX7_hour_79 : decode cX7_hour 79 = .ok (.aload 5, 2) := by decide +kernel
theorem dX7_hour_81 : decode cX7_hour 81 = .ok (.getfield 134, 3) := by decide +kernel
theorem dX7_hour_84 : decode cX7_hour 84 = .ok (.iload_n 2, 1) := by decide +kernel
theorem dX7_hour_85 : decode cX7_hour 85 = .ok (.iload_n 3, 1) := by decide +kernel
theorem dX7_hour_86 : decode cX7_hour 86 = .ok (.invokevirtual 160, 3) := by decide +kernel
theorem dX7_hour_89 : decode cX7_hour 89 = .ok (.goto 14, 3) := by decide +kernel
theorem dX7_hour_92 : decode cX7_hour 92 = .ok (.aload_n 0, 1) := by decide +kernel
theorem dX7_hour_93 : decode cX7_hour 93 = .ok (.aload 5, 2) := by decide +kernel
theorem dX7_hour_95 : decode cX7_hour 95 = .ok (.getfield 134, 3) := by decide +kernel
theorem dX7_hour_98 : decode cX7_hour 98 = .ok (.iload_n 2, 1) := by decide +kernel
theorem dX7_hour_99 : decode cX7_hour 99 = .ok (.iload_n 3, 1) := by decide +kernel
theorem dX7_hour_100 : decode cX7_hour 100 = .ok (.invokevirtual 163, 3) := by decide +kernel
theorem dX7_hour_103 : decode cX7_hour 103 = .ok (.ireturn, 1) := by decide +kernel
theorem dX7_summer_0 : decode cX7_summer 0 = .ok (.iload_n 1, 1) := by decide +kernel
theorem dX7_summer_1 : decode cX7_summer 1 = .ok (.invokestatic 84, 3) := by decide +kernel
theorem dX7_summer_4 : decode cX7_summer 4 = .ok (.ifCond .eq 23, 3) := by decide +kernel
theorem dX7_summer_7 : decode cX7_summer 7 = .ok (.iload_n 2, 1) := by decide +kernel
theorem dX7_summer_8 : decode cX7_summer 8 = .ok (.iconst (-1), 1) := by decide +kernel
theorem dX7_summer_9 : decode cX7_summer 9 = .ok (.if_icmp .eq 14, 3) := by decide +kernel
theorem dX7_summer_12 : decode cX7_summer 12 = .ok (.iload_n 2, 1) := by decide +kernel
theorem dX7_summer_13 : decode cX7_summer 13 = .ok (.iload_n 1, 1) := by decide +kernel
theorem dX7_summer_14 : decode cX7_summer 14 = .ok (.sipush 359, 3) := by decide +kernel
theorem dX7_summer_17 : decode cX7_summer 17 = .ok (.invokestatic 72, 3) := by decide +kernel
theorem dX7_summer_20 : decode cX7_summer 20 = .ok (.ifCond .eq 7, 3) := by decide +kernel
theorem dX7_summer_23 : decode cX7_summer 23 = .ok (.iconst 1, 1) := by decide +kernel
theorem dX7_summer_24 : decode cX7_summer 24 = .ok (.goto 4, 3) := by decide +kernel
theorem dX7_summer_27 : decode cX7_summer 27 = .ok (.iconst 0, 1) := by decide +kernel
theorem dX7_summer_28 : decode cX7_summer 28 = .ok (.invokestatic 76, 3) := by decide +kernel
theorem dX7_summer_31 : decode cX7_summer 31 = .ok (.aload_n 0, 1) := by decide +kernel
theorem dX7_summer_32 : decode cX7_summer 32 = .ok (.iload_n 1, 1) := by decide +kernel
theorem dX7_summer_33 : decode cX7_summer 33 = .ok (.putfield 166, 3) := by decide +kernel
theorem dX7_summer_36 : decode cX7_summer 36 = .ok (.aload_n 0, 1) := by decide +kernel
theorem dX7_summer_37 : decode cX7_summer 37 = .ok (.iload_n 2, 1) := by decide +kernel
theorem dX7_summer_38 : decode cX7_summer 38 = .ok (.putfield 28, 3) := by decide +kernel
theorem dX7_summer_41 : decode cX7_summer 41 = .ok (.return_, 1) := by decide +kernel
theorem dX7_dial_0 : decode cX7_dial 0 = .ok (.aload_n 0, 1) := by decide +kernel
theorem dX7_dial_1 : decode cX7_dial 1 = .ok (.iload_n 1, 1) := by decide +kernel
theorem dX7_dial_2 : decode cX7_dial 2 = .ok (.invokevirtual 130, 3) := by decide +kernel
theorem dX7_dial_5 : decode cX7_dial 5 = .ok (.astore 5, 2) := by decide +kernel
theorem dX7_dial_7 : decode cX7_dial 7 = .ok (.iload_n 2, 1) := by decide +kernel
theorem dX7_dial_8 : decode cX7_dial 8 = .ok (.invokestatic 169, 3) := by decide +kernel
theorem dX7_dial_11 : decode cX7_dial 11 = .ok (.ifCond .eq 22, 3) := by decide +kernel
theorem dX7_dial_14 : decode cX7_dial 14 = .ok (.iload_n 3, 1) := by decide +kernel
theorem dX7_dial_15 : decode cX7_dial 15 = .ok (.invokestatic 172, 3) := by decide +kernel
theorem dX7_dial_18 : decode cX7_dial 18 = .ok (.ifCond .eq 15, 3) := by decide +kernel
theorem dX7_dial_21 : decode cX7_dial 21 = .ok (.iload 4, 2) := by decide +kernel
theorem dX7_dial_23 : decode cX7_dial 23 = .ok (.invokestatic 175, 3) := by decide +kernel
theorem dX7_dial_26 : decode cX7_dial 26 = .ok (.ifCond .eq 7, 3) := by decide +kernel
theorem dX7_dial_29 : decode cX7_dial 29 = .ok (.iconst 1, 1) := by decide +kernel
theorem dX7_dial_30 : decode cX7_dial 30 = .ok (.goto 4, 3) := by decide +kernel
theorem dX7_dial_33 : decode cX7_dial 33 = .ok (.iconst 0, 1) := by decide +kernel
theorem dX7_dial_34 : decode cX7_dial 34 = .ok (.invokestatic 76, 3) := by decide +kernel
theorem dX7_dial_37 : decode cX7_dial 37 = .ok (.aload_n 0, 1) := by decide +kernel
theorem dX7_dial_38 : decode cX7_dial 38 = .ok (.getfield 178, 3) := by decide +kernel
theorem dX7_dial_41 : decode cX7_dial 41 = .ok (.aload_n 0, 1) := by decide +kernel
theorem dX7_dial_42 : decode cX7_dial 42 = .ok (.getfield 17, 3) := by decide +kernel
theorem dX7_dial_45 : decode cX7_dial 45 = .ok (.arraylength, 1) := by decide +kernel
theorem dX7_dial_46 : decode cX7_dial 46 = .ok (.if_icmp .lt 13, 3) := by decide +kernel
theorem dX7_dial_49 : decode cX7_dial 49 = .ok (.new 121, 3) := by decide +kernel
theorem dX7_dial_52 : decode cX7_dial 52 = .ok (.dup, 1) := by decide +kernel
theorem dX7_dial_53 : decode cX7_dial 53 = .ok (.ldc 181, 2) := by decide +kernel
theorem dX7_dial_55 : decode cX7_dial 55 = .ok (.invokespecial 125, 3) := by decide +kernel
theorem dX7_dial_58 : decode cX7_dial 58 = .ok (.athrow, 1) := by decide +kernel
theorem dX7_dial_59 : decode cX7_dial 59 = .ok (.new 15, 3) := by decide +kernel
theorem dX7_dial_62 : decode cX7_dial 62 = .ok (.dup, 1) := by decide +kernel
theorem dX7_dial_63 : decode cX7_dial 63 = .ok (.iload_n 1, 1) := by decide +kernel
theorem dX7_dial_64 : decode cX7_dial 64 = .ok (.invokespecial 183, 3) := by decide +kernel
theorem dX7_dial_67 : decode cX7_dial 67 = .ok (.astore 6, 2) := by decide +kernel
theorem dX7_dial_69 : decode cX7_dial 69 = .ok (.aload 6, 2) := by decide +kernel
theorem dX7_dial_71 : decode cX7_dial 71 = .ok (.getfield 185, 3) := by decide +kernel
theorem dX7_dial_74 : decode cX7_dial 74 = .ok (.aload 5, 2) := by decide +kernel
theorem dX7_dial_76 : decode cX7_dial 76 = .ok (.getfield 134, 3) := by decide +kernel
theorem dX7_dial_79 : decode cX7_dial 79 = .ok (.iload_n 2, 1) := by decide +kernel
theorem dX7_dial_80 : decode cX7_dial 80 = .ok (.iload_n 3, 1) := by decide +kernel
theorem dX7_dial_81 : decode cX7_dial 81 = .ok (.iload 4, 2) := by decide +kernel
theorem dX7_dial_83 : decode cX7_dial 83 = .ok (.invokevirtual 188, 3) := by decide +kernel
theorem dX7_dial_86 : decode cX7_dial 86 = .ok (.aload 6, 2) := by decide +kernel
theorem dX7_dial_88 : decode cX7_dial 88 = .ok (.getfield 192, 3) := by decide +kernel
theorem dX7_dial_91 : decode cX7_dial 91 = .ok (.aload 5, 2) := by decide +kernel
theorem dX7_dial_93 : decode cX7_dial 93 = .ok (.getfield 134, 3) := by decide +kernel
theorem dX7_dial_96 : decode cX7_dial 96 = .ok (.iload_n 2, 1) := by decide +kernel
theorem dX7_dial_97 : decode cX7_dial 97 = .ok (.iload_n 3, 1) := by decide +kernel
theorem dX7_dial_98 : decode cX7_dial 98 = .ok (.iload 4, 2) := by decide +kernel
theorem dX7_dial_100 : decode cX7_dial 100 = .ok (.invokevirtual 188, 3) := by decide +kernel
theorem dX7_dial_103 : decode cX7_dial 103 = .ok (.aload_n 0, 1) := by decide +kernel
theorem dX7_dial_104 : decode cX7_dial 104 = .ok (.getfield 17, 3) := by decide +kernel
theorem dX7_dial_107 : decode cX7_dial 107 = .ok (.aload_n 0, 1) := by decide +kernel
theorem dX7_dial_108 : decode cX7_dial 108 = .ok (.getfield 178, 3) := by decide +kernel
theorem dX7_dial_111 : decode cX7_dial 111 = .ok (.aload 6, 2) := by decide +kernel
theorem dX7_dial_113 : decode cX7_dial 113 = .ok (.aastore, 1) := by decide +kernel
theorem dX7_dial_114 : decode cX7_dial 114 = .ok (.aload_n 0, 1) := by decide +kernel
theorem dX7_dial_115 : decode cX7_dial 115 = .ok (.dup, 1) := by decide +kernel
theorem dX7_dial_116 : decode cX7_dial 116 = .ok (.getfield 178, 3) := by decide +kernel
theorem dX7_dial_119 : decode cX7_dial 119 = .ok (.iconst 1, 1) := by decide +kernel
theorem dX7_dial_120 : decode cX7_dial 120 = .ok (.iadd, 1) := by decide +kernel
theorem dX7_dial_121 : decode cX7_dial 121 = .ok (.putfield 178, 3) := by decide +kernel
theorem dX7_dial_124 : decode cX7_dial 124 = .ok (.aload_n 0, 1) := by decide +kernel
theorem dX7_dial_125 : decode cX7_dial 125 = .ok (.getfield 178, 3) := by decide +kernel
theorem dX7_dial_128 : decode cX7_dial 128 = .ok (.iconst 1, 1) := by decide +kernel
theorem dX7_dial_129 : decode cX7_dial 129 = .ok (.isub, 1) := by decide +kernel
theorem dX7_dial_130 : decode cX7_dial 130 = .ok (.ireturn, 1) := by decide +kernel
theorem dX7_stand_0 : decode cX7_stand 0 = .ok (.aload_n 0, 1) := by decide +kernel
theorem dX7_stand_1 : decode cX7_stand 1 = .ok (.iload_n 1, 1) := by decide +kernel
theorem dX7_stand_2 : decode cX7_stand 2 = .ok (.invokevirtual 195, 3) := by decide +kernel
theorem dX7_stand_5 : decode cX7_stand 5 = .ok (.astore 5, 2) := by decide +kernel
theorem dX7_stand_7 : decode cX7_stand 7 = .ok (.aload_n 0, 1) := by decide +kernel
theorem dX7_stand_8 : decode cX7_stand 8 = .ok (.iload_n 2, 1) := by decide +kernel
theorem dX7_stand_9 : decode cX7_stand 9 = .ok (.invokevirtual 130, 3) := by decide +kernel
theorem dX7_stand_12 : decode cX7_stand 12 = .ok (.astore 6, 2) := by decide +kernel
theorem dX7_stand_14 : decode cX7_stand 14 = .ok (.iload_n 3, 1) := by decide +kernel
theorem dX7_stand_15 : decode cX7_stand 15 = .ok (.invokestatic 169, 3) := by decide +kernel
theorem dX7_stand_18 : decode cX7_stand 18 = .ok (.ifCond .eq 15, 3) := by decide +kernel
theorem dX7_stand_21 : decode cX7_stand 21 = .ok (.iload 4, 2) := by decide +kernel
theorem dX7_stand_23 : decode cX7_stand 23 = .ok (.invokestatic 172, 3) := by decide +kernel
theorem dX7_stand_26 : decode cX7_stand 26 = .ok (.ifCond .eq 7, 3) := by decide +kernel
theorem dX7_stand_29 : decode cX7_stand 29 = .ok (.iconst 1, 1) := by decide +kernel
theorem dX7_stand_30 : decode cX7_stand 30 = .ok (.goto 4, 3) := by decide +kernel
theorem dX7_stand_33 : decode cX7_stand 33 = .ok (.iconst 0, 1) := by decide +kernel
theorem dX7_stand_34 : decode cX7_stand 34 = .ok (.invokestatic 76, 3) := by decide +kernel
theorem dX7_stand_37 : decode cX7_stand 37 = .ok (.aload 5, 2) := by decide +kernel
theorem dX7_stand_39 : decode cX7_stand 39 = .ok (.getfield 199, 3) := by decide +kernel
theorem dX7_stand_42 : decode cX7_stand 42 = .ok (.istore 7, 2) := by decide +kernel
theorem dX7_stand_44 : decode cX7_stand 44 = .ok (.aload 5, 2) := by decide +kernel
theorem dX7_stand_46 : decode cX7_stand 46 = .ok (.iload_n 2, 1) := by decide +kernel
theorem dX7_stand_47 : decode cX7_stand 47 = .ok (.putfield 199, 3) := by decide +kernel
theorem dX7_stand_50 : decode cX7_stand 50 = .ok (.aload 5, 2) := by decide +kernel
theorem dX7_stand_52 : decode cX7_stand 52 = .ok (.getfield 192, 3) := by decide +kernel
theorem dX7_stand_55 : decode cX7_stand 55 = .ok (.aload 6, 2) := by decide +kernel
theorem dX7_stand_57 : decode cX7_stand 57 = .ok (.getfield 134, 3) := by decide +kernel
theorem dX7_stand_60 : decode cX7_stand 60 = .ok (.iload_n 3, 1) := by decide +kernel
theorem dX7_stand_61 : decode cX7_stand 61 = .ok (.iload 4, 2) := by decide +kernel
theorem dX7_stand_63 : decode cX7_stand 63 = .ok (.aload 5, 2) := by decide +kernel
theorem dX7_stand_65 : decode cX7_stand 65 = .ok (.getfield 185, 3) := by decide +kernel
theorem dX7_stand_68 : decode cX7_stand 68 = .ok (.getfield 202, 3) := by decide +kernel
theorem dX7_stand_71 : decode cX7_stand 71 = .ok (.invokevirtual 188, 3) := by decide +kernel
theorem dX7_stand_74 : decode cX7_stand 74 = .ok (.iload 7, 2) := by decide +kernel
theorem dX7_stand_76 : decode cX7_stand 76 = .ok (.ireturn, 1) := by decide +kernel
theorem dX7_shadow_0 : decode cX7_shadow 0 = .ok (.aload_n 0, 1) := by decide +kernel
theorem dX7_shadow_1 : decode cX7_shadow 1 = .ok (.iload_n 1, 1) := by decide +kernel
theorem dX7_shadow_2 : decode cX7_shadow 2 = .ok (.iload_n 2, 1) := by decide +kernel
theorem dX7_shadow_3 : decode cX7_shadow 3 = .ok (.iload_n 3, 1) := by decide +kernel
theorem dX7_shadow_4 : decode cX7_shadow 4 = .ok (.invokevirtual 205, 3) := by decide +kernel
theorem dX7_shadow_7 : decode cX7_shadow 7 = .ok (.pop, 1) := by decide +kernel
theorem dX7_shadow_8 : decode cX7_shadow 8 = .ok (.iload 4, 2) := by decide +kernel
theorem dX7_shadow_10 : decode cX7_shadow 10 = .ok (.ifCond .eq 13, 3) := by decide +kernel
theorem dX7_shadow_13 : decode cX7_shadow 13 = .ok (.aload_n 0, 1) := by decide +kernel
theorem dX7_shadow_14 : decode cX7_shadow 14 = .ok (.getfield 42, 3) := by decide +kernel
theorem dX7_shadow_17 : decode cX7_shadow 17 = .ok (.getfield 209, 3) := by decide +kernel
theorem dX7_shadow_20 : decode cX7_shadow 20 = .ok (.goto 10, 3) := by decide +kernel
theorem dX7_shadow_23 : decode cX7_shadow 23 = .ok (.aload_n 0, 1) := by decide +kernel
theorem dX7_shadow_24 : decode cX7_shadow 24 = .ok (.getfield 42, 3) := by decide +kernel
theorem dX7_shadow_27 : decode cX7_shadow 27 = .ok (.getfield 212, 3) := by decide +kernel
theorem dX7_shadow_30 : decode cX7_shadow 30 = .ok (.ireturn, 1) := by decide +kernel
theorem dX7_blur_0 : decode cX7_blur 0 = .ok (.aload_n 0, 1) := by decide +kernel
theorem dX7_blur_1 : decode cX7_blur 1 = .ok (.iload_n 1, 1) := by decide +kernel
theorem dX7_blur_2 : decode cX7_blur 2 = .ok (.iload_n 2, 1) := by decide +kernel
theorem dX7_blur_3 : decode cX7_blur 3 = .ok (.iload_n 3, 1) := by decide +kernel
theorem dX7_blur_4 : decode cX7_blur 4 = .ok (.invokevirtual 205, 3) := by decide +kernel
theorem dX7_blur_7 : decode cX7_blur 7 = .ok (.astore 4, 2) := by decide +kernel
theorem dX7_blur_9 : decode cX7_blur 9 = .ok (.aload_n 0, 1) := by decide +kernel
theorem dX7_blur_10 : decode cX7_blur 10 = .ok (.getfield 42, 3) := by decide +kernel
theorem dX7_blur_13 : decode cX7_blur 13 = .ok (.getfield 212, 3) := by decide +kernel
theorem dX7_blur_16 : decode cX7_blur 16 = .ok (.invokestatic 215, 3) := by decide +kernel
theorem dX7_blur_19 : decode cX7_blur 19 = .ok (.aload_n 0, 1) := by decide +kernel
theorem dX7_blur_20 : decode cX7_blur 20 = .ok (.getfield 42, 3) := by decide +kernel
theorem dX7_blur_23 : decode cX7_blur 23 = .ok (.getfield 209, 3) := by decide +kernel
theorem dX7_blur_26 : decode cX7_blur 26 = .ok (.invokestatic 215, 3) := by decide +kernel
theorem dX7_blur_29 : decode cX7_blur 29 = .ok (.iadd, 1) := by decide +kernel
theorem dX7_blur_30 : decode cX7_blur 30 = .ok (.aload 4, 2) := by decide +kernel
theorem dX7_blur_32 : decode cX7_blur 32 = .ok (.getfield 202, 3) := by decide +kernel
theorem dX7_blur_35 : decode cX7_blur 35 = .ok (.iadd, 1) := by decide +kernel
theorem dX7_blur_36 : decode cX7_blur 36 = .ok (.istore 5, 2) := by decide +kernel
theorem dX7_blur_38 : decode cX7_blur 38 = .ok (.iload 5, 2) := by decide +kernel
theorem dX7_blur_40 : decode cX7_blur 40 = .ok (.i2f, 1) := by decide +kernel
theorem dX7_blur_41 : decode cX7_blur 41 = .ok (.ldc 218, 2) := by decide +kernel
theorem dX7_blur_43 : decode cX7_blur 43 = .ok (.fdiv, 1) := by decide +kernel
theorem dX7_blur_44 : decode cX7_blur 44 = .ok (.freturn, 1) := by decide +kernel
theorem dX7_line_0 : decode cX7_line 0 = .ok (.aload_n 0, 1) := by decide +kernel
theorem dX7_line_1 : decode cX7_line 1 = .ok (.iload_n 1, 1) := by decide +kernel
theorem dX7_line_2 : decode cX7_line 2 = .ok (.invokevirtual 195, 3) := by decide +kernel
theorem dX7_line_5 : decode cX7_line 5 = .ok (.astore 4, 2) := by decide +kernel
theorem dX7_line_7 : decode cX7_line 7 = .ok (.iload_n 2, 1) := by decide +kernel
theorem dX7_line_8 : decode cX7_line 8 = .ok (.invokestatic 219, 3) := by decide +kernel
theorem dX7_line_11 : decode cX7_line 11 = .ok (.ifCond .eq 16, 3) := by decide +kernel
theorem dX7_line_14 : decode cX7_line 14 = .ok (.iload_n 3, 1) := by decide +kernel
theorem dX7_line_15 : decode cX7_line 15 = .ok (.iconst 0, 1) := by decide +kernel
theorem dX7_line_16 : decode cX7_line 16 = .ok (.iconst 4, 1) := by decide +kernel
theorem dX7_line_17 : decode cX7_line 17 = .ok (.invokestatic 72, 3) := by decide +kernel
theorem dX7_line_20 : decode cX7_line 20 = .ok (.ifCond .eq 7, 3) := by decide +kernel
theorem dX7_line_23 : decode cX7_line 23 = .ok (.iconst 1, 1) := by decide +kernel
theorem dX7_line_24 : decode cX7_line 24 = .ok (.goto 4, 3) := by decide +kernel
theorem dX7_line_27 : decode cX7_line 27 = .ok (.iconst 0, 1) := by decide +kernel
theorem dX7_line_28 : decode cX7_line 28 = .ok (.invokestatic 76, 3) := by decide +kernel
theorem dX7_line_31 : decode cX7_line 31 = .ok (.aload_n 0, 1) := by decide +kernel
theorem dX7_line_32 : decode cX7_line 32 = .ok (.aload 4, 2) := by decide +kernel
theorem dX7_line_34 : decode cX7_line 34 = .ok (.getfield 185, 3) := by decide +kernel
theorem dX7_line_37 : decode cX7_line 37 = .ok (.iload_n 2, 1) := by decide +kernel
theorem dX7_line_38 : decode cX7_line 38 = .ok (.invokevirtual 222, 3) := by decide +kernel
theorem dX7_line_41 : decode cX7_line 41 = .ok (.istore 5, 2) := by decide +kernel
theorem dX7_line_43 : decode cX7_line 43 = .ok (.iload_n 3, 1) := by decide +kernel
theorem dX7_line_44 : decode cX7_line 44 = .ok (.ifCond .ne 14, 3) := by decide +kernel
theorem dX7_line_47 : decode cX7_line 47 = .ok (.iload 5, 2) := by decide +kernel
theorem dX7_line_49 : decode cX7_line 49 = .ok (.ifCond .eq 7, 3) := by decide +kernel
theorem dX7_line_52 : decode cX7_line 52 = .ok (.iconst 1, 1) := by decide +kernel
theorem dX7_line_53 : decode cX7_line 53 = .ok (.goto 4, 3) := by decide +kernel
theorem dX7_line_56 : decode cX7_line 56 = .ok (.iconst 0, 1) := by decide +kernel
theorem dX7_line_57 : decode cX7_line 57 = .ok (.ireturn, 1) := by decide +kernel
theorem dX7_line_58 : decode cX7_line 58 = .ok (.iload 5, 2) := by decide +kernel
theorem dX7_line_60 : decode cX7_line 60 = .ok (.ifCond .ne 13, 3) := by decide +kernel
theorem dX7_line_63 : decode cX7_line 63 = .ok (.new 121, 3) := by decide +kernel
theorem dX7_line_66 : decode cX7_line 66 = .ok (.dup, 1) := by decide +kernel
theorem dX7_line_67 : decode cX7_line 67 = .ok (.ldc 226, 2) := by decide +kernel
theorem dX7_line_69 : decode cX7_line 69 = .ok (.invokespecial 125, 3) := by decide +kernel
theorem dX7_line_72 : decode cX7_line 72 = .ok (.athrow, 1) := by decide +kernel
theorem dX7_line_73 : decode cX7_line 73 = .ok (.iload_n 3, 1) := by decide +kernel
theorem dX7_line_74 : decode cX7_line 74 = .ok (.iconst 2, 1) := by decide +kernel
theorem dX7_line_75 : decode cX7_line 75 = .ok (.if_icmp .gt 10, 3) := by decide +kernel
theorem dX7_line_78 : decode cX7_line 78 = .ok (.aload_n 0, 1) := by decide +kernel
theorem dX7_line_79 : decode cX7_line 79 = .ok (.getfield 46, 3) := by decide +kernel
theorem dX7_line_82 : decode cX7_line 82 = .ok (.goto 7, 3) := by decide +kernel
theorem dX7_line_85 : decode cX7_line 85 = .ok (.aload_n 0, 1) := by decide +kernel
theorem dX7_line_86 : decode cX7_line 86 = .ok (.getfield 49, 3) := by decide +kernel
theorem dX7_line_89 : decode cX7_line 89 = .ok (.astore 6, 2) := by decide +kernel
theorem dX7_line_91 : decode cX7_line 91 = .ok (.iload_n 3, 1) := by decide +kernel
theorem dX7_line_92 : decode cX7_line 92 = .ok (.iconst 2, 1) := by decide +kernel
theorem dX7_line_93 : decode cX7_line 93 = .ok (.irem, 1) := by decide +kernel
theorem dX7_line_94 : decode cX7_line 94 = .ok (.iconst 1, 1) := by decide +kernel
theorem dX7_line_95 : decode cX7_line 95 = .ok (.if_icmp .ne 11, 3) := by decide +kernel
theorem dX7_line_98 : decode cX7_line 98 = .ok (.aload 6, 2) := by decide +kernel
theorem dX7_line_100 : decode cX7_line 100 = .ok (.getfield 212, 3) := by decide +kernel
theorem dX7_line_103 : decode cX7_line 103 = .ok (.goto 8, 3) := by decide +kernel
theorem dX7_line_106 : decode cX7_line 106 = .ok (.aload 6, 2) := by decide +kernel
theorem dX7_line_108 : decode cX7_line 108 = .ok (.getfield 209, 3) := by decide +kernel
theorem dX7_line_111 : decode cX7_line 111 = .ok (.ireturn, 1) := by decide +kernel
theorem dX7_read_0 : decode cX7_read 0 = .ok (.aload_n 0, 1) := by decide +kernel
theorem dX7_read_1 : decode cX7_read 1 = .ok (.iload_n 1, 1) := by decide +kernel
theorem dX7_read_2 : decode cX7_read 2 = .ok (.invokevirtual 195, 3) := by decide +kernel
theorem dX7_read_5 : decode cX7_read 5 = .ok (.astore 5, 2) := by decide +kernel
theorem dX7_read_7 : decode cX7_read 7 = .ok (.iload_n 2, 1) := by decide +kernel
theorem dX7_read_8 : decode cX7_read 8 = .ok (.i2l, 1) := by decide +kernel
theorem dX7_read_9 : decode cX7_read 9 = .ok (.invokestatic 228, 3) := by decide +kernel
theorem dX7_read_12 : decode cX7_read 12 = .ok (.ifCond .eq 23, 3) := by decide +kernel
theorem dX7_read_15 : decode cX7_read 15 = .ok (.iload_n 3, 1) := by decide +kernel
theorem dX7_read_16 : decode cX7_read 16 = .ok (.i2l, 1) := by decide +kernel
theorem dX7_read_17 : decode cX7_read 17 = .ok (.invokestatic 228, 3) := by decide +kernel
theorem dX7_read_20 : decode cX7_read 20 = .ok (.ifCond .eq 15, 3) := by decide +kernel
theorem dX7_read_23 : decode cX7_read 23 = .ok (.iload 4, 2) := by decide +kernel
theorem dX7_read_25 : decode cX7_read 25 = .ok (.invokestatic 84, 3) := by decide +kernel
theorem dX7_read_28 : decode cX7_read 28 = .ok (.ifCond .eq 7, 3) := by decide +kernel
theorem dX7_read_31 : decode cX7_read 31 = .ok (.iconst 1, 1) := by decide +kernel
theorem dX7_read_32 : decode cX7_read 32 = .ok (.goto 4, 3) := by decide +kernel
theorem dX7_read_35 : decode cX7_read 35 = .ok (.iconst 0, 1) := by decide +kernel
theorem dX7_read_36 : decode cX7_read 36 = .ok (.invokestatic 76, 3) := by decide +kernel
theorem dX7_read_39 : decode cX7_read 39 = .ok (.aload_n 0, 1) := by decide +kernel
theorem dX7_read_40 : decode cX7_read 40 = .ok (.getfield 62, 3) := by decide +kernel
theorem dX7_read_43 : decode cX7_read 43 = .ok (.aload 5, 2) := by decide +kernel
theorem dX7_read_45 : decode cX7_read 45 = .ok (.getfield 185, 3) := by decide +kernel
theorem dX7_read_48 : decode cX7_read 48 = .ok (.iload 4, 2) := by decide +kernel
theorem dX7_read_50 : decode cX7_read 50 = .ok (.aload_n 0, 1) := by decide +kernel
theorem dX7_read_51 : decode cX7_read 51 = .ok (.getfield 35, 3) := by decide +kernel
theorem dX7_read_54 : decode cX7_read 54 = .ok (.aload_n 0, 1) := by decide +kernel
theorem dX7_read_55 : decode cX7_read 55 = .ok (.getfield 42, 3) := by decide +kernel
theorem dX7_read_58 : decode cX7_read 58 = .ok (.invokevirtual 232, 3) := by decide +kernel
theorem dX7_read_61 : decode cX7_read 61 = .ok (.aload_n 0, 1) := by decide +kernel
theorem dX7_read_62 : decode cX7_read 62 = .ok (.getfield 62, 3) := by decide +kernel
theorem dX7_read_65 : decode cX7_read 65 = .ok (.iload_n 2, 1) := by decide +kernel
theorem dX7_read_66 : decode cX7_read 66 = .ok (.iload_n 3, 1) := by decide +kernel
theorem dX7_read_67 : decode cX7_read 67 = .ok (.invokevirtual 236, 3) := by decide +kernel
theorem dX7_read_70 : decode cX7_read 70 = .ok (.ireturn, 1) := by decide +kernel
theorem dX7_tells_0 : decode cX7_tells 0 = .ok (.aload_n 0, 1) := by decide +kernel
theorem dX7_tells_1 : decode cX7_tells 1 = .ok (.iload_n 1, 1) := by decide +kernel
theorem dX7_tells_2 : decode cX7_tells 2 = .ok (.invokevirtual 195, 3) := by decide +kernel
theorem dX7_tells_5 : decode cX7_tells 5 = .ok (.astore 4, 2) := by decide +kernel
theorem dX7_tells_7 : decode cX7_tells 7 = .ok (.iload_n 2, 1) := by decide +kernel
theorem dX7_tells_8 : decode cX7_tells 8 = .ok (.invokestatic 84, 3) := by decide +kernel
theorem dX7_tells_11 : decode cX7_tells 11 = .ok (.ifCond .eq 14, 3) := by decide +kernel
theorem dX7_tells_14 : decode cX7_tells 14 = .ok (.iload_n 3, 1) := by decide +kernel
theorem dX7_tells_15 : decode cX7_tells 15 = .ok (.invokestatic 97, 3) := by decide +kernel
theorem dX7_tells_18 : decode cX7_tells 18 = .ok (.ifCond .eq 7, 3) := by decide +kernel
theorem dX7_tells_21 : decode cX7_tells 21 = .ok (.iconst 1, 1) := by decide +kernel
theorem dX7_tells_22 : decode cX7_tells 22 = .ok (.goto 4, 3) := by decide +kernel
theorem dX7_tells_25 : decode cX7_tells 25 = .ok (.iconst 0, 1) := by decide +kernel
theorem dX7_tells_26 : decode cX7_tells 26 = .ok (.invokestatic 76, 3) := by decide +kernel
theorem dX7_tells_29 : decode cX7_tells 29 = .ok (.aload_n 0, 1) := by decide +kernel
theorem dX7_tells_30 : decode cX7_tells 30 = .ok (.getfield 62, 3) := by decide +kernel
theorem dX7_tells_33 : decode cX7_tells 33 = .ok (.aload 4, 2) := by decide +kernel
theorem dX7_tells_35 : decode cX7_tells 35 = .ok (.getfield 185, 3) := by decide +kernel
theorem dX7_tells_38 : decode cX7_tells 38 = .ok (.iload_n 2, 1) := by decide +kernel
theorem dX7_tells_39 : decode cX7_tells 39 = .ok (.aload_n 0, 1) := by decide +kernel
theorem dX7_tells_40 : decode cX7_tells 40 = .ok (.getfield 35, 3) := by decide +kernel
theorem dX7_tells_43 : decode cX7_tells 43 = .ok (.aload_n 0, 1) := by decide +kernel
theorem dX7_tells_44 : decode cX7_tells 44 = .ok (.getfield 42, 3) := by decide +kernel
theorem dX7_tells_47 : decode cX7_tells 47 = .ok (.invokevirtual 232, 3) := by decide +kernel
theorem dX7_tells_50 : decode cX7_tells 50 = .ok (.aload_n 0, 1) := by decide +kernel
theorem dX7_tells_51 : decode cX7_tells 51 = .ok (.getfield 35, 3) := by decide +kernel
theorem dX7_tells_54 : decode cX7_tells 54 = .ok (.aload 4, 2) := by decide +kernel
theorem dX7_tells_56 : decode cX7_tells 56 = .ok (.getfield 192, 3) := by decide +kernel
theorem dX7_tells_59 : decode cX7_tells 59 = .ok (.getfield 239, 3) := by decide +kernel
theorem dX7_tells_62 : decode cX7_tells 62 = .ok (.iload_n 2, 1) := by decide +kernel
theorem dX7_tells_63 : decode cX7_tells 63 = .ok (.invokevirtual 100, 3) := by decide +kernel
theorem dX7_tells_66 : decode cX7_tells 66 = .ok (.aload_n 0, 1) := by decide +kernel
theorem dX7_tells_67 : decode cX7_tells 67 = .ok (.iload_n 3, 1) := by decide +kernel
theorem dX7_tells_68 : decode cX7_tells 68 = .ok (.aload 4, 2) := by decide +kernel
theorem dX7_tells_70 : decode cX7_tells 70 = .ok (.getfield 192, 3) := by decide +kernel
theorem dX7_tells_73 : decode cX7_tells 73 = .ok (.aload_n 0, 1) := by decide +kernel
theorem dX7_tells_74 : decode cX7_tells 74 = .ok (.getfield 62, 3) := by decide +kernel
theorem dX7_tells_77 : decode cX7_tells 77 = .ok (.invokevirtual 240, 3) := by decide +kernel
theorem dX7_tells_80 : decode cX7_tells 80 = .ok (.ireturn, 1) := by decide +kernel
theorem dX7_worst_0 : decode cX7_worst 0 = .ok (.aload_n 0, 1) := by decide +kernel
theorem dX7_worst_1 : decode cX7_worst 1 = .ok (.iload_n 1, 1) := by decide +kernel
theorem dX7_worst_2 : decode cX7_worst 2 = .ok (.invokevirtual 195, 3) := by decide +kernel
theorem dX7_worst_5 : decode cX7_worst 5 = .ok (.astore 4, 2) := by decide +kernel
theorem dX7_worst_7 : decode cX7_worst 7 = .ok (.iload_n 2, 1) := by decide +kernel
theorem dX7_worst_8 : decode cX7_worst 8 = .ok (.invokestatic 84, 3) := by decide +kernel
theorem dX7_worst_11 : decode cX7_worst 11 = .ok (.ifCond .eq 16, 3) := by decide +kernel
theorem dX7_worst_14 : decode cX7_worst 14 = .ok (.iload_n 3, 1) := by decide +kernel
theorem dX7_worst_15 : decode cX7_worst 15 = .ok (.iconst 0, 1) := by decide +kernel
theorem dX7_worst_16 : decode cX7_worst 16 = .ok (.iconst 1, 1) := by decide +kernel
theorem dX7_worst_17 : decode cX7_worst 17 = .ok (.invokestatic 72, 3) := by decide +kernel
theorem dX7_worst_20 : decode cX7_worst 20 = .ok (.ifCond .eq 7, 3) := by decide +kernel
theorem dX7_worst_23 : decode cX7_worst 23 = .ok (.iconst 1, 1) := by decide +kernel
theorem dX7_worst_24 : decode cX7_worst 24 = .ok (.goto 4, 3) := by decide +kernel
theorem dX7_worst_27 : decode cX7_worst 27 = .ok (.iconst 0, 1) := by decide +kernel
theorem dX7_worst_28 : decode cX7_worst 28 = .ok (.invokestatic 76, 3) := by decide +kernel
theorem dX7_worst_31 : decode cX7_worst 31 = .ok (.aload_n 0, 1) := by decide +kernel
theorem dX7_worst_32 : decode cX7_worst 32 = .ok (.getfield 62, 3) := by decide +kernel
theorem dX7_worst_35 : decode cX7_worst 35 = .ok (.aload 4, 2) := by decide +kernel
theorem dX7_worst_37 : decode cX7_worst 37 = .ok (.getfield 185, 3) := by decide +kernel
theorem dX7_worst_40 : decode cX7_worst 40 = .ok (.iload_n 2, 1) := by decide +kernel
theorem dX7_worst_41 : decode cX7_worst 41 = .ok (.aload_n 0, 1) := by decide +kernel
theorem dX7_worst_42 : decode cX7_worst 42 = .ok (.getfield 35, 3) := by decide +kernel
theorem dX7_worst_45 : decode cX7_worst 45 = .ok (.aload_n 0, 1) := by decide +kernel
theorem dX7_worst_46 : decode cX7_worst 46 = .ok (.getfield 42, 3) := by decide +kernel
theorem dX7_worst_49 : decode cX7_worst 49 = .ok (.invokevirtual 232, 3) := by decide +kernel
theorem dX7_worst_52 : decode cX7_worst 52 = .ok (.aload_n 0, 1) := by decide +kernel
theorem dX7_worst_53 : decode cX7_worst 53 = .ok (.getfield 35, 3) := by decide +kernel
theorem dX7_worst_56 : decode cX7_worst 56 = .ok (.aload 4, 2) := by decide +kernel
theorem dX7_worst_58 : decode cX7_worst 58 = .ok (.getfield 192, 3) := by decide +kernel
theorem dX7_worst_61 : decode cX7_worst 61 = .ok (.getfield 239, 3) := by decide +kernel
theorem dX7_worst_64 : decode cX7_worst 64 = .ok (.iload_n 2, 1) := by decide +kernel
theorem dX7_worst_65 : decode cX7_worst 65 = .ok (.invokevirtual 100, 3) := by decide +kernel
theorem dX7_worst_68 : decode cX7_worst 68 = .ok (.iconst (-1), 1) := by decide +kernel
theorem dX7_worst_69 : decode cX7_worst 69 = .ok (.istore 5, 2) := by decide +kernel
theorem dX7_worst_71 : decode cX7_worst 71 = .ok (.iconst (-1), 1) := by decide +kernel
theorem dX7_worst_72 : decode cX7_worst 72 = .ok (.istore 6, 2) := by decide +kernel
theorem dX7_worst_74 : decode cX7_worst 74 = .ok (.iconst 0, 1) := by decide +kernel
theorem dX7_worst_75 : decode cX7_worst 75 = .ok (.istore 7, 2) := by decide +kernel
theorem dX7_worst_77 : decode cX7_worst 77 = .ok (.iload 7, 2) := by decide +kernel
theorem dX7_worst_79 : decode cX7_worst 79 = .ok (.sipush 360, 3) := by decide +kernel
theorem dX7_worst_82 : decode cX7_worst 82 = .ok (.if_icmp .ge 59, 3) := by decide +kernel
theorem dX7_worst_85 : decode cX7_worst 85 = .ok (.aload_n 0, 1) := by decide +kernel
theorem dX7_worst_86 : decode cX7_worst 86 = .ok (.iload 7, 2) := by decide +kernel
theorem dX7_worst_88 : decode cX7_worst 88 = .ok (.aload 4, 2) := by decide +kernel
theorem dX7_worst_90 : decode cX7_worst 90 = .ok (.getfield 192, 3) := by decide +kernel
theorem dX7_worst_93 : decode cX7_worst 93 = .ok (.aload_n 0, 1) := by decide +kernel
theorem dX7_worst_94 : decode cX7_worst 94 = .ok (.getfield 62, 3) := by decide +kernel
theorem dX7_worst_97 : decode cX7_worst 97 = .ok (.invokevirtual 240, 3) := by decide +kernel
theorem dX7_worst_100 : decode cX7_worst 100 = .ok (.istore 8, 2) := by decide +kernel
theorem dX7_worst_102 : decode cX7_worst 102 = .ok (.iload 8, 2) := by decide +kernel
theorem dX7_worst_104 : decode cX7_worst 104 = .ok (.iconst (-1), 1) := by decide +kernel
theorem dX7_worst_105 : decode cX7_worst 105 = .ok (.if_icmp .eq 30, 3) := by decide +kernel
theorem dX7_worst_108 : decode cX7_worst 108 = .ok (.iload 8, 2) := by decide +kernel
theorem dX7_worst_110 : decode cX7_worst 110 = .ok (.iload 7, 2) := by decide +kernel
theorem dX7_worst_112 : decode cX7_worst 112 = .ok (.isub, 1) := by decide +kernel
theorem dX7_worst_113 : decode cX7_worst 113 = .ok (.invokestatic 215, 3) := by decide +kernel
theorem dX7_worst_116 : decode cX7_worst 116 = .ok (.iload 5, 2) := by decide +kernel
theorem dX7_worst_118 : decode cX7_worst 118 = .ok (.if_icmp .le 17, 3) := by decide +kernel
theorem dX7_worst_121 : decode cX7_worst 121 = .ok (.iload 8, 2) := by decide +kernel
theorem dX7_worst_123 : decode cX7_worst 123 = .ok (.iload 7, 2) := by decide +kernel
theorem dX7_worst_125 : decode cX7_worst 125 = .ok (.isub, 1) := by decide +kernel
theorem dX7_worst_126 : decode cX7_worst 126 = .ok (.invokestatic 215, 3) := by decide +kernel
theorem dX7_worst_129 : decode cX7_worst 129 = .ok (.istore 5, 2) := by decide +kernel
theorem dX7_worst_131 : decode cX7_worst 131 = .ok (.iload 7, 2) := by decide +kernel
theorem dX7_worst_133 : decode cX7_worst 133 = .ok (.istore 6, 2) := by decide +kernel
theorem dX7_worst_135 : decode cX7_worst 135 = .ok (.iinc 7 1, 3) := by decide +kernel
theorem dX7_worst_138 : decode cX7_worst 138 = .ok (.goto (-61), 3) := by decide +kernel
theorem dX7_worst_141 : decode cX7_worst 141 = .ok (.iload_n 3, 1) := by decide +kernel
theorem dX7_worst_142 : decode cX7_worst 142 = .ok (.ifCond .ne 8, 3) := by decide +kernel
theorem dX7_worst_145 : decode cX7_worst 145 = .ok (.iload 5, 2) := by decide +kernel
theorem dX7_worst_147 : decode cX7_worst 147 = .ok (.goto 5, 3) := by decide +kernel
theorem dX7_worst_150 : decode cX7_worst 150 = .ok (.iload 6, 2) := by decide +kernel
theorem dX7_worst_152 : decode cX7_worst 152 = .ok (.ireturn, 1) := by decide +kernel
theorem dX7_best_0 : decode cX7_best 0 = .ok (.aload_n 0, 1) := by decide +kernel
theorem dX7_best_1 : decode cX7_best 1 = .ok (.iload_n 1, 1) := by decide +kernel
theorem dX7_best_2 : decode cX7_best 2 = .ok (.invokevirtual 195, 3) := by decide +kernel
theorem dX7_best_5 : decode cX7_best 5 = .ok (.astore 4, 2) := by decide +kernel
theorem dX7_best_7 : decode cX7_best 7 = .ok (.aload_n 0, 1) := by decide +kernel
theorem dX7_best_8 : decode cX7_best 8 = .ok (.iload_n 2, 1) := by decide +kernel
theorem dX7_best_9 : decode cX7_best 9 = .ok (.invokevirtual 130, 3) := by decide +kernel
theorem dX7_best_12 : decode cX7_best 12 = .ok (.astore 5, 2) := by decide +kernel
theorem dX7_best_14 : decode cX7_best 14 = .ok (.iload_n 3, 1) := by decide +kernel
theorem dX7_best_15 : decode cX7_best 15 = .ok (.invokestatic 172, 3) := by decide +kernel
theorem dX7_best_18 : decode cX7_best 18 = .ok (.invokestatic 76, 3) := by decide +kernel
theorem dX7_best_21 : decode cX7_best 21 = .ok (.aload_n 0, 1) := by decide +kernel
theorem dX7_best_22 : decode cX7_best 22 = .ok (.aload 4, 2) := by decide +kernel
theorem dX7_best_24 : decode cX7_best 24 = .ok (.getfield 185, 3) := by decide +kernel
theorem dX7_best_27 : decode cX7_best 27 = .ok (.invokevirtual 244, 3) := by decide +kernel
theorem dX7_best_30 : decode cX7_best 30 = .ok (.ldc 248, 2) := by decide +kernel
theorem dX7_best_32 : decode cX7_best 32 = .ok (.istore 6, 2) := by decide +kernel
theorem dX7_best_34 : decode cX7_best 34 = .ok (.iconst 0, 1) := by decide +kernel
theorem dX7_best_35 : decode cX7_best 35 = .ok (.istore 7, 2) := by decide +kernel
theorem dX7_best_37 : decode cX7_best 37 = .ok (.iconst 0, 1) := by decide +kernel
theorem dX7_best_38 : decode cX7_best 38 = .ok (.istore 8, 2) := by decide +kernel
theorem dX7_best_40 : decode cX7_best 40 = .ok (.iload 8, 2) := by decide +kernel
theorem dX7_best_42 : decode cX7_best 42 = .ok (.bipush 90, 2) := by decide +kernel
theorem dX7_best_44 : decode cX7_best 44 = .ok (.if_icmp .gt 55, 3) := by decide +kernel
theorem dX7_best_47 : decode cX7_best 47 = .ok (.aload_n 0, 1) := by decide +kernel
theorem dX7_best_48 : decode cX7_best 48 = .ok (.getfield 55, 3) := by decide +kernel
theorem dX7_best_51 : decode cX7_best 51 = .ok (.aload 5, 2) := by decide +kernel
theorem dX7_best_53 : decode cX7_best 53 = .ok (.getfield 134, 3) := by decide +kernel
theorem dX7_best_56 : decode cX7_best 56 = .ok (.iload 8, 2) := by decide +kernel
theorem dX7_best_58 : decode cX7_best 58 = .ok (.iload_n 3, 1) := by decide +kernel
theorem dX7_best_59 : decode cX7_best 59 = .ok (.aload 4, 2) := by decide +kernel
theorem dX7_best_61 : decode cX7_best 61 = .ok (.getfield 185, 3) := by decide +kernel
theorem dX7_best_64 : decode cX7_best 64 = .ok (.getfield 202, 3) := by decide +kernel
theorem dX7_best_67 : decode cX7_best 67 = .ok (.invokevirtual 188, 3) := by decide +kernel
theorem dX7_best_70 : decode cX7_best 70 = .ok (.aload_n 0, 1) := by decide +kernel
theorem dX7_best_71 : decode cX7_best 71 = .ok (.iload 6, 2) := by decide +kernel
theorem dX7_best_73 : decode cX7_best 73 = .ok (.invokevirtual 249, 3) := by decide +kernel
theorem dX7_best_76 : decode cX7_best 76 = .ok (.istore 9, 2) := by decide +kernel
theorem dX7_best_78 : decode cX7_best 78 = .ok (.iload 9, 2) := by decide +kernel
theorem dX7_best_80 : decode cX7_best 80 = .ok (.iload 6, 2) := by decide +kernel
theorem dX7_best_82 : decode cX7_best 82 = .ok (.if_icmp .ge 11, 3) := by decide +kernel
theorem dX7_best_85 : decode cX7_best 85 = .ok (.iload 9, 2) := by decide +kernel
theorem dX7_best_87 : decode cX7_best 87 = .ok (.istore 6, 2) := by decide +kernel
theorem dX7_best_89 : decode cX7_best 89 = .ok (.iload 8, 2) := by decide +kernel
theorem dX7_best_91 : decode cX7_best 91 = .ok (.istore 7, 2) := by decide +kernel
theorem dX7_best_93 : decode cX7_best 93 = .ok (.iinc 8 1, 3) := by decide +kernel
theorem dX7_best_96 : decode cX7_best 96 = .ok (.goto (-56), 3) := by decide +kernel
theorem dX7_best_99 : decode cX7_best 99 = .ok (.iload 7, 2) := by decide +kernel
theorem dX7_best_101 : decode cX7_best 101 = .ok (.ireturn, 1) := by decide +kernel
theorem dX7_cut_0 : decode cX7_cut 0 = .ok (.aload_n 0, 1) := by decide +kernel
theorem dX7_cut_1 : decode cX7_cut 1 = .ok (.iload_n 1, 1) := by decide +kernel
theorem dX7_cut_2 : decode cX7_cut 2 = .ok (.invokevirtual 195, 3) := by decide +kernel
theorem dX7_cut_5 : decode cX7_cut 5 = .ok (.astore 4, 2) := by decide +kernel
