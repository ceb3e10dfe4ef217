theorem dX0_init_0 : decode cX0_init 0 = .ok (.aload_n 0, 1) := by decide +kernel
theorem dX0_init_1 : decode cX0_init 1 = .ok (.invokespecial 3, 3) := by decide +kernel
theorem dX0_init_4 : decode cX0_init 4 = .ok (.aload_n 0, 1) := by decide +kernel
theorem dX0_init_5 : decode cX0_init 5 = .ok (.new 9, 3) := by decide +kernel
theorem dX0_init_8 : decode cX0_init 8 = .ok (.dup, 1) := by decide +kernel
theorem dX0_init_9 : decode cX0_init 9 = .ok (.invokespecial 11, 3) := by decide +kernel
theorem dX0_init_12 : decode cX0_init 12 = .ok (.putfield 12, 3) := by decide +kernel
theorem dX0_init_15 : decode cX0_init 15 = .ok (.aload_n 0, 1) := by decide +kernel
theorem dX0_init_16 : decode cX0_init 16 = .ok (.new 9, 3) := by decide +kernel
theorem dX0_init_19 : decode cX0_init 19 = .ok (.dup, 1) := by decide +kernel
theorem dX0_init_20 : decode cX0_init 20 = .ok (.invokespecial 11, 3) := by decide +kernel
theorem dX0_init_23 : decode cX0_init 23 = .ok (.putfield 18, 3) := by decide +kernel
theorem dX0_init_26 : decode cX0_init 26 = .ok (.aload_n 0, 1) := by decide +kernel
theorem dX0_init_27 : decode cX0_init 27 = .ok (.bipush 24, 2) := by decide +kernel
theorem dX0_init_29 : decode cX0_init 29 = .ok (.newarray .boolean, 2) := by decide +kernel
theorem dX0_init_31 : decode cX0_init 31 = .ok (.putfield 21, 3) := by decide +kernel
theorem dX0_init_34 : decode cX0_init 34 = .ok (.aload_n 0, 1) := by decide +kernel
theorem dX0_init_35 : decode cX0_init 35 = .ok (.iload_n 1, 1) := by decide +kernel
theorem dX0_init_36 : decode cX0_init 36 = .ok (.putfield 25, 3) := by decide +kernel
theorem dX0_init_39 : decode cX0_init 39 = .ok (.return_, 1) := by decide +kernel
theorem dX0_isCut_0 : decode cX0_isCut 0 = .ok (.iload_n 1, 1) := by decide +kernel
theorem dX0_isCut_1 : decode cX0_isCut 1 = .ok (.ifCond .lt 25, 3) := by decide +kernel
theorem dX0_isCut_4 : decode cX0_isCut 4 = .ok (.iload_n 1, 1) := by decide +kernel
theorem dX0_isCut_5 : decode cX0_isCut 5 = .ok (.aload_n 0, 1) := by decide +kernel
theorem dX0_isCut_6 : decode cX0_isCut 6 = .ok (.getfield 21, 3) := by decide +kernel
theorem dX0_isCut_9 : decode cX0_isCut 9 = .ok (.arraylength, 1) := by decide +kernel
theorem dX0_isCut_10 : decode cX0_isCut 10 = .ok (.if_icmp .ge 16, 3) := by decide +kernel
theorem dX0_isCut_13 : decode cX0_isCut 13 = .ok (.aload_n 0, 1) := by decide +kernel
theorem dX0_isCut_14 : decode cX0_isCut 14 = .ok (.getfield 21, 3) := by decide +kernel
theorem dX0_isCut_17 : decode cX0_isCut 17 = .ok (.iload_n 1, 1) := by decide +kernel
theorem dX0_isCut_18 : decode cX0_isCut 18 = .ok (.baload, 1) := by decide +kernel
theorem dX0_isCut_19 : decode cX0_isCut 19 = .ok (.ifCond .eq 7, 3) := by decide +kernel
theorem dX0_isCut_22 : decode cX0_isCut 22 = .ok (.iconst 1, 1) := by decide +kernel
theorem dX0_isCut_23 : decode cX0_isCut 23 = .ok (.goto 4, 3) := by decide +kernel
theorem dX0_isCut_26 : decode cX0_isCut 26 = .ok (.iconst 0, 1) := by decide +kernel
theorem dX0_isCut_27 : decode cX0_isCut 27 = .ok (.ireturn, 1) := by decide +kernel
theorem dX0_markCut_0 : decode cX0_markCut 0 = .ok (.iload_n 1, 1) := by decide +kernel
theorem dX0_markCut_1 : decode cX0_markCut 1 = .ok (.ifCond .lt 34, 3) := by decide +kernel
theorem dX0_markCut_4 : decode cX0_markCut 4 = .ok (.iload_n 1, 1) := by decide +kernel
theorem dX0_markCut_5 : decode cX0_markCut 5 = .ok (.aload_n 0, 1) := by decide +kernel
theorem dX0_markCut_6 : decode cX0_markCut 6 = .ok (.getfield 21, 3) := by decide +kernel
theorem dX0_markCut_9 : decode cX0_markCut 9 = .ok (.arraylength, 1) := by decide +kernel
theorem dX0_markCut_10 : decode cX0_markCut 10 = .ok (.if_icmp .ge 25, 3) := by decide +kernel
theorem dX0_markCut_13 : decode cX0_markCut 13 = .ok (.aload_n 0, 1) := by decide +kernel
theorem dX0_markCut_14 : decode cX0_markCut 14 = .ok (.getfield 21, 3) := by decide +kernel
theorem dX0_markCut_17 : decode cX0_markCut 17 = .ok (.iload_n 1, 1) := by decide +kernel
theorem dX0_markCut_18 : decode cX0_markCut 18 = .ok (.iconst 1, 1) := by decide +kernel
theorem dX0_markCut_19 : decode cX0_markCut 19 = .ok (.bastore, 1) := by decide +kernel
theorem dX0_markCut_20 : decode cX0_markCut 20 = .ok (.aload_n 0, 1) := by decide +kernel
theorem dX0_markCut_21 : decode cX0_markCut 21 = .ok (.aload_n 0, 1) := by decide +kernel
theorem dX0_markCut_22 : decode cX0_markCut 22 = .ok (.getfield 29, 3) := by decide +kernel
theorem dX0_markCut_25 : decode cX0_markCut 25 = .ok (.iload_n 2, 1) := by decide +kernel
theorem dX0_markCut_26 : decode cX0_markCut 26 = .ok (.invokestatic 32, 3) := by decide +kernel
theorem dX0_markCut_29 : decode cX0_markCut 29 = .ok (.invokestatic 38, 3) := by decide +kernel
theorem dX0_markCut_32 : decode cX0_markCut 32 = .ok (.putfield 29, 3) := by decide +kernel
theorem dX0_markCut_35 : decode cX0_markCut 35 = .ok (.return_, 1) := by decide +kernel
theorem dX1_init_0 : decode cX1_init 0 = .ok (.aload_n 0, 1) := by decide +kernel
theorem dX1_init_1 : decode cX1_init 1 = .ok (.invokespecial 3, 3) := by decide +kernel
theorem dX1_init_4 : decode cX1_init 4 = .ok (.aload_n 0, 1) := by decide +kernel
theorem dX1_init_5 : decode cX1_init 5 = .ok (.bipush 6, 2) := by decide +kernel
theorem dX1_init_7 : decode cX1_init 7 = .ok (.newarray .int, 2) := by decide +kernel
theorem dX1_init_9 : decode cX1_init 9 = .ok (.putfield 9, 3) := by decide +kernel
theorem dX1_init_12 : decode cX1_init 12 = .ok (.aload_n 0, 1) := by decide +kernel
theorem dX1_init_13 : decode cX1_init 13 = .ok (.bipush 6, 2) := by decide +kernel
theorem dX1_init_15 : decode cX1_init 15 = .ok (.newarray .int, 2) := by decide +kernel
theorem dX1_init_17 : decode cX1_init 17 = .ok (.putfield 15, 3) := by decide +kernel
theorem dX1_init_20 : decode cX1_init 20 = .ok (.aload_n 0, 1) := by decide +kernel
theorem dX1_init_21 : decode cX1_init 21 = .ok (.bipush 6, 2) := by decide +kernel
theorem dX1_init_23 : decode cX1_init 23 = .ok (.newarray .int, 2) := by decide +kernel
theorem dX1_init_25 : decode cX1_init 25 = .ok (.putfield 18, 3) := by decide +kernel
theorem dX1_init_28 : decode cX1_init 28 = .ok (.aload_n 0, 1) := by decide +kernel
theorem dX1_init_29 : decode cX1_init 29 = .ok (.bipush 6, 2) := by decide +kernel
theorem dX1_init_31 : decode cX1_init 31 = .ok (.newarray .int, 2) := by decide +kernel
theorem dX1_init_33 : decode cX1_init 33 = .ok (.putfield 21, 3) := by decide +kernel
theorem dX1_init_36 : decode cX1_init 36 = .ok (.return_, 1) := by decide +kernel
theorem dX1_add_0 : decode cX1_add 0 = .ok (.aload_n 0, 1) := by decide +kernel
theorem dX1_add_1 : decode cX1_add 1 = .ok (.getfield 24, 3) := by decide +kernel
theorem dX1_add_4 : decode cX1_add 4 = .ok (.ifCond .lt 63, 3) := by decide +kernel
theorem dX1_add_7 : decode cX1_add 7 = .ok (.aload_n 0, 1) := by decide +kernel
theorem dX1_add_8 : decode cX1_add 8 = .ok (.getfield 24, 3) := by decide +kernel
theorem dX1_add_11 : decode cX1_add 11 = .ok (.bipush 6, 2) := by decide +kernel
theorem dX1_add_13 : decode cX1_add 13 = .ok (.if_icmp .ge 54, 3) := by decide +kernel
theorem dX1_add_16 : decode cX1_add 16 = .ok (.aload_n 0, 1) := by decide +kernel
theorem dX1_add_17 : decode cX1_add 17 = .ok (.getfield 9, 3) := by decide +kernel
theorem dX1_add_20 : decode cX1_add 20 = .ok (.aload_n 0, 1) := by decide +kernel
theorem dX1_add_21 : decode cX1_add 21 = .ok (.getfield 24, 3) := by decide +kernel
theorem dX1_add_24 : decode cX1_add 24 = .ok (.iload_n 1, 1) := by decide +kernel
theorem dX1_add_25 : decode cX1_add 25 = .ok (.iastore, 1) := by decide +kernel
theorem dX1_add_26 : decode cX1_add 26 = .ok (.aload_n 0, 1) := by decide +kernel
theorem dX1_add_27 : decode cX1_add 27 = .ok (.getfield 15, 3) := by decide +kernel
theorem dX1_add_30 : decode cX1_add 30 = .ok (.aload_n 0, 1) := by decide +kernel
theorem dX1_add_31 : decode cX1_add 31 = .ok (.getfield 24, 3) := by decide +kernel
theorem dX1_add_34 : decode cX1_add 34 = .ok (.iload_n 2, 1) := by decide +kernel
theorem dX1_add_35 : decode cX1_add 35 = .ok (.iastore, 1) := by decide +kernel
theorem dX1_add_36 : decode cX1_add 36 = .ok (.aload_n 0, 1) := by decide +kernel
theorem dX1_add_37 : decode cX1_add 37 = .ok (.getfield 18, 3) := by decide +kernel
theorem dX1_add_40 : decode cX1_add 40 = .ok (.aload_n 0, 1) := by decide +kernel
theorem dX1_add_41 : decode cX1_add 41 = .ok (.getfield 24, 3) := by decide +kernel
theorem dX1_add_44 : decode cX1_add 44 = .ok (.iload_n 3, 1) := by decide +kernel
theorem dX1_add_45 : decode cX1_add 45 = .ok (.iastore, 1) := by decide +kernel
theorem dX1_add_46 : decode cX1_add 46 = .ok (.aload_n 0, 1) := by decide +kernel
theorem dX1_add_47 : decode cX1_add 47 = .ok (.getfield 21, 3) := by decide +kernel
theorem dX1_add_50 : decode cX1_add 50 = .ok (.aload_n 0, 1) := by decide +kernel
theorem dX1_add_51 : decode cX1_add 51 = .ok (.getfield 24, 3) := by decide +kernel
theorem dX1_add_54 : decode cX1_add 54 = .ok (.iload 4, 2) := by decide +kernel
theorem dX1_add_56 : decode cX1_add 56 = .ok (.iastore, 1) := by decide +kernel
theorem dX1_add_57 : decode cX1_add 57 = .ok (.aload_n 0, 1) := by decide +kernel
theorem dX1_add_58 : decode cX1_add 58 = .ok (.dup, 1) := by decide +kernel
theorem dX1_add_59 : decode cX1_add 59 = .ok (.getfield 24, 3) := by decide +kernel
theorem dX1_add_62 : decode cX1_add 62 = .ok (.iconst 1, 1) := by decide +kernel
theorem dX1_add_63 : decode cX1_add 63 = .ok (.iadd, 1) := by decide +kernel
theorem dX1_add_64 : decode cX1_add 64 = .ok (.putfield 24, 3) := by decide +kernel
theorem dX1_add_67 : decode cX1_add 67 = .ok (.return_, 1) := by decide +kernel
theorem dX1_areAllOf_0 : decode cX1_areAllOf 0 = .ok (.iconst 0, 1) := by decide +kernel
theorem dX1_areAllOf_1 : decode cX1_areAllOf 1 = .ok (.istore 4, 2) := by decide +kernel
theorem dX1_areAllOf_3 : decode cX1_areAllOf 3 = .ok (.iload 4, 2) := by decide +kernel
theorem dX1_areAllOf_5 : decode cX1_areAllOf 5 = .ok (.aload_n 0, 1) := by decide +kernel
theorem dX1_areAllOf_6 : decode cX1_areAllOf 6 = .ok (.getfield 24, 3) := by decide +kernel
theorem dX1_areAllOf_9 : decode cX1_areAllOf 9 = .ok (.if_icmp .ge 85, 3) := by decide +kernel
theorem dX1_areAllOf_12 : decode cX1_areAllOf 12 = .ok (.iload 4, 2) := by decide +kernel
theorem dX1_areAllOf_14 : decode cX1_areAllOf 14 = .ok (.bipush 6, 2) := by decide +kernel
theorem dX1_areAllOf_16 : decode cX1_areAllOf 16 = .ok (.if_icmp .ge 78, 3) := by decide +kernel
theorem dX1_areAllOf_19 : decode cX1_areAllOf 19 = .ok (.aload_n 2, 1) := by decide +kernel
theorem dX1_areAllOf_20 : decode cX1_areAllOf 20 = .ok (.aload_n 1, 1) := by decide +kernel
theorem dX1_areAllOf_21 : decode cX1_areAllOf 21 = .ok (.getfield 28, 3) := by decide +kernel
theorem dX1_areAllOf_24 : decode cX1_areAllOf 24 = .ok (.aload_n 0, 1) := by decide +kernel
theorem dX1_areAllOf_25 : decode cX1_areAllOf 25 = .ok (.getfield 9, 3) := by decide +kernel
theorem dX1_areAllOf_28 : decode cX1_areAllOf 28 = .ok (.iload 4, 2) := by decide +kernel
theorem dX1_areAllOf_30 : decode cX1_areAllOf 30 = .ok (.iaload, 1) := by decide +kernel
theorem dX1_areAllOf_31 : decode cX1_areAllOf 31 = .ok (.invokevirtual 33, 3) := by decide +kernel
theorem dX1_areAllOf_34 : decode cX1_areAllOf 34 = .ok (.aload_n 2, 1) := by decide +kernel
theorem dX1_areAllOf_35 : decode cX1_areAllOf 35 = .ok (.aload_n 0, 1) := by decide +kernel
theorem dX1_areAllOf_36 : decode cX1_areAllOf 36 = .ok (.getfield 15, 3) := by decide +kernel
theorem dX1_areAllOf_39 : decode cX1_areAllOf 39 = .ok (.iload 4, 2) := by decide +kernel
theorem dX1_areAllOf_41 : decode cX1_areAllOf 41 = .ok (.iaload, 1) := by decide +kernel
theorem dX1_areAllOf_42 : decode cX1_areAllOf 42 = .ok (.invokevirtual 39, 3) := by decide +kernel
theorem dX1_areAllOf_45 : decode cX1_areAllOf 45 = .ok (.aload_n 3, 1) := by decide +kernel
theorem dX1_areAllOf_46 : decode cX1_areAllOf 46 = .ok (.aload_n 1, 1) := by decide +kernel
theorem dX1_areAllOf_47 : decode cX1_areAllOf 47 = .ok (.aload_n 2, 1) := by decide +kernel
theorem dX1_areAllOf_48 : decode cX1_areAllOf 48 = .ok (.invokevirtual 43, 3) := by decide +kernel
theorem dX1_areAllOf_51 : decode cX1_areAllOf 51 = .ok (.aload_n 3, 1) := by decide +kernel
theorem dX1_areAllOf_52 : decode cX1_areAllOf 52 = .ok (.getfield 49, 3) := by decide +kernel
theorem dX1_areAllOf_55 : decode cX1_areAllOf 55 = .ok (.ifCond .eq 31, 3) := by decide +kernel
theorem dX1_areAllOf_58 : decode cX1_areAllOf 58 = .ok (.aload_n 3, 1) := by decide +kernel
theorem dX1_areAllOf_59 : decode cX1_areAllOf 59 = .ok (.getfield 53, 3) := by decide +kernel
theorem dX1_areAllOf_62 : decode cX1_areAllOf 62 = .ok (.aload_n 0, 1) := by decide +kernel
theorem dX1_areAllOf_63 : decode cX1_areAllOf 63 = .ok (.getfield 18, 3) := by decide +kernel
theorem dX1_areAllOf_66 : decode cX1_areAllOf 66 = .ok (.iload 4, 2) := by decide +kernel
theorem dX1_areAllOf_68 : decode cX1_areAllOf 68 = .ok (.iaload, 1) := by decide +kernel
theorem dX1_areAllOf_69 : decode cX1_areAllOf 69 = .ok (.if_icmp .ne 17, 3) := by decide +kernel
theorem dX1_areAllOf_72 : decode cX1_areAllOf 72 = .ok (.aload_n 3, 1) := by decide +kernel
theorem dX1_areAllOf_73 : decode cX1_areAllOf 73 = .ok (.getfield 56, 3) := by decide +kernel
theorem dX1_areAllOf_76 : decode cX1_areAllOf 76 = .ok (.aload_n 0, 1) := by decide +kernel
theorem dX1_areAllOf_77 : decode cX1_areAllOf 77 = .ok (.getfield 21, 3) := by decide +kernel
theorem dX1_areAllOf_80 : decode cX1_areAllOf 80 = .ok (.iload 4, 2) := by decide +kernel
theorem dX1_areAllOf_82 : decode cX1_areAllOf 82 = .ok (.iaload, 1) := by decide +kernel
theorem dX1_areAllOf_83 : decode cX1_areAllOf 83 = .ok (.if_icmp .eq 5, 3) := by decide +kernel
theorem dX1_areAllOf_86 : decode cX1_areAllOf 86 = .ok (.iconst 0, 1) := by decide +kernel
theorem dX1_areAllOf_87 : decode cX1_areAllOf 87 = .ok (.ireturn, 1) := by decide +kernel
theorem dX1_areAllOf_88 : decode cX1_areAllOf 88 = .ok (.iinc 4 1, 3) := by decide +kernel
theorem dX1_areAllOf_91 : decode cX1_areAllOf 91 = .ok (.goto (-88), 3) := by decide +kernel
theorem dX1_areAllOf_94 : decode cX1_areAllOf 94 = .ok (.iconst 1, 1) := by decide +kernel
theorem dX1_areAllOf_95 : decode cX1_areAllOf 95 = .ok (.ireturn, 1) := by decide +kernel
theorem dX2_init_0 : decode cX2_init 0 = .ok (.aload_n 0, 1) := by decide +kernel
theorem dX2_init_1 : decode cX2_init 1 = .ok (.invokespecial 1, 3) := by decide +kernel
theorem dX2_init_4 : decode cX2_init 4 = .ok (.aload_n 0, 1) := by decide +kernel
theorem dX2_init_5 : decode cX2_init 5 = .ok (.iload_n 1, 1) := by decide +kernel
theorem dX2_init_6 : decode cX2_init 6 = .ok (.putfield 7, 3) := by decide +kernel
theorem dX2_init_9 : decode cX2_init 9 = .ok (.aload_n 0, 1) := by decide +kernel
theorem dX2_init_10 : decode cX2_init 10 = .ok (.iload_n 2, 1) := by decide +kernel
theorem dX2_init_11 : decode cX2_init 11 = .ok (.putfield 13, 3) := by decide +kernel
theorem dX2_init_14 : decode cX2_init 14 = .ok (.return_, 1) := by decide +kernel
theorem dX3_init_0 : decode cX3_init 0 = .ok (.aload_n 0, 1) := by decide +kernel
theorem dX3_init_1 : decode cX3_init 1 = .ok (.invokespecial 1, 3) := by decide +kernel
theorem dX3_init_4 : decode cX3_init 4 = .ok (.return_, 1) := by decide +kernel
theorem dX3_set_0 : decode cX3_set 0 = .ok (.aload_n 0, 1) := by decide +kernel
theorem dX3_set_1 : decode cX3_set 1 = .ok (.iload_n 1, 1) := by decide +kernel
theorem dX3_set_2 : decode cX3_set 2 = .ok (.putfield 7, 3) := by decide +kernel
theorem dX3_set_5 : decode cX3_set 5 = .ok (.aload_n 0, 1) := by decide +kernel
theorem dX3_set_6 : decode cX3_set 6 = .ok (.iload 4, 2) := by decide +kernel
theorem dX3_set_8 : decode cX3_set 8 = .ok (.putfield 13, 3) := by decide +kernel
theorem dX3_set_11 : decode cX3_set 11 = .ok (.aload_n 0, 1) := by decide +kernel
theorem dX3_set_12 : decode cX3_set 12 = .ok (.iload_n 2, 1) := by decide +kernel
theorem dX3_set_13 : decode cX3_set 13 = .ok (.invokestatic 16, 3) := by decide +kernel
theorem dX3_set_16 : decode cX3_set 16 = .ok (.i2l, 1) := by decide +kernel
theorem dX3_set_17 : decode cX3_set 17 = .ok (.putfield 22, 3) := by decide +kernel
theorem dX3_set_20 : decode cX3_set 20 = .ok (.aload_n 0, 1) := by decide +kernel
theorem dX3_set_21 : decode cX3_set 21 = .ok (.iload_n 2, 1) := by decide +kernel
theorem dX3_set_22 : decode cX3_set 22 = .ok (.invokestatic 26, 3) := by decide +kernel
theorem dX3_set_25 : decode cX3_set 25 = .ok (.i2l, 1) := by decide +kernel
theorem dX3_set_26 : decode cX3_set 26 = .ok (.putfield 29, 3) := by decide +kernel
theorem dX3_set_29 : decode cX3_set 29 = .ok (.aload_n 0, 1) := by decide +kernel
theorem dX3_set_30 : decode cX3_set 30 = .ok (.iload_n 3, 1) := by decide +kernel
theorem dX3_set_31 : decode cX3_set 31 = .ok (.invokestatic 16, 3) := by decide +kernel
theorem dX3_set_34 : decode cX3_set 34 = .ok (.i2l, 1) := by decide +kernel
theorem dX3_set_35 : decode cX3_set 35 = .ok (.putfield 32, 3) := by decide +kernel
theorem dX3_set_38 : decode cX3_set 38 = .ok (.aload_n 0, 1) := by decide +kernel
theorem dX3_set_39 : decode cX3_set 39 = .ok (.iload_n 3, 1) := by decide +kernel
theorem dX3_set_40 : decode cX3_set 40 = .ok (.invokestatic 26, 3) := by decide +kernel
theorem dX3_set_43 : decode cX3_set 43 = .ok (.i2l, 1) := by decide +kernel
theorem dX3_set_44 : decode cX3_set 44 = .ok (.putfield 35, 3) := by decide +kernel
theorem dX3_set_47 : decode cX3_set 47 = .ok (.return_, 1) := by decide +kernel
theorem dX4_init_0 : decode cX4_init 0 = .ok (.aload_n 0, 1) := by decide +kernel
theorem dX4_init_1 : decode cX4_init 1 = .ok (.invokespecial 1, 3) := by decide +kernel
theorem dX4_init_4 : decode cX4_init 4 = .ok (.return_, 1) := by decide +kernel
theorem dX4_fall_0 : decode cX4_fall 0 = .ok (.aload_n 0, 1) := by decide +kernel
theorem dX4_fall_1 : decode cX4_fall 1 = .ok (.iconst 0, 1) := by decide +kernel
theorem dX4_fall_2 : decode cX4_fall 2 = .ok (.putfield 7, 3) := by decide +kernel
theorem dX4_fall_5 : decode cX4_fall 5 = .ok (.aload_n 2, 1) := by decide +kernel
theorem dX4_fall_6 : decode cX4_fall 6 = .ok (.invokevirtual 13, 3) := by decide +kernel
theorem dX4_fall_9 : decode cX4_fall 9 = .ok (.ifCond .ne 4, 3) := by decide +kernel
theorem dX4_fall_12 : decode cX4_fall 12 = .ok (.return_, 1) := by decide +kernel
theorem dX4_fall_13 : decode cX4_fall 13 = .ok (.aload_n 2, 1) := by decide +kernel
theorem dX4_fall_14 : decode cX4_fall 14 = .ok (.getfield 19, 3) := by decide +kernel
theorem dX4_fall_17 : decode cX4_fall 17 = .ok (.aload_n 1, 1) := by decide +kernel
theorem dX4_fall_18 : decode cX4_fall 18 = .ok (.getfield 23, 3) := by decide +kernel
theorem dX4_fall_21 : decode cX4_fall 21 = .ok (.lmul, 1) := by decide +kernel
theorem dX4_fall_22 : decode cX4_fall 22 = .ok (.aload_n 2, 1) := by decide +kernel
theorem dX4_fall_23 : decode cX4_fall 23 = .ok (.getfield 28, 3) := by decide +kernel
theorem dX4_fall_26 : decode cX4_fall 26 = .ok (.aload_n 1, 1) := by decide +kernel
theorem dX4_fall_27 : decode cX4_fall 27 = .ok (.getfield 31, 3) := by decide +kernel
theorem dX4_fall_30 : decode cX4_fall 30 = .ok (.lmul, 1) := by decide +kernel
theorem dX4_fall_31 : decode cX4_fall 31 = .ok (.ladd, 1) := by decide +kernel
theorem dX4_fall_32 : decode cX4_fall 32 = .ok (.lstore_n 3, 1) := by decide +kernel
theorem dX4_fall_33 : decode cX4_fall 33 = .ok (.aload_n 2, 1) := by decide +kernel
theorem dX4_fall_34 : decode cX4_fall 34 = .ok (.getfield 34, 3) := by decide +kernel
theorem dX4_fall_37 : decode cX4_fall 37 = .ok (.aload_n 1, 1) := by decide +kernel
theorem dX4_fall_38 : decode cX4_fall 38 = .ok (.getfield 37, 3) := by decide +kernel
theorem dX4_fall_41 : decode cX4_fall 41 = .ok (.lmul, 1) := by decide +kernel
theorem dX4_fall_42 : decode cX4_fall 42 = .ok (.ldc2_w 40, 3) := by decide +kernel
theorem dX4_fall_45 : decode cX4_fall 45 = .ok (.lmul, 1) := by decide +kernel
theorem dX4_fall_46 : decode cX4_fall 46 = .ok (.lload_n 3, 1) := by decide +kernel
theorem dX4_fall_47 : decode cX4_fall 47 = .ok (.aload_n 1, 1) := by decide +kernel
theorem dX4_fall_48 : decode cX4_fall 48 = .ok (.getfield 42, 3) := by decide +kernel
theorem dX4_fall_51 : decode cX4_fall 51 = .ok (.lmul, 1) := by decide +kernel
theorem dX4_fall_52 : decode cX4_fall 52 = .ok (.ladd, 1) := by decide +kernel
theorem dX4_fall_53 : decode cX4_fall 53 = .ok (.lstore 5, 2) := by decide +kernel
theorem dX4_fall_55 : decode cX4_fall 55 = .ok (.lload 5, 2) := by decide +kernel
theorem dX4_fall_57 : decode cX4_fall 57 = .ok (.lconst 0, 1) := by decide +kernel
theorem dX4_fall_58 : decode cX4_fall 58 = .ok (.lcmp, 1) := by decide +kernel
theorem dX4_fall_59 : decode cX4_fall 59 = .ok (.ifCond .gt 4, 3) := by decide +kernel
theorem dX4_fall_62 : decode cX4_fall 62 = .ok (.return_, 1) := by decide +kernel
theorem dX4_fall_63 : decode cX4_fall 63 = .ok (.ldc2_w 40, 3) := by decide +kernel
theorem dX4_fall_66 : decode cX4_fall 66 = .ok (.aload_n 2, 1) := by decide +kernel
theorem dX4_fall_67 : decode cX4_fall 67 = .ok (.getfield 28, 3) := by decide +kernel
theorem dX4_fall_70 : decode cX4_fall 70 = .ok (.aload_n 1, 1) := by decide +kernel
theorem dX4_fall_71 : decode cX4_fall 71 = .ok (.getfield 23, 3) := by decide +kernel
theorem dX4_fall_74 : decode cX4_fall 74 = .ok (.lmul, 1) := by decide +kernel
theorem dX4_fall_75 : decode cX4_fall 75 = .ok (.aload_n 2, 1) := by decide +kernel
theorem dX4_fall_76 : decode cX4_fall 76 = .ok (.getfield 19, 3) := by decide +kernel
theorem dX4_fall_79 : decode cX4_fall 79 = .ok (.aload_n 1, 1) := by decide +kernel
theorem dX4_fall_80 : decode cX4_fall 80 = .ok (.getfield 31, 3) := by decide +kernel
theorem dX4_fall_83 : decode cX4_fall 83 = .ok (.lmul, 1) := by decide +kernel
theorem dX4_fall_84 : decode cX4_fall 84 = .ok (.lsub, 1) := by decide +kernel
theorem dX4_fall_85 : decode cX4_fall 85 = .ok (.lmul, 1) := by decide +kernel
theorem dX4_fall_86 : decode cX4_fall 86 = .ok (.lstore 7, 2) := by decide +kernel
theorem dX4_fall_88 : decode cX4_fall 88 = .ok (.aload_n 2, 1) := by decide +kernel
theorem dX4_fall_89 : decode cX4_fall 89 = .ok (.getfield 34, 3) := by decide +kernel
theorem dX4_fall_92 : decode cX4_fall 92 = .ok (.aload_n 1, 1) := by decide +kernel
theorem dX4_fall_93 : decode cX4_fall 93 = .ok (.getfield 42, 3) := by decide +kernel
theorem dX4_fall_96 : decode cX4_fall 96 = .ok (.lmul, 1) := by decide +kernel
theorem dX4_fall_97 : decode cX4_fall 97 = .ok (.ldc2_w 40, 3) := by decide +kernel
theorem dX4_fall_100 : decode cX4_fall 100 = .ok (.lmul, 1) := by decide +kernel
theorem dX4_fall_101 : decode cX4_fall 101 = .ok (.lload_n 3, 1) := by decide +kernel
theorem dX4_fall_102 : decode cX4_fall 102 = .ok (.aload_n 1, 1) := by decide +kernel
theorem dX4_fall_103 : decode cX4_fall 103 = .ok (.getfield 37, 3) := by decide +kernel
theorem dX4_fall_106 : decode cX4_fall 106 = .ok (.lmul, 1) := by decide +kernel
theorem dX4_fall_107 : decode cX4_fall 107 = .ok (.lsub, 1) := by decide +kernel
theorem dX4_fall_108 : decode cX4_fall 108 = .ok (.lstore 9, 2) := by decide +kernel
theorem dX4_fall_110 : decode cX4_fall 110 = .ok (.aload_n 1, 1) := by decide +kernel
theorem dX4_fall_111 : decode cX4_fall 111 = .ok (.getfield 45, 3) := by decide +kernel
theorem dX4_fall_114 : decode cX4_fall 114 = .ok (.ineg, 1) := by decide +kernel
theorem dX4_fall_115 : decode cX4_fall 115 = .ok (.i2l, 1) := by decide +kernel
theorem dX4_fall_116 : decode cX4_fall 116 = .ok (.lload 7, 2) := by decide +kernel
theorem dX4_fall_118 : decode cX4_fall 118 = .ok (.lmul, 1) := by decide +kernel
theorem dX4_fall_119 : decode cX4_fall 119 = .ok (.lload 5, 2) := by decide +kernel
theorem dX4_fall_121 : decode cX4_fall 121 = .ok (.invokestatic 49, 3) := by decide +kernel
theorem dX4_fall_124 : decode cX4_fall 124 = .ok (.lstore 11, 2) := by decide +kernel
theorem dX4_fall_126 : decode cX4_fall 126 = .ok (.aload_n 1, 1) := by decide +kernel
theorem dX4_fall_127 : decode cX4_fall 127 = .ok (.getfield 45, 3) := by decide +kernel
theorem dX4_fall_130 : decode cX4_fall 130 = .ok (.ineg, 1) := by decide +kernel
theorem dX4_fall_131 : decode cX4_fall 131 = .ok (.i2l, 1) := by decide +kernel
theorem dX4_fall_132 : decode cX4_fall 132 = .ok (.lload 9, 2) := by decide +kernel
theorem dX4_fall_134 : decode cX4_fall 134 = .ok (.lmul, 1) := by decide +kernel
theorem dX4_fall_135 : decode cX4_fall 135 = .ok (.lload 5, 2) := by decide +kernel
theorem dX4_fall_137 : decode cX4_fall 137 = .ok (.invokestatic 49, 3) := by decide +kernel
theorem dX4_fall_140 : decode cX4_fall 140 = .ok (.lstore 13, 2) := by decide +kernel
theorem dX4_fall_142 : decode cX4_fall 142 = .ok (.lload 11, 2) := by decide +kernel
theorem dX4_fall_144 : decode cX4_fall 144 = .ok (.invokestatic 55, 3) := by decide +kernel
theorem dX4_fall_147 : decode cX4_fall 147 = .ok (.ifCond .eq 30, 3) := by decide +kernel
theorem dX4_fall_150 : decode cX4_fall 150 = .ok (.lload 13, 2) := by decide +kernel
theorem dX4_fall_152 : decode cX4_fall 152 = .ok (.invokestatic 55, 3) := by decide +kernel
theorem dX4_fall_155 : decode cX4_fall 155 = .ok (.ifCond .eq 22, 3) := by decide +kernel
theorem dX4_fall_158 : decode cX4_fall 158 = .ok (.aload_n 0, 1) := by decide +kernel
theorem dX4_fall_159 : decode cX4_fall 159 = .ok (.lload 11, 2) := by decide +kernel
theorem dX4_fall_161 : decode cX4_fall 161 = .ok (.l2i, 1) := by decide +kernel
theorem dX4_fall_162 : decode cX4_fall 162 = .ok (.putfield 61, 3) := by decide +kernel
theorem dX4_fall_165 : decode cX4_fall 165 = .ok (.aload_n 0, 1) := by decide +kernel
theorem dX4_fall_166 : decode cX4_fall 166 = .ok (.lload 13, 2) := by decide +kernel
theorem dX4_fall_168 : decode cX4_fall 168 = .ok (.l2i, 1) := by decide +kernel
theorem dX4_fall_169 : decode cX4_fall 169 = .ok (.putfield 64, 3) := by decide +kernel
theorem dX4_fall_172 : decode cX4_fall 172 = .ok (.aload_n 0, 1) := by decide +kernel
theorem dX4_fall_173 : decode cX4_fall 173 = .ok (.iconst 1, 1) := by decide +kernel
theorem dX4_fall_174 : decode cX4_fall 174 = .ok (.putfield 7, 3) := by decide +kernel
theorem dX4_fall_177 : decode cX4_fall 177 = .ok (.return_, 1) := by decide +kernel
theorem dX5_init_0 : decode cX5_init 0 = .ok (.aload_n 0, 1) := by decide +kernel
theorem dX5_init_1 : decode cX5_init 1 = .ok (.invokespecial 3, 3) := by decide +kernel
theorem dX5_init_4 : decode cX5_init 4 = .ok (.return_, 1) := by decide +kernel
theorem dX5_startDay_0 : decode cX5_startDay 0 = .ok (.iload_n 2, 1) := by decide +kernel
theorem dX5_startDay_1 : decode cX5_startDay 1 = .ok (.invokestatic 9, 3) := by decide +kernel
theorem dX5_startDay_4 : decode cX5_startDay 4 = .ok (.istore_n 3, 1) := by decide +kernel
theorem dX5_startDay_5 : decode cX5_startDay 5 = .ok (.aload_n 0, 1) := by decide +kernel
theorem dX5_startDay_6 : decode cX5_startDay 6 = .ok (.iload_n 1, 1) := by decide +kernel
theorem dX5_startDay_7 : decode cX5_startDay 7 = .ok (.invokestatic 13, 3) := by decide +kernel
theorem dX5_startDay_10 : decode cX5_startDay 10 = .ok (.i2l, 1) := by decide +kernel
theorem dX5_startDay_11 : decode cX5_startDay 11 = .ok (.putfield 16, 3) := by decide +kernel
theorem dX5_startDay_14 : decode cX5_startDay 14 = .ok (.aload_n 0, 1) := by decide +kernel
theorem dX5_startDay_15 : decode cX5_startDay 15 = .ok (.iload_n 1, 1) := by decide +kernel
theorem dX5_startDay_16 : decode cX5_startDay 16 = .ok (.invokestatic 22, 3) := by decide +kernel
theorem dX5_startDay_19 : decode cX5_startDay 19 = .ok (.i2l, 1) := by decide +kernel
theorem dX5_startDay_20 : decode cX5_startDay 20 = .ok (.putfield 25, 3) := by decide +kernel
theorem dX5_startDay_23 : decode cX5_startDay 23 = .ok (.aload_n 0, 1) := by decide +kernel
theorem dX5_startDay_24 : decode cX5_startDay 24 = .ok (.iload_n 3, 1) := by decide +kernel
theorem dX5_startDay_25 : decode cX5_startDay 25 = .ok (.invokestatic 13, 3) := by decide +kernel
theorem dX5_startDay_28 : decode cX5_startDay 28 = .ok (.i2l, 1) := by decide +kernel
theorem dX5_startDay_29 : decode cX5_startDay 29 = .ok (.putfield 28, 3) := by decide +kernel
theorem dX5_startDay_32 : decode cX5_startDay 32 = .ok (.aload_n 0, 1) := by decide +kernel
theorem dX5_startDay_33 : decode cX5_startDay 33 = .ok (.iload_n 3, 1) := by decide +kernel
theorem dX5_startDay_34 : decode cX5_startDay 34 = .ok (.invokestatic 22, 3) := by decide +kernel
theorem dX5_startDay_37 : decode cX5_startDay 37 = .ok (.i2l, 1) := by decide +kernel
theorem dX5_startDay_38 : decode cX5_startDay 38 = .ok (.putfield 31, 3) := by decide +kernel
theorem dX5_startDay_41 : decode cX5_startDay 41 = .ok (.return_, 1) := by decide +kernel
theorem dX5_moveTo_0 : decode cX5_moveTo 0 = .ok (.iload_n 1, 1) := by decide +kernel
theorem dX5_moveTo_1 : decode cX5_moveTo 1 = .ok (.sipush 180, 3) := by decide +kernel
theorem dX5_moveTo_4 : decode cX5_moveTo 4 = .ok (.isub, 1) := by decide +kernel
theorem dX5_moveTo_5 : decode cX5_moveTo 5 = .ok (.istore_n 2, 1) := by decide +kernel
theorem dX5_moveTo_6 : decode cX5_moveTo 6 = .ok (.aload_n 0, 1) := by decide +kernel
theorem dX5_moveTo_7 : decode cX5_moveTo 7 = .ok (.getfield 31, 3) := by decide +kernel
theorem dX5_moveTo_10 : decode cX5_moveTo 10 = .ok (.iload_n 2, 1) := by decide +kernel
theorem dX5_moveTo_11 : decode cX5_moveTo 11 = .ok (.invokestatic 22, 3) := by decide +kernel
theorem dX5_moveTo_14 : decode cX5_moveTo 14 = .ok (.i2l, 1) := by decide +kernel
theorem dX5_moveTo_15 : decode cX5_moveTo 15 = .ok (.lmul, 1) := by decide +kernel
theorem dX5_moveTo_16 : decode cX5_moveTo 16 = .ok (.lstore_n 3, 1) := by decide +kernel
theorem dX5_moveTo_17 : decode cX5_moveTo 17 = .ok (.aload_n 0, 1) := by decide +kernel
theorem dX5_moveTo_18 : decode cX5_moveTo 18 = .ok (.aload_n 0, 1) := by decide +kernel
theorem dX5_moveTo_19 : decode cX5_moveTo 19 = .ok (.getfield 16, 3) := by decide +kernel
theorem dX5_moveTo_22 : decode cX5_moveTo 22 = .ok (.aload_n 0, 1) := by decide +kernel
theorem dX5_moveTo_23 : decode cX5_moveTo 23 = .ok (.getfield 28, 3) := by decide +kernel
theorem dX5_moveTo_26 : decode cX5_moveTo 26 = .ok (.lmul, 1) := by decide +kernel
theorem dX5_moveTo_27 : decode cX5_moveTo 27 = .ok (.ldc2_w 34, 3) := by decide +kernel
theorem dX5_moveTo_30 : decode cX5_moveTo 30 = .ok (.lmul, 1) := by decide +kernel
theorem dX5_moveTo_31 : decode cX5_moveTo 31 = .ok (.aload_n 0, 1) := by decide +kernel
theorem dX5_moveTo_32 : decode cX5_moveTo 32 = .ok (.getfield 25, 3) := by decide +kernel
theorem dX5_moveTo_35 : decode cX5_moveTo 35 = .ok (.lload_n 3, 1) := by decide +kernel
theorem dX5_moveTo_36 : decode cX5_moveTo 36 = .ok (.lmul, 1) := by decide +kernel
theorem dX5_moveTo_37 : decode cX5_moveTo 37 = .ok (.ladd, 1) := by decide +kernel
theorem dX5_moveTo_38 : decode cX5_moveTo 38 = .ok (.putfield 36, 3) := by decide +kernel
theorem dX5_moveTo_41 : decode cX5_moveTo 41 = .ok (.aload_n 0, 1) := by decide +kernel
theorem dX5_moveTo_42 : decode cX5_moveTo 42 = .ok (.aload_n 0, 1) := by decide +kernel
theorem dX5_moveTo_43 : decode cX5_moveTo 43 = .ok (.getfield 16, 3) := by decide +kernel
theorem dX5_moveTo_46 : decode cX5_moveTo 46 = .ok (.lload_n 3, 1) := by decide +kernel
theorem dX5_moveTo_47 : decode cX5_moveTo 47 = .ok (.lmul, 1) := by decide +kernel
theorem dX5_moveTo_48 : decode cX5_moveTo 48 = .ok (.aload_n 0, 1) := by decide +kernel
theorem dX5_moveTo_49 : decode cX5_moveTo 49 = .ok (.getfield 25, 3) := by decide +kernel
theorem dX5_moveTo_52 : decode cX5_moveTo 52 = .ok (.aload_n 0, 1) := by decide +kernel
theorem dX5_moveTo_53 : decode cX5_moveTo 53 = .ok (.getfield 28, 3) := by decide +kernel
theorem dX5_moveTo_56 : decode cX5_moveTo 56 = .ok (.lmul, 1) := by decide +kernel
theorem dX5_moveTo_57 : decode cX5_moveTo 57 = .ok (.ldc2_w 34, 3) := by decide +kernel
theorem dX5_moveTo_60 : decode cX5_moveTo 60 = .ok (.lmul, 1) := by decide +kernel
theorem dX5_moveTo_61 : decode cX5_moveTo 61 = .ok (.lsub, 1) := by decide +kernel
theorem dX5_moveTo_62 : decode cX5_moveTo 62 = .ok (.putfield 39, 3) := by decide +kernel
theorem dX5_moveTo_65 : decode cX5_moveTo 65 = .ok (.aload_n 0, 1) := by decide +kernel
theorem dX5_moveTo_66 : decode cX5_moveTo 66 = .ok (.aload_n 0, 1) := by decide +kernel
theorem dX5_moveTo_67 : decode cX5_moveTo 67 = .ok (.getfield 31, 3) := by decide +kernel
theorem dX5_moveTo_70 : decode cX5_moveTo 70 = .ok (.iload_n 2, 1) := by decide +kernel
theorem dX5_moveTo_71 : decode cX5_moveTo 71 = .ok (.invokestatic 13, 3) := by decide +kernel
theorem dX5_moveTo_74 : decode cX5_moveTo 74 = .ok (.i2l, 1) := by decide +kernel
theorem dX5_moveTo_75 : decode cX5_moveTo 75 = .ok (.lmul, 1) := by decide +kernel
theorem dX5_moveTo_76 : decode cX5_moveTo 76 = .ok (.ldc2_w 34, 3) := by decide +kernel
theorem dX5_moveTo_79 : decode cX5_moveTo 79 = .ok (.lmul, 1) := by decide +kernel
theorem dX5_moveTo_80 : decode cX5_moveTo 80 = .ok (.putfield 42, 3) := by decide +kernel
theorem dX5_moveTo_83 : decode cX5_moveTo 83 = .ok (.return_, 1) := by decide +kernel
theorem dX5_shines_0 : decode cX5_shines 0 = .ok (.aload_n 0, 1) := by decide +kernel
theorem dX5_shines_1 : decode cX5_shines 1 = .ok (.getfield 36, 3) := by decide +kernel
theorem dX5_shines_4 : decode cX5_shines 4 = .ok (.lconst 0, 1) := by decide +kernel
theorem dX5_shines_5 : decode cX5_shines 5 = .ok (.lcmp, 1) := by decide +kernel
theorem dX5_shines_6 : decode cX5_shines 6 = .ok (.ifCond .le 7, 3) := by decide +kernel
theorem dX5_shines_9 : decode cX5_shines 9 = .ok (.iconst 1, 1) := by decide +kernel
theorem dX5_shines_10 : decode cX5_shines 10 = .ok (.goto 4, 3) := by decide +kernel
theorem dX5_shines_13 : decode cX5_shines 13 = .ok (.iconst 0, 1) := by decide +kernel
theorem dX5_shines_14 : decode cX5_shines 14 = .ok (.ireturn, 1) := by decide +kernel
theorem dX5_shinesIn_0 : decode cX5_shinesIn 0 = .ok (.aload_n 0, 1) := by decide +kernel
theorem dX5_shinesIn_1 : decode cX5_shinesIn 1 = .ok (.iload_n 1, 1) := by decide +kernel
theorem dX5_shinesIn_2 : decode cX5_shinesIn 2 = .ok (.invokevirtual 45, 3) := by decide +kernel
theorem dX5_shinesIn_5 : decode cX5_shinesIn 5 = .ok (.aload_n 0, 1) := by decide +kernel
theorem dX5_shinesIn_6 : decode cX5_shinesIn 6 = .ok (.invokevirtual 49, 3) := by decide +kernel
theorem dX5_shinesIn_9 : decode cX5_shinesIn 9 = .ok (.ireturn, 1) := by decide +kernel
theorem dX6_init_0 : decode cX6_init 0 = .ok (.aload_n 0, 1) := by decide +kernel
theorem dX6_init_1 : decode cX6_init 1 = .ok (.invokespecial 3, 3) := by decide +kernel
theorem dX6_init_4 : decode cX6_init 4 = .ok (.aload_n 0, 1) := by decide +kernel
theorem dX6_init_5 : decode cX6_init 5 = .ok (.sipush 360, 3) := by decide +kernel
theorem dX6_init_8 : decode cX6_init 8 = .ok (.newarray .int, 2) := by decide +kernel
theorem dX6_init_10 : decode cX6_init 10 = .ok (.putfield 9, 3) := by decide +kernel
theorem dX6_init_13 : decode cX6_init 13 = .ok (.aload_n 0, 1) := by decide +kernel
theorem dX6_init_14 : decode cX6_init 14 = .ok (.sipush 360, 3) := by decide +kernel
theorem dX6_init_17 : decode cX6_init 17 = .ok (.newarray .int, 2) := by decide +kernel
theorem dX6_init_19 : decode cX6_init 19 = .ok (.putfield 15, 3) := by decide +kernel
theorem dX6_init_22 : decode cX6_init 22 = .ok (.aload_n 0, 1) := by decide +kernel
theorem dX6_init_23 : decode cX6_init 23 = .ok (.sipush 360, 3) := by decide +kernel
theorem dX6_init_26 : decode cX6_init 26 = .ok (.newarray .int, 2) := by decide +kernel
theorem dX6_init_28 : decode cX6_init 28 = .ok (.putfield 18, 3) := by decide +kernel
theorem dX6_init_31 : decode cX6_init 31 = .ok (.return_, 1) := by decide +kernel
theorem dX6_draw_0 : decode cX6_draw 0 = .ok (.aload_n 0, 1) := by decide +kernel
theorem dX6_draw_1 : decode cX6_draw 1 = .ok (.iload_n 2, 1) := by decide +kernel
theorem dX6_draw_2 : decode cX6_draw 2 = .ok (.putfield 21, 3) := by decide +kernel
theorem dX6_draw_5 : decode cX6_draw 5 = .ok (.aload_n 0, 1) := by decide +kernel
theorem dX6_draw_6 : decode cX6_draw 6 = .ok (.iconst 0, 1) := by decide +kernel
theorem dX6_draw_7 : decode cX6_draw 7 = .ok (.putfield 25, 3) := by decide +kernel
theorem dX6_draw_10 : decode cX6_draw 10 = .ok (.aload_n 3, 1) := by decide +kernel
theorem dX6_draw_11 : decode cX6_draw 11 = .ok (.aload_n 1, 1) := by decide +kernel
theorem dX6_draw_12 : decode cX6_draw 12 = .ok (.getfield 28, 3) := by decide +kernel
theorem dX6_draw_15 : decode cX6_draw 15 = .ok (.aload_n 0, 1) := by decide +kernel
theorem dX6_draw_16 : decode cX6_draw 16 = .ok (.getfield 21, 3) := by decide +kernel
theorem dX6_draw_19 : decode cX6_draw 19 = .ok (.invokevirtual 33, 3) := by decide +kernel
theorem dX6_draw_22 : decode cX6_draw 22 = .ok (.iconst 0, 1) := by decide +kernel
theorem dX6_draw_23 : decode cX6_draw 23 = .ok (.istore 5, 2) := by decide +kernel
theorem dX6_draw_25 : decode cX6_draw 25 = .ok (.iload 5, 2) := by decide +kernel
theorem dX6_draw_27 : decode cX6_draw 27 = .ok (.sipush 360, 3) := by decide +kernel
theorem dX6_draw_30 : decode cX6_draw 30 = .ok (.if_icmp .ge 38, 3) := by decide +kernel
theorem dX6_draw_33 : decode cX6_draw 33 = .ok (.aload_n 3, 1) := by decide +kernel
theorem dX6_draw_34 : decode cX6_draw 34 = .ok (.iload 5, 2) := by decide +kernel
theorem dX6_draw_36 : decode cX6_draw 36 = .ok (.invokevirtual 39, 3) := by decide +kernel
theorem dX6_draw_39 : decode cX6_draw 39 = .ok (.aload 4, 2) := by decide +kernel
theorem dX6_draw_41 : decode cX6_draw 41 = .ok (.aload_n 1, 1) := by decide +kernel
theorem dX6_draw_42 : decode cX6_draw 42 = .ok (.aload_n 3, 1) := by decide +kernel
theorem dX6_draw_43 : decode cX6_draw 43 = .ok (.invokevirtual 43, 3) := by decide +kernel
theorem dX6_draw_46 : decode cX6_draw 46 = .ok (.aload 4, 2) := by decide +kernel
theorem dX6_draw_48 : decode cX6_draw 48 = .ok (.getfield 49, 3) := by decide +kernel
theorem dX6_draw_51 : decode cX6_draw 51 = .ok (.ifCond .eq 11, 3) := by decide +kernel
theorem dX6_draw_54 : decode cX6_draw 54 = .ok (.aload_n 0, 1) := by decide +kernel
theorem dX6_draw_55 : decode cX6_draw 55 = .ok (.iload 5, 2) := by decide +kernel
theorem dX6_draw_57 : decode cX6_draw 57 = .ok (.aload 4, 2) := by decide +kernel
theorem dX6_draw_59 : decode cX6_draw 59 = .ok (.invokevirtual 53, 3) := by decide +kernel
theorem dX6_draw_62 : decode cX6_draw 62 = .ok (.iinc 5 1, 3) := by decide +kernel
theorem dX6_draw_65 : decode cX6_draw 65 = .ok (.goto (-40), 3) := by decide +kernel
theorem dX6_draw_68 : decode cX6_draw 68 = .ok (.return_, 1) := by decide +kernel
theorem dX6_add_0 : decode cX6_add 0 = .ok (.aload_n 0, 1) := by decide +kernel
theorem dX6_add_1 : decode cX6_add 1 = .ok (.getfield 25, 3) := by decide +kernel
theorem dX6_add_4 : decode cX6_add 4 = .ok (.sipush 360, 3) := by decide +kernel
theorem dX6_add_7 : decode cX6_add 7 = .ok (.if_icmp .ge 49, 3) := by decide +kernel
theorem dX6_add_10 : decode cX6_add 10 = .ok (.aload_n 0, 1) := by decide +kernel
theorem dX6_add_11 : decode cX6_add 11 = .ok (.getfield 9, 3) := by decide +kernel
theorem dX6_add_14 : decode cX6_add 14 = .ok (.aload_n 0, 1) := by decide +kernel
theorem dX6_add_15 : decode cX6_add 15 = .ok (.getfield 25, 3) := by decide +kernel
theorem dX6_add_18 : decode cX6_add 18 = .ok (.iload_n 1, 1) := by decide +kernel
theorem dX6_add_19 : decode cX6_add 19 = .ok (.iastore, 1) := by decide +kernel
theorem dX6_add_20 : decode cX6_add 20 = .ok (.aload_n 0, 1) := by decide +kernel
theorem dX6_add_21 : decode cX6_add 21 = .ok (.getfield 15, 3) := by decide +kernel
theorem dX6_add_24 : decode cX6_add 24 = .ok (.aload_n 0, 1) := by decide +kernel
theorem dX6_add_25 : decode cX6_add 25 = .ok (.getfield 25, 3) := by decide +kernel
theorem dX6_add_28 : decode cX6_add 28 = .ok (.aload_n 2, 1) := by decide +kernel
theorem dX6_add_29 : decode cX6_add 29 = .ok (.getfield 57, 3) := by decide +kernel
theorem dX6_add_32 : decode cX6_add 32 = .ok (.iastore, 1) := by decide +kernel
theorem dX6_add_33 : decode cX6_add 33 = .ok (.aload_n 0, 1) := by decide +kernel
theorem dX6_add_34 : decode cX6_add 34 = .ok (.getfield 18, 3) := by decide +kernel
theorem dX6_add_37 : decode cX6_add 37 = .ok (.aload_n 0, 1) := by decide +kernel
theorem dX6_add_38 : decode cX6_add 38 = .ok (.getfield 25, 3) := by decide +kernel
theorem dX6_add_41 : decode cX6_add 41 = .ok (.aload_n 2, 1) := by decide +kernel
theorem dX6_add_42 : decode cX6_add 42 = .ok (.getfield 60, 3) := by decide +kernel
theorem dX6_add_45 : decode cX6_add 45 = .ok (.iastore, 1) := by decide +kernel
theorem dX6_add_46 : decode cX6_add 46 = .ok (.aload_n 0, 1) := by decide +kernel
theorem dX6_add_47 : decode cX6_add 47 = .ok (.dup, 1) := by decide +kernel
theorem dX6_add_48 : decode cX6_add 48 = .ok (.getfield 25, 3) := by decide +kernel
theorem dX6_add_51 : decode cX6_add 51 = .ok (.iconst 1, 1) := by decide +kernel
theorem dX6_add_52 : decode cX6_add 52 = .ok (.iadd, 1) := by decide +kernel
theorem dX6_add_53 : decode cX6_add 53 = .ok (.putfield 25, 3) := by decide +kernel
theorem dX6_add_56 : decode cX6_add 56 = .ok (.return_, 1) := by decide +kernel
theorem dX6_nearest_0 : decode cX6_nearest 0 = .ok (.ldc 63, 2) := by decide +kernel
theorem dX6_nearest_2 : decode cX6_nearest 2 = .ok (.istore_n 3, 1) := by decide +kernel
theorem dX6_nearest_3 : decode cX6_nearest 3 = .ok (.iconst (-1), 1) := by decide +kernel
theorem dX6_nearest_4 : decode cX6_nearest 4 = .ok (.istore 4, 2) := by decide +kernel
theorem dX6_nearest_6 : decode cX6_nearest 6 = .ok (.iconst 0, 1) := by decide +kernel
theorem dX6_nearest_7 : decode cX6_nearest 7 = .ok (.istore 5, 2) := by decide +kernel
theorem dX6_nearest_9 : decode cX6_nearest 9 = .ok (.iload 5, 2) := by decide +kernel
theorem dX6_nearest_11 : decode cX6_nearest 11 = .ok (.aload_n 0, 1) := by decide +kernel
theorem dX6_nearest_12 : decode cX6_nearest 12 = .ok (.getfield 25, 3) := by decide +kernel
theorem dX6_nearest_15 : decode cX6_nearest 15 = .ok (.if_icmp .ge 62, 3) := by decide +kernel
theorem dX6_nearest_18 : decode cX6_nearest 18 = .ok (.iload 5, 2) := by decide +kernel
theorem dX6_nearest_20 : decode cX6_nearest 20 = .ok (.sipush 360, 3) := by decide +kernel
theorem dX6_nearest_23 : decode cX6_nearest 23 = .ok (.if_icmp .ge 54, 3) := by decide +kernel
theorem dX6_nearest_26 : decode cX6_nearest 26 = .ok (.aload_n 0, 1) := by decide +kernel
theorem dX6_nearest_27 : decode cX6_nearest 27 = .ok (.getfield 15, 3) := by decide +kernel
theorem dX6_nearest_30 : decode cX6_nearest 30 = .ok (.iload 5, 2) := by decide +kernel
theorem dX6_nearest_32 : decode cX6_nearest 32 = .ok (.iaload, 1) := by decide +kernel
theorem dX6_nearest_33 : decode cX6_nearest 33 = .ok (.iload_n 1, 1) := by decide +kernel
theorem dX6_nearest_34 : decode cX6_nearest 34 = .ok (.isub, 1) := by decide +kernel
theorem dX6_nearest_35 : decode cX6_nearest 35 = .ok (.invokestatic 64, 3) := by decide +kernel
theorem dX6_nearest_38 : decode cX6_nearest 38 = .ok (.aload_n 0, 1) := by decide +kernel
theorem dX6_nearest_39 : decode cX6_nearest 39 = .ok (.getfield 18, 3) := by decide +kernel
theorem dX6_nearest_42 : decode cX6_nearest 42 = .ok (.iload 5, 2) := by decide +kernel
theorem dX6_nearest_44 : decode cX6_nearest 44 = .ok (.iaload, 1) := by decide +kernel
theorem dX6_nearest_45 : decode cX6_nearest 45 = .ok (.iload_n 2, 1) := by decide +kernel
theorem dX6_nearest_46 : decode cX6_nearest 46 = .ok (.isub, 1) := by decide +kernel
theorem dX6_nearest_47 : decode cX6_nearest 47 = .ok (.invokestatic 64, 3) := by decide +kernel
theorem dX6_nearest_50 : decode cX6_nearest 50 = .ok (.iadd, 1) := by decide +kernel
theorem dX6_nearest_51 : decode cX6_nearest 51 = .ok (.istore 6, 2) := by decide +kernel
theorem dX6_nearest_53 : decode cX6_nearest 53 = .ok (.iload 6, 2) := by decide +kernel
theorem dX6_nearest_55 : decode cX6_nearest 55 = .ok (.iload_n 3, 1) := by decide +kernel
theorem dX6_nearest_56 : decode cX6_nearest 56 = .ok (.if_icmp .ge 15, 3) := by decide +kernel
theorem dX6_nearest_59 : decode cX6_nearest 59 = .ok (.iload 6, 2) := by decide +kernel
theorem dX6_nearest_61 : decode cX6_nearest 61 = .ok (.istore_n 3, 1) := by decide +kernel
theorem dX6_nearest_62 : decode cX6_nearest 62 = .ok (.aload_n 0, 1) := by decide +kernel
theorem dX6_nearest_63 : decode cX6_nearest 63 = .ok (.getfield 9, 3) := by decide +kernel
theorem dX6_nearest_66 : decode cX6_nearest 66 = .ok (.iload 5, 2) := by decide +kernel
theorem dX6_nearest_68 : decode cX6_nearest 68 = .ok (.iaload, 1) := by decide +kernel
theorem dX6_nearest_69 : decode cX6_nearest 69 = .ok (.istore 4, 2) := by decide +kernel
theorem dX6_nearest_71 : decode cX6_nearest 71 = .ok (.iinc 5 1, 3) := by decide +kernel
theorem dX6_nearest_74 : decode cX6_nearest 74 = .ok (.goto (-65), 3) := by decide +kernel
theorem dX6_nearest_77 : decode cX6_nearest 77 = .ok (.iload 4, 2) := by decide +kernel
theorem dX6_nearest_79 : decode cX6_nearest 79 = .ok (.ireturn, 1) := by decide +kernel
theorem dJ9_floorDiv_7cf53_0 : decode cJ9_floorDiv_7cf53 0 = .ok (.iload_n 0, 1) := by decide +kernel
theorem dJ9_floorDiv_7cf53_1 : decode cJ9_floorDiv_7cf53 1 = .ok (.iload_n 1, 1) := by decide +kernel
theorem dJ9_floorDiv_7cf53_2 : decode cJ9_floorDiv_7cf53 2 = .ok (.idiv, 1) := by decide +kernel
theorem dJ9_floorDiv_7cf53_3 : decode cJ9_floorDiv_7cf53 3 = .ok (.istore_n 2, 1) := by decide +kernel
theorem dJ9_floorDiv_7cf53_4 : decode cJ9_floorDiv_7cf53 4 = .ok (.iload_n 0, 1) := by decide +kernel
theorem dJ9_floorDiv_7cf53_5 : decode cJ9_floorDiv_7cf53 5 = .ok (.iload_n 1, 1) := by decide +kernel
theorem dJ9_floorDiv_7cf53_6 : decode cJ9_floorDiv_7cf53 6 = .ok (.ixor, 1) := by decide +kernel
theorem dJ9_floorDiv_7cf53_7 : decode cJ9_floorDiv_7cf53 7 = .ok (.ifCond .ge 14, 3) := by decide +kernel
theorem dJ9_floorDiv_7cf53_10 : decode cJ9_floorDiv_7cf53 10 = .ok (.iload_n 2, 1) := by decide +kernel
theorem dJ9_floorDiv_7cf53_11 : decode cJ9_floorDiv_7cf53 11 = .ok (.iload_n 1, 1) := by decide +kernel
theorem dJ9_floorDiv_7cf53_12 : decode cJ9_floorDiv_7cf53 12 = .ok (.imul, 1) := by decide +kernel
theorem dJ9_floorDiv_7cf53_13 : decode cJ9_floorDiv_7cf53 13 = .ok (.iload_n 0, 1) := by decide +kernel
theorem dJ9_floorDiv_7cf53_14 : decode cJ9_floorDiv_7cf53 14 = .ok (.if_icmp .eq 7, 3) := by decide +kernel
theorem dJ9_floorDiv_7cf53_17 : decode cJ9_floorDiv_7cf53 17 = .ok (.iload_n 2, 1) := by decide +kernel
theorem dJ9_floorDiv_7cf53_18 : decode cJ9_floorDiv_7cf53 18 = .ok (.iconst 1, 1) := by decide +kernel
theorem dJ9_floorDiv_7cf53_19 : decode cJ9_floorDiv_7cf53 19 = .ok (.isub, 1) := by decide +kernel
theorem dJ9_floorDiv_7cf53_20 : decode cJ9_floorDiv_7cf53 20 = .ok (.ireturn, 1) := by decide +kernel
theorem dJ9_floorDiv_7cf53_21 : decode cJ9_floorDiv_7cf53 21 = .ok (.iload_n 2, 1) := by decide +kernel
theorem dJ9_floorDiv_7cf53_22 : decode cJ9_floorDiv_7cf53 22 = .ok (.ireturn, 1) := by decide +kernel
theorem dJ9_floorDiv_f86c9_0 : decode cJ9_floorDiv_f86c9 0 = .ok (.lload_n 0, 1) := by decide +kernel
theorem dJ9_floorDiv_f86c9_1 : decode cJ9_floorDiv_f86c9 1 = .ok (.lload_n 2, 1) := by decide +kernel
theorem dJ9_floorDiv_f86c9_2 : decode cJ9_floorDiv_f86c9 2 = .ok (.ldiv, 1) := by decide +kernel
theorem dJ9_floorDiv_f86c9_3 : decode cJ9_floorDiv_f86c9 3 = .ok (.lstore 4, 2) := by decide +kernel
theorem dJ9_floorDiv_f86c9_5 : decode cJ9_floorDiv_f86c9 5 = .ok (.lload_n 0, 1) := by decide +kernel
theorem dJ9_floorDiv_f86c9_6 : decode cJ9_floorDiv_f86c9 6 = .ok (.lload_n 2, 1) := by decide +kernel
theorem dJ9_floorDiv_f86c9_7 : decode cJ9_floorDiv_f86c9 7 = .ok (.lxor, 1) := by decide +kernel
theorem dJ9_floorDiv_f86c9_8 : decode cJ9_floorDiv_f86c9 8 = .ok (.lconst 0, 1) := by decide +kernel
theorem dJ9_floorDiv_f86c9_9 : decode cJ9_floorDiv_f86c9 9 = .ok (.lcmp, 1) := by decide +kernel
theorem dJ9_floorDiv_f86c9_10 : decode cJ9_floorDiv_f86c9 10 = .ok (.ifCond .ge 17, 3) := by decide +kernel
theorem dJ9_floorDiv_f86c9_13 : decode cJ9_floorDiv_f86c9 13 = .ok (.lload 4, 2) := by decide +kernel
theorem dJ9_floorDiv_f86c9_15 : decode cJ9_floorDiv_f86c9 15 = .ok (.lload_n 2, 1) := by decide +kernel
theorem dJ9_floorDiv_f86c9_16 : decode cJ9_floorDiv_f86c9 16 = .ok (.lmul, 1) := by decide +kernel
theorem dJ9_floorDiv_f86c9_17 : decode cJ9_floorDiv_f86c9 17 = .ok (.lload_n 0, 1) := by decide +kernel
theorem dJ9_floorDiv_f86c9_18 : decode cJ9_floorDiv_f86c9 18 = .ok (.lcmp, 1) := by decide +kernel
theorem dJ9_floorDiv_f86c9_19 : decode cJ9_floorDiv_f86c9 19 = .ok (.ifCond .eq 8, 3) := by decide +kernel
theorem dJ9_floorDiv_f86c9_22 : decode cJ9_floorDiv_f86c9 22 = .ok (.lload 4, 2) := by decide +kernel
theorem dJ9_floorDiv_f86c9_24 : decode cJ9_floorDiv_f86c9 24 = .ok (.lconst 1, 1) := by decide +kernel
theorem dJ9_floorDiv_f86c9_25 : decode cJ9_floorDiv_f86c9 25 = .ok (.lsub, 1) := by decide +kernel
theorem dJ9_floorDiv_f86c9_26 : decode cJ9_floorDiv_f86c9 26 = .ok (.lreturn, 1) := by decide +kernel
theorem dJ9_floorDiv_f86c9_27 : decode cJ9_floorDiv_f86c9 27 = .ok (.lload 4, 2) := by decide +kernel
theorem dJ9_floorDiv_f86c9_29 : decode cJ9_floorDiv_f86c9 29 = .ok (.lreturn, 1) := by decide +kernel
theorem dJ9_floorMod_7cf53_0 : decode cJ9_floorMod_7cf53 0 = .ok (.iload_n 0, 1) := by decide +kernel
theorem dJ9_floorMod_7cf53_1 : decode cJ9_floorMod_7cf53 1 = .ok (.iload_n 1, 1) := by decide +kernel
theorem dJ9_floorMod_7cf53_2 : decode cJ9_floorMod_7cf53 2 = .ok (.irem, 1) := by decide +kernel
theorem dJ9_floorMod_7cf53_3 : decode cJ9_floorMod_7cf53 3 = .ok (.istore_n 2, 1) := by decide +kernel
theorem dJ9_floorMod_7cf53_4 : decode cJ9_floorMod_7cf53 4 = .ok (.iload_n 0, 1) := by decide +kernel
theorem dJ9_floorMod_7cf53_5 : decode cJ9_floorMod_7cf53 5 = .ok (.iload_n 1, 1) := by decide +kernel
theorem dJ9_floorMod_7cf53_6 : decode cJ9_floorMod_7cf53 6 = .ok (.ixor, 1) := by decide +kernel
theorem dJ9_floorMod_7cf53_7 : decode cJ9_floorMod_7cf53 7 = .ok (.ifCond .ge 11, 3) := by decide +kernel
theorem dJ9_floorMod_7cf53_10 : decode cJ9_floorMod_7cf53 10 = .ok (.iload_n 2, 1) := by decide +kernel
theorem dJ9_floorMod_7cf53_11 : decode cJ9_floorMod_7cf53 11 = .ok (.ifCond .eq 7, 3) := by decide +kernel
theorem dJ9_floorMod_7cf53_14 : decode cJ9_floorMod_7cf53 14 = .ok (.iload_n 2, 1) := by decide +kernel
theorem dJ9_floorMod_7cf53_15 : decode cJ9_floorMod_7cf53 15 = .ok (.iload_n 1, 1) := by decide +kernel
theorem dJ9_floorMod_7cf53_16 : decode cJ9_floorMod_7cf53 16 = .ok (.iadd, 1) := by decide +kernel
theorem dJ9_floorMod_7cf53_17 : decode cJ9_floorMod_7cf53 17 = .ok (.ireturn, 1) := by decide +kernel
theorem dJ9_floorMod_7cf53_18 : decode cJ9_floorMod_7cf53 18 = .ok (.iload_n 2, 1) := by decide +kernel
theorem dJ9_floorMod_7cf53_19 : decode cJ9_floorMod_7cf53 19 = .ok (.ireturn, 1) := by decide +kernel
theorem dJ9_abs_0f7a4_0 : decode cJ9_abs_0f7a4 0 = .ok (.iload_n 0, 1) := by decide +kernel
theorem dJ9_abs_0f7a4_1 : decode cJ9_abs_0f7a4 1 = .ok (.ifCond .ge 8, 3) := by decide +kernel
theorem dJ9_abs_0f7a4_4 : decode cJ9_abs_0f7a4 4 = .ok (.iload_n 0, 1) := by decide +kernel
theorem dJ9_abs_0f7a4_5 : decode cJ9_abs_0f7a4 5 = .ok (.ineg, 1) := by decide +kernel
theorem dJ9_abs_0f7a4_6 : decode cJ9_abs_0f7a4 6 = .ok (.goto 4, 3) := by decide +kernel
theorem dJ9_abs_0f7a4_9 : decode cJ9_abs_0f7a4 9 = .ok (.iload_n 0, 1) := by decide +kernel
theorem dJ9_abs_0f7a4_10 : decode cJ9_abs_0f7a4 10 = .ok (.ireturn, 1) := by decide +kernel
theorem dJ9_max_7cf53_0 : decode cJ9_max_7cf53 0 = .ok (.iload_n 0, 1) := by decide +kernel
theorem dJ9_max_7cf53_1 : decode cJ9_max_7cf53 1 = .ok (.iload_n 1, 1) := by decide +kernel
theorem dJ9_max_7cf53_2 : decode cJ9_max_7cf53 2 = .ok (.if_icmp .lt 7, 3) := by decide +kernel
theorem dJ9_max_7cf53_5 : decode cJ9_max_7cf53 5 = .ok (.iload_n 0, 1) := by decide +kernel
theorem dJ9_max_7cf53_6 : decode cJ9_max_7cf53 6 = .ok (.goto 4, 3) := by decide +kernel
theorem dJ9_max_7cf53_9 : decode cJ9_max_7cf53 9 = .ok (.iload_n 1, 1) := by decide +kernel
theorem dJ9_max_7cf53_10 : decode cJ9_max_7cf53 10 = .ok (.ireturn, 1) := by decide +kernel
theorem dJ9_min_7cf53_0 : decode cJ9_min_7cf53 0 = .ok (.iload_n 0, 1) := by decide +kernel
theorem dJ9_min_7cf53_1 : decode cJ9_min_7cf53 1 = .ok (.iload_n 1, 1) := by decide +kernel
theorem dJ9_min_7cf53_2 : decode cJ9_min_7cf53 2 = .ok (.if_icmp .gt 7, 3) := by decide +kernel
theorem dJ9_min_7cf53_5 : decode cJ9_min_7cf53 5 = .ok (.iload_n 0, 1) := by decide +kernel
theorem dJ9_min_7cf53_6 : decode cJ9_min_7cf53 6 = .ok (.goto 4, 3) := by decide +kernel
theorem dJ9_min_7cf53_9 : decode cJ9_min_7cf53 9 = .ok (.iload_n 1, 1) := by decide +kernel
theorem dJ9_min_7cf53_10 : decode cJ9_min_7cf53 10 = .ok (.ireturn, 1) := by decide +kernel
