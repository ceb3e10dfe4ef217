theorem dL_cell_0 : decode cL_cell 0 = .ok (.iload_n 1, 1) := by decide +kernel
theorem dL_cell_1 : decode cL_cell 1 = .ok (.aload_n 0, 1) := by decide +kernel
theorem dL_cell_2 : decode cL_cell 2 = .ok (.arraylength, 1) := by decide +kernel
theorem dL_cell_3 : decode cL_cell 3 = .ok (.if_icmp .ge 9, 3) := by decide +kernel
theorem dL_cell_6 : decode cL_cell 6 = .ok (.aload_n 0, 1) := by decide +kernel
theorem dL_cell_7 : decode cL_cell 7 = .ok (.iload_n 1, 1) := by decide +kernel
theorem dL_cell_8 : decode cL_cell 8 = .ok (.iaload, 1) := by decide +kernel
theorem dL_cell_9 : decode cL_cell 9 = .ok (.goto 18, 3) := by decide +kernel
theorem dL_cell_12 : decode cL_cell 12 = .ok (.sipush 7919, 3) := by decide +kernel
theorem dL_cell_15 : decode cL_cell 15 = .ok (.iload_n 1, 1) := by decide +kernel
theorem dL_cell_16 : decode cL_cell 16 = .ok (.sipush 3079, 3) := by decide +kernel
theorem dL_cell_19 : decode cL_cell 19 = .ok (.iadd, 1) := by decide +kernel
theorem dL_cell_20 : decode cL_cell 20 = .ok (.imul, 1) := by decide +kernel
theorem dL_cell_21 : decode cL_cell 21 = .ok (.iload_n 1, 1) := by decide +kernel
theorem dL_cell_22 : decode cL_cell 22 = .ok (.sipush 751, 3) := by decide +kernel
theorem dL_cell_25 : decode cL_cell 25 = .ok (.iadd, 1) := by decide +kernel
theorem dL_cell_26 : decode cL_cell 26 = .ok (.imul, 1) := by decide +kernel
theorem dL_cell_27 : decode cL_cell 27 = .ok (.ireturn, 1) := by decide +kernel
theorem dL_low_0 : decode cL_low 0 = .ok (.iload_n 0, 1) := by decide +kernel
theorem dL_low_1 : decode cL_low 1 = .ok (.ldc 7, 2) := by decide +kernel
theorem dL_low_3 : decode cL_low 3 = .ok (.iand, 1) := by decide +kernel
theorem dL_low_4 : decode cL_low 4 = .ok (.iload_n 1, 1) := by decide +kernel
theorem dL_low_5 : decode cL_low 5 = .ok (.irem, 1) := by decide +kernel
theorem dL_low_6 : decode cL_low 6 = .ok (.ireturn, 1) := by decide +kernel
theorem dL_sine_0 : decode cL_sine 0 = .ok (.aload_n 0, 1) := by decide +kernel
theorem dL_sine_1 : decode cL_sine 1 = .ok (.iload_n 1, 1) := by decide +kernel
theorem dL_sine_2 : decode cL_sine 2 = .ok (.invokevirtual 8, 3) := by decide +kernel
theorem dL_sine_5 : decode cL_sine 5 = .ok (.ireturn, 1) := by decide +kernel
theorem dL_sine_6 : decode cL_sine 6 = .ok (.astore_n 2, 1) := by decide +kernel
theorem dL_sine_7 : decode cL_sine 7 = .ok (.ldc 16, 2) := by decide +kernel
theorem dL_sine_9 : decode cL_sine 9 = .ok (.ireturn, 1) := by decide +kernel
theorem dL_day_0 : decode cL_day 0 = .ok (.aload_n 0, 1) := by decide +kernel
theorem dL_day_1 : decode cL_day 1 = .ok (.iload_n 1, 1) := by decide +kernel
theorem dL_day_2 : decode cL_day 2 = .ok (.iload_n 2, 1) := by decide +kernel
theorem dL_day_3 : decode cL_day 3 = .ok (.invokevirtual 17, 3) := by decide +kernel
theorem dL_day_6 : decode cL_day 6 = .ok (.ireturn, 1) := by decide +kernel
theorem dL_day_7 : decode cL_day 7 = .ok (.astore_n 3, 1) := by decide +kernel
theorem dL_day_8 : decode cL_day 8 = .ok (.ldc 16, 2) := by decide +kernel
theorem dL_day_10 : decode cL_day 10 = .ok (.ireturn, 1) := by decide +kernel
theorem dL_sun_0 : decode cL_sun 0 = .ok (.aload_n 0, 1) := by decide +kernel
theorem dL_sun_1 : decode cL_sun 1 = .ok (.iload_n 1, 1) := by decide +kernel
theorem dL_sun_2 : decode cL_sun 2 = .ok (.iload_n 2, 1) := by decide +kernel
theorem dL_sun_3 : decode cL_sun 3 = .ok (.iload_n 3, 1) := by decide +kernel
theorem dL_sun_4 : decode cL_sun 4 = .ok (.iload 4, 2) := by decide +kernel
theorem dL_sun_6 : decode cL_sun 6 = .ok (.invokevirtual 21, 3) := by decide +kernel
theorem dL_sun_9 : decode cL_sun 9 = .ok (.lreturn, 1) := by decide +kernel
theorem dL_sun_10 : decode cL_sun 10 = .ok (.astore 5, 2) := by decide +kernel
theorem dL_sun_12 : decode cL_sun 12 = .ok (.ldc2_w 25, 3) := by decide +kernel
theorem dL_sun_15 : decode cL_sun 15 = .ok (.lreturn, 1) := by decide +kernel
theorem dL_place_0 : decode cL_place 0 = .ok (.aload_n 0, 1) := by decide +kernel
theorem dL_place_1 : decode cL_place 1 = .ok (.iload_n 1, 1) := by decide +kernel
theorem dL_place_2 : decode cL_place 2 = .ok (.iload_n 2, 1) := by decide +kernel
theorem dL_place_3 : decode cL_place 3 = .ok (.invokevirtual 27, 3) := by decide +kernel
theorem dL_place_6 : decode cL_place 6 = .ok (.ireturn, 1) := by decide +kernel
theorem dL_place_7 : decode cL_place 7 = .ok (.astore_n 3, 1) := by decide +kernel
theorem dL_place_8 : decode cL_place 8 = .ok (.ldc 16, 2) := by decide +kernel
theorem dL_place_10 : decode cL_place 10 = .ok (.ireturn, 1) := by decide +kernel
theorem dL_place_11 : decode cL_place 11 = .ok (.astore_n 3, 1) := by decide +kernel
theorem dL_place_12 : decode cL_place 12 = .ok (.ldc 16, 2) := by decide +kernel
theorem dL_place_14 : decode cL_place 14 = .ok (.ireturn, 1) := by decide +kernel
theorem dL_light_0 : decode cL_light 0 = .ok (.aload_n 0, 1) := by decide +kernel
theorem dL_light_1 : decode cL_light 1 = .ok (.iload_n 1, 1) := by decide +kernel
theorem dL_light_2 : decode cL_light 2 = .ok (.iload_n 2, 1) := by decide +kernel
theorem dL_light_3 : decode cL_light 3 = .ok (.iload_n 3, 1) := by decide +kernel
theorem dL_light_4 : decode cL_light 4 = .ok (.invokevirtual 32, 3) := by decide +kernel
theorem dL_light_7 : decode cL_light 7 = .ok (.ireturn, 1) := by decide +kernel
theorem dL_light_8 : decode cL_light 8 = .ok (.astore 4, 2) := by decide +kernel
theorem dL_light_10 : decode cL_light 10 = .ok (.ldc 16, 2) := by decide +kernel
theorem dL_light_12 : decode cL_light 12 = .ok (.ireturn, 1) := by decide +kernel
theorem dL_light_13 : decode cL_light 13 = .ok (.astore 4, 2) := by decide +kernel
theorem dL_light_15 : decode cL_light 15 = .ok (.ldc 16, 2) := by decide +kernel
theorem dL_light_17 : decode cL_light 17 = .ok (.ireturn, 1) := by decide +kernel
theorem dL_lightAnew_0 : decode cL_lightAnew 0 = .ok (.aload_n 0, 1) := by decide +kernel
theorem dL_lightAnew_1 : decode cL_lightAnew 1 = .ok (.iload_n 1, 1) := by decide +kernel
theorem dL_lightAnew_2 : decode cL_lightAnew 2 = .ok (.iload_n 2, 1) := by decide +kernel
theorem dL_lightAnew_3 : decode cL_lightAnew 3 = .ok (.invokevirtual 38, 3) := by decide +kernel
theorem dL_lightAnew_6 : decode cL_lightAnew 6 = .ok (.ireturn, 1) := by decide +kernel
theorem dL_lightAnew_7 : decode cL_lightAnew 7 = .ok (.astore_n 3, 1) := by decide +kernel
theorem dL_lightAnew_8 : decode cL_lightAnew 8 = .ok (.ldc 16, 2) := by decide +kernel
theorem dL_lightAnew_10 : decode cL_lightAnew 10 = .ok (.ireturn, 1) := by decide +kernel
theorem dL_lightAnew_11 : decode cL_lightAnew 11 = .ok (.astore_n 3, 1) := by decide +kernel
theorem dL_lightAnew_12 : decode cL_lightAnew 12 = .ok (.ldc 16, 2) := by decide +kernel
theorem dL_lightAnew_14 : decode cL_lightAnew 14 = .ok (.ireturn, 1) := by decide +kernel
theorem dL_hour_0 : decode cL_hour 0 = .ok (.aload_n 0, 1) := by decide +kernel
theorem dL_hour_1 : decode cL_hour 1 = .ok (.iload_n 1, 1) := by decide +kernel
theorem dL_hour_2 : decode cL_hour 2 = .ok (.iload_n 2, 1) := by decide +kernel
theorem dL_hour_3 : decode cL_hour 3 = .ok (.iload_n 3, 1) := by decide +kernel
theorem dL_hour_4 : decode cL_hour 4 = .ok (.iload 4, 2) := by decide +kernel
theorem dL_hour_6 : decode cL_hour 6 = .ok (.invokevirtual 41, 3) := by decide +kernel
theorem dL_hour_9 : decode cL_hour 9 = .ok (.ireturn, 1) := by decide +kernel
theorem dL_hour_10 : decode cL_hour 10 = .ok (.astore 5, 2) := by decide +kernel
theorem dL_hour_12 : decode cL_hour 12 = .ok (.ldc 16, 2) := by decide +kernel
theorem dL_hour_14 : decode cL_hour 14 = .ok (.ireturn, 1) := by decide +kernel
theorem dL_hour_15 : decode cL_hour 15 = .ok (.astore 5, 2) := by decide +kernel
theorem dL_hour_17 : decode cL_hour 17 = .ok (.ldc 16, 2) := by decide +kernel
theorem dL_hour_19 : decode cL_hour 19 = .ok (.ireturn, 1) := by decide +kernel
theorem dL_summer_0 : decode cL_summer 0 = .ok (.aload_n 0, 1) := by decide +kernel
theorem dL_summer_1 : decode cL_summer 1 = .ok (.iload_n 1, 1) := by decide +kernel
theorem dL_summer_2 : decode cL_summer 2 = .ok (.iload_n 2, 1) := by decide +kernel
theorem dL_summer_3 : decode cL_summer 3 = .ok (.invokevirtual 45, 3) := by decide +kernel
theorem dL_summer_6 : decode cL_summer 6 = .ok (.iconst 0, 1) := by decide +kernel
theorem dL_summer_7 : decode cL_summer 7 = .ok (.ireturn, 1) := by decide +kernel
theorem dL_summer_8 : decode cL_summer 8 = .ok (.astore_n 3, 1) := by decide +kernel
theorem dL_summer_9 : decode cL_summer 9 = .ok (.ldc 16, 2) := by decide +kernel
theorem dL_summer_11 : decode cL_summer 11 = .ok (.ireturn, 1) := by decide +kernel
theorem dL_dial_0 : decode cL_dial 0 = .ok (.aload_n 0, 1) := by decide +kernel
theorem dL_dial_1 : decode cL_dial 1 = .ok (.iload_n 1, 1) := by decide +kernel
theorem dL_dial_2 : decode cL_dial 2 = .ok (.iload_n 2, 1) := by decide +kernel
theorem dL_dial_3 : decode cL_dial 3 = .ok (.iload_n 3, 1) := by decide +kernel
theorem dL_dial_4 : decode cL_dial 4 = .ok (.iload 4, 2) := by decide +kernel
theorem dL_dial_6 : decode cL_dial 6 = .ok (.invokevirtual 49, 3) := by decide +kernel
theorem dL_dial_9 : decode cL_dial 9 = .ok (.ireturn, 1) := by decide +kernel
theorem dL_dial_10 : decode cL_dial 10 = .ok (.astore 5, 2) := by decide +kernel
theorem dL_dial_12 : decode cL_dial 12 = .ok (.ldc 16, 2) := by decide +kernel
theorem dL_dial_14 : decode cL_dial 14 = .ok (.ireturn, 1) := by decide +kernel
theorem dL_dial_15 : decode cL_dial 15 = .ok (.astore 5, 2) := by decide +kernel
theorem dL_dial_17 : decode cL_dial 17 = .ok (.ldc 16, 2) := by decide +kernel
theorem dL_dial_19 : decode cL_dial 19 = .ok (.ireturn, 1) := by decide +kernel
theorem dL_dial_20 : decode cL_dial 20 = .ok (.astore 5, 2) := by decide +kernel
theorem dL_dial_22 : decode cL_dial 22 = .ok (.ldc 16, 2) := by decide +kernel
theorem dL_dial_24 : decode cL_dial 24 = .ok (.ireturn, 1) := by decide +kernel
theorem dL_stand_0 : decode cL_stand 0 = .ok (.aload_n 0, 1) := by decide +kernel
theorem dL_stand_1 : decode cL_stand 1 = .ok (.iload_n 1, 1) := by decide +kernel
theorem dL_stand_2 : decode cL_stand 2 = .ok (.iload_n 2, 1) := by decide +kernel
theorem dL_stand_3 : decode cL_stand 3 = .ok (.iload_n 3, 1) := by decide +kernel
theorem dL_stand_4 : decode cL_stand 4 = .ok (.iload 4, 2) := by decide +kernel
theorem dL_stand_6 : decode cL_stand 6 = .ok (.invokevirtual 52, 3) := by decide +kernel
theorem dL_stand_9 : decode cL_stand 9 = .ok (.ireturn, 1) := by decide +kernel
theorem dL_stand_10 : decode cL_stand 10 = .ok (.astore 5, 2) := by decide +kernel
theorem dL_stand_12 : decode cL_stand 12 = .ok (.ldc 16, 2) := by decide +kernel
theorem dL_stand_14 : decode cL_stand 14 = .ok (.ireturn, 1) := by decide +kernel
theorem dL_stand_15 : decode cL_stand 15 = .ok (.astore 5, 2) := by decide +kernel
theorem dL_stand_17 : decode cL_stand 17 = .ok (.ldc 16, 2) := by decide +kernel
theorem dL_stand_19 : decode cL_stand 19 = .ok (.ireturn, 1) := by decide +kernel
theorem dL_shadow_0 : decode cL_shadow 0 = .ok (.aload_n 0, 1) := by decide +kernel
theorem dL_shadow_1 : decode cL_shadow 1 = .ok (.iload_n 1, 1) := by decide +kernel
theorem dL_shadow_2 : decode cL_shadow 2 = .ok (.iload_n 2, 1) := by decide +kernel
theorem dL_shadow_3 : decode cL_shadow 3 = .ok (.iload_n 3, 1) := by decide +kernel
theorem dL_shadow_4 : decode cL_shadow 4 = .ok (.iload 4, 2) := by decide +kernel
theorem dL_shadow_6 : decode cL_shadow 6 = .ok (.invokevirtual 55, 3) := by decide +kernel
theorem dL_shadow_9 : decode cL_shadow 9 = .ok (.ireturn, 1) := by decide +kernel
theorem dL_shadow_10 : decode cL_shadow 10 = .ok (.astore 5, 2) := by decide +kernel
theorem dL_shadow_12 : decode cL_shadow 12 = .ok (.ldc 16, 2) := by decide +kernel
theorem dL_shadow_14 : decode cL_shadow 14 = .ok (.ireturn, 1) := by decide +kernel
theorem dL_shadow_15 : decode cL_shadow 15 = .ok (.astore 5, 2) := by decide +kernel
theorem dL_shadow_17 : decode cL_shadow 17 = .ok (.ldc 16, 2) := by decide +kernel
theorem dL_shadow_19 : decode cL_shadow 19 = .ok (.ireturn, 1) := by decide +kernel
theorem dL_shadow_20 : decode cL_shadow 20 = .ok (.astore 5, 2) := by decide +kernel
theorem dL_shadow_22 : decode cL_shadow 22 = .ok (.ldc 16, 2) := by decide +kernel
theorem dL_shadow_24 : decode cL_shadow 24 = .ok (.ireturn, 1) := by decide +kernel
theorem dL_blur_0 : decode cL_blur 0 = .ok (.ldc 59, 2) := by decide +kernel
theorem dL_blur_2 : decode cL_blur 2 = .ok (.aload_n 0, 1) := by decide +kernel
theorem dL_blur_3 : decode cL_blur 3 = .ok (.iload_n 1, 1) := by decide +kernel
theorem dL_blur_4 : decode cL_blur 4 = .ok (.iload_n 2, 1) := by decide +kernel
theorem dL_blur_5 : decode cL_blur 5 = .ok (.iload_n 3, 1) := by decide +kernel
theorem dL_blur_6 : decode cL_blur 6 = .ok (.invokevirtual 60, 3) := by decide +kernel
theorem dL_blur_9 : decode cL_blur 9 = .ok (.fmul, 1) := by decide +kernel
theorem dL_blur_10 : decode cL_blur 10 = .ok (.ldc 64, 2) := by decide +kernel
theorem dL_blur_12 : decode cL_blur 12 = .ok (.fadd, 1) := by decide +kernel
theorem dL_blur_13 : decode cL_blur 13 = .ok (.f2i, 1) := by decide +kernel
theorem dL_blur_14 : decode cL_blur 14 = .ok (.ireturn, 1) := by decide +kernel
theorem dL_blur_15 : decode cL_blur 15 = .ok (.astore 4, 2) := by decide +kernel
theorem dL_blur_17 : decode cL_blur 17 = .ok (.ldc 16, 2) := by decide +kernel
theorem dL_blur_19 : decode cL_blur 19 = .ok (.ireturn, 1) := by decide +kernel
theorem dL_blur_20 : decode cL_blur 20 = .ok (.astore 4, 2) := by decide +kernel
theorem dL_blur_22 : decode cL_blur 22 = .ok (.ldc 16, 2) := by decide +kernel
theorem dL_blur_24 : decode cL_blur 24 = .ok (.ireturn, 1) := by decide +kernel
theorem dL_blur_25 : decode cL_blur 25 = .ok (.astore 4, 2) := by decide +kernel
theorem dL_blur_27 : decode cL_blur 27 = .ok (.ldc 16, 2) := by decide +kernel
theorem dL_blur_29 : decode cL_blur 29 = .ok (.ireturn, 1) := by decide +kernel
theorem dL_line_0 : decode cL_line 0 = .ok (.aload_n 0, 1) := by decide +kernel
theorem dL_line_1 : decode cL_line 1 = .ok (.iload_n 1, 1) := by decide +kernel
theorem dL_line_2 : decode cL_line 2 = .ok (.iload_n 2, 1) := by decide +kernel
theorem dL_line_3 : decode cL_line 3 = .ok (.iload_n 3, 1) := by decide +kernel
theorem dL_line_4 : decode cL_line 4 = .ok (.invokevirtual 65, 3) := by decide +kernel
theorem dL_line_7 : decode cL_line 7 = .ok (.ireturn, 1) := by decide +kernel
theorem dL_line_8 : decode cL_line 8 = .ok (.astore 4, 2) := by decide +kernel
theorem dL_line_10 : decode cL_line 10 = .ok (.ldc 16, 2) := by decide +kernel
theorem dL_line_12 : decode cL_line 12 = .ok (.ireturn, 1) := by decide +kernel
theorem dL_line_13 : decode cL_line 13 = .ok (.astore 4, 2) := by decide +kernel
theorem dL_line_15 : decode cL_line 15 = .ok (.ldc 16, 2) := by decide +kernel
theorem dL_line_17 : decode cL_line 17 = .ok (.ireturn, 1) := by decide +kernel
theorem dL_line_18 : decode cL_line 18 = .ok (.astore 4, 2) := by decide +kernel
theorem dL_line_20 : decode cL_line 20 = .ok (.ldc 16, 2) := by decide +kernel
theorem dL_line_22 : decode cL_line 22 = .ok (.ireturn, 1) := by decide +kernel
theorem dL_read_0 : decode cL_read 0 = .ok (.aload_n 0, 1) := by decide +kernel
theorem dL_read_1 : decode cL_read 1 = .ok (.iload_n 1, 1) := by decide +kernel
theorem dL_read_2 : decode cL_read 2 = .ok (.iload_n 2, 1) := by decide +kernel
theorem dL_read_3 : decode cL_read 3 = .ok (.iload_n 3, 1) := by decide +kernel
theorem dL_read_4 : decode cL_read 4 = .ok (.iload 4, 2) := by decide +kernel
theorem dL_read_6 : decode cL_read 6 = .ok (.invokevirtual 68, 3) := by decide +kernel
theorem dL_read_9 : decode cL_read 9 = .ok (.ireturn, 1) := by decide +kernel
theorem dL_read_10 : decode cL_read 10 = .ok (.astore 5, 2) := by decide +kernel
theorem dL_read_12 : decode cL_read 12 = .ok (.ldc 16, 2) := by decide +kernel
theorem dL_read_14 : decode cL_read 14 = .ok (.ireturn, 1) := by decide +kernel
theorem dL_read_15 : decode cL_read 15 = .ok (.astore 5, 2) := by decide +kernel
theorem dL_read_17 : decode cL_read 17 = .ok (.ldc 16, 2) := by decide +kernel
theorem dL_read_19 : decode cL_read 19 = .ok (.ireturn, 1) := by decide +kernel
theorem dL_tells_0 : decode cL_tells 0 = .ok (.aload_n 0, 1) := by decide +kernel
theorem dL_tells_1 : decode cL_tells 1 = .ok (.iload_n 1, 1) := by decide +kernel
theorem dL_tells_2 : decode cL_tells 2 = .ok (.iload_n 2, 1) := by decide +kernel
theorem dL_tells_3 : decode cL_tells 3 = .ok (.iload_n 3, 1) := by decide +kernel
theorem dL_tells_4 : decode cL_tells 4 = .ok (.invokevirtual 71, 3) := by decide +kernel
theorem dL_tells_7 : decode cL_tells 7 = .ok (.ireturn, 1) := by decide +kernel
theorem dL_tells_8 : decode cL_tells 8 = .ok (.astore 4, 2) := by decide +kernel
theorem dL_tells_10 : decode cL_tells 10 = .ok (.ldc 16, 2) := by decide +kernel
theorem dL_tells_12 : decode cL_tells 12 = .ok (.ireturn, 1) := by decide +kernel
theorem dL_tells_13 : decode cL_tells 13 = .ok (.astore 4, 2) := by decide +kernel
theorem dL_tells_15 : decode cL_tells 15 = .ok (.ldc 16, 2) := by decide +kernel
theorem dL_tells_17 : decode cL_tells 17 = .ok (.ireturn, 1) := by decide +kernel
theorem dL_worst_0 : decode cL_worst 0 = .ok (.aload_n 0, 1) := by decide +kernel
theorem dL_worst_1 : decode cL_worst 1 = .ok (.iload_n 1, 1) := by decide +kernel
theorem dL_worst_2 : decode cL_worst 2 = .ok (.iload_n 2, 1) := by decide +kernel
theorem dL_worst_3 : decode cL_worst 3 = .ok (.iload_n 3, 1) := by decide +kernel
theorem dL_worst_4 : decode cL_worst 4 = .ok (.invokevirtual 74, 3) := by decide +kernel
theorem dL_worst_7 : decode cL_worst 7 = .ok (.ireturn, 1) := by decide +kernel
theorem dL_worst_8 : decode cL_worst 8 = .ok (.astore 4, 2) := by decide +kernel
theorem dL_worst_10 : decode cL_worst 10 = .ok (.ldc 16, 2) := by decide +kernel
theorem dL_worst_12 : decode cL_worst 12 = .ok (.ireturn, 1) := by decide +kernel
theorem dL_worst_13 : decode cL_worst 13 = .ok (.astore 4, 2) := by decide +kernel
theorem dL_worst_15 : decode cL_worst 15 = .ok (.ldc 16, 2) := by decide +kernel
theorem dL_worst_17 : decode cL_worst 17 = .ok (.ireturn, 1) := by decide +kernel
theorem dL_best_0 : decode cL_best 0 = .ok (.aload_n 0, 1) := by decide +kernel
theorem dL_best_1 : decode cL_best 1 = .ok (.iload_n 1, 1) := by decide +kernel
theorem dL_best_2 : decode cL_best 2 = .ok (.iload_n 2, 1) := by decide +kernel
theorem dL_best_3 : decode cL_best 3 = .ok (.iload_n 3, 1) := by decide +kernel
theorem dL_best_4 : decode cL_best 4 = .ok (.invokevirtual 77, 3) := by decide +kernel
theorem dL_best_7 : decode cL_best 7 = .ok (.ireturn, 1) := by decide +kernel
theorem dL_best_8 : decode cL_best 8 = .ok (.astore 4, 2) := by decide +kernel
theorem dL_best_10 : decode cL_best 10 = .ok (.ldc 16, 2) := by decide +kernel
theorem dL_best_12 : decode cL_best 12 = .ok (.ireturn, 1) := by decide +kernel
theorem dL_best_13 : decode cL_best 13 = .ok (.astore 4, 2) := by decide +kernel
theorem dL_best_15 : decode cL_best 15 = .ok (.ldc 16, 2) := by decide +kernel
theorem dL_best_17 : decode cL_best 17 = .ok (.ireturn, 1) := by decide +kernel
theorem dL_cut_0 : decode cL_cut 0 = .ok (.aload_n 0, 1) := by decide +kernel
theorem dL_cut_1 : decode cL_cut 1 = .ok (.iload_n 1, 1) := by decide +kernel
theorem dL_cut_2 : decode cL_cut 2 = .ok (.iload_n 2, 1) := by decide +kernel
theorem dL_cut_3 : decode cL_cut 3 = .ok (.iload_n 3, 1) := by decide +kernel
theorem dL_cut_4 : decode cL_cut 4 = .ok (.invokevirtual 80, 3) := by decide +kernel
theorem dL_cut_7 : decode cL_cut 7 = .ok (.ireturn, 1) := by decide +kernel
theorem dL_cut_8 : decode cL_cut 8 = .ok (.astore 4, 2) := by decide +kernel
theorem dL_cut_10 : decode cL_cut 10 = .ok (.ldc 16, 2) := by decide +kernel
theorem dL_cut_12 : decode cL_cut 12 = .ok (.ireturn, 1) := by decide +kernel
theorem dL_cut_13 : decode cL_cut 13 = .ok (.astore 4, 2) := by decide +kernel
theorem dL_cut_15 : decode cL_cut 15 = .ok (.ldc 16, 2) := by decide +kernel
theorem dL_cut_17 : decode cL_cut 17 = .ok (.ireturn, 1) := by decide +kernel
theorem dL_cut_18 : decode cL_cut 18 = .ok (.astore 4, 2) := by decide +kernel
theorem dL_cut_20 : decode cL_cut 20 = .ok (.ldc 16, 2) := by decide +kernel
theorem dL_cut_22 : decode cL_cut 22 = .ok (.ireturn, 1) := by decide +kernel
theorem dL_lies_0 : decode cL_lies 0 = .ok (.aload_n 0, 1) := by decide +kernel
theorem dL_lies_1 : decode cL_lies 1 = .ok (.iload_n 1, 1) := by decide +kernel
theorem dL_lies_2 : decode cL_lies 2 = .ok (.invokevirtual 83, 3) := by decide +kernel
theorem dL_lies_5 : decode cL_lies 5 = .ok (.ireturn, 1) := by decide +kernel
theorem dL_lies_6 : decode cL_lies 6 = .ok (.astore_n 2, 1) := by decide +kernel
theorem dL_lies_7 : decode cL_lies 7 = .ok (.ldc 16, 2) := by decide +kernel
theorem dL_lies_9 : decode cL_lies 9 = .ok (.ireturn, 1) := by decide +kernel
theorem dL_find_0 : decode cL_find 0 = .ok (.aload_n 0, 1) := by decide +kernel
theorem dL_find_1 : decode cL_find 1 = .ok (.iload_n 1, 1) := by decide +kernel
theorem dL_find_2 : decode cL_find 2 = .ok (.iload_n 2, 1) := by decide +kernel
theorem dL_find_3 : decode cL_find 3 = .ok (.iload_n 3, 1) := by decide +kernel
theorem dL_find_4 : decode cL_find 4 = .ok (.iload 4, 2) := by decide +kernel
theorem dL_find_6 : decode cL_find 6 = .ok (.invokevirtual 86, 3) := by decide +kernel
theorem dL_find_9 : decode cL_find 9 = .ok (.ireturn, 1) := by decide +kernel
theorem dL_find_10 : decode cL_find 10 = .ok (.astore 5, 2) := by decide +kernel
theorem dL_find_12 : decode cL_find 12 = .ok (.ldc 16, 2) := by decide +kernel
theorem dL_find_14 : decode cL_find 14 = .ok (.ireturn, 1) := by decide +kernel
theorem dL_find_15 : decode cL_find 15 = .ok (.astore 5, 2) := by decide +kernel
theorem dL_find_17 : decode cL_find 17 = .ok (.ldc 16, 2) := by decide +kernel
theorem dL_find_19 : decode cL_find 19 = .ok (.ireturn, 1) := by decide +kernel
theorem dL_fits_0 : decode cL_fits 0 = .ok (.aload_n 0, 1) := by decide +kernel
theorem dL_fits_1 : decode cL_fits 1 = .ok (.iload_n 1, 1) := by decide +kernel
theorem dL_fits_2 : decode cL_fits 2 = .ok (.iload_n 2, 1) := by decide +kernel
theorem dL_fits_3 : decode cL_fits 3 = .ok (.iload_n 3, 1) := by decide +kernel
theorem dL_fits_4 : decode cL_fits 4 = .ok (.iload 4, 2) := by decide +kernel
theorem dL_fits_6 : decode cL_fits 6 = .ok (.invokevirtual 89, 3) := by decide +kernel
theorem dL_fits_9 : decode cL_fits 9 = .ok (.ireturn, 1) := by decide +kernel
theorem dL_fits_10 : decode cL_fits 10 = .ok (.astore 5, 2) := by decide +kernel
theorem dL_fits_12 : decode cL_fits 12 = .ok (.ldc 16, 2) := by decide +kernel
theorem dL_fits_14 : decode cL_fits 14 = .ok (.ireturn, 1) := by decide +kernel
theorem dL_fits_15 : decode cL_fits 15 = .ok (.astore 5, 2) := by decide +kernel
theorem dL_fits_17 : decode cL_fits 17 = .ok (.ldc 16, 2) := by decide +kernel
theorem dL_fits_19 : decode cL_fits 19 = .ok (.ireturn, 1) := by decide +kernel
theorem dL_act_0 : decode cL_act 0 = .ok (.iload_n 1, 1) := by decide +kernel
theorem dL_act_1 : decode cL_act 1 = .ok (.bipush 26, 2) := by decide +kernel
theorem dL_act_3 : decode cL_act 3 = .ok (.ishr, 1) := by decide +kernel
theorem dL_act_4 : decode cL_act 4 = .ok (.bipush 14, 2) := by decide +kernel
theorem dL_act_6 : decode cL_act 6 = .ok (.invokestatic 92, 3) := by decide +kernel
theorem dL_act_9 : decode cL_act 9 = .ok (.ifCond .ne 7, 3) := by decide +kernel
theorem dL_act_12 : decode cL_act 12 = .ok (.iconst 1, 1) := by decide +kernel
theorem dL_act_13 : decode cL_act 13 = .ok (.goto 4, 3) := by decide +kernel
theorem dL_act_16 : decode cL_act 16 = .ok (.iconst 0, 1) := by decide +kernel
theorem dL_act_17 : decode cL_act 17 = .ok (.istore_n 2, 1) := by decide +kernel
theorem dL_act_18 : decode cL_act 18 = .ok (.iload_n 2, 1) := by decide +kernel
theorem dL_act_19 : decode cL_act 19 = .ok (.ifCond .eq 16, 3) := by decide +kernel
theorem dL_act_22 : decode cL_act 22 = .ok (.iload_n 1, 1) := by decide +kernel
theorem dL_act_23 : decode cL_act 23 = .ok (.iconst 4, 1) := by decide +kernel
theorem dL_act_24 : decode cL_act 24 = .ok (.ishr, 1) := by decide +kernel
theorem dL_act_25 : decode cL_act 25 = .ok (.bipush 11, 2) := by decide +kernel
theorem dL_act_27 : decode cL_act 27 = .ok (.invokestatic 92, 3) := by decide +kernel
theorem dL_act_30 : decode cL_act 30 = .ok (.iconst 2, 1) := by decide +kernel
theorem dL_act_31 : decode cL_act 31 = .ok (.isub, 1) := by decide +kernel
theorem dL_act_32 : decode cL_act 32 = .ok (.goto 10, 3) := by decide +kernel
theorem dL_act_35 : decode cL_act 35 = .ok (.iload_n 1, 1) := by decide +kernel
theorem dL_act_36 : decode cL_act 36 = .ok (.iconst 4, 1) := by decide +kernel
theorem dL_act_37 : decode cL_act 37 = .ok (.ishr, 1) := by decide +kernel
theorem dL_act_38 : decode cL_act 38 = .ok (.iconst 3, 1) := by decide +kernel
theorem dL_act_39 : decode cL_act 39 = .ok (.invokestatic 92, 3) := by decide +kernel
theorem dL_act_42 : decode cL_act 42 = .ok (.istore_n 3, 1) := by decide +kernel
theorem dL_act_43 : decode cL_act 43 = .ok (.iload_n 2, 1) := by decide +kernel
theorem dL_act_44 : decode cL_act 44 = .ok (.ifCond .eq 17, 3) := by decide +kernel
theorem dL_act_47 : decode cL_act 47 = .ok (.iload_n 1, 1) := by decide +kernel
theorem dL_act_48 : decode cL_act 48 = .ok (.bipush 7, 2) := by decide +kernel
theorem dL_act_50 : decode cL_act 50 = .ok (.ishr, 1) := by decide +kernel
theorem dL_act_51 : decode cL_act 51 = .ok (.bipush 13, 2) := by decide +kernel
theorem dL_act_53 : decode cL_act 53 = .ok (.invokestatic 92, 3) := by decide +kernel
theorem dL_act_56 : decode cL_act 56 = .ok (.iconst 2, 1) := by decide +kernel
theorem dL_act_57 : decode cL_act 57 = .ok (.isub, 1) := by decide +kernel
theorem dL_act_58 : decode cL_act 58 = .ok (.goto 11, 3) := by decide +kernel
theorem dL_act_61 : decode cL_act 61 = .ok (.iload_n 1, 1) := by decide +kernel
theorem dL_act_62 : decode cL_act 62 = .ok (.bipush 7, 2) := by decide +kernel
theorem dL_act_64 : decode cL_act 64 = .ok (.ishr, 1) := by decide +kernel
theorem dL_act_65 : decode cL_act 65 = .ok (.iconst 3, 1) := by decide +kernel
theorem dL_act_66 : decode cL_act 66 = .ok (.invokestatic 92, 3) := by decide +kernel
theorem dL_act_69 : decode cL_act 69 = .ok (.istore 4, 2) := by decide +kernel
theorem dL_act_71 : decode cL_act 71 = .ok (.iload_n 2, 1) := by decide +kernel
theorem dL_act_72 : decode cL_act 72 = .ok (.ifCond .eq 9, 3) := by decide +kernel
theorem dL_act_75 : decode cL_act 75 = .ok (.iload_n 1, 1) := by decide +kernel
theorem dL_act_76 : decode cL_act 76 = .ok (.iconst 5, 1) := by decide +kernel
theorem dL_act_77 : decode cL_act 77 = .ok (.ishr, 1) := by decide +kernel
theorem dL_act_78 : decode cL_act 78 = .ok (.goto 12, 3) := by decide +kernel
theorem dL_act_81 : decode cL_act 81 = .ok (.iload_n 1, 1) := by decide +kernel
theorem dL_act_82 : decode cL_act 82 = .ok (.iconst 5, 1) := by decide +kernel
theorem dL_act_83 : decode cL_act 83 = .ok (.ishr, 1) := by decide +kernel
theorem dL_act_84 : decode cL_act 84 = .ok (.sipush 360, 3) := by decide +kernel
theorem dL_act_87 : decode cL_act 87 = .ok (.invokestatic 92, 3) := by decide +kernel
theorem dL_act_90 : decode cL_act 90 = .ok (.istore 5, 2) := by decide +kernel
theorem dL_act_92 : decode cL_act 92 = .ok (.iload_n 2, 1) := by decide +kernel
theorem dL_act_93 : decode cL_act 93 = .ok (.ifCond .eq 10, 3) := by decide +kernel
theorem dL_act_96 : decode cL_act 96 = .ok (.iload_n 1, 1) := by decide +kernel
theorem dL_act_97 : decode cL_act 97 = .ok (.bipush 8, 2) := by decide +kernel
theorem dL_act_99 : decode cL_act 99 = .ok (.ishr, 1) := by decide +kernel
theorem dL_act_100 : decode cL_act 100 = .ok (.goto 16, 3) := by decide +kernel
theorem dL_act_103 : decode cL_act 103 = .ok (.bipush 60, 2) := by decide +kernel
theorem dL_act_105 : decode cL_act 105 = .ok (.iload_n 1, 1) := by decide +kernel
theorem dL_act_106 : decode cL_act 106 = .ok (.bipush 8, 2) := by decide +kernel
theorem dL_act_108 : decode cL_act 108 = .ok (.ishr, 1) := by decide +kernel
theorem dL_act_109 : decode cL_act 109 = .ok (.sipush 240, 3) := by decide +kernel
theorem dL_act_112 : decode cL_act 112 = .ok (.invokestatic 92, 3) := by decide +kernel
theorem dL_act_115 : decode cL_act 115 = .ok (.iadd, 1) := by decide +kernel
theorem dL_act_116 : decode cL_act 116 = .ok (.istore 6, 2) := by decide +kernel
theorem dL_act_118 : decode cL_act 118 = .ok (.iload_n 2, 1) := by decide +kernel
theorem dL_act_119 : decode cL_act 119 = .ok (.ifCond .eq 17, 3) := by decide +kernel
theorem dL_act_122 : decode cL_act 122 = .ok (.iload_n 1, 1) := by decide +kernel
theorem dL_act_123 : decode cL_act 123 = .ok (.bipush 12, 2) := by decide +kernel
theorem dL_act_125 : decode cL_act 125 = .ok (.ishr, 1) := by decide +kernel
theorem dL_act_126 : decode cL_act 126 = .ok (.bipush 100, 2) := by decide +kernel
theorem dL_act_128 : decode cL_act 128 = .ok (.invokestatic 92, 3) := by decide +kernel
theorem dL_act_131 : decode cL_act 131 = .ok (.iconst 4, 1) := by decide +kernel
theorem dL_act_132 : decode cL_act 132 = .ok (.isub, 1) := by decide +kernel
theorem dL_act_133 : decode cL_act 133 = .ok (.goto 12, 3) := by decide +kernel
theorem dL_act_136 : decode cL_act 136 = .ok (.iload_n 1, 1) := by decide +kernel
theorem dL_act_137 : decode cL_act 137 = .ok (.bipush 12, 2) := by decide +kernel
theorem dL_act_139 : decode cL_act 139 = .ok (.ishr, 1) := by decide +kernel
theorem dL_act_140 : decode cL_act 140 = .ok (.bipush 91, 2) := by decide +kernel
theorem dL_act_142 : decode cL_act 142 = .ok (.invokestatic 92, 3) := by decide +kernel
theorem dL_act_145 : decode cL_act 145 = .ok (.istore 7, 2) := by decide +kernel
theorem dL_act_147 : decode cL_act 147 = .ok (.iload_n 2, 1) := by decide +kernel
theorem dL_act_148 : decode cL_act 148 = .ok (.ifCond .eq 10, 3) := by decide +kernel
theorem dL_act_151 : decode cL_act 151 = .ok (.iload_n 1, 1) := by decide +kernel
theorem dL_act_152 : decode cL_act 152 = .ok (.bipush 9, 2) := by decide +kernel
theorem dL_act_154 : decode cL_act 154 = .ok (.ishr, 1) := by decide +kernel
theorem dL_act_155 : decode cL_act 155 = .ok (.goto 15, 3) := by decide +kernel
theorem dL_act_158 : decode cL_act 158 = .ok (.iload_n 1, 1) := by decide +kernel
theorem dL_act_159 : decode cL_act 159 = .ok (.bipush 9, 2) := by decide +kernel
theorem dL_act_161 : decode cL_act 161 = .ok (.ishr, 1) := by decide +kernel
theorem dL_act_162 : decode cL_act 162 = .ok (.bipush 121, 2) := by decide +kernel
theorem dL_act_164 : decode cL_act 164 = .ok (.invokestatic 92, 3) := by decide +kernel
theorem dL_act_167 : decode cL_act 167 = .ok (.bipush 60, 2) := by decide +kernel
theorem dL_act_169 : decode cL_act 169 = .ok (.isub, 1) := by decide +kernel
theorem dL_act_170 : decode cL_act 170 = .ok (.istore 8, 2) := by decide +kernel
theorem dL_act_172 : decode cL_act 172 = .ok (.iload_n 2, 1) := by decide +kernel
theorem dL_act_173 : decode cL_act 173 = .ok (.ifCond .eq 17, 3) := by decide +kernel
theorem dL_act_176 : decode cL_act 176 = .ok (.iload_n 1, 1) := by decide +kernel
theorem dL_act_177 : decode cL_act 177 = .ok (.bipush 11, 2) := by decide +kernel
theorem dL_act_179 : decode cL_act 179 = .ok (.ishr, 1) := by decide +kernel
theorem dL_act_180 : decode cL_act 180 = .ok (.bipush 8, 2) := by decide +kernel
theorem dL_act_182 : decode cL_act 182 = .ok (.invokestatic 92, 3) := by decide +kernel
theorem dL_act_185 : decode cL_act 185 = .ok (.iconst 1, 1) := by decide +kernel
theorem dL_act_186 : decode cL_act 186 = .ok (.isub, 1) := by decide +kernel
theorem dL_act_187 : decode cL_act 187 = .ok (.goto 11, 3) := by decide +kernel
theorem dL_act_190 : decode cL_act 190 = .ok (.iload_n 1, 1) := by decide +kernel
theorem dL_act_191 : decode cL_act 191 = .ok (.bipush 11, 2) := by decide +kernel
theorem dL_act_193 : decode cL_act 193 = .ok (.ishr, 1) := by decide +kernel
theorem dL_act_194 : decode cL_act 194 = .ok (.iconst 3, 1) := by decide +kernel
theorem dL_act_195 : decode cL_act 195 = .ok (.invokestatic 92, 3) := by decide +kernel
theorem dL_act_198 : decode cL_act 198 = .ok (.istore 9, 2) := by decide +kernel
theorem dL_act_200 : decode cL_act 200 = .ok (.iload_n 1, 1) := by decide +kernel
theorem dL_act_201 : decode cL_act 201 = .ok (.bipush 46, 2) := by decide +kernel
theorem dL_act_203 : decode cL_act 203 = .ok (.invokestatic 92, 3) := by decide +kernel
theorem dL_act_206 : decode cL_act 206 = .ok (.tableswitch 846 0 42 #[186, 213, 225, 225, 259, 259, 311, 311, 322, 331, 331, 331, 331, 359, 394, 394, 425, 425, 425, 425, 438, 438, 438, 438, 438, 465, 477, 477, 477, 523, 523, 569, 569, 569, 581, 628, 667, 667, 667, 717, 725, 730, 795], 186) := by decide +kernel
theorem dL_act_392 : decode cL_act 392 = .ok (.aload_n 0, 1) := by decide +kernel
theorem dL_act_393 : decode cL_act 393 = .ok (.iload_n 2, 1) := by decide +kernel
theorem dL_act_394 : decode cL_act 394 = .ok (.ifCond .eq 7, 3) := by decide +kernel
theorem dL_act_397 : decode cL_act 397 = .ok (.iload_n 1, 1) := by decide +kernel
theorem dL_act_398 : decode cL_act 398 = .ok (.goto 16, 3) := by decide +kernel
theorem dL_act_401 : decode cL_act 401 = .ok (.iload_n 1, 1) := by decide +kernel
theorem dL_act_402 : decode cL_act 402 = .ok (.iconst 3, 1) := by decide +kernel
theorem dL_act_403 : decode cL_act 403 = .ok (.ishr, 1) := by decide +kernel
theorem dL_act_404 : decode cL_act 404 = .ok (.sipush 2000, 3) := by decide +kernel
theorem dL_act_407 : decode cL_act 407 = .ok (.invokestatic 92, 3) := by decide +kernel
theorem dL_act_410 : decode cL_act 410 = .ok (.sipush 1000, 3) := by decide +kernel
theorem dL_act_413 : decode cL_act 413 = .ok (.isub, 1) := by decide +kernel
theorem dL_act_414 : decode cL_act 414 = .ok (.invokestatic 97, 3) := by decide +kernel
theorem dL_act_417 : decode cL_act 417 = .ok (.i2l, 1) := by decide +kernel
theorem dL_act_418 : decode cL_act 418 = .ok (.lreturn, 1) := by decide +kernel
theorem dL_act_419 : decode cL_act 419 = .ok (.aload_n 0, 1) := by decide +kernel
theorem dL_act_420 : decode cL_act 420 = .ok (.iload 5, 2) := by decide +kernel
theorem dL_act_422 : decode cL_act 422 = .ok (.iload 9, 2) := by decide +kernel
theorem dL_act_424 : decode cL_act 424 = .ok (.iconst 2, 1) := by decide +kernel
theorem dL_act_425 : decode cL_act 425 = .ok (.irem, 1) := by decide +kernel
theorem dL_act_426 : decode cL_act 426 = .ok (.invokestatic 100, 3) := by decide +kernel
theorem dL_act_429 : decode cL_act 429 = .ok (.i2l, 1) := by decide +kernel
theorem dL_act_430 : decode cL_act 430 = .ok (.lreturn, 1) := by decide +kernel
theorem dL_act_431 : decode cL_act 431 = .ok (.aload_n 0, 1) := by decide +kernel
theorem dL_act_432 : decode cL_act 432 = .ok (.iload_n 2, 1) := by decide +kernel
theorem dL_act_433 : decode cL_act 433 = .ok (.ifCond .eq 9, 3) := by decide +kernel
theorem dL_act_436 : decode cL_act 436 = .ok (.iload_n 1, 1) := by decide +kernel
theorem dL_act_437 : decode cL_act 437 = .ok (.iconst 3, 1) := by decide +kernel
theorem dL_act_438 : decode cL_act 438 = .ok (.ishr, 1) := by decide +kernel
theorem dL_act_439 : decode cL_act 439 = .ok (.goto 16, 3) := by decide +kernel
theorem dL_act_442 : decode cL_act 442 = .ok (.iload_n 1, 1) := by decide +kernel
theorem dL_act_443 : decode cL_act 443 = .ok (.bipush 10, 2) := by decide +kernel
theorem dL_act_445 : decode cL_act 445 = .ok (.ishr, 1) := by decide +kernel
theorem dL_act_446 : decode cL_act 446 = .ok (.sipush 133, 3) := by decide +kernel
theorem dL_act_449 : decode cL_act 449 = .ok (.invokestatic 92, 3) := by decide +kernel
theorem dL_act_452 : decode cL_act 452 = .ok (.bipush 66, 2) := by decide +kernel
theorem dL_act_454 : decode cL_act 454 = .ok (.isub, 1) := by decide +kernel
theorem dL_act_455 : decode cL_act 455 = .ok (.iload 5, 2) := by decide +kernel
theorem dL_act_457 : decode cL_act 457 = .ok (.iload 6, 2) := by decide +kernel
theorem dL_act_459 : decode cL_act 459 = .ok (.iload 9, 2) := by decide +kernel
theorem dL_act_461 : decode cL_act 461 = .ok (.invokestatic 103, 3) := by decide +kernel
theorem dL_act_464 : decode cL_act 464 = .ok (.lreturn, 1) := by decide +kernel
theorem dL_act_465 : decode cL_act 465 = .ok (.aload_n 0, 1) := by decide +kernel
theorem dL_act_466 : decode cL_act 466 = .ok (.iload_n 2, 1) := by decide +kernel
theorem dL_act_467 : decode cL_act 467 = .ok (.ifCond .eq 9, 3) := by decide +kernel
theorem dL_act_470 : decode cL_act 470 = .ok (.iload_n 1, 1) := by decide +kernel
theorem dL_act_471 : decode cL_act 471 = .ok (.iconst 3, 1) := by decide +kernel
theorem dL_act_472 : decode cL_act 472 = .ok (.ishr, 1) := by decide +kernel
theorem dL_act_473 : decode cL_act 473 = .ok (.goto 16, 3) := by decide +kernel
theorem dL_act_476 : decode cL_act 476 = .ok (.iload_n 1, 1) := by decide +kernel
theorem dL_act_477 : decode cL_act 477 = .ok (.bipush 10, 2) := by decide +kernel
theorem dL_act_479 : decode cL_act 479 = .ok (.ishr, 1) := by decide +kernel
theorem dL_act_480 : decode cL_act 480 = .ok (.sipush 133, 3) := by decide +kernel
theorem dL_act_483 : decode cL_act 483 = .ok (.invokestatic 92, 3) := by decide +kernel
theorem dL_act_486 : decode cL_act 486 = .ok (.bipush 66, 2) := by decide +kernel
theorem dL_act_488 : decode cL_act 488 = .ok (.isub, 1) := by decide +kernel
theorem dL_act_489 : decode cL_act 489 = .ok (.iload_n 2, 1) := by decide +kernel
theorem dL_act_490 : decode cL_act 490 = .ok (.ifCond .eq 9, 3) := by decide +kernel
theorem dL_act_493 : decode cL_act 493 = .ok (.iload_n 1, 1) := by decide +kernel
theorem dL_act_494 : decode cL_act 494 = .ok (.iconst 4, 1) := by decide +kernel
theorem dL_act_495 : decode cL_act 495 = .ok (.ishr, 1) := by decide +kernel
theorem dL_act_496 : decode cL_act 496 = .ok (.goto 16, 3) := by decide +kernel
theorem dL_act_499 : decode cL_act 499 = .ok (.iload_n 1, 1) := by decide +kernel
theorem dL_act_500 : decode cL_act 500 = .ok (.iconst 3, 1) := by decide +kernel
theorem dL_act_501 : decode cL_act 501 = .ok (.ishr, 1) := by decide +kernel
theorem dL_act_502 : decode cL_act 502 = .ok (.sipush 1441, 3) := by decide +kernel
theorem dL_act_505 : decode cL_act 505 = .ok (.invokestatic 92, 3) := by decide +kernel
theorem dL_act_508 : decode cL_act 508 = .ok (.sipush 720, 3) := by decide +kernel
theorem dL_act_511 : decode cL_act 511 = .ok (.isub, 1) := by decide +kernel
theorem dL_act_512 : decode cL_act 512 = .ok (.invokestatic 106, 3) := by decide +kernel
theorem dL_act_515 : decode cL_act 515 = .ok (.i2l, 1) := by decide +kernel
theorem dL_act_516 : decode cL_act 516 = .ok (.lreturn, 1) := by decide +kernel
theorem dL_act_517 : decode cL_act 517 = .ok (.aload_n 0, 1) := by decide +kernel
theorem dL_act_518 : decode cL_act 518 = .ok (.iload_n 3, 1) := by decide +kernel
theorem dL_act_519 : decode cL_act 519 = .ok (.iload 5, 2) := by decide +kernel
theorem dL_act_521 : decode cL_act 521 = .ok (.iload 9, 2) := by decide +kernel
theorem dL_act_523 : decode cL_act 523 = .ok (.invokestatic 108, 3) := by decide +kernel
theorem dL_act_526 : decode cL_act 526 = .ok (.i2l, 1) := by decide +kernel
theorem dL_act_527 : decode cL_act 527 = .ok (.lreturn, 1) := by decide +kernel
theorem dL_act_528 : decode cL_act 528 = .ok (.aload_n 0, 1) := by decide +kernel
theorem dL_act_529 : decode cL_act 529 = .ok (.iload_n 3, 1) := by decide +kernel
theorem dL_act_530 : decode cL_act 530 = .ok (.iload 5, 2) := by decide +kernel
theorem dL_act_532 : decode cL_act 532 = .ok (.invokestatic 111, 3) := by decide +kernel
theorem dL_act_535 : decode cL_act 535 = .ok (.i2l, 1) := by decide +kernel
theorem dL_act_536 : decode cL_act 536 = .ok (.lreturn, 1) := by decide +kernel
theorem dL_act_537 : decode cL_act 537 = .ok (.aload_n 0, 1) := by decide +kernel
theorem dL_act_538 : decode cL_act 538 = .ok (.iload_n 3, 1) := by decide +kernel
theorem dL_act_539 : decode cL_act 539 = .ok (.iload 5, 2) := by decide +kernel
theorem dL_act_541 : decode cL_act 541 = .ok (.iload 6, 2) := by decide +kernel
theorem dL_act_543 : decode cL_act 543 = .ok (.iload_n 2, 1) := by decide +kernel
theorem dL_act_544 : decode cL_act 544 = .ok (.ifCond .eq 8, 3) := by decide +kernel
theorem dL_act_547 : decode cL_act 547 = .ok (.iload 9, 2) := by decide +kernel
theorem dL_act_549 : decode cL_act 549 = .ok (.goto 11, 3) := by decide +kernel
theorem dL_act_552 : decode cL_act 552 = .ok (.iload_n 1, 1) := by decide +kernel
theorem dL_act_553 : decode cL_act 553 = .ok (.bipush 11, 2) := by decide +kernel
theorem dL_act_555 : decode cL_act 555 = .ok (.ishr, 1) := by decide +kernel
theorem dL_act_556 : decode cL_act 556 = .ok (.iconst 4, 1) := by decide +kernel
theorem dL_act_557 : decode cL_act 557 = .ok (.invokestatic 92, 3) := by decide +kernel
theorem dL_act_560 : decode cL_act 560 = .ok (.invokestatic 113, 3) := by decide +kernel
theorem dL_act_563 : decode cL_act 563 = .ok (.i2l, 1) := by decide +kernel
theorem dL_act_564 : decode cL_act 564 = .ok (.lreturn, 1) := by decide +kernel
theorem dL_act_565 : decode cL_act 565 = .ok (.aload_n 0, 1) := by decide +kernel
theorem dL_act_566 : decode cL_act 566 = .ok (.iload 5, 2) := by decide +kernel
theorem dL_act_568 : decode cL_act 568 = .ok (.iload_n 2, 1) := by decide +kernel
theorem dL_act_569 : decode cL_act 569 = .ok (.ifCond .eq 10, 3) := by decide +kernel
theorem dL_act_572 : decode cL_act 572 = .ok (.iload 9, 2) := by decide +kernel
theorem dL_act_574 : decode cL_act 574 = .ok (.iconst 2, 1) := by decide +kernel
theorem dL_act_575 : decode cL_act 575 = .ok (.isub, 1) := by decide +kernel
theorem dL_act_576 : decode cL_act 576 = .ok (.goto 19, 3) := by decide +kernel
theorem dL_act_579 : decode cL_act 579 = .ok (.iload 5, 2) := by decide +kernel
theorem dL_act_581 : decode cL_act 581 = .ok (.iload_n 1, 1) := by decide +kernel
theorem dL_act_582 : decode cL_act 582 = .ok (.bipush 11, 2) := by decide +kernel
theorem dL_act_584 : decode cL_act 584 = .ok (.ishr, 1) := by decide +kernel
theorem dL_act_585 : decode cL_act 585 = .ok (.sipush 360, 3) := by decide +kernel
theorem dL_act_588 : decode cL_act 588 = .ok (.iload 5, 2) := by decide +kernel
theorem dL_act_590 : decode cL_act 590 = .ok (.isub, 1) := by decide +kernel
theorem dL_act_591 : decode cL_act 591 = .ok (.invokestatic 92, 3) := by decide +kernel
theorem dL_act_594 : decode cL_act 594 = .ok (.iadd, 1) := by decide +kernel
theorem dL_act_595 : decode cL_act 595 = .ok (.invokestatic 116, 3) := by decide +kernel
theorem dL_act_598 : decode cL_act 598 = .ok (.i2l, 1) := by decide +kernel
theorem dL_act_599 : decode cL_act 599 = .ok (.lreturn, 1) := by decide +kernel
theorem dL_act_600 : decode cL_act 600 = .ok (.aload_n 0, 1) := by decide +kernel
theorem dL_act_601 : decode cL_act 601 = .ok (.iload_n 3, 1) := by decide +kernel
theorem dL_act_602 : decode cL_act 602 = .ok (.iload 7, 2) := by decide +kernel
theorem dL_act_604 : decode cL_act 604 = .ok (.iload 8, 2) := by decide +kernel
theorem dL_act_606 : decode cL_act 606 = .ok (.iload_n 2, 1) := by decide +kernel
theorem dL_act_607 : decode cL_act 607 = .ok (.ifCond .eq 8, 3) := by decide +kernel
theorem dL_act_610 : decode cL_act 610 = .ok (.iload 9, 2) := by decide +kernel
theorem dL_act_612 : decode cL_act 612 = .ok (.goto 14, 3) := by decide +kernel
theorem dL_act_615 : decode cL_act 615 = .ok (.iconst 1, 1) := by decide +kernel
theorem dL_act_616 : decode cL_act 616 = .ok (.iload_n 1, 1) := by decide +kernel
theorem dL_act_617 : decode cL_act 617 = .ok (.iconst 3, 1) := by decide +kernel
theorem dL_act_618 : decode cL_act 618 = .ok (.ishr, 1) := by decide +kernel
theorem dL_act_619 : decode cL_act 619 = .ok (.sipush 500, 3) := by decide +kernel
theorem dL_act_622 : decode cL_act 622 = .ok (.invokestatic 92, 3) := by decide +kernel
theorem dL_act_625 : decode cL_act 625 = .ok (.iadd, 1) := by decide +kernel
theorem dL_act_626 : decode cL_act 626 = .ok (.invokestatic 118, 3) := by decide +kernel
theorem dL_act_629 : decode cL_act 629 = .ok (.i2l, 1) := by decide +kernel
theorem dL_act_630 : decode cL_act 630 = .ok (.lreturn, 1) := by decide +kernel
theorem dL_act_631 : decode cL_act 631 = .ok (.aload_n 0, 1) := by decide +kernel
theorem dL_act_632 : decode cL_act 632 = .ok (.iload 4, 2) := by decide +kernel
theorem dL_act_634 : decode cL_act 634 = .ok (.iload_n 3, 1) := by decide +kernel
theorem dL_act_635 : decode cL_act 635 = .ok (.iload 7, 2) := by decide +kernel
theorem dL_act_637 : decode cL_act 637 = .ok (.iload 8, 2) := by decide +kernel
theorem dL_act_639 : decode cL_act 639 = .ok (.invokestatic 120, 3) := by decide +kernel
theorem dL_act_642 : decode cL_act 642 = .ok (.i2l, 1) := by decide +kernel
theorem dL_act_643 : decode cL_act 643 = .ok (.lreturn, 1) := by decide +kernel
theorem dL_act_644 : decode cL_act 644 = .ok (.aload_n 0, 1) := by decide +kernel
theorem dL_act_645 : decode cL_act 645 = .ok (.iload 4, 2) := by decide +kernel
theorem dL_act_647 : decode cL_act 647 = .ok (.iload 5, 2) := by decide +kernel
theorem dL_act_649 : decode cL_act 649 = .ok (.iload 6, 2) := by decide +kernel
theorem dL_act_651 : decode cL_act 651 = .ok (.iload_n 1, 1) := by decide +kernel
theorem dL_act_652 : decode cL_act 652 = .ok (.bipush 10, 2) := by decide +kernel
theorem dL_act_654 : decode cL_act 654 = .ok (.ishr, 1) := by decide +kernel
theorem dL_act_655 : decode cL_act 655 = .ok (.iconst 1, 1) := by decide +kernel
theorem dL_act_656 : decode cL_act 656 = .ok (.iand, 1) := by decide +kernel
theorem dL_act_657 : decode cL_act 657 = .ok (.iconst 1, 1) := by decide +kernel
theorem dL_act_658 : decode cL_act 658 = .ok (.if_icmp .ne 7, 3) := by decide +kernel
theorem dL_act_661 : decode cL_act 661 = .ok (.iconst 1, 1) := by decide +kernel
theorem dL_act_662 : decode cL_act 662 = .ok (.goto 4, 3) := by decide +kernel
theorem dL_act_665 : decode cL_act 665 = .ok (.iconst 0, 1) := by decide +kernel
theorem dL_act_666 : decode cL_act 666 = .ok (.invokestatic 122, 3) := by decide +kernel
theorem dL_act_669 : decode cL_act 669 = .ok (.i2l, 1) := by decide +kernel
theorem dL_act_670 : decode cL_act 670 = .ok (.lreturn, 1) := by decide +kernel
theorem dL_act_671 : decode cL_act 671 = .ok (.aload_n 0, 1) := by decide +kernel
theorem dL_act_672 : decode cL_act 672 = .ok (.iload 4, 2) := by decide +kernel
theorem dL_act_674 : decode cL_act 674 = .ok (.iload 5, 2) := by decide +kernel
theorem dL_act_676 : decode cL_act 676 = .ok (.iload 6, 2) := by decide +kernel
theorem dL_act_678 : decode cL_act 678 = .ok (.invokestatic 125, 3) := by decide +kernel
theorem dL_act_681 : decode cL_act 681 = .ok (.i2l, 1) := by decide +kernel
theorem dL_act_682 : decode cL_act 682 = .ok (.lreturn, 1) := by decide +kernel
theorem dL_act_683 : decode cL_act 683 = .ok (.aload_n 0, 1) := by decide +kernel
theorem dL_act_684 : decode cL_act 684 = .ok (.iload 4, 2) := by decide +kernel
theorem dL_act_686 : decode cL_act 686 = .ok (.iload_n 2, 1) := by decide +kernel
theorem dL_act_687 : decode cL_act 687 = .ok (.ifCond .eq 8, 3) := by decide +kernel
theorem dL_act_690 : decode cL_act 690 = .ok (.iload 9, 2) := by decide +kernel
theorem dL_act_692 : decode cL_act 692 = .ok (.goto 15, 3) := by decide +kernel
theorem dL_act_695 : decode cL_act 695 = .ok (.bipush 7, 2) := by decide +kernel
theorem dL_act_697 : decode cL_act 697 = .ok (.iload_n 1, 1) := by decide +kernel
theorem dL_act_698 : decode cL_act 698 = .ok (.bipush 9, 2) := by decide +kernel
theorem dL_act_700 : decode cL_act 700 = .ok (.ishr, 1) := by decide +kernel
theorem dL_act_701 : decode cL_act 701 = .ok (.bipush 11, 2) := by decide +kernel
theorem dL_act_703 : decode cL_act 703 = .ok (.invokestatic 92, 3) := by decide +kernel
theorem dL_act_706 : decode cL_act 706 = .ok (.iadd, 1) := by decide +kernel
theorem dL_act_707 : decode cL_act 707 = .ok (.iload_n 2, 1) := by decide +kernel
theorem dL_act_708 : decode cL_act 708 = .ok (.ifCond .eq 8, 3) := by decide +kernel
theorem dL_act_711 : decode cL_act 711 = .ok (.iload 6, 2) := by decide +kernel
theorem dL_act_713 : decode cL_act 713 = .ok (.goto 11, 3) := by decide +kernel
theorem dL_act_716 : decode cL_act 716 = .ok (.iload_n 1, 1) := by decide +kernel
theorem dL_act_717 : decode cL_act 717 = .ok (.bipush 11, 2) := by decide +kernel
theorem dL_act_719 : decode cL_act 719 = .ok (.ishr, 1) := by decide +kernel
theorem dL_act_720 : decode cL_act 720 = .ok (.iconst 5, 1) := by decide +kernel
theorem dL_act_721 : decode cL_act 721 = .ok (.invokestatic 92, 3) := by decide +kernel
theorem dL_act_724 : decode cL_act 724 = .ok (.invokestatic 127, 3) := by decide +kernel
theorem dL_act_727 : decode cL_act 727 = .ok (.i2l, 1) := by decide +kernel
theorem dL_act_728 : decode cL_act 728 = .ok (.lreturn, 1) := by decide +kernel
theorem dL_act_729 : decode cL_act 729 = .ok (.aload_n 0, 1) := by decide +kernel
theorem dL_act_730 : decode cL_act 730 = .ok (.iload 4, 2) := by decide +kernel
theorem dL_act_732 : decode cL_act 732 = .ok (.iload_n 2, 1) := by decide +kernel
theorem dL_act_733 : decode cL_act 733 = .ok (.ifCond .eq 7, 3) := by decide +kernel
theorem dL_act_736 : decode cL_act 736 = .ok (.iload_n 1, 1) := by decide +kernel
theorem dL_act_737 : decode cL_act 737 = .ok (.goto 17, 3) := by decide +kernel
theorem dL_act_740 : decode cL_act 740 = .ok (.iload_n 1, 1) := by decide +kernel
theorem dL_act_741 : decode cL_act 741 = .ok (.bipush 9, 2) := by decide +kernel
theorem dL_act_743 : decode cL_act 743 = .ok (.ishr, 1) := by decide +kernel
theorem dL_act_744 : decode cL_act 744 = .ok (.sipush 2000, 3) := by decide +kernel
theorem dL_act_747 : decode cL_act 747 = .ok (.invokestatic 92, 3) := by decide +kernel
theorem dL_act_750 : decode cL_act 750 = .ok (.sipush 1000, 3) := by decide +kernel
theorem dL_act_753 : decode cL_act 753 = .ok (.isub, 1) := by decide +kernel
theorem dL_act_754 : decode cL_act 754 = .ok (.iload_n 1, 1) := by decide +kernel
theorem dL_act_755 : decode cL_act 755 = .ok (.bipush 11, 2) := by decide +kernel
theorem dL_act_757 : decode cL_act 757 = .ok (.ishr, 1) := by decide +kernel
theorem dL_act_758 : decode cL_act 758 = .ok (.sipush 2000, 3) := by decide +kernel
theorem dL_act_761 : decode cL_act 761 = .ok (.invokestatic 92, 3) := by decide +kernel
theorem dL_act_764 : decode cL_act 764 = .ok (.sipush 1000, 3) := by decide +kernel
theorem dL_act_767 : decode cL_act 767 = .ok (.isub, 1) := by decide +kernel
theorem dL_act_768 : decode cL_act 768 = .ok (.iload 5, 2) := by decide +kernel
theorem dL_act_770 : decode cL_act 770 = .ok (.invokestatic 129, 3) := by decide +kernel
theorem dL_act_773 : decode cL_act 773 = .ok (.i2l, 1) := by decide +kernel
theorem dL_act_774 : decode cL_act 774 = .ok (.lreturn, 1) := by decide +kernel
theorem dL_act_775 : decode cL_act 775 = .ok (.aload_n 0, 1) := by decide +kernel
theorem dL_act_776 : decode cL_act 776 = .ok (.iload 4, 2) := by decide +kernel
theorem dL_act_778 : decode cL_act 778 = .ok (.iload 5, 2) := by decide +kernel
theorem dL_act_780 : decode cL_act 780 = .ok (.iload 6, 2) := by decide +kernel
theorem dL_act_782 : decode cL_act 782 = .ok (.invokestatic 131, 3) := by decide +kernel
theorem dL_act_785 : decode cL_act 785 = .ok (.i2l, 1) := by decide +kernel
theorem dL_act_786 : decode cL_act 786 = .ok (.lreturn, 1) := by decide +kernel
theorem dL_act_787 : decode cL_act 787 = .ok (.iload_n 1, 1) := by decide +kernel
theorem dL_act_788 : decode cL_act 788 = .ok (.bipush 9, 2) := by decide +kernel
theorem dL_act_790 : decode cL_act 790 = .ok (.ishr, 1) := by decide +kernel
theorem dL_act_791 : decode cL_act 791 = .ok (.bipush 6, 2) := by decide +kernel
