theorem dL_sine_0 : decode cL_sine 0 = .ok (.aload_n 2, 1) := by decide +kernel
theorem dL_sine_1 : decode cL_sine 1 = .ok (.iconst 0, 1) := by decide +kernel
theorem dL_sine_2 : decode cL_sine 2 = .ok (.aload_n 0, 1) := by decide +kernel
theorem dL_sine_3 : decode cL_sine 3 = .ok (.iload_n 1, 1) := by decide +kernel
theorem dL_sine_4 : decode cL_sine 4 = .ok (.invokevirtual 7, 3) := by decide +kernel
theorem dL_sine_7 : decode cL_sine 7 = .ok (.i2l, 1) := by decide +kernel
theorem dL_sine_8 : decode cL_sine 8 = .ok (.lastore, 1) := by decide +kernel
theorem dL_sine_9 : decode cL_sine 9 = .ok (.goto 6, 3) := by decide +kernel
theorem dL_sine_12 : decode cL_sine 12 = .ok (.astore_n 3, 1) := by decide +kernel
theorem dL_sine_13 : decode cL_sine 13 = .ok (.iconst 1, 1) := by decide +kernel
theorem dL_sine_14 : decode cL_sine 14 = .ok (.ireturn, 1) := by decide +kernel
theorem dL_sine_15 : decode cL_sine 15 = .ok (.iconst 0, 1) := by decide +kernel
theorem dL_sine_16 : decode cL_sine 16 = .ok (.ireturn, 1) := by decide +kernel
theorem dL_day_0 : decode cL_day 0 = .ok (.aload_n 3, 1) := by decide +kernel
theorem dL_day_1 : decode cL_day 1 = .ok (.iconst 0, 1) := by decide +kernel
theorem dL_day_2 : decode cL_day 2 = .ok (.aload_n 0, 1) := by decide +kernel
theorem dL_day_3 : decode cL_day 3 = .ok (.iload_n 1, 1) := by decide +kernel
theorem dL_day_4 : decode cL_day 4 = .ok (.iload_n 2, 1) := by decide +kernel
theorem dL_day_5 : decode cL_day 5 = .ok (.invokevirtual 15, 3) := by decide +kernel
theorem dL_day_8 : decode cL_day 8 = .ok (.i2l, 1) := by decide +kernel
theorem dL_day_9 : decode cL_day 9 = .ok (.lastore, 1) := by decide +kernel
theorem dL_day_10 : decode cL_day 10 = .ok (.goto 7, 3) := by decide +kernel
theorem dL_day_13 : decode cL_day 13 = .ok (.astore 4, 2) := by decide +kernel
theorem dL_day_15 : decode cL_day 15 = .ok (.iconst 1, 1) := by decide +kernel
theorem dL_day_16 : decode cL_day 16 = .ok (.ireturn, 1) := by decide +kernel
theorem dL_day_17 : decode cL_day 17 = .ok (.iconst 0, 1) := by decide +kernel
theorem dL_day_18 : decode cL_day 18 = .ok (.ireturn, 1) := by decide +kernel
theorem dL_sun_0 : decode cL_sun 0 = .ok (.aload 5, 2) := by decide +kernel
theorem dL_sun_2 : decode cL_sun 2 = .ok (.iconst 0, 1) := by decide +kernel
theorem dL_sun_3 : decode cL_sun 3 = .ok (.aload_n 0, 1) := by decide +kernel
theorem dL_sun_4 : decode cL_sun 4 = .ok (.iload_n 1, 1) := by decide +kernel
theorem dL_sun_5 : decode cL_sun 5 = .ok (.iload_n 2, 1) := by decide +kernel
theorem dL_sun_6 : decode cL_sun 6 = .ok (.iload_n 3, 1) := by decide +kernel
theorem dL_sun_7 : decode cL_sun 7 = .ok (.iload 4, 2) := by decide +kernel
theorem dL_sun_9 : decode cL_sun 9 = .ok (.invokevirtual 19, 3) := by decide +kernel
theorem dL_sun_12 : decode cL_sun 12 = .ok (.lastore, 1) := by decide +kernel
theorem dL_sun_13 : decode cL_sun 13 = .ok (.goto 7, 3) := by decide +kernel
theorem dL_sun_16 : decode cL_sun 16 = .ok (.astore 6, 2) := by decide +kernel
theorem dL_sun_18 : decode cL_sun 18 = .ok (.iconst 1, 1) := by decide +kernel
theorem dL_sun_19 : decode cL_sun 19 = .ok (.ireturn, 1) := by decide +kernel
theorem dL_sun_20 : decode cL_sun 20 = .ok (.iconst 0, 1) := by decide +kernel
theorem dL_sun_21 : decode cL_sun 21 = .ok (.ireturn, 1) := by decide +kernel
theorem dL_place_0 : decode cL_place 0 = .ok (.aload_n 3, 1) := by decide +kernel
theorem dL_place_1 : decode cL_place 1 = .ok (.iconst 0, 1) := by decide +kernel
theorem dL_place_2 : decode cL_place 2 = .ok (.aload_n 0, 1) := by decide +kernel
theorem dL_place_3 : decode cL_place 3 = .ok (.iload_n 1, 1) := by decide +kernel
theorem dL_place_4 : decode cL_place 4 = .ok (.iload_n 2, 1) := by decide +kernel
theorem dL_place_5 : decode cL_place 5 = .ok (.invokevirtual 23, 3) := by decide +kernel
theorem dL_place_8 : decode cL_place 8 = .ok (.i2l, 1) := by decide +kernel
theorem dL_place_9 : decode cL_place 9 = .ok (.lastore, 1) := by decide +kernel
theorem dL_place_10 : decode cL_place 10 = .ok (.goto 11, 3) := by decide +kernel
theorem dL_place_13 : decode cL_place 13 = .ok (.astore 4, 2) := by decide +kernel
theorem dL_place_15 : decode cL_place 15 = .ok (.iconst 1, 1) := by decide +kernel
theorem dL_place_16 : decode cL_place 16 = .ok (.ireturn, 1) := by decide +kernel
theorem dL_place_17 : decode cL_place 17 = .ok (.astore 4, 2) := by decide +kernel
theorem dL_place_19 : decode cL_place 19 = .ok (.iconst 2, 1) := by decide +kernel
theorem dL_place_20 : decode cL_place 20 = .ok (.ireturn, 1) := by decide +kernel
theorem dL_place_21 : decode cL_place 21 = .ok (.iconst 0, 1) := by decide +kernel
theorem dL_place_22 : decode cL_place 22 = .ok (.ireturn, 1) := by decide +kernel
theorem dL_light_0 : decode cL_light 0 = .ok (.aload 4, 2) := by decide +kernel
theorem dL_light_2 : decode cL_light 2 = .ok (.iconst 0, 1) := by decide +kernel
theorem dL_light_3 : decode cL_light 3 = .ok (.aload_n 0, 1) := by decide +kernel
theorem dL_light_4 : decode cL_light 4 = .ok (.iload_n 1, 1) := by decide +kernel
theorem dL_light_5 : decode cL_light 5 = .ok (.iload_n 2, 1) := by decide +kernel
theorem dL_light_6 : decode cL_light 6 = .ok (.iload_n 3, 1) := by decide +kernel
theorem dL_light_7 : decode cL_light 7 = .ok (.invokevirtual 28, 3) := by decide +kernel
theorem dL_light_10 : decode cL_light 10 = .ok (.i2l, 1) := by decide +kernel
theorem dL_light_11 : decode cL_light 11 = .ok (.lastore, 1) := by decide +kernel
theorem dL_light_12 : decode cL_light 12 = .ok (.goto 11, 3) := by decide +kernel
theorem dL_light_15 : decode cL_light 15 = .ok (.astore 5, 2) := by decide +kernel
theorem dL_light_17 : decode cL_light 17 = .ok (.iconst 1, 1) := by decide +kernel
theorem dL_light_18 : decode cL_light 18 = .ok (.ireturn, 1) := by decide +kernel
theorem dL_light_19 : decode cL_light 19 = .ok (.astore 5, 2) := by decide +kernel
theorem dL_light_21 : decode cL_light 21 = .ok (.iconst 2, 1) := by decide +kernel
theorem dL_light_22 : decode cL_light 22 = .ok (.ireturn, 1) := by decide +kernel
theorem dL_light_23 : decode cL_light 23 = .ok (.iconst 0, 1) := by decide +kernel
theorem dL_light_24 : decode cL_light 24 = .ok (.ireturn, 1) := by decide +kernel
theorem dL_lightAnew_0 : decode cL_lightAnew 0 = .ok (.aload_n 3, 1) := by decide +kernel
theorem dL_lightAnew_1 : decode cL_lightAnew 1 = .ok (.iconst 0, 1) := by decide +kernel
theorem dL_lightAnew_2 : decode cL_lightAnew 2 = .ok (.aload_n 0, 1) := by decide +kernel
theorem dL_lightAnew_3 : decode cL_lightAnew 3 = .ok (.iload_n 1, 1) := by decide +kernel
theorem dL_lightAnew_4 : decode cL_lightAnew 4 = .ok (.iload_n 2, 1) := by decide +kernel
theorem dL_lightAnew_5 : decode cL_lightAnew 5 = .ok (.invokevirtual 34, 3) := by decide +kernel
theorem dL_lightAnew_8 : decode cL_lightAnew 8 = .ok (.i2l, 1) := by decide +kernel
theorem dL_lightAnew_9 : decode cL_lightAnew 9 = .ok (.lastore, 1) := by decide +kernel
theorem dL_lightAnew_10 : decode cL_lightAnew 10 = .ok (.goto 11, 3) := by decide +kernel
theorem dL_lightAnew_13 : decode cL_lightAnew 13 = .ok (.astore 4, 2) := by decide +kernel
theorem dL_lightAnew_15 : decode cL_lightAnew 15 = .ok (.iconst 1, 1) := by decide +kernel
theorem dL_lightAnew_16 : decode cL_lightAnew 16 = .ok (.ireturn, 1) := by decide +kernel
theorem dL_lightAnew_17 : decode cL_lightAnew 17 = .ok (.astore 4, 2) := by decide +kernel
theorem dL_lightAnew_19 : decode cL_lightAnew 19 = .ok (.iconst 2, 1) := by decide +kernel
theorem dL_lightAnew_20 : decode cL_lightAnew 20 = .ok (.ireturn, 1) := by decide +kernel
theorem dL_lightAnew_21 : decode cL_lightAnew 21 = .ok (.iconst 0, 1) := by decide +kernel
theorem dL_lightAnew_22 : decode cL_lightAnew 22 = .ok (.ireturn, 1) := by decide +kernel
theorem dL_hour_0 : decode cL_hour 0 = .ok (.aload 5, 2) := by decide +kernel
theorem dL_hour_2 : decode cL_hour 2 = .ok (.iconst 0, 1) := by decide +kernel
theorem dL_hour_3 : decode cL_hour 3 = .ok (.aload_n 0, 1) := by decide +kernel
theorem dL_hour_4 : decode cL_hour 4 = .ok (.iload_n 1, 1) := by decide +kernel
theorem dL_hour_5 : decode cL_hour 5 = .ok (.iload_n 2, 1) := by decide +kernel
theorem dL_hour_6 : decode cL_hour 6 = .ok (.iload_n 3, 1) := by decide +kernel
theorem dL_hour_7 : decode cL_hour 7 = .ok (.iload 4, 2) := by decide +kernel
theorem dL_hour_9 : decode cL_hour 9 = .ok (.invokevirtual 37, 3) := by decide +kernel
theorem dL_hour_12 : decode cL_hour 12 = .ok (.i2l, 1) := by decide +kernel
theorem dL_hour_13 : decode cL_hour 13 = .ok (.lastore, 1) := by decide +kernel
theorem dL_hour_14 : decode cL_hour 14 = .ok (.goto 11, 3) := by decide +kernel
theorem dL_hour_17 : decode cL_hour 17 = .ok (.astore 6, 2) := by decide +kernel
theorem dL_hour_19 : decode cL_hour 19 = .ok (.iconst 1, 1) := by decide +kernel
theorem dL_hour_20 : decode cL_hour 20 = .ok (.ireturn, 1) := by decide +kernel
theorem dL_hour_21 : decode cL_hour 21 = .ok (.astore 6, 2) := by decide +kernel
theorem dL_hour_23 : decode cL_hour 23 = .ok (.iconst 2, 1) := by decide +kernel
theorem dL_hour_24 : decode cL_hour 24 = .ok (.ireturn, 1) := by decide +kernel
theorem dL_hour_25 : decode cL_hour 25 = .ok (.iconst 0, 1) := by decide +kernel
theorem dL_hour_26 : decode cL_hour 26 = .ok (.ireturn, 1) := by decide +kernel
theorem dL_summer_0 : decode cL_summer 0 = .ok (.aload_n 0, 1) := by decide +kernel
theorem dL_summer_1 : decode cL_summer 1 = .ok (.iload_n 1, 1) := by decide +kernel
theorem dL_summer_2 : decode cL_summer 2 = .ok (.iload_n 2, 1) := by decide +kernel
theorem dL_summer_3 : decode cL_summer 3 = .ok (.invokevirtual 41, 3) := by decide +kernel
theorem dL_summer_6 : decode cL_summer 6 = .ok (.goto 6, 3) := by decide +kernel
theorem dL_summer_9 : decode cL_summer 9 = .ok (.astore_n 3, 1) := by decide +kernel
theorem dL_summer_10 : decode cL_summer 10 = .ok (.iconst 1, 1) := by decide +kernel
theorem dL_summer_11 : decode cL_summer 11 = .ok (.ireturn, 1) := by decide +kernel
theorem dL_summer_12 : decode cL_summer 12 = .ok (.iconst 0, 1) := by decide +kernel
theorem dL_summer_13 : decode cL_summer 13 = .ok (.ireturn, 1) := by decide +kernel
theorem dL_dial_0 : decode cL_dial 0 = .ok (.aload 5, 2) := by decide +kernel
theorem dL_dial_2 : decode cL_dial 2 = .ok (.iconst 0, 1) := by decide +kernel
theorem dL_dial_3 : decode cL_dial 3 = .ok (.aload_n 0, 1) := by decide +kernel
theorem dL_dial_4 : decode cL_dial 4 = .ok (.iload_n 1, 1) := by decide +kernel
theorem dL_dial_5 : decode cL_dial 5 = .ok (.iload_n 2, 1) := by decide +kernel
theorem dL_dial_6 : decode cL_dial 6 = .ok (.iload_n 3, 1) := by decide +kernel
theorem dL_dial_7 : decode cL_dial 7 = .ok (.iload 4, 2) := by decide +kernel
theorem dL_dial_9 : decode cL_dial 9 = .ok (.invokevirtual 45, 3) := by decide +kernel
theorem dL_dial_12 : decode cL_dial 12 = .ok (.i2l, 1) := by decide +kernel
theorem dL_dial_13 : decode cL_dial 13 = .ok (.lastore, 1) := by decide +kernel
theorem dL_dial_14 : decode cL_dial 14 = .ok (.goto 15, 3) := by decide +kernel
theorem dL_dial_17 : decode cL_dial 17 = .ok (.astore 6, 2) := by decide +kernel
theorem dL_dial_19 : decode cL_dial 19 = .ok (.iconst 1, 1) := by decide +kernel
theorem dL_dial_20 : decode cL_dial 20 = .ok (.ireturn, 1) := by decide +kernel
theorem dL_dial_21 : decode cL_dial 21 = .ok (.astore 6, 2) := by decide +kernel
theorem dL_dial_23 : decode cL_dial 23 = .ok (.iconst 2, 1) := by decide +kernel
theorem dL_dial_24 : decode cL_dial 24 = .ok (.ireturn, 1) := by decide +kernel
theorem dL_dial_25 : decode cL_dial 25 = .ok (.astore 6, 2) := by decide +kernel
theorem dL_dial_27 : decode cL_dial 27 = .ok (.iconst 3, 1) := by decide +kernel
theorem dL_dial_28 : decode cL_dial 28 = .ok (.ireturn, 1) := by decide +kernel
theorem dL_dial_29 : decode cL_dial 29 = .ok (.iconst 0, 1) := by decide +kernel
theorem dL_dial_30 : decode cL_dial 30 = .ok (.ireturn, 1) := by decide +kernel
theorem dL_stand_0 : decode cL_stand 0 = .ok (.aload 5, 2) := by decide +kernel
theorem dL_stand_2 : decode cL_stand 2 = .ok (.iconst 0, 1) := by decide +kernel
theorem dL_stand_3 : decode cL_stand 3 = .ok (.aload_n 0, 1) := by decide +kernel
theorem dL_stand_4 : decode cL_stand 4 = .ok (.iload_n 1, 1) := by decide +kernel
theorem dL_stand_5 : decode cL_stand 5 = .ok (.iload_n 2, 1) := by decide +kernel
theorem dL_stand_6 : decode cL_stand 6 = .ok (.iload_n 3, 1) := by decide +kernel
theorem dL_stand_7 : decode cL_stand 7 = .ok (.iload 4, 2) := by decide +kernel
theorem dL_stand_9 : decode cL_stand 9 = .ok (.invokevirtual 48, 3) := by decide +kernel
theorem dL_stand_12 : decode cL_stand 12 = .ok (.i2l, 1) := by decide +kernel
theorem dL_stand_13 : decode cL_stand 13 = .ok (.lastore, 1) := by decide +kernel
theorem dL_stand_14 : decode cL_stand 14 = .ok (.goto 11, 3) := by decide +kernel
theorem dL_stand_17 : decode cL_stand 17 = .ok (.astore 6, 2) := by decide +kernel
theorem dL_stand_19 : decode cL_stand 19 = .ok (.iconst 1, 1) := by decide +kernel
theorem dL_stand_20 : decode cL_stand 20 = .ok (.ireturn, 1) := by decide +kernel
theorem dL_stand_21 : decode cL_stand 21 = .ok (.astore 6, 2) := by decide +kernel
theorem dL_stand_23 : decode cL_stand 23 = .ok (.iconst 2, 1) := by decide +kernel
theorem dL_stand_24 : decode cL_stand 24 = .ok (.ireturn, 1) := by decide +kernel
theorem dL_stand_25 : decode cL_stand 25 = .ok (.iconst 0, 1) := by decide +kernel
theorem dL_stand_26 : decode cL_stand 26 = .ok (.ireturn, 1) := by decide +kernel
theorem dL_shadow_0 : decode cL_shadow 0 = .ok (.aload 5, 2) := by decide +kernel
theorem dL_shadow_2 : decode cL_shadow 2 = .ok (.iconst 0, 1) := by decide +kernel
theorem dL_shadow_3 : decode cL_shadow 3 = .ok (.aload_n 0, 1) := by decide +kernel
theorem dL_shadow_4 : decode cL_shadow 4 = .ok (.iload_n 1, 1) := by decide +kernel
theorem dL_shadow_5 : decode cL_shadow 5 = .ok (.iload_n 2, 1) := by decide +kernel
theorem dL_shadow_6 : decode cL_shadow 6 = .ok (.iload_n 3, 1) := by decide +kernel
theorem dL_shadow_7 : decode cL_shadow 7 = .ok (.iload 4, 2) := by decide +kernel
theorem dL_shadow_9 : decode cL_shadow 9 = .ok (.invokevirtual 51, 3) := by decide +kernel
theorem dL_shadow_12 : decode cL_shadow 12 = .ok (.i2l, 1) := by decide +kernel
theorem dL_shadow_13 : decode cL_shadow 13 = .ok (.lastore, 1) := by decide +kernel
theorem dL_shadow_14 : decode cL_shadow 14 = .ok (.goto 15, 3) := by decide +kernel
theorem dL_shadow_17 : decode cL_shadow 17 = .ok (.astore 6, 2) := by decide +kernel
theorem dL_shadow_19 : decode cL_shadow 19 = .ok (.iconst 1, 1) := by decide +kernel
theorem dL_shadow_20 : decode cL_shadow 20 = .ok (.ireturn, 1) := by decide +kernel
theorem dL_shadow_21 : decode cL_shadow 21 = .ok (.astore 6, 2) := by decide +kernel
theorem dL_shadow_23 : decode cL_shadow 23 = .ok (.iconst 2, 1) := by decide +kernel
theorem dL_shadow_24 : decode cL_shadow 24 = .ok (.ireturn, 1) := by decide +kernel
theorem dL_shadow_25 : decode cL_shadow 25 = .ok (.astore 6, 2) := by decide +kernel
theorem dL_shadow_27 : decode cL_shadow 27 = .ok (.iconst 3, 1) := by decide +kernel
theorem dL_shadow_28 : decode cL_shadow 28 = .ok (.ireturn, 1) := by decide +kernel
theorem dL_shadow_29 : decode cL_shadow 29 = .ok (.iconst 0, 1) := by decide +kernel
theorem dL_shadow_30 : decode cL_shadow 30 = .ok (.ireturn, 1) := by decide +kernel
theorem dL_blur_0 : decode cL_blur 0 = .ok (.aload 4, 2) := by decide +kernel
theorem dL_blur_2 : decode cL_blur 2 = .ok (.iconst 0, 1) := by decide +kernel
theorem dL_blur_3 : decode cL_blur 3 = .ok (.aload_n 0, 1) := by decide +kernel
theorem dL_blur_4 : decode cL_blur 4 = .ok (.iload_n 1, 1) := by decide +kernel
theorem dL_blur_5 : decode cL_blur 5 = .ok (.iload_n 2, 1) := by decide +kernel
theorem dL_blur_6 : decode cL_blur 6 = .ok (.iload_n 3, 1) := by decide +kernel
theorem dL_blur_7 : decode cL_blur 7 = .ok (.invokevirtual 55, 3) := by decide +kernel
theorem dL_blur_10 : decode cL_blur 10 = .ok (.f2d, 1) := by decide +kernel
theorem dL_blur_11 : decode cL_blur 11 = .ok (.dastore, 1) := by decide +kernel
theorem dL_blur_12 : decode cL_blur 12 = .ok (.goto 15, 3) := by decide +kernel
theorem dL_blur_15 : decode cL_blur 15 = .ok (.astore 5, 2) := by decide +kernel
theorem dL_blur_17 : decode cL_blur 17 = .ok (.iconst 1, 1) := by decide +kernel
theorem dL_blur_18 : decode cL_blur 18 = .ok (.ireturn, 1) := by decide +kernel
theorem dL_blur_19 : decode cL_blur 19 = .ok (.astore 5, 2) := by decide +kernel
theorem dL_blur_21 : decode cL_blur 21 = .ok (.iconst 2, 1) := by decide +kernel
theorem dL_blur_22 : decode cL_blur 22 = .ok (.ireturn, 1) := by decide +kernel
theorem dL_blur_23 : decode cL_blur 23 = .ok (.astore 5, 2) := by decide +kernel
theorem dL_blur_25 : decode cL_blur 25 = .ok (.iconst 3, 1) := by decide +kernel
theorem dL_blur_26 : decode cL_blur 26 = .ok (.ireturn, 1) := by decide +kernel
theorem dL_blur_27 : decode cL_blur 27 = .ok (.iconst 0, 1) := by decide +kernel
theorem dL_blur_28 : decode cL_blur 28 = .ok (.ireturn, 1) := by decide +kernel
theorem dL_line_0 : decode cL_line 0 = .ok (.aload 4, 2) := by decide +kernel
theorem dL_line_2 : decode cL_line 2 = .ok (.iconst 0, 1) := by decide +kernel
theorem dL_line_3 : decode cL_line 3 = .ok (.aload_n 0, 1) := by decide +kernel
theorem dL_line_4 : decode cL_line 4 = .ok (.iload_n 1, 1) := by decide +kernel
theorem dL_line_5 : decode cL_line 5 = .ok (.iload_n 2, 1) := by decide +kernel
theorem dL_line_6 : decode cL_line 6 = .ok (.iload_n 3, 1) := by decide +kernel
theorem dL_line_7 : decode cL_line 7 = .ok (.invokevirtual 59, 3) := by decide +kernel
theorem dL_line_10 : decode cL_line 10 = .ok (.i2l, 1) := by decide +kernel
theorem dL_line_11 : decode cL_line 11 = .ok (.lastore, 1) := by decide +kernel
theorem dL_line_12 : decode cL_line 12 = .ok (.goto 15, 3) := by decide +kernel
theorem dL_line_15 : decode cL_line 15 = .ok (.astore 5, 2) := by decide +kernel
theorem dL_line_17 : decode cL_line 17 = .ok (.iconst 1, 1) := by decide +kernel
theorem dL_line_18 : decode cL_line 18 = .ok (.ireturn, 1) := by decide +kernel
theorem dL_line_19 : decode cL_line 19 = .ok (.astore 5, 2) := by decide +kernel
theorem dL_line_21 : decode cL_line 21 = .ok (.iconst 2, 1) := by decide +kernel
theorem dL_line_22 : decode cL_line 22 = .ok (.ireturn, 1) := by decide +kernel
theorem dL_line_23 : decode cL_line 23 = .ok (.astore 5, 2) := by decide +kernel
theorem dL_line_25 : decode cL_line 25 = .ok (.iconst 3, 1) := by decide +kernel
theorem dL_line_26 : decode cL_line 26 = .ok (.ireturn, 1) := by decide +kernel
theorem dL_line_27 : decode cL_line 27 = .ok (.iconst 0, 1) := by decide +kernel
theorem dL_line_28 : decode cL_line 28 = .ok (.ireturn, 1) := by decide +kernel
theorem dL_read_0 : decode cL_read 0 = .ok (.aload 5, 2) := by decide +kernel
theorem dL_read_2 : decode cL_read 2 = .ok (.iconst 0, 1) := by decide +kernel
theorem dL_read_3 : decode cL_read 3 = .ok (.aload_n 0, 1) := by decide +kernel
theorem dL_read_4 : decode cL_read 4 = .ok (.iload_n 1, 1) := by decide +kernel
theorem dL_read_5 : decode cL_read 5 = .ok (.iload_n 2, 1) := by decide +kernel
theorem dL_read_6 : decode cL_read 6 = .ok (.iload_n 3, 1) := by decide +kernel
theorem dL_read_7 : decode cL_read 7 = .ok (.iload 4, 2) := by decide +kernel
theorem dL_read_9 : decode cL_read 9 = .ok (.invokevirtual 62, 3) := by decide +kernel
theorem dL_read_12 : decode cL_read 12 = .ok (.i2l, 1) := by decide +kernel
theorem dL_read_13 : decode cL_read 13 = .ok (.lastore, 1) := by decide +kernel
theorem dL_read_14 : decode cL_read 14 = .ok (.goto 11, 3) := by decide +kernel
theorem dL_read_17 : decode cL_read 17 = .ok (.astore 6, 2) := by decide +kernel
theorem dL_read_19 : decode cL_read 19 = .ok (.iconst 1, 1) := by decide +kernel
theorem dL_read_20 : decode cL_read 20 = .ok (.ireturn, 1) := by decide +kernel
theorem dL_read_21 : decode cL_read 21 = .ok (.astore 6, 2) := by decide +kernel
theorem dL_read_23 : decode cL_read 23 = .ok (.iconst 2, 1) := by decide +kernel
theorem dL_read_24 : decode cL_read 24 = .ok (.ireturn, 1) := by decide +kernel
theorem dL_read_25 : decode cL_read 25 = .ok (.iconst 0, 1) := by decide +kernel
theorem dL_read_26 : decode cL_read 26 = .ok (.ireturn, 1) := by decide +kernel
theorem dL_tells_0 : decode cL_tells 0 = .ok (.aload 4, 2) := by decide +kernel
theorem dL_tells_2 : decode cL_tells 2 = .ok (.iconst 0, 1) := by decide +kernel
theorem dL_tells_3 : decode cL_tells 3 = .ok (.aload_n 0, 1) := by decide +kernel
theorem dL_tells_4 : decode cL_tells 4 = .ok (.iload_n 1, 1) := by decide +kernel
theorem dL_tells_5 : decode cL_tells 5 = .ok (.iload_n 2, 1) := by decide +kernel
theorem dL_tells_6 : decode cL_tells 6 = .ok (.iload_n 3, 1) := by decide +kernel
theorem dL_tells_7 : decode cL_tells 7 = .ok (.invokevirtual 65, 3) := by decide +kernel
theorem dL_tells_10 : decode cL_tells 10 = .ok (.i2l, 1) := by decide +kernel
theorem dL_tells_11 : decode cL_tells 11 = .ok (.lastore, 1) := by decide +kernel
theorem dL_tells_12 : decode cL_tells 12 = .ok (.goto 11, 3) := by decide +kernel
theorem dL_tells_15 : decode cL_tells 15 = .ok (.astore 5, 2) := by decide +kernel
theorem dL_tells_17 : decode cL_tells 17 = .ok (.iconst 1, 1) := by decide +kernel
theorem dL_tells_18 : decode cL_tells 18 = .ok (.ireturn, 1) := by decide +kernel
theorem dL_tells_19 : decode cL_tells 19 = .ok (.astore 5, 2) := by decide +kernel
theorem dL_tells_21 : decode cL_tells 21 = .ok (.iconst 2, 1) := by decide +kernel
theorem dL_tells_22 : decode cL_tells 22 = .ok (.ireturn, 1) := by decide +kernel
theorem dL_tells_23 : decode cL_tells 23 = .ok (.iconst 0, 1) := by decide +kernel
theorem dL_tells_24 : decode cL_tells 24 = .ok (.ireturn, 1) := by decide +kernel
theorem dL_worst_0 : decode cL_worst 0 = .ok (.aload 4, 2) := by decide +kernel
theorem dL_worst_2 : decode cL_worst 2 = .ok (.iconst 0, 1) := by decide +kernel
theorem dL_worst_3 : decode cL_worst 3 = .ok (.aload_n 0, 1) := by decide +kernel
theorem dL_worst_4 : decode cL_worst 4 = .ok (.iload_n 1, 1) := by decide +kernel
theorem dL_worst_5 : decode cL_worst 5 = .ok (.iload_n 2, 1) := by decide +kernel
theorem dL_worst_6 : decode cL_worst 6 = .ok (.iload_n 3, 1) := by decide +kernel
theorem dL_worst_7 : decode cL_worst 7 = .ok (.invokevirtual 68, 3) := by decide +kernel
theorem dL_worst_10 : decode cL_worst 10 = .ok (.i2l, 1) := by decide +kernel
theorem dL_worst_11 : decode cL_worst 11 = .ok (.lastore, 1) := by decide +kernel
theorem dL_worst_12 : decode cL_worst 12 = .ok (.goto 11, 3) := by decide +kernel
theorem dL_worst_15 : decode cL_worst 15 = .ok (.astore 5, 2) := by decide +kernel
theorem dL_worst_17 : decode cL_worst 17 = .ok (.iconst 1, 1) := by decide +kernel
theorem dL_worst_18 : decode cL_worst 18 = .ok (.ireturn, 1) := by decide +kernel
theorem dL_worst_19 : decode cL_worst 19 = .ok (.astore 5, 2) := by decide +kernel
theorem dL_worst_21 : decode cL_worst 21 = .ok (.iconst 2, 1) := by decide +kernel
theorem dL_worst_22 : decode cL_worst 22 = .ok (.ireturn, 1) := by decide +kernel
theorem dL_worst_23 : decode cL_worst 23 = .ok (.iconst 0, 1) := by decide +kernel
theorem dL_worst_24 : decode cL_worst 24 = .ok (.ireturn, 1) := by decide +kernel
theorem dL_best_0 : decode cL_best 0 = .ok (.aload 4, 2) := by decide +kernel
theorem dL_best_2 : decode cL_best 2 = .ok (.iconst 0, 1) := by decide +kernel
theorem dL_best_3 : decode cL_best 3 = .ok (.aload_n 0, 1) := by decide +kernel
theorem dL_best_4 : decode cL_best 4 = .ok (.iload_n 1, 1) := by decide +kernel
theorem dL_best_5 : decode cL_best 5 = .ok (.iload_n 2, 1) := by decide +kernel
theorem dL_best_6 : decode cL_best 6 = .ok (.iload_n 3, 1) := by decide +kernel
theorem dL_best_7 : decode cL_best 7 = .ok (.invokevirtual 71, 3) := by decide +kernel
theorem dL_best_10 : decode cL_best 10 = .ok (.i2l, 1) := by decide +kernel
theorem dL_best_11 : decode cL_best 11 = .ok (.lastore, 1) := by decide +kernel
theorem dL_best_12 : decode cL_best 12 = .ok (.goto 11, 3) := by decide +kernel
theorem dL_best_15 : decode cL_best 15 = .ok (.astore 5, 2) := by decide +kernel
theorem dL_best_17 : decode cL_best 17 = .ok (.iconst 1, 1) := by decide +kernel
theorem dL_best_18 : decode cL_best 18 = .ok (.ireturn, 1) := by decide +kernel
theorem dL_best_19 : decode cL_best 19 = .ok (.astore 5, 2) := by decide +kernel
theorem dL_best_21 : decode cL_best 21 = .ok (.iconst 2, 1) := by decide +kernel
theorem dL_best_22 : decode cL_best 22 = .ok (.ireturn, 1) := by decide +kernel
theorem dL_best_23 : decode cL_best 23 = .ok (.iconst 0, 1) := by decide +kernel
theorem dL_best_24 : decode cL_best 24 = .ok (.ireturn, 1) := by decide +kernel
theorem dL_cut_0 : decode cL_cut 0 = .ok (.aload 4, 2) := by decide +kernel
theorem dL_cut_2 : decode cL_cut 2 = .ok (.iconst 0, 1) := by decide +kernel
theorem dL_cut_3 : decode cL_cut 3 = .ok (.aload_n 0, 1) := by decide +kernel
theorem dL_cut_4 : decode cL_cut 4 = .ok (.iload_n 1, 1) := by decide +kernel
theorem dL_cut_5 : decode cL_cut 5 = .ok (.iload_n 2, 1) := by decide +kernel
theorem dL_cut_6 : decode cL_cut 6 = .ok (.iload_n 3, 1) := by decide +kernel
theorem dL_cut_7 : decode cL_cut 7 = .ok (.invokevirtual 74, 3) := by decide +kernel
theorem dL_cut_10 : decode cL_cut 10 = .ok (.i2l, 1) := by decide +kernel
theorem dL_cut_11 : decode cL_cut 11 = .ok (.lastore, 1) := by decide +kernel
theorem dL_cut_12 : decode cL_cut 12 = .ok (.goto 15, 3) := by decide +kernel
theorem dL_cut_15 : decode cL_cut 15 = .ok (.astore 5, 2) := by decide +kernel
theorem dL_cut_17 : decode cL_cut 17 = .ok (.iconst 1, 1) := by decide +kernel
theorem dL_cut_18 : decode cL_cut 18 = .ok (.ireturn, 1) := by decide +kernel
theorem dL_cut_19 : decode cL_cut 19 = .ok (.astore 5, 2) := by decide +kernel
theorem dL_cut_21 : decode cL_cut 21 = .ok (.iconst 2, 1) := by decide +kernel
theorem dL_cut_22 : decode cL_cut 22 = .ok (.ireturn, 1) := by decide +kernel
theorem dL_cut_23 : decode cL_cut 23 = .ok (.astore 5, 2) := by decide +kernel
theorem dL_cut_25 : decode cL_cut 25 = .ok (.iconst 3, 1) := by decide +kernel
theorem dL_cut_26 : decode cL_cut 26 = .ok (.ireturn, 1) := by decide +kernel
theorem dL_cut_27 : decode cL_cut 27 = .ok (.iconst 0, 1) := by decide +kernel
theorem dL_cut_28 : decode cL_cut 28 = .ok (.ireturn, 1) := by decide +kernel
theorem dL_lies_0 : decode cL_lies 0 = .ok (.aload_n 2, 1) := by decide +kernel
theorem dL_lies_1 : decode cL_lies 1 = .ok (.iconst 0, 1) := by decide +kernel
theorem dL_lies_2 : decode cL_lies 2 = .ok (.aload_n 0, 1) := by decide +kernel
theorem dL_lies_3 : decode cL_lies 3 = .ok (.iload_n 1, 1) := by decide +kernel
theorem dL_lies_4 : decode cL_lies 4 = .ok (.invokevirtual 77, 3) := by decide +kernel
theorem dL_lies_7 : decode cL_lies 7 = .ok (.i2l, 1) := by decide +kernel
theorem dL_lies_8 : decode cL_lies 8 = .ok (.lastore, 1) := by decide +kernel
theorem dL_lies_9 : decode cL_lies 9 = .ok (.goto 6, 3) := by decide +kernel
theorem dL_lies_12 : decode cL_lies 12 = .ok (.astore_n 3, 1) := by decide +kernel
theorem dL_lies_13 : decode cL_lies 13 = .ok (.iconst 1, 1) := by decide +kernel
theorem dL_lies_14 : decode cL_lies 14 = .ok (.ireturn, 1) := by decide +kernel
theorem dL_lies_15 : decode cL_lies 15 = .ok (.iconst 0, 1) := by decide +kernel
theorem dL_lies_16 : decode cL_lies 16 = .ok (.ireturn, 1) := by decide +kernel
theorem dL_find_0 : decode cL_find 0 = .ok (.aload 5, 2) := by decide +kernel
theorem dL_find_2 : decode cL_find 2 = .ok (.iconst 0, 1) := by decide +kernel
theorem dL_find_3 : decode cL_find 3 = .ok (.aload_n 0, 1) := by decide +kernel
theorem dL_find_4 : decode cL_find 4 = .ok (.iload_n 1, 1) := by decide +kernel
theorem dL_find_5 : decode cL_find 5 = .ok (.iload_n 2, 1) := by decide +kernel
theorem dL_find_6 : decode cL_find 6 = .ok (.iload_n 3, 1) := by decide +kernel
theorem dL_find_7 : decode cL_find 7 = .ok (.iload 4, 2) := by decide +kernel
theorem dL_find_9 : decode cL_find 9 = .ok (.invokevirtual 80, 3) := by decide +kernel
theorem dL_find_12 : decode cL_find 12 = .ok (.i2l, 1) := by decide +kernel
theorem dL_find_13 : decode cL_find 13 = .ok (.lastore, 1) := by decide +kernel
theorem dL_find_14 : decode cL_find 14 = .ok (.goto 11, 3) := by decide +kernel
theorem dL_find_17 : decode cL_find 17 = .ok (.astore 6, 2) := by decide +kernel
theorem dL_find_19 : decode cL_find 19 = .ok (.iconst 1, 1) := by decide +kernel
theorem dL_find_20 : decode cL_find 20 = .ok (.ireturn, 1) := by decide +kernel
theorem dL_find_21 : decode cL_find 21 = .ok (.astore 6, 2) := by decide +kernel
theorem dL_find_23 : decode cL_find 23 = .ok (.iconst 2, 1) := by decide +kernel
theorem dL_find_24 : decode cL_find 24 = .ok (.ireturn, 1) := by decide +kernel
theorem dL_find_25 : decode cL_find 25 = .ok (.iconst 0, 1) := by decide +kernel
theorem dL_find_26 : decode cL_find 26 = .ok (.ireturn, 1) := by decide +kernel
theorem dL_fits_0 : decode cL_fits 0 = .ok (.aload 5, 2) := by decide +kernel
theorem dL_fits_2 : decode cL_fits 2 = .ok (.iconst 0, 1) := by decide +kernel
theorem dL_fits_3 : decode cL_fits 3 = .ok (.aload_n 0, 1) := by decide +kernel
theorem dL_fits_4 : decode cL_fits 4 = .ok (.iload_n 1, 1) := by decide +kernel
theorem dL_fits_5 : decode cL_fits 5 = .ok (.iload_n 2, 1) := by decide +kernel
theorem dL_fits_6 : decode cL_fits 6 = .ok (.iload_n 3, 1) := by decide +kernel
theorem dL_fits_7 : decode cL_fits 7 = .ok (.iload 4, 2) := by decide +kernel
theorem dL_fits_9 : decode cL_fits 9 = .ok (.invokevirtual 83, 3) := by decide +kernel
theorem dL_fits_12 : decode cL_fits 12 = .ok (.i2l, 1) := by decide +kernel
theorem dL_fits_13 : decode cL_fits 13 = .ok (.lastore, 1) := by decide +kernel
theorem dL_fits_14 : decode cL_fits 14 = .ok (.goto 11, 3) := by decide +kernel
theorem dL_fits_17 : decode cL_fits 17 = .ok (.astore 6, 2) := by decide +kernel
theorem dL_fits_19 : decode cL_fits 19 = .ok (.iconst 1, 1) := by decide +kernel
theorem dL_fits_20 : decode cL_fits 20 = .ok (.ireturn, 1) := by decide +kernel
theorem dL_fits_21 : decode cL_fits 21 = .ok (.astore 6, 2) := by decide +kernel
theorem dL_fits_23 : decode cL_fits 23 = .ok (.iconst 2, 1) := by decide +kernel
theorem dL_fits_24 : decode cL_fits 24 = .ok (.ireturn, 1) := by decide +kernel
theorem dL_fits_25 : decode cL_fits 25 = .ok (.iconst 0, 1) := by decide +kernel
theorem dL_fits_26 : decode cL_fits 26 = .ok (.ireturn, 1) := by decide +kernel
theorem dL_law_0 : decode cL_law 0 = .ok (.new 8, 3) := by decide +kernel
theorem dL_law_3 : decode cL_law 3 = .ok (.dup, 1) := by decide +kernel
theorem dL_law_4 : decode cL_law 4 = .ok (.invokespecial 86, 3) := by decide +kernel
theorem dL_law_7 : decode cL_law 7 = .ok (.astore_n 1, 1) := by decide +kernel
theorem dL_law_8 : decode cL_law 8 = .ok (.new 87, 3) := by decide +kernel
theorem dL_law_11 : decode cL_law 11 = .ok (.dup, 1) := by decide +kernel
theorem dL_law_12 : decode cL_law 12 = .ok (.invokespecial 89, 3) := by decide +kernel
theorem dL_law_15 : decode cL_law 15 = .ok (.astore_n 2, 1) := by decide +kernel
theorem dL_law_16 : decode cL_law 16 = .ok (.iconst 1, 1) := by decide +kernel
theorem dL_law_17 : decode cL_law 17 = .ok (.newarray .long, 2) := by decide +kernel
theorem dL_law_19 : decode cL_law 19 = .ok (.astore_n 3, 1) := by decide +kernel
theorem dL_law_20 : decode cL_law 20 = .ok (.iconst 1, 1) := by decide +kernel
theorem dL_law_21 : decode cL_law 21 = .ok (.newarray .double, 2) := by decide +kernel
theorem dL_law_23 : decode cL_law 23 = .ok (.astore 4, 2) := by decide +kernel
theorem dL_law_25 : decode cL_law 25 = .ok (.iconst 0, 1) := by decide +kernel
theorem dL_law_26 : decode cL_law 26 = .ok (.istore 5, 2) := by decide +kernel
theorem dL_law_28 : decode cL_law 28 = .ok (.iload 5, 2) := by decide +kernel
theorem dL_law_30 : decode cL_law 30 = .ok (.aload_n 0, 1) := by decide +kernel
theorem dL_law_31 : decode cL_law 31 = .ok (.arraylength, 1) := by decide +kernel
theorem dL_law_32 : decode cL_law 32 = .ok (.iconst 5, 1) := by decide +kernel
theorem dL_law_33 : decode cL_law 33 = .ok (.isub, 1) := by decide +kernel
theorem dL_law_34 : decode cL_law 34 = .ok (.if_icmp .gt 1848, 3) := by decide +kernel
theorem dL_law_37 : decode cL_law 37 = .ok (.aload_n 0, 1) := by decide +kernel
theorem dL_law_38 : decode cL_law 38 = .ok (.iload 5, 2) := by decide +kernel
theorem dL_law_40 : decode cL_law 40 = .ok (.iaload, 1) := by decide +kernel
theorem dL_law_41 : decode cL_law 41 = .ok (.bipush 31, 2) := by decide +kernel
theorem dL_law_43 : decode cL_law 43 = .ok (.iand, 1) := by decide +kernel
theorem dL_law_44 : decode cL_law 44 = .ok (.tableswitch 1832 0 22 #[108, 164, 232, 323, 391, 471, 539, 631, 679, 771, 863, 971, 1073, 1153, 1245, 1325, 1405, 1485, 1565, 1621, 1635, 1727, 1740], 108) := by decide +kernel
theorem dL_law_152 : decode cL_law 152 = .ok (.aload_n 1, 1) := by decide +kernel
theorem dL_law_153 : decode cL_law 153 = .ok (.aload_n 0, 1) := by decide +kernel
theorem dL_law_154 : decode cL_law 154 = .ok (.iload 5, 2) := by decide +kernel
theorem dL_law_156 : decode cL_law 156 = .ok (.iconst 1, 1) := by decide +kernel
theorem dL_law_157 : decode cL_law 157 = .ok (.iadd, 1) := by decide +kernel
theorem dL_law_158 : decode cL_law 158 = .ok (.iaload, 1) := by decide +kernel
theorem dL_law_159 : decode cL_law 159 = .ok (.aload_n 3, 1) := by decide +kernel
theorem dL_law_160 : decode cL_law 160 = .ok (.invokestatic 90, 3) := by decide +kernel
theorem dL_law_163 : decode cL_law 163 = .ok (.istore 6, 2) := by decide +kernel
theorem dL_law_165 : decode cL_law 165 = .ok (.aload_n 2, 1) := by decide +kernel
theorem dL_law_166 : decode cL_law 166 = .ok (.aload_n 0, 1) := by decide +kernel
theorem dL_law_167 : decode cL_law 167 = .ok (.iload 5, 2) := by decide +kernel
theorem dL_law_169 : decode cL_law 169 = .ok (.iconst 1, 1) := by decide +kernel
theorem dL_law_170 : decode cL_law 170 = .ok (.iadd, 1) := by decide +kernel
theorem dL_law_171 : decode cL_law 171 = .ok (.iaload, 1) := by decide +kernel
theorem dL_law_172 : decode cL_law 172 = .ok (.invokevirtual 95, 3) := by decide +kernel
theorem dL_law_175 : decode cL_law 175 = .ok (.istore 7, 2) := by decide +kernel
theorem dL_law_177 : decode cL_law 177 = .ok (.aload_n 2, 1) := by decide +kernel
theorem dL_law_178 : decode cL_law 178 = .ok (.invokevirtual 96, 3) := by decide +kernel
theorem dL_law_181 : decode cL_law 181 = .ok (.iload 6, 2) := by decide +kernel
theorem dL_law_183 : decode cL_law 183 = .ok (.if_icmp .eq 5, 3) := by decide +kernel
theorem dL_law_186 : decode cL_law 186 = .ok (.iconst 0, 1) := by decide +kernel
theorem dL_law_187 : decode cL_law 187 = .ok (.ireturn, 1) := by decide +kernel
theorem dL_law_188 : decode cL_law 188 = .ok (.iload 6, 2) := by decide +kernel
theorem dL_law_190 : decode cL_law 190 = .ok (.ifCond .ne 15, 3) := by decide +kernel
theorem dL_law_193 : decode cL_law 193 = .ok (.aload_n 3, 1) := by decide +kernel
theorem dL_law_194 : decode cL_law 194 = .ok (.iconst 0, 1) := by decide +kernel
theorem dL_law_195 : decode cL_law 195 = .ok (.laload, 1) := by decide +kernel
theorem dL_law_196 : decode cL_law 196 = .ok (.iload 7, 2) := by decide +kernel
theorem dL_law_198 : decode cL_law 198 = .ok (.i2l, 1) := by decide +kernel
theorem dL_law_199 : decode cL_law 199 = .ok (.lcmp, 1) := by decide +kernel
theorem dL_law_200 : decode cL_law 200 = .ok (.ifCond .eq 5, 3) := by decide +kernel
theorem dL_law_203 : decode cL_law 203 = .ok (.iconst 0, 1) := by decide +kernel
theorem dL_law_204 : decode cL_law 204 = .ok (.ireturn, 1) := by decide +kernel
theorem dL_law_205 : decode cL_law 205 = .ok (.goto 1671, 3) := by decide +kernel
theorem dL_law_208 : decode cL_law 208 = .ok (.aload_n 1, 1) := by decide +kernel
theorem dL_law_209 : decode cL_law 209 = .ok (.aload_n 0, 1) := by decide +kernel
theorem dL_law_210 : decode cL_law 210 = .ok (.iload 5, 2) := by decide +kernel
theorem dL_law_212 : decode cL_law 212 = .ok (.iconst 1, 1) := by decide +kernel
theorem dL_law_213 : decode cL_law 213 = .ok (.iadd, 1) := by decide +kernel
theorem dL_law_214 : decode cL_law 214 = .ok (.iaload, 1) := by decide +kernel
theorem dL_law_215 : decode cL_law 215 = .ok (.aload_n 0, 1) := by decide +kernel
theorem dL_law_216 : decode cL_law 216 = .ok (.iload 5, 2) := by decide +kernel
theorem dL_law_218 : decode cL_law 218 = .ok (.iconst 2, 1) := by decide +kernel
theorem dL_law_219 : decode cL_law 219 = .ok (.iadd, 1) := by decide +kernel
theorem dL_law_220 : decode cL_law 220 = .ok (.iaload, 1) := by decide +kernel
theorem dL_law_221 : decode cL_law 221 = .ok (.aload_n 3, 1) := by decide +kernel
theorem dL_law_222 : decode cL_law 222 = .ok (.invokestatic 100, 3) := by decide +kernel
theorem dL_law_225 : decode cL_law 225 = .ok (.istore 6, 2) := by decide +kernel
theorem dL_law_227 : decode cL_law 227 = .ok (.aload_n 2, 1) := by decide +kernel
theorem dL_law_228 : decode cL_law 228 = .ok (.aload_n 0, 1) := by decide +kernel
theorem dL_law_229 : decode cL_law 229 = .ok (.iload 5, 2) := by decide +kernel
theorem dL_law_231 : decode cL_law 231 = .ok (.iconst 1, 1) := by decide +kernel
theorem dL_law_232 : decode cL_law 232 = .ok (.iadd, 1) := by decide +kernel
theorem dL_law_233 : decode cL_law 233 = .ok (.iaload, 1) := by decide +kernel
theorem dL_law_234 : decode cL_law 234 = .ok (.aload_n 0, 1) := by decide +kernel
theorem dL_law_235 : decode cL_law 235 = .ok (.iload 5, 2) := by decide +kernel
theorem dL_law_237 : decode cL_law 237 = .ok (.iconst 2, 1) := by decide +kernel
theorem dL_law_238 : decode cL_law 238 = .ok (.iadd, 1) := by decide +kernel
theorem dL_law_239 : decode cL_law 239 = .ok (.iaload, 1) := by decide +kernel
theorem dL_law_240 : decode cL_law 240 = .ok (.invokevirtual 103, 3) := by decide +kernel
theorem dL_law_243 : decode cL_law 243 = .ok (.istore 7, 2) := by decide +kernel
theorem dL_law_245 : decode cL_law 245 = .ok (.aload_n 2, 1) := by decide +kernel
theorem dL_law_246 : decode cL_law 246 = .ok (.invokevirtual 96, 3) := by decide +kernel
theorem dL_law_249 : decode cL_law 249 = .ok (.iload 6, 2) := by decide +kernel
theorem dL_law_251 : decode cL_law 251 = .ok (.if_icmp .eq 5, 3) := by decide +kernel
theorem dL_law_254 : decode cL_law 254 = .ok (.iconst 0, 1) := by decide +kernel
theorem dL_law_255 : decode cL_law 255 = .ok (.ireturn, 1) := by decide +kernel
theorem dL_law_256 : decode cL_law 256 = .ok (.iload 6, 2) := by decide +kernel
theorem dL_law_258 : decode cL_law 258 = .ok (.ifCond .ne 15, 3) := by decide +kernel
theorem dL_law_261 : decode cL_law 261 = .ok (.aload_n 3, 1) := by decide +kernel
theorem dL_law_262 : decode cL_law 262 = .ok (.iconst 0, 1) := by decide +kernel
theorem dL_law_263 : decode cL_law 263 = .ok (.laload, 1) := by decide +kernel
theorem dL_law_264 : decode cL_law 264 = .ok (.iload 7, 2) := by decide +kernel
theorem dL_law_266 : decode cL_law 266 = .ok (.i2l, 1) := by decide +kernel
theorem dL_law_267 : decode cL_law 267 = .ok (.lcmp, 1) := by decide +kernel
theorem dL_law_268 : decode cL_law 268 = .ok (.ifCond .eq 5, 3) := by decide +kernel
theorem dL_law_271 : decode cL_law 271 = .ok (.iconst 0, 1) := by decide +kernel
theorem dL_law_272 : decode cL_law 272 = .ok (.ireturn, 1) := by decide +kernel
theorem dL_law_273 : decode cL_law 273 = .ok (.goto 1603, 3) := by decide +kernel
theorem dL_law_276 : decode cL_law 276 = .ok (.aload_n 1, 1) := by decide +kernel
theorem dL_law_277 : decode cL_law 277 = .ok (.aload_n 0, 1) := by decide +kernel
theorem dL_law_278 : decode cL_law 278 = .ok (.iload 5, 2) := by decide +kernel
theorem dL_law_280 : decode cL_law 280 = .ok (.iconst 1, 1) := by decide +kernel
theorem dL_law_281 : decode cL_law 281 = .ok (.iadd, 1) := by decide +kernel
theorem dL_law_282 : decode cL_law 282 = .ok (.iaload, 1) := by decide +kernel
theorem dL_law_283 : decode cL_law 283 = .ok (.aload_n 0, 1) := by decide +kernel
theorem dL_law_284 : decode cL_law 284 = .ok (.iload 5, 2) := by decide +kernel
theorem dL_law_286 : decode cL_law 286 = .ok (.iconst 2, 1) := by decide +kernel
theorem dL_law_287 : decode cL_law 287 = .ok (.iadd, 1) := by decide +kernel
theorem dL_law_288 : decode cL_law 288 = .ok (.iaload, 1) := by decide +kernel
theorem dL_law_289 : decode cL_law 289 = .ok (.aload_n 0, 1) := by decide +kernel
theorem dL_law_290 : decode cL_law 290 = .ok (.iload 5, 2) := by decide +kernel
theorem dL_law_292 : decode cL_law 292 = .ok (.iconst 3, 1) := by decide +kernel
theorem dL_law_293 : decode cL_law 293 = .ok (.iadd, 1) := by decide +kernel
theorem dL_law_294 : decode cL_law 294 = .ok (.iaload, 1) := by decide +kernel
theorem dL_law_295 : decode cL_law 295 = .ok (.aload_n 0, 1) := by decide +kernel
theorem dL_law_296 : decode cL_law 296 = .ok (.iload 5, 2) := by decide +kernel
theorem dL_law_298 : decode cL_law 298 = .ok (.iconst 4, 1) := by decide +kernel
theorem dL_law_299 : decode cL_law 299 = .ok (.iadd, 1) := by decide +kernel
theorem dL_law_300 : decode cL_law 300 = .ok (.iaload, 1) := by decide +kernel
theorem dL_law_301 : decode cL_law 301 = .ok (.aload_n 3, 1) := by decide +kernel
theorem dL_law_302 : decode cL_law 302 = .ok (.invokestatic 104, 3) := by decide +kernel
theorem dL_law_305 : decode cL_law 305 = .ok (.istore 6, 2) := by decide +kernel
theorem dL_law_307 : decode cL_law 307 = .ok (.aload_n 2, 1) := by decide +kernel
theorem dL_law_308 : decode cL_law 308 = .ok (.aload_n 0, 1) := by decide +kernel
theorem dL_law_309 : decode cL_law 309 = .ok (.iload 5, 2) := by decide +kernel
theorem dL_law_311 : decode cL_law 311 = .ok (.iconst 1, 1) := by decide +kernel
theorem dL_law_312 : decode cL_law 312 = .ok (.iadd, 1) := by decide +kernel
theorem dL_law_313 : decode cL_law 313 = .ok (.iaload, 1) := by decide +kernel
theorem dL_law_314 : decode cL_law 314 = .ok (.aload_n 0, 1) := by decide +kernel
theorem dL_law_315 : decode cL_law 315 = .ok (.iload 5, 2) := by decide +kernel
theorem dL_law_317 : decode cL_law 317 = .ok (.iconst 2, 1) := by decide +kernel
theorem dL_law_318 : decode cL_law 318 = .ok (.iadd, 1) := by decide +kernel
theorem dL_law_319 : decode cL_law 319 = .ok (.iaload, 1) := by decide +kernel
theorem dL_law_320 : decode cL_law 320 = .ok (.aload_n 0, 1) := by decide +kernel
theorem dL_law_321 : decode cL_law 321 = .ok (.iload 5, 2) := by decide +kernel
theorem dL_law_323 : decode cL_law 323 = .ok (.iconst 3, 1) := by decide +kernel
theorem dL_law_324 : decode cL_law 324 = .ok (.iadd, 1) := by decide +kernel
theorem dL_law_325 : decode cL_law 325 = .ok (.iaload, 1) := by decide +kernel
theorem dL_law_326 : decode cL_law 326 = .ok (.aload_n 0, 1) := by decide +kernel
theorem dL_law_327 : decode cL_law 327 = .ok (.iload 5, 2) := by decide +kernel
theorem dL_law_329 : decode cL_law 329 = .ok (.iconst 4, 1) := by decide +kernel
theorem dL_law_330 : decode cL_law 330 = .ok (.iadd, 1) := by decide +kernel
theorem dL_law_331 : decode cL_law 331 = .ok (.iaload, 1) := by decide +kernel
theorem dL_law_332 : decode cL_law 332 = .ok (.invokevirtual 107, 3) := by decide +kernel
theorem dL_law_335 : decode cL_law 335 = .ok (.lstore 7, 2) := by decide +kernel
theorem dL_law_337 : decode cL_law 337 = .ok (.aload_n 2, 1) := by decide +kernel
theorem dL_law_338 : decode cL_law 338 = .ok (.invokevirtual 96, 3) := by decide +kernel
theorem dL_law_341 : decode cL_law 341 = .ok (.iload 6, 2) := by decide +kernel
theorem dL_law_343 : decode cL_law 343 = .ok (.if_icmp .eq 5, 3) := by decide +kernel
theorem dL_law_346 : decode cL_law 346 = .ok (.iconst 0, 1) := by decide +kernel
theorem dL_law_347 : decode cL_law 347 = .ok (.ireturn, 1) := by decide +kernel
theorem dL_law_348 : decode cL_law 348 = .ok (.iload 6, 2) := by decide +kernel
theorem dL_law_350 : decode cL_law 350 = .ok (.ifCond .ne 14, 3) := by decide +kernel
theorem dL_law_353 : decode cL_law 353 = .ok (.aload_n 3, 1) := by decide +kernel
theorem dL_law_354 : decode cL_law 354 = .ok (.iconst 0, 1) := by decide +kernel
theorem dL_law_355 : decode cL_law 355 = .ok (.laload, 1) := by decide +kernel
theorem dL_law_356 : decode cL_law 356 = .ok (.lload 7, 2) := by decide +kernel
theorem dL_law_358 : decode cL_law 358 = .ok (.lcmp, 1) := by decide +kernel
theorem dL_law_359 : decode cL_law 359 = .ok (.ifCond .eq 5, 3) := by decide +kernel
theorem dL_law_362 : decode cL_law 362 = .ok (.iconst 0, 1) := by decide +kernel
theorem dL_law_363 : decode cL_law 363 = .ok (.ireturn, 1) := by decide +kernel
theorem dL_law_364 : decode cL_law 364 = .ok (.goto 1512, 3) := by decide +kernel
theorem dL_law_367 : decode cL_law 367 = .ok (.aload_n 1, 1) := by decide +kernel
theorem dL_law_368 : decode cL_law 368 = .ok (.aload_n 0, 1) := by decide +kernel
theorem dL_law_369 : decode cL_law 369 = .ok (.iload 5, 2) := by decide +kernel
theorem dL_law_371 : decode cL_law 371 = .ok (.iconst 1, 1) := by decide +kernel
theorem dL_law_372 : decode cL_law 372 = .ok (.iadd, 1) := by decide +kernel
theorem dL_law_373 : decode cL_law 373 = .ok (.iaload, 1) := by decide +kernel
theorem dL_law_374 : decode cL_law 374 = .ok (.aload_n 0, 1) := by decide +kernel
theorem dL_law_375 : decode cL_law 375 = .ok (.iload 5, 2) := by decide +kernel
theorem dL_law_377 : decode cL_law 377 = .ok (.iconst 2, 1) := by decide +kernel
theorem dL_law_378 : decode cL_law 378 = .ok (.iadd, 1) := by decide +kernel
theorem dL_law_379 : decode cL_law 379 = .ok (.iaload, 1) := by decide +kernel
theorem dL_law_380 : decode cL_law 380 = .ok (.aload_n 3, 1) := by decide +kernel
theorem dL_law_381 : decode cL_law 381 = .ok (.invokestatic 108, 3) := by decide +kernel
theorem dL_law_384 : decode cL_law 384 = .ok (.istore 6, 2) := by decide +kernel
theorem dL_law_386 : decode cL_law 386 = .ok (.aload_n 2, 1) := by decide +kernel
theorem dL_law_387 : decode cL_law 387 = .ok (.aload_n 0, 1) := by decide +kernel
theorem dL_law_388 : decode cL_law 388 = .ok (.iload 5, 2) := by decide +kernel
theorem dL_law_390 : decode cL_law 390 = .ok (.iconst 1, 1) := by decide +kernel
theorem dL_law_391 : decode cL_law 391 = .ok (.iadd, 1) := by decide +kernel
theorem dL_law_392 : decode cL_law 392 = .ok (.iaload, 1) := by decide +kernel
theorem dL_law_393 : decode cL_law 393 = .ok (.aload_n 0, 1) := by decide +kernel
theorem dL_law_394 : decode cL_law 394 = .ok (.iload 5, 2) := by decide +kernel
theorem dL_law_396 : decode cL_law 396 = .ok (.iconst 2, 1) := by decide +kernel
theorem dL_law_397 : decode cL_law 397 = .ok (.iadd, 1) := by decide +kernel
theorem dL_law_398 : decode cL_law 398 = .ok (.iaload, 1) := by decide +kernel
theorem dL_law_399 : decode cL_law 399 = .ok (.invokevirtual 110, 3) := by decide +kernel
theorem dL_law_402 : decode cL_law 402 = .ok (.istore 7, 2) := by decide +kernel
theorem dL_law_404 : decode cL_law 404 = .ok (.aload_n 2, 1) := by decide +kernel
theorem dL_law_405 : decode cL_law 405 = .ok (.invokevirtual 96, 3) := by decide +kernel
theorem dL_law_408 : decode cL_law 408 = .ok (.iload 6, 2) := by decide +kernel
theorem dL_law_410 : decode cL_law 410 = .ok (.if_icmp .eq 5, 3) := by decide +kernel
theorem dL_law_413 : decode cL_law 413 = .ok (.iconst 0, 1) := by decide +kernel
theorem dL_law_414 : decode cL_law 414 = .ok (.ireturn, 1) := by decide +kernel
theorem dL_law_415 : decode cL_law 415 = .ok (.iload 6, 2) := by decide +kernel
theorem dL_law_417 : decode cL_law 417 = .ok (.ifCond .ne 15, 3) := by decide +kernel
theorem dL_law_420 : decode cL_law 420 = .ok (.aload_n 3, 1) := by decide +kernel
theorem dL_law_421 : decode cL_law 421 = .ok (.iconst 0, 1) := by decide +kernel
theorem dL_law_422 : decode cL_law 422 = .ok (.laload, 1) := by decide +kernel
theorem dL_law_423 : decode cL_law 423 = .ok (.iload 7, 2) := by decide +kernel
theorem dL_law_425 : decode cL_law 425 = .ok (.i2l, 1) := by decide +kernel
theorem dL_law_426 : decode cL_law 426 = .ok (.lcmp, 1) := by decide +kernel
theorem dL_law_427 : decode cL_law 427 = .ok (.ifCond .eq 5, 3) := by decide +kernel
theorem dL_law_430 : decode cL_law 430 = .ok (.iconst 0, 1) := by decide +kernel
theorem dL_law_431 : decode cL_law 431 = .ok (.ireturn, 1) := by decide +kernel
theorem dL_law_432 : decode cL_law 432 = .ok (.goto 1444, 3) := by decide +kernel
theorem dL_law_435 : decode cL_law 435 = .ok (.aload_n 1, 1) := by decide +kernel
theorem dL_law_436 : decode cL_law 436 = .ok (.aload_n 0, 1) := by decide +kernel
theorem dL_law_437 : decode cL_law 437 = .ok (.iload 5, 2) := by decide +kernel
theorem dL_law_439 : decode cL_law 439 = .ok (.iconst 1, 1) := by decide +kernel
theorem dL_law_440 : decode cL_law 440 = .ok (.iadd, 1) := by decide +kernel
theorem dL_law_441 : decode cL_law 441 = .ok (.iaload, 1) := by decide +kernel
theorem dL_law_442 : decode cL_law 442 = .ok (.aload_n 0, 1) := by decide +kernel
theorem dL_law_443 : decode cL_law 443 = .ok (.iload 5, 2) := by decide +kernel
theorem dL_law_445 : decode cL_law 445 = .ok (.iconst 2, 1) := by decide +kernel
theorem dL_law_446 : decode cL_law 446 = .ok (.iadd, 1) := by decide +kernel
theorem dL_law_447 : decode cL_law 447 = .ok (.iaload, 1) := by decide +kernel
theorem dL_law_448 : decode cL_law 448 = .ok (.aload_n 0, 1) := by decide +kernel
theorem dL_law_449 : decode cL_law 449 = .ok (.iload 5, 2) := by decide +kernel
theorem dL_law_451 : decode cL_law 451 = .ok (.iconst 3, 1) := by decide +kernel
theorem dL_law_452 : decode cL_law 452 = .ok (.iadd, 1) := by decide +kernel
theorem dL_law_453 : decode cL_law 453 = .ok (.iaload, 1) := by decide +kernel
theorem dL_law_454 : decode cL_law 454 = .ok (.aload_n 3, 1) := by decide +kernel
theorem dL_law_455 : decode cL_law 455 = .ok (.invokestatic 111, 3) := by decide +kernel
theorem dL_law_458 : decode cL_law 458 = .ok (.istore 6, 2) := by decide +kernel
theorem dL_law_460 : decode cL_law 460 = .ok (.aload_n 2, 1) := by decide +kernel
theorem dL_law_461 : decode cL_law 461 = .ok (.aload_n 0, 1) := by decide +kernel
theorem dL_law_462 : decode cL_law 462 = .ok (.iload 5, 2) := by decide +kernel
theorem dL_law_464 : decode cL_law 464 = .ok (.iconst 1, 1) := by decide +kernel
theorem dL_law_465 : decode cL_law 465 = .ok (.iadd, 1) := by decide +kernel
theorem dL_law_466 : decode cL_law 466 = .ok (.iaload, 1) := by decide +kernel
theorem dL_law_467 : decode cL_law 467 = .ok (.aload_n 0, 1) := by decide +kernel
theorem dL_law_468 : decode cL_law 468 = .ok (.iload 5, 2) := by decide +kernel
theorem dL_law_470 : decode cL_law 470 = .ok (.iconst 2, 1) := by decide +kernel
theorem dL_law_471 : decode cL_law 471 = .ok (.iadd, 1) := by decide +kernel
theorem dL_law_472 : decode cL_law 472 = .ok (.iaload, 1) := by decide +kernel
theorem dL_law_473 : decode cL_law 473 = .ok (.aload_n 0, 1) := by decide +kernel
theorem dL_law_474 : decode cL_law 474 = .ok (.iload 5, 2) := by decide +kernel
theorem dL_law_476 : decode cL_law 476 = .ok (.iconst 3, 1) := by decide +kernel
theorem dL_law_477 : decode cL_law 477 = .ok (.iadd, 1) := by decide +kernel
theorem dL_law_478 : decode cL_law 478 = .ok (.iaload, 1) := by decide +kernel
theorem dL_law_479 : decode cL_law 479 = .ok (.invokevirtual 114, 3) := by decide +kernel
theorem dL_law_482 : decode cL_law 482 = .ok (.istore 7, 2) := by decide +kernel
theorem dL_law_484 : decode cL_law 484 = .ok (.aload_n 2, 1) := by decide +kernel
theorem dL_law_485 : decode cL_law 485 = .ok (.invokevirtual 96, 3) := by decide +kernel
theorem dL_law_488 : decode cL_law 488 = .ok (.iload 6, 2) := by decide +kernel
theorem dL_law_490 : decode cL_law 490 = .ok (.if_icmp .eq 5, 3) := by decide +kernel
theorem dL_law_493 : decode cL_law 493 = .ok (.iconst 0, 1) := by decide +kernel
theorem dL_law_494 : decode cL_law 494 = .ok (.ireturn, 1) := by decide +kernel
theorem dL_law_495 : decode cL_law 495 = .ok (.iload 6, 2) := by decide +kernel
theorem dL_law_497 : decode cL_law 497 = .ok (.ifCond .ne 15, 3) := by decide +kernel
theorem dL_law_500 : decode cL_law 500 = .ok (.aload_n 3, 1) := by decide +kernel
theorem dL_law_501 : decode cL_law 501 = .ok (.iconst 0, 1) := by decide +kernel
theorem dL_law_502 : decode cL_law 502 = .ok (.laload, 1) := by decide +kernel
theorem dL_law_503 : decode cL_law 503 = .ok (.iload 7, 2) := by decide +kernel
theorem dL_law_505 : decode cL_law 505 = .ok (.i2l, 1) := by decide +kernel
theorem dL_law_506 : decode cL_law 506 = .ok (.lcmp, 1) := by decide +kernel
theorem dL_law_507 : decode cL_law 507 = .ok (.ifCond .eq 5, 3) := by decide +kernel
theorem dL_law_510 : decode cL_law 510 = .ok (.iconst 0, 1) := by decide +kernel
theorem dL_law_511 : decode cL_law 511 = .ok (.ireturn, 1) := by decide +kernel
theorem dL_law_512 : decode cL_law 512 = .ok (.goto 1364, 3) := by decide +kernel
theorem dL_law_515 : decode cL_law 515 = .ok (.aload_n 1, 1) := by decide +kernel
theorem dL_law_516 : decode cL_law 516 = .ok (.aload_n 0, 1) := by decide +kernel
theorem dL_law_517 : decode cL_law 517 = .ok (.iload 5, 2) := by decide +kernel
theorem dL_law_519 : decode cL_law 519 = .ok (.iconst 1, 1) := by decide +kernel
theorem dL_law_520 : decode cL_law 520 = .ok (.iadd, 1) := by decide +kernel
theorem dL_law_521 : decode cL_law 521 = .ok (.iaload, 1) := by decide +kernel
theorem dL_law_522 : decode cL_law 522 = .ok (.aload_n 0, 1) := by decide +kernel
theorem dL_law_523 : decode cL_law 523 = .ok (.iload 5, 2) := by decide +kernel
theorem dL_law_525 : decode cL_law 525 = .ok (.iconst 2, 1) := by decide +kernel
theorem dL_law_526 : decode cL_law 526 = .ok (.iadd, 1) := by decide +kernel
theorem dL_law_527 : decode cL_law 527 = .ok (.iaload, 1) := by decide +kernel
theorem dL_law_528 : decode cL_law 528 = .ok (.aload_n 3, 1) := by decide +kernel
theorem dL_law_529 : decode cL_law 529 = .ok (.invokestatic 115, 3) := by decide +kernel
theorem dL_law_532 : decode cL_law 532 = .ok (.istore 6, 2) := by decide +kernel
theorem dL_law_534 : decode cL_law 534 = .ok (.aload_n 2, 1) := by decide +kernel
theorem dL_law_535 : decode cL_law 535 = .ok (.aload_n 0, 1) := by decide +kernel
theorem dL_law_536 : decode cL_law 536 = .ok (.iload 5, 2) := by decide +kernel
theorem dL_law_538 : decode cL_law 538 = .ok (.iconst 1, 1) := by decide +kernel
theorem dL_law_539 : decode cL_law 539 = .ok (.iadd, 1) := by decide +kernel
theorem dL_law_540 : decode cL_law 540 = .ok (.iaload, 1) := by decide +kernel
theorem dL_law_541 : decode cL_law 541 = .ok (.aload_n 0, 1) := by decide +kernel
theorem dL_law_542 : decode cL_law 542 = .ok (.iload 5, 2) := by decide +kernel
theorem dL_law_544 : decode cL_law 544 = .ok (.iconst 2, 1) := by decide +kernel
theorem dL_law_545 : decode cL_law 545 = .ok (.iadd, 1) := by decide +kernel
theorem dL_law_546 : decode cL_law 546 = .ok (.iaload, 1) := by decide +kernel
theorem dL_law_547 : decode cL_law 547 = .ok (.invokevirtual 117, 3) := by decide +kernel
theorem dL_law_550 : decode cL_law 550 = .ok (.istore 7, 2) := by decide +kernel
theorem dL_law_552 : decode cL_law 552 = .ok (.aload_n 2, 1) := by decide +kernel
theorem dL_law_553 : decode cL_law 553 = .ok (.invokevirtual 96, 3) := by decide +kernel
theorem dL_law_556 : decode cL_law 556 = .ok (.iload 6, 2) := by decide +kernel
theorem dL_law_558 : decode cL_law 558 = .ok (.if_icmp .eq 5, 3) := by decide +kernel
theorem dL_law_561 : decode cL_law 561 = .ok (.iconst 0, 1) := by decide +kernel
theorem dL_law_562 : decode cL_law 562 = .ok (.ireturn, 1) := by decide +kernel
theorem dL_law_563 : decode cL_law 563 = .ok (.iload 6, 2) := by decide +kernel
theorem dL_law_565 : decode cL_law 565 = .ok (.ifCond .ne 15, 3) := by decide +kernel
theorem dL_law_568 : decode cL_law 568 = .ok (.aload_n 3, 1) := by decide +kernel
theorem dL_law_569 : decode cL_law 569 = .ok (.iconst 0, 1) := by decide +kernel
theorem dL_law_570 : decode cL_law 570 = .ok (.laload, 1) := by decide +kernel
theorem dL_law_571 : decode cL_law 571 = .ok (.iload 7, 2) := by decide +kernel
theorem dL_law_573 : decode cL_law 573 = .ok (.i2l, 1) := by decide +kernel
theorem dL_law_574 : decode cL_law 574 = .ok (.lcmp, 1) := by decide +kernel
theorem dL_law_575 : decode cL_law 575 = .ok (.ifCond .eq 5, 3) := by decide +kernel
theorem dL_law_578 : decode cL_law 578 = .ok (.iconst 0, 1) := by decide +kernel
theorem dL_law_579 : decode cL_law 579 = .ok (.ireturn, 1) := by decide +kernel
theorem dL_law_580 : decode cL_law 580 = .ok (.goto 1296, 3) := by decide +kernel
theorem dL_law_583 : decode cL_law 583 = .ok (.aload_n 1, 1) := by decide +kernel
theorem dL_law_584 : decode cL_law 584 = .ok (.aload_n 0, 1) := by decide +kernel
theorem dL_law_585 : decode cL_law 585 = .ok (.iload 5, 2) := by decide +kernel
theorem dL_law_587 : decode cL_law 587 = .ok (.iconst 1, 1) := by decide +kernel
theorem dL_law_588 : decode cL_law 588 = .ok (.iadd, 1) := by decide +kernel
theorem dL_law_589 : decode cL_law 589 = .ok (.iaload, 1) := by decide +kernel
theorem dL_law_590 : decode cL_law 590 = .ok (.aload_n 0, 1) := by decide +kernel
theorem dL_law_591 : decode cL_law 591 = .ok (.iload 5, 2) := by decide +kernel
theorem dL_law_593 : decode cL_law 593 = .ok (.iconst 2, 1) := by decide +kernel
theorem dL_law_594 : decode cL_law 594 = .ok (.iadd, 1) := by decide +kernel
theorem dL_law_595 : decode cL_law 595 = .ok (.iaload, 1) := by decide +kernel
theorem dL_law_596 : decode cL_law 596 = .ok (.aload_n 0, 1) := by decide +kernel
theorem dL_law_597 : decode cL_law 597 = .ok (.iload 5, 2) := by decide +kernel
theorem dL_law_599 : decode cL_law 599 = .ok (.iconst 3, 1) := by decide +kernel
theorem dL_law_600 : decode cL_law 600 = .ok (.iadd, 1) := by decide +kernel
theorem dL_law_601 : decode cL_law 601 = .ok (.iaload, 1) := by decide +kernel
theorem dL_law_602 : decode cL_law 602 = .ok (.aload_n 0, 1) := by decide +kernel
theorem dL_law_603 : decode cL_law 603 = .ok (.iload 5, 2) := by decide +kernel
theorem dL_law_605 : decode cL_law 605 = .ok (.iconst 4, 1) := by decide +kernel
theorem dL_law_606 : decode cL_law 606 = .ok (.iadd, 1) := by decide +kernel
theorem dL_law_607 : decode cL_law 607 = .ok (.iaload, 1) := by decide +kernel
theorem dL_law_608 : decode cL_law 608 = .ok (.aload_n 3, 1) := by decide +kernel
theorem dL_law_609 : decode cL_law 609 = .ok (.invokestatic 118, 3) := by decide +kernel
theorem dL_law_612 : decode cL_law 612 = .ok (.istore 6, 2) := by decide +kernel
theorem dL_law_614 : decode cL_law 614 = .ok (.aload_n 2, 1) := by decide +kernel
theorem dL_law_615 : decode cL_law 615 = .ok (.aload_n 0, 1) := by decide +kernel
theorem dL_law_616 : decode cL_law 616 = .ok (.iload 5, 2) := by decide +kernel
theorem dL_law_618 : decode cL_law 618 = .ok (.iconst 1, 1) := by decide +kernel
theorem dL_law_619 : decode cL_law 619 = .ok (.iadd, 1) := by decide +kernel
theorem dL_law_620 : decode cL_law 620 = .ok (.iaload, 1) := by decide +kernel
theorem dL_law_621 : decode cL_law 621 = .ok (.aload_n 0, 1) := by decide +kernel
theorem dL_law_622 : decode cL_law 622 = .ok (.iload 5, 2) := by decide +kernel
theorem dL_law_624 : decode cL_law 624 = .ok (.iconst 2, 1) := by decide +kernel
theorem dL_law_625 : decode cL_law 625 = .ok (.iadd, 1) := by decide +kernel
theorem dL_law_626 : decode cL_law 626 = .ok (.iaload, 1) := by decide +kernel
theorem dL_law_627 : decode cL_law 627 = .ok (.aload_n 0, 1) := by decide +kernel
theorem dL_law_628 : decode cL_law 628 = .ok (.iload 5, 2) := by decide +kernel
theorem dL_law_630 : decode cL_law 630 = .ok (.iconst 3, 1) := by decide +kernel
theorem dL_law_631 : decode cL_law 631 = .ok (.iadd, 1) := by decide +kernel
theorem dL_law_632 : decode cL_law 632 = .ok (.iaload, 1) := by decide +kernel
theorem dL_law_633 : decode cL_law 633 = .ok (.aload_n 0, 1) := by decide +kernel
theorem dL_law_634 : decode cL_law 634 = .ok (.iload 5, 2) := by decide +kernel
theorem dL_law_636 : decode cL_law 636 = .ok (.iconst 4, 1) := by decide +kernel
theorem dL_law_637 : decode cL_law 637 = .ok (.iadd, 1) := by decide +kernel
theorem dL_law_638 : decode cL_law 638 = .ok (.iaload, 1) := by decide +kernel
theorem dL_law_639 : decode cL_law 639 = .ok (.invokevirtual 120, 3) := by decide +kernel
theorem dL_law_642 : decode cL_law 642 = .ok (.istore 7, 2) := by decide +kernel
theorem dL_law_644 : decode cL_law 644 = .ok (.aload_n 2, 1) := by decide +kernel
theorem dL_law_645 : decode cL_law 645 = .ok (.invokevirtual 96, 3) := by decide +kernel
theorem dL_law_648 : decode cL_law 648 = .ok (.iload 6, 2) := by decide +kernel
theorem dL_law_650 : decode cL_law 650 = .ok (.if_icmp .eq 5, 3) := by decide +kernel
theorem dL_law_653 : decode cL_law 653 = .ok (.iconst 0, 1) := by decide +kernel
theorem dL_law_654 : decode cL_law 654 = .ok (.ireturn, 1) := by decide +kernel
theorem dL_law_655 : decode cL_law 655 = .ok (.iload 6, 2) := by decide +kernel
theorem dL_law_657 : decode cL_law 657 = .ok (.ifCond .ne 15, 3) := by decide +kernel
theorem dL_law_660 : decode cL_law 660 = .ok (.aload_n 3, 1) := by decide +kernel
theorem dL_law_661 : decode cL_law 661 = .ok (.iconst 0, 1) := by decide +kernel
theorem dL_law_662 : decode cL_law 662 = .ok (.laload, 1) := by decide +kernel
theorem dL_law_663 : decode cL_law 663 = .ok (.iload 7, 2) := by decide +kernel
theorem dL_law_665 : decode cL_law 665 = .ok (.i2l, 1) := by decide +kernel
theorem dL_law_666 : decode cL_law 666 = .ok (.lcmp, 1) := by decide +kernel
theorem dL_law_667 : decode cL_law 667 = .ok (.ifCond .eq 5, 3) := by decide +kernel
theorem dL_law_670 : decode cL_law 670 = .ok (.iconst 0, 1) := by decide +kernel
theorem dL_law_671 : decode cL_law 671 = .ok (.ireturn, 1) := by decide +kernel
theorem dL_law_672 : decode cL_law 672 = .ok (.goto 1204, 3) := by decide +kernel
theorem dL_law_675 : decode cL_law 675 = .ok (.aload_n 1, 1) := by decide +kernel
theorem dL_law_676 : decode cL_law 676 = .ok (.aload_n 0, 1) := by decide +kernel
theorem dL_law_677 : decode cL_law 677 = .ok (.iload 5, 2) := by decide +kernel
theorem dL_law_679 : decode cL_law 679 = .ok (.iconst 1, 1) := by decide +kernel
theorem dL_law_680 : decode cL_law 680 = .ok (.iadd, 1) := by decide +kernel
theorem dL_law_681 : decode cL_law 681 = .ok (.iaload, 1) := by decide +kernel
theorem dL_law_682 : decode cL_law 682 = .ok (.aload_n 0, 1) := by decide +kernel
theorem dL_law_683 : decode cL_law 683 = .ok (.iload 5, 2) := by decide +kernel
theorem dL_law_685 : decode cL_law 685 = .ok (.iconst 2, 1) := by decide +kernel
theorem dL_law_686 : decode cL_law 686 = .ok (.iadd, 1) := by decide +kernel
theorem dL_law_687 : decode cL_law 687 = .ok (.iaload, 1) := by decide +kernel
theorem dL_law_688 : decode cL_law 688 = .ok (.invokestatic 121, 3) := by decide +kernel
theorem dL_law_691 : decode cL_law 691 = .ok (.istore 6, 2) := by decide +kernel
theorem dL_law_693 : decode cL_law 693 = .ok (.aload_n 2, 1) := by decide +kernel
theorem dL_law_694 : decode cL_law 694 = .ok (.aload_n 0, 1) := by decide +kernel
theorem dL_law_695 : decode cL_law 695 = .ok (.iload 5, 2) := by decide +kernel
theorem dL_law_697 : decode cL_law 697 = .ok (.iconst 1, 1) := by decide +kernel
theorem dL_law_698 : decode cL_law 698 = .ok (.iadd, 1) := by decide +kernel
theorem dL_law_699 : decode cL_law 699 = .ok (.iaload, 1) := by decide +kernel
theorem dL_law_700 : decode cL_law 700 = .ok (.aload_n 0, 1) := by decide +kernel
theorem dL_law_701 : decode cL_law 701 = .ok (.iload 5, 2) := by decide +kernel
theorem dL_law_703 : decode cL_law 703 = .ok (.iconst 2, 1) := by decide +kernel
theorem dL_law_704 : decode cL_law 704 = .ok (.iadd, 1) := by decide +kernel
theorem dL_law_705 : decode cL_law 705 = .ok (.iaload, 1) := by decide +kernel
theorem dL_law_706 : decode cL_law 706 = .ok (.invokevirtual 124, 3) := by decide +kernel
theorem dL_law_709 : decode cL_law 709 = .ok (.aload_n 2, 1) := by decide +kernel
theorem dL_law_710 : decode cL_law 710 = .ok (.invokevirtual 96, 3) := by decide +kernel
theorem dL_law_713 : decode cL_law 713 = .ok (.iload 6, 2) := by decide +kernel
theorem dL_law_715 : decode cL_law 715 = .ok (.if_icmp .eq 5, 3) := by decide +kernel
theorem dL_law_718 : decode cL_law 718 = .ok (.iconst 0, 1) := by decide +kernel
theorem dL_law_719 : decode cL_law 719 = .ok (.ireturn, 1) := by decide +kernel
theorem dL_law_720 : decode cL_law 720 = .ok (.goto 1156, 3) := by decide +kernel
theorem dL_law_723 : decode cL_law 723 = .ok (.aload_n 1, 1) := by decide +kernel
theorem dL_law_724 : decode cL_law 724 = .ok (.aload_n 0, 1) := by decide +kernel
theorem dL_law_725 : decode cL_law 725 = .ok (.iload 5, 2) := by decide +kernel
theorem dL_law_727 : decode cL_law 727 = .ok (.iconst 1, 1) := by decide +kernel
