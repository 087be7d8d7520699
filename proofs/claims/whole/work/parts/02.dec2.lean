theorem dX9_dark_17 : decode cX9_dark 17 = .ok (.aload_n 0, 1) := by decide +kernel
theorem dX9_dark_18 : decode cX9_dark 18 = .ok (.getfield 10, 3) := by decide +kernel
theorem dX9_dark_21 : decode cX9_dark 21 = .ok (.iload_n 1, 1) := by decide +kernel
theorem dX9_dark_22 : decode cX9_dark 22 = .ok (.invokevirtual 187, 3) := by decide +kernel
theorem dX9_dark_25 : decode cX9_dark 25 = .ok (.aload_n 0, 1) := by decide +kernel
theorem dX9_dark_26 : decode cX9_dark 26 = .ok (.getfield 10, 3) := by decide +kernel
theorem dX9_dark_29 : decode cX9_dark 29 = .ok (.getfield 174, 3) := by decide +kernel
theorem dX9_dark_32 : decode cX9_dark 32 = .ok (.iload_n 1, 1) := by decide +kernel
theorem dX9_dark_33 : decode cX9_dark 33 = .ok (.invokevirtual 194, 3) := by decide +kernel
theorem dX9_dark_36 : decode cX9_dark 36 = .ok (.ireturn, 1) := by decide +kernel
theorem dX9_string_0 : decode cX9_string 0 = .ok (.aload_n 0, 1) := by decide +kernel
theorem dX9_string_1 : decode cX9_string 1 = .ok (.iload_n 1, 1) := by decide +kernel
theorem dX9_string_2 : decode cX9_string 2 = .ok (.invokevirtual 104, 3) := by decide +kernel
theorem dX9_string_5 : decode cX9_string 5 = .ok (.ifCond .eq 12, 3) := by decide +kernel
theorem dX9_string_8 : decode cX9_string 8 = .ok (.iload_n 2, 1) := by decide +kernel
theorem dX9_string_9 : decode cX9_string 9 = .ok (.iconst (-1), 1) := by decide +kernel
theorem dX9_string_10 : decode cX9_string 10 = .ok (.iconst 3, 1) := by decide +kernel
theorem dX9_string_11 : decode cX9_string 11 = .ok (.invokestatic 73, 3) := by decide +kernel
theorem dX9_string_14 : decode cX9_string 14 = .ok (.ifCond .ne 10, 3) := by decide +kernel
theorem dX9_string_17 : decode cX9_string 17 = .ok (.aload_n 0, 1) := by decide +kernel
theorem dX9_string_18 : decode cX9_string 18 = .ok (.ldc 80, 2) := by decide +kernel
theorem dX9_string_20 : decode cX9_string 20 = .ok (.invokevirtual 81, 3) := by decide +kernel
theorem dX9_string_23 : decode cX9_string 23 = .ok (.ireturn, 1) := by decide +kernel
theorem dX9_string_24 : decode cX9_string 24 = .ok (.aload_n 0, 1) := by decide +kernel
theorem dX9_string_25 : decode cX9_string 25 = .ok (.getfield 10, 3) := by decide +kernel
theorem dX9_string_28 : decode cX9_string 28 = .ok (.getfield 93, 3) := by decide +kernel
theorem dX9_string_31 : decode cX9_string 31 = .ok (.iload_n 1, 1) := by decide +kernel
theorem dX9_string_32 : decode cX9_string 32 = .ok (.aaload, 1) := by decide +kernel
theorem dX9_string_33 : decode cX9_string 33 = .ok (.astore_n 3, 1) := by decide +kernel
theorem dX9_string_34 : decode cX9_string 34 = .ok (.aload_n 3, 1) := by decide +kernel
theorem dX9_string_35 : decode cX9_string 35 = .ok (.getfield 125, 3) := by decide +kernel
theorem dX9_string_38 : decode cX9_string 38 = .ok (.istore 4, 2) := by decide +kernel
theorem dX9_string_40 : decode cX9_string 40 = .ok (.aload_n 3, 1) := by decide +kernel
theorem dX9_string_41 : decode cX9_string 41 = .ok (.iload_n 2, 1) := by decide +kernel
theorem dX9_string_42 : decode cX9_string 42 = .ok (.putfield 125, 3) := by decide +kernel
theorem dX9_string_45 : decode cX9_string 45 = .ok (.iload 4, 2) := by decide +kernel
theorem dX9_string_47 : decode cX9_string 47 = .ok (.ireturn, 1) := by decide +kernel
theorem dX9_ceiling_0 : decode cX9_ceiling 0 = .ok (.iload_n 1, 1) := by decide +kernel
theorem dX9_ceiling_1 : decode cX9_ceiling 1 = .ok (.invokestatic 197, 3) := by decide +kernel
theorem dX9_ceiling_4 : decode cX9_ceiling 4 = .ok (.ifCond .eq 13, 3) := by decide +kernel
theorem dX9_ceiling_7 : decode cX9_ceiling 7 = .ok (.iload_n 2, 1) := by decide +kernel
theorem dX9_ceiling_8 : decode cX9_ceiling 8 = .ok (.iconst 0, 1) := by decide +kernel
theorem dX9_ceiling_9 : decode cX9_ceiling 9 = .ok (.ldc 200, 2) := by decide +kernel
theorem dX9_ceiling_11 : decode cX9_ceiling 11 = .ok (.invokestatic 73, 3) := by decide +kernel
theorem dX9_ceiling_14 : decode cX9_ceiling 14 = .ok (.ifCond .ne 10, 3) := by decide +kernel
theorem dX9_ceiling_17 : decode cX9_ceiling 17 = .ok (.aload_n 0, 1) := by decide +kernel
theorem dX9_ceiling_18 : decode cX9_ceiling 18 = .ok (.ldc 80, 2) := by decide +kernel
theorem dX9_ceiling_20 : decode cX9_ceiling 20 = .ok (.invokevirtual 81, 3) := by decide +kernel
theorem dX9_ceiling_23 : decode cX9_ceiling 23 = .ok (.ireturn, 1) := by decide +kernel
theorem dX9_ceiling_24 : decode cX9_ceiling 24 = .ok (.aload_n 0, 1) := by decide +kernel
theorem dX9_ceiling_25 : decode cX9_ceiling 25 = .ok (.getfield 26, 3) := by decide +kernel
theorem dX9_ceiling_28 : decode cX9_ceiling 28 = .ok (.getfield 201, 3) := by decide +kernel
theorem dX9_ceiling_31 : decode cX9_ceiling 31 = .ok (.iload_n 1, 1) := by decide +kernel
theorem dX9_ceiling_32 : decode cX9_ceiling 32 = .ok (.iaload, 1) := by decide +kernel
theorem dX9_ceiling_33 : decode cX9_ceiling 33 = .ok (.istore_n 3, 1) := by decide +kernel
theorem dX9_ceiling_34 : decode cX9_ceiling 34 = .ok (.aload_n 0, 1) := by decide +kernel
theorem dX9_ceiling_35 : decode cX9_ceiling 35 = .ok (.getfield 26, 3) := by decide +kernel
theorem dX9_ceiling_38 : decode cX9_ceiling 38 = .ok (.getfield 201, 3) := by decide +kernel
theorem dX9_ceiling_41 : decode cX9_ceiling 41 = .ok (.iload_n 1, 1) := by decide +kernel
theorem dX9_ceiling_42 : decode cX9_ceiling 42 = .ok (.iload_n 2, 1) := by decide +kernel
theorem dX9_ceiling_43 : decode cX9_ceiling 43 = .ok (.iastore, 1) := by decide +kernel
theorem dX9_ceiling_44 : decode cX9_ceiling 44 = .ok (.iload_n 3, 1) := by decide +kernel
theorem dX9_ceiling_45 : decode cX9_ceiling 45 = .ok (.ireturn, 1) := by decide +kernel
theorem dX9_current_0 : decode cX9_current 0 = .ok (.aload_n 0, 1) := by decide +kernel
theorem dX9_current_1 : decode cX9_current 1 = .ok (.iload_n 1, 1) := by decide +kernel
theorem dX9_current_2 : decode cX9_current 2 = .ok (.iload_n 2, 1) := by decide +kernel
theorem dX9_current_3 : decode cX9_current 3 = .ok (.invokevirtual 167, 3) := by decide +kernel
theorem dX9_current_6 : decode cX9_current 6 = .ok (.istore_n 3, 1) := by decide +kernel
theorem dX9_current_7 : decode cX9_current 7 = .ok (.iload_n 3, 1) := by decide +kernel
theorem dX9_current_8 : decode cX9_current 8 = .ok (.ifCond .eq 9, 3) := by decide +kernel
theorem dX9_current_11 : decode cX9_current 11 = .ok (.aload_n 0, 1) := by decide +kernel
theorem dX9_current_12 : decode cX9_current 12 = .ok (.iload_n 3, 1) := by decide +kernel
theorem dX9_current_13 : decode cX9_current 13 = .ok (.invokevirtual 81, 3) := by decide +kernel
theorem dX9_current_16 : decode cX9_current 16 = .ok (.ireturn, 1) := by decide +kernel
theorem dX9_current_17 : decode cX9_current 17 = .ok (.aload_n 0, 1) := by decide +kernel
theorem dX9_current_18 : decode cX9_current 18 = .ok (.iload_n 2, 1) := by decide +kernel
theorem dX9_current_19 : decode cX9_current 19 = .ok (.invokevirtual 170, 3) := by decide +kernel
theorem dX9_current_22 : decode cX9_current 22 = .ok (.aload_n 0, 1) := by decide +kernel
theorem dX9_current_23 : decode cX9_current 23 = .ok (.getfield 10, 3) := by decide +kernel
theorem dX9_current_26 : decode cX9_current 26 = .ok (.iload_n 1, 1) := by decide +kernel
theorem dX9_current_27 : decode cX9_current 27 = .ok (.invokevirtual 204, 3) := by decide +kernel
theorem dX9_current_30 : decode cX9_current 30 = .ok (.aload_n 0, 1) := by decide +kernel
theorem dX9_current_31 : decode cX9_current 31 = .ok (.getfield 10, 3) := by decide +kernel
theorem dX9_current_34 : decode cX9_current 34 = .ok (.getfield 207, 3) := by decide +kernel
theorem dX9_current_37 : decode cX9_current 37 = .ok (.iload_n 1, 1) := by decide +kernel
theorem dX9_current_38 : decode cX9_current 38 = .ok (.iaload, 1) := by decide +kernel
theorem dX9_current_39 : decode cX9_current 39 = .ok (.ireturn, 1) := by decide +kernel
theorem dX9_gives_0 : decode cX9_gives 0 = .ok (.iload_n 1, 1) := by decide +kernel
theorem dX9_gives_1 : decode cX9_gives 1 = .ok (.invokestatic 197, 3) := by decide +kernel
theorem dX9_gives_4 : decode cX9_gives 4 = .ok (.ifCond .eq 10, 3) := by decide +kernel
theorem dX9_gives_7 : decode cX9_gives 7 = .ok (.iload_n 2, 1) := by decide +kernel
theorem dX9_gives_8 : decode cX9_gives 8 = .ok (.invokestatic 151, 3) := by decide +kernel
theorem dX9_gives_11 : decode cX9_gives 11 = .ok (.ifCond .ne 10, 3) := by decide +kernel
theorem dX9_gives_14 : decode cX9_gives 14 = .ok (.aload_n 0, 1) := by decide +kernel
theorem dX9_gives_15 : decode cX9_gives 15 = .ok (.ldc 80, 2) := by decide +kernel
theorem dX9_gives_17 : decode cX9_gives 17 = .ok (.invokevirtual 81, 3) := by decide +kernel
theorem dX9_gives_20 : decode cX9_gives 20 = .ok (.ireturn, 1) := by decide +kernel
theorem dX9_gives_21 : decode cX9_gives 21 = .ok (.aload_n 0, 1) := by decide +kernel
theorem dX9_gives_22 : decode cX9_gives 22 = .ok (.getfield 19, 3) := by decide +kernel
theorem dX9_gives_25 : decode cX9_gives 25 = .ok (.iload_n 2, 1) := by decide +kernel
theorem dX9_gives_26 : decode cX9_gives 26 = .ok (.invokevirtual 139, 3) := by decide +kernel
theorem dX9_gives_29 : decode cX9_gives 29 = .ok (.ifCond .eq 10, 3) := by decide +kernel
theorem dX9_gives_32 : decode cX9_gives 32 = .ok (.aload_n 0, 1) := by decide +kernel
theorem dX9_gives_33 : decode cX9_gives 33 = .ok (.ldc 103, 2) := by decide +kernel
theorem dX9_gives_35 : decode cX9_gives 35 = .ok (.invokevirtual 81, 3) := by decide +kernel
theorem dX9_gives_38 : decode cX9_gives 38 = .ok (.ireturn, 1) := by decide +kernel
theorem dX9_gives_39 : decode cX9_gives 39 = .ok (.aload_n 0, 1) := by decide +kernel
theorem dX9_gives_40 : decode cX9_gives 40 = .ok (.iload_n 2, 1) := by decide +kernel
theorem dX9_gives_41 : decode cX9_gives 41 = .ok (.invokevirtual 170, 3) := by decide +kernel
theorem dX9_gives_44 : decode cX9_gives 44 = .ok (.aload_n 0, 1) := by decide +kernel
theorem dX9_gives_45 : decode cX9_gives 45 = .ok (.getfield 10, 3) := by decide +kernel
theorem dX9_gives_48 : decode cX9_gives 48 = .ok (.invokevirtual 210, 3) := by decide +kernel
theorem dX9_gives_51 : decode cX9_gives 51 = .ok (.aload_n 0, 1) := by decide +kernel
theorem dX9_gives_52 : decode cX9_gives 52 = .ok (.getfield 26, 3) := by decide +kernel
theorem dX9_gives_55 : decode cX9_gives 55 = .ok (.aload_n 0, 1) := by decide +kernel
theorem dX9_gives_56 : decode cX9_gives 56 = .ok (.getfield 10, 3) := by decide +kernel
theorem dX9_gives_59 : decode cX9_gives 59 = .ok (.iload_n 1, 1) := by decide +kernel
theorem dX9_gives_60 : decode cX9_gives 60 = .ok (.invokevirtual 213, 3) := by decide +kernel
theorem dX9_gives_63 : decode cX9_gives 63 = .ok (.aload_n 0, 1) := by decide +kernel
theorem dX9_gives_64 : decode cX9_gives 64 = .ok (.getfield 26, 3) := by decide +kernel
theorem dX9_gives_67 : decode cX9_gives 67 = .ok (.invokevirtual 217, 3) := by decide +kernel
theorem dX9_gives_70 : decode cX9_gives 70 = .ok (.ireturn, 1) := by decide +kernel
theorem dX9_wind_0 : decode cX9_wind 0 = .ok (.iload_n 1, 1) := by decide +kernel
theorem dX9_wind_1 : decode cX9_wind 1 = .ok (.invokestatic 151, 3) := by decide +kernel
theorem dX9_wind_4 : decode cX9_wind 4 = .ok (.ifCond .eq 14, 3) := by decide +kernel
theorem dX9_wind_7 : decode cX9_wind 7 = .ok (.iload_n 2, 1) := by decide +kernel
theorem dX9_wind_8 : decode cX9_wind 8 = .ok (.iconst (-1), 1) := by decide +kernel
theorem dX9_wind_9 : decode cX9_wind 9 = .ok (.sipush 200, 3) := by decide +kernel
theorem dX9_wind_12 : decode cX9_wind 12 = .ok (.invokestatic 73, 3) := by decide +kernel
theorem dX9_wind_15 : decode cX9_wind 15 = .ok (.ifCond .ne 10, 3) := by decide +kernel
theorem dX9_wind_18 : decode cX9_wind 18 = .ok (.aload_n 0, 1) := by decide +kernel
theorem dX9_wind_19 : decode cX9_wind 19 = .ok (.ldc 80, 2) := by decide +kernel
theorem dX9_wind_21 : decode cX9_wind 21 = .ok (.invokevirtual 81, 3) := by decide +kernel
theorem dX9_wind_24 : decode cX9_wind 24 = .ok (.ireturn, 1) := by decide +kernel
theorem dX9_wind_25 : decode cX9_wind 25 = .ok (.aload_n 0, 1) := by decide +kernel
theorem dX9_wind_26 : decode cX9_wind 26 = .ok (.getfield 33, 3) := by decide +kernel
theorem dX9_wind_29 : decode cX9_wind 29 = .ok (.getfield 221, 3) := by decide +kernel
theorem dX9_wind_32 : decode cX9_wind 32 = .ok (.iload_n 1, 1) := by decide +kernel
theorem dX9_wind_33 : decode cX9_wind 33 = .ok (.iload_n 2, 1) := by decide +kernel
theorem dX9_wind_34 : decode cX9_wind 34 = .ok (.iastore, 1) := by decide +kernel
theorem dX9_wind_35 : decode cX9_wind 35 = .ok (.iload_n 2, 1) := by decide +kernel
theorem dX9_wind_36 : decode cX9_wind 36 = .ok (.iconst (-1), 1) := by decide +kernel
theorem dX9_wind_37 : decode cX9_wind 37 = .ok (.if_icmp .ne 7, 3) := by decide +kernel
theorem dX9_wind_40 : decode cX9_wind 40 = .ok (.iconst 0, 1) := by decide +kernel
theorem dX9_wind_41 : decode cX9_wind 41 = .ok (.goto 4, 3) := by decide +kernel
theorem dX9_wind_44 : decode cX9_wind 44 = .ok (.iconst 1, 1) := by decide +kernel
theorem dX9_wind_45 : decode cX9_wind 45 = .ok (.ireturn, 1) := by decide +kernel
theorem dX9_limit_0 : decode cX9_limit 0 = .ok (.iload_n 1, 1) := by decide +kernel
theorem dX9_limit_1 : decode cX9_limit 1 = .ok (.iconst 1, 1) := by decide +kernel
theorem dX9_limit_2 : decode cX9_limit 2 = .ok (.sipush 200, 3) := by decide +kernel
theorem dX9_limit_5 : decode cX9_limit 5 = .ok (.invokestatic 73, 3) := by decide +kernel
theorem dX9_limit_8 : decode cX9_limit 8 = .ok (.ifCond .ne 10, 3) := by decide +kernel
theorem dX9_limit_11 : decode cX9_limit 11 = .ok (.aload_n 0, 1) := by decide +kernel
theorem dX9_limit_12 : decode cX9_limit 12 = .ok (.ldc 80, 2) := by decide +kernel
theorem dX9_limit_14 : decode cX9_limit 14 = .ok (.invokevirtual 81, 3) := by decide +kernel
theorem dX9_limit_17 : decode cX9_limit 17 = .ok (.ireturn, 1) := by decide +kernel
theorem dX9_limit_18 : decode cX9_limit 18 = .ok (.aload_n 0, 1) := by decide +kernel
theorem dX9_limit_19 : decode cX9_limit 19 = .ok (.getfield 33, 3) := by decide +kernel
theorem dX9_limit_22 : decode cX9_limit 22 = .ok (.getfield 224, 3) := by decide +kernel
theorem dX9_limit_25 : decode cX9_limit 25 = .ok (.istore_n 2, 1) := by decide +kernel
theorem dX9_limit_26 : decode cX9_limit 26 = .ok (.aload_n 0, 1) := by decide +kernel
theorem dX9_limit_27 : decode cX9_limit 27 = .ok (.getfield 33, 3) := by decide +kernel
theorem dX9_limit_30 : decode cX9_limit 30 = .ok (.iload_n 1, 1) := by decide +kernel
theorem dX9_limit_31 : decode cX9_limit 31 = .ok (.putfield 224, 3) := by decide +kernel
theorem dX9_limit_34 : decode cX9_limit 34 = .ok (.iload_n 2, 1) := by decide +kernel
theorem dX9_limit_35 : decode cX9_limit 35 = .ok (.ireturn, 1) := by decide +kernel
theorem dX9_cleaning_0 : decode cX9_cleaning 0 = .ok (.iload_n 1, 1) := by decide +kernel
theorem dX9_cleaning_1 : decode cX9_cleaning 1 = .ok (.invokestatic 151, 3) := by decide +kernel
theorem dX9_cleaning_4 : decode cX9_cleaning 4 = .ok (.ifCond .ne 10, 3) := by decide +kernel
theorem dX9_cleaning_7 : decode cX9_cleaning 7 = .ok (.aload_n 0, 1) := by decide +kernel
theorem dX9_cleaning_8 : decode cX9_cleaning 8 = .ok (.ldc 80, 2) := by decide +kernel
theorem dX9_cleaning_10 : decode cX9_cleaning 10 = .ok (.invokevirtual 81, 3) := by decide +kernel
theorem dX9_cleaning_13 : decode cX9_cleaning 13 = .ok (.ireturn, 1) := by decide +kernel
theorem dX9_cleaning_14 : decode cX9_cleaning 14 = .ok (.aload_n 0, 1) := by decide +kernel
theorem dX9_cleaning_15 : decode cX9_cleaning 15 = .ok (.getfield 33, 3) := by decide +kernel
theorem dX9_cleaning_18 : decode cX9_cleaning 18 = .ok (.getfield 227, 3) := by decide +kernel
theorem dX9_cleaning_21 : decode cX9_cleaning 21 = .ok (.iload_n 1, 1) := by decide +kernel
theorem dX9_cleaning_22 : decode cX9_cleaning 22 = .ok (.baload, 1) := by decide +kernel
theorem dX9_cleaning_23 : decode cX9_cleaning 23 = .ok (.iload_n 2, 1) := by decide +kernel
theorem dX9_cleaning_24 : decode cX9_cleaning 24 = .ok (.if_icmp .eq 7, 3) := by decide +kernel
theorem dX9_cleaning_27 : decode cX9_cleaning 27 = .ok (.iconst 1, 1) := by decide +kernel
theorem dX9_cleaning_28 : decode cX9_cleaning 28 = .ok (.goto 4, 3) := by decide +kernel
theorem dX9_cleaning_31 : decode cX9_cleaning 31 = .ok (.iconst 0, 1) := by decide +kernel
theorem dX9_cleaning_32 : decode cX9_cleaning 32 = .ok (.istore_n 3, 1) := by decide +kernel
theorem dX9_cleaning_33 : decode cX9_cleaning 33 = .ok (.aload_n 0, 1) := by decide +kernel
theorem dX9_cleaning_34 : decode cX9_cleaning 34 = .ok (.getfield 33, 3) := by decide +kernel
theorem dX9_cleaning_37 : decode cX9_cleaning 37 = .ok (.getfield 227, 3) := by decide +kernel
theorem dX9_cleaning_40 : decode cX9_cleaning 40 = .ok (.iload_n 1, 1) := by decide +kernel
theorem dX9_cleaning_41 : decode cX9_cleaning 41 = .ok (.iload_n 2, 1) := by decide +kernel
theorem dX9_cleaning_42 : decode cX9_cleaning 42 = .ok (.bastore, 1) := by decide +kernel
theorem dX9_cleaning_43 : decode cX9_cleaning 43 = .ok (.iload_n 3, 1) := by decide +kernel
theorem dX9_cleaning_44 : decode cX9_cleaning 44 = .ok (.ifCond .eq 7, 3) := by decide +kernel
theorem dX9_cleaning_47 : decode cX9_cleaning 47 = .ok (.iconst 1, 1) := by decide +kernel
theorem dX9_cleaning_48 : decode cX9_cleaning 48 = .ok (.goto 4, 3) := by decide +kernel
theorem dX9_cleaning_51 : decode cX9_cleaning 51 = .ok (.iconst 0, 1) := by decide +kernel
theorem dX9_cleaning_52 : decode cX9_cleaning 52 = .ok (.ireturn, 1) := by decide +kernel
theorem dX9_hour_0 : decode cX9_hour 0 = .ok (.aload_n 0, 1) := by decide +kernel
theorem dX9_hour_1 : decode cX9_hour 1 = .ok (.invokevirtual 231, 3) := by decide +kernel
theorem dX9_hour_4 : decode cX9_hour 4 = .ok (.aload_n 0, 1) := by decide +kernel
theorem dX9_hour_5 : decode cX9_hour 5 = .ok (.getfield 40, 3) := by decide +kernel
theorem dX9_hour_8 : decode cX9_hour 8 = .ok (.getfield 234, 3) := by decide +kernel
theorem dX9_hour_11 : decode cX9_hour 11 = .ok (.ireturn, 1) := by decide +kernel
theorem dX9_hours_0 : decode cX9_hours 0 = .ok (.iload_n 1, 1) := by decide +kernel
theorem dX9_hours_1 : decode cX9_hours 1 = .ok (.iconst 1, 1) := by decide +kernel
theorem dX9_hours_2 : decode cX9_hours 2 = .ok (.bipush 48, 2) := by decide +kernel
theorem dX9_hours_4 : decode cX9_hours 4 = .ok (.invokestatic 73, 3) := by decide +kernel
theorem dX9_hours_7 : decode cX9_hours 7 = .ok (.ifCond .ne 11, 3) := by decide +kernel
theorem dX9_hours_10 : decode cX9_hours 10 = .ok (.aload_n 0, 1) := by decide +kernel
theorem dX9_hours_11 : decode cX9_hours 11 = .ok (.ldc 80, 2) := by decide +kernel
theorem dX9_hours_13 : decode cX9_hours 13 = .ok (.invokevirtual 81, 3) := by decide +kernel
theorem dX9_hours_16 : decode cX9_hours 16 = .ok (.i2l, 1) := by decide +kernel
theorem dX9_hours_17 : decode cX9_hours 17 = .ok (.lreturn, 1) := by decide +kernel
theorem dX9_hours_18 : decode cX9_hours 18 = .ok (.lconst 0, 1) := by decide +kernel
theorem dX9_hours_19 : decode cX9_hours 19 = .ok (.lstore_n 2, 1) := by decide +kernel
theorem dX9_hours_20 : decode cX9_hours 20 = .ok (.iconst 0, 1) := by decide +kernel
theorem dX9_hours_21 : decode cX9_hours 21 = .ok (.istore 4, 2) := by decide +kernel
theorem dX9_hours_23 : decode cX9_hours 23 = .ok (.iload 4, 2) := by decide +kernel
theorem dX9_hours_25 : decode cX9_hours 25 = .ok (.iload_n 1, 1) := by decide +kernel
theorem dX9_hours_26 : decode cX9_hours 26 = .ok (.if_icmp .ge 25, 3) := by decide +kernel
theorem dX9_hours_29 : decode cX9_hours 29 = .ok (.aload_n 0, 1) := by decide +kernel
theorem dX9_hours_30 : decode cX9_hours 30 = .ok (.invokevirtual 231, 3) := by decide +kernel
theorem dX9_hours_33 : decode cX9_hours 33 = .ok (.lload_n 2, 1) := by decide +kernel
theorem dX9_hours_34 : decode cX9_hours 34 = .ok (.aload_n 0, 1) := by decide +kernel
theorem dX9_hours_35 : decode cX9_hours 35 = .ok (.getfield 40, 3) := by decide +kernel
theorem dX9_hours_38 : decode cX9_hours 38 = .ok (.getfield 237, 3) := by decide +kernel
theorem dX9_hours_41 : decode cX9_hours 41 = .ok (.iconst 5, 1) := by decide +kernel
theorem dX9_hours_42 : decode cX9_hours 42 = .ok (.laload, 1) := by decide +kernel
theorem dX9_hours_43 : decode cX9_hours 43 = .ok (.ladd, 1) := by decide +kernel
theorem dX9_hours_44 : decode cX9_hours 44 = .ok (.lstore_n 2, 1) := by decide +kernel
theorem dX9_hours_45 : decode cX9_hours 45 = .ok (.iinc 4 1, 3) := by decide +kernel
theorem dX9_hours_48 : decode cX9_hours 48 = .ok (.goto (-25), 3) := by decide +kernel
theorem dX9_hours_51 : decode cX9_hours 51 = .ok (.lload_n 2, 1) := by decide +kernel
theorem dX9_hours_52 : decode cX9_hours 52 = .ok (.lreturn, 1) := by decide +kernel
theorem dX9_book_0 : decode cX9_book 0 = .ok (.aload_n 0, 1) := by decide +kernel
theorem dX9_book_1 : decode cX9_book 1 = .ok (.getfield 40, 3) := by decide +kernel
theorem dX9_book_4 : decode cX9_book 4 = .ok (.getfield 241, 3) := by decide +kernel
theorem dX9_book_7 : decode cX9_book 7 = .ok (.ifCond .ne 11, 3) := by decide +kernel
theorem dX9_book_10 : decode cX9_book 10 = .ok (.aload_n 0, 1) := by decide +kernel
theorem dX9_book_11 : decode cX9_book 11 = .ok (.ldc 103, 2) := by decide +kernel
theorem dX9_book_13 : decode cX9_book 13 = .ok (.invokevirtual 81, 3) := by decide +kernel
theorem dX9_book_16 : decode cX9_book 16 = .ok (.i2l, 1) := by decide +kernel
theorem dX9_book_17 : decode cX9_book 17 = .ok (.lreturn, 1) := by decide +kernel
theorem dX9_book_18 : decode cX9_book 18 = .ok (.iload_n 1, 1) := by decide +kernel
theorem dX9_book_19 : decode cX9_book 19 = .ok (.iconst 0, 1) := by decide +kernel
theorem dX9_book_20 : decode cX9_book 20 = .ok (.iconst 5, 1) := by decide +kernel
theorem dX9_book_21 : decode cX9_book 21 = .ok (.invokestatic 73, 3) := by decide +kernel
theorem dX9_book_24 : decode cX9_book 24 = .ok (.ifCond .eq 13, 3) := by decide +kernel
theorem dX9_book_27 : decode cX9_book 27 = .ok (.aload_n 0, 1) := by decide +kernel
theorem dX9_book_28 : decode cX9_book 28 = .ok (.getfield 40, 3) := by decide +kernel
theorem dX9_book_31 : decode cX9_book 31 = .ok (.getfield 237, 3) := by decide +kernel
theorem dX9_book_34 : decode cX9_book 34 = .ok (.iload_n 1, 1) := by decide +kernel
theorem dX9_book_35 : decode cX9_book 35 = .ok (.laload, 1) := by decide +kernel
theorem dX9_book_36 : decode cX9_book 36 = .ok (.lreturn, 1) := by decide +kernel
theorem dX9_book_37 : decode cX9_book 37 = .ok (.iload_n 1, 1) := by decide +kernel
theorem dX9_book_38 : decode cX9_book 38 = .ok (.bipush 6, 2) := by decide +kernel
theorem dX9_book_40 : decode cX9_book 40 = .ok (.if_icmp .ne 12, 3) := by decide +kernel
theorem dX9_book_43 : decode cX9_book 43 = .ok (.aload_n 0, 1) := by decide +kernel
theorem dX9_book_44 : decode cX9_book 44 = .ok (.getfield 40, 3) := by decide +kernel
theorem dX9_book_47 : decode cX9_book 47 = .ok (.getfield 234, 3) := by decide +kernel
theorem dX9_book_50 : decode cX9_book 50 = .ok (.i2l, 1) := by decide +kernel
theorem dX9_book_51 : decode cX9_book 51 = .ok (.lreturn, 1) := by decide +kernel
theorem dX9_book_52 : decode cX9_book 52 = .ok (.iload_n 1, 1) := by decide +kernel
theorem dX9_book_53 : decode cX9_book 53 = .ok (.bipush 7, 2) := by decide +kernel
theorem dX9_book_55 : decode cX9_book 55 = .ok (.if_icmp .ne 12, 3) := by decide +kernel
theorem dX9_book_58 : decode cX9_book 58 = .ok (.aload_n 0, 1) := by decide +kernel
theorem dX9_book_59 : decode cX9_book 59 = .ok (.getfield 40, 3) := by decide +kernel
theorem dX9_book_62 : decode cX9_book 62 = .ok (.getfield 245, 3) := by decide +kernel
theorem dX9_book_65 : decode cX9_book 65 = .ok (.i2l, 1) := by decide +kernel
theorem dX9_book_66 : decode cX9_book 66 = .ok (.lreturn, 1) := by decide +kernel
theorem dX9_book_67 : decode cX9_book 67 = .ok (.aload_n 0, 1) := by decide +kernel
theorem dX9_book_68 : decode cX9_book 68 = .ok (.ldc 80, 2) := by decide +kernel
theorem dX9_book_70 : decode cX9_book 70 = .ok (.invokevirtual 81, 3) := by decide +kernel
theorem dX9_book_73 : decode cX9_book 73 = .ok (.i2l, 1) := by decide +kernel
theorem dX9_book_74 : decode cX9_book 74 = .ok (.lreturn, 1) := by decide +kernel
theorem dX9_all_0 : decode cX9_all 0 = .ok (.iload_n 1, 1) := by decide +kernel
theorem dX9_all_1 : decode cX9_all 1 = .ok (.iconst 0, 1) := by decide +kernel
theorem dX9_all_2 : decode cX9_all 2 = .ok (.iconst 5, 1) := by decide +kernel
theorem dX9_all_3 : decode cX9_all 3 = .ok (.invokestatic 73, 3) := by decide +kernel
theorem dX9_all_6 : decode cX9_all 6 = .ok (.ifCond .ne 11, 3) := by decide +kernel
theorem dX9_all_9 : decode cX9_all 9 = .ok (.aload_n 0, 1) := by decide +kernel
theorem dX9_all_10 : decode cX9_all 10 = .ok (.ldc 80, 2) := by decide +kernel
theorem dX9_all_12 : decode cX9_all 12 = .ok (.invokevirtual 81, 3) := by decide +kernel
theorem dX9_all_15 : decode cX9_all 15 = .ok (.i2l, 1) := by decide +kernel
theorem dX9_all_16 : decode cX9_all 16 = .ok (.lreturn, 1) := by decide +kernel
theorem dX9_all_17 : decode cX9_all 17 = .ok (.aload_n 0, 1) := by decide +kernel
theorem dX9_all_18 : decode cX9_all 18 = .ok (.getfield 40, 3) := by decide +kernel
theorem dX9_all_21 : decode cX9_all 21 = .ok (.getfield 248, 3) := by decide +kernel
theorem dX9_all_24 : decode cX9_all 24 = .ok (.iload_n 1, 1) := by decide +kernel
theorem dX9_all_25 : decode cX9_all 25 = .ok (.laload, 1) := by decide +kernel
theorem dX9_all_26 : decode cX9_all 26 = .ok (.lreturn, 1) := by decide +kernel
theorem dX9_next_0 : decode cX9_next 0 = .ok (.aload_n 0, 1) := by decide +kernel
theorem dX9_next_1 : decode cX9_next 1 = .ok (.getfield 62, 3) := by decide +kernel
theorem dX9_next_4 : decode cX9_next 4 = .ok (.ireturn, 1) := by decide +kernel
theorem dX9_plan_0 : decode cX9_plan 0 = .ok (.iload_n 1, 1) := by decide +kernel
theorem dX9_plan_1 : decode cX9_plan 1 = .ok (.iload_n 2, 1) := by decide +kernel
theorem dX9_plan_2 : decode cX9_plan 2 = .ok (.invokestatic 251, 3) := by decide +kernel
theorem dX9_plan_5 : decode cX9_plan 5 = .ok (.ifCond .ne 10, 3) := by decide +kernel
theorem dX9_plan_8 : decode cX9_plan 8 = .ok (.aload_n 0, 1) := by decide +kernel
theorem dX9_plan_9 : decode cX9_plan 9 = .ok (.ldc 80, 2) := by decide +kernel
theorem dX9_plan_11 : decode cX9_plan 11 = .ok (.invokevirtual 81, 3) := by decide +kernel
theorem dX9_plan_14 : decode cX9_plan 14 = .ok (.ireturn, 1) := by decide +kernel
theorem dX9_plan_15 : decode cX9_plan 15 = .ok (.aload_n 0, 1) := by decide +kernel
theorem dX9_plan_16 : decode cX9_plan 16 = .ok (.getfield 47, 3) := by decide +kernel
theorem dX9_plan_19 : decode cX9_plan 19 = .ok (.aload_n 0, 1) := by decide +kernel
theorem dX9_plan_20 : decode cX9_plan 20 = .ok (.getfield 10, 3) := by decide +kernel
theorem dX9_plan_23 : decode cX9_plan 23 = .ok (.iload_n 1, 1) := by decide +kernel
theorem dX9_plan_24 : decode cX9_plan 24 = .ok (.iload_n 2, 1) := by decide +kernel
theorem dX9_plan_25 : decode cX9_plan 25 = .ok (.invokevirtual 255, 3) := by decide +kernel
theorem dX9_plan_28 : decode cX9_plan 28 = .ok (.aload_n 0, 1) := by decide +kernel
theorem dX9_plan_29 : decode cX9_plan 29 = .ok (.getfield 47, 3) := by decide +kernel
theorem dX9_plan_32 : decode cX9_plan 32 = .ok (.getfield 259, 3) := by decide +kernel
theorem dX9_plan_35 : decode cX9_plan 35 = .ok (.ireturn, 1) := by decide +kernel
theorem dX9_worth_0 : decode cX9_worth 0 = .ok (.iload_n 1, 1) := by decide +kernel
theorem dX9_worth_1 : decode cX9_worth 1 = .ok (.iload_n 2, 1) := by decide +kernel
theorem dX9_worth_2 : decode cX9_worth 2 = .ok (.invokestatic 251, 3) := by decide +kernel
theorem dX9_worth_5 : decode cX9_worth 5 = .ok (.ifCond .ne 11, 3) := by decide +kernel
theorem dX9_worth_8 : decode cX9_worth 8 = .ok (.aload_n 0, 1) := by decide +kernel
theorem dX9_worth_9 : decode cX9_worth 9 = .ok (.ldc 80, 2) := by decide +kernel
theorem dX9_worth_11 : decode cX9_worth 11 = .ok (.invokevirtual 81, 3) := by decide +kernel
theorem dX9_worth_14 : decode cX9_worth 14 = .ok (.i2l, 1) := by decide +kernel
theorem dX9_worth_15 : decode cX9_worth 15 = .ok (.lreturn, 1) := by decide +kernel
theorem dX9_worth_16 : decode cX9_worth 16 = .ok (.aload_n 0, 1) := by decide +kernel
theorem dX9_worth_17 : decode cX9_worth 17 = .ok (.getfield 47, 3) := by decide +kernel
theorem dX9_worth_20 : decode cX9_worth 20 = .ok (.aload_n 0, 1) := by decide +kernel
theorem dX9_worth_21 : decode cX9_worth 21 = .ok (.getfield 10, 3) := by decide +kernel
theorem dX9_worth_24 : decode cX9_worth 24 = .ok (.iload_n 1, 1) := by decide +kernel
theorem dX9_worth_25 : decode cX9_worth 25 = .ok (.iload_n 2, 1) := by decide +kernel
theorem dX9_worth_26 : decode cX9_worth 26 = .ok (.invokevirtual 255, 3) := by decide +kernel
theorem dX9_worth_29 : decode cX9_worth 29 = .ok (.aload_n 0, 1) := by decide +kernel
theorem dX9_worth_30 : decode cX9_worth 30 = .ok (.getfield 47, 3) := by decide +kernel
theorem dX9_worth_33 : decode cX9_worth 33 = .ok (.getfield 262, 3) := by decide +kernel
theorem dX9_worth_36 : decode cX9_worth 36 = .ok (.lreturn, 1) := by decide +kernel
theorem dX9_wash_0 : decode cX9_wash 0 = .ok (.iload_n 1, 1) := by decide +kernel
theorem dX9_wash_1 : decode cX9_wash 1 = .ok (.ifCond .lt 15, 3) := by decide +kernel
theorem dX9_wash_4 : decode cX9_wash 4 = .ok (.iload_n 1, 1) := by decide +kernel
theorem dX9_wash_5 : decode cX9_wash 5 = .ok (.aload_n 0, 1) := by decide +kernel
theorem dX9_wash_6 : decode cX9_wash 6 = .ok (.getfield 10, 3) := by decide +kernel
theorem dX9_wash_9 : decode cX9_wash 9 = .ok (.getfield 89, 3) := by decide +kernel
theorem dX9_wash_12 : decode cX9_wash 12 = .ok (.ishr, 1) := by decide +kernel
theorem dX9_wash_13 : decode cX9_wash 13 = .ok (.ifCond .eq 10, 3) := by decide +kernel
theorem dX9_wash_16 : decode cX9_wash 16 = .ok (.aload_n 0, 1) := by decide +kernel
theorem dX9_wash_17 : decode cX9_wash 17 = .ok (.ldc 80, 2) := by decide +kernel
theorem dX9_wash_19 : decode cX9_wash 19 = .ok (.invokevirtual 81, 3) := by decide +kernel
theorem dX9_wash_22 : decode cX9_wash 22 = .ok (.ireturn, 1) := by decide +kernel
theorem dX9_wash_23 : decode cX9_wash 23 = .ok (.aload_n 0, 1) := by decide +kernel
theorem dX9_wash_24 : decode cX9_wash 24 = .ok (.getfield 10, 3) := by decide +kernel
theorem dX9_wash_27 : decode cX9_wash 27 = .ok (.iload_n 1, 1) := by decide +kernel
theorem dX9_wash_28 : decode cX9_wash 28 = .ok (.invokevirtual 266, 3) := by decide +kernel
theorem dX9_wash_31 : decode cX9_wash 31 = .ok (.ireturn, 1) := by decide +kernel
theorem dX9_storm_0 : decode cX9_storm 0 = .ok (.iload_n 1, 1) := by decide +kernel
theorem dX9_storm_1 : decode cX9_storm 1 = .ok (.iconst 0, 1) := by decide +kernel
theorem dX9_storm_2 : decode cX9_storm 2 = .ok (.sipush 1000, 3) := by decide +kernel
theorem dX9_storm_5 : decode cX9_storm 5 = .ok (.invokestatic 73, 3) := by decide +kernel
theorem dX9_storm_8 : decode cX9_storm 8 = .ok (.ifCond .ne 10, 3) := by decide +kernel
theorem dX9_storm_11 : decode cX9_storm 11 = .ok (.aload_n 0, 1) := by decide +kernel
theorem dX9_storm_12 : decode cX9_storm 12 = .ok (.ldc 80, 2) := by decide +kernel
theorem dX9_storm_14 : decode cX9_storm 14 = .ok (.invokevirtual 81, 3) := by decide +kernel
theorem dX9_storm_17 : decode cX9_storm 17 = .ok (.ireturn, 1) := by decide +kernel
theorem dX9_storm_18 : decode cX9_storm 18 = .ok (.aload_n 0, 1) := by decide +kernel
theorem dX9_storm_19 : decode cX9_storm 19 = .ok (.getfield 10, 3) := by decide +kernel
theorem dX9_storm_22 : decode cX9_storm 22 = .ok (.iload_n 1, 1) := by decide +kernel
theorem dX9_storm_23 : decode cX9_storm 23 = .ok (.invokevirtual 269, 3) := by decide +kernel
theorem dX9_storm_26 : decode cX9_storm 26 = .ok (.ireturn, 1) := by decide +kernel
theorem dX9_tell_0 : decode cX9_tell 0 = .ok (.aload_n 0, 1) := by decide +kernel
theorem dX9_tell_1 : decode cX9_tell 1 = .ok (.getfield 54, 3) := by decide +kernel
theorem dX9_tell_4 : decode cX9_tell 4 = .ok (.getfield 142, 3) := by decide +kernel
theorem dX9_tell_7 : decode cX9_tell 7 = .ok (.bipush 72, 2) := by decide +kernel
theorem dX9_tell_9 : decode cX9_tell 9 = .ok (.if_icmp .lt 10, 3) := by decide +kernel
theorem dX9_tell_12 : decode cX9_tell 12 = .ok (.aload_n 0, 1) := by decide +kernel
theorem dX9_tell_13 : decode cX9_tell 13 = .ok (.ldc 92, 2) := by decide +kernel
theorem dX9_tell_15 : decode cX9_tell 15 = .ok (.invokevirtual 81, 3) := by decide +kernel
theorem dX9_tell_18 : decode cX9_tell 18 = .ok (.ireturn, 1) := by decide +kernel
theorem dX9_tell_19 : decode cX9_tell 19 = .ok (.aload_n 0, 1) := by decide +kernel
theorem dX9_tell_20 : decode cX9_tell 20 = .ok (.getfield 54, 3) := by decide +kernel
theorem dX9_tell_23 : decode cX9_tell 23 = .ok (.iload_n 1, 1) := by decide +kernel
theorem dX9_tell_24 : decode cX9_tell 24 = .ok (.invokevirtual 272, 3) := by decide +kernel
theorem dX9_tell_27 : decode cX9_tell 27 = .ok (.aload_n 0, 1) := by decide +kernel
theorem dX9_tell_28 : decode cX9_tell 28 = .ok (.getfield 54, 3) := by decide +kernel
theorem dX9_tell_31 : decode cX9_tell 31 = .ok (.getfield 142, 3) := by decide +kernel
theorem dX9_tell_34 : decode cX9_tell 34 = .ok (.ireturn, 1) := by decide +kernel
theorem dX9_check_0 : decode cX9_check 0 = .ok (.aload_n 0, 1) := by decide +kernel
theorem dX9_check_1 : decode cX9_check 1 = .ok (.getfield 54, 3) := by decide +kernel
theorem dX9_check_4 : decode cX9_check 4 = .ok (.getfield 142, 3) := by decide +kernel
theorem dX9_check_7 : decode cX9_check 7 = .ok (.istore_n 1, 1) := by decide +kernel
theorem dX9_check_8 : decode cX9_check 8 = .ok (.aload_n 0, 1) := by decide +kernel
theorem dX9_check_9 : decode cX9_check 9 = .ok (.getfield 54, 3) := by decide +kernel
theorem dX9_check_12 : decode cX9_check 12 = .ok (.invokevirtual 145, 3) := by decide +kernel
theorem dX9_check_15 : decode cX9_check 15 = .ok (.aload_n 0, 1) := by decide +kernel
theorem dX9_check_16 : decode cX9_check 16 = .ok (.getfield 40, 3) := by decide +kernel
theorem dX9_check_19 : decode cX9_check 19 = .ok (.getfield 241, 3) := by decide +kernel
theorem dX9_check_22 : decode cX9_check 22 = .ok (.ifCond .ne 10, 3) := by decide +kernel
theorem dX9_check_25 : decode cX9_check 25 = .ok (.aload_n 0, 1) := by decide +kernel
theorem dX9_check_26 : decode cX9_check 26 = .ok (.ldc 103, 2) := by decide +kernel
theorem dX9_check_28 : decode cX9_check 28 = .ok (.invokevirtual 81, 3) := by decide +kernel
theorem dX9_check_31 : decode cX9_check 31 = .ok (.ireturn, 1) := by decide +kernel
theorem dX9_check_32 : decode cX9_check 32 = .ok (.iconst 0, 1) := by decide +kernel
theorem dX9_check_33 : decode cX9_check 33 = .ok (.istore_n 2, 1) := by decide +kernel
theorem dX9_check_34 : decode cX9_check 34 = .ok (.iload_n 2, 1) := by decide +kernel
theorem dX9_check_35 : decode cX9_check 35 = .ok (.bipush 6, 2) := by decide +kernel
theorem dX9_check_37 : decode cX9_check 37 = .ok (.if_icmp .ge 41, 3) := by decide +kernel
theorem dX9_check_40 : decode cX9_check 40 = .ok (.iload_n 2, 1) := by decide +kernel
theorem dX9_check_41 : decode cX9_check 41 = .ok (.iload_n 1, 1) := by decide +kernel
theorem dX9_check_42 : decode cX9_check 42 = .ok (.if_icmp .ge 26, 3) := by decide +kernel
theorem dX9_check_45 : decode cX9_check 45 = .ok (.aload_n 0, 1) := by decide +kernel
theorem dX9_check_46 : decode cX9_check 46 = .ok (.getfield 54, 3) := by decide +kernel
theorem dX9_check_49 : decode cX9_check 49 = .ok (.getfield 148, 3) := by decide +kernel
theorem dX9_check_52 : decode cX9_check 52 = .ok (.iload_n 2, 1) := by decide +kernel
theorem dX9_check_53 : decode cX9_check 53 = .ok (.iaload, 1) := by decide +kernel
theorem dX9_check_54 : decode cX9_check 54 = .ok (.i2l, 1) := by decide +kernel
theorem dX9_check_55 : decode cX9_check 55 = .ok (.aload_n 0, 1) := by decide +kernel
theorem dX9_check_56 : decode cX9_check 56 = .ok (.getfield 40, 3) := by decide +kernel
theorem dX9_check_59 : decode cX9_check 59 = .ok (.getfield 237, 3) := by decide +kernel
theorem dX9_check_62 : decode cX9_check 62 = .ok (.iload_n 2, 1) := by decide +kernel
theorem dX9_check_63 : decode cX9_check 63 = .ok (.laload, 1) := by decide +kernel
theorem dX9_check_64 : decode cX9_check 64 = .ok (.lcmp, 1) := by decide +kernel
theorem dX9_check_65 : decode cX9_check 65 = .ok (.ifCond .eq 7, 3) := by decide +kernel
theorem dX9_check_68 : decode cX9_check 68 = .ok (.iconst 1, 1) := by decide +kernel
theorem dX9_check_69 : decode cX9_check 69 = .ok (.iload_n 2, 1) := by decide +kernel
theorem dX9_check_70 : decode cX9_check 70 = .ok (.iadd, 1) := by decide +kernel
theorem dX9_check_71 : decode cX9_check 71 = .ok (.ireturn, 1) := by decide +kernel
theorem dX9_check_72 : decode cX9_check 72 = .ok (.iinc 2 1, 3) := by decide +kernel
theorem dX9_check_75 : decode cX9_check 75 = .ok (.goto (-41), 3) := by decide +kernel
theorem dX9_check_78 : decode cX9_check 78 = .ok (.iload_n 1, 1) := by decide +kernel
theorem dX9_check_79 : decode cX9_check 79 = .ok (.bipush 6, 2) := by decide +kernel
theorem dX9_check_81 : decode cX9_check 81 = .ok (.if_icmp .le 8, 3) := by decide +kernel
theorem dX9_check_84 : decode cX9_check 84 = .ok (.bipush 99, 2) := by decide +kernel
theorem dX9_check_86 : decode cX9_check 86 = .ok (.goto 4, 3) := by decide +kernel
theorem dX9_check_89 : decode cX9_check 89 = .ok (.iconst 0, 1) := by decide +kernel
theorem dX9_check_90 : decode cX9_check 90 = .ok (.ireturn, 1) := by decide +kernel
theorem dX9_found_0 : decode cX9_found 0 = .ok (.iload_n 1, 1) := by decide +kernel
theorem dX9_found_1 : decode cX9_found 1 = .ok (.ldc 88, 2) := by decide +kernel
theorem dX9_found_3 : decode cX9_found 3 = .ok (.ldc 80, 2) := by decide +kernel
theorem dX9_found_5 : decode cX9_found 5 = .ok (.invokestatic 73, 3) := by decide +kernel
theorem dX9_found_8 : decode cX9_found 8 = .ok (.ifCond .ne 10, 3) := by decide +kernel
theorem dX9_found_11 : decode cX9_found 11 = .ok (.aload_n 0, 1) := by decide +kernel
theorem dX9_found_12 : decode cX9_found 12 = .ok (.ldc 80, 2) := by decide +kernel
theorem dX9_found_14 : decode cX9_found 14 = .ok (.invokevirtual 81, 3) := by decide +kernel
theorem dX9_found_17 : decode cX9_found 17 = .ok (.ireturn, 1) := by decide +kernel
theorem dX9_found_18 : decode cX9_found 18 = .ok (.aload_n 0, 1) := by decide +kernel
theorem dX9_found_19 : decode cX9_found 19 = .ok (.getfield 58, 3) := by decide +kernel
theorem dX9_found_22 : decode cX9_found 22 = .ok (.ldc 80, 2) := by decide +kernel
theorem dX9_found_24 : decode cX9_found 24 = .ok (.iload_n 1, 1) := by decide +kernel
theorem dX9_found_25 : decode cX9_found 25 = .ok (.isub, 1) := by decide +kernel
theorem dX9_found_26 : decode cX9_found 26 = .ok (.iaload, 1) := by decide +kernel
theorem dX9_found_27 : decode cX9_found 27 = .ok (.ireturn, 1) := by decide +kernel
theorem dX9_answer_0 : decode cX9_answer 0 = .ok (.aload_n 0, 1) := by decide +kernel
theorem dX9_answer_1 : decode cX9_answer 1 = .ok (.getfield 58, 3) := by decide +kernel
theorem dX9_answer_4 : decode cX9_answer 4 = .ok (.ldc 80, 2) := by decide +kernel
theorem dX9_answer_6 : decode cX9_answer 6 = .ok (.iload_n 1, 1) := by decide +kernel
theorem dX9_answer_7 : decode cX9_answer 7 = .ok (.isub, 1) := by decide +kernel
theorem dX9_answer_8 : decode cX9_answer 8 = .ok (.dup2, 1) := by decide +kernel
theorem dX9_answer_9 : decode cX9_answer 9 = .ok (.iaload, 1) := by decide +kernel
theorem dX9_answer_10 : decode cX9_answer 10 = .ok (.iconst 1, 1) := by decide +kernel
theorem dX9_answer_11 : decode cX9_answer 11 = .ok (.iadd, 1) := by decide +kernel
theorem dX9_answer_12 : decode cX9_answer 12 = .ok (.iastore, 1) := by decide +kernel
theorem dX9_answer_13 : decode cX9_answer 13 = .ok (.iload_n 1, 1) := by decide +kernel
theorem dX9_answer_14 : decode cX9_answer 14 = .ok (.ireturn, 1) := by decide +kernel
theorem dX9_findingOfSight_0 : decode cX9_findingOfSight 0 = .ok (.aload_n 0, 1) := by decide +kernel
theorem dX9_findingOfSight_1 : decode cX9_findingOfSight 1 = .ok (.iload_n 1, 1) := by decide +kernel
theorem dX9_findingOfSight_2 : decode cX9_findingOfSight 2 = .ok (.invokevirtual 104, 3) := by decide +kernel
theorem dX9_findingOfSight_5 : decode cX9_findingOfSight 5 = .ok (.ifCond .eq 10, 3) := by decide +kernel
theorem dX9_findingOfSight_8 : decode cX9_findingOfSight 8 = .ok (.iload_n 2, 1) := by decide +kernel
theorem dX9_findingOfSight_9 : decode cX9_findingOfSight 9 = .ok (.invokestatic 151, 3) := by decide +kernel
theorem dX9_findingOfSight_12 : decode cX9_findingOfSight 12 = .ok (.ifCond .ne 6, 3) := by decide +kernel
theorem dX9_findingOfSight_15 : decode cX9_findingOfSight 15 = .ok (.ldc 80, 2) := by decide +kernel
theorem dX9_findingOfSight_17 : decode cX9_findingOfSight 17 = .ok (.ireturn, 1) := by decide +kernel
theorem dX9_findingOfSight_18 : decode cX9_findingOfSight 18 = .ok (.aload_n 0, 1) := by decide +kernel
theorem dX9_findingOfSight_19 : decode cX9_findingOfSight 19 = .ok (.getfield 19, 3) := by decide +kernel
theorem dX9_findingOfSight_22 : decode cX9_findingOfSight 22 = .ok (.iload_n 2, 1) := by decide +kernel
theorem dX9_findingOfSight_23 : decode cX9_findingOfSight 23 = .ok (.invokevirtual 139, 3) := by decide +kernel
theorem dX9_findingOfSight_26 : decode cX9_findingOfSight 26 = .ok (.ifCond .eq 8, 3) := by decide +kernel
theorem dX9_findingOfSight_29 : decode cX9_findingOfSight 29 = .ok (.ldc 103, 2) := by decide +kernel
theorem dX9_findingOfSight_31 : decode cX9_findingOfSight 31 = .ok (.goto 4, 3) := by decide +kernel
theorem dX9_findingOfSight_34 : decode cX9_findingOfSight 34 = .ok (.iconst 0, 1) := by decide +kernel
theorem dX9_findingOfSight_35 : decode cX9_findingOfSight 35 = .ok (.ireturn, 1) := by decide +kernel
theorem dX9_findingOfShade_0 : decode cX9_findingOfShade 0 = .ok (.aload_n 0, 1) := by decide +kernel
theorem dX9_findingOfShade_1 : decode cX9_findingOfShade 1 = .ok (.iload_n 1, 1) := by decide +kernel
theorem dX9_findingOfShade_2 : decode cX9_findingOfShade 2 = .ok (.iload_n 2, 1) := by decide +kernel
theorem dX9_findingOfShade_3 : decode cX9_findingOfShade 3 = .ok (.invokevirtual 167, 3) := by decide +kernel
theorem dX9_findingOfShade_6 : decode cX9_findingOfShade 6 = .ok (.istore_n 3, 1) := by decide +kernel
theorem dX9_findingOfShade_7 : decode cX9_findingOfShade 7 = .ok (.iload_n 3, 1) := by decide +kernel
theorem dX9_findingOfShade_8 : decode cX9_findingOfShade 8 = .ok (.ifCond .eq 5, 3) := by decide +kernel
theorem dX9_findingOfShade_11 : decode cX9_findingOfShade 11 = .ok (.iload_n 3, 1) := by decide +kernel
theorem dX9_findingOfShade_12 : decode cX9_findingOfShade 12 = .ok (.ireturn, 1) := by decide +kernel
theorem dX9_findingOfShade_13 : decode cX9_findingOfShade 13 = .ok (.aload_n 0, 1) := by decide +kernel
theorem dX9_findingOfShade_14 : decode cX9_findingOfShade 14 = .ok (.iload_n 2, 1) := by decide +kernel
theorem dX9_findingOfShade_15 : decode cX9_findingOfShade 15 = .ok (.invokevirtual 170, 3) := by decide +kernel
theorem dX9_findingOfShade_18 : decode cX9_findingOfShade 18 = .ok (.aload_n 0, 1) := by decide +kernel
theorem dX9_findingOfShade_19 : decode cX9_findingOfShade 19 = .ok (.getfield 10, 3) := by decide +kernel
theorem dX9_findingOfShade_22 : decode cX9_findingOfShade 22 = .ok (.getfield 174, 3) := by decide +kernel
theorem dX9_findingOfShade_25 : decode cX9_findingOfShade 25 = .ok (.iload_n 1, 1) := by decide +kernel
theorem dX9_findingOfShade_26 : decode cX9_findingOfShade 26 = .ok (.invokevirtual 275, 3) := by decide +kernel
theorem dX9_findingOfShade_29 : decode cX9_findingOfShade 29 = .ok (.ifCond .eq 7, 3) := by decide +kernel
theorem dX9_findingOfShade_32 : decode cX9_findingOfShade 32 = .ok (.iconst 0, 1) := by decide +kernel
theorem dX9_findingOfShade_33 : decode cX9_findingOfShade 33 = .ok (.goto 5, 3) := by decide +kernel
theorem dX9_findingOfShade_36 : decode cX9_findingOfShade 36 = .ok (.ldc 131, 2) := by decide +kernel
theorem dX9_findingOfShade_38 : decode cX9_findingOfShade 38 = .ok (.ireturn, 1) := by decide +kernel
theorem dX9_isRow_0 : decode cX9_isRow 0 = .ok (.iload_n 1, 1) := by decide +kernel
theorem dX9_isRow_1 : decode cX9_isRow 1 = .ok (.iconst 0, 1) := by decide +kernel
theorem dX9_isRow_2 : decode cX9_isRow 2 = .ok (.aload_n 0, 1) := by decide +kernel
theorem dX9_isRow_3 : decode cX9_isRow 3 = .ok (.getfield 10, 3) := by decide +kernel
theorem dX9_isRow_6 : decode cX9_isRow 6 = .ok (.getfield 89, 3) := by decide +kernel
theorem dX9_isRow_9 : decode cX9_isRow 9 = .ok (.iconst 1, 1) := by decide +kernel
theorem dX9_isRow_10 : decode cX9_isRow 10 = .ok (.isub, 1) := by decide +kernel
theorem dX9_isRow_11 : decode cX9_isRow 11 = .ok (.invokestatic 73, 3) := by decide +kernel
theorem dX9_isRow_14 : decode cX9_isRow 14 = .ok (.ireturn, 1) := by decide +kernel
theorem dX9_isWithin_0 : decode cX9_isWithin 0 = .ok (.iload_n 0, 1) := by decide +kernel
theorem dX9_isWithin_1 : decode cX9_isWithin 1 = .ok (.iload_n 1, 1) := by decide +kernel
theorem dX9_isWithin_2 : decode cX9_isWithin 2 = .ok (.if_icmp .lt 12, 3) := by decide +kernel
theorem dX9_isWithin_5 : decode cX9_isWithin 5 = .ok (.iload_n 0, 1) := by decide +kernel
theorem dX9_isWithin_6 : decode cX9_isWithin 6 = .ok (.iload_n 2, 1) := by decide +kernel
theorem dX9_isWithin_7 : decode cX9_isWithin 7 = .ok (.if_icmp .gt 7, 3) := by decide +kernel
theorem dX9_isWithin_10 : decode cX9_isWithin 10 = .ok (.iconst 1, 1) := by decide +kernel
theorem dX9_isWithin_11 : decode cX9_isWithin 11 = .ok (.goto 4, 3) := by decide +kernel
theorem dX9_isWithin_14 : decode cX9_isWithin 14 = .ok (.iconst 0, 1) := by decide +kernel
theorem dX9_isWithin_15 : decode cX9_isWithin 15 = .ok (.ireturn, 1) := by decide +kernel
theorem dX9_isKind_0 : decode cX9_isKind 0 = .ok (.iload_n 0, 1) := by decide +kernel
theorem dX9_isKind_1 : decode cX9_isKind 1 = .ok (.iconst 0, 1) := by decide +kernel
theorem dX9_isKind_2 : decode cX9_isKind 2 = .ok (.iconst 2, 1) := by decide +kernel
theorem dX9_isKind_3 : decode cX9_isKind 3 = .ok (.invokestatic 73, 3) := by decide +kernel
theorem dX9_isKind_6 : decode cX9_isKind 6 = .ok (.ireturn, 1) := by decide +kernel
theorem dX9_isStep_0 : decode cX9_isStep 0 = .ok (.iload_n 0, 1) := by decide +kernel
theorem dX9_isStep_1 : decode cX9_isStep 1 = .ok (.bipush (-12), 2) := by decide +kernel
theorem dX9_isStep_3 : decode cX9_isStep 3 = .ok (.bipush 12, 2) := by decide +kernel
theorem dX9_isStep_5 : decode cX9_isStep 5 = .ok (.invokestatic 73, 3) := by decide +kernel
theorem dX9_isStep_8 : decode cX9_isStep 8 = .ok (.ireturn, 1) := by decide +kernel
theorem dX9_isHour_0 : decode cX9_isHour 0 = .ok (.iload_n 0, 1) := by decide +kernel
theorem dX9_isHour_1 : decode cX9_isHour 1 = .ok (.iconst 0, 1) := by decide +kernel
theorem dX9_isHour_2 : decode cX9_isHour 2 = .ok (.bipush 23, 2) := by decide +kernel
theorem dX9_isHour_4 : decode cX9_isHour 4 = .ok (.invokestatic 73, 3) := by decide +kernel
theorem dX9_isHour_7 : decode cX9_isHour 7 = .ok (.ireturn, 1) := by decide +kernel
theorem dX9_isString_0 : decode cX9_isString 0 = .ok (.iload_n 0, 1) := by decide +kernel
theorem dX9_isString_1 : decode cX9_isString 1 = .ok (.iconst 0, 1) := by decide +kernel
theorem dX9_isString_2 : decode cX9_isString 2 = .ok (.iconst 3, 1) := by decide +kernel
theorem dX9_isString_3 : decode cX9_isString 3 = .ok (.invokestatic 73, 3) := by decide +kernel
theorem dX9_isString_6 : decode cX9_isString 6 = .ok (.ireturn, 1) := by decide +kernel
theorem dX9_isSunWay_0 : decode cX9_isSunWay 0 = .ok (.iload_n 0, 1) := by decide +kernel
theorem dX9_isSunWay_1 : decode cX9_isSunWay 1 = .ok (.invokestatic 151, 3) := by decide +kernel
theorem dX9_isSunWay_4 : decode cX9_isSunWay 4 = .ok (.ifCond .eq 31, 3) := by decide +kernel
theorem dX9_isSunWay_7 : decode cX9_isSunWay 7 = .ok (.iload_n 1, 1) := by decide +kernel
theorem dX9_isSunWay_8 : decode cX9_isSunWay 8 = .ok (.sipush (-1000), 3) := by decide +kernel
theorem dX9_isSunWay_11 : decode cX9_isSunWay 11 = .ok (.sipush 1000, 3) := by decide +kernel
theorem dX9_isSunWay_14 : decode cX9_isSunWay 14 = .ok (.invokestatic 73, 3) := by decide +kernel
theorem dX9_isSunWay_17 : decode cX9_isSunWay 17 = .ok (.ifCond .eq 18, 3) := by decide +kernel
theorem dX9_isSunWay_20 : decode cX9_isSunWay 20 = .ok (.iload_n 2, 1) := by decide +kernel
theorem dX9_isSunWay_21 : decode cX9_isSunWay 21 = .ok (.iconst 0, 1) := by decide +kernel
theorem dX9_isSunWay_22 : decode cX9_isSunWay 22 = .ok (.sipush 1000, 3) := by decide +kernel
theorem dX9_isSunWay_25 : decode cX9_isSunWay 25 = .ok (.invokestatic 73, 3) := by decide +kernel
theorem dX9_isSunWay_28 : decode cX9_isSunWay 28 = .ok (.ifCond .eq 7, 3) := by decide +kernel
theorem dX9_isSunWay_31 : decode cX9_isSunWay 31 = .ok (.iconst 1, 1) := by decide +kernel
theorem dX9_isSunWay_32 : decode cX9_isSunWay 32 = .ok (.goto 4, 3) := by decide +kernel
theorem dX9_isSunWay_35 : decode cX9_isSunWay 35 = .ok (.iconst 0, 1) := by decide +kernel
theorem dX9_isSunWay_36 : decode cX9_isSunWay 36 = .ok (.ireturn, 1) := by decide +kernel
theorem dX9_isWashPlan_0 : decode cX9_isWashPlan 0 = .ok (.iload_n 0, 1) := by decide +kernel
theorem dX9_isWashPlan_1 : decode cX9_isWashPlan 1 = .ok (.iconst 1, 1) := by decide +kernel
theorem dX9_isWashPlan_2 : decode cX9_isWashPlan 2 = .ok (.bipush 100, 2) := by decide +kernel
theorem dX9_isWashPlan_4 : decode cX9_isWashPlan 4 = .ok (.invokestatic 73, 3) := by decide +kernel
theorem dX9_isWashPlan_7 : decode cX9_isWashPlan 7 = .ok (.ifCond .eq 17, 3) := by decide +kernel
theorem dX9_isWashPlan_10 : decode cX9_isWashPlan 10 = .ok (.iload_n 1, 1) := by decide +kernel
theorem dX9_isWashPlan_11 : decode cX9_isWashPlan 11 = .ok (.iconst 0, 1) := by decide +kernel
theorem dX9_isWashPlan_12 : decode cX9_isWashPlan 12 = .ok (.ldc 200, 2) := by decide +kernel
theorem dX9_isWashPlan_14 : decode cX9_isWashPlan 14 = .ok (.invokestatic 73, 3) := by decide +kernel
theorem dX9_isWashPlan_17 : decode cX9_isWashPlan 17 = .ok (.ifCond .eq 7, 3) := by decide +kernel
theorem dX9_isWashPlan_20 : decode cX9_isWashPlan 20 = .ok (.iconst 1, 1) := by decide +kernel
theorem dX9_isWashPlan_21 : decode cX9_isWashPlan 21 = .ok (.goto 4, 3) := by decide +kernel
theorem dX9_isWashPlan_24 : decode cX9_isWashPlan 24 = .ok (.iconst 0, 1) := by decide +kernel
theorem dX9_isWashPlan_25 : decode cX9_isWashPlan 25 = .ok (.ireturn, 1) := by decide +kernel
theorem dX9_lookFrom_0 : decode cX9_lookFrom 0 = .ok (.aload_n 0, 1) := by decide +kernel
theorem dX9_lookFrom_1 : decode cX9_lookFrom 1 = .ok (.getfield 10, 3) := by decide +kernel
theorem dX9_lookFrom_4 : decode cX9_lookFrom 4 = .ok (.aload_n 0, 1) := by decide +kernel
theorem dX9_lookFrom_5 : decode cX9_lookFrom 5 = .ok (.getfield 19, 3) := by decide +kernel
theorem dX9_lookFrom_8 : decode cX9_lookFrom 8 = .ok (.getfield 154, 3) := by decide +kernel
theorem dX9_lookFrom_11 : decode cX9_lookFrom 11 = .ok (.iload_n 1, 1) := by decide +kernel
theorem dX9_lookFrom_12 : decode cX9_lookFrom 12 = .ok (.iaload, 1) := by decide +kernel
theorem dX9_lookFrom_13 : decode cX9_lookFrom 13 = .ok (.aload_n 0, 1) := by decide +kernel
theorem dX9_lookFrom_14 : decode cX9_lookFrom 14 = .ok (.getfield 19, 3) := by decide +kernel
theorem dX9_lookFrom_17 : decode cX9_lookFrom 17 = .ok (.getfield 157, 3) := by decide +kernel
theorem dX9_lookFrom_20 : decode cX9_lookFrom 20 = .ok (.iload_n 1, 1) := by decide +kernel
theorem dX9_lookFrom_21 : decode cX9_lookFrom 21 = .ok (.iaload, 1) := by decide +kernel
theorem dX9_lookFrom_22 : decode cX9_lookFrom 22 = .ok (.invokevirtual 278, 3) := by decide +kernel
theorem dX9_lookFrom_25 : decode cX9_lookFrom 25 = .ok (.return_, 1) := by decide +kernel
theorem dX9_passHour_0 : decode cX9_passHour 0 = .ok (.aload_n 0, 1) := by decide +kernel
theorem dX9_passHour_1 : decode cX9_passHour 1 = .ok (.getfield 62, 3) := by decide +kernel
theorem dX9_passHour_4 : decode cX9_passHour 4 = .ok (.istore_n 1, 1) := by decide +kernel
theorem dX9_passHour_5 : decode cX9_passHour 5 = .ok (.aload_n 0, 1) := by decide +kernel
theorem dX9_passHour_6 : decode cX9_passHour 6 = .ok (.getfield 40, 3) := by decide +kernel
theorem dX9_passHour_9 : decode cX9_passHour 9 = .ok (.getfield 241, 3) := by decide +kernel
theorem dX9_passHour_12 : decode cX9_passHour 12 = .ok (.ifCond .eq 18, 3) := by decide +kernel
theorem dX9_passHour_15 : decode cX9_passHour 15 = .ok (.aload_n 0, 1) := by decide +kernel
theorem dX9_passHour_16 : decode cX9_passHour 16 = .ok (.getfield 40, 3) := by decide +kernel
theorem dX9_passHour_19 : decode cX9_passHour 19 = .ok (.getfield 234, 3) := by decide +kernel
theorem dX9_passHour_22 : decode cX9_passHour 22 = .ok (.iconst 2, 1) := by decide +kernel
theorem dX9_passHour_23 : decode cX9_passHour 23 = .ok (.if_icmp .eq 7, 3) := by decide +kernel
theorem dX9_passHour_26 : decode cX9_passHour 26 = .ok (.iconst 1, 1) := by decide +kernel
theorem dX9_passHour_27 : decode cX9_passHour 27 = .ok (.goto 4, 3) := by decide +kernel
theorem dX9_passHour_30 : decode cX9_passHour 30 = .ok (.iconst 0, 1) := by decide +kernel
theorem dX9_passHour_31 : decode cX9_passHour 31 = .ok (.istore_n 2, 1) := by decide +kernel
theorem dX9_passHour_32 : decode cX9_passHour 32 = .ok (.aload_n 0, 1) := by decide +kernel
theorem dX9_passHour_33 : decode cX9_passHour 33 = .ok (.getfield 33, 3) := by decide +kernel
theorem dX9_passHour_36 : decode cX9_passHour 36 = .ok (.iload_n 1, 1) := by decide +kernel
theorem dX9_passHour_37 : decode cX9_passHour 37 = .ok (.invokevirtual 282, 3) := by decide +kernel
theorem dX9_passHour_40 : decode cX9_passHour 40 = .ok (.istore_n 3, 1) := by decide +kernel
theorem dX9_passHour_41 : decode cX9_passHour 41 = .ok (.aload_n 0, 1) := by decide +kernel
theorem dX9_passHour_42 : decode cX9_passHour 42 = .ok (.iload_n 1, 1) := by decide +kernel
theorem dX9_passHour_43 : decode cX9_passHour 43 = .ok (.iload_n 3, 1) := by decide +kernel
theorem dX9_passHour_44 : decode cX9_passHour 44 = .ok (.invokevirtual 285, 3) := by decide +kernel
theorem dX9_passHour_47 : decode cX9_passHour 47 = .ok (.istore 4, 2) := by decide +kernel
theorem dX9_passHour_49 : decode cX9_passHour 49 = .ok (.aload_n 0, 1) := by decide +kernel
theorem dX9_passHour_50 : decode cX9_passHour 50 = .ok (.getfield 10, 3) := by decide +kernel
theorem dX9_passHour_53 : decode cX9_passHour 53 = .ok (.iload 4, 2) := by decide +kernel
theorem dX9_passHour_55 : decode cX9_passHour 55 = .ok (.iload_n 2, 1) := by decide +kernel
theorem dX9_passHour_56 : decode cX9_passHour 56 = .ok (.ifCond .eq 15, 3) := by decide +kernel
theorem dX9_passHour_59 : decode cX9_passHour 59 = .ok (.iload_n 3, 1) := by decide +kernel
theorem dX9_passHour_60 : decode cX9_passHour 60 = .ok (.iconst 2, 1) := by decide +kernel
theorem dX9_passHour_61 : decode cX9_passHour 61 = .ok (.if_icmp .eq 10, 3) := by decide +kernel
theorem dX9_passHour_64 : decode cX9_passHour 64 = .ok (.aload_n 0, 1) := by decide +kernel
theorem dX9_passHour_65 : decode cX9_passHour 65 = .ok (.getfield 66, 3) := by decide +kernel
theorem dX9_passHour_68 : decode cX9_passHour 68 = .ok (.goto 5, 3) := by decide +kernel
theorem dX9_passHour_71 : decode cX9_passHour 71 = .ok (.iload 4, 2) := by decide +kernel
theorem dX9_passHour_73 : decode cX9_passHour 73 = .ok (.invokevirtual 288, 3) := by decide +kernel
theorem dX9_passHour_76 : decode cX9_passHour 76 = .ok (.aload_n 0, 1) := by decide +kernel
theorem dX9_passHour_77 : decode cX9_passHour 77 = .ok (.getfield 40, 3) := by decide +kernel
theorem dX9_passHour_80 : decode cX9_passHour 80 = .ok (.iload_n 1, 1) := by decide +kernel
theorem dX9_passHour_81 : decode cX9_passHour 81 = .ok (.iload_n 3, 1) := by decide +kernel
theorem dX9_passHour_82 : decode cX9_passHour 82 = .ok (.invokevirtual 291, 3) := by decide +kernel
theorem dX9_passHour_85 : decode cX9_passHour 85 = .ok (.aload_n 0, 1) := by decide +kernel
theorem dX9_passHour_86 : decode cX9_passHour 86 = .ok (.getfield 19, 3) := by decide +kernel
theorem dX9_passHour_89 : decode cX9_passHour 89 = .ok (.iload_n 1, 1) := by decide +kernel
theorem dX9_passHour_90 : decode cX9_passHour 90 = .ok (.invokevirtual 139, 3) := by decide +kernel
theorem dX9_passHour_93 : decode cX9_passHour 93 = .ok (.ifCond .ne 30, 3) := by decide +kernel
theorem dX9_passHour_96 : decode cX9_passHour 96 = .ok (.aload_n 0, 1) := by decide +kernel
theorem dX9_passHour_97 : decode cX9_passHour 97 = .ok (.iload_n 1, 1) := by decide +kernel
theorem dX9_passHour_98 : decode cX9_passHour 98 = .ok (.invokevirtual 170, 3) := by decide +kernel
theorem dX9_passHour_101 : decode cX9_passHour 101 = .ok (.aload_n 0, 1) := by decide +kernel
theorem dX9_passHour_102 : decode cX9_passHour 102 = .ok (.getfield 10, 3) := by decide +kernel
theorem dX9_passHour_105 : decode cX9_passHour 105 = .ok (.invokevirtual 210, 3) := by decide +kernel
theorem dX9_passHour_108 : decode cX9_passHour 108 = .ok (.aload_n 0, 1) := by decide +kernel
theorem dX9_passHour_109 : decode cX9_passHour 109 = .ok (.getfield 26, 3) := by decide +kernel
theorem dX9_passHour_112 : decode cX9_passHour 112 = .ok (.aload_n 0, 1) := by decide +kernel
theorem dX9_passHour_113 : decode cX9_passHour 113 = .ok (.getfield 40, 3) := by decide +kernel
theorem dX9_passHour_116 : decode cX9_passHour 116 = .ok (.aload_n 0, 1) := by decide +kernel
theorem dX9_passHour_117 : decode cX9_passHour 117 = .ok (.getfield 10, 3) := by decide +kernel
theorem dX9_passHour_120 : decode cX9_passHour 120 = .ok (.invokevirtual 293, 3) := by decide +kernel
theorem dX9_passHour_123 : decode cX9_passHour 123 = .ok (.aload_n 0, 1) := by decide +kernel
theorem dX9_passHour_124 : decode cX9_passHour 124 = .ok (.getfield 40, 3) := by decide +kernel
theorem dX9_passHour_127 : decode cX9_passHour 127 = .ok (.invokevirtual 297, 3) := by decide +kernel
theorem dX9_passHour_130 : decode cX9_passHour 130 = .ok (.iload_n 3, 1) := by decide +kernel
theorem dX9_passHour_131 : decode cX9_passHour 131 = .ok (.iconst 1, 1) := by decide +kernel
theorem dX9_passHour_132 : decode cX9_passHour 132 = .ok (.if_icmp .ne 10, 3) := by decide +kernel
theorem dX9_passHour_135 : decode cX9_passHour 135 = .ok (.aload_n 0, 1) := by decide +kernel
theorem dX9_passHour_136 : decode cX9_passHour 136 = .ok (.getfield 10, 3) := by decide +kernel
theorem dX9_passHour_139 : decode cX9_passHour 139 = .ok (.invokevirtual 300, 3) := by decide +kernel
theorem dX9_passHour_142 : decode cX9_passHour 142 = .ok (.aload_n 0, 1) := by decide +kernel
theorem dX9_passHour_143 : decode cX9_passHour 143 = .ok (.iload 4, 2) := by decide +kernel
theorem dX9_passHour_145 : decode cX9_passHour 145 = .ok (.putfield 66, 3) := by decide +kernel
theorem dX9_passHour_148 : decode cX9_passHour 148 = .ok (.aload_n 0, 1) := by decide +kernel
theorem dX9_passHour_149 : decode cX9_passHour 149 = .ok (.iload_n 1, 1) := by decide +kernel
theorem dX9_passHour_150 : decode cX9_passHour 150 = .ok (.iconst 1, 1) := by decide +kernel
theorem dX9_passHour_151 : decode cX9_passHour 151 = .ok (.iadd, 1) := by decide +kernel
theorem dX9_passHour_152 : decode cX9_passHour 152 = .ok (.bipush 24, 2) := by decide +kernel
theorem dX9_passHour_154 : decode cX9_passHour 154 = .ok (.irem, 1) := by decide +kernel
theorem dX9_passHour_155 : decode cX9_passHour 155 = .ok (.putfield 62, 3) := by decide +kernel
theorem dX9_passHour_158 : decode cX9_passHour 158 = .ok (.return_, 1) := by decide +kernel
theorem dX9_targetStep_0 : decode cX9_targetStep 0 = .ok (.iload_n 2, 1) := by decide +kernel
theorem dX9_targetStep_1 : decode cX9_targetStep 1 = .ok (.iconst 1, 1) := by decide +kernel
theorem dX9_targetStep_2 : decode cX9_targetStep 2 = .ok (.if_icmp .ne 6, 3) := by decide +kernel
theorem dX9_targetStep_5 : decode cX9_targetStep 5 = .ok (.bipush (-12), 2) := by decide +kernel
theorem dX9_targetStep_7 : decode cX9_targetStep 7 = .ok (.ireturn, 1) := by decide +kernel
theorem dX9_targetStep_8 : decode cX9_targetStep 8 = .ok (.iload_n 2, 1) := by decide +kernel
theorem dX9_targetStep_9 : decode cX9_targetStep 9 = .ok (.iconst 2, 1) := by decide +kernel
theorem dX9_targetStep_10 : decode cX9_targetStep 10 = .ok (.if_icmp .eq 14, 3) := by decide +kernel
theorem dX9_targetStep_13 : decode cX9_targetStep 13 = .ok (.aload_n 0, 1) := by decide +kernel
theorem dX9_targetStep_14 : decode cX9_targetStep 14 = .ok (.getfield 19, 3) := by decide +kernel
theorem dX9_targetStep_17 : decode cX9_targetStep 17 = .ok (.iload_n 1, 1) := by decide +kernel
theorem dX9_targetStep_18 : decode cX9_targetStep 18 = .ok (.invokevirtual 139, 3) := by decide +kernel
theorem dX9_targetStep_21 : decode cX9_targetStep 21 = .ok (.ifCond .eq 5, 3) := by decide +kernel
theorem dX9_targetStep_24 : decode cX9_targetStep 24 = .ok (.iconst 0, 1) := by decide +kernel
theorem dX9_targetStep_25 : decode cX9_targetStep 25 = .ok (.ireturn, 1) := by decide +kernel
theorem dX9_targetStep_26 : decode cX9_targetStep 26 = .ok (.aload_n 0, 1) := by decide +kernel
theorem dX9_targetStep_27 : decode cX9_targetStep 27 = .ok (.getfield 10, 3) := by decide +kernel
theorem dX9_targetStep_30 : decode cX9_targetStep 30 = .ok (.aload_n 0, 1) := by decide +kernel
theorem dX9_targetStep_31 : decode cX9_targetStep 31 = .ok (.getfield 19, 3) := by decide +kernel
theorem dX9_targetStep_34 : decode cX9_targetStep 34 = .ok (.getfield 154, 3) := by decide +kernel
theorem dX9_targetStep_37 : decode cX9_targetStep 37 = .ok (.iload_n 1, 1) := by decide +kernel
theorem dX9_targetStep_38 : decode cX9_targetStep 38 = .ok (.iaload, 1) := by decide +kernel
theorem dX9_targetStep_39 : decode cX9_targetStep 39 = .ok (.aload_n 0, 1) := by decide +kernel
theorem dX9_targetStep_40 : decode cX9_targetStep 40 = .ok (.getfield 19, 3) := by decide +kernel
theorem dX9_targetStep_43 : decode cX9_targetStep 43 = .ok (.getfield 157, 3) := by decide +kernel
theorem dX9_targetStep_46 : decode cX9_targetStep 46 = .ok (.iload_n 1, 1) := by decide +kernel
theorem dX9_targetStep_47 : decode cX9_targetStep 47 = .ok (.iaload, 1) := by decide +kernel
theorem dX9_targetStep_48 : decode cX9_targetStep 48 = .ok (.invokevirtual 164, 3) := by decide +kernel
theorem dX9_targetStep_51 : decode cX9_targetStep 51 = .ok (.istore_n 3, 1) := by decide +kernel
theorem dX9_targetStep_52 : decode cX9_targetStep 52 = .ok (.iload_n 3, 1) := by decide +kernel
theorem dX9_targetStep_53 : decode cX9_targetStep 53 = .ok (.bipush 99, 2) := by decide +kernel
theorem dX9_targetStep_55 : decode cX9_targetStep 55 = .ok (.if_icmp .ne 31, 3) := by decide +kernel
theorem dX9_targetStep_58 : decode cX9_targetStep 58 = .ok (.aload_n 0, 1) := by decide +kernel
theorem dX9_targetStep_59 : decode cX9_targetStep 59 = .ok (.getfield 10, 3) := by decide +kernel
theorem dX9_targetStep_62 : decode cX9_targetStep 62 = .ok (.aload_n 0, 1) := by decide +kernel
theorem dX9_targetStep_63 : decode cX9_targetStep 63 = .ok (.getfield 19, 3) := by decide +kernel
theorem dX9_targetStep_66 : decode cX9_targetStep 66 = .ok (.getfield 154, 3) := by decide +kernel
theorem dX9_targetStep_69 : decode cX9_targetStep 69 = .ok (.iload_n 1, 1) := by decide +kernel
theorem dX9_targetStep_70 : decode cX9_targetStep 70 = .ok (.iaload, 1) := by decide +kernel
theorem dX9_targetStep_71 : decode cX9_targetStep 71 = .ok (.aload_n 0, 1) := by decide +kernel
theorem dX9_targetStep_72 : decode cX9_targetStep 72 = .ok (.getfield 19, 3) := by decide +kernel
theorem dX9_targetStep_75 : decode cX9_targetStep 75 = .ok (.getfield 157, 3) := by decide +kernel
theorem dX9_targetStep_78 : decode cX9_targetStep 78 = .ok (.iload_n 1, 1) := by decide +kernel
theorem dX9_targetStep_79 : decode cX9_targetStep 79 = .ok (.iaload, 1) := by decide +kernel
theorem dX9_targetStep_80 : decode cX9_targetStep 80 = .ok (.invokevirtual 160, 3) := by decide +kernel
theorem dX9_targetStep_83 : decode cX9_targetStep 83 = .ok (.goto 4, 3) := by decide +kernel
theorem dX9_targetStep_86 : decode cX9_targetStep 86 = .ok (.iload_n 3, 1) := by decide +kernel
theorem dX9_targetStep_87 : decode cX9_targetStep 87 = .ok (.ireturn, 1) := by decide +kernel
theorem dX10_init_0 : decode cX10_init 0 = .ok (.aload_n 0, 1) := by decide +kernel
theorem dX10_init_1 : decode cX10_init 1 = .ok (.invokespecial 1, 3) := by decide +kernel
theorem dX10_init_4 : decode cX10_init 4 = .ok (.aload_n 0, 1) := by decide +kernel
theorem dX10_init_5 : decode cX10_init 5 = .ok (.bipush 10, 2) := by decide +kernel
theorem dX10_init_7 : decode cX10_init 7 = .ok (.newarray .int, 2) := by decide +kernel
theorem dX10_init_9 : decode cX10_init 9 = .ok (.putfield 9, 3) := by decide +kernel
theorem dX10_init_12 : decode cX10_init 12 = .ok (.aload_n 0, 1) := by decide +kernel
theorem dX10_init_13 : decode cX10_init 13 = .ok (.bipush 10, 2) := by decide +kernel
theorem dX10_init_15 : decode cX10_init 15 = .ok (.newarray .int, 2) := by decide +kernel
theorem dX10_init_17 : decode cX10_init 17 = .ok (.putfield 13, 3) := by decide +kernel
theorem dX10_init_20 : decode cX10_init 20 = .ok (.aload_n 0, 1) := by decide +kernel
theorem dX10_init_21 : decode cX10_init 21 = .ok (.bipush 10, 2) := by decide +kernel
theorem dX10_init_23 : decode cX10_init 23 = .ok (.newarray .int, 2) := by decide +kernel
theorem dX10_init_25 : decode cX10_init 25 = .ok (.putfield 16, 3) := by decide +kernel
theorem dX10_init_28 : decode cX10_init 28 = .ok (.aload_n 0, 1) := by decide +kernel
theorem dX10_init_29 : decode cX10_init 29 = .ok (.bipush 10, 2) := by decide +kernel
theorem dX10_init_31 : decode cX10_init 31 = .ok (.newarray .int, 2) := by decide +kernel
theorem dX10_init_33 : decode cX10_init 33 = .ok (.putfield 19, 3) := by decide +kernel
theorem dX10_init_36 : decode cX10_init 36 = .ok (.aload_n 0, 1) := by decide +kernel
theorem dX10_init_37 : decode cX10_init 37 = .ok (.bipush 10, 2) := by decide +kernel
theorem dX10_init_39 : decode cX10_init 39 = .ok (.newarray .int, 2) := by decide +kernel
theorem dX10_init_41 : decode cX10_init 41 = .ok (.putfield 22, 3) := by decide +kernel
theorem dX10_init_44 : decode cX10_init 44 = .ok (.aload_n 0, 1) := by decide +kernel
theorem dX10_init_45 : decode cX10_init 45 = .ok (.bipush 10, 2) := by decide +kernel
theorem dX10_init_47 : decode cX10_init 47 = .ok (.newarray .int, 2) := by decide +kernel
theorem dX10_init_49 : decode cX10_init 49 = .ok (.putfield 25, 3) := by decide +kernel
theorem dX10_init_52 : decode cX10_init 52 = .ok (.aload_n 0, 1) := by decide +kernel
theorem dX10_init_53 : decode cX10_init 53 = .ok (.bipush 10, 2) := by decide +kernel
theorem dX10_init_55 : decode cX10_init 55 = .ok (.newarray .int, 2) := by decide +kernel
theorem dX10_init_57 : decode cX10_init 57 = .ok (.putfield 28, 3) := by decide +kernel
theorem dX10_init_60 : decode cX10_init 60 = .ok (.aload_n 0, 1) := by decide +kernel
theorem dX10_init_61 : decode cX10_init 61 = .ok (.bipush 24, 2) := by decide +kernel
theorem dX10_init_63 : decode cX10_init 63 = .ok (.newarray .int, 2) := by decide +kernel
theorem dX10_init_65 : decode cX10_init 65 = .ok (.putfield 31, 3) := by decide +kernel
theorem dX10_init_68 : decode cX10_init 68 = .ok (.aload_n 0, 1) := by decide +kernel
theorem dX10_init_69 : decode cX10_init 69 = .ok (.bipush 24, 2) := by decide +kernel
theorem dX10_init_71 : decode cX10_init 71 = .ok (.newarray .int, 2) := by decide +kernel
theorem dX10_init_73 : decode cX10_init 73 = .ok (.putfield 34, 3) := by decide +kernel
theorem dX10_init_76 : decode cX10_init 76 = .ok (.aload_n 0, 1) := by decide +kernel
theorem dX10_init_77 : decode cX10_init 77 = .ok (.bipush 24, 2) := by decide +kernel
theorem dX10_init_79 : decode cX10_init 79 = .ok (.newarray .int, 2) := by decide +kernel
theorem dX10_init_81 : decode cX10_init 81 = .ok (.putfield 37, 3) := by decide +kernel
theorem dX10_init_84 : decode cX10_init 84 = .ok (.aload_n 0, 1) := by decide +kernel
theorem dX10_init_85 : decode cX10_init 85 = .ok (.bipush 24, 2) := by decide +kernel
theorem dX10_init_87 : decode cX10_init 87 = .ok (.newarray .boolean, 2) := by decide +kernel
theorem dX10_init_89 : decode cX10_init 89 = .ok (.putfield 40, 3) := by decide +kernel
theorem dX10_init_92 : decode cX10_init 92 = .ok (.aload_n 0, 1) := by decide +kernel
theorem dX10_init_93 : decode cX10_init 93 = .ok (.iconst 4, 1) := by decide +kernel
theorem dX10_init_94 : decode cX10_init 94 = .ok (.newarray .int, 2) := by decide +kernel
theorem dX10_init_96 : decode cX10_init 96 = .ok (.putfield 44, 3) := by decide +kernel
theorem dX10_init_99 : decode cX10_init 99 = .ok (.aload_n 0, 1) := by decide +kernel
theorem dX10_init_100 : decode cX10_init 100 = .ok (.bipush 50, 2) := by decide +kernel
theorem dX10_init_102 : decode cX10_init 102 = .ok (.putfield 47, 3) := by decide +kernel
theorem dX10_init_105 : decode cX10_init 105 = .ok (.aload_n 0, 1) := by decide +kernel
theorem dX10_init_106 : decode cX10_init 106 = .ok (.bipush 8, 2) := by decide +kernel
theorem dX10_init_108 : decode cX10_init 108 = .ok (.newarray .long, 2) := by decide +kernel
theorem dX10_init_110 : decode cX10_init 110 = .ok (.putfield 51, 3) := by decide +kernel
theorem dX10_init_113 : decode cX10_init 113 = .ok (.aload_n 0, 1) := by decide +kernel
theorem dX10_init_114 : decode cX10_init 114 = .ok (.bipush 6, 2) := by decide +kernel
theorem dX10_init_116 : decode cX10_init 116 = .ok (.newarray .long, 2) := by decide +kernel
theorem dX10_init_118 : decode cX10_init 118 = .ok (.putfield 55, 3) := by decide +kernel
theorem dX10_init_121 : decode cX10_init 121 = .ok (.aload_n 0, 1) := by decide +kernel
theorem dX10_init_122 : decode cX10_init 122 = .ok (.bipush 72, 2) := by decide +kernel
theorem dX10_init_124 : decode cX10_init 124 = .ok (.newarray .int, 2) := by decide +kernel
theorem dX10_init_126 : decode cX10_init 126 = .ok (.putfield 58, 3) := by decide +kernel
theorem dX10_init_129 : decode cX10_init 129 = .ok (.aload_n 0, 1) := by decide +kernel
theorem dX10_init_130 : decode cX10_init 130 = .ok (.bipush 6, 2) := by decide +kernel
theorem dX10_init_132 : decode cX10_init 132 = .ok (.newarray .int, 2) := by decide +kernel
theorem dX10_init_134 : decode cX10_init 134 = .ok (.putfield 61, 3) := by decide +kernel
theorem dX10_init_137 : decode cX10_init 137 = .ok (.aload_n 0, 1) := by decide +kernel
theorem dX10_init_138 : decode cX10_init 138 = .ok (.bipush 99, 2) := by decide +kernel
theorem dX10_init_140 : decode cX10_init 140 = .ok (.putfield 64, 3) := by decide +kernel
theorem dX10_init_143 : decode cX10_init 143 = .ok (.aload_n 0, 1) := by decide +kernel
theorem dX10_init_144 : decode cX10_init 144 = .ok (.bipush 10, 2) := by decide +kernel
theorem dX10_init_146 : decode cX10_init 146 = .ok (.newarray .long, 2) := by decide +kernel
theorem dX10_init_148 : decode cX10_init 148 = .ok (.putfield 67, 3) := by decide +kernel
theorem dX10_init_151 : decode cX10_init 151 = .ok (.iconst 0, 1) := by decide +kernel
theorem dX10_init_152 : decode cX10_init 152 = .ok (.istore_n 1, 1) := by decide +kernel
theorem dX10_init_153 : decode cX10_init 153 = .ok (.iload_n 1, 1) := by decide +kernel
theorem dX10_init_154 : decode cX10_init 154 = .ok (.bipush 24, 2) := by decide +kernel
theorem dX10_init_156 : decode cX10_init 156 = .ok (.if_icmp .ge 16, 3) := by decide +kernel
theorem dX10_init_159 : decode cX10_init 159 = .ok (.aload_n 0, 1) := by decide +kernel
theorem dX10_init_160 : decode cX10_init 160 = .ok (.getfield 37, 3) := by decide +kernel
theorem dX10_init_163 : decode cX10_init 163 = .ok (.iload_n 1, 1) := by decide +kernel
theorem dX10_init_164 : decode cX10_init 164 = .ok (.iconst (-1), 1) := by decide +kernel
theorem dX10_init_165 : decode cX10_init 165 = .ok (.iastore, 1) := by decide +kernel
theorem dX10_init_166 : decode cX10_init 166 = .ok (.iinc 1 1, 3) := by decide +kernel
theorem dX10_init_169 : decode cX10_init 169 = .ok (.goto (-16), 3) := by decide +kernel
theorem dX10_init_172 : decode cX10_init 172 = .ok (.iconst 0, 1) := by decide +kernel
theorem dX10_init_173 : decode cX10_init 173 = .ok (.istore_n 1, 1) := by decide +kernel
theorem dX10_init_174 : decode cX10_init 174 = .ok (.iload_n 1, 1) := by decide +kernel
theorem dX10_init_175 : decode cX10_init 175 = .ok (.iconst 4, 1) := by decide +kernel
theorem dX10_init_176 : decode cX10_init 176 = .ok (.if_icmp .ge 17, 3) := by decide +kernel
theorem dX10_init_179 : decode cX10_init 179 = .ok (.aload_n 0, 1) := by decide +kernel
theorem dX10_init_180 : decode cX10_init 180 = .ok (.getfield 44, 3) := by decide +kernel
theorem dX10_init_183 : decode cX10_init 183 = .ok (.iload_n 1, 1) := by decide +kernel
theorem dX10_init_184 : decode cX10_init 184 = .ok (.ldc 70, 2) := by decide +kernel
theorem dX10_init_186 : decode cX10_init 186 = .ok (.iastore, 1) := by decide +kernel
theorem dX10_init_187 : decode cX10_init 187 = .ok (.iinc 1 1, 3) := by decide +kernel
theorem dX10_init_190 : decode cX10_init 190 = .ok (.goto (-16), 3) := by decide +kernel
theorem dX10_init_193 : decode cX10_init 193 = .ok (.return_, 1) := by decide +kernel
theorem dX10_finding_0 : decode cX10_finding 0 = .ok (.aload_n 0, 1) := by decide +kernel
theorem dX10_finding_1 : decode cX10_finding 1 = .ok (.getfield 61, 3) := by decide +kernel
theorem dX10_finding_4 : decode cX10_finding 4 = .ok (.ldc 71, 2) := by decide +kernel
theorem dX10_finding_6 : decode cX10_finding 6 = .ok (.iload_n 1, 1) := by decide +kernel
theorem dX10_finding_7 : decode cX10_finding 7 = .ok (.isub, 1) := by decide +kernel
theorem dX10_finding_8 : decode cX10_finding 8 = .ok (.dup2, 1) := by decide +kernel
theorem dX10_finding_9 : decode cX10_finding 9 = .ok (.iaload, 1) := by decide +kernel
theorem dX10_finding_10 : decode cX10_finding 10 = .ok (.iconst 1, 1) := by decide +kernel
theorem dX10_finding_11 : decode cX10_finding 11 = .ok (.iadd, 1) := by decide +kernel
theorem dX10_finding_12 : decode cX10_finding 12 = .ok (.iastore, 1) := by decide +kernel
theorem dX10_finding_13 : decode cX10_finding 13 = .ok (.iload_n 1, 1) := by decide +kernel
theorem dX10_finding_14 : decode cX10_finding 14 = .ok (.ireturn, 1) := by decide +kernel
theorem dX10_in_0 : decode cX10_in 0 = .ok (.iload_n 0, 1) := by decide +kernel
theorem dX10_in_1 : decode cX10_in 1 = .ok (.iload_n 1, 1) := by decide +kernel
theorem dX10_in_2 : decode cX10_in 2 = .ok (.if_icmp .lt 12, 3) := by decide +kernel
theorem dX10_in_5 : decode cX10_in 5 = .ok (.iload_n 0, 1) := by decide +kernel
theorem dX10_in_6 : decode cX10_in 6 = .ok (.iload_n 2, 1) := by decide +kernel
theorem dX10_in_7 : decode cX10_in 7 = .ok (.if_icmp .gt 7, 3) := by decide +kernel
theorem dX10_in_10 : decode cX10_in 10 = .ok (.iconst 1, 1) := by decide +kernel
theorem dX10_in_11 : decode cX10_in 11 = .ok (.goto 4, 3) := by decide +kernel
theorem dX10_in_14 : decode cX10_in 14 = .ok (.iconst 0, 1) := by decide +kernel
theorem dX10_in_15 : decode cX10_in 15 = .ok (.ireturn, 1) := by decide +kernel
theorem dX10_isRow_0 : decode cX10_isRow 0 = .ok (.iload_n 1, 1) := by decide +kernel
theorem dX10_isRow_1 : decode cX10_isRow 1 = .ok (.iconst 0, 1) := by decide +kernel
theorem dX10_isRow_2 : decode cX10_isRow 2 = .ok (.aload_n 0, 1) := by decide +kernel
theorem dX10_isRow_3 : decode cX10_isRow 3 = .ok (.getfield 72, 3) := by decide +kernel
theorem dX10_isRow_6 : decode cX10_isRow 6 = .ok (.iconst 1, 1) := by decide +kernel
theorem dX10_isRow_7 : decode cX10_isRow 7 = .ok (.isub, 1) := by decide +kernel
theorem dX10_isRow_8 : decode cX10_isRow 8 = .ok (.invokestatic 75, 3) := by decide +kernel
theorem dX10_isRow_11 : decode cX10_isRow 11 = .ok (.ireturn, 1) := by decide +kernel
theorem dX10_isHour_0 : decode cX10_isHour 0 = .ok (.iload_n 0, 1) := by decide +kernel
theorem dX10_isHour_1 : decode cX10_isHour 1 = .ok (.iconst 0, 1) := by decide +kernel
theorem dX10_isHour_2 : decode cX10_isHour 2 = .ok (.bipush 23, 2) := by decide +kernel
theorem dX10_isHour_4 : decode cX10_isHour 4 = .ok (.invokestatic 75, 3) := by decide +kernel
theorem dX10_isHour_7 : decode cX10_isHour 7 = .ok (.ireturn, 1) := by decide +kernel
theorem dX10_isStep_0 : decode cX10_isStep 0 = .ok (.iload_n 0, 1) := by decide +kernel
theorem dX10_isStep_1 : decode cX10_isStep 1 = .ok (.bipush (-12), 2) := by decide +kernel
theorem dX10_isStep_3 : decode cX10_isStep 3 = .ok (.bipush 12, 2) := by decide +kernel
theorem dX10_isStep_5 : decode cX10_isStep 5 = .ok (.invokestatic 75, 3) := by decide +kernel
theorem dX10_isStep_8 : decode cX10_isStep 8 = .ok (.ireturn, 1) := by decide +kernel
theorem dX10_isNight_0 : decode cX10_isNight 0 = .ok (.aload_n 0, 1) := by decide +kernel
theorem dX10_isNight_1 : decode cX10_isNight 1 = .ok (.getfield 34, 3) := by decide +kernel
theorem dX10_isNight_4 : decode cX10_isNight 4 = .ok (.iload_n 1, 1) := by decide +kernel
theorem dX10_isNight_5 : decode cX10_isNight 5 = .ok (.iaload, 1) := by decide +kernel
theorem dX10_isNight_6 : decode cX10_isNight 6 = .ok (.ifCond .ne 7, 3) := by decide +kernel
theorem dX10_isNight_9 : decode cX10_isNight 9 = .ok (.iconst 1, 1) := by decide +kernel
theorem dX10_isNight_10 : decode cX10_isNight 10 = .ok (.goto 4, 3) := by decide +kernel
theorem dX10_isNight_13 : decode cX10_isNight 13 = .ok (.iconst 0, 1) := by decide +kernel
theorem dX10_isNight_14 : decode cX10_isNight 14 = .ok (.ireturn, 1) := by decide +kernel
theorem dX10_cosine_0 : decode cX10_cosine 0 = .ok (.iload_n 0, 1) := by decide +kernel
theorem dX10_cosine_1 : decode cX10_cosine 1 = .ok (.ifCond .ge 8, 3) := by decide +kernel
theorem dX10_cosine_4 : decode cX10_cosine 4 = .ok (.iload_n 0, 1) := by decide +kernel
theorem dX10_cosine_5 : decode cX10_cosine 5 = .ok (.ineg, 1) := by decide +kernel
theorem dX10_cosine_6 : decode cX10_cosine 6 = .ok (.goto 4, 3) := by decide +kernel
theorem dX10_cosine_9 : decode cX10_cosine 9 = .ok (.iload_n 0, 1) := by decide +kernel
theorem dX10_cosine_10 : decode cX10_cosine 10 = .ok (.tableswitch 110 0 11 #[62, 66, 70, 74, 78, 82, 86, 90, 94, 98, 102, 106], 62) := by decide +kernel
theorem dX10_cosine_72 : decode cX10_cosine 72 = .ok (.ldc2_w 79, 3) := by decide +kernel
theorem dX10_cosine_75 : decode cX10_cosine 75 = .ok (.lreturn, 1) := by decide +kernel
theorem dX10_cosine_76 : decode cX10_cosine 76 = .ok (.ldc2_w 81, 3) := by decide +kernel
theorem dX10_cosine_79 : decode cX10_cosine 79 = .ok (.lreturn, 1) := by decide +kernel
theorem dX10_cosine_80 : decode cX10_cosine 80 = .ok (.ldc2_w 83, 3) := by decide +kernel
theorem dX10_cosine_83 : decode cX10_cosine 83 = .ok (.lreturn, 1) := by decide +kernel
theorem dX10_cosine_84 : decode cX10_cosine 84 = .ok (.ldc2_w 85, 3) := by decide +kernel
theorem dX10_cosine_87 : decode cX10_cosine 87 = .ok (.lreturn, 1) := by decide +kernel
theorem dX10_cosine_88 : decode cX10_cosine 88 = .ok (.ldc2_w 87, 3) := by decide +kernel
theorem dX10_cosine_91 : decode cX10_cosine 91 = .ok (.lreturn, 1) := by decide +kernel
theorem dX10_cosine_92 : decode cX10_cosine 92 = .ok (.ldc2_w 89, 3) := by decide +kernel
theorem dX10_cosine_95 : decode cX10_cosine 95 = .ok (.lreturn, 1) := by decide +kernel
theorem dX10_cosine_96 : decode cX10_cosine 96 = .ok (.ldc2_w 91, 3) := by decide +kernel
theorem dX10_cosine_99 : decode cX10_cosine 99 = .ok (.lreturn, 1) := by decide +kernel
theorem dX10_cosine_100 : decode cX10_cosine 100 = .ok (.ldc2_w 93, 3) := by decide +kernel
theorem dX10_cosine_103 : decode cX10_cosine 103 = .ok (.lreturn, 1) := by decide +kernel
theorem dX10_cosine_104 : decode cX10_cosine 104 = .ok (.ldc2_w 95, 3) := by decide +kernel
theorem dX10_cosine_107 : decode cX10_cosine 107 = .ok (.lreturn, 1) := by decide +kernel
theorem dX10_cosine_108 : decode cX10_cosine 108 = .ok (.ldc2_w 97, 3) := by decide +kernel
theorem dX10_cosine_111 : decode cX10_cosine 111 = .ok (.lreturn, 1) := by decide +kernel
theorem dX10_cosine_112 : decode cX10_cosine 112 = .ok (.ldc2_w 99, 3) := by decide +kernel
theorem dX10_cosine_115 : decode cX10_cosine 115 = .ok (.lreturn, 1) := by decide +kernel
theorem dX10_cosine_116 : decode cX10_cosine 116 = .ok (.ldc2_w 101, 3) := by decide +kernel
theorem dX10_cosine_119 : decode cX10_cosine 119 = .ok (.lreturn, 1) := by decide +kernel
theorem dX10_cosine_120 : decode cX10_cosine 120 = .ok (.ldc2_w 103, 3) := by decide +kernel
theorem dX10_cosine_123 : decode cX10_cosine 123 = .ok (.lreturn, 1) := by decide +kernel
theorem dX10_sine_0 : decode cX10_sine 0 = .ok (.iload_n 0, 1) := by decide +kernel
theorem dX10_sine_1 : decode cX10_sine 1 = .ok (.ifCond .ge 8, 3) := by decide +kernel
theorem dX10_sine_4 : decode cX10_sine 4 = .ok (.iload_n 0, 1) := by decide +kernel
theorem dX10_sine_5 : decode cX10_sine 5 = .ok (.ineg, 1) := by decide +kernel
theorem dX10_sine_6 : decode cX10_sine 6 = .ok (.goto 4, 3) := by decide +kernel
theorem dX10_sine_9 : decode cX10_sine 9 = .ok (.iload_n 0, 1) := by decide +kernel
theorem dX10_sine_10 : decode cX10_sine 10 = .ok (.tableswitch 144 0 11 #[62, 67, 74, 81, 88, 95, 102, 109, 116, 123, 130, 137], 62) := by decide +kernel
theorem dX10_sine_72 : decode cX10_sine 72 = .ok (.lconst 0, 1) := by decide +kernel
theorem dX10_sine_73 : decode cX10_sine 73 = .ok (.lstore_n 1, 1) := by decide +kernel
theorem dX10_sine_74 : decode cX10_sine 74 = .ok (.goto 84, 3) := by decide +kernel
theorem dX10_sine_77 : decode cX10_sine 77 = .ok (.ldc2_w 105, 3) := by decide +kernel
theorem dX10_sine_80 : decode cX10_sine 80 = .ok (.lstore_n 1, 1) := by decide +kernel
theorem dX10_sine_81 : decode cX10_sine 81 = .ok (.goto 77, 3) := by decide +kernel
theorem dX10_sine_84 : decode cX10_sine 84 = .ok (.ldc2_w 107, 3) := by decide +kernel
theorem dX10_sine_87 : decode cX10_sine 87 = .ok (.lstore_n 1, 1) := by decide +kernel
theorem dX10_sine_88 : decode cX10_sine 88 = .ok (.goto 70, 3) := by decide +kernel
theorem dX10_sine_91 : decode cX10_sine 91 = .ok (.ldc2_w 109, 3) := by decide +kernel
theorem dX10_sine_94 : decode cX10_sine 94 = .ok (.lstore_n 1, 1) := by decide +kernel
theorem dX10_sine_95 : decode cX10_sine 95 = .ok (.goto 63, 3) := by decide +kernel
theorem dX10_sine_98 : decode cX10_sine 98 = .ok (.ldc2_w 111, 3) := by decide +kernel
theorem dX10_sine_101 : decode cX10_sine 101 = .ok (.lstore_n 1, 1) := by decide +kernel
theorem dX10_sine_102 : decode cX10_sine 102 = .ok (.goto 56, 3) := by decide +kernel
theorem dX10_sine_105 : decode cX10_sine 105 = .ok (.ldc2_w 113, 3) := by decide +kernel
theorem dX10_sine_108 : decode cX10_sine 108 = .ok (.lstore_n 1, 1) := by decide +kernel
theorem dX10_sine_109 : decode cX10_sine 109 = .ok (.goto 49, 3) := by decide +kernel
theorem dX10_sine_112 : decode cX10_sine 112 = .ok (.ldc2_w 103, 3) := by decide +kernel
theorem dX10_sine_115 : decode cX10_sine 115 = .ok (.lstore_n 1, 1) := by decide +kernel
theorem dX10_sine_116 : decode cX10_sine 116 = .ok (.goto 42, 3) := by decide +kernel
theorem dX10_sine_119 : decode cX10_sine 119 = .ok (.ldc2_w 101, 3) := by decide +kernel
theorem dX10_sine_122 : decode cX10_sine 122 = .ok (.lstore_n 1, 1) := by decide +kernel
theorem dX10_sine_123 : decode cX10_sine 123 = .ok (.goto 35, 3) := by decide +kernel
theorem dX10_sine_126 : decode cX10_sine 126 = .ok (.ldc2_w 99, 3) := by decide +kernel
theorem dX10_sine_129 : decode cX10_sine 129 = .ok (.lstore_n 1, 1) := by decide +kernel
theorem dX10_sine_130 : decode cX10_sine 130 = .ok (.goto 28, 3) := by decide +kernel
theorem dX10_sine_133 : decode cX10_sine 133 = .ok (.ldc2_w 97, 3) := by decide +kernel
theorem dX10_sine_136 : decode cX10_sine 136 = .ok (.lstore_n 1, 1) := by decide +kernel
theorem dX10_sine_137 : decode cX10_sine 137 = .ok (.goto 21, 3) := by decide +kernel
theorem dX10_sine_140 : decode cX10_sine 140 = .ok (.ldc2_w 95, 3) := by decide +kernel
theorem dX10_sine_143 : decode cX10_sine 143 = .ok (.lstore_n 1, 1) := by decide +kernel
theorem dX10_sine_144 : decode cX10_sine 144 = .ok (.goto 14, 3) := by decide +kernel
theorem dX10_sine_147 : decode cX10_sine 147 = .ok (.ldc2_w 93, 3) := by decide +kernel
theorem dX10_sine_150 : decode cX10_sine 150 = .ok (.lstore_n 1, 1) := by decide +kernel
theorem dX10_sine_151 : decode cX10_sine 151 = .ok (.goto 7, 3) := by decide +kernel
theorem dX10_sine_154 : decode cX10_sine 154 = .ok (.ldc2_w 91, 3) := by decide +kernel
theorem dX10_sine_157 : decode cX10_sine 157 = .ok (.lstore_n 1, 1) := by decide +kernel
theorem dX10_sine_158 : decode cX10_sine 158 = .ok (.iload_n 0, 1) := by decide +kernel
theorem dX10_sine_159 : decode cX10_sine 159 = .ok (.ifCond .ge 8, 3) := by decide +kernel
theorem dX10_sine_162 : decode cX10_sine 162 = .ok (.lload_n 1, 1) := by decide +kernel
theorem dX10_sine_163 : decode cX10_sine 163 = .ok (.lneg, 1) := by decide +kernel
theorem dX10_sine_164 : decode cX10_sine 164 = .ok (.goto 4, 3) := by decide +kernel
theorem dX10_sine_167 : decode cX10_sine 167 = .ok (.lload_n 1, 1) := by decide +kernel
theorem dX10_sine_168 : decode cX10_sine 168 = .ok (.lreturn, 1) := by decide +kernel
theorem dX10_row_0 : decode cX10_row 0 = .ok (.iload_n 1, 1) := by decide +kernel
theorem dX10_row_1 : decode cX10_row 1 = .ok (.iconst 0, 1) := by decide +kernel
theorem dX10_row_2 : decode cX10_row 2 = .ok (.iconst 2, 1) := by decide +kernel
theorem dX10_row_3 : decode cX10_row 3 = .ok (.invokestatic 75, 3) := by decide +kernel
theorem dX10_row_6 : decode cX10_row 6 = .ok (.ifCond .eq 53, 3) := by decide +kernel
theorem dX10_row_9 : decode cX10_row 9 = .ok (.iload_n 3, 1) := by decide +kernel
theorem dX10_row_10 : decode cX10_row 10 = .ok (.sipush (-1000), 3) := by decide +kernel
theorem dX10_row_13 : decode cX10_row 13 = .ok (.sipush 1000, 3) := by decide +kernel
theorem dX10_row_16 : decode cX10_row 16 = .ok (.invokestatic 75, 3) := by decide +kernel
theorem dX10_row_19 : decode cX10_row 19 = .ok (.ifCond .eq 40, 3) := by decide +kernel
theorem dX10_row_22 : decode cX10_row 22 = .ok (.iload 4, 2) := by decide +kernel
theorem dX10_row_24 : decode cX10_row 24 = .ok (.bipush 10, 2) := by decide +kernel
theorem dX10_row_26 : decode cX10_row 26 = .ok (.sipush 400, 3) := by decide +kernel
theorem dX10_row_29 : decode cX10_row 29 = .ok (.invokestatic 75, 3) := by decide +kernel
theorem dX10_row_32 : decode cX10_row 32 = .ok (.ifCond .eq 27, 3) := by decide +kernel
theorem dX10_row_35 : decode cX10_row 35 = .ok (.iload_n 1, 1) := by decide +kernel
theorem dX10_row_36 : decode cX10_row 36 = .ok (.iconst 1, 1) := by decide +kernel
theorem dX10_row_37 : decode cX10_row 37 = .ok (.if_icmp .ne 11, 3) := by decide +kernel
theorem dX10_row_40 : decode cX10_row 40 = .ok (.iload 5, 2) := by decide +kernel
theorem dX10_row_42 : decode cX10_row 42 = .ok (.invokestatic 115, 3) := by decide +kernel
theorem dX10_row_45 : decode cX10_row 45 = .ok (.ifCond .eq 14, 3) := by decide +kernel
theorem dX10_row_48 : decode cX10_row 48 = .ok (.iload_n 2, 1) := by decide +kernel
theorem dX10_row_49 : decode cX10_row 49 = .ok (.iconst 0, 1) := by decide +kernel
theorem dX10_row_50 : decode cX10_row 50 = .ok (.sipush 10000, 3) := by decide +kernel
theorem dX10_row_53 : decode cX10_row 53 = .ok (.invokestatic 75, 3) := by decide +kernel
theorem dX10_row_56 : decode cX10_row 56 = .ok (.ifCond .ne 10, 3) := by decide +kernel
theorem dX10_row_59 : decode cX10_row 59 = .ok (.aload_n 0, 1) := by decide +kernel
theorem dX10_row_60 : decode cX10_row 60 = .ok (.ldc 119, 2) := by decide +kernel
theorem dX10_row_62 : decode cX10_row 62 = .ok (.invokevirtual 120, 3) := by decide +kernel
theorem dX10_row_65 : decode cX10_row 65 = .ok (.ireturn, 1) := by decide +kernel
theorem dX10_row_66 : decode cX10_row 66 = .ok (.aload_n 0, 1) := by decide +kernel
theorem dX10_row_67 : decode cX10_row 67 = .ok (.getfield 72, 3) := by decide +kernel
theorem dX10_row_70 : decode cX10_row 70 = .ok (.ifCond .le 25, 3) := by decide +kernel
theorem dX10_row_73 : decode cX10_row 73 = .ok (.iload_n 2, 1) := by decide +kernel
theorem dX10_row_74 : decode cX10_row 74 = .ok (.aload_n 0, 1) := by decide +kernel
theorem dX10_row_75 : decode cX10_row 75 = .ok (.getfield 13, 3) := by decide +kernel
theorem dX10_row_78 : decode cX10_row 78 = .ok (.aload_n 0, 1) := by decide +kernel
theorem dX10_row_79 : decode cX10_row 79 = .ok (.getfield 72, 3) := by decide +kernel
theorem dX10_row_82 : decode cX10_row 82 = .ok (.iconst 1, 1) := by decide +kernel
theorem dX10_row_83 : decode cX10_row 83 = .ok (.isub, 1) := by decide +kernel
theorem dX10_row_84 : decode cX10_row 84 = .ok (.iaload, 1) := by decide +kernel
theorem dX10_row_85 : decode cX10_row 85 = .ok (.if_icmp .gt 10, 3) := by decide +kernel
theorem dX10_row_88 : decode cX10_row 88 = .ok (.aload_n 0, 1) := by decide +kernel
theorem dX10_row_89 : decode cX10_row 89 = .ok (.ldc 124, 2) := by decide +kernel
theorem dX10_row_91 : decode cX10_row 91 = .ok (.invokevirtual 120, 3) := by decide +kernel
theorem dX10_row_94 : decode cX10_row 94 = .ok (.ireturn, 1) := by decide +kernel
theorem dX10_row_95 : decode cX10_row 95 = .ok (.aload_n 0, 1) := by decide +kernel
theorem dX10_row_96 : decode cX10_row 96 = .ok (.getfield 72, 3) := by decide +kernel
theorem dX10_row_99 : decode cX10_row 99 = .ok (.bipush 10, 2) := by decide +kernel
theorem dX10_row_101 : decode cX10_row 101 = .ok (.if_icmp .ne 10, 3) := by decide +kernel
theorem dX10_row_104 : decode cX10_row 104 = .ok (.aload_n 0, 1) := by decide +kernel
theorem dX10_row_105 : decode cX10_row 105 = .ok (.ldc 125, 2) := by decide +kernel
theorem dX10_row_107 : decode cX10_row 107 = .ok (.invokevirtual 120, 3) := by decide +kernel
theorem dX10_row_110 : decode cX10_row 110 = .ok (.ireturn, 1) := by decide +kernel
theorem dX10_row_111 : decode cX10_row 111 = .ok (.aload_n 0, 1) := by decide +kernel
theorem dX10_row_112 : decode cX10_row 112 = .ok (.getfield 9, 3) := by decide +kernel
theorem dX10_row_115 : decode cX10_row 115 = .ok (.aload_n 0, 1) := by decide +kernel
theorem dX10_row_116 : decode cX10_row 116 = .ok (.getfield 72, 3) := by decide +kernel
theorem dX10_row_119 : decode cX10_row 119 = .ok (.iload_n 1, 1) := by decide +kernel
theorem dX10_row_120 : decode cX10_row 120 = .ok (.iastore, 1) := by decide +kernel
theorem dX10_row_121 : decode cX10_row 121 = .ok (.aload_n 0, 1) := by decide +kernel
theorem dX10_row_122 : decode cX10_row 122 = .ok (.getfield 13, 3) := by decide +kernel
theorem dX10_row_125 : decode cX10_row 125 = .ok (.aload_n 0, 1) := by decide +kernel
theorem dX10_row_126 : decode cX10_row 126 = .ok (.getfield 72, 3) := by decide +kernel
theorem dX10_row_129 : decode cX10_row 129 = .ok (.iload_n 2, 1) := by decide +kernel
theorem dX10_row_130 : decode cX10_row 130 = .ok (.iastore, 1) := by decide +kernel
theorem dX10_row_131 : decode cX10_row 131 = .ok (.aload_n 0, 1) := by decide +kernel
theorem dX10_row_132 : decode cX10_row 132 = .ok (.getfield 16, 3) := by decide +kernel
theorem dX10_row_135 : decode cX10_row 135 = .ok (.aload_n 0, 1) := by decide +kernel
theorem dX10_row_136 : decode cX10_row 136 = .ok (.getfield 72, 3) := by decide +kernel
theorem dX10_row_139 : decode cX10_row 139 = .ok (.iload_n 3, 1) := by decide +kernel
theorem dX10_row_140 : decode cX10_row 140 = .ok (.iastore, 1) := by decide +kernel
theorem dX10_row_141 : decode cX10_row 141 = .ok (.aload_n 0, 1) := by decide +kernel
theorem dX10_row_142 : decode cX10_row 142 = .ok (.getfield 19, 3) := by decide +kernel
theorem dX10_row_145 : decode cX10_row 145 = .ok (.aload_n 0, 1) := by decide +kernel
theorem dX10_row_146 : decode cX10_row 146 = .ok (.getfield 72, 3) := by decide +kernel
theorem dX10_row_149 : decode cX10_row 149 = .ok (.iload 4, 2) := by decide +kernel
theorem dX10_row_151 : decode cX10_row 151 = .ok (.iastore, 1) := by decide +kernel
theorem dX10_row_152 : decode cX10_row 152 = .ok (.aload_n 0, 1) := by decide +kernel
theorem dX10_row_153 : decode cX10_row 153 = .ok (.getfield 22, 3) := by decide +kernel
theorem dX10_row_156 : decode cX10_row 156 = .ok (.aload_n 0, 1) := by decide +kernel
theorem dX10_row_157 : decode cX10_row 157 = .ok (.getfield 72, 3) := by decide +kernel
theorem dX10_row_160 : decode cX10_row 160 = .ok (.iconst 0, 1) := by decide +kernel
theorem dX10_row_161 : decode cX10_row 161 = .ok (.iastore, 1) := by decide +kernel
theorem dX10_row_162 : decode cX10_row 162 = .ok (.aload_n 0, 1) := by decide +kernel
theorem dX10_row_163 : decode cX10_row 163 = .ok (.getfield 25, 3) := by decide +kernel
theorem dX10_row_166 : decode cX10_row 166 = .ok (.aload_n 0, 1) := by decide +kernel
theorem dX10_row_167 : decode cX10_row 167 = .ok (.getfield 72, 3) := by decide +kernel
theorem dX10_row_170 : decode cX10_row 170 = .ok (.iload_n 1, 1) := by decide +kernel
theorem dX10_row_171 : decode cX10_row 171 = .ok (.iconst 1, 1) := by decide +kernel
theorem dX10_row_172 : decode cX10_row 172 = .ok (.if_icmp .ne 8, 3) := by decide +kernel
theorem dX10_row_175 : decode cX10_row 175 = .ok (.iload 5, 2) := by decide +kernel
theorem dX10_row_177 : decode cX10_row 177 = .ok (.goto 4, 3) := by decide +kernel
theorem dX10_row_180 : decode cX10_row 180 = .ok (.iconst 0, 1) := by decide +kernel
theorem dX10_row_181 : decode cX10_row 181 = .ok (.iastore, 1) := by decide +kernel
theorem dX10_row_182 : decode cX10_row 182 = .ok (.aload_n 0, 1) := by decide +kernel
theorem dX10_row_183 : decode cX10_row 183 = .ok (.getfield 28, 3) := by decide +kernel
theorem dX10_row_186 : decode cX10_row 186 = .ok (.aload_n 0, 1) := by decide +kernel
theorem dX10_row_187 : decode cX10_row 187 = .ok (.getfield 72, 3) := by decide +kernel
theorem dX10_row_190 : decode cX10_row 190 = .ok (.iconst (-1), 1) := by decide +kernel
theorem dX10_row_191 : decode cX10_row 191 = .ok (.iastore, 1) := by decide +kernel
theorem dX10_row_192 : decode cX10_row 192 = .ok (.aload_n 0, 1) := by decide +kernel
theorem dX10_row_193 : decode cX10_row 193 = .ok (.dup, 1) := by decide +kernel
theorem dX10_row_194 : decode cX10_row 194 = .ok (.getfield 72, 3) := by decide +kernel
theorem dX10_row_197 : decode cX10_row 197 = .ok (.iconst 1, 1) := by decide +kernel
theorem dX10_row_198 : decode cX10_row 198 = .ok (.iadd, 1) := by decide +kernel
theorem dX10_row_199 : decode cX10_row 199 = .ok (.putfield 72, 3) := by decide +kernel
theorem dX10_row_202 : decode cX10_row 202 = .ok (.aload_n 0, 1) := by decide +kernel
theorem dX10_row_203 : decode cX10_row 203 = .ok (.getfield 72, 3) := by decide +kernel
theorem dX10_row_206 : decode cX10_row 206 = .ok (.iconst 1, 1) := by decide +kernel
theorem dX10_row_207 : decode cX10_row 207 = .ok (.isub, 1) := by decide +kernel
theorem dX10_row_208 : decode cX10_row 208 = .ok (.ireturn, 1) := by decide +kernel
theorem dX10_drop_0 : decode cX10_drop 0 = .ok (.aload_n 0, 1) := by decide +kernel
theorem dX10_drop_1 : decode cX10_drop 1 = .ok (.getfield 72, 3) := by decide +kernel
theorem dX10_drop_4 : decode cX10_drop 4 = .ok (.ifCond .ne 10, 3) := by decide +kernel
theorem dX10_drop_7 : decode cX10_drop 7 = .ok (.aload_n 0, 1) := by decide +kernel
theorem dX10_drop_8 : decode cX10_drop 8 = .ok (.ldc 126, 2) := by decide +kernel
theorem dX10_drop_10 : decode cX10_drop 10 = .ok (.invokevirtual 120, 3) := by decide +kernel
theorem dX10_drop_13 : decode cX10_drop 13 = .ok (.ireturn, 1) := by decide +kernel
theorem dX10_drop_14 : decode cX10_drop 14 = .ok (.aload_n 0, 1) := by decide +kernel
theorem dX10_drop_15 : decode cX10_drop 15 = .ok (.dup, 1) := by decide +kernel
theorem dX10_drop_16 : decode cX10_drop 16 = .ok (.getfield 72, 3) := by decide +kernel
theorem dX10_drop_19 : decode cX10_drop 19 = .ok (.iconst 1, 1) := by decide +kernel
theorem dX10_drop_20 : decode cX10_drop 20 = .ok (.isub, 1) := by decide +kernel
theorem dX10_drop_21 : decode cX10_drop 21 = .ok (.putfield 72, 3) := by decide +kernel
theorem dX10_drop_24 : decode cX10_drop 24 = .ok (.aload_n 0, 1) := by decide +kernel
theorem dX10_drop_25 : decode cX10_drop 25 = .ok (.getfield 72, 3) := by decide +kernel
theorem dX10_drop_28 : decode cX10_drop 28 = .ok (.ireturn, 1) := by decide +kernel
theorem dX10_about_0 : decode cX10_about 0 = .ok (.aload_n 0, 1) := by decide +kernel
theorem dX10_about_1 : decode cX10_about 1 = .ok (.iload_n 1, 1) := by decide +kernel
theorem dX10_about_2 : decode cX10_about 2 = .ok (.invokevirtual 127, 3) := by decide +kernel
theorem dX10_about_5 : decode cX10_about 5 = .ok (.ifCond .eq 13, 3) := by decide +kernel
theorem dX10_about_8 : decode cX10_about 8 = .ok (.iload_n 2, 1) := by decide +kernel
theorem dX10_about_9 : decode cX10_about 9 = .ok (.iconst 0, 1) := by decide +kernel
theorem dX10_about_10 : decode cX10_about 10 = .ok (.bipush 6, 2) := by decide +kernel
theorem dX10_about_12 : decode cX10_about 12 = .ok (.invokestatic 75, 3) := by decide +kernel
theorem dX10_about_15 : decode cX10_about 15 = .ok (.ifCond .ne 10, 3) := by decide +kernel
theorem dX10_about_18 : decode cX10_about 18 = .ok (.aload_n 0, 1) := by decide +kernel
theorem dX10_about_19 : decode cX10_about 19 = .ok (.ldc 119, 2) := by decide +kernel
theorem dX10_about_21 : decode cX10_about 21 = .ok (.invokevirtual 120, 3) := by decide +kernel
theorem dX10_about_24 : decode cX10_about 24 = .ok (.ireturn, 1) := by decide +kernel
theorem dX10_about_25 : decode cX10_about 25 = .ok (.iload_n 2, 1) := by decide +kernel
theorem dX10_about_26 : decode cX10_about 26 = .ok (.tableswitch 80 0 5 #[38, 45, 52, 59, 66, 73], 38) := by decide +kernel
theorem dX10_about_64 : decode cX10_about 64 = .ok (.aload_n 0, 1) := by decide +kernel
theorem dX10_about_65 : decode cX10_about 65 = .ok (.getfield 9, 3) := by decide +kernel
theorem dX10_about_68 : decode cX10_about 68 = .ok (.iload_n 1, 1) := by decide +kernel
theorem dX10_about_69 : decode cX10_about 69 = .ok (.iaload, 1) := by decide +kernel
theorem dX10_about_70 : decode cX10_about 70 = .ok (.ireturn, 1) := by decide +kernel
theorem dX10_about_71 : decode cX10_about 71 = .ok (.aload_n 0, 1) := by decide +kernel
theorem dX10_about_72 : decode cX10_about 72 = .ok (.getfield 13, 3) := by decide +kernel
theorem dX10_about_75 : decode cX10_about 75 = .ok (.iload_n 1, 1) := by decide +kernel
theorem dX10_about_76 : decode cX10_about 76 = .ok (.iaload, 1) := by decide +kernel
theorem dX10_about_77 : decode cX10_about 77 = .ok (.ireturn, 1) := by decide +kernel
theorem dX10_about_78 : decode cX10_about 78 = .ok (.aload_n 0, 1) := by decide +kernel
theorem dX10_about_79 : decode cX10_about 79 = .ok (.getfield 16, 3) := by decide +kernel
theorem dX10_about_82 : decode cX10_about 82 = .ok (.iload_n 1, 1) := by decide +kernel
theorem dX10_about_83 : decode cX10_about 83 = .ok (.iaload, 1) := by decide +kernel
theorem dX10_about_84 : decode cX10_about 84 = .ok (.ireturn, 1) := by decide +kernel
theorem dX10_about_85 : decode cX10_about 85 = .ok (.aload_n 0, 1) := by decide +kernel
theorem dX10_about_86 : decode cX10_about 86 = .ok (.getfield 19, 3) := by decide +kernel
theorem dX10_about_89 : decode cX10_about 89 = .ok (.iload_n 1, 1) := by decide +kernel
theorem dX10_about_90 : decode cX10_about 90 = .ok (.iaload, 1) := by decide +kernel
theorem dX10_about_91 : decode cX10_about 91 = .ok (.ireturn, 1) := by decide +kernel
theorem dX10_about_92 : decode cX10_about 92 = .ok (.aload_n 0, 1) := by decide +kernel
theorem dX10_about_93 : decode cX10_about 93 = .ok (.getfield 22, 3) := by decide +kernel
theorem dX10_about_96 : decode cX10_about 96 = .ok (.iload_n 1, 1) := by decide +kernel
theorem dX10_about_97 : decode cX10_about 97 = .ok (.iaload, 1) := by decide +kernel
theorem dX10_about_98 : decode cX10_about 98 = .ok (.ireturn, 1) := by decide +kernel
theorem dX10_about_99 : decode cX10_about 99 = .ok (.aload_n 0, 1) := by decide +kernel
theorem dX10_about_100 : decode cX10_about 100 = .ok (.getfield 25, 3) := by decide +kernel
theorem dX10_about_103 : decode cX10_about 103 = .ok (.iload_n 1, 1) := by decide +kernel
theorem dX10_about_104 : decode cX10_about 104 = .ok (.iaload, 1) := by decide +kernel
theorem dX10_about_105 : decode cX10_about 105 = .ok (.ireturn, 1) := by decide +kernel
theorem dX10_about_106 : decode cX10_about 106 = .ok (.aload_n 0, 1) := by decide +kernel
theorem dX10_about_107 : decode cX10_about 107 = .ok (.getfield 28, 3) := by decide +kernel
theorem dX10_about_110 : decode cX10_about 110 = .ok (.iload_n 1, 1) := by decide +kernel
theorem dX10_about_111 : decode cX10_about 111 = .ok (.iaload, 1) := by decide +kernel
theorem dX10_about_112 : decode cX10_about 112 = .ok (.ireturn, 1) := by decide +kernel
theorem dX10_as_0 : decode cX10_as 0 = .ok (.aload_n 0, 1) := by decide +kernel
theorem dX10_as_1 : decode cX10_as 1 = .ok (.iload_n 1, 1) := by decide +kernel
theorem dX10_as_2 : decode cX10_as 2 = .ok (.invokevirtual 127, 3) := by decide +kernel
theorem dX10_as_5 : decode cX10_as 5 = .ok (.ifCond .eq 12, 3) := by decide +kernel
theorem dX10_as_8 : decode cX10_as 8 = .ok (.iload_n 2, 1) := by decide +kernel
theorem dX10_as_9 : decode cX10_as 9 = .ok (.iconst 0, 1) := by decide +kernel
theorem dX10_as_10 : decode cX10_as 10 = .ok (.iconst 2, 1) := by decide +kernel
theorem dX10_as_11 : decode cX10_as 11 = .ok (.invokestatic 75, 3) := by decide +kernel
theorem dX10_as_14 : decode cX10_as 14 = .ok (.ifCond .ne 10, 3) := by decide +kernel
theorem dX10_as_17 : decode cX10_as 17 = .ok (.aload_n 0, 1) := by decide +kernel
theorem dX10_as_18 : decode cX10_as 18 = .ok (.ldc 119, 2) := by decide +kernel
theorem dX10_as_20 : decode cX10_as 20 = .ok (.invokevirtual 120, 3) := by decide +kernel
theorem dX10_as_23 : decode cX10_as 23 = .ok (.ireturn, 1) := by decide +kernel
theorem dX10_as_24 : decode cX10_as 24 = .ok (.iload_n 2, 1) := by decide +kernel
theorem dX10_as_25 : decode cX10_as 25 = .ok (.ifCond .eq 13, 3) := by decide +kernel
theorem dX10_as_28 : decode cX10_as 28 = .ok (.aload_n 0, 1) := by decide +kernel
theorem dX10_as_29 : decode cX10_as 29 = .ok (.getfield 9, 3) := by decide +kernel
theorem dX10_as_32 : decode cX10_as 32 = .ok (.iload_n 1, 1) := by decide +kernel
theorem dX10_as_33 : decode cX10_as 33 = .ok (.iaload, 1) := by decide +kernel
theorem dX10_as_34 : decode cX10_as 34 = .ok (.iload_n 2, 1) := by decide +kernel
theorem dX10_as_35 : decode cX10_as 35 = .ok (.if_icmp .ne 12, 3) := by decide +kernel
theorem dX10_as_38 : decode cX10_as 38 = .ok (.aload_n 0, 1) := by decide +kernel
theorem dX10_as_39 : decode cX10_as 39 = .ok (.getfield 25, 3) := by decide +kernel
theorem dX10_as_42 : decode cX10_as 42 = .ok (.iload_n 1, 1) := by decide +kernel
theorem dX10_as_43 : decode cX10_as 43 = .ok (.iaload, 1) := by decide +kernel
theorem dX10_as_44 : decode cX10_as 44 = .ok (.goto 9, 3) := by decide +kernel
theorem dX10_as_47 : decode cX10_as 47 = .ok (.aload_n 0, 1) := by decide +kernel
theorem dX10_as_48 : decode cX10_as 48 = .ok (.ldc 130, 2) := by decide +kernel
theorem dX10_as_50 : decode cX10_as 50 = .ok (.invokevirtual 120, 3) := by decide +kernel
theorem dX10_as_53 : decode cX10_as 53 = .ok (.ireturn, 1) := by decide +kernel
theorem dX10_turn_0 : decode cX10_turn 0 = .ok (.aload_n 0, 1) := by decide +kernel
theorem dX10_turn_1 : decode cX10_turn 1 = .ok (.iload_n 1, 1) := by decide +kernel
theorem dX10_turn_2 : decode cX10_turn 2 = .ok (.invokevirtual 127, 3) := by decide +kernel
theorem dX10_turn_5 : decode cX10_turn 5 = .ok (.ifCond .eq 10, 3) := by decide +kernel
theorem dX10_turn_8 : decode cX10_turn 8 = .ok (.iload_n 2, 1) := by decide +kernel
theorem dX10_turn_9 : decode cX10_turn 9 = .ok (.invokestatic 115, 3) := by decide +kernel
theorem dX10_turn_12 : decode cX10_turn 12 = .ok (.ifCond .ne 10, 3) := by decide +kernel
theorem dX10_turn_15 : decode cX10_turn 15 = .ok (.aload_n 0, 1) := by decide +kernel
theorem dX10_turn_16 : decode cX10_turn 16 = .ok (.ldc 119, 2) := by decide +kernel
theorem dX10_turn_18 : decode cX10_turn 18 = .ok (.invokevirtual 120, 3) := by decide +kernel
theorem dX10_turn_21 : decode cX10_turn 21 = .ok (.ireturn, 1) := by decide +kernel
theorem dX10_turn_22 : decode cX10_turn 22 = .ok (.aload_n 0, 1) := by decide +kernel
theorem dX10_turn_23 : decode cX10_turn 23 = .ok (.getfield 9, 3) := by decide +kernel
theorem dX10_turn_26 : decode cX10_turn 26 = .ok (.iload_n 1, 1) := by decide +kernel
theorem dX10_turn_27 : decode cX10_turn 27 = .ok (.iaload, 1) := by decide +kernel
theorem dX10_turn_28 : decode cX10_turn 28 = .ok (.iconst 1, 1) := by decide +kernel
theorem dX10_turn_29 : decode cX10_turn 29 = .ok (.if_icmp .ne 10, 3) := by decide +kernel
theorem dX10_turn_32 : decode cX10_turn 32 = .ok (.aload_n 0, 1) := by decide +kernel
theorem dX10_turn_33 : decode cX10_turn 33 = .ok (.ldc 130, 2) := by decide +kernel
theorem dX10_turn_35 : decode cX10_turn 35 = .ok (.invokevirtual 120, 3) := by decide +kernel
theorem dX10_turn_38 : decode cX10_turn 38 = .ok (.ireturn, 1) := by decide +kernel
theorem dX10_turn_39 : decode cX10_turn 39 = .ok (.aload_n 0, 1) := by decide +kernel
theorem dX10_turn_40 : decode cX10_turn 40 = .ok (.getfield 25, 3) := by decide +kernel
theorem dX10_turn_43 : decode cX10_turn 43 = .ok (.iload_n 1, 1) := by decide +kernel
theorem dX10_turn_44 : decode cX10_turn 44 = .ok (.iaload, 1) := by decide +kernel
theorem dX10_turn_45 : decode cX10_turn 45 = .ok (.istore_n 3, 1) := by decide +kernel
theorem dX10_turn_46 : decode cX10_turn 46 = .ok (.aload_n 0, 1) := by decide +kernel
theorem dX10_turn_47 : decode cX10_turn 47 = .ok (.getfield 25, 3) := by decide +kernel
theorem dX10_turn_50 : decode cX10_turn 50 = .ok (.iload_n 1, 1) := by decide +kernel
theorem dX10_turn_51 : decode cX10_turn 51 = .ok (.iload_n 2, 1) := by decide +kernel
theorem dX10_turn_52 : decode cX10_turn 52 = .ok (.iastore, 1) := by decide +kernel
theorem dX10_turn_53 : decode cX10_turn 53 = .ok (.iload_n 3, 1) := by decide +kernel
theorem dX10_turn_54 : decode cX10_turn 54 = .ok (.ireturn, 1) := by decide +kernel
theorem dX10_dust_0 : decode cX10_dust 0 = .ok (.aload_n 0, 1) := by decide +kernel
theorem dX10_dust_1 : decode cX10_dust 1 = .ok (.iload_n 1, 1) := by decide +kernel
theorem dX10_dust_2 : decode cX10_dust 2 = .ok (.invokevirtual 127, 3) := by decide +kernel
theorem dX10_dust_5 : decode cX10_dust 5 = .ok (.ifCond .eq 14, 3) := by decide +kernel
theorem dX10_dust_8 : decode cX10_dust 8 = .ok (.iload_n 2, 1) := by decide +kernel
theorem dX10_dust_9 : decode cX10_dust 9 = .ok (.iconst 0, 1) := by decide +kernel
theorem dX10_dust_10 : decode cX10_dust 10 = .ok (.sipush 1000, 3) := by decide +kernel
theorem dX10_dust_13 : decode cX10_dust 13 = .ok (.invokestatic 75, 3) := by decide +kernel
theorem dX10_dust_16 : decode cX10_dust 16 = .ok (.ifCond .ne 10, 3) := by decide +kernel
theorem dX10_dust_19 : decode cX10_dust 19 = .ok (.aload_n 0, 1) := by decide +kernel
theorem dX10_dust_20 : decode cX10_dust 20 = .ok (.ldc 119, 2) := by decide +kernel
theorem dX10_dust_22 : decode cX10_dust 22 = .ok (.invokevirtual 120, 3) := by decide +kernel
theorem dX10_dust_25 : decode cX10_dust 25 = .ok (.ireturn, 1) := by decide +kernel
theorem dX10_dust_26 : decode cX10_dust 26 = .ok (.aload_n 0, 1) := by decide +kernel
theorem dX10_dust_27 : decode cX10_dust 27 = .ok (.getfield 22, 3) := by decide +kernel
theorem dX10_dust_30 : decode cX10_dust 30 = .ok (.iload_n 1, 1) := by decide +kernel
theorem dX10_dust_31 : decode cX10_dust 31 = .ok (.iaload, 1) := by decide +kernel
theorem dX10_dust_32 : decode cX10_dust 32 = .ok (.istore_n 3, 1) := by decide +kernel
theorem dX10_dust_33 : decode cX10_dust 33 = .ok (.aload_n 0, 1) := by decide +kernel
theorem dX10_dust_34 : decode cX10_dust 34 = .ok (.getfield 22, 3) := by decide +kernel
theorem dX10_dust_37 : decode cX10_dust 37 = .ok (.iload_n 1, 1) := by decide +kernel
theorem dX10_dust_38 : decode cX10_dust 38 = .ok (.iload_n 2, 1) := by decide +kernel
theorem dX10_dust_39 : decode cX10_dust 39 = .ok (.iastore, 1) := by decide +kernel
theorem dX10_dust_40 : decode cX10_dust 40 = .ok (.iload_n 3, 1) := by decide +kernel
theorem dX10_dust_41 : decode cX10_dust 41 = .ok (.ireturn, 1) := by decide +kernel
theorem dX10_isSun_0 : decode cX10_isSun 0 = .ok (.iload_n 0, 1) := by decide +kernel
theorem dX10_isSun_1 : decode cX10_isSun 1 = .ok (.invokestatic 131, 3) := by decide +kernel
theorem dX10_isSun_4 : decode cX10_isSun 4 = .ok (.ifCond .eq 31, 3) := by decide +kernel
theorem dX10_isSun_7 : decode cX10_isSun 7 = .ok (.iload_n 1, 1) := by decide +kernel
theorem dX10_isSun_8 : decode cX10_isSun 8 = .ok (.sipush (-1000), 3) := by decide +kernel
theorem dX10_isSun_11 : decode cX10_isSun 11 = .ok (.sipush 1000, 3) := by decide +kernel
theorem dX10_isSun_14 : decode cX10_isSun 14 = .ok (.invokestatic 75, 3) := by decide +kernel
theorem dX10_isSun_17 : decode cX10_isSun 17 = .ok (.ifCond .eq 18, 3) := by decide +kernel
theorem dX10_isSun_20 : decode cX10_isSun 20 = .ok (.iload_n 2, 1) := by decide +kernel
theorem dX10_isSun_21 : decode cX10_isSun 21 = .ok (.iconst 0, 1) := by decide +kernel
theorem dX10_isSun_22 : decode cX10_isSun 22 = .ok (.sipush 1000, 3) := by decide +kernel
theorem dX10_isSun_25 : decode cX10_isSun 25 = .ok (.invokestatic 75, 3) := by decide +kernel
theorem dX10_isSun_28 : decode cX10_isSun 28 = .ok (.ifCond .eq 7, 3) := by decide +kernel
theorem dX10_isSun_31 : decode cX10_isSun 31 = .ok (.iconst 1, 1) := by decide +kernel
theorem dX10_isSun_32 : decode cX10_isSun 32 = .ok (.goto 4, 3) := by decide +kernel
theorem dX10_isSun_35 : decode cX10_isSun 35 = .ok (.iconst 0, 1) := by decide +kernel
theorem dX10_isSun_36 : decode cX10_isSun 36 = .ok (.ireturn, 1) := by decide +kernel
theorem dX10_setSun_0 : decode cX10_setSun 0 = .ok (.aload_n 0, 1) := by decide +kernel
theorem dX10_setSun_1 : decode cX10_setSun 1 = .ok (.getfield 31, 3) := by decide +kernel
theorem dX10_setSun_4 : decode cX10_setSun 4 = .ok (.iload_n 1, 1) := by decide +kernel
theorem dX10_setSun_5 : decode cX10_setSun 5 = .ok (.iload_n 2, 1) := by decide +kernel
theorem dX10_setSun_6 : decode cX10_setSun 6 = .ok (.iastore, 1) := by decide +kernel
theorem dX10_setSun_7 : decode cX10_setSun 7 = .ok (.aload_n 0, 1) := by decide +kernel
theorem dX10_setSun_8 : decode cX10_setSun 8 = .ok (.getfield 34, 3) := by decide +kernel
theorem dX10_setSun_11 : decode cX10_setSun 11 = .ok (.iload_n 1, 1) := by decide +kernel
theorem dX10_setSun_12 : decode cX10_setSun 12 = .ok (.iload_n 3, 1) := by decide +kernel
theorem dX10_setSun_13 : decode cX10_setSun 13 = .ok (.iastore, 1) := by decide +kernel
theorem dX10_setSun_14 : decode cX10_setSun 14 = .ok (.return_, 1) := by decide +kernel
theorem dX10_sun_0 : decode cX10_sun 0 = .ok (.iload_n 1, 1) := by decide +kernel
theorem dX10_sun_1 : decode cX10_sun 1 = .ok (.iload_n 2, 1) := by decide +kernel
theorem dX10_sun_2 : decode cX10_sun 2 = .ok (.iload_n 3, 1) := by decide +kernel
theorem dX10_sun_3 : decode cX10_sun 3 = .ok (.invokestatic 134, 3) := by decide +kernel
theorem dX10_sun_6 : decode cX10_sun 6 = .ok (.ifCond .ne 10, 3) := by decide +kernel
theorem dX10_sun_9 : decode cX10_sun 9 = .ok (.aload_n 0, 1) := by decide +kernel
theorem dX10_sun_10 : decode cX10_sun 10 = .ok (.ldc 119, 2) := by decide +kernel
theorem dX10_sun_12 : decode cX10_sun 12 = .ok (.invokevirtual 120, 3) := by decide +kernel
theorem dX10_sun_15 : decode cX10_sun 15 = .ok (.ireturn, 1) := by decide +kernel
theorem dX10_sun_16 : decode cX10_sun 16 = .ok (.aload_n 0, 1) := by decide +kernel
theorem dX10_sun_17 : decode cX10_sun 17 = .ok (.iload_n 1, 1) := by decide +kernel
theorem dX10_sun_18 : decode cX10_sun 18 = .ok (.iload_n 2, 1) := by decide +kernel
theorem dX10_sun_19 : decode cX10_sun 19 = .ok (.iload_n 3, 1) := by decide +kernel
theorem dX10_sun_20 : decode cX10_sun 20 = .ok (.invokevirtual 137, 3) := by decide +kernel
theorem dX10_sun_23 : decode cX10_sun 23 = .ok (.iload_n 3, 1) := by decide +kernel
theorem dX10_sun_24 : decode cX10_sun 24 = .ok (.ifCond .le 7, 3) := by decide +kernel
theorem dX10_sun_27 : decode cX10_sun 27 = .ok (.iconst 1, 1) := by decide +kernel
theorem dX10_sun_28 : decode cX10_sun 28 = .ok (.goto 4, 3) := by decide +kernel
theorem dX10_sun_31 : decode cX10_sun 31 = .ok (.iconst 0, 1) := by decide +kernel
theorem dX10_sun_32 : decode cX10_sun 32 = .ok (.ireturn, 1) := by decide +kernel
theorem dX10_suns_0 : decode cX10_suns 0 = .ok (.aload_n 0, 1) := by decide +kernel
theorem dX10_suns_1 : decode cX10_suns 1 = .ok (.getfield 141, 3) := by decide +kernel
theorem dX10_suns_4 : decode cX10_suns 4 = .ok (.istore_n 1, 1) := by decide +kernel
theorem dX10_suns_5 : decode cX10_suns 5 = .ok (.iload_n 1, 1) := by decide +kernel
theorem dX10_suns_6 : decode cX10_suns 6 = .ok (.iconst 3, 1) := by decide +kernel
theorem dX10_suns_7 : decode cX10_suns 7 = .ok (.irem, 1) := by decide +kernel
theorem dX10_suns_8 : decode cX10_suns 8 = .ok (.ifCond .eq 10, 3) := by decide +kernel
theorem dX10_suns_11 : decode cX10_suns 11 = .ok (.aload_n 0, 1) := by decide +kernel
theorem dX10_suns_12 : decode cX10_suns 12 = .ok (.ldc 124, 2) := by decide +kernel
theorem dX10_suns_14 : decode cX10_suns 14 = .ok (.invokevirtual 120, 3) := by decide +kernel
theorem dX10_suns_17 : decode cX10_suns 17 = .ok (.ireturn, 1) := by decide +kernel
theorem dX10_suns_18 : decode cX10_suns 18 = .ok (.aload_n 0, 1) := by decide +kernel
theorem dX10_suns_19 : decode cX10_suns 19 = .ok (.iconst 0, 1) := by decide +kernel
theorem dX10_suns_20 : decode cX10_suns 20 = .ok (.putfield 141, 3) := by decide +kernel
theorem dX10_suns_23 : decode cX10_suns 23 = .ok (.iconst 0, 1) := by decide +kernel
theorem dX10_suns_24 : decode cX10_suns 24 = .ok (.istore_n 2, 1) := by decide +kernel
theorem dX10_suns_25 : decode cX10_suns 25 = .ok (.iload_n 2, 1) := by decide +kernel
theorem dX10_suns_26 : decode cX10_suns 26 = .ok (.iload_n 1, 1) := by decide +kernel
theorem dX10_suns_27 : decode cX10_suns 27 = .ok (.if_icmp .ge 44, 3) := by decide +kernel
theorem dX10_suns_30 : decode cX10_suns 30 = .ok (.aload_n 0, 1) := by decide +kernel
theorem dX10_suns_31 : decode cX10_suns 31 = .ok (.getfield 58, 3) := by decide +kernel
theorem dX10_suns_34 : decode cX10_suns 34 = .ok (.iload_n 2, 1) := by decide +kernel
theorem dX10_suns_35 : decode cX10_suns 35 = .ok (.iaload, 1) := by decide +kernel
theorem dX10_suns_36 : decode cX10_suns 36 = .ok (.aload_n 0, 1) := by decide +kernel
theorem dX10_suns_37 : decode cX10_suns 37 = .ok (.getfield 58, 3) := by decide +kernel
theorem dX10_suns_40 : decode cX10_suns 40 = .ok (.iload_n 2, 1) := by decide +kernel
theorem dX10_suns_41 : decode cX10_suns 41 = .ok (.iconst 1, 1) := by decide +kernel
theorem dX10_suns_42 : decode cX10_suns 42 = .ok (.iadd, 1) := by decide +kernel
theorem dX10_suns_43 : decode cX10_suns 43 = .ok (.iaload, 1) := by decide +kernel
theorem dX10_suns_44 : decode cX10_suns 44 = .ok (.aload_n 0, 1) := by decide +kernel
theorem dX10_suns_45 : decode cX10_suns 45 = .ok (.getfield 58, 3) := by decide +kernel
theorem dX10_suns_48 : decode cX10_suns 48 = .ok (.iload_n 2, 1) := by decide +kernel
theorem dX10_suns_49 : decode cX10_suns 49 = .ok (.iconst 2, 1) := by decide +kernel
theorem dX10_suns_50 : decode cX10_suns 50 = .ok (.iadd, 1) := by decide +kernel
theorem dX10_suns_51 : decode cX10_suns 51 = .ok (.iaload, 1) := by decide +kernel
theorem dX10_suns_52 : decode cX10_suns 52 = .ok (.invokestatic 134, 3) := by decide +kernel
theorem dX10_suns_55 : decode cX10_suns 55 = .ok (.ifCond .ne 10, 3) := by decide +kernel
theorem dX10_suns_58 : decode cX10_suns 58 = .ok (.aload_n 0, 1) := by decide +kernel
theorem dX10_suns_59 : decode cX10_suns 59 = .ok (.ldc 119, 2) := by decide +kernel
theorem dX10_suns_61 : decode cX10_suns 61 = .ok (.invokevirtual 120, 3) := by decide +kernel
theorem dX10_suns_64 : decode cX10_suns 64 = .ok (.ireturn, 1) := by decide +kernel
theorem dX10_suns_65 : decode cX10_suns 65 = .ok (.iinc 2 3, 3) := by decide +kernel
theorem dX10_suns_68 : decode cX10_suns 68 = .ok (.goto (-43), 3) := by decide +kernel
theorem dX10_suns_71 : decode cX10_suns 71 = .ok (.iconst 0, 1) := by decide +kernel
theorem dX10_suns_72 : decode cX10_suns 72 = .ok (.istore_n 2, 1) := by decide +kernel
theorem dX10_suns_73 : decode cX10_suns 73 = .ok (.iload_n 2, 1) := by decide +kernel
theorem dX10_suns_74 : decode cX10_suns 74 = .ok (.iload_n 1, 1) := by decide +kernel
theorem dX10_suns_75 : decode cX10_suns 75 = .ok (.if_icmp .ge 35, 3) := by decide +kernel
theorem dX10_suns_78 : decode cX10_suns 78 = .ok (.aload_n 0, 1) := by decide +kernel
theorem dX10_suns_79 : decode cX10_suns 79 = .ok (.aload_n 0, 1) := by decide +kernel
theorem dX10_suns_80 : decode cX10_suns 80 = .ok (.getfield 58, 3) := by decide +kernel
theorem dX10_suns_83 : decode cX10_suns 83 = .ok (.iload_n 2, 1) := by decide +kernel
theorem dX10_suns_84 : decode cX10_suns 84 = .ok (.iaload, 1) := by decide +kernel
theorem dX10_suns_85 : decode cX10_suns 85 = .ok (.aload_n 0, 1) := by decide +kernel
theorem dX10_suns_86 : decode cX10_suns 86 = .ok (.getfield 58, 3) := by decide +kernel
theorem dX10_suns_89 : decode cX10_suns 89 = .ok (.iload_n 2, 1) := by decide +kernel
theorem dX10_suns_90 : decode cX10_suns 90 = .ok (.iconst 1, 1) := by decide +kernel
theorem dX10_suns_91 : decode cX10_suns 91 = .ok (.iadd, 1) := by decide +kernel
theorem dX10_suns_92 : decode cX10_suns 92 = .ok (.iaload, 1) := by decide +kernel
theorem dX10_suns_93 : decode cX10_suns 93 = .ok (.aload_n 0, 1) := by decide +kernel
theorem dX10_suns_94 : decode cX10_suns 94 = .ok (.getfield 58, 3) := by decide +kernel
theorem dX10_suns_97 : decode cX10_suns 97 = .ok (.iload_n 2, 1) := by decide +kernel
theorem dX10_suns_98 : decode cX10_suns 98 = .ok (.iconst 2, 1) := by decide +kernel
theorem dX10_suns_99 : decode cX10_suns 99 = .ok (.iadd, 1) := by decide +kernel
theorem dX10_suns_100 : decode cX10_suns 100 = .ok (.iaload, 1) := by decide +kernel
theorem dX10_suns_101 : decode cX10_suns 101 = .ok (.invokevirtual 137, 3) := by decide +kernel
theorem dX10_suns_104 : decode cX10_suns 104 = .ok (.iinc 2 3, 3) := by decide +kernel
theorem dX10_suns_107 : decode cX10_suns 107 = .ok (.goto (-34), 3) := by decide +kernel
theorem dX10_suns_110 : decode cX10_suns 110 = .ok (.iload_n 1, 1) := by decide +kernel
theorem dX10_suns_111 : decode cX10_suns 111 = .ok (.iconst 3, 1) := by decide +kernel
theorem dX10_suns_112 : decode cX10_suns 112 = .ok (.idiv, 1) := by decide +kernel
theorem dX10_suns_113 : decode cX10_suns 113 = .ok (.ireturn, 1) := by decide +kernel
theorem dX10_stepAt_0 : decode cX10_stepAt 0 = .ok (.aload_n 0, 1) := by decide +kernel
theorem dX10_stepAt_1 : decode cX10_stepAt 1 = .ok (.getfield 64, 3) := by decide +kernel
theorem dX10_stepAt_4 : decode cX10_stepAt 4 = .ok (.bipush 99, 2) := by decide +kernel
theorem dX10_stepAt_6 : decode cX10_stepAt 6 = .ok (.if_icmp .eq 13, 3) := by decide +kernel
theorem dX10_stepAt_9 : decode cX10_stepAt 9 = .ok (.aload_n 0, 1) := by decide +kernel
theorem dX10_stepAt_10 : decode cX10_stepAt 10 = .ok (.getfield 9, 3) := by decide +kernel
theorem dX10_stepAt_13 : decode cX10_stepAt 13 = .ok (.iload_n 1, 1) := by decide +kernel
theorem dX10_stepAt_14 : decode cX10_stepAt 14 = .ok (.iaload, 1) := by decide +kernel
theorem dX10_stepAt_15 : decode cX10_stepAt 15 = .ok (.iconst 1, 1) := by decide +kernel
theorem dX10_stepAt_16 : decode cX10_stepAt 16 = .ok (.if_icmp .ne 12, 3) := by decide +kernel
theorem dX10_stepAt_19 : decode cX10_stepAt 19 = .ok (.aload_n 0, 1) := by decide +kernel
theorem dX10_stepAt_20 : decode cX10_stepAt 20 = .ok (.getfield 25, 3) := by decide +kernel
theorem dX10_stepAt_23 : decode cX10_stepAt 23 = .ok (.iload_n 1, 1) := by decide +kernel
theorem dX10_stepAt_24 : decode cX10_stepAt 24 = .ok (.iaload, 1) := by decide +kernel
theorem dX10_stepAt_25 : decode cX10_stepAt 25 = .ok (.goto 7, 3) := by decide +kernel
theorem dX10_stepAt_28 : decode cX10_stepAt 28 = .ok (.aload_n 0, 1) := by decide +kernel
theorem dX10_stepAt_29 : decode cX10_stepAt 29 = .ok (.getfield 64, 3) := by decide +kernel
theorem dX10_stepAt_32 : decode cX10_stepAt 32 = .ok (.ireturn, 1) := by decide +kernel
theorem dX10_look_0 : decode cX10_look 0 = .ok (.aload_n 0, 1) := by decide +kernel
theorem dX10_look_1 : decode cX10_look 1 = .ok (.iload_n 1, 1) := by decide +kernel
theorem dX10_look_2 : decode cX10_look 2 = .ok (.invokevirtual 144, 3) := by decide +kernel
theorem dX10_look_5 : decode cX10_look 5 = .ok (.istore 4, 2) := by decide +kernel
theorem dX10_look_7 : decode cX10_look 7 = .ok (.iload_n 2, 1) := by decide +kernel
theorem dX10_look_8 : decode cX10_look 8 = .ok (.ifCond .ne 9, 3) := by decide +kernel
theorem dX10_look_11 : decode cX10_look 11 = .ok (.ldc2_w 147, 3) := by decide +kernel
theorem dX10_look_14 : decode cX10_look 14 = .ok (.goto 4, 3) := by decide +kernel
theorem dX10_look_17 : decode cX10_look 17 = .ok (.lconst 1, 1) := by decide +kernel
theorem dX10_look_18 : decode cX10_look 18 = .ok (.lstore 5, 2) := by decide +kernel
theorem dX10_look_20 : decode cX10_look 20 = .ok (.ldc2_w 149, 3) := by decide +kernel
theorem dX10_look_23 : decode cX10_look 23 = .ok (.aload_n 0, 1) := by decide +kernel
theorem dX10_look_24 : decode cX10_look 24 = .ok (.getfield 13, 3) := by decide +kernel
theorem dX10_look_27 : decode cX10_look 27 = .ok (.iload_n 1, 1) := by decide +kernel
theorem dX10_look_28 : decode cX10_look 28 = .ok (.iaload, 1) := by decide +kernel
theorem dX10_look_29 : decode cX10_look 29 = .ok (.i2l, 1) := by decide +kernel
theorem dX10_look_30 : decode cX10_look 30 = .ok (.lmul, 1) := by decide +kernel
theorem dX10_look_31 : decode cX10_look 31 = .ok (.lload 5, 2) := by decide +kernel
theorem dX10_look_33 : decode cX10_look 33 = .ok (.aload_n 0, 1) := by decide +kernel
theorem dX10_look_34 : decode cX10_look 34 = .ok (.getfield 19, 3) := by decide +kernel
theorem dX10_look_37 : decode cX10_look 37 = .ok (.iload_n 1, 1) := by decide +kernel
theorem dX10_look_38 : decode cX10_look 38 = .ok (.iaload, 1) := by decide +kernel
theorem dX10_look_39 : decode cX10_look 39 = .ok (.i2l, 1) := by decide +kernel
theorem dX10_look_40 : decode cX10_look 40 = .ok (.lmul, 1) := by decide +kernel
theorem dX10_look_41 : decode cX10_look 41 = .ok (.iload 4, 2) := by decide +kernel
theorem dX10_look_43 : decode cX10_look 43 = .ok (.invokestatic 151, 3) := by decide +kernel
theorem dX10_look_46 : decode cX10_look 46 = .ok (.lmul, 1) := by decide +kernel
theorem dX10_look_47 : decode cX10_look 47 = .ok (.ladd, 1) := by decide +kernel
theorem dX10_look_48 : decode cX10_look 48 = .ok (.lstore 7, 2) := by decide +kernel
theorem dX10_look_50 : decode cX10_look 50 = .ok (.ldc2_w 149, 3) := by decide +kernel
theorem dX10_look_53 : decode cX10_look 53 = .ok (.aload_n 0, 1) := by decide +kernel
theorem dX10_look_54 : decode cX10_look 54 = .ok (.getfield 16, 3) := by decide +kernel
theorem dX10_look_57 : decode cX10_look 57 = .ok (.iload_n 1, 1) := by decide +kernel
theorem dX10_look_58 : decode cX10_look 58 = .ok (.iaload, 1) := by decide +kernel
theorem dX10_look_59 : decode cX10_look 59 = .ok (.i2l, 1) := by decide +kernel
theorem dX10_look_60 : decode cX10_look 60 = .ok (.lmul, 1) := by decide +kernel
theorem dX10_look_61 : decode cX10_look 61 = .ok (.lload 5, 2) := by decide +kernel
theorem dX10_look_63 : decode cX10_look 63 = .ok (.aload_n 0, 1) := by decide +kernel
theorem dX10_look_64 : decode cX10_look 64 = .ok (.getfield 19, 3) := by decide +kernel
theorem dX10_look_67 : decode cX10_look 67 = .ok (.iload_n 1, 1) := by decide +kernel
theorem dX10_look_68 : decode cX10_look 68 = .ok (.iaload, 1) := by decide +kernel
theorem dX10_look_69 : decode cX10_look 69 = .ok (.i2l, 1) := by decide +kernel
theorem dX10_look_70 : decode cX10_look 70 = .ok (.lmul, 1) := by decide +kernel
theorem dX10_look_71 : decode cX10_look 71 = .ok (.iload 4, 2) := by decide +kernel
theorem dX10_look_73 : decode cX10_look 73 = .ok (.invokestatic 155, 3) := by decide +kernel
theorem dX10_look_76 : decode cX10_look 76 = .ok (.lmul, 1) := by decide +kernel
theorem dX10_look_77 : decode cX10_look 77 = .ok (.ladd, 1) := by decide +kernel
theorem dX10_look_78 : decode cX10_look 78 = .ok (.lstore 9, 2) := by decide +kernel
theorem dX10_look_80 : decode cX10_look 80 = .ok (.lload 7, 2) := by decide +kernel
theorem dX10_look_82 : decode cX10_look 82 = .ok (.aload_n 0, 1) := by decide +kernel
theorem dX10_look_83 : decode cX10_look 83 = .ok (.getfield 34, 3) := by decide +kernel
theorem dX10_look_86 : decode cX10_look 86 = .ok (.iload_n 3, 1) := by decide +kernel
theorem dX10_look_87 : decode cX10_look 87 = .ok (.iaload, 1) := by decide +kernel
theorem dX10_look_88 : decode cX10_look 88 = .ok (.i2l, 1) := by decide +kernel
theorem dX10_look_89 : decode cX10_look 89 = .ok (.lmul, 1) := by decide +kernel
theorem dX10_look_90 : decode cX10_look 90 = .ok (.lload 9, 2) := by decide +kernel
theorem dX10_look_92 : decode cX10_look 92 = .ok (.aload_n 0, 1) := by decide +kernel
theorem dX10_look_93 : decode cX10_look 93 = .ok (.getfield 31, 3) := by decide +kernel
theorem dX10_look_96 : decode cX10_look 96 = .ok (.iload_n 3, 1) := by decide +kernel
theorem dX10_look_97 : decode cX10_look 97 = .ok (.iaload, 1) := by decide +kernel
theorem dX10_look_98 : decode cX10_look 98 = .ok (.i2l, 1) := by decide +kernel
theorem dX10_look_99 : decode cX10_look 99 = .ok (.lmul, 1) := by decide +kernel
theorem dX10_look_100 : decode cX10_look 100 = .ok (.lsub, 1) := by decide +kernel
theorem dX10_look_101 : decode cX10_look 101 = .ok (.lreturn, 1) := by decide +kernel
theorem dX10_breadthOf_0 : decode cX10_breadthOf 0 = .ok (.aload_n 0, 1) := by decide +kernel
theorem dX10_breadthOf_1 : decode cX10_breadthOf 1 = .ok (.iload_n 1, 1) := by decide +kernel
theorem dX10_breadthOf_2 : decode cX10_breadthOf 2 = .ok (.iconst 1, 1) := by decide +kernel
theorem dX10_breadthOf_3 : decode cX10_breadthOf 3 = .ok (.iload_n 2, 1) := by decide +kernel
theorem dX10_breadthOf_4 : decode cX10_breadthOf 4 = .ok (.invokevirtual 158, 3) := by decide +kernel
theorem dX10_breadthOf_7 : decode cX10_breadthOf 7 = .ok (.aload_n 0, 1) := by decide +kernel
theorem dX10_breadthOf_8 : decode cX10_breadthOf 8 = .ok (.iload_n 1, 1) := by decide +kernel
theorem dX10_breadthOf_9 : decode cX10_breadthOf 9 = .ok (.iconst 0, 1) := by decide +kernel
theorem dX10_breadthOf_10 : decode cX10_breadthOf 10 = .ok (.iload_n 2, 1) := by decide +kernel
theorem dX10_breadthOf_11 : decode cX10_breadthOf 11 = .ok (.invokevirtual 158, 3) := by decide +kernel
theorem dX10_breadthOf_14 : decode cX10_breadthOf 14 = .ok (.lsub, 1) := by decide +kernel
theorem dX10_breadthOf_15 : decode cX10_breadthOf 15 = .ok (.lreturn, 1) := by decide +kernel
theorem dX10_isAhead_0 : decode cX10_isAhead 0 = .ok (.aload_n 0, 1) := by decide +kernel
theorem dX10_isAhead_1 : decode cX10_isAhead 1 = .ok (.getfield 31, 3) := by decide +kernel
theorem dX10_isAhead_4 : decode cX10_isAhead 4 = .ok (.iload_n 3, 1) := by decide +kernel
theorem dX10_isAhead_5 : decode cX10_isAhead 5 = .ok (.iaload, 1) := by decide +kernel
theorem dX10_isAhead_6 : decode cX10_isAhead 6 = .ok (.ifCond .le 16, 3) := by decide +kernel
theorem dX10_isAhead_9 : decode cX10_isAhead 9 = .ok (.iload_n 1, 1) := by decide +kernel
theorem dX10_isAhead_10 : decode cX10_isAhead 10 = .ok (.iload_n 2, 1) := by decide +kernel
theorem dX10_isAhead_11 : decode cX10_isAhead 11 = .ok (.if_icmp .le 7, 3) := by decide +kernel
theorem dX10_isAhead_14 : decode cX10_isAhead 14 = .ok (.iconst 1, 1) := by decide +kernel
theorem dX10_isAhead_15 : decode cX10_isAhead 15 = .ok (.goto 26, 3) := by decide +kernel
theorem dX10_isAhead_18 : decode cX10_isAhead 18 = .ok (.iconst 0, 1) := by decide +kernel
theorem dX10_isAhead_19 : decode cX10_isAhead 19 = .ok (.goto 22, 3) := by decide +kernel
theorem dX10_isAhead_22 : decode cX10_isAhead 22 = .ok (.aload_n 0, 1) := by decide +kernel
theorem dX10_isAhead_23 : decode cX10_isAhead 23 = .ok (.getfield 31, 3) := by decide +kernel
theorem dX10_isAhead_26 : decode cX10_isAhead 26 = .ok (.iload_n 3, 1) := by decide +kernel
theorem dX10_isAhead_27 : decode cX10_isAhead 27 = .ok (.iaload, 1) := by decide +kernel
theorem dX10_isAhead_28 : decode cX10_isAhead 28 = .ok (.ifCond .ge 12, 3) := by decide +kernel
theorem dX10_isAhead_31 : decode cX10_isAhead 31 = .ok (.iload_n 1, 1) := by decide +kernel
theorem dX10_isAhead_32 : decode cX10_isAhead 32 = .ok (.iload_n 2, 1) := by decide +kernel
theorem dX10_isAhead_33 : decode cX10_isAhead 33 = .ok (.if_icmp .ge 7, 3) := by decide +kernel
theorem dX10_isAhead_36 : decode cX10_isAhead 36 = .ok (.iconst 1, 1) := by decide +kernel
theorem dX10_isAhead_37 : decode cX10_isAhead 37 = .ok (.goto 4, 3) := by decide +kernel
theorem dX10_isAhead_40 : decode cX10_isAhead 40 = .ok (.iconst 0, 1) := by decide +kernel
theorem dX10_isAhead_41 : decode cX10_isAhead 41 = .ok (.ireturn, 1) := by decide +kernel
theorem dX10_shaded_0 : decode cX10_shaded 0 = .ok (.lconst 0, 1) := by decide +kernel
theorem dX10_shaded_1 : decode cX10_shaded 1 = .ok (.lstore 7, 2) := by decide +kernel
theorem dX10_shaded_3 : decode cX10_shaded 3 = .ok (.lload_n 3, 1) := by decide +kernel
theorem dX10_shaded_4 : decode cX10_shaded 4 = .ok (.lstore 9, 2) := by decide +kernel
theorem dX10_shaded_6 : decode cX10_shaded 6 = .ok (.lload 9, 2) := by decide +kernel
theorem dX10_shaded_8 : decode cX10_shaded 8 = .ok (.lload 5, 2) := by decide +kernel
theorem dX10_shaded_10 : decode cX10_shaded 10 = .ok (.lcmp, 1) := by decide +kernel
theorem dX10_shaded_11 : decode cX10_shaded 11 = .ok (.ifCond .ge 202, 3) := by decide +kernel
theorem dX10_shaded_14 : decode cX10_shaded 14 = .ok (.lload 9, 2) := by decide +kernel
theorem dX10_shaded_16 : decode cX10_shaded 16 = .ok (.lstore 11, 2) := by decide +kernel
theorem dX10_shaded_18 : decode cX10_shaded 18 = .ok (.lload 5, 2) := by decide +kernel
theorem dX10_shaded_20 : decode cX10_shaded 20 = .ok (.lstore 13, 2) := by decide +kernel
theorem dX10_shaded_22 : decode cX10_shaded 22 = .ok (.iconst 0, 1) := by decide +kernel
theorem dX10_shaded_23 : decode cX10_shaded 23 = .ok (.istore 15, 2) := by decide +kernel
theorem dX10_shaded_25 : decode cX10_shaded 25 = .ok (.iload 15, 2) := by decide +kernel
theorem dX10_shaded_27 : decode cX10_shaded 27 = .ok (.aload_n 0, 1) := by decide +kernel
theorem dX10_shaded_28 : decode cX10_shaded 28 = .ok (.getfield 72, 3) := by decide +kernel
theorem dX10_shaded_31 : decode cX10_shaded 31 = .ok (.if_icmp .ge 133, 3) := by decide +kernel
theorem dX10_shaded_34 : decode cX10_shaded 34 = .ok (.aload_n 0, 1) := by decide +kernel
theorem dX10_shaded_35 : decode cX10_shaded 35 = .ok (.iload 15, 2) := by decide +kernel
theorem dX10_shaded_37 : decode cX10_shaded 37 = .ok (.iload_n 1, 1) := by decide +kernel
theorem dX10_shaded_38 : decode cX10_shaded 38 = .ok (.iload_n 2, 1) := by decide +kernel
theorem dX10_shaded_39 : decode cX10_shaded 39 = .ok (.invokevirtual 162, 3) := by decide +kernel
theorem dX10_shaded_42 : decode cX10_shaded 42 = .ok (.ifCond .ne 6, 3) := by decide +kernel
theorem dX10_shaded_45 : decode cX10_shaded 45 = .ok (.goto 113, 3) := by decide +kernel
theorem dX10_shaded_48 : decode cX10_shaded 48 = .ok (.ldc2_w 165, 3) := by decide +kernel
theorem dX10_shaded_51 : decode cX10_shaded 51 = .ok (.aload_n 0, 1) := by decide +kernel
theorem dX10_shaded_52 : decode cX10_shaded 52 = .ok (.iload 15, 2) := by decide +kernel
theorem dX10_shaded_54 : decode cX10_shaded 54 = .ok (.iconst 0, 1) := by decide +kernel
theorem dX10_shaded_55 : decode cX10_shaded 55 = .ok (.iload_n 2, 1) := by decide +kernel
theorem dX10_shaded_56 : decode cX10_shaded 56 = .ok (.invokevirtual 158, 3) := by decide +kernel
theorem dX10_shaded_59 : decode cX10_shaded 59 = .ok (.lmul, 1) := by decide +kernel
theorem dX10_shaded_60 : decode cX10_shaded 60 = .ok (.lstore 16, 2) := by decide +kernel
theorem dX10_shaded_62 : decode cX10_shaded 62 = .ok (.ldc2_w 165, 3) := by decide +kernel
theorem dX10_shaded_65 : decode cX10_shaded 65 = .ok (.aload_n 0, 1) := by decide +kernel
theorem dX10_shaded_66 : decode cX10_shaded 66 = .ok (.iload 15, 2) := by decide +kernel
theorem dX10_shaded_68 : decode cX10_shaded 68 = .ok (.iconst 1, 1) := by decide +kernel
theorem dX10_shaded_69 : decode cX10_shaded 69 = .ok (.iload_n 2, 1) := by decide +kernel
theorem dX10_shaded_70 : decode cX10_shaded 70 = .ok (.invokevirtual 158, 3) := by decide +kernel
theorem dX10_shaded_73 : decode cX10_shaded 73 = .ok (.lmul, 1) := by decide +kernel
theorem dX10_shaded_74 : decode cX10_shaded 74 = .ok (.lstore 18, 2) := by decide +kernel
theorem dX10_shaded_76 : decode cX10_shaded 76 = .ok (.lload 16, 2) := by decide +kernel
theorem dX10_shaded_78 : decode cX10_shaded 78 = .ok (.lload 18, 2) := by decide +kernel
theorem dX10_shaded_80 : decode cX10_shaded 80 = .ok (.lcmp, 1) := by decide +kernel
theorem dX10_shaded_81 : decode cX10_shaded 81 = .ok (.ifCond .ge 8, 3) := by decide +kernel
theorem dX10_shaded_84 : decode cX10_shaded 84 = .ok (.lload 16, 2) := by decide +kernel
theorem dX10_shaded_86 : decode cX10_shaded 86 = .ok (.goto 5, 3) := by decide +kernel
theorem dX10_shaded_89 : decode cX10_shaded 89 = .ok (.lload 18, 2) := by decide +kernel
theorem dX10_shaded_91 : decode cX10_shaded 91 = .ok (.lstore 20, 2) := by decide +kernel
theorem dX10_shaded_93 : decode cX10_shaded 93 = .ok (.lload 16, 2) := by decide +kernel
theorem dX10_shaded_95 : decode cX10_shaded 95 = .ok (.lload 18, 2) := by decide +kernel
theorem dX10_shaded_97 : decode cX10_shaded 97 = .ok (.lcmp, 1) := by decide +kernel
theorem dX10_shaded_98 : decode cX10_shaded 98 = .ok (.ifCond .ge 8, 3) := by decide +kernel
theorem dX10_shaded_101 : decode cX10_shaded 101 = .ok (.lload 18, 2) := by decide +kernel
theorem dX10_shaded_103 : decode cX10_shaded 103 = .ok (.goto 5, 3) := by decide +kernel
theorem dX10_shaded_106 : decode cX10_shaded 106 = .ok (.lload 16, 2) := by decide +kernel
theorem dX10_shaded_108 : decode cX10_shaded 108 = .ok (.lstore 22, 2) := by decide +kernel
theorem dX10_shaded_110 : decode cX10_shaded 110 = .ok (.lload 20, 2) := by decide +kernel
theorem dX10_shaded_112 : decode cX10_shaded 112 = .ok (.lload 9, 2) := by decide +kernel
theorem dX10_shaded_114 : decode cX10_shaded 114 = .ok (.lcmp, 1) := by decide +kernel
theorem dX10_shaded_115 : decode cX10_shaded 115 = .ok (.ifCond .gt 15, 3) := by decide +kernel
theorem dX10_shaded_118 : decode cX10_shaded 118 = .ok (.lload 22, 2) := by decide +kernel
theorem dX10_shaded_120 : decode cX10_shaded 120 = .ok (.lload 11, 2) := by decide +kernel
theorem dX10_shaded_122 : decode cX10_shaded 122 = .ok (.lcmp, 1) := by decide +kernel
theorem dX10_shaded_123 : decode cX10_shaded 123 = .ok (.ifCond .le 7, 3) := by decide +kernel
theorem dX10_shaded_126 : decode cX10_shaded 126 = .ok (.lload 22, 2) := by decide +kernel
theorem dX10_shaded_128 : decode cX10_shaded 128 = .ok (.lstore 11, 2) := by decide +kernel
theorem dX10_shaded_130 : decode cX10_shaded 130 = .ok (.lload 20, 2) := by decide +kernel
theorem dX10_shaded_132 : decode cX10_shaded 132 = .ok (.lload 9, 2) := by decide +kernel
theorem dX10_shaded_134 : decode cX10_shaded 134 = .ok (.lcmp, 1) := by decide +kernel
theorem dX10_shaded_135 : decode cX10_shaded 135 = .ok (.ifCond .le 23, 3) := by decide +kernel
theorem dX10_shaded_138 : decode cX10_shaded 138 = .ok (.lload 20, 2) := by decide +kernel
theorem dX10_shaded_140 : decode cX10_shaded 140 = .ok (.lload 13, 2) := by decide +kernel
theorem dX10_shaded_142 : decode cX10_shaded 142 = .ok (.lcmp, 1) := by decide +kernel
theorem dX10_shaded_143 : decode cX10_shaded 143 = .ok (.ifCond .ge 15, 3) := by decide +kernel
theorem dX10_shaded_146 : decode cX10_shaded 146 = .ok (.lload 20, 2) := by decide +kernel
theorem dX10_shaded_148 : decode cX10_shaded 148 = .ok (.lload 22, 2) := by decide +kernel
theorem dX10_shaded_150 : decode cX10_shaded 150 = .ok (.lcmp, 1) := by decide +kernel
theorem dX10_shaded_151 : decode cX10_shaded 151 = .ok (.ifCond .ge 7, 3) := by decide +kernel
theorem dX10_shaded_154 : decode cX10_shaded 154 = .ok (.lload 20, 2) := by decide +kernel
theorem dX10_shaded_156 : decode cX10_shaded 156 = .ok (.lstore 13, 2) := by decide +kernel
theorem dX10_shaded_158 : decode cX10_shaded 158 = .ok (.iinc 15 1, 3) := by decide +kernel
theorem dX10_shaded_161 : decode cX10_shaded 161 = .ok (.goto (-136), 3) := by decide +kernel
theorem dX10_shaded_164 : decode cX10_shaded 164 = .ok (.lload 11, 2) := by decide +kernel
theorem dX10_shaded_166 : decode cX10_shaded 166 = .ok (.lload 9, 2) := by decide +kernel
theorem dX10_shaded_168 : decode cX10_shaded 168 = .ok (.lcmp, 1) := by decide +kernel
theorem dX10_shaded_169 : decode cX10_shaded 169 = .ok (.ifCond .le 37, 3) := by decide +kernel
theorem dX10_shaded_172 : decode cX10_shaded 172 = .ok (.lload 11, 2) := by decide +kernel
theorem dX10_shaded_174 : decode cX10_shaded 174 = .ok (.lload 5, 2) := by decide +kernel
theorem dX10_shaded_176 : decode cX10_shaded 176 = .ok (.lcmp, 1) := by decide +kernel
theorem dX10_shaded_177 : decode cX10_shaded 177 = .ok (.ifCond .ge 8, 3) := by decide +kernel
theorem dX10_shaded_180 : decode cX10_shaded 180 = .ok (.lload 11, 2) := by decide +kernel
theorem dX10_shaded_182 : decode cX10_shaded 182 = .ok (.goto 5, 3) := by decide +kernel
theorem dX10_shaded_185 : decode cX10_shaded 185 = .ok (.lload 5, 2) := by decide +kernel
theorem dX10_shaded_187 : decode cX10_shaded 187 = .ok (.lstore 15, 2) := by decide +kernel
theorem dX10_shaded_189 : decode cX10_shaded 189 = .ok (.lload 7, 2) := by decide +kernel
theorem dX10_shaded_191 : decode cX10_shaded 191 = .ok (.lload 15, 2) := by decide +kernel
theorem dX10_shaded_193 : decode cX10_shaded 193 = .ok (.lload 9, 2) := by decide +kernel
theorem dX10_shaded_195 : decode cX10_shaded 195 = .ok (.lsub, 1) := by decide +kernel
theorem dX10_shaded_196 : decode cX10_shaded 196 = .ok (.ladd, 1) := by decide +kernel
theorem dX10_shaded_197 : decode cX10_shaded 197 = .ok (.lstore 7, 2) := by decide +kernel
theorem dX10_shaded_199 : decode cX10_shaded 199 = .ok (.lload 15, 2) := by decide +kernel
theorem dX10_shaded_201 : decode cX10_shaded 201 = .ok (.lstore 9, 2) := by decide +kernel
theorem dX10_shaded_203 : decode cX10_shaded 203 = .ok (.goto 7, 3) := by decide +kernel
theorem dX10_shaded_206 : decode cX10_shaded 206 = .ok (.lload 13, 2) := by decide +kernel
theorem dX10_shaded_208 : decode cX10_shaded 208 = .ok (.lstore 9, 2) := by decide +kernel
theorem dX10_shaded_210 : decode cX10_shaded 210 = .ok (.goto (-204), 3) := by decide +kernel
theorem dX10_shaded_213 : decode cX10_shaded 213 = .ok (.lload 7, 2) := by decide +kernel
theorem dX10_shaded_215 : decode cX10_shaded 215 = .ok (.lreturn, 1) := by decide +kernel
theorem dX10_shadeOf_0 : decode cX10_shadeOf 0 = .ok (.aload_n 0, 1) := by decide +kernel
theorem dX10_shadeOf_1 : decode cX10_shadeOf 1 = .ok (.iload_n 1, 1) := by decide +kernel
theorem dX10_shadeOf_2 : decode cX10_shadeOf 2 = .ok (.iload_n 2, 1) := by decide +kernel
theorem dX10_shadeOf_3 : decode cX10_shadeOf 3 = .ok (.ldc2_w 165, 3) := by decide +kernel
theorem dX10_shadeOf_6 : decode cX10_shadeOf 6 = .ok (.aload_n 0, 1) := by decide +kernel
theorem dX10_shadeOf_7 : decode cX10_shadeOf 7 = .ok (.iload_n 1, 1) := by decide +kernel
theorem dX10_shadeOf_8 : decode cX10_shadeOf 8 = .ok (.iconst 0, 1) := by decide +kernel
theorem dX10_shadeOf_9 : decode cX10_shadeOf 9 = .ok (.iload_n 2, 1) := by decide +kernel
theorem dX10_shadeOf_10 : decode cX10_shadeOf 10 = .ok (.invokevirtual 158, 3) := by decide +kernel
theorem dX10_shadeOf_13 : decode cX10_shadeOf 13 = .ok (.lmul, 1) := by decide +kernel
theorem dX10_shadeOf_14 : decode cX10_shadeOf 14 = .ok (.ldc2_w 165, 3) := by decide +kernel
theorem dX10_shadeOf_17 : decode cX10_shadeOf 17 = .ok (.aload_n 0, 1) := by decide +kernel
theorem dX10_shadeOf_18 : decode cX10_shadeOf 18 = .ok (.iload_n 1, 1) := by decide +kernel
theorem dX10_shadeOf_19 : decode cX10_shadeOf 19 = .ok (.iconst 1, 1) := by decide +kernel
theorem dX10_shadeOf_20 : decode cX10_shadeOf 20 = .ok (.iload_n 2, 1) := by decide +kernel
theorem dX10_shadeOf_21 : decode cX10_shadeOf 21 = .ok (.invokevirtual 158, 3) := by decide +kernel
theorem dX10_shadeOf_24 : decode cX10_shadeOf 24 = .ok (.lmul, 1) := by decide +kernel
theorem dX10_shadeOf_25 : decode cX10_shadeOf 25 = .ok (.invokevirtual 167, 3) := by decide +kernel
theorem dX10_shadeOf_28 : decode cX10_shadeOf 28 = .ok (.ldc2_w 165, 3) := by decide +kernel
theorem dX10_shadeOf_31 : decode cX10_shadeOf 31 = .ok (.ldiv, 1) := by decide +kernel
theorem dX10_shadeOf_32 : decode cX10_shadeOf 32 = .ok (.lreturn, 1) := by decide +kernel
theorem dX10_darkOf_0 : decode cX10_darkOf 0 = .ok (.ldc2_w 165, 3) := by decide +kernel
theorem dX10_darkOf_3 : decode cX10_darkOf 3 = .ok (.aload_n 0, 1) := by decide +kernel
theorem dX10_darkOf_4 : decode cX10_darkOf 4 = .ok (.iload_n 1, 1) := by decide +kernel
theorem dX10_darkOf_5 : decode cX10_darkOf 5 = .ok (.iconst 0, 1) := by decide +kernel
theorem dX10_darkOf_6 : decode cX10_darkOf 6 = .ok (.iload_n 2, 1) := by decide +kernel
theorem dX10_darkOf_7 : decode cX10_darkOf 7 = .ok (.invokevirtual 158, 3) := by decide +kernel
theorem dX10_darkOf_10 : decode cX10_darkOf 10 = .ok (.lmul, 1) := by decide +kernel
theorem dX10_darkOf_11 : decode cX10_darkOf 11 = .ok (.lstore_n 3, 1) := by decide +kernel
theorem dX10_darkOf_12 : decode cX10_darkOf 12 = .ok (.aload_n 0, 1) := by decide +kernel
theorem dX10_darkOf_13 : decode cX10_darkOf 13 = .ok (.iload_n 1, 1) := by decide +kernel
theorem dX10_darkOf_14 : decode cX10_darkOf 14 = .ok (.iload_n 2, 1) := by decide +kernel
theorem dX10_darkOf_15 : decode cX10_darkOf 15 = .ok (.invokevirtual 171, 3) := by decide +kernel
theorem dX10_darkOf_18 : decode cX10_darkOf 18 = .ok (.lstore 5, 2) := by decide +kernel
theorem dX10_darkOf_20 : decode cX10_darkOf 20 = .ok (.iconst 0, 1) := by decide +kernel
theorem dX10_darkOf_21 : decode cX10_darkOf 21 = .ok (.istore 7, 2) := by decide +kernel
theorem dX10_darkOf_23 : decode cX10_darkOf 23 = .ok (.iconst 0, 1) := by decide +kernel
theorem dX10_darkOf_24 : decode cX10_darkOf 24 = .ok (.istore 8, 2) := by decide +kernel
theorem dX10_darkOf_26 : decode cX10_darkOf 26 = .ok (.iload 8, 2) := by decide +kernel
theorem dX10_darkOf_28 : decode cX10_darkOf 28 = .ok (.iconst 3, 1) := by decide +kernel
theorem dX10_darkOf_29 : decode cX10_darkOf 29 = .ok (.if_icmp .ge 51, 3) := by decide +kernel
theorem dX10_darkOf_32 : decode cX10_darkOf 32 = .ok (.iload 7, 2) := by decide +kernel
theorem dX10_darkOf_34 : decode cX10_darkOf 34 = .ok (.aload_n 0, 1) := by decide +kernel
theorem dX10_darkOf_35 : decode cX10_darkOf 35 = .ok (.iload_n 1, 1) := by decide +kernel
theorem dX10_darkOf_36 : decode cX10_darkOf 36 = .ok (.iload_n 2, 1) := by decide +kernel
theorem dX10_darkOf_37 : decode cX10_darkOf 37 = .ok (.lload_n 3, 1) := by decide +kernel
theorem dX10_darkOf_38 : decode cX10_darkOf 38 = .ok (.iload 8, 2) := by decide +kernel
theorem dX10_darkOf_40 : decode cX10_darkOf 40 = .ok (.i2l, 1) := by decide +kernel
theorem dX10_darkOf_41 : decode cX10_darkOf 41 = .ok (.lload 5, 2) := by decide +kernel
theorem dX10_darkOf_43 : decode cX10_darkOf 43 = .ok (.lmul, 1) := by decide +kernel
theorem dX10_darkOf_44 : decode cX10_darkOf 44 = .ok (.ladd, 1) := by decide +kernel
theorem dX10_darkOf_45 : decode cX10_darkOf 45 = .ok (.lload_n 3, 1) := by decide +kernel
theorem dX10_darkOf_46 : decode cX10_darkOf 46 = .ok (.iload 8, 2) := by decide +kernel
theorem dX10_darkOf_48 : decode cX10_darkOf 48 = .ok (.iconst 1, 1) := by decide +kernel
theorem dX10_darkOf_49 : decode cX10_darkOf 49 = .ok (.iadd, 1) := by decide +kernel
theorem dX10_darkOf_50 : decode cX10_darkOf 50 = .ok (.i2l, 1) := by decide +kernel
theorem dX10_darkOf_51 : decode cX10_darkOf 51 = .ok (.lload 5, 2) := by decide +kernel
theorem dX10_darkOf_53 : decode cX10_darkOf 53 = .ok (.lmul, 1) := by decide +kernel
theorem dX10_darkOf_54 : decode cX10_darkOf 54 = .ok (.ladd, 1) := by decide +kernel
theorem dX10_darkOf_55 : decode cX10_darkOf 55 = .ok (.invokevirtual 167, 3) := by decide +kernel
theorem dX10_darkOf_58 : decode cX10_darkOf 58 = .ok (.lconst 0, 1) := by decide +kernel
theorem dX10_darkOf_59 : decode cX10_darkOf 59 = .ok (.lcmp, 1) := by decide +kernel
theorem dX10_darkOf_60 : decode cX10_darkOf 60 = .ok (.ifCond .le 10, 3) := by decide +kernel
theorem dX10_darkOf_63 : decode cX10_darkOf 63 = .ok (.iconst 1, 1) := by decide +kernel
theorem dX10_darkOf_64 : decode cX10_darkOf 64 = .ok (.iload 8, 2) := by decide +kernel
theorem dX10_darkOf_66 : decode cX10_darkOf 66 = .ok (.ishl, 1) := by decide +kernel
theorem dX10_darkOf_67 : decode cX10_darkOf 67 = .ok (.goto 4, 3) := by decide +kernel
theorem dX10_darkOf_70 : decode cX10_darkOf 70 = .ok (.iconst 0, 1) := by decide +kernel
theorem dX10_darkOf_71 : decode cX10_darkOf 71 = .ok (.ior, 1) := by decide +kernel
theorem dX10_darkOf_72 : decode cX10_darkOf 72 = .ok (.istore 7, 2) := by decide +kernel
theorem dX10_darkOf_74 : decode cX10_darkOf 74 = .ok (.iinc 8 1, 3) := by decide +kernel
theorem dX10_darkOf_77 : decode cX10_darkOf 77 = .ok (.goto (-51), 3) := by decide +kernel
theorem dX10_darkOf_80 : decode cX10_darkOf 80 = .ok (.iload 7, 2) := by decide +kernel
theorem dX10_darkOf_82 : decode cX10_darkOf 82 = .ok (.ireturn, 1) := by decide +kernel
theorem dX10_idealOf_0 : decode cX10_idealOf 0 = .ok (.iconst 0, 1) := by decide +kernel
theorem dX10_idealOf_1 : decode cX10_idealOf 1 = .ok (.istore_n 2, 1) := by decide +kernel
theorem dX10_idealOf_2 : decode cX10_idealOf 2 = .ok (.lconst 0, 1) := by decide +kernel
theorem dX10_idealOf_3 : decode cX10_idealOf 3 = .ok (.lstore_n 3, 1) := by decide +kernel
theorem dX10_idealOf_4 : decode cX10_idealOf 4 = .ok (.bipush (-12), 2) := by decide +kernel
theorem dX10_idealOf_6 : decode cX10_idealOf 6 = .ok (.istore 5, 2) := by decide +kernel
theorem dX10_idealOf_8 : decode cX10_idealOf 8 = .ok (.iload 5, 2) := by decide +kernel
theorem dX10_idealOf_10 : decode cX10_idealOf 10 = .ok (.bipush 12, 2) := by decide +kernel
theorem dX10_idealOf_12 : decode cX10_idealOf 12 = .ok (.if_icmp .gt 99, 3) := by decide +kernel
theorem dX10_idealOf_15 : decode cX10_idealOf 15 = .ok (.iload 5, 2) := by decide +kernel
theorem dX10_idealOf_17 : decode cX10_idealOf 17 = .ok (.invokestatic 151, 3) := by decide +kernel
theorem dX10_idealOf_20 : decode cX10_idealOf 20 = .ok (.aload_n 0, 1) := by decide +kernel
theorem dX10_idealOf_21 : decode cX10_idealOf 21 = .ok (.getfield 34, 3) := by decide +kernel
theorem dX10_idealOf_24 : decode cX10_idealOf 24 = .ok (.iload_n 1, 1) := by decide +kernel
theorem dX10_idealOf_25 : decode cX10_idealOf 25 = .ok (.iaload, 1) := by decide +kernel
theorem dX10_idealOf_26 : decode cX10_idealOf 26 = .ok (.i2l, 1) := by decide +kernel
theorem dX10_idealOf_27 : decode cX10_idealOf 27 = .ok (.lmul, 1) := by decide +kernel
theorem dX10_idealOf_28 : decode cX10_idealOf 28 = .ok (.iload 5, 2) := by decide +kernel
theorem dX10_idealOf_30 : decode cX10_idealOf 30 = .ok (.invokestatic 155, 3) := by decide +kernel
theorem dX10_idealOf_33 : decode cX10_idealOf 33 = .ok (.aload_n 0, 1) := by decide +kernel
theorem dX10_idealOf_34 : decode cX10_idealOf 34 = .ok (.getfield 31, 3) := by decide +kernel
theorem dX10_idealOf_37 : decode cX10_idealOf 37 = .ok (.iload_n 1, 1) := by decide +kernel
theorem dX10_idealOf_38 : decode cX10_idealOf 38 = .ok (.iaload, 1) := by decide +kernel
theorem dX10_idealOf_39 : decode cX10_idealOf 39 = .ok (.i2l, 1) := by decide +kernel
theorem dX10_idealOf_40 : decode cX10_idealOf 40 = .ok (.lmul, 1) := by decide +kernel
theorem dX10_idealOf_41 : decode cX10_idealOf 41 = .ok (.lsub, 1) := by decide +kernel
theorem dX10_idealOf_42 : decode cX10_idealOf 42 = .ok (.lstore 6, 2) := by decide +kernel
theorem dX10_idealOf_44 : decode cX10_idealOf 44 = .ok (.iload 5, 2) := by decide +kernel
theorem dX10_idealOf_46 : decode cX10_idealOf 46 = .ok (.ifCond .ge 9, 3) := by decide +kernel
theorem dX10_idealOf_49 : decode cX10_idealOf 49 = .ok (.iload 5, 2) := by decide +kernel
theorem dX10_idealOf_51 : decode cX10_idealOf 51 = .ok (.ineg, 1) := by decide +kernel
theorem dX10_idealOf_52 : decode cX10_idealOf 52 = .ok (.goto 5, 3) := by decide +kernel
theorem dX10_idealOf_55 : decode cX10_idealOf 55 = .ok (.iload 5, 2) := by decide +kernel
theorem dX10_idealOf_57 : decode cX10_idealOf 57 = .ok (.istore 8, 2) := by decide +kernel
theorem dX10_idealOf_59 : decode cX10_idealOf 59 = .ok (.iload_n 2, 1) := by decide +kernel
theorem dX10_idealOf_60 : decode cX10_idealOf 60 = .ok (.ifCond .ge 8, 3) := by decide +kernel
theorem dX10_idealOf_63 : decode cX10_idealOf 63 = .ok (.iload_n 2, 1) := by decide +kernel
theorem dX10_idealOf_64 : decode cX10_idealOf 64 = .ok (.ineg, 1) := by decide +kernel
theorem dX10_idealOf_65 : decode cX10_idealOf 65 = .ok (.goto 4, 3) := by decide +kernel
theorem dX10_idealOf_68 : decode cX10_idealOf 68 = .ok (.iload_n 2, 1) := by decide +kernel
theorem dX10_idealOf_69 : decode cX10_idealOf 69 = .ok (.istore 9, 2) := by decide +kernel
theorem dX10_idealOf_71 : decode cX10_idealOf 71 = .ok (.iload 5, 2) := by decide +kernel
theorem dX10_idealOf_73 : decode cX10_idealOf 73 = .ok (.bipush (-12), 2) := by decide +kernel
theorem dX10_idealOf_75 : decode cX10_idealOf 75 = .ok (.if_icmp .eq 24, 3) := by decide +kernel
theorem dX10_idealOf_78 : decode cX10_idealOf 78 = .ok (.lload 6, 2) := by decide +kernel
theorem dX10_idealOf_80 : decode cX10_idealOf 80 = .ok (.lload_n 3, 1) := by decide +kernel
theorem dX10_idealOf_81 : decode cX10_idealOf 81 = .ok (.lcmp, 1) := by decide +kernel
theorem dX10_idealOf_82 : decode cX10_idealOf 82 = .ok (.ifCond .gt 17, 3) := by decide +kernel
theorem dX10_idealOf_85 : decode cX10_idealOf 85 = .ok (.lload 6, 2) := by decide +kernel
theorem dX10_idealOf_87 : decode cX10_idealOf 87 = .ok (.lload_n 3, 1) := by decide +kernel
theorem dX10_idealOf_88 : decode cX10_idealOf 88 = .ok (.lcmp, 1) := by decide +kernel
theorem dX10_idealOf_89 : decode cX10_idealOf 89 = .ok (.ifCond .ne 16, 3) := by decide +kernel
theorem dX10_idealOf_92 : decode cX10_idealOf 92 = .ok (.iload 8, 2) := by decide +kernel
theorem dX10_idealOf_94 : decode cX10_idealOf 94 = .ok (.iload 9, 2) := by decide +kernel
theorem dX10_idealOf_96 : decode cX10_idealOf 96 = .ok (.if_icmp .ge 9, 3) := by decide +kernel
theorem dX10_idealOf_99 : decode cX10_idealOf 99 = .ok (.iload 5, 2) := by decide +kernel
theorem dX10_idealOf_101 : decode cX10_idealOf 101 = .ok (.istore_n 2, 1) := by decide +kernel
theorem dX10_idealOf_102 : decode cX10_idealOf 102 = .ok (.lload 6, 2) := by decide +kernel
theorem dX10_idealOf_104 : decode cX10_idealOf 104 = .ok (.lstore_n 3, 1) := by decide +kernel
theorem dX10_idealOf_105 : decode cX10_idealOf 105 = .ok (.iinc 5 1, 3) := by decide +kernel
theorem dX10_idealOf_108 : decode cX10_idealOf 108 = .ok (.goto (-100), 3) := by decide +kernel
theorem dX10_idealOf_111 : decode cX10_idealOf 111 = .ok (.iload_n 2, 1) := by decide +kernel
theorem dX10_idealOf_112 : decode cX10_idealOf 112 = .ok (.ireturn, 1) := by decide +kernel
theorem dX10_isClear_0 : decode cX10_isClear 0 = .ok (.aload_n 0, 1) := by decide +kernel
theorem dX10_isClear_1 : decode cX10_isClear 1 = .ok (.iload_n 1, 1) := by decide +kernel
theorem dX10_isClear_2 : decode cX10_isClear 2 = .ok (.putfield 64, 3) := by decide +kernel
theorem dX10_isClear_5 : decode cX10_isClear 5 = .ok (.iconst 1, 1) := by decide +kernel
theorem dX10_isClear_6 : decode cX10_isClear 6 = .ok (.istore_n 3, 1) := by decide +kernel
theorem dX10_isClear_7 : decode cX10_isClear 7 = .ok (.iconst 0, 1) := by decide +kernel
theorem dX10_isClear_8 : decode cX10_isClear 8 = .ok (.istore 4, 2) := by decide +kernel
theorem dX10_isClear_10 : decode cX10_isClear 10 = .ok (.iload 4, 2) := by decide +kernel
theorem dX10_isClear_12 : decode cX10_isClear 12 = .ok (.aload_n 0, 1) := by decide +kernel
theorem dX10_isClear_13 : decode cX10_isClear 13 = .ok (.getfield 72, 3) := by decide +kernel
theorem dX10_isClear_16 : decode cX10_isClear 16 = .ok (.if_icmp .ge 46, 3) := by decide +kernel
theorem dX10_isClear_19 : decode cX10_isClear 19 = .ok (.aload_n 0, 1) := by decide +kernel
theorem dX10_isClear_20 : decode cX10_isClear 20 = .ok (.getfield 9, 3) := by decide +kernel
theorem dX10_isClear_23 : decode cX10_isClear 23 = .ok (.iload 4, 2) := by decide +kernel
theorem dX10_isClear_25 : decode cX10_isClear 25 = .ok (.iaload, 1) := by decide +kernel
theorem dX10_isClear_26 : decode cX10_isClear 26 = .ok (.iconst 1, 1) := by decide +kernel
theorem dX10_isClear_27 : decode cX10_isClear 27 = .ok (.if_icmp .eq 29, 3) := by decide +kernel
theorem dX10_isClear_30 : decode cX10_isClear 30 = .ok (.aload_n 0, 1) := by decide +kernel
theorem dX10_isClear_31 : decode cX10_isClear 31 = .ok (.iload 4, 2) := by decide +kernel
theorem dX10_isClear_33 : decode cX10_isClear 33 = .ok (.iload_n 2, 1) := by decide +kernel
theorem dX10_isClear_34 : decode cX10_isClear 34 = .ok (.invokevirtual 171, 3) := by decide +kernel
theorem dX10_isClear_37 : decode cX10_isClear 37 = .ok (.lconst 0, 1) := by decide +kernel
theorem dX10_isClear_38 : decode cX10_isClear 38 = .ok (.lcmp, 1) := by decide +kernel
theorem dX10_isClear_39 : decode cX10_isClear 39 = .ok (.ifCond .le 17, 3) := by decide +kernel
theorem dX10_isClear_42 : decode cX10_isClear 42 = .ok (.aload_n 0, 1) := by decide +kernel
theorem dX10_isClear_43 : decode cX10_isClear 43 = .ok (.iload 4, 2) := by decide +kernel
theorem dX10_isClear_45 : decode cX10_isClear 45 = .ok (.iload_n 2, 1) := by decide +kernel
theorem dX10_isClear_46 : decode cX10_isClear 46 = .ok (.invokevirtual 175, 3) := by decide +kernel
theorem dX10_isClear_49 : decode cX10_isClear 49 = .ok (.lconst 0, 1) := by decide +kernel
theorem dX10_isClear_50 : decode cX10_isClear 50 = .ok (.lcmp, 1) := by decide +kernel
theorem dX10_isClear_51 : decode cX10_isClear 51 = .ok (.ifCond .le 5, 3) := by decide +kernel
theorem dX10_isClear_54 : decode cX10_isClear 54 = .ok (.iconst 0, 1) := by decide +kernel
theorem dX10_isClear_55 : decode cX10_isClear 55 = .ok (.istore_n 3, 1) := by decide +kernel
theorem dX10_isClear_56 : decode cX10_isClear 56 = .ok (.iinc 4 1, 3) := by decide +kernel
theorem dX10_isClear_59 : decode cX10_isClear 59 = .ok (.goto (-49), 3) := by decide +kernel
theorem dX10_isClear_62 : decode cX10_isClear 62 = .ok (.aload_n 0, 1) := by decide +kernel
theorem dX10_isClear_63 : decode cX10_isClear 63 = .ok (.bipush 99, 2) := by decide +kernel
theorem dX10_isClear_65 : decode cX10_isClear 65 = .ok (.putfield 64, 3) := by decide +kernel
theorem dX10_isClear_68 : decode cX10_isClear 68 = .ok (.iload_n 3, 1) := by decide +kernel
theorem dX10_isClear_69 : decode cX10_isClear 69 = .ok (.ireturn, 1) := by decide +kernel
theorem dX10_backOf_0 : decode cX10_backOf 0 = .ok (.aload_n 0, 1) := by decide +kernel
theorem dX10_backOf_1 : decode cX10_backOf 1 = .ok (.iload_n 1, 1) := by decide +kernel
theorem dX10_backOf_2 : decode cX10_backOf 2 = .ok (.invokevirtual 178, 3) := by decide +kernel
theorem dX10_backOf_5 : decode cX10_backOf 5 = .ok (.istore_n 2, 1) := by decide +kernel
theorem dX10_backOf_6 : decode cX10_backOf 6 = .ok (.iconst 0, 1) := by decide +kernel
theorem dX10_backOf_7 : decode cX10_backOf 7 = .ok (.istore_n 3, 1) := by decide +kernel
theorem dX10_backOf_8 : decode cX10_backOf 8 = .ok (.iload_n 3, 1) := by decide +kernel
theorem dX10_backOf_9 : decode cX10_backOf 9 = .ok (.bipush 24, 2) := by decide +kernel
theorem dX10_backOf_11 : decode cX10_backOf 11 = .ok (.if_icmp .gt 57, 3) := by decide +kernel
theorem dX10_backOf_14 : decode cX10_backOf 14 = .ok (.iload_n 2, 1) := by decide +kernel
theorem dX10_backOf_15 : decode cX10_backOf 15 = .ok (.iload_n 3, 1) := by decide +kernel
theorem dX10_backOf_16 : decode cX10_backOf 16 = .ok (.isub, 1) := by decide +kernel
theorem dX10_backOf_17 : decode cX10_backOf 17 = .ok (.invokestatic 115, 3) := by decide +kernel
theorem dX10_backOf_20 : decode cX10_backOf 20 = .ok (.ifCond .eq 18, 3) := by decide +kernel
theorem dX10_backOf_23 : decode cX10_backOf 23 = .ok (.aload_n 0, 1) := by decide +kernel
theorem dX10_backOf_24 : decode cX10_backOf 24 = .ok (.iload_n 2, 1) := by decide +kernel
theorem dX10_backOf_25 : decode cX10_backOf 25 = .ok (.iload_n 3, 1) := by decide +kernel
theorem dX10_backOf_26 : decode cX10_backOf 26 = .ok (.isub, 1) := by decide +kernel
theorem dX10_backOf_27 : decode cX10_backOf 27 = .ok (.iload_n 1, 1) := by decide +kernel
theorem dX10_backOf_28 : decode cX10_backOf 28 = .ok (.invokevirtual 181, 3) := by decide +kernel
theorem dX10_backOf_31 : decode cX10_backOf 31 = .ok (.ifCond .eq 7, 3) := by decide +kernel
theorem dX10_backOf_34 : decode cX10_backOf 34 = .ok (.iload_n 2, 1) := by decide +kernel
theorem dX10_backOf_35 : decode cX10_backOf 35 = .ok (.iload_n 3, 1) := by decide +kernel
theorem dX10_backOf_36 : decode cX10_backOf 36 = .ok (.isub, 1) := by decide +kernel
theorem dX10_backOf_37 : decode cX10_backOf 37 = .ok (.ireturn, 1) := by decide +kernel
theorem dX10_backOf_38 : decode cX10_backOf 38 = .ok (.iload_n 2, 1) := by decide +kernel
theorem dX10_backOf_39 : decode cX10_backOf 39 = .ok (.iload_n 3, 1) := by decide +kernel
theorem dX10_backOf_40 : decode cX10_backOf 40 = .ok (.iadd, 1) := by decide +kernel
theorem dX10_backOf_41 : decode cX10_backOf 41 = .ok (.invokestatic 115, 3) := by decide +kernel
theorem dX10_backOf_44 : decode cX10_backOf 44 = .ok (.ifCond .eq 18, 3) := by decide +kernel
theorem dX10_backOf_47 : decode cX10_backOf 47 = .ok (.aload_n 0, 1) := by decide +kernel
theorem dX10_backOf_48 : decode cX10_backOf 48 = .ok (.iload_n 2, 1) := by decide +kernel
theorem dX10_backOf_49 : decode cX10_backOf 49 = .ok (.iload_n 3, 1) := by decide +kernel
theorem dX10_backOf_50 : decode cX10_backOf 50 = .ok (.iadd, 1) := by decide +kernel
theorem dX10_backOf_51 : decode cX10_backOf 51 = .ok (.iload_n 1, 1) := by decide +kernel
theorem dX10_backOf_52 : decode cX10_backOf 52 = .ok (.invokevirtual 181, 3) := by decide +kernel
theorem dX10_backOf_55 : decode cX10_backOf 55 = .ok (.ifCond .eq 7, 3) := by decide +kernel
theorem dX10_backOf_58 : decode cX10_backOf 58 = .ok (.iload_n 2, 1) := by decide +kernel
theorem dX10_backOf_59 : decode cX10_backOf 59 = .ok (.iload_n 3, 1) := by decide +kernel
theorem dX10_backOf_60 : decode cX10_backOf 60 = .ok (.iadd, 1) := by decide +kernel
theorem dX10_backOf_61 : decode cX10_backOf 61 = .ok (.ireturn, 1) := by decide +kernel
theorem dX10_backOf_62 : decode cX10_backOf 62 = .ok (.iinc 3 1, 3) := by decide +kernel
theorem dX10_backOf_65 : decode cX10_backOf 65 = .ok (.goto (-57), 3) := by decide +kernel
theorem dX10_backOf_68 : decode cX10_backOf 68 = .ok (.bipush 99, 2) := by decide +kernel
theorem dX10_backOf_70 : decode cX10_backOf 70 = .ok (.ireturn, 1) := by decide +kernel
theorem dX10_ideal_0 : decode cX10_ideal 0 = .ok (.iload_n 1, 1) := by decide +kernel
theorem dX10_ideal_1 : decode cX10_ideal 1 = .ok (.invokestatic 131, 3) := by decide +kernel
theorem dX10_ideal_4 : decode cX10_ideal 4 = .ok (.ifCond .ne 10, 3) := by decide +kernel
theorem dX10_ideal_7 : decode cX10_ideal 7 = .ok (.aload_n 0, 1) := by decide +kernel
theorem dX10_ideal_8 : decode cX10_ideal 8 = .ok (.ldc 119, 2) := by decide +kernel
theorem dX10_ideal_10 : decode cX10_ideal 10 = .ok (.invokevirtual 120, 3) := by decide +kernel
theorem dX10_ideal_13 : decode cX10_ideal 13 = .ok (.ireturn, 1) := by decide +kernel
theorem dX10_ideal_14 : decode cX10_ideal 14 = .ok (.aload_n 0, 1) := by decide +kernel
theorem dX10_ideal_15 : decode cX10_ideal 15 = .ok (.iload_n 1, 1) := by decide +kernel
theorem dX10_ideal_16 : decode cX10_ideal 16 = .ok (.invokevirtual 185, 3) := by decide +kernel
theorem dX10_ideal_19 : decode cX10_ideal 19 = .ok (.ifCond .eq 12, 3) := by decide +kernel
theorem dX10_ideal_22 : decode cX10_ideal 22 = .ok (.aload_n 0, 1) := by decide +kernel
theorem dX10_ideal_23 : decode cX10_ideal 23 = .ok (.ldc 126, 2) := by decide +kernel
theorem dX10_ideal_25 : decode cX10_ideal 25 = .ok (.invokevirtual 120, 3) := by decide +kernel
theorem dX10_ideal_28 : decode cX10_ideal 28 = .ok (.goto 8, 3) := by decide +kernel
theorem dX10_ideal_31 : decode cX10_ideal 31 = .ok (.aload_n 0, 1) := by decide +kernel
theorem dX10_ideal_32 : decode cX10_ideal 32 = .ok (.iload_n 1, 1) := by decide +kernel
theorem dX10_ideal_33 : decode cX10_ideal 33 = .ok (.invokevirtual 178, 3) := by decide +kernel
theorem dX10_ideal_36 : decode cX10_ideal 36 = .ok (.ireturn, 1) := by decide +kernel
theorem dX10_back_0 : decode cX10_back 0 = .ok (.iload_n 1, 1) := by decide +kernel
theorem dX10_back_1 : decode cX10_back 1 = .ok (.invokestatic 131, 3) := by decide +kernel
theorem dX10_back_4 : decode cX10_back 4 = .ok (.ifCond .ne 10, 3) := by decide +kernel
theorem dX10_back_7 : decode cX10_back 7 = .ok (.aload_n 0, 1) := by decide +kernel
theorem dX10_back_8 : decode cX10_back 8 = .ok (.ldc 119, 2) := by decide +kernel
theorem dX10_back_10 : decode cX10_back 10 = .ok (.invokevirtual 120, 3) := by decide +kernel
theorem dX10_back_13 : decode cX10_back 13 = .ok (.ireturn, 1) := by decide +kernel
theorem dX10_back_14 : decode cX10_back 14 = .ok (.aload_n 0, 1) := by decide +kernel
theorem dX10_back_15 : decode cX10_back 15 = .ok (.iload_n 1, 1) := by decide +kernel
theorem dX10_back_16 : decode cX10_back 16 = .ok (.invokevirtual 185, 3) := by decide +kernel
theorem dX10_back_19 : decode cX10_back 19 = .ok (.ifCond .eq 10, 3) := by decide +kernel
theorem dX10_back_22 : decode cX10_back 22 = .ok (.aload_n 0, 1) := by decide +kernel
theorem dX10_back_23 : decode cX10_back 23 = .ok (.ldc 130, 2) := by decide +kernel
theorem dX10_back_25 : decode cX10_back 25 = .ok (.invokevirtual 120, 3) := by decide +kernel
theorem dX10_back_28 : decode cX10_back 28 = .ok (.ireturn, 1) := by decide +kernel
theorem dX10_back_29 : decode cX10_back 29 = .ok (.aload_n 0, 1) := by decide +kernel
theorem dX10_back_30 : decode cX10_back 30 = .ok (.iload_n 1, 1) := by decide +kernel
theorem dX10_back_31 : decode cX10_back 31 = .ok (.invokevirtual 188, 3) := by decide +kernel
theorem dX10_back_34 : decode cX10_back 34 = .ok (.istore_n 2, 1) := by decide +kernel
theorem dX10_back_35 : decode cX10_back 35 = .ok (.iload_n 2, 1) := by decide +kernel
theorem dX10_back_36 : decode cX10_back 36 = .ok (.bipush 99, 2) := by decide +kernel
theorem dX10_back_38 : decode cX10_back 38 = .ok (.if_icmp .ne 12, 3) := by decide +kernel
theorem dX10_back_41 : decode cX10_back 41 = .ok (.aload_n 0, 1) := by decide +kernel
theorem dX10_back_42 : decode cX10_back 42 = .ok (.ldc 126, 2) := by decide +kernel
theorem dX10_back_44 : decode cX10_back 44 = .ok (.invokevirtual 120, 3) := by decide +kernel
theorem dX10_back_47 : decode cX10_back 47 = .ok (.goto 4, 3) := by decide +kernel
theorem dX10_back_50 : decode cX10_back 50 = .ok (.iload_n 2, 1) := by decide +kernel
theorem dX10_back_51 : decode cX10_back 51 = .ok (.ireturn, 1) := by decide +kernel
theorem dX10_unseen_0 : decode cX10_unseen 0 = .ok (.aload_n 0, 1) := by decide +kernel
theorem dX10_unseen_1 : decode cX10_unseen 1 = .ok (.iload_n 1, 1) := by decide +kernel
theorem dX10_unseen_2 : decode cX10_unseen 2 = .ok (.invokevirtual 127, 3) := by decide +kernel
theorem dX10_unseen_5 : decode cX10_unseen 5 = .ok (.ifCond .eq 10, 3) := by decide +kernel
theorem dX10_unseen_8 : decode cX10_unseen 8 = .ok (.iload_n 2, 1) := by decide +kernel
theorem dX10_unseen_9 : decode cX10_unseen 9 = .ok (.invokestatic 131, 3) := by decide +kernel
theorem dX10_unseen_12 : decode cX10_unseen 12 = .ok (.ifCond .ne 8, 3) := by decide +kernel
theorem dX10_unseen_15 : decode cX10_unseen 15 = .ok (.ldc 119, 2) := by decide +kernel
theorem dX10_unseen_17 : decode cX10_unseen 17 = .ok (.goto 17, 3) := by decide +kernel
theorem dX10_unseen_20 : decode cX10_unseen 20 = .ok (.aload_n 0, 1) := by decide +kernel
theorem dX10_unseen_21 : decode cX10_unseen 21 = .ok (.iload_n 2, 1) := by decide +kernel
theorem dX10_unseen_22 : decode cX10_unseen 22 = .ok (.invokevirtual 185, 3) := by decide +kernel
theorem dX10_unseen_25 : decode cX10_unseen 25 = .ok (.ifCond .eq 8, 3) := by decide +kernel
theorem dX10_unseen_28 : decode cX10_unseen 28 = .ok (.ldc 126, 2) := by decide +kernel
theorem dX10_unseen_30 : decode cX10_unseen 30 = .ok (.goto 4, 3) := by decide +kernel
theorem dX10_unseen_33 : decode cX10_unseen 33 = .ok (.iconst 0, 1) := by decide +kernel
theorem dX10_unseen_34 : decode cX10_unseen 34 = .ok (.ireturn, 1) := by decide +kernel
theorem dX10_breadth_0 : decode cX10_breadth 0 = .ok (.aload_n 0, 1) := by decide +kernel
theorem dX10_breadth_1 : decode cX10_breadth 1 = .ok (.iload_n 1, 1) := by decide +kernel
theorem dX10_breadth_2 : decode cX10_breadth 2 = .ok (.iload_n 2, 1) := by decide +kernel
theorem dX10_breadth_3 : decode cX10_breadth 3 = .ok (.invokevirtual 191, 3) := by decide +kernel
theorem dX10_breadth_6 : decode cX10_breadth 6 = .ok (.istore_n 3, 1) := by decide +kernel
theorem dX10_breadth_7 : decode cX10_breadth 7 = .ok (.iload_n 3, 1) := by decide +kernel
theorem dX10_breadth_8 : decode cX10_breadth 8 = .ok (.ifCond .ge 12, 3) := by decide +kernel
theorem dX10_breadth_11 : decode cX10_breadth 11 = .ok (.aload_n 0, 1) := by decide +kernel
theorem dX10_breadth_12 : decode cX10_breadth 12 = .ok (.iload_n 3, 1) := by decide +kernel
theorem dX10_breadth_13 : decode cX10_breadth 13 = .ok (.invokevirtual 120, 3) := by decide +kernel
theorem dX10_breadth_16 : decode cX10_breadth 16 = .ok (.i2l, 1) := by decide +kernel
theorem dX10_breadth_17 : decode cX10_breadth 17 = .ok (.goto 9, 3) := by decide +kernel
theorem dX10_breadth_20 : decode cX10_breadth 20 = .ok (.aload_n 0, 1) := by decide +kernel
theorem dX10_breadth_21 : decode cX10_breadth 21 = .ok (.iload_n 1, 1) := by decide +kernel
theorem dX10_breadth_22 : decode cX10_breadth 22 = .ok (.iload_n 2, 1) := by decide +kernel
theorem dX10_breadth_23 : decode cX10_breadth 23 = .ok (.invokevirtual 171, 3) := by decide +kernel
theorem dX10_breadth_26 : decode cX10_breadth 26 = .ok (.lreturn, 1) := by decide +kernel
theorem dX10_unlit_0 : decode cX10_unlit 0 = .ok (.aload_n 0, 1) := by decide +kernel
theorem dX10_unlit_1 : decode cX10_unlit 1 = .ok (.iload_n 1, 1) := by decide +kernel
theorem dX10_unlit_2 : decode cX10_unlit 2 = .ok (.iload_n 2, 1) := by decide +kernel
theorem dX10_unlit_3 : decode cX10_unlit 3 = .ok (.invokevirtual 191, 3) := by decide +kernel
theorem dX10_unlit_6 : decode cX10_unlit 6 = .ok (.istore_n 3, 1) := by decide +kernel
theorem dX10_unlit_7 : decode cX10_unlit 7 = .ok (.iload_n 3, 1) := by decide +kernel
theorem dX10_unlit_8 : decode cX10_unlit 8 = .ok (.ifCond .ge 7, 3) := by decide +kernel
theorem dX10_unlit_11 : decode cX10_unlit 11 = .ok (.iload_n 3, 1) := by decide +kernel
theorem dX10_unlit_12 : decode cX10_unlit 12 = .ok (.goto 20, 3) := by decide +kernel
theorem dX10_unlit_15 : decode cX10_unlit 15 = .ok (.aload_n 0, 1) := by decide +kernel
theorem dX10_unlit_16 : decode cX10_unlit 16 = .ok (.iload_n 1, 1) := by decide +kernel
theorem dX10_unlit_17 : decode cX10_unlit 17 = .ok (.iload_n 2, 1) := by decide +kernel
theorem dX10_unlit_18 : decode cX10_unlit 18 = .ok (.invokevirtual 171, 3) := by decide +kernel
theorem dX10_unlit_21 : decode cX10_unlit 21 = .ok (.lconst 0, 1) := by decide +kernel
theorem dX10_unlit_22 : decode cX10_unlit 22 = .ok (.lcmp, 1) := by decide +kernel
theorem dX10_unlit_23 : decode cX10_unlit 23 = .ok (.ifCond .le 7, 3) := by decide +kernel
theorem dX10_unlit_26 : decode cX10_unlit 26 = .ok (.iconst 0, 1) := by decide +kernel
theorem dX10_unlit_27 : decode cX10_unlit 27 = .ok (.goto 5, 3) := by decide +kernel
theorem dX10_unlit_30 : decode cX10_unlit 30 = .ok (.ldc 130, 2) := by decide +kernel
theorem dX10_unlit_32 : decode cX10_unlit 32 = .ok (.ireturn, 1) := by decide +kernel
theorem dX10_shade_0 : decode cX10_shade 0 = .ok (.aload_n 0, 1) := by decide +kernel
theorem dX10_shade_1 : decode cX10_shade 1 = .ok (.iload_n 1, 1) := by decide +kernel
theorem dX10_shade_2 : decode cX10_shade 2 = .ok (.iload_n 2, 1) := by decide +kernel
theorem dX10_shade_3 : decode cX10_shade 3 = .ok (.invokevirtual 195, 3) := by decide +kernel
theorem dX10_shade_6 : decode cX10_shade 6 = .ok (.istore_n 3, 1) := by decide +kernel
theorem dX10_shade_7 : decode cX10_shade 7 = .ok (.iload_n 3, 1) := by decide +kernel
theorem dX10_shade_8 : decode cX10_shade 8 = .ok (.ifCond .ge 12, 3) := by decide +kernel
theorem dX10_shade_11 : decode cX10_shade 11 = .ok (.aload_n 0, 1) := by decide +kernel
theorem dX10_shade_12 : decode cX10_shade 12 = .ok (.iload_n 3, 1) := by decide +kernel
theorem dX10_shade_13 : decode cX10_shade 13 = .ok (.invokevirtual 120, 3) := by decide +kernel
theorem dX10_shade_16 : decode cX10_shade 16 = .ok (.i2l, 1) := by decide +kernel
theorem dX10_shade_17 : decode cX10_shade 17 = .ok (.goto 9, 3) := by decide +kernel
theorem dX10_shade_20 : decode cX10_shade 20 = .ok (.aload_n 0, 1) := by decide +kernel
theorem dX10_shade_21 : decode cX10_shade 21 = .ok (.iload_n 1, 1) := by decide +kernel
theorem dX10_shade_22 : decode cX10_shade 22 = .ok (.iload_n 2, 1) := by decide +kernel
theorem dX10_shade_23 : decode cX10_shade 23 = .ok (.invokevirtual 175, 3) := by decide +kernel
theorem dX10_shade_26 : decode cX10_shade 26 = .ok (.lreturn, 1) := by decide +kernel
theorem dX10_dark_0 : decode cX10_dark 0 = .ok (.aload_n 0, 1) := by decide +kernel
theorem dX10_dark_1 : decode cX10_dark 1 = .ok (.iload_n 1, 1) := by decide +kernel
theorem dX10_dark_2 : decode cX10_dark 2 = .ok (.iload_n 2, 1) := by decide +kernel
theorem dX10_dark_3 : decode cX10_dark 3 = .ok (.invokevirtual 195, 3) := by decide +kernel
theorem dX10_dark_6 : decode cX10_dark 6 = .ok (.istore_n 3, 1) := by decide +kernel
theorem dX10_dark_7 : decode cX10_dark 7 = .ok (.iload_n 3, 1) := by decide +kernel
theorem dX10_dark_8 : decode cX10_dark 8 = .ok (.ifCond .ge 11, 3) := by decide +kernel
theorem dX10_dark_11 : decode cX10_dark 11 = .ok (.aload_n 0, 1) := by decide +kernel
theorem dX10_dark_12 : decode cX10_dark 12 = .ok (.iload_n 3, 1) := by decide +kernel
theorem dX10_dark_13 : decode cX10_dark 13 = .ok (.invokevirtual 120, 3) := by decide +kernel
theorem dX10_dark_16 : decode cX10_dark 16 = .ok (.goto 9, 3) := by decide +kernel
theorem dX10_dark_19 : decode cX10_dark 19 = .ok (.aload_n 0, 1) := by decide +kernel
theorem dX10_dark_20 : decode cX10_dark 20 = .ok (.iload_n 1, 1) := by decide +kernel
theorem dX10_dark_21 : decode cX10_dark 21 = .ok (.iload_n 2, 1) := by decide +kernel
theorem dX10_dark_22 : decode cX10_dark 22 = .ok (.invokevirtual 198, 3) := by decide +kernel
theorem dX10_dark_25 : decode cX10_dark 25 = .ok (.ireturn, 1) := by decide +kernel
theorem dX10_isString_0 : decode cX10_isString 0 = .ok (.iload_n 0, 1) := by decide +kernel
theorem dX10_isString_1 : decode cX10_isString 1 = .ok (.iconst 0, 1) := by decide +kernel
theorem dX10_isString_2 : decode cX10_isString 2 = .ok (.iconst 3, 1) := by decide +kernel
theorem dX10_isString_3 : decode cX10_isString 3 = .ok (.invokestatic 75, 3) := by decide +kernel
theorem dX10_isString_6 : decode cX10_isString 6 = .ok (.ireturn, 1) := by decide +kernel
theorem dX10_string_0 : decode cX10_string 0 = .ok (.aload_n 0, 1) := by decide +kernel
theorem dX10_string_1 : decode cX10_string 1 = .ok (.iload_n 1, 1) := by decide +kernel
theorem dX10_string_2 : decode cX10_string 2 = .ok (.invokevirtual 127, 3) := by decide +kernel
theorem dX10_string_5 : decode cX10_string 5 = .ok (.ifCond .eq 15, 3) := by decide +kernel
theorem dX10_string_8 : decode cX10_string 8 = .ok (.iload_n 2, 1) := by decide +kernel
theorem dX10_string_9 : decode cX10_string 9 = .ok (.iconst (-1), 1) := by decide +kernel
theorem dX10_string_10 : decode cX10_string 10 = .ok (.if_icmp .eq 17, 3) := by decide +kernel
theorem dX10_string_13 : decode cX10_string 13 = .ok (.iload_n 2, 1) := by decide +kernel
theorem dX10_string_14 : decode cX10_string 14 = .ok (.invokestatic 201, 3) := by decide +kernel
theorem dX10_string_17 : decode cX10_string 17 = .ok (.ifCond .ne 10, 3) := by decide +kernel
theorem dX10_string_20 : decode cX10_string 20 = .ok (.aload_n 0, 1) := by decide +kernel
theorem dX10_string_21 : decode cX10_string 21 = .ok (.ldc 119, 2) := by decide +kernel
theorem dX10_string_23 : decode cX10_string 23 = .ok (.invokevirtual 120, 3) := by decide +kernel
theorem dX10_string_26 : decode cX10_string 26 = .ok (.ireturn, 1) := by decide +kernel
theorem dX10_string_27 : decode cX10_string 27 = .ok (.aload_n 0, 1) := by decide +kernel
theorem dX10_string_28 : decode cX10_string 28 = .ok (.getfield 28, 3) := by decide +kernel
theorem dX10_string_31 : decode cX10_string 31 = .ok (.iload_n 1, 1) := by decide +kernel
theorem dX10_string_32 : decode cX10_string 32 = .ok (.iaload, 1) := by decide +kernel
theorem dX10_string_33 : decode cX10_string 33 = .ok (.istore_n 3, 1) := by decide +kernel
theorem dX10_string_34 : decode cX10_string 34 = .ok (.aload_n 0, 1) := by decide +kernel
theorem dX10_string_35 : decode cX10_string 35 = .ok (.getfield 28, 3) := by decide +kernel
theorem dX10_string_38 : decode cX10_string 38 = .ok (.iload_n 1, 1) := by decide +kernel
theorem dX10_string_39 : decode cX10_string 39 = .ok (.iload_n 2, 1) := by decide +kernel
theorem dX10_string_40 : decode cX10_string 40 = .ok (.iastore, 1) := by decide +kernel
theorem dX10_string_41 : decode cX10_string 41 = .ok (.iload_n 3, 1) := by decide +kernel
theorem dX10_string_42 : decode cX10_string 42 = .ok (.ireturn, 1) := by decide +kernel
theorem dX10_ceiling_0 : decode cX10_ceiling 0 = .ok (.iload_n 1, 1) := by decide +kernel
theorem dX10_ceiling_1 : decode cX10_ceiling 1 = .ok (.invokestatic 201, 3) := by decide +kernel
theorem dX10_ceiling_4 : decode cX10_ceiling 4 = .ok (.ifCond .eq 13, 3) := by decide +kernel
theorem dX10_ceiling_7 : decode cX10_ceiling 7 = .ok (.iload_n 2, 1) := by decide +kernel
theorem dX10_ceiling_8 : decode cX10_ceiling 8 = .ok (.iconst 0, 1) := by decide +kernel
theorem dX10_ceiling_9 : decode cX10_ceiling 9 = .ok (.ldc 70, 2) := by decide +kernel
theorem dX10_ceiling_11 : decode cX10_ceiling 11 = .ok (.invokestatic 75, 3) := by decide +kernel
theorem dX10_ceiling_14 : decode cX10_ceiling 14 = .ok (.ifCond .ne 10, 3) := by decide +kernel
theorem dX10_ceiling_17 : decode cX10_ceiling 17 = .ok (.aload_n 0, 1) := by decide +kernel
theorem dX10_ceiling_18 : decode cX10_ceiling 18 = .ok (.ldc 119, 2) := by decide +kernel
theorem dX10_ceiling_20 : decode cX10_ceiling 20 = .ok (.invokevirtual 120, 3) := by decide +kernel
theorem dX10_ceiling_23 : decode cX10_ceiling 23 = .ok (.ireturn, 1) := by decide +kernel
theorem dX10_ceiling_24 : decode cX10_ceiling 24 = .ok (.aload_n 0, 1) := by decide +kernel
theorem dX10_ceiling_25 : decode cX10_ceiling 25 = .ok (.getfield 44, 3) := by decide +kernel
theorem dX10_ceiling_28 : decode cX10_ceiling 28 = .ok (.iload_n 1, 1) := by decide +kernel
theorem dX10_ceiling_29 : decode cX10_ceiling 29 = .ok (.iaload, 1) := by decide +kernel
theorem dX10_ceiling_30 : decode cX10_ceiling 30 = .ok (.istore_n 3, 1) := by decide +kernel
theorem dX10_ceiling_31 : decode cX10_ceiling 31 = .ok (.aload_n 0, 1) := by decide +kernel
theorem dX10_ceiling_32 : decode cX10_ceiling 32 = .ok (.getfield 44, 3) := by decide +kernel
theorem dX10_ceiling_35 : decode cX10_ceiling 35 = .ok (.iload_n 1, 1) := by decide +kernel
theorem dX10_ceiling_36 : decode cX10_ceiling 36 = .ok (.iload_n 2, 1) := by decide +kernel
theorem dX10_ceiling_37 : decode cX10_ceiling 37 = .ok (.iastore, 1) := by decide +kernel
theorem dX10_ceiling_38 : decode cX10_ceiling 38 = .ok (.iload_n 3, 1) := by decide +kernel
theorem dX10_ceiling_39 : decode cX10_ceiling 39 = .ok (.ireturn, 1) := by decide +kernel
theorem dX10_clean_0 : decode cX10_clean 0 = .ok (.aload_n 0, 1) := by decide +kernel
theorem dX10_clean_1 : decode cX10_clean 1 = .ok (.iload_n 1, 1) := by decide +kernel
theorem dX10_clean_2 : decode cX10_clean 2 = .ok (.iload_n 2, 1) := by decide +kernel
theorem dX10_clean_3 : decode cX10_clean 3 = .ok (.invokevirtual 171, 3) := by decide +kernel
theorem dX10_clean_6 : decode cX10_clean 6 = .ok (.lstore_n 3, 1) := by decide +kernel
theorem dX10_clean_7 : decode cX10_clean 7 = .ok (.lload_n 3, 1) := by decide +kernel
theorem dX10_clean_8 : decode cX10_clean 8 = .ok (.lconst 0, 1) := by decide +kernel
theorem dX10_clean_9 : decode cX10_clean 9 = .ok (.lcmp, 1) := by decide +kernel
theorem dX10_clean_10 : decode cX10_clean 10 = .ok (.ifCond .gt 5, 3) := by decide +kernel
theorem dX10_clean_13 : decode cX10_clean 13 = .ok (.lconst 0, 1) := by decide +kernel
theorem dX10_clean_14 : decode cX10_clean 14 = .ok (.lreturn, 1) := by decide +kernel
theorem dX10_clean_15 : decode cX10_clean 15 = .ok (.aload_n 0, 1) := by decide +kernel
theorem dX10_clean_16 : decode cX10_clean 16 = .ok (.iload_n 1, 1) := by decide +kernel
theorem dX10_clean_17 : decode cX10_clean 17 = .ok (.iload_n 2, 1) := by decide +kernel
theorem dX10_clean_18 : decode cX10_clean 18 = .ok (.invokevirtual 198, 3) := by decide +kernel
theorem dX10_clean_21 : decode cX10_clean 21 = .ok (.istore 5, 2) := by decide +kernel
theorem dX10_clean_23 : decode cX10_clean 23 = .ok (.iconst 3, 1) := by decide +kernel
theorem dX10_clean_24 : decode cX10_clean 24 = .ok (.iload 5, 2) := by decide +kernel
theorem dX10_clean_26 : decode cX10_clean 26 = .ok (.iconst 1, 1) := by decide +kernel
theorem dX10_clean_27 : decode cX10_clean 27 = .ok (.iand, 1) := by decide +kernel
theorem dX10_clean_28 : decode cX10_clean 28 = .ok (.isub, 1) := by decide +kernel
theorem dX10_clean_29 : decode cX10_clean 29 = .ok (.iload 5, 2) := by decide +kernel
theorem dX10_clean_31 : decode cX10_clean 31 = .ok (.iconst 1, 1) := by decide +kernel
theorem dX10_clean_32 : decode cX10_clean 32 = .ok (.ishr, 1) := by decide +kernel
theorem dX10_clean_33 : decode cX10_clean 33 = .ok (.iconst 1, 1) := by decide +kernel
theorem dX10_clean_34 : decode cX10_clean 34 = .ok (.iand, 1) := by decide +kernel
theorem dX10_clean_35 : decode cX10_clean 35 = .ok (.isub, 1) := by decide +kernel
theorem dX10_clean_36 : decode cX10_clean 36 = .ok (.iload 5, 2) := by decide +kernel
theorem dX10_clean_38 : decode cX10_clean 38 = .ok (.iconst 2, 1) := by decide +kernel
theorem dX10_clean_39 : decode cX10_clean 39 = .ok (.ishr, 1) := by decide +kernel
