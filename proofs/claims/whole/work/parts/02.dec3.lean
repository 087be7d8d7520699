theorem dX10_clean_40 : decode cX10_clean 40 = .ok (.iconst 1, 1) := by decide +kernel
theorem dX10_clean_41 : decode cX10_clean 41 = .ok (.iand, 1) := by decide +kernel
theorem dX10_clean_42 : decode cX10_clean 42 = .ok (.isub, 1) := by decide +kernel
theorem dX10_clean_43 : decode cX10_clean 43 = .ok (.istore 6, 2) := by decide +kernel
theorem dX10_clean_45 : decode cX10_clean 45 = .ok (.iload 6, 2) := by decide +kernel
theorem dX10_clean_47 : decode cX10_clean 47 = .ok (.i2l, 1) := by decide +kernel
theorem dX10_clean_48 : decode cX10_clean 48 = .ok (.lload_n 3, 1) := by decide +kernel
theorem dX10_clean_49 : decode cX10_clean 49 = .ok (.lmul, 1) := by decide +kernel
theorem dX10_clean_50 : decode cX10_clean 50 = .ok (.ldc2_w 204, 3) := by decide +kernel
theorem dX10_clean_53 : decode cX10_clean 53 = .ok (.ldiv, 1) := by decide +kernel
theorem dX10_clean_54 : decode cX10_clean 54 = .ok (.lreturn, 1) := by decide +kernel
theorem dX10_dusted_0 : decode cX10_dusted 0 = .ok (.aload_n 0, 1) := by decide +kernel
theorem dX10_dusted_1 : decode cX10_dusted 1 = .ok (.iload_n 1, 1) := by decide +kernel
theorem dX10_dusted_2 : decode cX10_dusted 2 = .ok (.iload_n 2, 1) := by decide +kernel
theorem dX10_dusted_3 : decode cX10_dusted 3 = .ok (.invokevirtual 206, 3) := by decide +kernel
theorem dX10_dusted_6 : decode cX10_dusted 6 = .ok (.aload_n 0, 1) := by decide +kernel
theorem dX10_dusted_7 : decode cX10_dusted 7 = .ok (.getfield 22, 3) := by decide +kernel
theorem dX10_dusted_10 : decode cX10_dusted 10 = .ok (.iload_n 1, 1) := by decide +kernel
theorem dX10_dusted_11 : decode cX10_dusted 11 = .ok (.iaload, 1) := by decide +kernel
theorem dX10_dusted_12 : decode cX10_dusted 12 = .ok (.i2l, 1) := by decide +kernel
theorem dX10_dusted_13 : decode cX10_dusted 13 = .ok (.lmul, 1) := by decide +kernel
theorem dX10_dusted_14 : decode cX10_dusted 14 = .ok (.ldc2_w 209, 3) := by decide +kernel
theorem dX10_dusted_17 : decode cX10_dusted 17 = .ok (.ldiv, 1) := by decide +kernel
theorem dX10_dusted_18 : decode cX10_dusted 18 = .ok (.lreturn, 1) := by decide +kernel
theorem dX10_currentOf_0 : decode cX10_currentOf 0 = .ok (.aload_n 0, 1) := by decide +kernel
theorem dX10_currentOf_1 : decode cX10_currentOf 1 = .ok (.iload_n 1, 1) := by decide +kernel
theorem dX10_currentOf_2 : decode cX10_currentOf 2 = .ok (.iload_n 2, 1) := by decide +kernel
theorem dX10_currentOf_3 : decode cX10_currentOf 3 = .ok (.invokevirtual 206, 3) := by decide +kernel
theorem dX10_currentOf_6 : decode cX10_currentOf 6 = .ok (.aload_n 0, 1) := by decide +kernel
theorem dX10_currentOf_7 : decode cX10_currentOf 7 = .ok (.iload_n 1, 1) := by decide +kernel
theorem dX10_currentOf_8 : decode cX10_currentOf 8 = .ok (.iload_n 2, 1) := by decide +kernel
theorem dX10_currentOf_9 : decode cX10_currentOf 9 = .ok (.invokevirtual 211, 3) := by decide +kernel
theorem dX10_currentOf_12 : decode cX10_currentOf 12 = .ok (.lsub, 1) := by decide +kernel
theorem dX10_currentOf_13 : decode cX10_currentOf 13 = .ok (.lreturn, 1) := by decide +kernel
theorem dX10_givesOf_0 : decode cX10_givesOf 0 = .ok (.iconst 0, 1) := by decide +kernel
theorem dX10_givesOf_1 : decode cX10_givesOf 1 = .ok (.istore_n 3, 1) := by decide +kernel
theorem dX10_givesOf_2 : decode cX10_givesOf 2 = .ok (.iload_n 3, 1) := by decide +kernel
theorem dX10_givesOf_3 : decode cX10_givesOf 3 = .ok (.aload_n 0, 1) := by decide +kernel
theorem dX10_givesOf_4 : decode cX10_givesOf 4 = .ok (.getfield 72, 3) := by decide +kernel
theorem dX10_givesOf_7 : decode cX10_givesOf 7 = .ok (.if_icmp .ge 37, 3) := by decide +kernel
theorem dX10_givesOf_10 : decode cX10_givesOf 10 = .ok (.aload_n 0, 1) := by decide +kernel
theorem dX10_givesOf_11 : decode cX10_givesOf 11 = .ok (.getfield 67, 3) := by decide +kernel
theorem dX10_givesOf_14 : decode cX10_givesOf 14 = .ok (.iload_n 3, 1) := by decide +kernel
theorem dX10_givesOf_15 : decode cX10_givesOf 15 = .ok (.aload_n 0, 1) := by decide +kernel
theorem dX10_givesOf_16 : decode cX10_givesOf 16 = .ok (.getfield 28, 3) := by decide +kernel
theorem dX10_givesOf_19 : decode cX10_givesOf 19 = .ok (.iload_n 3, 1) := by decide +kernel
theorem dX10_givesOf_20 : decode cX10_givesOf 20 = .ok (.iaload, 1) := by decide +kernel
theorem dX10_givesOf_21 : decode cX10_givesOf 21 = .ok (.iload_n 1, 1) := by decide +kernel
theorem dX10_givesOf_22 : decode cX10_givesOf 22 = .ok (.if_icmp .ne 12, 3) := by decide +kernel
theorem dX10_givesOf_25 : decode cX10_givesOf 25 = .ok (.aload_n 0, 1) := by decide +kernel
theorem dX10_givesOf_26 : decode cX10_givesOf 26 = .ok (.iload_n 3, 1) := by decide +kernel
theorem dX10_givesOf_27 : decode cX10_givesOf 27 = .ok (.iload_n 2, 1) := by decide +kernel
theorem dX10_givesOf_28 : decode cX10_givesOf 28 = .ok (.invokevirtual 214, 3) := by decide +kernel
theorem dX10_givesOf_31 : decode cX10_givesOf 31 = .ok (.goto 6, 3) := by decide +kernel
theorem dX10_givesOf_34 : decode cX10_givesOf 34 = .ok (.ldc2_w 147, 3) := by decide +kernel
theorem dX10_givesOf_37 : decode cX10_givesOf 37 = .ok (.lastore, 1) := by decide +kernel
theorem dX10_givesOf_38 : decode cX10_givesOf 38 = .ok (.iinc 3 1, 3) := by decide +kernel
theorem dX10_givesOf_41 : decode cX10_givesOf 41 = .ok (.goto (-39), 3) := by decide +kernel
theorem dX10_givesOf_44 : decode cX10_givesOf 44 = .ok (.lconst 0, 1) := by decide +kernel
theorem dX10_givesOf_45 : decode cX10_givesOf 45 = .ok (.lstore_n 3, 1) := by decide +kernel
theorem dX10_givesOf_46 : decode cX10_givesOf 46 = .ok (.iconst 0, 1) := by decide +kernel
theorem dX10_givesOf_47 : decode cX10_givesOf 47 = .ok (.istore 5, 2) := by decide +kernel
theorem dX10_givesOf_49 : decode cX10_givesOf 49 = .ok (.iload 5, 2) := by decide +kernel
theorem dX10_givesOf_51 : decode cX10_givesOf 51 = .ok (.aload_n 0, 1) := by decide +kernel
theorem dX10_givesOf_52 : decode cX10_givesOf 52 = .ok (.getfield 72, 3) := by decide +kernel
theorem dX10_givesOf_55 : decode cX10_givesOf 55 = .ok (.if_icmp .ge 102, 3) := by decide +kernel
theorem dX10_givesOf_58 : decode cX10_givesOf 58 = .ok (.iconst 0, 1) := by decide +kernel
theorem dX10_givesOf_59 : decode cX10_givesOf 59 = .ok (.istore 6, 2) := by decide +kernel
theorem dX10_givesOf_61 : decode cX10_givesOf 61 = .ok (.iconst 0, 1) := by decide +kernel
theorem dX10_givesOf_62 : decode cX10_givesOf 62 = .ok (.istore 7, 2) := by decide +kernel
theorem dX10_givesOf_64 : decode cX10_givesOf 64 = .ok (.iload 7, 2) := by decide +kernel
theorem dX10_givesOf_66 : decode cX10_givesOf 66 = .ok (.aload_n 0, 1) := by decide +kernel
theorem dX10_givesOf_67 : decode cX10_givesOf 67 = .ok (.getfield 72, 3) := by decide +kernel
theorem dX10_givesOf_70 : decode cX10_givesOf 70 = .ok (.if_icmp .ge 49, 3) := by decide +kernel
theorem dX10_givesOf_73 : decode cX10_givesOf 73 = .ok (.iload 6, 2) := by decide +kernel
theorem dX10_givesOf_75 : decode cX10_givesOf 75 = .ok (.aload_n 0, 1) := by decide +kernel
theorem dX10_givesOf_76 : decode cX10_givesOf 76 = .ok (.getfield 67, 3) := by decide +kernel
theorem dX10_givesOf_79 : decode cX10_givesOf 79 = .ok (.iload 5, 2) := by decide +kernel
theorem dX10_givesOf_81 : decode cX10_givesOf 81 = .ok (.laload, 1) := by decide +kernel
theorem dX10_givesOf_82 : decode cX10_givesOf 82 = .ok (.lconst 0, 1) := by decide +kernel
theorem dX10_givesOf_83 : decode cX10_givesOf 83 = .ok (.lcmp, 1) := by decide +kernel
theorem dX10_givesOf_84 : decode cX10_givesOf 84 = .ok (.ifCond .lt 25, 3) := by decide +kernel
theorem dX10_givesOf_87 : decode cX10_givesOf 87 = .ok (.aload_n 0, 1) := by decide +kernel
theorem dX10_givesOf_88 : decode cX10_givesOf 88 = .ok (.getfield 67, 3) := by decide +kernel
theorem dX10_givesOf_91 : decode cX10_givesOf 91 = .ok (.iload 7, 2) := by decide +kernel
theorem dX10_givesOf_93 : decode cX10_givesOf 93 = .ok (.laload, 1) := by decide +kernel
theorem dX10_givesOf_94 : decode cX10_givesOf 94 = .ok (.aload_n 0, 1) := by decide +kernel
theorem dX10_givesOf_95 : decode cX10_givesOf 95 = .ok (.getfield 67, 3) := by decide +kernel
theorem dX10_givesOf_98 : decode cX10_givesOf 98 = .ok (.iload 5, 2) := by decide +kernel
theorem dX10_givesOf_100 : decode cX10_givesOf 100 = .ok (.laload, 1) := by decide +kernel
theorem dX10_givesOf_101 : decode cX10_givesOf 101 = .ok (.lcmp, 1) := by decide +kernel
theorem dX10_givesOf_102 : decode cX10_givesOf 102 = .ok (.ifCond .lt 7, 3) := by decide +kernel
theorem dX10_givesOf_105 : decode cX10_givesOf 105 = .ok (.iconst 1, 1) := by decide +kernel
theorem dX10_givesOf_106 : decode cX10_givesOf 106 = .ok (.goto 4, 3) := by decide +kernel
theorem dX10_givesOf_109 : decode cX10_givesOf 109 = .ok (.iconst 0, 1) := by decide +kernel
theorem dX10_givesOf_110 : decode cX10_givesOf 110 = .ok (.iadd, 1) := by decide +kernel
theorem dX10_givesOf_111 : decode cX10_givesOf 111 = .ok (.istore 6, 2) := by decide +kernel
theorem dX10_givesOf_113 : decode cX10_givesOf 113 = .ok (.iinc 7 1, 3) := by decide +kernel
theorem dX10_givesOf_116 : decode cX10_givesOf 116 = .ok (.goto (-52), 3) := by decide +kernel
theorem dX10_givesOf_119 : decode cX10_givesOf 119 = .ok (.iload 6, 2) := by decide +kernel
theorem dX10_givesOf_121 : decode cX10_givesOf 121 = .ok (.i2l, 1) := by decide +kernel
theorem dX10_givesOf_122 : decode cX10_givesOf 122 = .ok (.aload_n 0, 1) := by decide +kernel
theorem dX10_givesOf_123 : decode cX10_givesOf 123 = .ok (.getfield 67, 3) := by decide +kernel
theorem dX10_givesOf_126 : decode cX10_givesOf 126 = .ok (.iload 5, 2) := by decide +kernel
theorem dX10_givesOf_128 : decode cX10_givesOf 128 = .ok (.laload, 1) := by decide +kernel
theorem dX10_givesOf_129 : decode cX10_givesOf 129 = .ok (.lmul, 1) := by decide +kernel
theorem dX10_givesOf_130 : decode cX10_givesOf 130 = .ok (.lload_n 3, 1) := by decide +kernel
theorem dX10_givesOf_131 : decode cX10_givesOf 131 = .ok (.lcmp, 1) := by decide +kernel
theorem dX10_givesOf_132 : decode cX10_givesOf 132 = .ok (.ifCond .le 17, 3) := by decide +kernel
theorem dX10_givesOf_135 : decode cX10_givesOf 135 = .ok (.iload 6, 2) := by decide +kernel
theorem dX10_givesOf_137 : decode cX10_givesOf 137 = .ok (.i2l, 1) := by decide +kernel
theorem dX10_givesOf_138 : decode cX10_givesOf 138 = .ok (.aload_n 0, 1) := by decide +kernel
theorem dX10_givesOf_139 : decode cX10_givesOf 139 = .ok (.getfield 67, 3) := by decide +kernel
theorem dX10_givesOf_142 : decode cX10_givesOf 142 = .ok (.iload 5, 2) := by decide +kernel
theorem dX10_givesOf_144 : decode cX10_givesOf 144 = .ok (.laload, 1) := by decide +kernel
theorem dX10_givesOf_145 : decode cX10_givesOf 145 = .ok (.lmul, 1) := by decide +kernel
theorem dX10_givesOf_146 : decode cX10_givesOf 146 = .ok (.goto 4, 3) := by decide +kernel
theorem dX10_givesOf_149 : decode cX10_givesOf 149 = .ok (.lload_n 3, 1) := by decide +kernel
theorem dX10_givesOf_150 : decode cX10_givesOf 150 = .ok (.lstore_n 3, 1) := by decide +kernel
theorem dX10_givesOf_151 : decode cX10_givesOf 151 = .ok (.iinc 5 1, 3) := by decide +kernel
theorem dX10_givesOf_154 : decode cX10_givesOf 154 = .ok (.goto (-105), 3) := by decide +kernel
theorem dX10_givesOf_157 : decode cX10_givesOf 157 = .ok (.lload_n 3, 1) := by decide +kernel
theorem dX10_givesOf_158 : decode cX10_givesOf 158 = .ok (.lreturn, 1) := by decide +kernel
theorem dX10_current_0 : decode cX10_current 0 = .ok (.aload_n 0, 1) := by decide +kernel
theorem dX10_current_1 : decode cX10_current 1 = .ok (.iload_n 1, 1) := by decide +kernel
theorem dX10_current_2 : decode cX10_current 2 = .ok (.iload_n 2, 1) := by decide +kernel
theorem dX10_current_3 : decode cX10_current 3 = .ok (.invokevirtual 191, 3) := by decide +kernel
theorem dX10_current_6 : decode cX10_current 6 = .ok (.istore_n 3, 1) := by decide +kernel
theorem dX10_current_7 : decode cX10_current 7 = .ok (.iload_n 3, 1) := by decide +kernel
theorem dX10_current_8 : decode cX10_current 8 = .ok (.ifCond .ge 11, 3) := by decide +kernel
theorem dX10_current_11 : decode cX10_current 11 = .ok (.aload_n 0, 1) := by decide +kernel
theorem dX10_current_12 : decode cX10_current 12 = .ok (.iload_n 3, 1) := by decide +kernel
theorem dX10_current_13 : decode cX10_current 13 = .ok (.invokevirtual 120, 3) := by decide +kernel
theorem dX10_current_16 : decode cX10_current 16 = .ok (.goto 10, 3) := by decide +kernel
theorem dX10_current_19 : decode cX10_current 19 = .ok (.aload_n 0, 1) := by decide +kernel
theorem dX10_current_20 : decode cX10_current 20 = .ok (.iload_n 1, 1) := by decide +kernel
theorem dX10_current_21 : decode cX10_current 21 = .ok (.iload_n 2, 1) := by decide +kernel
theorem dX10_current_22 : decode cX10_current 22 = .ok (.invokevirtual 214, 3) := by decide +kernel
theorem dX10_current_25 : decode cX10_current 25 = .ok (.l2i, 1) := by decide +kernel
theorem dX10_current_26 : decode cX10_current 26 = .ok (.ireturn, 1) := by decide +kernel
theorem dX10_gives_0 : decode cX10_gives 0 = .ok (.iload_n 1, 1) := by decide +kernel
theorem dX10_gives_1 : decode cX10_gives 1 = .ok (.invokestatic 201, 3) := by decide +kernel
theorem dX10_gives_4 : decode cX10_gives 4 = .ok (.ifCond .eq 10, 3) := by decide +kernel
theorem dX10_gives_7 : decode cX10_gives 7 = .ok (.iload_n 2, 1) := by decide +kernel
theorem dX10_gives_8 : decode cX10_gives 8 = .ok (.invokestatic 131, 3) := by decide +kernel
theorem dX10_gives_11 : decode cX10_gives 11 = .ok (.ifCond .ne 10, 3) := by decide +kernel
theorem dX10_gives_14 : decode cX10_gives 14 = .ok (.aload_n 0, 1) := by decide +kernel
theorem dX10_gives_15 : decode cX10_gives 15 = .ok (.ldc 119, 2) := by decide +kernel
theorem dX10_gives_17 : decode cX10_gives 17 = .ok (.invokevirtual 120, 3) := by decide +kernel
theorem dX10_gives_20 : decode cX10_gives 20 = .ok (.ireturn, 1) := by decide +kernel
theorem dX10_gives_21 : decode cX10_gives 21 = .ok (.aload_n 0, 1) := by decide +kernel
theorem dX10_gives_22 : decode cX10_gives 22 = .ok (.iload_n 2, 1) := by decide +kernel
theorem dX10_gives_23 : decode cX10_gives 23 = .ok (.invokevirtual 185, 3) := by decide +kernel
theorem dX10_gives_26 : decode cX10_gives 26 = .ok (.ifCond .eq 12, 3) := by decide +kernel
theorem dX10_gives_29 : decode cX10_gives 29 = .ok (.aload_n 0, 1) := by decide +kernel
theorem dX10_gives_30 : decode cX10_gives 30 = .ok (.ldc 126, 2) := by decide +kernel
theorem dX10_gives_32 : decode cX10_gives 32 = .ok (.invokevirtual 120, 3) := by decide +kernel
theorem dX10_gives_35 : decode cX10_gives 35 = .ok (.goto 10, 3) := by decide +kernel
theorem dX10_gives_38 : decode cX10_gives 38 = .ok (.aload_n 0, 1) := by decide +kernel
theorem dX10_gives_39 : decode cX10_gives 39 = .ok (.iload_n 1, 1) := by decide +kernel
theorem dX10_gives_40 : decode cX10_gives 40 = .ok (.iload_n 2, 1) := by decide +kernel
theorem dX10_gives_41 : decode cX10_gives 41 = .ok (.invokevirtual 217, 3) := by decide +kernel
theorem dX10_gives_44 : decode cX10_gives 44 = .ok (.l2i, 1) := by decide +kernel
theorem dX10_gives_45 : decode cX10_gives 45 = .ok (.ireturn, 1) := by decide +kernel
theorem dX10_wind_0 : decode cX10_wind 0 = .ok (.iload_n 1, 1) := by decide +kernel
theorem dX10_wind_1 : decode cX10_wind 1 = .ok (.invokestatic 131, 3) := by decide +kernel
theorem dX10_wind_4 : decode cX10_wind 4 = .ok (.ifCond .eq 14, 3) := by decide +kernel
theorem dX10_wind_7 : decode cX10_wind 7 = .ok (.iload_n 2, 1) := by decide +kernel
theorem dX10_wind_8 : decode cX10_wind 8 = .ok (.iconst (-1), 1) := by decide +kernel
theorem dX10_wind_9 : decode cX10_wind 9 = .ok (.sipush 200, 3) := by decide +kernel
theorem dX10_wind_12 : decode cX10_wind 12 = .ok (.invokestatic 75, 3) := by decide +kernel
theorem dX10_wind_15 : decode cX10_wind 15 = .ok (.ifCond .ne 10, 3) := by decide +kernel
theorem dX10_wind_18 : decode cX10_wind 18 = .ok (.aload_n 0, 1) := by decide +kernel
theorem dX10_wind_19 : decode cX10_wind 19 = .ok (.ldc 119, 2) := by decide +kernel
theorem dX10_wind_21 : decode cX10_wind 21 = .ok (.invokevirtual 120, 3) := by decide +kernel
theorem dX10_wind_24 : decode cX10_wind 24 = .ok (.ireturn, 1) := by decide +kernel
theorem dX10_wind_25 : decode cX10_wind 25 = .ok (.aload_n 0, 1) := by decide +kernel
theorem dX10_wind_26 : decode cX10_wind 26 = .ok (.getfield 37, 3) := by decide +kernel
theorem dX10_wind_29 : decode cX10_wind 29 = .ok (.iload_n 1, 1) := by decide +kernel
theorem dX10_wind_30 : decode cX10_wind 30 = .ok (.iload_n 2, 1) := by decide +kernel
theorem dX10_wind_31 : decode cX10_wind 31 = .ok (.iastore, 1) := by decide +kernel
theorem dX10_wind_32 : decode cX10_wind 32 = .ok (.iload_n 2, 1) := by decide +kernel
theorem dX10_wind_33 : decode cX10_wind 33 = .ok (.iconst (-1), 1) := by decide +kernel
theorem dX10_wind_34 : decode cX10_wind 34 = .ok (.if_icmp .ne 7, 3) := by decide +kernel
theorem dX10_wind_37 : decode cX10_wind 37 = .ok (.iconst 0, 1) := by decide +kernel
theorem dX10_wind_38 : decode cX10_wind 38 = .ok (.goto 4, 3) := by decide +kernel
theorem dX10_wind_41 : decode cX10_wind 41 = .ok (.iconst 1, 1) := by decide +kernel
theorem dX10_wind_42 : decode cX10_wind 42 = .ok (.ireturn, 1) := by decide +kernel
theorem dX10_limit_0 : decode cX10_limit 0 = .ok (.iload_n 1, 1) := by decide +kernel
theorem dX10_limit_1 : decode cX10_limit 1 = .ok (.iconst 1, 1) := by decide +kernel
theorem dX10_limit_2 : decode cX10_limit 2 = .ok (.sipush 200, 3) := by decide +kernel
theorem dX10_limit_5 : decode cX10_limit 5 = .ok (.invokestatic 75, 3) := by decide +kernel
theorem dX10_limit_8 : decode cX10_limit 8 = .ok (.ifCond .ne 10, 3) := by decide +kernel
theorem dX10_limit_11 : decode cX10_limit 11 = .ok (.aload_n 0, 1) := by decide +kernel
theorem dX10_limit_12 : decode cX10_limit 12 = .ok (.ldc 119, 2) := by decide +kernel
theorem dX10_limit_14 : decode cX10_limit 14 = .ok (.invokevirtual 120, 3) := by decide +kernel
theorem dX10_limit_17 : decode cX10_limit 17 = .ok (.ireturn, 1) := by decide +kernel
theorem dX10_limit_18 : decode cX10_limit 18 = .ok (.aload_n 0, 1) := by decide +kernel
theorem dX10_limit_19 : decode cX10_limit 19 = .ok (.getfield 47, 3) := by decide +kernel
theorem dX10_limit_22 : decode cX10_limit 22 = .ok (.istore_n 2, 1) := by decide +kernel
theorem dX10_limit_23 : decode cX10_limit 23 = .ok (.aload_n 0, 1) := by decide +kernel
theorem dX10_limit_24 : decode cX10_limit 24 = .ok (.iload_n 1, 1) := by decide +kernel
theorem dX10_limit_25 : decode cX10_limit 25 = .ok (.putfield 47, 3) := by decide +kernel
theorem dX10_limit_28 : decode cX10_limit 28 = .ok (.iload_n 2, 1) := by decide +kernel
theorem dX10_limit_29 : decode cX10_limit 29 = .ok (.ireturn, 1) := by decide +kernel
theorem dX10_cleaning_0 : decode cX10_cleaning 0 = .ok (.iload_n 1, 1) := by decide +kernel
theorem dX10_cleaning_1 : decode cX10_cleaning 1 = .ok (.invokestatic 131, 3) := by decide +kernel
theorem dX10_cleaning_4 : decode cX10_cleaning 4 = .ok (.ifCond .ne 10, 3) := by decide +kernel
theorem dX10_cleaning_7 : decode cX10_cleaning 7 = .ok (.aload_n 0, 1) := by decide +kernel
theorem dX10_cleaning_8 : decode cX10_cleaning 8 = .ok (.ldc 119, 2) := by decide +kernel
theorem dX10_cleaning_10 : decode cX10_cleaning 10 = .ok (.invokevirtual 120, 3) := by decide +kernel
theorem dX10_cleaning_13 : decode cX10_cleaning 13 = .ok (.ireturn, 1) := by decide +kernel
theorem dX10_cleaning_14 : decode cX10_cleaning 14 = .ok (.aload_n 0, 1) := by decide +kernel
theorem dX10_cleaning_15 : decode cX10_cleaning 15 = .ok (.getfield 40, 3) := by decide +kernel
theorem dX10_cleaning_18 : decode cX10_cleaning 18 = .ok (.iload_n 1, 1) := by decide +kernel
theorem dX10_cleaning_19 : decode cX10_cleaning 19 = .ok (.baload, 1) := by decide +kernel
theorem dX10_cleaning_20 : decode cX10_cleaning 20 = .ok (.istore_n 3, 1) := by decide +kernel
theorem dX10_cleaning_21 : decode cX10_cleaning 21 = .ok (.aload_n 0, 1) := by decide +kernel
theorem dX10_cleaning_22 : decode cX10_cleaning 22 = .ok (.getfield 40, 3) := by decide +kernel
theorem dX10_cleaning_25 : decode cX10_cleaning 25 = .ok (.iload_n 1, 1) := by decide +kernel
theorem dX10_cleaning_26 : decode cX10_cleaning 26 = .ok (.iload_n 2, 1) := by decide +kernel
theorem dX10_cleaning_27 : decode cX10_cleaning 27 = .ok (.bastore, 1) := by decide +kernel
theorem dX10_cleaning_28 : decode cX10_cleaning 28 = .ok (.iload_n 3, 1) := by decide +kernel
theorem dX10_cleaning_29 : decode cX10_cleaning 29 = .ok (.iload_n 2, 1) := by decide +kernel
theorem dX10_cleaning_30 : decode cX10_cleaning 30 = .ok (.if_icmp .ne 7, 3) := by decide +kernel
theorem dX10_cleaning_33 : decode cX10_cleaning 33 = .ok (.iconst 0, 1) := by decide +kernel
theorem dX10_cleaning_34 : decode cX10_cleaning 34 = .ok (.goto 4, 3) := by decide +kernel
theorem dX10_cleaning_37 : decode cX10_cleaning 37 = .ok (.iconst 1, 1) := by decide +kernel
theorem dX10_cleaning_38 : decode cX10_cleaning 38 = .ok (.ireturn, 1) := by decide +kernel
theorem dX10_findState_0 : decode cX10_findState 0 = .ok (.aload_n 0, 1) := by decide +kernel
theorem dX10_findState_1 : decode cX10_findState 1 = .ok (.getfield 37, 3) := by decide +kernel
theorem dX10_findState_4 : decode cX10_findState 4 = .ok (.iload_n 1, 1) := by decide +kernel
theorem dX10_findState_5 : decode cX10_findState 5 = .ok (.iaload, 1) := by decide +kernel
theorem dX10_findState_6 : decode cX10_findState 6 = .ok (.istore_n 2, 1) := by decide +kernel
theorem dX10_findState_7 : decode cX10_findState 7 = .ok (.aload_n 0, 1) := by decide +kernel
theorem dX10_findState_8 : decode cX10_findState 8 = .ok (.iload_n 2, 1) := by decide +kernel
theorem dX10_findState_9 : decode cX10_findState 9 = .ok (.iconst (-1), 1) := by decide +kernel
theorem dX10_findState_10 : decode cX10_findState 10 = .ok (.if_icmp .ne 12, 3) := by decide +kernel
theorem dX10_findState_13 : decode cX10_findState 13 = .ok (.aload_n 0, 1) := by decide +kernel
theorem dX10_findState_14 : decode cX10_findState 14 = .ok (.getfield 220, 3) := by decide +kernel
theorem dX10_findState_17 : decode cX10_findState 17 = .ok (.iconst 1, 1) := by decide +kernel
theorem dX10_findState_18 : decode cX10_findState 18 = .ok (.iadd, 1) := by decide +kernel
theorem dX10_findState_19 : decode cX10_findState 19 = .ok (.goto 4, 3) := by decide +kernel
theorem dX10_findState_22 : decode cX10_findState 22 = .ok (.iconst 0, 1) := by decide +kernel
theorem dX10_findState_23 : decode cX10_findState 23 = .ok (.putfield 220, 3) := by decide +kernel
theorem dX10_findState_26 : decode cX10_findState 26 = .ok (.aload_n 0, 1) := by decide +kernel
theorem dX10_findState_27 : decode cX10_findState 27 = .ok (.getfield 223, 3) := by decide +kernel
theorem dX10_findState_30 : decode cX10_findState 30 = .ok (.iconst 2, 1) := by decide +kernel
theorem dX10_findState_31 : decode cX10_findState 31 = .ok (.if_icmp .ne 7, 3) := by decide +kernel
theorem dX10_findState_34 : decode cX10_findState 34 = .ok (.iconst 1, 1) := by decide +kernel
theorem dX10_findState_35 : decode cX10_findState 35 = .ok (.goto 4, 3) := by decide +kernel
theorem dX10_findState_38 : decode cX10_findState 38 = .ok (.iconst 0, 1) := by decide +kernel
theorem dX10_findState_39 : decode cX10_findState 39 = .ok (.istore_n 3, 1) := by decide +kernel
theorem dX10_findState_40 : decode cX10_findState 40 = .ok (.iload_n 2, 1) := by decide +kernel
theorem dX10_findState_41 : decode cX10_findState 41 = .ok (.aload_n 0, 1) := by decide +kernel
theorem dX10_findState_42 : decode cX10_findState 42 = .ok (.getfield 47, 3) := by decide +kernel
theorem dX10_findState_45 : decode cX10_findState 45 = .ok (.if_icmp .ge 11, 3) := by decide +kernel
theorem dX10_findState_48 : decode cX10_findState 48 = .ok (.aload_n 0, 1) := by decide +kernel
theorem dX10_findState_49 : decode cX10_findState 49 = .ok (.getfield 220, 3) := by decide +kernel
theorem dX10_findState_52 : decode cX10_findState 52 = .ok (.iconst 3, 1) := by decide +kernel
theorem dX10_findState_53 : decode cX10_findState 53 = .ok (.if_icmp .lt 8, 3) := by decide +kernel
theorem dX10_findState_56 : decode cX10_findState 56 = .ok (.iconst 1, 1) := by decide +kernel
theorem dX10_findState_57 : decode cX10_findState 57 = .ok (.istore_n 3, 1) := by decide +kernel
theorem dX10_findState_58 : decode cX10_findState 58 = .ok (.goto 20, 3) := by decide +kernel
theorem dX10_findState_61 : decode cX10_findState 61 = .ok (.iload_n 2, 1) := by decide +kernel
theorem dX10_findState_62 : decode cX10_findState 62 = .ok (.iconst (-1), 1) := by decide +kernel
theorem dX10_findState_63 : decode cX10_findState 63 = .ok (.if_icmp .eq 15, 3) := by decide +kernel
theorem dX10_findState_66 : decode cX10_findState 66 = .ok (.iload_n 2, 1) := by decide +kernel
theorem dX10_findState_67 : decode cX10_findState 67 = .ok (.aload_n 0, 1) := by decide +kernel
theorem dX10_findState_68 : decode cX10_findState 68 = .ok (.getfield 47, 3) := by decide +kernel
theorem dX10_findState_71 : decode cX10_findState 71 = .ok (.iconst 2, 1) := by decide +kernel
theorem dX10_findState_72 : decode cX10_findState 72 = .ok (.idiv, 1) := by decide +kernel
theorem dX10_findState_73 : decode cX10_findState 73 = .ok (.if_icmp .ge 5, 3) := by decide +kernel
theorem dX10_findState_76 : decode cX10_findState 76 = .ok (.iconst 0, 1) := by decide +kernel
theorem dX10_findState_77 : decode cX10_findState 77 = .ok (.istore_n 3, 1) := by decide +kernel
theorem dX10_findState_78 : decode cX10_findState 78 = .ok (.aload_n 0, 1) := by decide +kernel
theorem dX10_findState_79 : decode cX10_findState 79 = .ok (.iload_n 3, 1) := by decide +kernel
theorem dX10_findState_80 : decode cX10_findState 80 = .ok (.ifCond .eq 7, 3) := by decide +kernel
theorem dX10_findState_83 : decode cX10_findState 83 = .ok (.iconst 2, 1) := by decide +kernel
theorem dX10_findState_84 : decode cX10_findState 84 = .ok (.goto 17, 3) := by decide +kernel
theorem dX10_findState_87 : decode cX10_findState 87 = .ok (.aload_n 0, 1) := by decide +kernel
theorem dX10_findState_88 : decode cX10_findState 88 = .ok (.getfield 40, 3) := by decide +kernel
theorem dX10_findState_91 : decode cX10_findState 91 = .ok (.iload_n 1, 1) := by decide +kernel
theorem dX10_findState_92 : decode cX10_findState 92 = .ok (.baload, 1) := by decide +kernel
theorem dX10_findState_93 : decode cX10_findState 93 = .ok (.ifCond .eq 7, 3) := by decide +kernel
theorem dX10_findState_96 : decode cX10_findState 96 = .ok (.iconst 1, 1) := by decide +kernel
theorem dX10_findState_97 : decode cX10_findState 97 = .ok (.goto 4, 3) := by decide +kernel
theorem dX10_findState_100 : decode cX10_findState 100 = .ok (.iconst 0, 1) := by decide +kernel
theorem dX10_findState_101 : decode cX10_findState 101 = .ok (.putfield 223, 3) := by decide +kernel
theorem dX10_findState_104 : decode cX10_findState 104 = .ok (.return_, 1) := by decide +kernel
theorem dX10_stepFor_0 : decode cX10_stepFor 0 = .ok (.aload_n 0, 1) := by decide +kernel
theorem dX10_stepFor_1 : decode cX10_stepFor 1 = .ok (.getfield 223, 3) := by decide +kernel
theorem dX10_stepFor_4 : decode cX10_stepFor 4 = .ok (.ifCond .eq 18, 3) := by decide +kernel
theorem dX10_stepFor_7 : decode cX10_stepFor 7 = .ok (.aload_n 0, 1) := by decide +kernel
theorem dX10_stepFor_8 : decode cX10_stepFor 8 = .ok (.getfield 223, 3) := by decide +kernel
theorem dX10_stepFor_11 : decode cX10_stepFor 11 = .ok (.iconst 2, 1) := by decide +kernel
theorem dX10_stepFor_12 : decode cX10_stepFor 12 = .ok (.if_icmp .ne 7, 3) := by decide +kernel
theorem dX10_stepFor_15 : decode cX10_stepFor 15 = .ok (.iconst 0, 1) := by decide +kernel
theorem dX10_stepFor_16 : decode cX10_stepFor 16 = .ok (.goto 5, 3) := by decide +kernel
theorem dX10_stepFor_19 : decode cX10_stepFor 19 = .ok (.bipush (-12), 2) := by decide +kernel
theorem dX10_stepFor_21 : decode cX10_stepFor 21 = .ok (.ireturn, 1) := by decide +kernel
theorem dX10_stepFor_22 : decode cX10_stepFor 22 = .ok (.aload_n 0, 1) := by decide +kernel
theorem dX10_stepFor_23 : decode cX10_stepFor 23 = .ok (.iload_n 1, 1) := by decide +kernel
theorem dX10_stepFor_24 : decode cX10_stepFor 24 = .ok (.invokevirtual 185, 3) := by decide +kernel
theorem dX10_stepFor_27 : decode cX10_stepFor 27 = .ok (.ifCond .eq 5, 3) := by decide +kernel
theorem dX10_stepFor_30 : decode cX10_stepFor 30 = .ok (.iconst 0, 1) := by decide +kernel
theorem dX10_stepFor_31 : decode cX10_stepFor 31 = .ok (.ireturn, 1) := by decide +kernel
theorem dX10_stepFor_32 : decode cX10_stepFor 32 = .ok (.aload_n 0, 1) := by decide +kernel
theorem dX10_stepFor_33 : decode cX10_stepFor 33 = .ok (.iload_n 1, 1) := by decide +kernel
theorem dX10_stepFor_34 : decode cX10_stepFor 34 = .ok (.invokevirtual 188, 3) := by decide +kernel
theorem dX10_stepFor_37 : decode cX10_stepFor 37 = .ok (.istore_n 2, 1) := by decide +kernel
theorem dX10_stepFor_38 : decode cX10_stepFor 38 = .ok (.iload_n 2, 1) := by decide +kernel
theorem dX10_stepFor_39 : decode cX10_stepFor 39 = .ok (.bipush 99, 2) := by decide +kernel
theorem dX10_stepFor_41 : decode cX10_stepFor 41 = .ok (.if_icmp .ne 11, 3) := by decide +kernel
theorem dX10_stepFor_44 : decode cX10_stepFor 44 = .ok (.aload_n 0, 1) := by decide +kernel
theorem dX10_stepFor_45 : decode cX10_stepFor 45 = .ok (.iload_n 1, 1) := by decide +kernel
theorem dX10_stepFor_46 : decode cX10_stepFor 46 = .ok (.invokevirtual 178, 3) := by decide +kernel
theorem dX10_stepFor_49 : decode cX10_stepFor 49 = .ok (.goto 4, 3) := by decide +kernel
theorem dX10_stepFor_52 : decode cX10_stepFor 52 = .ok (.iload_n 2, 1) := by decide +kernel
theorem dX10_stepFor_53 : decode cX10_stepFor 53 = .ok (.ireturn, 1) := by decide +kernel
theorem dX10_setSteps_0 : decode cX10_setSteps 0 = .ok (.aload_n 0, 1) := by decide +kernel
theorem dX10_setSteps_1 : decode cX10_setSteps 1 = .ok (.iload_n 1, 1) := by decide +kernel
theorem dX10_setSteps_2 : decode cX10_setSteps 2 = .ok (.invokevirtual 226, 3) := by decide +kernel
theorem dX10_setSteps_5 : decode cX10_setSteps 5 = .ok (.istore_n 2, 1) := by decide +kernel
theorem dX10_setSteps_6 : decode cX10_setSteps 6 = .ok (.aload_n 0, 1) := by decide +kernel
theorem dX10_setSteps_7 : decode cX10_setSteps 7 = .ok (.getfield 229, 3) := by decide +kernel
theorem dX10_setSteps_10 : decode cX10_setSteps 10 = .ok (.ifCond .eq 23, 3) := by decide +kernel
theorem dX10_setSteps_13 : decode cX10_setSteps 13 = .ok (.aload_n 0, 1) := by decide +kernel
theorem dX10_setSteps_14 : decode cX10_setSteps 14 = .ok (.getfield 233, 3) := by decide +kernel
theorem dX10_setSteps_17 : decode cX10_setSteps 17 = .ok (.iconst 2, 1) := by decide +kernel
theorem dX10_setSteps_18 : decode cX10_setSteps 18 = .ok (.if_icmp .eq 15, 3) := by decide +kernel
theorem dX10_setSteps_21 : decode cX10_setSteps 21 = .ok (.aload_n 0, 1) := by decide +kernel
theorem dX10_setSteps_22 : decode cX10_setSteps 22 = .ok (.getfield 223, 3) := by decide +kernel
theorem dX10_setSteps_25 : decode cX10_setSteps 25 = .ok (.iconst 2, 1) := by decide +kernel
theorem dX10_setSteps_26 : decode cX10_setSteps 26 = .ok (.if_icmp .eq 7, 3) := by decide +kernel
theorem dX10_setSteps_29 : decode cX10_setSteps 29 = .ok (.iconst 1, 1) := by decide +kernel
theorem dX10_setSteps_30 : decode cX10_setSteps 30 = .ok (.goto 4, 3) := by decide +kernel
theorem dX10_setSteps_33 : decode cX10_setSteps 33 = .ok (.iconst 0, 1) := by decide +kernel
theorem dX10_setSteps_34 : decode cX10_setSteps 34 = .ok (.istore_n 3, 1) := by decide +kernel
theorem dX10_setSteps_35 : decode cX10_setSteps 35 = .ok (.iconst 0, 1) := by decide +kernel
theorem dX10_setSteps_36 : decode cX10_setSteps 36 = .ok (.istore 4, 2) := by decide +kernel
theorem dX10_setSteps_38 : decode cX10_setSteps 38 = .ok (.iload 4, 2) := by decide +kernel
theorem dX10_setSteps_40 : decode cX10_setSteps 40 = .ok (.aload_n 0, 1) := by decide +kernel
theorem dX10_setSteps_41 : decode cX10_setSteps 41 = .ok (.getfield 72, 3) := by decide +kernel
theorem dX10_setSteps_44 : decode cX10_setSteps 44 = .ok (.if_icmp .ge 50, 3) := by decide +kernel
theorem dX10_setSteps_47 : decode cX10_setSteps 47 = .ok (.aload_n 0, 1) := by decide +kernel
theorem dX10_setSteps_48 : decode cX10_setSteps 48 = .ok (.getfield 9, 3) := by decide +kernel
theorem dX10_setSteps_51 : decode cX10_setSteps 51 = .ok (.iload 4, 2) := by decide +kernel
theorem dX10_setSteps_53 : decode cX10_setSteps 53 = .ok (.iaload, 1) := by decide +kernel
theorem dX10_setSteps_54 : decode cX10_setSteps 54 = .ok (.iconst 1, 1) := by decide +kernel
theorem dX10_setSteps_55 : decode cX10_setSteps 55 = .ok (.if_icmp .eq 33, 3) := by decide +kernel
theorem dX10_setSteps_58 : decode cX10_setSteps 58 = .ok (.aload_n 0, 1) := by decide +kernel
theorem dX10_setSteps_59 : decode cX10_setSteps 59 = .ok (.getfield 25, 3) := by decide +kernel
theorem dX10_setSteps_62 : decode cX10_setSteps 62 = .ok (.iload 4, 2) := by decide +kernel
theorem dX10_setSteps_64 : decode cX10_setSteps 64 = .ok (.aload_n 0, 1) := by decide +kernel
theorem dX10_setSteps_65 : decode cX10_setSteps 65 = .ok (.getfield 9, 3) := by decide +kernel
theorem dX10_setSteps_68 : decode cX10_setSteps 68 = .ok (.iload 4, 2) := by decide +kernel
theorem dX10_setSteps_70 : decode cX10_setSteps 70 = .ok (.iaload, 1) := by decide +kernel
theorem dX10_setSteps_71 : decode cX10_setSteps 71 = .ok (.iconst 2, 1) := by decide +kernel
theorem dX10_setSteps_72 : decode cX10_setSteps 72 = .ok (.if_icmp .ne 14, 3) := by decide +kernel
theorem dX10_setSteps_75 : decode cX10_setSteps 75 = .ok (.iload_n 3, 1) := by decide +kernel
theorem dX10_setSteps_76 : decode cX10_setSteps 76 = .ok (.ifCond .eq 10, 3) := by decide +kernel
theorem dX10_setSteps_79 : decode cX10_setSteps 79 = .ok (.aload_n 0, 1) := by decide +kernel
theorem dX10_setSteps_80 : decode cX10_setSteps 80 = .ok (.getfield 236, 3) := by decide +kernel
theorem dX10_setSteps_83 : decode cX10_setSteps 83 = .ok (.goto 4, 3) := by decide +kernel
theorem dX10_setSteps_86 : decode cX10_setSteps 86 = .ok (.iload_n 2, 1) := by decide +kernel
theorem dX10_setSteps_87 : decode cX10_setSteps 87 = .ok (.iastore, 1) := by decide +kernel
theorem dX10_setSteps_88 : decode cX10_setSteps 88 = .ok (.iinc 4 1, 3) := by decide +kernel
theorem dX10_setSteps_91 : decode cX10_setSteps 91 = .ok (.goto (-53), 3) := by decide +kernel
theorem dX10_setSteps_94 : decode cX10_setSteps 94 = .ok (.aload_n 0, 1) := by decide +kernel
theorem dX10_setSteps_95 : decode cX10_setSteps 95 = .ok (.iload_n 2, 1) := by decide +kernel
theorem dX10_setSteps_96 : decode cX10_setSteps 96 = .ok (.putfield 236, 3) := by decide +kernel
theorem dX10_setSteps_99 : decode cX10_setSteps 99 = .ok (.aload_n 0, 1) := by decide +kernel
theorem dX10_setSteps_100 : decode cX10_setSteps 100 = .ok (.aload_n 0, 1) := by decide +kernel
theorem dX10_setSteps_101 : decode cX10_setSteps 101 = .ok (.getfield 223, 3) := by decide +kernel
theorem dX10_setSteps_104 : decode cX10_setSteps 104 = .ok (.putfield 233, 3) := by decide +kernel
theorem dX10_setSteps_107 : decode cX10_setSteps 107 = .ok (.return_, 1) := by decide +kernel
theorem dX10_writeBook_0 : decode cX10_writeBook 0 = .ok (.iconst 0, 1) := by decide +kernel
theorem dX10_writeBook_1 : decode cX10_writeBook 1 = .ok (.istore_n 2, 1) := by decide +kernel
theorem dX10_writeBook_2 : decode cX10_writeBook 2 = .ok (.iload_n 2, 1) := by decide +kernel
theorem dX10_writeBook_3 : decode cX10_writeBook 3 = .ok (.bipush 6, 2) := by decide +kernel
theorem dX10_writeBook_5 : decode cX10_writeBook 5 = .ok (.if_icmp .ge 16, 3) := by decide +kernel
theorem dX10_writeBook_8 : decode cX10_writeBook 8 = .ok (.aload_n 0, 1) := by decide +kernel
theorem dX10_writeBook_9 : decode cX10_writeBook 9 = .ok (.getfield 51, 3) := by decide +kernel
theorem dX10_writeBook_12 : decode cX10_writeBook 12 = .ok (.iload_n 2, 1) := by decide +kernel
theorem dX10_writeBook_13 : decode cX10_writeBook 13 = .ok (.lconst 0, 1) := by decide +kernel
theorem dX10_writeBook_14 : decode cX10_writeBook 14 = .ok (.lastore, 1) := by decide +kernel
theorem dX10_writeBook_15 : decode cX10_writeBook 15 = .ok (.iinc 2 1, 3) := by decide +kernel
theorem dX10_writeBook_18 : decode cX10_writeBook 18 = .ok (.goto (-16), 3) := by decide +kernel
theorem dX10_writeBook_21 : decode cX10_writeBook 21 = .ok (.aload_n 0, 1) := by decide +kernel
theorem dX10_writeBook_22 : decode cX10_writeBook 22 = .ok (.getfield 51, 3) := by decide +kernel
theorem dX10_writeBook_25 : decode cX10_writeBook 25 = .ok (.bipush 6, 2) := by decide +kernel
theorem dX10_writeBook_27 : decode cX10_writeBook 27 = .ok (.aload_n 0, 1) := by decide +kernel
theorem dX10_writeBook_28 : decode cX10_writeBook 28 = .ok (.getfield 223, 3) := by decide +kernel
theorem dX10_writeBook_31 : decode cX10_writeBook 31 = .ok (.i2l, 1) := by decide +kernel
theorem dX10_writeBook_32 : decode cX10_writeBook 32 = .ok (.lastore, 1) := by decide +kernel
theorem dX10_writeBook_33 : decode cX10_writeBook 33 = .ok (.aload_n 0, 1) := by decide +kernel
theorem dX10_writeBook_34 : decode cX10_writeBook 34 = .ok (.getfield 51, 3) := by decide +kernel
theorem dX10_writeBook_37 : decode cX10_writeBook 37 = .ok (.bipush 7, 2) := by decide +kernel
theorem dX10_writeBook_39 : decode cX10_writeBook 39 = .ok (.iload_n 1, 1) := by decide +kernel
theorem dX10_writeBook_40 : decode cX10_writeBook 40 = .ok (.i2l, 1) := by decide +kernel
theorem dX10_writeBook_41 : decode cX10_writeBook 41 = .ok (.lastore, 1) := by decide +kernel
theorem dX10_writeBook_42 : decode cX10_writeBook 42 = .ok (.aload_n 0, 1) := by decide +kernel
theorem dX10_writeBook_43 : decode cX10_writeBook 43 = .ok (.iload_n 1, 1) := by decide +kernel
theorem dX10_writeBook_44 : decode cX10_writeBook 44 = .ok (.invokevirtual 185, 3) := by decide +kernel
theorem dX10_writeBook_47 : decode cX10_writeBook 47 = .ok (.ifCond .eq 4, 3) := by decide +kernel
theorem dX10_writeBook_50 : decode cX10_writeBook 50 = .ok (.return_, 1) := by decide +kernel
theorem dX10_writeBook_51 : decode cX10_writeBook 51 = .ok (.iconst 0, 1) := by decide +kernel
theorem dX10_writeBook_52 : decode cX10_writeBook 52 = .ok (.istore_n 2, 1) := by decide +kernel
theorem dX10_writeBook_53 : decode cX10_writeBook 53 = .ok (.iload_n 2, 1) := by decide +kernel
theorem dX10_writeBook_54 : decode cX10_writeBook 54 = .ok (.aload_n 0, 1) := by decide +kernel
theorem dX10_writeBook_55 : decode cX10_writeBook 55 = .ok (.getfield 72, 3) := by decide +kernel
theorem dX10_writeBook_58 : decode cX10_writeBook 58 = .ok (.if_icmp .ge 104, 3) := by decide +kernel
theorem dX10_writeBook_61 : decode cX10_writeBook 61 = .ok (.aload_n 0, 1) := by decide +kernel
theorem dX10_writeBook_62 : decode cX10_writeBook 62 = .ok (.getfield 28, 3) := by decide +kernel
theorem dX10_writeBook_65 : decode cX10_writeBook 65 = .ok (.iload_n 2, 1) := by decide +kernel
theorem dX10_writeBook_66 : decode cX10_writeBook 66 = .ok (.iaload, 1) := by decide +kernel
theorem dX10_writeBook_67 : decode cX10_writeBook 67 = .ok (.ifCond .lt 89, 3) := by decide +kernel
theorem dX10_writeBook_70 : decode cX10_writeBook 70 = .ok (.aload_n 0, 1) := by decide +kernel
theorem dX10_writeBook_71 : decode cX10_writeBook 71 = .ok (.iload_n 2, 1) := by decide +kernel
theorem dX10_writeBook_72 : decode cX10_writeBook 72 = .ok (.iload_n 1, 1) := by decide +kernel
theorem dX10_writeBook_73 : decode cX10_writeBook 73 = .ok (.invokevirtual 171, 3) := by decide +kernel
theorem dX10_writeBook_76 : decode cX10_writeBook 76 = .ok (.lconst 0, 1) := by decide +kernel
theorem dX10_writeBook_77 : decode cX10_writeBook 77 = .ok (.lcmp, 1) := by decide +kernel
theorem dX10_writeBook_78 : decode cX10_writeBook 78 = .ok (.ifCond .gt 6, 3) := by decide +kernel
theorem dX10_writeBook_81 : decode cX10_writeBook 81 = .ok (.goto 75, 3) := by decide +kernel
theorem dX10_writeBook_84 : decode cX10_writeBook 84 = .ok (.ldc2_w 165, 3) := by decide +kernel
theorem dX10_writeBook_87 : decode cX10_writeBook 87 = .ok (.aload_n 0, 1) := by decide +kernel
theorem dX10_writeBook_88 : decode cX10_writeBook 88 = .ok (.iload_n 2, 1) := by decide +kernel
theorem dX10_writeBook_89 : decode cX10_writeBook 89 = .ok (.iload_n 1, 1) := by decide +kernel
theorem dX10_writeBook_90 : decode cX10_writeBook 90 = .ok (.invokevirtual 171, 3) := by decide +kernel
theorem dX10_writeBook_93 : decode cX10_writeBook 93 = .ok (.lmul, 1) := by decide +kernel
theorem dX10_writeBook_94 : decode cX10_writeBook 94 = .ok (.ldc2_w 204, 3) := by decide +kernel
theorem dX10_writeBook_97 : decode cX10_writeBook 97 = .ok (.ldiv, 1) := by decide +kernel
theorem dX10_writeBook_98 : decode cX10_writeBook 98 = .ok (.lstore_n 3, 1) := by decide +kernel
theorem dX10_writeBook_99 : decode cX10_writeBook 99 = .ok (.aload_n 0, 1) := by decide +kernel
theorem dX10_writeBook_100 : decode cX10_writeBook 100 = .ok (.getfield 51, 3) := by decide +kernel
theorem dX10_writeBook_103 : decode cX10_writeBook 103 = .ok (.iconst 0, 1) := by decide +kernel
theorem dX10_writeBook_104 : decode cX10_writeBook 104 = .ok (.dup2, 1) := by decide +kernel
theorem dX10_writeBook_105 : decode cX10_writeBook 105 = .ok (.laload, 1) := by decide +kernel
theorem dX10_writeBook_106 : decode cX10_writeBook 106 = .ok (.lload_n 3, 1) := by decide +kernel
theorem dX10_writeBook_107 : decode cX10_writeBook 107 = .ok (.ladd, 1) := by decide +kernel
theorem dX10_writeBook_108 : decode cX10_writeBook 108 = .ok (.lastore, 1) := by decide +kernel
theorem dX10_writeBook_109 : decode cX10_writeBook 109 = .ok (.aload_n 0, 1) := by decide +kernel
theorem dX10_writeBook_110 : decode cX10_writeBook 110 = .ok (.getfield 51, 3) := by decide +kernel
theorem dX10_writeBook_113 : decode cX10_writeBook 113 = .ok (.iconst 1, 1) := by decide +kernel
theorem dX10_writeBook_114 : decode cX10_writeBook 114 = .ok (.dup2, 1) := by decide +kernel
theorem dX10_writeBook_115 : decode cX10_writeBook 115 = .ok (.laload, 1) := by decide +kernel
theorem dX10_writeBook_116 : decode cX10_writeBook 116 = .ok (.lload_n 3, 1) := by decide +kernel
theorem dX10_writeBook_117 : decode cX10_writeBook 117 = .ok (.aload_n 0, 1) := by decide +kernel
theorem dX10_writeBook_118 : decode cX10_writeBook 118 = .ok (.iload_n 2, 1) := by decide +kernel
theorem dX10_writeBook_119 : decode cX10_writeBook 119 = .ok (.iload_n 1, 1) := by decide +kernel
theorem dX10_writeBook_120 : decode cX10_writeBook 120 = .ok (.invokevirtual 206, 3) := by decide +kernel
theorem dX10_writeBook_123 : decode cX10_writeBook 123 = .ok (.lsub, 1) := by decide +kernel
theorem dX10_writeBook_124 : decode cX10_writeBook 124 = .ok (.ladd, 1) := by decide +kernel
theorem dX10_writeBook_125 : decode cX10_writeBook 125 = .ok (.lastore, 1) := by decide +kernel
theorem dX10_writeBook_126 : decode cX10_writeBook 126 = .ok (.aload_n 0, 1) := by decide +kernel
theorem dX10_writeBook_127 : decode cX10_writeBook 127 = .ok (.getfield 51, 3) := by decide +kernel
theorem dX10_writeBook_130 : decode cX10_writeBook 130 = .ok (.iconst 2, 1) := by decide +kernel
theorem dX10_writeBook_131 : decode cX10_writeBook 131 = .ok (.dup2, 1) := by decide +kernel
theorem dX10_writeBook_132 : decode cX10_writeBook 132 = .ok (.laload, 1) := by decide +kernel
theorem dX10_writeBook_133 : decode cX10_writeBook 133 = .ok (.aload_n 0, 1) := by decide +kernel
theorem dX10_writeBook_134 : decode cX10_writeBook 134 = .ok (.iload_n 2, 1) := by decide +kernel
theorem dX10_writeBook_135 : decode cX10_writeBook 135 = .ok (.iload_n 1, 1) := by decide +kernel
theorem dX10_writeBook_136 : decode cX10_writeBook 136 = .ok (.invokevirtual 211, 3) := by decide +kernel
theorem dX10_writeBook_139 : decode cX10_writeBook 139 = .ok (.ladd, 1) := by decide +kernel
theorem dX10_writeBook_140 : decode cX10_writeBook 140 = .ok (.lastore, 1) := by decide +kernel
theorem dX10_writeBook_141 : decode cX10_writeBook 141 = .ok (.aload_n 0, 1) := by decide +kernel
theorem dX10_writeBook_142 : decode cX10_writeBook 142 = .ok (.getfield 51, 3) := by decide +kernel
theorem dX10_writeBook_145 : decode cX10_writeBook 145 = .ok (.iconst 3, 1) := by decide +kernel
theorem dX10_writeBook_146 : decode cX10_writeBook 146 = .ok (.dup2, 1) := by decide +kernel
theorem dX10_writeBook_147 : decode cX10_writeBook 147 = .ok (.laload, 1) := by decide +kernel
theorem dX10_writeBook_148 : decode cX10_writeBook 148 = .ok (.aload_n 0, 1) := by decide +kernel
theorem dX10_writeBook_149 : decode cX10_writeBook 149 = .ok (.iload_n 2, 1) := by decide +kernel
theorem dX10_writeBook_150 : decode cX10_writeBook 150 = .ok (.iload_n 1, 1) := by decide +kernel
theorem dX10_writeBook_151 : decode cX10_writeBook 151 = .ok (.invokevirtual 214, 3) := by decide +kernel
theorem dX10_writeBook_154 : decode cX10_writeBook 154 = .ok (.ladd, 1) := by decide +kernel
theorem dX10_writeBook_155 : decode cX10_writeBook 155 = .ok (.lastore, 1) := by decide +kernel
theorem dX10_writeBook_156 : decode cX10_writeBook 156 = .ok (.iinc 2 1, 3) := by decide +kernel
theorem dX10_writeBook_159 : decode cX10_writeBook 159 = .ok (.goto (-106), 3) := by decide +kernel
theorem dX10_writeBook_162 : decode cX10_writeBook 162 = .ok (.iconst 0, 1) := by decide +kernel
theorem dX10_writeBook_163 : decode cX10_writeBook 163 = .ok (.istore_n 2, 1) := by decide +kernel
theorem dX10_writeBook_164 : decode cX10_writeBook 164 = .ok (.iload_n 2, 1) := by decide +kernel
theorem dX10_writeBook_165 : decode cX10_writeBook 165 = .ok (.iconst 4, 1) := by decide +kernel
theorem dX10_writeBook_166 : decode cX10_writeBook 166 = .ok (.if_icmp .ge 77, 3) := by decide +kernel
theorem dX10_writeBook_169 : decode cX10_writeBook 169 = .ok (.aload_n 0, 1) := by decide +kernel
theorem dX10_writeBook_170 : decode cX10_writeBook 170 = .ok (.iload_n 2, 1) := by decide +kernel
theorem dX10_writeBook_171 : decode cX10_writeBook 171 = .ok (.iload_n 1, 1) := by decide +kernel
theorem dX10_writeBook_172 : decode cX10_writeBook 172 = .ok (.invokevirtual 217, 3) := by decide +kernel
theorem dX10_writeBook_175 : decode cX10_writeBook 175 = .ok (.lstore_n 3, 1) := by decide +kernel
theorem dX10_writeBook_176 : decode cX10_writeBook 176 = .ok (.lload_n 3, 1) := by decide +kernel
theorem dX10_writeBook_177 : decode cX10_writeBook 177 = .ok (.aload_n 0, 1) := by decide +kernel
theorem dX10_writeBook_178 : decode cX10_writeBook 178 = .ok (.getfield 44, 3) := by decide +kernel
theorem dX10_writeBook_181 : decode cX10_writeBook 181 = .ok (.iload_n 2, 1) := by decide +kernel
theorem dX10_writeBook_182 : decode cX10_writeBook 182 = .ok (.iaload, 1) := by decide +kernel
theorem dX10_writeBook_183 : decode cX10_writeBook 183 = .ok (.i2l, 1) := by decide +kernel
theorem dX10_writeBook_184 : decode cX10_writeBook 184 = .ok (.lcmp, 1) := by decide +kernel
theorem dX10_writeBook_185 : decode cX10_writeBook 185 = .ok (.ifCond .le 15, 3) := by decide +kernel
theorem dX10_writeBook_188 : decode cX10_writeBook 188 = .ok (.lload_n 3, 1) := by decide +kernel
theorem dX10_writeBook_189 : decode cX10_writeBook 189 = .ok (.aload_n 0, 1) := by decide +kernel
theorem dX10_writeBook_190 : decode cX10_writeBook 190 = .ok (.getfield 44, 3) := by decide +kernel
theorem dX10_writeBook_193 : decode cX10_writeBook 193 = .ok (.iload_n 2, 1) := by decide +kernel
theorem dX10_writeBook_194 : decode cX10_writeBook 194 = .ok (.iaload, 1) := by decide +kernel
theorem dX10_writeBook_195 : decode cX10_writeBook 195 = .ok (.i2l, 1) := by decide +kernel
theorem dX10_writeBook_196 : decode cX10_writeBook 196 = .ok (.lsub, 1) := by decide +kernel
theorem dX10_writeBook_197 : decode cX10_writeBook 197 = .ok (.goto 4, 3) := by decide +kernel
theorem dX10_writeBook_200 : decode cX10_writeBook 200 = .ok (.lconst 0, 1) := by decide +kernel
theorem dX10_writeBook_201 : decode cX10_writeBook 201 = .ok (.lstore 5, 2) := by decide +kernel
theorem dX10_writeBook_203 : decode cX10_writeBook 203 = .ok (.aload_n 0, 1) := by decide +kernel
theorem dX10_writeBook_204 : decode cX10_writeBook 204 = .ok (.getfield 51, 3) := by decide +kernel
theorem dX10_writeBook_207 : decode cX10_writeBook 207 = .ok (.iconst 3, 1) := by decide +kernel
theorem dX10_writeBook_208 : decode cX10_writeBook 208 = .ok (.dup2, 1) := by decide +kernel
theorem dX10_writeBook_209 : decode cX10_writeBook 209 = .ok (.laload, 1) := by decide +kernel
theorem dX10_writeBook_210 : decode cX10_writeBook 210 = .ok (.lload_n 3, 1) := by decide +kernel
theorem dX10_writeBook_211 : decode cX10_writeBook 211 = .ok (.lsub, 1) := by decide +kernel
theorem dX10_writeBook_212 : decode cX10_writeBook 212 = .ok (.lastore, 1) := by decide +kernel
theorem dX10_writeBook_213 : decode cX10_writeBook 213 = .ok (.aload_n 0, 1) := by decide +kernel
theorem dX10_writeBook_214 : decode cX10_writeBook 214 = .ok (.getfield 51, 3) := by decide +kernel
theorem dX10_writeBook_217 : decode cX10_writeBook 217 = .ok (.iconst 4, 1) := by decide +kernel
theorem dX10_writeBook_218 : decode cX10_writeBook 218 = .ok (.dup2, 1) := by decide +kernel
theorem dX10_writeBook_219 : decode cX10_writeBook 219 = .ok (.laload, 1) := by decide +kernel
theorem dX10_writeBook_220 : decode cX10_writeBook 220 = .ok (.lload 5, 2) := by decide +kernel
theorem dX10_writeBook_222 : decode cX10_writeBook 222 = .ok (.ladd, 1) := by decide +kernel
theorem dX10_writeBook_223 : decode cX10_writeBook 223 = .ok (.lastore, 1) := by decide +kernel
theorem dX10_writeBook_224 : decode cX10_writeBook 224 = .ok (.aload_n 0, 1) := by decide +kernel
theorem dX10_writeBook_225 : decode cX10_writeBook 225 = .ok (.getfield 51, 3) := by decide +kernel
theorem dX10_writeBook_228 : decode cX10_writeBook 228 = .ok (.iconst 5, 1) := by decide +kernel
theorem dX10_writeBook_229 : decode cX10_writeBook 229 = .ok (.dup2, 1) := by decide +kernel
theorem dX10_writeBook_230 : decode cX10_writeBook 230 = .ok (.laload, 1) := by decide +kernel
theorem dX10_writeBook_231 : decode cX10_writeBook 231 = .ok (.lload_n 3, 1) := by decide +kernel
theorem dX10_writeBook_232 : decode cX10_writeBook 232 = .ok (.lload 5, 2) := by decide +kernel
theorem dX10_writeBook_234 : decode cX10_writeBook 234 = .ok (.lsub, 1) := by decide +kernel
theorem dX10_writeBook_235 : decode cX10_writeBook 235 = .ok (.ladd, 1) := by decide +kernel
theorem dX10_writeBook_236 : decode cX10_writeBook 236 = .ok (.lastore, 1) := by decide +kernel
theorem dX10_writeBook_237 : decode cX10_writeBook 237 = .ok (.iinc 2 1, 3) := by decide +kernel
theorem dX10_writeBook_240 : decode cX10_writeBook 240 = .ok (.goto (-76), 3) := by decide +kernel
theorem dX10_writeBook_243 : decode cX10_writeBook 243 = .ok (.iconst 0, 1) := by decide +kernel
theorem dX10_writeBook_244 : decode cX10_writeBook 244 = .ok (.istore_n 2, 1) := by decide +kernel
theorem dX10_writeBook_245 : decode cX10_writeBook 245 = .ok (.iload_n 2, 1) := by decide +kernel
theorem dX10_writeBook_246 : decode cX10_writeBook 246 = .ok (.bipush 6, 2) := by decide +kernel
theorem dX10_writeBook_248 : decode cX10_writeBook 248 = .ok (.if_icmp .ge 24, 3) := by decide +kernel
theorem dX10_writeBook_251 : decode cX10_writeBook 251 = .ok (.aload_n 0, 1) := by decide +kernel
theorem dX10_writeBook_252 : decode cX10_writeBook 252 = .ok (.getfield 55, 3) := by decide +kernel
theorem dX10_writeBook_255 : decode cX10_writeBook 255 = .ok (.iload_n 2, 1) := by decide +kernel
theorem dX10_writeBook_256 : decode cX10_writeBook 256 = .ok (.dup2, 1) := by decide +kernel
theorem dX10_writeBook_257 : decode cX10_writeBook 257 = .ok (.laload, 1) := by decide +kernel
theorem dX10_writeBook_258 : decode cX10_writeBook 258 = .ok (.aload_n 0, 1) := by decide +kernel
theorem dX10_writeBook_259 : decode cX10_writeBook 259 = .ok (.getfield 51, 3) := by decide +kernel
theorem dX10_writeBook_262 : decode cX10_writeBook 262 = .ok (.iload_n 2, 1) := by decide +kernel
theorem dX10_writeBook_263 : decode cX10_writeBook 263 = .ok (.laload, 1) := by decide +kernel
theorem dX10_writeBook_264 : decode cX10_writeBook 264 = .ok (.ladd, 1) := by decide +kernel
theorem dX10_writeBook_265 : decode cX10_writeBook 265 = .ok (.lastore, 1) := by decide +kernel
theorem dX10_writeBook_266 : decode cX10_writeBook 266 = .ok (.iinc 2 1, 3) := by decide +kernel
theorem dX10_writeBook_269 : decode cX10_writeBook 269 = .ok (.goto (-24), 3) := by decide +kernel
theorem dX10_writeBook_272 : decode cX10_writeBook 272 = .ok (.return_, 1) := by decide +kernel
theorem dX10_hour_0 : decode cX10_hour 0 = .ok (.aload_n 0, 1) := by decide +kernel
theorem dX10_hour_1 : decode cX10_hour 1 = .ok (.getfield 239, 3) := by decide +kernel
theorem dX10_hour_4 : decode cX10_hour 4 = .ok (.istore_n 1, 1) := by decide +kernel
theorem dX10_hour_5 : decode cX10_hour 5 = .ok (.aload_n 0, 1) := by decide +kernel
theorem dX10_hour_6 : decode cX10_hour 6 = .ok (.iload_n 1, 1) := by decide +kernel
theorem dX10_hour_7 : decode cX10_hour 7 = .ok (.invokevirtual 242, 3) := by decide +kernel
theorem dX10_hour_10 : decode cX10_hour 10 = .ok (.aload_n 0, 1) := by decide +kernel
theorem dX10_hour_11 : decode cX10_hour 11 = .ok (.iload_n 1, 1) := by decide +kernel
theorem dX10_hour_12 : decode cX10_hour 12 = .ok (.invokevirtual 246, 3) := by decide +kernel
theorem dX10_hour_15 : decode cX10_hour 15 = .ok (.aload_n 0, 1) := by decide +kernel
theorem dX10_hour_16 : decode cX10_hour 16 = .ok (.iload_n 1, 1) := by decide +kernel
theorem dX10_hour_17 : decode cX10_hour 17 = .ok (.invokevirtual 249, 3) := by decide +kernel
theorem dX10_hour_20 : decode cX10_hour 20 = .ok (.iconst 0, 1) := by decide +kernel
theorem dX10_hour_21 : decode cX10_hour 21 = .ok (.istore_n 2, 1) := by decide +kernel
theorem dX10_hour_22 : decode cX10_hour 22 = .ok (.iload_n 2, 1) := by decide +kernel
theorem dX10_hour_23 : decode cX10_hour 23 = .ok (.aload_n 0, 1) := by decide +kernel
theorem dX10_hour_24 : decode cX10_hour 24 = .ok (.getfield 72, 3) := by decide +kernel
theorem dX10_hour_27 : decode cX10_hour 27 = .ok (.if_icmp .ge 24, 3) := by decide +kernel
theorem dX10_hour_30 : decode cX10_hour 30 = .ok (.aload_n 0, 1) := by decide +kernel
theorem dX10_hour_31 : decode cX10_hour 31 = .ok (.getfield 223, 3) := by decide +kernel
theorem dX10_hour_34 : decode cX10_hour 34 = .ok (.iconst 1, 1) := by decide +kernel
theorem dX10_hour_35 : decode cX10_hour 35 = .ok (.if_icmp .ne 16, 3) := by decide +kernel
theorem dX10_hour_38 : decode cX10_hour 38 = .ok (.aload_n 0, 1) := by decide +kernel
theorem dX10_hour_39 : decode cX10_hour 39 = .ok (.getfield 22, 3) := by decide +kernel
theorem dX10_hour_42 : decode cX10_hour 42 = .ok (.iload_n 2, 1) := by decide +kernel
theorem dX10_hour_43 : decode cX10_hour 43 = .ok (.iconst 0, 1) := by decide +kernel
theorem dX10_hour_44 : decode cX10_hour 44 = .ok (.iastore, 1) := by decide +kernel
theorem dX10_hour_45 : decode cX10_hour 45 = .ok (.iinc 2 1, 3) := by decide +kernel
theorem dX10_hour_48 : decode cX10_hour 48 = .ok (.goto (-26), 3) := by decide +kernel
theorem dX10_hour_51 : decode cX10_hour 51 = .ok (.aload_n 0, 1) := by decide +kernel
theorem dX10_hour_52 : decode cX10_hour 52 = .ok (.iconst 1, 1) := by decide +kernel
theorem dX10_hour_53 : decode cX10_hour 53 = .ok (.putfield 229, 3) := by decide +kernel
theorem dX10_hour_56 : decode cX10_hour 56 = .ok (.aload_n 0, 1) := by decide +kernel
theorem dX10_hour_57 : decode cX10_hour 57 = .ok (.iload_n 1, 1) := by decide +kernel
theorem dX10_hour_58 : decode cX10_hour 58 = .ok (.iconst 1, 1) := by decide +kernel
theorem dX10_hour_59 : decode cX10_hour 59 = .ok (.iadd, 1) := by decide +kernel
theorem dX10_hour_60 : decode cX10_hour 60 = .ok (.bipush 24, 2) := by decide +kernel
theorem dX10_hour_62 : decode cX10_hour 62 = .ok (.irem, 1) := by decide +kernel
theorem dX10_hour_63 : decode cX10_hour 63 = .ok (.putfield 239, 3) := by decide +kernel
theorem dX10_hour_66 : decode cX10_hour 66 = .ok (.aload_n 0, 1) := by decide +kernel
theorem dX10_hour_67 : decode cX10_hour 67 = .ok (.getfield 223, 3) := by decide +kernel
theorem dX10_hour_70 : decode cX10_hour 70 = .ok (.ireturn, 1) := by decide +kernel
theorem dX10_hours_0 : decode cX10_hours 0 = .ok (.iload_n 1, 1) := by decide +kernel
theorem dX10_hours_1 : decode cX10_hours 1 = .ok (.iconst 1, 1) := by decide +kernel
theorem dX10_hours_2 : decode cX10_hours 2 = .ok (.bipush 48, 2) := by decide +kernel
theorem dX10_hours_4 : decode cX10_hours 4 = .ok (.invokestatic 75, 3) := by decide +kernel
theorem dX10_hours_7 : decode cX10_hours 7 = .ok (.ifCond .ne 11, 3) := by decide +kernel
theorem dX10_hours_10 : decode cX10_hours 10 = .ok (.aload_n 0, 1) := by decide +kernel
theorem dX10_hours_11 : decode cX10_hours 11 = .ok (.ldc 119, 2) := by decide +kernel
theorem dX10_hours_13 : decode cX10_hours 13 = .ok (.invokevirtual 120, 3) := by decide +kernel
theorem dX10_hours_16 : decode cX10_hours 16 = .ok (.i2l, 1) := by decide +kernel
theorem dX10_hours_17 : decode cX10_hours 17 = .ok (.lreturn, 1) := by decide +kernel
theorem dX10_hours_18 : decode cX10_hours 18 = .ok (.lconst 0, 1) := by decide +kernel
theorem dX10_hours_19 : decode cX10_hours 19 = .ok (.lstore_n 2, 1) := by decide +kernel
theorem dX10_hours_20 : decode cX10_hours 20 = .ok (.iconst 0, 1) := by decide +kernel
theorem dX10_hours_21 : decode cX10_hours 21 = .ok (.istore 4, 2) := by decide +kernel
theorem dX10_hours_23 : decode cX10_hours 23 = .ok (.iload 4, 2) := by decide +kernel
theorem dX10_hours_25 : decode cX10_hours 25 = .ok (.iload_n 1, 1) := by decide +kernel
theorem dX10_hours_26 : decode cX10_hours 26 = .ok (.if_icmp .ge 24, 3) := by decide +kernel
theorem dX10_hours_29 : decode cX10_hours 29 = .ok (.aload_n 0, 1) := by decide +kernel
theorem dX10_hours_30 : decode cX10_hours 30 = .ok (.invokevirtual 252, 3) := by decide +kernel
theorem dX10_hours_33 : decode cX10_hours 33 = .ok (.istore 5, 2) := by decide +kernel
theorem dX10_hours_35 : decode cX10_hours 35 = .ok (.lload_n 2, 1) := by decide +kernel
theorem dX10_hours_36 : decode cX10_hours 36 = .ok (.aload_n 0, 1) := by decide +kernel
theorem dX10_hours_37 : decode cX10_hours 37 = .ok (.getfield 51, 3) := by decide +kernel
theorem dX10_hours_40 : decode cX10_hours 40 = .ok (.iconst 5, 1) := by decide +kernel
theorem dX10_hours_41 : decode cX10_hours 41 = .ok (.laload, 1) := by decide +kernel
theorem dX10_hours_42 : decode cX10_hours 42 = .ok (.ladd, 1) := by decide +kernel
theorem dX10_hours_43 : decode cX10_hours 43 = .ok (.lstore_n 2, 1) := by decide +kernel
theorem dX10_hours_44 : decode cX10_hours 44 = .ok (.iinc 4 1, 3) := by decide +kernel
theorem dX10_hours_47 : decode cX10_hours 47 = .ok (.goto (-24), 3) := by decide +kernel
theorem dX10_hours_50 : decode cX10_hours 50 = .ok (.lload_n 2, 1) := by decide +kernel
theorem dX10_hours_51 : decode cX10_hours 51 = .ok (.lreturn, 1) := by decide +kernel
theorem dX10_book_0 : decode cX10_book 0 = .ok (.aload_n 0, 1) := by decide +kernel
theorem dX10_book_1 : decode cX10_book 1 = .ok (.getfield 229, 3) := by decide +kernel
theorem dX10_book_4 : decode cX10_book 4 = .ok (.ifCond .ne 11, 3) := by decide +kernel
theorem dX10_book_7 : decode cX10_book 7 = .ok (.aload_n 0, 1) := by decide +kernel
theorem dX10_book_8 : decode cX10_book 8 = .ok (.ldc 126, 2) := by decide +kernel
theorem dX10_book_10 : decode cX10_book 10 = .ok (.invokevirtual 120, 3) := by decide +kernel
theorem dX10_book_13 : decode cX10_book 13 = .ok (.i2l, 1) := by decide +kernel
theorem dX10_book_14 : decode cX10_book 14 = .ok (.lreturn, 1) := by decide +kernel
theorem dX10_book_15 : decode cX10_book 15 = .ok (.iload_n 1, 1) := by decide +kernel
theorem dX10_book_16 : decode cX10_book 16 = .ok (.iconst 0, 1) := by decide +kernel
theorem dX10_book_17 : decode cX10_book 17 = .ok (.bipush 7, 2) := by decide +kernel
theorem dX10_book_19 : decode cX10_book 19 = .ok (.invokestatic 75, 3) := by decide +kernel
theorem dX10_book_22 : decode cX10_book 22 = .ok (.ifCond .eq 12, 3) := by decide +kernel
theorem dX10_book_25 : decode cX10_book 25 = .ok (.aload_n 0, 1) := by decide +kernel
theorem dX10_book_26 : decode cX10_book 26 = .ok (.getfield 51, 3) := by decide +kernel
theorem dX10_book_29 : decode cX10_book 29 = .ok (.iload_n 1, 1) := by decide +kernel
theorem dX10_book_30 : decode cX10_book 30 = .ok (.laload, 1) := by decide +kernel
theorem dX10_book_31 : decode cX10_book 31 = .ok (.goto 10, 3) := by decide +kernel
theorem dX10_book_34 : decode cX10_book 34 = .ok (.aload_n 0, 1) := by decide +kernel
theorem dX10_book_35 : decode cX10_book 35 = .ok (.ldc 119, 2) := by decide +kernel
theorem dX10_book_37 : decode cX10_book 37 = .ok (.invokevirtual 120, 3) := by decide +kernel
theorem dX10_book_40 : decode cX10_book 40 = .ok (.i2l, 1) := by decide +kernel
theorem dX10_book_41 : decode cX10_book 41 = .ok (.lreturn, 1) := by decide +kernel
theorem dX10_all_0 : decode cX10_all 0 = .ok (.iload_n 1, 1) := by decide +kernel
theorem dX10_all_1 : decode cX10_all 1 = .ok (.iconst 0, 1) := by decide +kernel
theorem dX10_all_2 : decode cX10_all 2 = .ok (.iconst 5, 1) := by decide +kernel
theorem dX10_all_3 : decode cX10_all 3 = .ok (.invokestatic 75, 3) := by decide +kernel
theorem dX10_all_6 : decode cX10_all 6 = .ok (.ifCond .eq 12, 3) := by decide +kernel
theorem dX10_all_9 : decode cX10_all 9 = .ok (.aload_n 0, 1) := by decide +kernel
theorem dX10_all_10 : decode cX10_all 10 = .ok (.getfield 55, 3) := by decide +kernel
theorem dX10_all_13 : decode cX10_all 13 = .ok (.iload_n 1, 1) := by decide +kernel
theorem dX10_all_14 : decode cX10_all 14 = .ok (.laload, 1) := by decide +kernel
theorem dX10_all_15 : decode cX10_all 15 = .ok (.goto 10, 3) := by decide +kernel
theorem dX10_all_18 : decode cX10_all 18 = .ok (.aload_n 0, 1) := by decide +kernel
theorem dX10_all_19 : decode cX10_all 19 = .ok (.ldc 119, 2) := by decide +kernel
theorem dX10_all_21 : decode cX10_all 21 = .ok (.invokevirtual 120, 3) := by decide +kernel
theorem dX10_all_24 : decode cX10_all 24 = .ok (.i2l, 1) := by decide +kernel
theorem dX10_all_25 : decode cX10_all 25 = .ok (.lreturn, 1) := by decide +kernel
theorem dX10_next_0 : decode cX10_next 0 = .ok (.aload_n 0, 1) := by decide +kernel
theorem dX10_next_1 : decode cX10_next 1 = .ok (.getfield 239, 3) := by decide +kernel
theorem dX10_next_4 : decode cX10_next 4 = .ok (.ireturn, 1) := by decide +kernel
theorem dX10_bestWorth_0 : decode cX10_bestWorth 0 = .ok (.lconst 0, 1) := by decide +kernel
theorem dX10_bestWorth_1 : decode cX10_bestWorth 1 = .ok (.lstore_n 3, 1) := by decide +kernel
theorem dX10_bestWorth_2 : decode cX10_bestWorth 2 = .ok (.aload_n 0, 1) := by decide +kernel
theorem dX10_bestWorth_3 : decode cX10_bestWorth 3 = .ok (.iconst 0, 1) := by decide +kernel
theorem dX10_bestWorth_4 : decode cX10_bestWorth 4 = .ok (.putfield 256, 3) := by decide +kernel
theorem dX10_bestWorth_7 : decode cX10_bestWorth 7 = .ok (.iconst 1, 1) := by decide +kernel
theorem dX10_bestWorth_8 : decode cX10_bestWorth 8 = .ok (.istore 5, 2) := by decide +kernel
theorem dX10_bestWorth_10 : decode cX10_bestWorth 10 = .ok (.iload 5, 2) := by decide +kernel
theorem dX10_bestWorth_12 : decode cX10_bestWorth 12 = .ok (.iconst 1, 1) := by decide +kernel
theorem dX10_bestWorth_13 : decode cX10_bestWorth 13 = .ok (.aload_n 0, 1) := by decide +kernel
theorem dX10_bestWorth_14 : decode cX10_bestWorth 14 = .ok (.getfield 72, 3) := by decide +kernel
theorem dX10_bestWorth_17 : decode cX10_bestWorth 17 = .ok (.ishl, 1) := by decide +kernel
theorem dX10_bestWorth_18 : decode cX10_bestWorth 18 = .ok (.if_icmp .ge 126, 3) := by decide +kernel
theorem dX10_bestWorth_21 : decode cX10_bestWorth 21 = .ok (.lconst 0, 1) := by decide +kernel
theorem dX10_bestWorth_22 : decode cX10_bestWorth 22 = .ok (.lstore 6, 2) := by decide +kernel
theorem dX10_bestWorth_24 : decode cX10_bestWorth 24 = .ok (.iconst (-1), 1) := by decide +kernel
theorem dX10_bestWorth_25 : decode cX10_bestWorth 25 = .ok (.istore 8, 2) := by decide +kernel
theorem dX10_bestWorth_27 : decode cX10_bestWorth 27 = .ok (.iconst (-1), 1) := by decide +kernel
theorem dX10_bestWorth_28 : decode cX10_bestWorth 28 = .ok (.istore 9, 2) := by decide +kernel
theorem dX10_bestWorth_30 : decode cX10_bestWorth 30 = .ok (.iconst 0, 1) := by decide +kernel
theorem dX10_bestWorth_31 : decode cX10_bestWorth 31 = .ok (.istore 10, 2) := by decide +kernel
theorem dX10_bestWorth_33 : decode cX10_bestWorth 33 = .ok (.iload 10, 2) := by decide +kernel
theorem dX10_bestWorth_35 : decode cX10_bestWorth 35 = .ok (.aload_n 0, 1) := by decide +kernel
theorem dX10_bestWorth_36 : decode cX10_bestWorth 36 = .ok (.getfield 72, 3) := by decide +kernel
theorem dX10_bestWorth_39 : decode cX10_bestWorth 39 = .ok (.if_icmp .ge 66, 3) := by decide +kernel
theorem dX10_bestWorth_42 : decode cX10_bestWorth 42 = .ok (.iload 5, 2) := by decide +kernel
theorem dX10_bestWorth_44 : decode cX10_bestWorth 44 = .ok (.iload 10, 2) := by decide +kernel
theorem dX10_bestWorth_46 : decode cX10_bestWorth 46 = .ok (.ishr, 1) := by decide +kernel
theorem dX10_bestWorth_47 : decode cX10_bestWorth 47 = .ok (.iconst 1, 1) := by decide +kernel
theorem dX10_bestWorth_48 : decode cX10_bestWorth 48 = .ok (.iand, 1) := by decide +kernel
theorem dX10_bestWorth_49 : decode cX10_bestWorth 49 = .ok (.iconst 1, 1) := by decide +kernel
theorem dX10_bestWorth_50 : decode cX10_bestWorth 50 = .ok (.if_icmp .ne 49, 3) := by decide +kernel
theorem dX10_bestWorth_53 : decode cX10_bestWorth 53 = .ok (.lload 6, 2) := by decide +kernel
theorem dX10_bestWorth_55 : decode cX10_bestWorth 55 = .ok (.aload_n 0, 1) := by decide +kernel
theorem dX10_bestWorth_56 : decode cX10_bestWorth 56 = .ok (.getfield 22, 3) := by decide +kernel
theorem dX10_bestWorth_59 : decode cX10_bestWorth 59 = .ok (.iload 10, 2) := by decide +kernel
theorem dX10_bestWorth_61 : decode cX10_bestWorth 61 = .ok (.iaload, 1) := by decide +kernel
theorem dX10_bestWorth_62 : decode cX10_bestWorth 62 = .ok (.i2l, 1) := by decide +kernel
theorem dX10_bestWorth_63 : decode cX10_bestWorth 63 = .ok (.aload_n 0, 1) := by decide +kernel
theorem dX10_bestWorth_64 : decode cX10_bestWorth 64 = .ok (.getfield 19, 3) := by decide +kernel
theorem dX10_bestWorth_67 : decode cX10_bestWorth 67 = .ok (.iload 10, 2) := by decide +kernel
theorem dX10_bestWorth_69 : decode cX10_bestWorth 69 = .ok (.iaload, 1) := by decide +kernel
theorem dX10_bestWorth_70 : decode cX10_bestWorth 70 = .ok (.i2l, 1) := by decide +kernel
theorem dX10_bestWorth_71 : decode cX10_bestWorth 71 = .ok (.lmul, 1) := by decide +kernel
theorem dX10_bestWorth_72 : decode cX10_bestWorth 72 = .ok (.iload_n 1, 1) := by decide +kernel
theorem dX10_bestWorth_73 : decode cX10_bestWorth 73 = .ok (.i2l, 1) := by decide +kernel
theorem dX10_bestWorth_74 : decode cX10_bestWorth 74 = .ok (.lmul, 1) := by decide +kernel
theorem dX10_bestWorth_75 : decode cX10_bestWorth 75 = .ok (.iload_n 2, 1) := by decide +kernel
theorem dX10_bestWorth_76 : decode cX10_bestWorth 76 = .ok (.i2l, 1) := by decide +kernel
theorem dX10_bestWorth_77 : decode cX10_bestWorth 77 = .ok (.lsub, 1) := by decide +kernel
theorem dX10_bestWorth_78 : decode cX10_bestWorth 78 = .ok (.ladd, 1) := by decide +kernel
theorem dX10_bestWorth_79 : decode cX10_bestWorth 79 = .ok (.lstore 6, 2) := by decide +kernel
theorem dX10_bestWorth_81 : decode cX10_bestWorth 81 = .ok (.iload 8, 2) := by decide +kernel
theorem dX10_bestWorth_83 : decode cX10_bestWorth 83 = .ok (.ifCond .ge 8, 3) := by decide +kernel
theorem dX10_bestWorth_86 : decode cX10_bestWorth 86 = .ok (.iload 10, 2) := by decide +kernel
theorem dX10_bestWorth_88 : decode cX10_bestWorth 88 = .ok (.goto 5, 3) := by decide +kernel
theorem dX10_bestWorth_91 : decode cX10_bestWorth 91 = .ok (.iload 8, 2) := by decide +kernel
theorem dX10_bestWorth_93 : decode cX10_bestWorth 93 = .ok (.istore 8, 2) := by decide +kernel
theorem dX10_bestWorth_95 : decode cX10_bestWorth 95 = .ok (.iload 10, 2) := by decide +kernel
theorem dX10_bestWorth_97 : decode cX10_bestWorth 97 = .ok (.istore 9, 2) := by decide +kernel
theorem dX10_bestWorth_99 : decode cX10_bestWorth 99 = .ok (.iinc 10 1, 3) := by decide +kernel
theorem dX10_bestWorth_102 : decode cX10_bestWorth 102 = .ok (.goto (-69), 3) := by decide +kernel
theorem dX10_bestWorth_105 : decode cX10_bestWorth 105 = .ok (.lload 6, 2) := by decide +kernel
theorem dX10_bestWorth_107 : decode cX10_bestWorth 107 = .ok (.ldc2_w 259, 3) := by decide +kernel
theorem dX10_bestWorth_110 : decode cX10_bestWorth 110 = .ok (.iload 9, 2) := by decide +kernel
theorem dX10_bestWorth_112 : decode cX10_bestWorth 112 = .ok (.iload 8, 2) := by decide +kernel
theorem dX10_bestWorth_114 : decode cX10_bestWorth 114 = .ok (.isub, 1) := by decide +kernel
theorem dX10_bestWorth_115 : decode cX10_bestWorth 115 = .ok (.iconst 1, 1) := by decide +kernel
theorem dX10_bestWorth_116 : decode cX10_bestWorth 116 = .ok (.iadd, 1) := by decide +kernel
theorem dX10_bestWorth_117 : decode cX10_bestWorth 117 = .ok (.i2l, 1) := by decide +kernel
theorem dX10_bestWorth_118 : decode cX10_bestWorth 118 = .ok (.lmul, 1) := by decide +kernel
theorem dX10_bestWorth_119 : decode cX10_bestWorth 119 = .ok (.lsub, 1) := by decide +kernel
theorem dX10_bestWorth_120 : decode cX10_bestWorth 120 = .ok (.lstore 6, 2) := by decide +kernel
theorem dX10_bestWorth_122 : decode cX10_bestWorth 122 = .ok (.lload 6, 2) := by decide +kernel
theorem dX10_bestWorth_124 : decode cX10_bestWorth 124 = .ok (.lload_n 3, 1) := by decide +kernel
theorem dX10_bestWorth_125 : decode cX10_bestWorth 125 = .ok (.lcmp, 1) := by decide +kernel
theorem dX10_bestWorth_126 : decode cX10_bestWorth 126 = .ok (.ifCond .le 12, 3) := by decide +kernel
theorem dX10_bestWorth_129 : decode cX10_bestWorth 129 = .ok (.lload 6, 2) := by decide +kernel
theorem dX10_bestWorth_131 : decode cX10_bestWorth 131 = .ok (.lstore_n 3, 1) := by decide +kernel
theorem dX10_bestWorth_132 : decode cX10_bestWorth 132 = .ok (.aload_n 0, 1) := by decide +kernel
theorem dX10_bestWorth_133 : decode cX10_bestWorth 133 = .ok (.iload 5, 2) := by decide +kernel
theorem dX10_bestWorth_135 : decode cX10_bestWorth 135 = .ok (.putfield 256, 3) := by decide +kernel
theorem dX10_bestWorth_138 : decode cX10_bestWorth 138 = .ok (.iinc 5 1, 3) := by decide +kernel
theorem dX10_bestWorth_141 : decode cX10_bestWorth 141 = .ok (.goto (-131), 3) := by decide +kernel
theorem dX10_bestWorth_144 : decode cX10_bestWorth 144 = .ok (.lload_n 3, 1) := by decide +kernel
theorem dX10_bestWorth_145 : decode cX10_bestWorth 145 = .ok (.lreturn, 1) := by decide +kernel
theorem dX10_isPlan_0 : decode cX10_isPlan 0 = .ok (.iload_n 0, 1) := by decide +kernel
theorem dX10_isPlan_1 : decode cX10_isPlan 1 = .ok (.iconst 1, 1) := by decide +kernel
theorem dX10_isPlan_2 : decode cX10_isPlan 2 = .ok (.bipush 100, 2) := by decide +kernel
theorem dX10_isPlan_4 : decode cX10_isPlan 4 = .ok (.invokestatic 75, 3) := by decide +kernel
theorem dX10_isPlan_7 : decode cX10_isPlan 7 = .ok (.ifCond .eq 17, 3) := by decide +kernel
theorem dX10_isPlan_10 : decode cX10_isPlan 10 = .ok (.iload_n 1, 1) := by decide +kernel
theorem dX10_isPlan_11 : decode cX10_isPlan 11 = .ok (.iconst 0, 1) := by decide +kernel
theorem dX10_isPlan_12 : decode cX10_isPlan 12 = .ok (.ldc 70, 2) := by decide +kernel
theorem dX10_isPlan_14 : decode cX10_isPlan 14 = .ok (.invokestatic 75, 3) := by decide +kernel
theorem dX10_isPlan_17 : decode cX10_isPlan 17 = .ok (.ifCond .eq 7, 3) := by decide +kernel
theorem dX10_isPlan_20 : decode cX10_isPlan 20 = .ok (.iconst 1, 1) := by decide +kernel
theorem dX10_isPlan_21 : decode cX10_isPlan 21 = .ok (.goto 4, 3) := by decide +kernel
theorem dX10_isPlan_24 : decode cX10_isPlan 24 = .ok (.iconst 0, 1) := by decide +kernel
theorem dX10_isPlan_25 : decode cX10_isPlan 25 = .ok (.ireturn, 1) := by decide +kernel
theorem dX10_plan_0 : decode cX10_plan 0 = .ok (.iload_n 1, 1) := by decide +kernel
theorem dX10_plan_1 : decode cX10_plan 1 = .ok (.iload_n 2, 1) := by decide +kernel
theorem dX10_plan_2 : decode cX10_plan 2 = .ok (.invokestatic 261, 3) := by decide +kernel
theorem dX10_plan_5 : decode cX10_plan 5 = .ok (.ifCond .ne 10, 3) := by decide +kernel
theorem dX10_plan_8 : decode cX10_plan 8 = .ok (.aload_n 0, 1) := by decide +kernel
theorem dX10_plan_9 : decode cX10_plan 9 = .ok (.ldc 119, 2) := by decide +kernel
theorem dX10_plan_11 : decode cX10_plan 11 = .ok (.invokevirtual 120, 3) := by decide +kernel
theorem dX10_plan_14 : decode cX10_plan 14 = .ok (.ireturn, 1) := by decide +kernel
theorem dX10_plan_15 : decode cX10_plan 15 = .ok (.aload_n 0, 1) := by decide +kernel
theorem dX10_plan_16 : decode cX10_plan 16 = .ok (.iload_n 1, 1) := by decide +kernel
theorem dX10_plan_17 : decode cX10_plan 17 = .ok (.iload_n 2, 1) := by decide +kernel
theorem dX10_plan_18 : decode cX10_plan 18 = .ok (.invokevirtual 264, 3) := by decide +kernel
theorem dX10_plan_21 : decode cX10_plan 21 = .ok (.lstore_n 3, 1) := by decide +kernel
theorem dX10_plan_22 : decode cX10_plan 22 = .ok (.aload_n 0, 1) := by decide +kernel
theorem dX10_plan_23 : decode cX10_plan 23 = .ok (.getfield 256, 3) := by decide +kernel
theorem dX10_plan_26 : decode cX10_plan 26 = .ok (.ireturn, 1) := by decide +kernel
theorem dX10_worth_0 : decode cX10_worth 0 = .ok (.iload_n 1, 1) := by decide +kernel
theorem dX10_worth_1 : decode cX10_worth 1 = .ok (.iload_n 2, 1) := by decide +kernel
theorem dX10_worth_2 : decode cX10_worth 2 = .ok (.invokestatic 261, 3) := by decide +kernel
theorem dX10_worth_5 : decode cX10_worth 5 = .ok (.ifCond .eq 12, 3) := by decide +kernel
theorem dX10_worth_8 : decode cX10_worth 8 = .ok (.aload_n 0, 1) := by decide +kernel
theorem dX10_worth_9 : decode cX10_worth 9 = .ok (.iload_n 1, 1) := by decide +kernel
theorem dX10_worth_10 : decode cX10_worth 10 = .ok (.iload_n 2, 1) := by decide +kernel
theorem dX10_worth_11 : decode cX10_worth 11 = .ok (.invokevirtual 264, 3) := by decide +kernel
theorem dX10_worth_14 : decode cX10_worth 14 = .ok (.goto 10, 3) := by decide +kernel
theorem dX10_worth_17 : decode cX10_worth 17 = .ok (.aload_n 0, 1) := by decide +kernel
theorem dX10_worth_18 : decode cX10_worth 18 = .ok (.ldc 119, 2) := by decide +kernel
theorem dX10_worth_20 : decode cX10_worth 20 = .ok (.invokevirtual 120, 3) := by decide +kernel
theorem dX10_worth_23 : decode cX10_worth 23 = .ok (.i2l, 1) := by decide +kernel
theorem dX10_worth_24 : decode cX10_worth 24 = .ok (.lreturn, 1) := by decide +kernel
theorem dX10_wash_0 : decode cX10_wash 0 = .ok (.iload_n 1, 1) := by decide +kernel
theorem dX10_wash_1 : decode cX10_wash 1 = .ok (.iconst 0, 1) := by decide +kernel
theorem dX10_wash_2 : decode cX10_wash 2 = .ok (.iconst 1, 1) := by decide +kernel
theorem dX10_wash_3 : decode cX10_wash 3 = .ok (.aload_n 0, 1) := by decide +kernel
theorem dX10_wash_4 : decode cX10_wash 4 = .ok (.getfield 72, 3) := by decide +kernel
theorem dX10_wash_7 : decode cX10_wash 7 = .ok (.ishl, 1) := by decide +kernel
theorem dX10_wash_8 : decode cX10_wash 8 = .ok (.iconst 1, 1) := by decide +kernel
theorem dX10_wash_9 : decode cX10_wash 9 = .ok (.isub, 1) := by decide +kernel
theorem dX10_wash_10 : decode cX10_wash 10 = .ok (.invokestatic 75, 3) := by decide +kernel
theorem dX10_wash_13 : decode cX10_wash 13 = .ok (.ifCond .ne 10, 3) := by decide +kernel
theorem dX10_wash_16 : decode cX10_wash 16 = .ok (.aload_n 0, 1) := by decide +kernel
theorem dX10_wash_17 : decode cX10_wash 17 = .ok (.ldc 119, 2) := by decide +kernel
theorem dX10_wash_19 : decode cX10_wash 19 = .ok (.invokevirtual 120, 3) := by decide +kernel
theorem dX10_wash_22 : decode cX10_wash 22 = .ok (.ireturn, 1) := by decide +kernel
theorem dX10_wash_23 : decode cX10_wash 23 = .ok (.iconst 0, 1) := by decide +kernel
theorem dX10_wash_24 : decode cX10_wash 24 = .ok (.istore_n 2, 1) := by decide +kernel
theorem dX10_wash_25 : decode cX10_wash 25 = .ok (.iconst 0, 1) := by decide +kernel
theorem dX10_wash_26 : decode cX10_wash 26 = .ok (.istore_n 3, 1) := by decide +kernel
theorem dX10_wash_27 : decode cX10_wash 27 = .ok (.iload_n 3, 1) := by decide +kernel
theorem dX10_wash_28 : decode cX10_wash 28 = .ok (.aload_n 0, 1) := by decide +kernel
theorem dX10_wash_29 : decode cX10_wash 29 = .ok (.getfield 72, 3) := by decide +kernel
theorem dX10_wash_32 : decode cX10_wash 32 = .ok (.if_icmp .ge 42, 3) := by decide +kernel
theorem dX10_wash_35 : decode cX10_wash 35 = .ok (.iload_n 1, 1) := by decide +kernel
theorem dX10_wash_36 : decode cX10_wash 36 = .ok (.iload_n 3, 1) := by decide +kernel
theorem dX10_wash_37 : decode cX10_wash 37 = .ok (.ishr, 1) := by decide +kernel
theorem dX10_wash_38 : decode cX10_wash 38 = .ok (.iconst 1, 1) := by decide +kernel
theorem dX10_wash_39 : decode cX10_wash 39 = .ok (.iand, 1) := by decide +kernel
theorem dX10_wash_40 : decode cX10_wash 40 = .ok (.iconst 1, 1) := by decide +kernel
theorem dX10_wash_41 : decode cX10_wash 41 = .ok (.if_icmp .ne 27, 3) := by decide +kernel
theorem dX10_wash_44 : decode cX10_wash 44 = .ok (.iload_n 2, 1) := by decide +kernel
theorem dX10_wash_45 : decode cX10_wash 45 = .ok (.aload_n 0, 1) := by decide +kernel
theorem dX10_wash_46 : decode cX10_wash 46 = .ok (.getfield 22, 3) := by decide +kernel
theorem dX10_wash_49 : decode cX10_wash 49 = .ok (.iload_n 3, 1) := by decide +kernel
theorem dX10_wash_50 : decode cX10_wash 50 = .ok (.iaload, 1) := by decide +kernel
theorem dX10_wash_51 : decode cX10_wash 51 = .ok (.ifCond .le 7, 3) := by decide +kernel
theorem dX10_wash_54 : decode cX10_wash 54 = .ok (.iconst 1, 1) := by decide +kernel
theorem dX10_wash_55 : decode cX10_wash 55 = .ok (.goto 4, 3) := by decide +kernel
theorem dX10_wash_58 : decode cX10_wash 58 = .ok (.iconst 0, 1) := by decide +kernel
theorem dX10_wash_59 : decode cX10_wash 59 = .ok (.iadd, 1) := by decide +kernel
theorem dX10_wash_60 : decode cX10_wash 60 = .ok (.istore_n 2, 1) := by decide +kernel
theorem dX10_wash_61 : decode cX10_wash 61 = .ok (.aload_n 0, 1) := by decide +kernel
theorem dX10_wash_62 : decode cX10_wash 62 = .ok (.getfield 22, 3) := by decide +kernel
theorem dX10_wash_65 : decode cX10_wash 65 = .ok (.iload_n 3, 1) := by decide +kernel
theorem dX10_wash_66 : decode cX10_wash 66 = .ok (.iconst 0, 1) := by decide +kernel
theorem dX10_wash_67 : decode cX10_wash 67 = .ok (.iastore, 1) := by decide +kernel
theorem dX10_wash_68 : decode cX10_wash 68 = .ok (.iinc 3 1, 3) := by decide +kernel
theorem dX10_wash_71 : decode cX10_wash 71 = .ok (.goto (-44), 3) := by decide +kernel
theorem dX10_wash_74 : decode cX10_wash 74 = .ok (.iload_n 2, 1) := by decide +kernel
theorem dX10_wash_75 : decode cX10_wash 75 = .ok (.ireturn, 1) := by decide +kernel
theorem dX10_storm_0 : decode cX10_storm 0 = .ok (.iload_n 1, 1) := by decide +kernel
theorem dX10_storm_1 : decode cX10_storm 1 = .ok (.iconst 0, 1) := by decide +kernel
theorem dX10_storm_2 : decode cX10_storm 2 = .ok (.sipush 1000, 3) := by decide +kernel
theorem dX10_storm_5 : decode cX10_storm 5 = .ok (.invokestatic 75, 3) := by decide +kernel
theorem dX10_storm_8 : decode cX10_storm 8 = .ok (.ifCond .ne 10, 3) := by decide +kernel
theorem dX10_storm_11 : decode cX10_storm 11 = .ok (.aload_n 0, 1) := by decide +kernel
theorem dX10_storm_12 : decode cX10_storm 12 = .ok (.ldc 119, 2) := by decide +kernel
theorem dX10_storm_14 : decode cX10_storm 14 = .ok (.invokevirtual 120, 3) := by decide +kernel
theorem dX10_storm_17 : decode cX10_storm 17 = .ok (.ireturn, 1) := by decide +kernel
theorem dX10_storm_18 : decode cX10_storm 18 = .ok (.iconst 0, 1) := by decide +kernel
theorem dX10_storm_19 : decode cX10_storm 19 = .ok (.istore_n 2, 1) := by decide +kernel
theorem dX10_storm_20 : decode cX10_storm 20 = .ok (.iconst 0, 1) := by decide +kernel
theorem dX10_storm_21 : decode cX10_storm 21 = .ok (.istore_n 3, 1) := by decide +kernel
theorem dX10_storm_22 : decode cX10_storm 22 = .ok (.iload_n 3, 1) := by decide +kernel
theorem dX10_storm_23 : decode cX10_storm 23 = .ok (.aload_n 0, 1) := by decide +kernel
theorem dX10_storm_24 : decode cX10_storm 24 = .ok (.getfield 72, 3) := by decide +kernel
theorem dX10_storm_27 : decode cX10_storm 27 = .ok (.if_icmp .ge 52, 3) := by decide +kernel
theorem dX10_storm_30 : decode cX10_storm 30 = .ok (.aload_n 0, 1) := by decide +kernel
theorem dX10_storm_31 : decode cX10_storm 31 = .ok (.getfield 22, 3) := by decide +kernel
theorem dX10_storm_34 : decode cX10_storm 34 = .ok (.iload_n 3, 1) := by decide +kernel
theorem dX10_storm_35 : decode cX10_storm 35 = .ok (.aload_n 0, 1) := by decide +kernel
theorem dX10_storm_36 : decode cX10_storm 36 = .ok (.getfield 22, 3) := by decide +kernel
theorem dX10_storm_39 : decode cX10_storm 39 = .ok (.iload_n 3, 1) := by decide +kernel
theorem dX10_storm_40 : decode cX10_storm 40 = .ok (.iaload, 1) := by decide +kernel
theorem dX10_storm_41 : decode cX10_storm 41 = .ok (.iload_n 1, 1) := by decide +kernel
theorem dX10_storm_42 : decode cX10_storm 42 = .ok (.iadd, 1) := by decide +kernel
theorem dX10_storm_43 : decode cX10_storm 43 = .ok (.sipush 1000, 3) := by decide +kernel
theorem dX10_storm_46 : decode cX10_storm 46 = .ok (.if_icmp .le 9, 3) := by decide +kernel
theorem dX10_storm_49 : decode cX10_storm 49 = .ok (.sipush 1000, 3) := by decide +kernel
theorem dX10_storm_52 : decode cX10_storm 52 = .ok (.goto 11, 3) := by decide +kernel
theorem dX10_storm_55 : decode cX10_storm 55 = .ok (.aload_n 0, 1) := by decide +kernel
theorem dX10_storm_56 : decode cX10_storm 56 = .ok (.getfield 22, 3) := by decide +kernel
theorem dX10_storm_59 : decode cX10_storm 59 = .ok (.iload_n 3, 1) := by decide +kernel
theorem dX10_storm_60 : decode cX10_storm 60 = .ok (.iaload, 1) := by decide +kernel
theorem dX10_storm_61 : decode cX10_storm 61 = .ok (.iload_n 1, 1) := by decide +kernel
theorem dX10_storm_62 : decode cX10_storm 62 = .ok (.iadd, 1) := by decide +kernel
theorem dX10_storm_63 : decode cX10_storm 63 = .ok (.iastore, 1) := by decide +kernel
theorem dX10_storm_64 : decode cX10_storm 64 = .ok (.iload_n 2, 1) := by decide +kernel
theorem dX10_storm_65 : decode cX10_storm 65 = .ok (.aload_n 0, 1) := by decide +kernel
theorem dX10_storm_66 : decode cX10_storm 66 = .ok (.getfield 22, 3) := by decide +kernel
theorem dX10_storm_69 : decode cX10_storm 69 = .ok (.iload_n 3, 1) := by decide +kernel
theorem dX10_storm_70 : decode cX10_storm 70 = .ok (.iaload, 1) := by decide +kernel
theorem dX10_storm_71 : decode cX10_storm 71 = .ok (.iadd, 1) := by decide +kernel
theorem dX10_storm_72 : decode cX10_storm 72 = .ok (.istore_n 2, 1) := by decide +kernel
theorem dX10_storm_73 : decode cX10_storm 73 = .ok (.iinc 3 1, 3) := by decide +kernel
theorem dX10_storm_76 : decode cX10_storm 76 = .ok (.goto (-54), 3) := by decide +kernel
theorem dX10_storm_79 : decode cX10_storm 79 = .ok (.iload_n 2, 1) := by decide +kernel
theorem dX10_storm_80 : decode cX10_storm 80 = .ok (.ireturn, 1) := by decide +kernel
theorem dX10_tell_0 : decode cX10_tell 0 = .ok (.aload_n 0, 1) := by decide +kernel
theorem dX10_tell_1 : decode cX10_tell 1 = .ok (.getfield 141, 3) := by decide +kernel
theorem dX10_tell_4 : decode cX10_tell 4 = .ok (.bipush 72, 2) := by decide +kernel
theorem dX10_tell_6 : decode cX10_tell 6 = .ok (.if_icmp .ne 10, 3) := by decide +kernel
theorem dX10_tell_9 : decode cX10_tell 9 = .ok (.aload_n 0, 1) := by decide +kernel
theorem dX10_tell_10 : decode cX10_tell 10 = .ok (.ldc 125, 2) := by decide +kernel
theorem dX10_tell_12 : decode cX10_tell 12 = .ok (.invokevirtual 120, 3) := by decide +kernel
theorem dX10_tell_15 : decode cX10_tell 15 = .ok (.ireturn, 1) := by decide +kernel
theorem dX10_tell_16 : decode cX10_tell 16 = .ok (.aload_n 0, 1) := by decide +kernel
theorem dX10_tell_17 : decode cX10_tell 17 = .ok (.getfield 58, 3) := by decide +kernel
theorem dX10_tell_20 : decode cX10_tell 20 = .ok (.aload_n 0, 1) := by decide +kernel
theorem dX10_tell_21 : decode cX10_tell 21 = .ok (.getfield 141, 3) := by decide +kernel
theorem dX10_tell_24 : decode cX10_tell 24 = .ok (.iload_n 1, 1) := by decide +kernel
theorem dX10_tell_25 : decode cX10_tell 25 = .ok (.iastore, 1) := by decide +kernel
theorem dX10_tell_26 : decode cX10_tell 26 = .ok (.aload_n 0, 1) := by decide +kernel
theorem dX10_tell_27 : decode cX10_tell 27 = .ok (.dup, 1) := by decide +kernel
theorem dX10_tell_28 : decode cX10_tell 28 = .ok (.getfield 141, 3) := by decide +kernel
theorem dX10_tell_31 : decode cX10_tell 31 = .ok (.iconst 1, 1) := by decide +kernel
theorem dX10_tell_32 : decode cX10_tell 32 = .ok (.iadd, 1) := by decide +kernel
theorem dX10_tell_33 : decode cX10_tell 33 = .ok (.putfield 141, 3) := by decide +kernel
theorem dX10_tell_36 : decode cX10_tell 36 = .ok (.aload_n 0, 1) := by decide +kernel
theorem dX10_tell_37 : decode cX10_tell 37 = .ok (.getfield 141, 3) := by decide +kernel
theorem dX10_tell_40 : decode cX10_tell 40 = .ok (.ireturn, 1) := by decide +kernel
theorem dX10_check_0 : decode cX10_check 0 = .ok (.aload_n 0, 1) := by decide +kernel
theorem dX10_check_1 : decode cX10_check 1 = .ok (.getfield 141, 3) := by decide +kernel
theorem dX10_check_4 : decode cX10_check 4 = .ok (.istore_n 1, 1) := by decide +kernel
theorem dX10_check_5 : decode cX10_check 5 = .ok (.aload_n 0, 1) := by decide +kernel
theorem dX10_check_6 : decode cX10_check 6 = .ok (.iconst 0, 1) := by decide +kernel
theorem dX10_check_7 : decode cX10_check 7 = .ok (.putfield 141, 3) := by decide +kernel
theorem dX10_check_10 : decode cX10_check 10 = .ok (.aload_n 0, 1) := by decide +kernel
theorem dX10_check_11 : decode cX10_check 11 = .ok (.getfield 229, 3) := by decide +kernel
theorem dX10_check_14 : decode cX10_check 14 = .ok (.ifCond .ne 10, 3) := by decide +kernel
theorem dX10_check_17 : decode cX10_check 17 = .ok (.aload_n 0, 1) := by decide +kernel
theorem dX10_check_18 : decode cX10_check 18 = .ok (.ldc 126, 2) := by decide +kernel
theorem dX10_check_20 : decode cX10_check 20 = .ok (.invokevirtual 120, 3) := by decide +kernel
theorem dX10_check_23 : decode cX10_check 23 = .ok (.ireturn, 1) := by decide +kernel
theorem dX10_check_24 : decode cX10_check 24 = .ok (.iconst 0, 1) := by decide +kernel
theorem dX10_check_25 : decode cX10_check 25 = .ok (.istore_n 2, 1) := by decide +kernel
theorem dX10_check_26 : decode cX10_check 26 = .ok (.iload_n 2, 1) := by decide +kernel
theorem dX10_check_27 : decode cX10_check 27 = .ok (.bipush 6, 2) := by decide +kernel
theorem dX10_check_29 : decode cX10_check 29 = .ok (.if_icmp .ge 35, 3) := by decide +kernel
theorem dX10_check_32 : decode cX10_check 32 = .ok (.iload_n 2, 1) := by decide +kernel
theorem dX10_check_33 : decode cX10_check 33 = .ok (.iload_n 1, 1) := by decide +kernel
theorem dX10_check_34 : decode cX10_check 34 = .ok (.if_icmp .ge 20, 3) := by decide +kernel
theorem dX10_check_37 : decode cX10_check 37 = .ok (.aload_n 0, 1) := by decide +kernel
theorem dX10_check_38 : decode cX10_check 38 = .ok (.getfield 58, 3) := by decide +kernel
theorem dX10_check_41 : decode cX10_check 41 = .ok (.iload_n 2, 1) := by decide +kernel
theorem dX10_check_42 : decode cX10_check 42 = .ok (.iaload, 1) := by decide +kernel
theorem dX10_check_43 : decode cX10_check 43 = .ok (.i2l, 1) := by decide +kernel
theorem dX10_check_44 : decode cX10_check 44 = .ok (.aload_n 0, 1) := by decide +kernel
theorem dX10_check_45 : decode cX10_check 45 = .ok (.getfield 51, 3) := by decide +kernel
theorem dX10_check_48 : decode cX10_check 48 = .ok (.iload_n 2, 1) := by decide +kernel
theorem dX10_check_49 : decode cX10_check 49 = .ok (.laload, 1) := by decide +kernel
theorem dX10_check_50 : decode cX10_check 50 = .ok (.lcmp, 1) := by decide +kernel
theorem dX10_check_51 : decode cX10_check 51 = .ok (.ifCond .eq 7, 3) := by decide +kernel
theorem dX10_check_54 : decode cX10_check 54 = .ok (.iconst 1, 1) := by decide +kernel
theorem dX10_check_55 : decode cX10_check 55 = .ok (.iload_n 2, 1) := by decide +kernel
theorem dX10_check_56 : decode cX10_check 56 = .ok (.iadd, 1) := by decide +kernel
theorem dX10_check_57 : decode cX10_check 57 = .ok (.ireturn, 1) := by decide +kernel
theorem dX10_check_58 : decode cX10_check 58 = .ok (.iinc 2 1, 3) := by decide +kernel
theorem dX10_check_61 : decode cX10_check 61 = .ok (.goto (-35), 3) := by decide +kernel
theorem dX10_check_64 : decode cX10_check 64 = .ok (.iload_n 1, 1) := by decide +kernel
theorem dX10_check_65 : decode cX10_check 65 = .ok (.bipush 6, 2) := by decide +kernel
theorem dX10_check_67 : decode cX10_check 67 = .ok (.if_icmp .le 8, 3) := by decide +kernel
theorem dX10_check_70 : decode cX10_check 70 = .ok (.bipush 99, 2) := by decide +kernel
theorem dX10_check_72 : decode cX10_check 72 = .ok (.goto 4, 3) := by decide +kernel
theorem dX10_check_75 : decode cX10_check 75 = .ok (.iconst 0, 1) := by decide +kernel
theorem dX10_check_76 : decode cX10_check 76 = .ok (.ireturn, 1) := by decide +kernel
theorem dX10_found_0 : decode cX10_found 0 = .ok (.iload_n 1, 1) := by decide +kernel
theorem dX10_found_1 : decode cX10_found 1 = .ok (.ldc 124, 2) := by decide +kernel
theorem dX10_found_3 : decode cX10_found 3 = .ok (.ldc 119, 2) := by decide +kernel
theorem dX10_found_5 : decode cX10_found 5 = .ok (.invokestatic 75, 3) := by decide +kernel
theorem dX10_found_8 : decode cX10_found 8 = .ok (.ifCond .eq 15, 3) := by decide +kernel
theorem dX10_found_11 : decode cX10_found 11 = .ok (.aload_n 0, 1) := by decide +kernel
theorem dX10_found_12 : decode cX10_found 12 = .ok (.getfield 61, 3) := by decide +kernel
theorem dX10_found_15 : decode cX10_found 15 = .ok (.ldc 71, 2) := by decide +kernel
theorem dX10_found_17 : decode cX10_found 17 = .ok (.iload_n 1, 1) := by decide +kernel
theorem dX10_found_18 : decode cX10_found 18 = .ok (.isub, 1) := by decide +kernel
theorem dX10_found_19 : decode cX10_found 19 = .ok (.iaload, 1) := by decide +kernel
theorem dX10_found_20 : decode cX10_found 20 = .ok (.goto 9, 3) := by decide +kernel
theorem dX10_found_23 : decode cX10_found 23 = .ok (.aload_n 0, 1) := by decide +kernel
theorem dX10_found_24 : decode cX10_found 24 = .ok (.ldc 119, 2) := by decide +kernel
theorem dX10_found_26 : decode cX10_found 26 = .ok (.invokevirtual 120, 3) := by decide +kernel
theorem dX10_found_29 : decode cX10_found 29 = .ok (.ireturn, 1) := by decide +kernel
theorem dJ6_bitCount_0f7a4_0 : decode cJ6_bitCount_0f7a4 0 = .ok (.iload_n 0, 1) := by decide +kernel
theorem dJ6_bitCount_0f7a4_1 : decode cJ6_bitCount_0f7a4 1 = .ok (.iload_n 0, 1) := by decide +kernel
theorem dJ6_bitCount_0f7a4_2 : decode cJ6_bitCount_0f7a4 2 = .ok (.iconst 1, 1) := by decide +kernel
theorem dJ6_bitCount_0f7a4_3 : decode cJ6_bitCount_0f7a4 3 = .ok (.iushr, 1) := by decide +kernel
theorem dJ6_bitCount_0f7a4_4 : decode cJ6_bitCount_0f7a4 4 = .ok (.ldc_w 265, 3) := by decide +kernel
theorem dJ6_bitCount_0f7a4_7 : decode cJ6_bitCount_0f7a4 7 = .ok (.iand, 1) := by decide +kernel
theorem dJ6_bitCount_0f7a4_8 : decode cJ6_bitCount_0f7a4 8 = .ok (.isub, 1) := by decide +kernel
theorem dJ6_bitCount_0f7a4_9 : decode cJ6_bitCount_0f7a4 9 = .ok (.istore_n 0, 1) := by decide +kernel
theorem dJ6_bitCount_0f7a4_10 : decode cJ6_bitCount_0f7a4 10 = .ok (.iload_n 0, 1) := by decide +kernel
theorem dJ6_bitCount_0f7a4_11 : decode cJ6_bitCount_0f7a4 11 = .ok (.ldc_w 266, 3) := by decide +kernel
theorem dJ6_bitCount_0f7a4_14 : decode cJ6_bitCount_0f7a4 14 = .ok (.iand, 1) := by decide +kernel
theorem dJ6_bitCount_0f7a4_15 : decode cJ6_bitCount_0f7a4 15 = .ok (.iload_n 0, 1) := by decide +kernel
theorem dJ6_bitCount_0f7a4_16 : decode cJ6_bitCount_0f7a4 16 = .ok (.iconst 2, 1) := by decide +kernel
theorem dJ6_bitCount_0f7a4_17 : decode cJ6_bitCount_0f7a4 17 = .ok (.iushr, 1) := by decide +kernel
theorem dJ6_bitCount_0f7a4_18 : decode cJ6_bitCount_0f7a4 18 = .ok (.ldc_w 266, 3) := by decide +kernel
theorem dJ6_bitCount_0f7a4_21 : decode cJ6_bitCount_0f7a4 21 = .ok (.iand, 1) := by decide +kernel
theorem dJ6_bitCount_0f7a4_22 : decode cJ6_bitCount_0f7a4 22 = .ok (.iadd, 1) := by decide +kernel
theorem dJ6_bitCount_0f7a4_23 : decode cJ6_bitCount_0f7a4 23 = .ok (.istore_n 0, 1) := by decide +kernel
theorem dJ6_bitCount_0f7a4_24 : decode cJ6_bitCount_0f7a4 24 = .ok (.iload_n 0, 1) := by decide +kernel
theorem dJ6_bitCount_0f7a4_25 : decode cJ6_bitCount_0f7a4 25 = .ok (.iload_n 0, 1) := by decide +kernel
theorem dJ6_bitCount_0f7a4_26 : decode cJ6_bitCount_0f7a4 26 = .ok (.iconst 4, 1) := by decide +kernel
theorem dJ6_bitCount_0f7a4_27 : decode cJ6_bitCount_0f7a4 27 = .ok (.iushr, 1) := by decide +kernel
theorem dJ6_bitCount_0f7a4_28 : decode cJ6_bitCount_0f7a4 28 = .ok (.iadd, 1) := by decide +kernel
theorem dJ6_bitCount_0f7a4_29 : decode cJ6_bitCount_0f7a4 29 = .ok (.ldc_w 267, 3) := by decide +kernel
theorem dJ6_bitCount_0f7a4_32 : decode cJ6_bitCount_0f7a4 32 = .ok (.iand, 1) := by decide +kernel
theorem dJ6_bitCount_0f7a4_33 : decode cJ6_bitCount_0f7a4 33 = .ok (.istore_n 0, 1) := by decide +kernel
theorem dJ6_bitCount_0f7a4_34 : decode cJ6_bitCount_0f7a4 34 = .ok (.iload_n 0, 1) := by decide +kernel
theorem dJ6_bitCount_0f7a4_35 : decode cJ6_bitCount_0f7a4 35 = .ok (.iload_n 0, 1) := by decide +kernel
theorem dJ6_bitCount_0f7a4_36 : decode cJ6_bitCount_0f7a4 36 = .ok (.bipush 8, 2) := by decide +kernel
theorem dJ6_bitCount_0f7a4_38 : decode cJ6_bitCount_0f7a4 38 = .ok (.iushr, 1) := by decide +kernel
theorem dJ6_bitCount_0f7a4_39 : decode cJ6_bitCount_0f7a4 39 = .ok (.iadd, 1) := by decide +kernel
theorem dJ6_bitCount_0f7a4_40 : decode cJ6_bitCount_0f7a4 40 = .ok (.istore_n 0, 1) := by decide +kernel
theorem dJ6_bitCount_0f7a4_41 : decode cJ6_bitCount_0f7a4 41 = .ok (.iload_n 0, 1) := by decide +kernel
theorem dJ6_bitCount_0f7a4_42 : decode cJ6_bitCount_0f7a4 42 = .ok (.iload_n 0, 1) := by decide +kernel
theorem dJ6_bitCount_0f7a4_43 : decode cJ6_bitCount_0f7a4 43 = .ok (.bipush 16, 2) := by decide +kernel
theorem dJ6_bitCount_0f7a4_45 : decode cJ6_bitCount_0f7a4 45 = .ok (.iushr, 1) := by decide +kernel
theorem dJ6_bitCount_0f7a4_46 : decode cJ6_bitCount_0f7a4 46 = .ok (.iadd, 1) := by decide +kernel
theorem dJ6_bitCount_0f7a4_47 : decode cJ6_bitCount_0f7a4 47 = .ok (.istore_n 0, 1) := by decide +kernel
theorem dJ6_bitCount_0f7a4_48 : decode cJ6_bitCount_0f7a4 48 = .ok (.iload_n 0, 1) := by decide +kernel
theorem dJ6_bitCount_0f7a4_49 : decode cJ6_bitCount_0f7a4 49 = .ok (.bipush 63, 2) := by decide +kernel
theorem dJ6_bitCount_0f7a4_51 : decode cJ6_bitCount_0f7a4 51 = .ok (.iand, 1) := by decide +kernel
theorem dJ6_bitCount_0f7a4_52 : decode cJ6_bitCount_0f7a4 52 = .ok (.ireturn, 1) := by decide +kernel
theorem dJ9_abs_0f7a4_0 : decode cJ9_abs_0f7a4 0 = .ok (.iload_n 0, 1) := by decide +kernel
theorem dJ9_abs_0f7a4_1 : decode cJ9_abs_0f7a4 1 = .ok (.ifCond .ge 8, 3) := by decide +kernel
theorem dJ9_abs_0f7a4_4 : decode cJ9_abs_0f7a4 4 = .ok (.iload_n 0, 1) := by decide +kernel
theorem dJ9_abs_0f7a4_5 : decode cJ9_abs_0f7a4 5 = .ok (.ineg, 1) := by decide +kernel
theorem dJ9_abs_0f7a4_6 : decode cJ9_abs_0f7a4 6 = .ok (.goto 4, 3) := by decide +kernel
theorem dJ9_abs_0f7a4_9 : decode cJ9_abs_0f7a4 9 = .ok (.iload_n 0, 1) := by decide +kernel
theorem dJ9_abs_0f7a4_10 : decode cJ9_abs_0f7a4 10 = .ok (.ireturn, 1) := by decide +kernel
theorem dJ9_max_7cf53_0 : decode cJ9_max_7cf53 0 = .ok (.iload_n 0, 1) := by decide +kernel
theorem dJ9_max_7cf53_1 : decode cJ9_max_7cf53 1 = .ok (.iload_n 1, 1) := by decide +kernel
theorem dJ9_max_7cf53_2 : decode cJ9_max_7cf53 2 = .ok (.if_icmp .lt 7, 3) := by decide +kernel
theorem dJ9_max_7cf53_5 : decode cJ9_max_7cf53 5 = .ok (.iload_n 0, 1) := by decide +kernel
theorem dJ9_max_7cf53_6 : decode cJ9_max_7cf53 6 = .ok (.goto 4, 3) := by decide +kernel
theorem dJ9_max_7cf53_9 : decode cJ9_max_7cf53 9 = .ok (.iload_n 1, 1) := by decide +kernel
theorem dJ9_max_7cf53_10 : decode cJ9_max_7cf53 10 = .ok (.ireturn, 1) := by decide +kernel
theorem dJ9_max_f86c9_0 : decode cJ9_max_f86c9 0 = .ok (.lload_n 0, 1) := by decide +kernel
theorem dJ9_max_f86c9_1 : decode cJ9_max_f86c9 1 = .ok (.lload_n 2, 1) := by decide +kernel
theorem dJ9_max_f86c9_2 : decode cJ9_max_f86c9 2 = .ok (.lcmp, 1) := by decide +kernel
theorem dJ9_max_f86c9_3 : decode cJ9_max_f86c9 3 = .ok (.ifCond .lt 7, 3) := by decide +kernel
theorem dJ9_max_f86c9_6 : decode cJ9_max_f86c9 6 = .ok (.lload_n 0, 1) := by decide +kernel
theorem dJ9_max_f86c9_7 : decode cJ9_max_f86c9 7 = .ok (.goto 4, 3) := by decide +kernel
theorem dJ9_max_f86c9_10 : decode cJ9_max_f86c9 10 = .ok (.lload_n 2, 1) := by decide +kernel
theorem dJ9_max_f86c9_11 : decode cJ9_max_f86c9 11 = .ok (.lreturn, 1) := by decide +kernel
theorem dJ9_min_7cf53_0 : decode cJ9_min_7cf53 0 = .ok (.iload_n 0, 1) := by decide +kernel
theorem dJ9_min_7cf53_1 : decode cJ9_min_7cf53 1 = .ok (.iload_n 1, 1) := by decide +kernel
theorem dJ9_min_7cf53_2 : decode cJ9_min_7cf53 2 = .ok (.if_icmp .gt 7, 3) := by decide +kernel
theorem dJ9_min_7cf53_5 : decode cJ9_min_7cf53 5 = .ok (.iload_n 0, 1) := by decide +kernel
theorem dJ9_min_7cf53_6 : decode cJ9_min_7cf53 6 = .ok (.goto 4, 3) := by decide +kernel
theorem dJ9_min_7cf53_9 : decode cJ9_min_7cf53 9 = .ok (.iload_n 1, 1) := by decide +kernel
theorem dJ9_min_7cf53_10 : decode cJ9_min_7cf53 10 = .ok (.ireturn, 1) := by decide +kernel
theorem dJ9_min_f86c9_0 : decode cJ9_min_f86c9 0 = .ok (.lload_n 0, 1) := by decide +kernel
theorem dJ9_min_f86c9_1 : decode cJ9_min_f86c9 1 = .ok (.lload_n 2, 1) := by decide +kernel
theorem dJ9_min_f86c9_2 : decode cJ9_min_f86c9 2 = .ok (.lcmp, 1) := by decide +kernel
theorem dJ9_min_f86c9_3 : decode cJ9_min_f86c9 3 = .ok (.ifCond .gt 7, 3) := by decide +kernel
theorem dJ9_min_f86c9_6 : decode cJ9_min_f86c9 6 = .ok (.lload_n 0, 1) := by decide +kernel
theorem dJ9_min_f86c9_7 : decode cJ9_min_f86c9 7 = .ok (.goto 4, 3) := by decide +kernel
theorem dJ9_min_f86c9_10 : decode cJ9_min_f86c9 10 = .ok (.lload_n 2, 1) := by decide +kernel
theorem dJ9_min_f86c9_11 : decode cJ9_min_f86c9 11 = .ok (.lreturn, 1) := by decide +kernel
theorem dL_law_0 : decode cL_law 0 = .ok (.new 7, 3) := by decide +kernel
theorem dL_law_3 : decode cL_law 3 = .ok (.dup, 1) := by decide +kernel
theorem dL_law_4 : decode cL_law 4 = .ok (.invokespecial 9, 3) := by decide +kernel
theorem dL_law_7 : decode cL_law 7 = .ok (.astore_n 1, 1) := by decide +kernel
theorem dL_law_8 : decode cL_law 8 = .ok (.new 10, 3) := by decide +kernel
theorem dL_law_11 : decode cL_law 11 = .ok (.dup, 1) := by decide +kernel
theorem dL_law_12 : decode cL_law 12 = .ok (.invokespecial 12, 3) := by decide +kernel
theorem dL_law_15 : decode cL_law 15 = .ok (.astore_n 2, 1) := by decide +kernel
theorem dL_law_16 : decode cL_law 16 = .ok (.iconst 0, 1) := by decide +kernel
theorem dL_law_17 : decode cL_law 17 = .ok (.istore_n 3, 1) := by decide +kernel
theorem dL_law_18 : decode cL_law 18 = .ok (.iload_n 3, 1) := by decide +kernel
theorem dL_law_19 : decode cL_law 19 = .ok (.aload_n 0, 1) := by decide +kernel
theorem dL_law_20 : decode cL_law 20 = .ok (.arraylength, 1) := by decide +kernel
theorem dL_law_21 : decode cL_law 21 = .ok (.bipush 6, 2) := by decide +kernel
theorem dL_law_23 : decode cL_law 23 = .ok (.isub, 1) := by decide +kernel
theorem dL_law_24 : decode cL_law 24 = .ok (.if_icmp .gt 1076, 3) := by decide +kernel
theorem dL_law_27 : decode cL_law 27 = .ok (.aload_n 0, 1) := by decide +kernel
theorem dL_law_28 : decode cL_law 28 = .ok (.iload_n 3, 1) := by decide +kernel
theorem dL_law_29 : decode cL_law 29 = .ok (.iaload, 1) := by decide +kernel
theorem dL_law_30 : decode cL_law 30 = .ok (.bipush 31, 2) := by decide +kernel
theorem dL_law_32 : decode cL_law 32 = .ok (.iand, 1) := by decide +kernel
theorem dL_law_33 : decode cL_law 33 = .ok (.tableswitch 1061 0 31 #[143, 206, 219, 252, 285, 318, 351, 394, 407, 430, 453, 487, 521, 554, 587, 620, 653, 686, 719, 742, 791, 804, 828, 852, 876, 889, 922, 956, 979, 1002, 1025, 1038], 143) := by decide +kernel
theorem dL_law_176 : decode cL_law 176 = .ok (.aload_n 1, 1) := by decide +kernel
theorem dL_law_177 : decode cL_law 177 = .ok (.aload_n 0, 1) := by decide +kernel
theorem dL_law_178 : decode cL_law 178 = .ok (.iload_n 3, 1) := by decide +kernel
theorem dL_law_179 : decode cL_law 179 = .ok (.iconst 1, 1) := by decide +kernel
theorem dL_law_180 : decode cL_law 180 = .ok (.iadd, 1) := by decide +kernel
theorem dL_law_181 : decode cL_law 181 = .ok (.iaload, 1) := by decide +kernel
theorem dL_law_182 : decode cL_law 182 = .ok (.aload_n 0, 1) := by decide +kernel
theorem dL_law_183 : decode cL_law 183 = .ok (.iload_n 3, 1) := by decide +kernel
theorem dL_law_184 : decode cL_law 184 = .ok (.iconst 2, 1) := by decide +kernel
theorem dL_law_185 : decode cL_law 185 = .ok (.iadd, 1) := by decide +kernel
theorem dL_law_186 : decode cL_law 186 = .ok (.iaload, 1) := by decide +kernel
theorem dL_law_187 : decode cL_law 187 = .ok (.aload_n 0, 1) := by decide +kernel
theorem dL_law_188 : decode cL_law 188 = .ok (.iload_n 3, 1) := by decide +kernel
theorem dL_law_189 : decode cL_law 189 = .ok (.iconst 3, 1) := by decide +kernel
theorem dL_law_190 : decode cL_law 190 = .ok (.iadd, 1) := by decide +kernel
theorem dL_law_191 : decode cL_law 191 = .ok (.iaload, 1) := by decide +kernel
theorem dL_law_192 : decode cL_law 192 = .ok (.aload_n 0, 1) := by decide +kernel
theorem dL_law_193 : decode cL_law 193 = .ok (.iload_n 3, 1) := by decide +kernel
theorem dL_law_194 : decode cL_law 194 = .ok (.iconst 4, 1) := by decide +kernel
theorem dL_law_195 : decode cL_law 195 = .ok (.iadd, 1) := by decide +kernel
theorem dL_law_196 : decode cL_law 196 = .ok (.iaload, 1) := by decide +kernel
theorem dL_law_197 : decode cL_law 197 = .ok (.aload_n 0, 1) := by decide +kernel
theorem dL_law_198 : decode cL_law 198 = .ok (.iload_n 3, 1) := by decide +kernel
theorem dL_law_199 : decode cL_law 199 = .ok (.iconst 5, 1) := by decide +kernel
theorem dL_law_200 : decode cL_law 200 = .ok (.iadd, 1) := by decide +kernel
theorem dL_law_201 : decode cL_law 201 = .ok (.iaload, 1) := by decide +kernel
theorem dL_law_202 : decode cL_law 202 = .ok (.invokevirtual 13, 3) := by decide +kernel
theorem dL_law_205 : decode cL_law 205 = .ok (.aload_n 2, 1) := by decide +kernel
theorem dL_law_206 : decode cL_law 206 = .ok (.aload_n 0, 1) := by decide +kernel
theorem dL_law_207 : decode cL_law 207 = .ok (.iload_n 3, 1) := by decide +kernel
theorem dL_law_208 : decode cL_law 208 = .ok (.iconst 1, 1) := by decide +kernel
theorem dL_law_209 : decode cL_law 209 = .ok (.iadd, 1) := by decide +kernel
theorem dL_law_210 : decode cL_law 210 = .ok (.iaload, 1) := by decide +kernel
theorem dL_law_211 : decode cL_law 211 = .ok (.aload_n 0, 1) := by decide +kernel
theorem dL_law_212 : decode cL_law 212 = .ok (.iload_n 3, 1) := by decide +kernel
theorem dL_law_213 : decode cL_law 213 = .ok (.iconst 2, 1) := by decide +kernel
theorem dL_law_214 : decode cL_law 214 = .ok (.iadd, 1) := by decide +kernel
theorem dL_law_215 : decode cL_law 215 = .ok (.iaload, 1) := by decide +kernel
theorem dL_law_216 : decode cL_law 216 = .ok (.aload_n 0, 1) := by decide +kernel
theorem dL_law_217 : decode cL_law 217 = .ok (.iload_n 3, 1) := by decide +kernel
theorem dL_law_218 : decode cL_law 218 = .ok (.iconst 3, 1) := by decide +kernel
theorem dL_law_219 : decode cL_law 219 = .ok (.iadd, 1) := by decide +kernel
theorem dL_law_220 : decode cL_law 220 = .ok (.iaload, 1) := by decide +kernel
theorem dL_law_221 : decode cL_law 221 = .ok (.aload_n 0, 1) := by decide +kernel
theorem dL_law_222 : decode cL_law 222 = .ok (.iload_n 3, 1) := by decide +kernel
theorem dL_law_223 : decode cL_law 223 = .ok (.iconst 4, 1) := by decide +kernel
theorem dL_law_224 : decode cL_law 224 = .ok (.iadd, 1) := by decide +kernel
theorem dL_law_225 : decode cL_law 225 = .ok (.iaload, 1) := by decide +kernel
theorem dL_law_226 : decode cL_law 226 = .ok (.aload_n 0, 1) := by decide +kernel
theorem dL_law_227 : decode cL_law 227 = .ok (.iload_n 3, 1) := by decide +kernel
theorem dL_law_228 : decode cL_law 228 = .ok (.iconst 5, 1) := by decide +kernel
theorem dL_law_229 : decode cL_law 229 = .ok (.iadd, 1) := by decide +kernel
theorem dL_law_230 : decode cL_law 230 = .ok (.iaload, 1) := by decide +kernel
theorem dL_law_231 : decode cL_law 231 = .ok (.invokevirtual 17, 3) := by decide +kernel
theorem dL_law_234 : decode cL_law 234 = .ok (.if_icmp .eq 860, 3) := by decide +kernel
theorem dL_law_237 : decode cL_law 237 = .ok (.iconst 0, 1) := by decide +kernel
theorem dL_law_238 : decode cL_law 238 = .ok (.ireturn, 1) := by decide +kernel
theorem dL_law_239 : decode cL_law 239 = .ok (.aload_n 1, 1) := by decide +kernel
theorem dL_law_240 : decode cL_law 240 = .ok (.invokevirtual 18, 3) := by decide +kernel
theorem dL_law_243 : decode cL_law 243 = .ok (.aload_n 2, 1) := by decide +kernel
theorem dL_law_244 : decode cL_law 244 = .ok (.invokevirtual 22, 3) := by decide +kernel
theorem dL_law_247 : decode cL_law 247 = .ok (.if_icmp .eq 847, 3) := by decide +kernel
theorem dL_law_250 : decode cL_law 250 = .ok (.iconst 0, 1) := by decide +kernel
theorem dL_law_251 : decode cL_law 251 = .ok (.ireturn, 1) := by decide +kernel
theorem dL_law_252 : decode cL_law 252 = .ok (.aload_n 1, 1) := by decide +kernel
theorem dL_law_253 : decode cL_law 253 = .ok (.aload_n 0, 1) := by decide +kernel
theorem dL_law_254 : decode cL_law 254 = .ok (.iload_n 3, 1) := by decide +kernel
theorem dL_law_255 : decode cL_law 255 = .ok (.iconst 1, 1) := by decide +kernel
theorem dL_law_256 : decode cL_law 256 = .ok (.iadd, 1) := by decide +kernel
theorem dL_law_257 : decode cL_law 257 = .ok (.iaload, 1) := by decide +kernel
theorem dL_law_258 : decode cL_law 258 = .ok (.aload_n 0, 1) := by decide +kernel
theorem dL_law_259 : decode cL_law 259 = .ok (.iload_n 3, 1) := by decide +kernel
theorem dL_law_260 : decode cL_law 260 = .ok (.iconst 2, 1) := by decide +kernel
theorem dL_law_261 : decode cL_law 261 = .ok (.iadd, 1) := by decide +kernel
theorem dL_law_262 : decode cL_law 262 = .ok (.iaload, 1) := by decide +kernel
theorem dL_law_263 : decode cL_law 263 = .ok (.invokevirtual 23, 3) := by decide +kernel
theorem dL_law_266 : decode cL_law 266 = .ok (.aload_n 2, 1) := by decide +kernel
theorem dL_law_267 : decode cL_law 267 = .ok (.aload_n 0, 1) := by decide +kernel
theorem dL_law_268 : decode cL_law 268 = .ok (.iload_n 3, 1) := by decide +kernel
theorem dL_law_269 : decode cL_law 269 = .ok (.iconst 1, 1) := by decide +kernel
theorem dL_law_270 : decode cL_law 270 = .ok (.iadd, 1) := by decide +kernel
theorem dL_law_271 : decode cL_law 271 = .ok (.iaload, 1) := by decide +kernel
theorem dL_law_272 : decode cL_law 272 = .ok (.aload_n 0, 1) := by decide +kernel
theorem dL_law_273 : decode cL_law 273 = .ok (.iload_n 3, 1) := by decide +kernel
theorem dL_law_274 : decode cL_law 274 = .ok (.iconst 2, 1) := by decide +kernel
theorem dL_law_275 : decode cL_law 275 = .ok (.iadd, 1) := by decide +kernel
theorem dL_law_276 : decode cL_law 276 = .ok (.iaload, 1) := by decide +kernel
theorem dL_law_277 : decode cL_law 277 = .ok (.invokevirtual 27, 3) := by decide +kernel
theorem dL_law_280 : decode cL_law 280 = .ok (.if_icmp .eq 814, 3) := by decide +kernel
theorem dL_law_283 : decode cL_law 283 = .ok (.iconst 0, 1) := by decide +kernel
theorem dL_law_284 : decode cL_law 284 = .ok (.ireturn, 1) := by decide +kernel
theorem dL_law_285 : decode cL_law 285 = .ok (.aload_n 1, 1) := by decide +kernel
theorem dL_law_286 : decode cL_law 286 = .ok (.aload_n 0, 1) := by decide +kernel
theorem dL_law_287 : decode cL_law 287 = .ok (.iload_n 3, 1) := by decide +kernel
theorem dL_law_288 : decode cL_law 288 = .ok (.iconst 1, 1) := by decide +kernel
theorem dL_law_289 : decode cL_law 289 = .ok (.iadd, 1) := by decide +kernel
theorem dL_law_290 : decode cL_law 290 = .ok (.iaload, 1) := by decide +kernel
theorem dL_law_291 : decode cL_law 291 = .ok (.aload_n 0, 1) := by decide +kernel
theorem dL_law_292 : decode cL_law 292 = .ok (.iload_n 3, 1) := by decide +kernel
theorem dL_law_293 : decode cL_law 293 = .ok (.iconst 2, 1) := by decide +kernel
theorem dL_law_294 : decode cL_law 294 = .ok (.iadd, 1) := by decide +kernel
theorem dL_law_295 : decode cL_law 295 = .ok (.iaload, 1) := by decide +kernel
theorem dL_law_296 : decode cL_law 296 = .ok (.invokevirtual 28, 3) := by decide +kernel
theorem dL_law_299 : decode cL_law 299 = .ok (.aload_n 2, 1) := by decide +kernel
theorem dL_law_300 : decode cL_law 300 = .ok (.aload_n 0, 1) := by decide +kernel
theorem dL_law_301 : decode cL_law 301 = .ok (.iload_n 3, 1) := by decide +kernel
theorem dL_law_302 : decode cL_law 302 = .ok (.iconst 1, 1) := by decide +kernel
theorem dL_law_303 : decode cL_law 303 = .ok (.iadd, 1) := by decide +kernel
theorem dL_law_304 : decode cL_law 304 = .ok (.iaload, 1) := by decide +kernel
theorem dL_law_305 : decode cL_law 305 = .ok (.aload_n 0, 1) := by decide +kernel
theorem dL_law_306 : decode cL_law 306 = .ok (.iload_n 3, 1) := by decide +kernel
theorem dL_law_307 : decode cL_law 307 = .ok (.iconst 2, 1) := by decide +kernel
theorem dL_law_308 : decode cL_law 308 = .ok (.iadd, 1) := by decide +kernel
theorem dL_law_309 : decode cL_law 309 = .ok (.iaload, 1) := by decide +kernel
theorem dL_law_310 : decode cL_law 310 = .ok (.invokevirtual 31, 3) := by decide +kernel
theorem dL_law_313 : decode cL_law 313 = .ok (.if_icmp .eq 781, 3) := by decide +kernel
theorem dL_law_316 : decode cL_law 316 = .ok (.iconst 0, 1) := by decide +kernel
theorem dL_law_317 : decode cL_law 317 = .ok (.ireturn, 1) := by decide +kernel
theorem dL_law_318 : decode cL_law 318 = .ok (.aload_n 1, 1) := by decide +kernel
theorem dL_law_319 : decode cL_law 319 = .ok (.aload_n 0, 1) := by decide +kernel
theorem dL_law_320 : decode cL_law 320 = .ok (.iload_n 3, 1) := by decide +kernel
theorem dL_law_321 : decode cL_law 321 = .ok (.iconst 1, 1) := by decide +kernel
theorem dL_law_322 : decode cL_law 322 = .ok (.iadd, 1) := by decide +kernel
theorem dL_law_323 : decode cL_law 323 = .ok (.iaload, 1) := by decide +kernel
theorem dL_law_324 : decode cL_law 324 = .ok (.aload_n 0, 1) := by decide +kernel
theorem dL_law_325 : decode cL_law 325 = .ok (.iload_n 3, 1) := by decide +kernel
theorem dL_law_326 : decode cL_law 326 = .ok (.iconst 2, 1) := by decide +kernel
theorem dL_law_327 : decode cL_law 327 = .ok (.iadd, 1) := by decide +kernel
theorem dL_law_328 : decode cL_law 328 = .ok (.iaload, 1) := by decide +kernel
theorem dL_law_329 : decode cL_law 329 = .ok (.invokevirtual 32, 3) := by decide +kernel
theorem dL_law_332 : decode cL_law 332 = .ok (.aload_n 2, 1) := by decide +kernel
theorem dL_law_333 : decode cL_law 333 = .ok (.aload_n 0, 1) := by decide +kernel
theorem dL_law_334 : decode cL_law 334 = .ok (.iload_n 3, 1) := by decide +kernel
theorem dL_law_335 : decode cL_law 335 = .ok (.iconst 1, 1) := by decide +kernel
theorem dL_law_336 : decode cL_law 336 = .ok (.iadd, 1) := by decide +kernel
theorem dL_law_337 : decode cL_law 337 = .ok (.iaload, 1) := by decide +kernel
theorem dL_law_338 : decode cL_law 338 = .ok (.aload_n 0, 1) := by decide +kernel
theorem dL_law_339 : decode cL_law 339 = .ok (.iload_n 3, 1) := by decide +kernel
theorem dL_law_340 : decode cL_law 340 = .ok (.iconst 2, 1) := by decide +kernel
theorem dL_law_341 : decode cL_law 341 = .ok (.iadd, 1) := by decide +kernel
theorem dL_law_342 : decode cL_law 342 = .ok (.iaload, 1) := by decide +kernel
theorem dL_law_343 : decode cL_law 343 = .ok (.invokevirtual 35, 3) := by decide +kernel
theorem dL_law_346 : decode cL_law 346 = .ok (.if_icmp .eq 748, 3) := by decide +kernel
theorem dL_law_349 : decode cL_law 349 = .ok (.iconst 0, 1) := by decide +kernel
theorem dL_law_350 : decode cL_law 350 = .ok (.ireturn, 1) := by decide +kernel
theorem dL_law_351 : decode cL_law 351 = .ok (.aload_n 1, 1) := by decide +kernel
theorem dL_law_352 : decode cL_law 352 = .ok (.aload_n 0, 1) := by decide +kernel
theorem dL_law_353 : decode cL_law 353 = .ok (.iload_n 3, 1) := by decide +kernel
theorem dL_law_354 : decode cL_law 354 = .ok (.iconst 1, 1) := by decide +kernel
theorem dL_law_355 : decode cL_law 355 = .ok (.iadd, 1) := by decide +kernel
theorem dL_law_356 : decode cL_law 356 = .ok (.iaload, 1) := by decide +kernel
theorem dL_law_357 : decode cL_law 357 = .ok (.aload_n 0, 1) := by decide +kernel
theorem dL_law_358 : decode cL_law 358 = .ok (.iload_n 3, 1) := by decide +kernel
theorem dL_law_359 : decode cL_law 359 = .ok (.iconst 2, 1) := by decide +kernel
theorem dL_law_360 : decode cL_law 360 = .ok (.iadd, 1) := by decide +kernel
theorem dL_law_361 : decode cL_law 361 = .ok (.iaload, 1) := by decide +kernel
theorem dL_law_362 : decode cL_law 362 = .ok (.invokevirtual 36, 3) := by decide +kernel
theorem dL_law_365 : decode cL_law 365 = .ok (.aload_n 2, 1) := by decide +kernel
theorem dL_law_366 : decode cL_law 366 = .ok (.aload_n 0, 1) := by decide +kernel
theorem dL_law_367 : decode cL_law 367 = .ok (.iload_n 3, 1) := by decide +kernel
theorem dL_law_368 : decode cL_law 368 = .ok (.iconst 1, 1) := by decide +kernel
theorem dL_law_369 : decode cL_law 369 = .ok (.iadd, 1) := by decide +kernel
theorem dL_law_370 : decode cL_law 370 = .ok (.iaload, 1) := by decide +kernel
theorem dL_law_371 : decode cL_law 371 = .ok (.aload_n 0, 1) := by decide +kernel
theorem dL_law_372 : decode cL_law 372 = .ok (.iload_n 3, 1) := by decide +kernel
theorem dL_law_373 : decode cL_law 373 = .ok (.iconst 2, 1) := by decide +kernel
theorem dL_law_374 : decode cL_law 374 = .ok (.iadd, 1) := by decide +kernel
theorem dL_law_375 : decode cL_law 375 = .ok (.iaload, 1) := by decide +kernel
theorem dL_law_376 : decode cL_law 376 = .ok (.invokevirtual 39, 3) := by decide +kernel
theorem dL_law_379 : decode cL_law 379 = .ok (.if_icmp .eq 715, 3) := by decide +kernel
theorem dL_law_382 : decode cL_law 382 = .ok (.iconst 0, 1) := by decide +kernel
theorem dL_law_383 : decode cL_law 383 = .ok (.ireturn, 1) := by decide +kernel
theorem dL_law_384 : decode cL_law 384 = .ok (.aload_n 1, 1) := by decide +kernel
theorem dL_law_385 : decode cL_law 385 = .ok (.aload_n 0, 1) := by decide +kernel
theorem dL_law_386 : decode cL_law 386 = .ok (.iload_n 3, 1) := by decide +kernel
theorem dL_law_387 : decode cL_law 387 = .ok (.iconst 1, 1) := by decide +kernel
theorem dL_law_388 : decode cL_law 388 = .ok (.iadd, 1) := by decide +kernel
theorem dL_law_389 : decode cL_law 389 = .ok (.iaload, 1) := by decide +kernel
theorem dL_law_390 : decode cL_law 390 = .ok (.aload_n 0, 1) := by decide +kernel
theorem dL_law_391 : decode cL_law 391 = .ok (.iload_n 3, 1) := by decide +kernel
theorem dL_law_392 : decode cL_law 392 = .ok (.iconst 2, 1) := by decide +kernel
theorem dL_law_393 : decode cL_law 393 = .ok (.iadd, 1) := by decide +kernel
theorem dL_law_394 : decode cL_law 394 = .ok (.iaload, 1) := by decide +kernel
theorem dL_law_395 : decode cL_law 395 = .ok (.aload_n 0, 1) := by decide +kernel
theorem dL_law_396 : decode cL_law 396 = .ok (.iload_n 3, 1) := by decide +kernel
theorem dL_law_397 : decode cL_law 397 = .ok (.iconst 3, 1) := by decide +kernel
theorem dL_law_398 : decode cL_law 398 = .ok (.iadd, 1) := by decide +kernel
theorem dL_law_399 : decode cL_law 399 = .ok (.iaload, 1) := by decide +kernel
theorem dL_law_400 : decode cL_law 400 = .ok (.invokevirtual 40, 3) := by decide +kernel
theorem dL_law_403 : decode cL_law 403 = .ok (.aload_n 2, 1) := by decide +kernel
theorem dL_law_404 : decode cL_law 404 = .ok (.aload_n 0, 1) := by decide +kernel
theorem dL_law_405 : decode cL_law 405 = .ok (.iload_n 3, 1) := by decide +kernel
theorem dL_law_406 : decode cL_law 406 = .ok (.iconst 1, 1) := by decide +kernel
theorem dL_law_407 : decode cL_law 407 = .ok (.iadd, 1) := by decide +kernel
theorem dL_law_408 : decode cL_law 408 = .ok (.iaload, 1) := by decide +kernel
theorem dL_law_409 : decode cL_law 409 = .ok (.aload_n 0, 1) := by decide +kernel
theorem dL_law_410 : decode cL_law 410 = .ok (.iload_n 3, 1) := by decide +kernel
theorem dL_law_411 : decode cL_law 411 = .ok (.iconst 2, 1) := by decide +kernel
theorem dL_law_412 : decode cL_law 412 = .ok (.iadd, 1) := by decide +kernel
theorem dL_law_413 : decode cL_law 413 = .ok (.iaload, 1) := by decide +kernel
theorem dL_law_414 : decode cL_law 414 = .ok (.aload_n 0, 1) := by decide +kernel
theorem dL_law_415 : decode cL_law 415 = .ok (.iload_n 3, 1) := by decide +kernel
theorem dL_law_416 : decode cL_law 416 = .ok (.iconst 3, 1) := by decide +kernel
theorem dL_law_417 : decode cL_law 417 = .ok (.iadd, 1) := by decide +kernel
theorem dL_law_418 : decode cL_law 418 = .ok (.iaload, 1) := by decide +kernel
theorem dL_law_419 : decode cL_law 419 = .ok (.invokevirtual 44, 3) := by decide +kernel
theorem dL_law_422 : decode cL_law 422 = .ok (.if_icmp .eq 672, 3) := by decide +kernel
theorem dL_law_425 : decode cL_law 425 = .ok (.iconst 0, 1) := by decide +kernel
theorem dL_law_426 : decode cL_law 426 = .ok (.ireturn, 1) := by decide +kernel
theorem dL_law_427 : decode cL_law 427 = .ok (.aload_n 1, 1) := by decide +kernel
theorem dL_law_428 : decode cL_law 428 = .ok (.invokevirtual 45, 3) := by decide +kernel
theorem dL_law_431 : decode cL_law 431 = .ok (.aload_n 2, 1) := by decide +kernel
theorem dL_law_432 : decode cL_law 432 = .ok (.invokevirtual 48, 3) := by decide +kernel
theorem dL_law_435 : decode cL_law 435 = .ok (.if_icmp .eq 659, 3) := by decide +kernel
theorem dL_law_438 : decode cL_law 438 = .ok (.iconst 0, 1) := by decide +kernel
theorem dL_law_439 : decode cL_law 439 = .ok (.ireturn, 1) := by decide +kernel
theorem dL_law_440 : decode cL_law 440 = .ok (.aload_n 1, 1) := by decide +kernel
theorem dL_law_441 : decode cL_law 441 = .ok (.aload_n 0, 1) := by decide +kernel
theorem dL_law_442 : decode cL_law 442 = .ok (.iload_n 3, 1) := by decide +kernel
theorem dL_law_443 : decode cL_law 443 = .ok (.iconst 1, 1) := by decide +kernel
theorem dL_law_444 : decode cL_law 444 = .ok (.iadd, 1) := by decide +kernel
theorem dL_law_445 : decode cL_law 445 = .ok (.iaload, 1) := by decide +kernel
theorem dL_law_446 : decode cL_law 446 = .ok (.invokevirtual 49, 3) := by decide +kernel
theorem dL_law_449 : decode cL_law 449 = .ok (.aload_n 2, 1) := by decide +kernel
theorem dL_law_450 : decode cL_law 450 = .ok (.aload_n 0, 1) := by decide +kernel
theorem dL_law_451 : decode cL_law 451 = .ok (.iload_n 3, 1) := by decide +kernel
theorem dL_law_452 : decode cL_law 452 = .ok (.iconst 1, 1) := by decide +kernel
theorem dL_law_453 : decode cL_law 453 = .ok (.iadd, 1) := by decide +kernel
theorem dL_law_454 : decode cL_law 454 = .ok (.iaload, 1) := by decide +kernel
theorem dL_law_455 : decode cL_law 455 = .ok (.invokevirtual 53, 3) := by decide +kernel
theorem dL_law_458 : decode cL_law 458 = .ok (.if_icmp .eq 636, 3) := by decide +kernel
theorem dL_law_461 : decode cL_law 461 = .ok (.iconst 0, 1) := by decide +kernel
theorem dL_law_462 : decode cL_law 462 = .ok (.ireturn, 1) := by decide +kernel
theorem dL_law_463 : decode cL_law 463 = .ok (.aload_n 1, 1) := by decide +kernel
theorem dL_law_464 : decode cL_law 464 = .ok (.aload_n 0, 1) := by decide +kernel
theorem dL_law_465 : decode cL_law 465 = .ok (.iload_n 3, 1) := by decide +kernel
theorem dL_law_466 : decode cL_law 466 = .ok (.iconst 1, 1) := by decide +kernel
theorem dL_law_467 : decode cL_law 467 = .ok (.iadd, 1) := by decide +kernel
theorem dL_law_468 : decode cL_law 468 = .ok (.iaload, 1) := by decide +kernel
theorem dL_law_469 : decode cL_law 469 = .ok (.invokevirtual 54, 3) := by decide +kernel
theorem dL_law_472 : decode cL_law 472 = .ok (.aload_n 2, 1) := by decide +kernel
theorem dL_law_473 : decode cL_law 473 = .ok (.aload_n 0, 1) := by decide +kernel
theorem dL_law_474 : decode cL_law 474 = .ok (.iload_n 3, 1) := by decide +kernel
theorem dL_law_475 : decode cL_law 475 = .ok (.iconst 1, 1) := by decide +kernel
theorem dL_law_476 : decode cL_law 476 = .ok (.iadd, 1) := by decide +kernel
theorem dL_law_477 : decode cL_law 477 = .ok (.iaload, 1) := by decide +kernel
theorem dL_law_478 : decode cL_law 478 = .ok (.invokevirtual 57, 3) := by decide +kernel
theorem dL_law_481 : decode cL_law 481 = .ok (.if_icmp .eq 613, 3) := by decide +kernel
theorem dL_law_484 : decode cL_law 484 = .ok (.iconst 0, 1) := by decide +kernel
theorem dL_law_485 : decode cL_law 485 = .ok (.ireturn, 1) := by decide +kernel
theorem dL_law_486 : decode cL_law 486 = .ok (.aload_n 1, 1) := by decide +kernel
theorem dL_law_487 : decode cL_law 487 = .ok (.aload_n 0, 1) := by decide +kernel
theorem dL_law_488 : decode cL_law 488 = .ok (.iload_n 3, 1) := by decide +kernel
theorem dL_law_489 : decode cL_law 489 = .ok (.iconst 1, 1) := by decide +kernel
theorem dL_law_490 : decode cL_law 490 = .ok (.iadd, 1) := by decide +kernel
theorem dL_law_491 : decode cL_law 491 = .ok (.iaload, 1) := by decide +kernel
theorem dL_law_492 : decode cL_law 492 = .ok (.aload_n 0, 1) := by decide +kernel
theorem dL_law_493 : decode cL_law 493 = .ok (.iload_n 3, 1) := by decide +kernel
theorem dL_law_494 : decode cL_law 494 = .ok (.iconst 2, 1) := by decide +kernel
theorem dL_law_495 : decode cL_law 495 = .ok (.iadd, 1) := by decide +kernel
theorem dL_law_496 : decode cL_law 496 = .ok (.iaload, 1) := by decide +kernel
theorem dL_law_497 : decode cL_law 497 = .ok (.invokevirtual 58, 3) := by decide +kernel
theorem dL_law_500 : decode cL_law 500 = .ok (.aload_n 2, 1) := by decide +kernel
theorem dL_law_501 : decode cL_law 501 = .ok (.aload_n 0, 1) := by decide +kernel
theorem dL_law_502 : decode cL_law 502 = .ok (.iload_n 3, 1) := by decide +kernel
theorem dL_law_503 : decode cL_law 503 = .ok (.iconst 1, 1) := by decide +kernel
theorem dL_law_504 : decode cL_law 504 = .ok (.iadd, 1) := by decide +kernel
theorem dL_law_505 : decode cL_law 505 = .ok (.iaload, 1) := by decide +kernel
theorem dL_law_506 : decode cL_law 506 = .ok (.aload_n 0, 1) := by decide +kernel
theorem dL_law_507 : decode cL_law 507 = .ok (.iload_n 3, 1) := by decide +kernel
theorem dL_law_508 : decode cL_law 508 = .ok (.iconst 2, 1) := by decide +kernel
theorem dL_law_509 : decode cL_law 509 = .ok (.iadd, 1) := by decide +kernel
theorem dL_law_510 : decode cL_law 510 = .ok (.iaload, 1) := by decide +kernel
theorem dL_law_511 : decode cL_law 511 = .ok (.invokevirtual 62, 3) := by decide +kernel
theorem dL_law_514 : decode cL_law 514 = .ok (.lcmp, 1) := by decide +kernel
theorem dL_law_515 : decode cL_law 515 = .ok (.ifCond .eq 579, 3) := by decide +kernel
theorem dL_law_518 : decode cL_law 518 = .ok (.iconst 0, 1) := by decide +kernel
theorem dL_law_519 : decode cL_law 519 = .ok (.ireturn, 1) := by decide +kernel
theorem dL_law_520 : decode cL_law 520 = .ok (.aload_n 1, 1) := by decide +kernel
theorem dL_law_521 : decode cL_law 521 = .ok (.aload_n 0, 1) := by decide +kernel
theorem dL_law_522 : decode cL_law 522 = .ok (.iload_n 3, 1) := by decide +kernel
theorem dL_law_523 : decode cL_law 523 = .ok (.iconst 1, 1) := by decide +kernel
theorem dL_law_524 : decode cL_law 524 = .ok (.iadd, 1) := by decide +kernel
theorem dL_law_525 : decode cL_law 525 = .ok (.iaload, 1) := by decide +kernel
theorem dL_law_526 : decode cL_law 526 = .ok (.aload_n 0, 1) := by decide +kernel
theorem dL_law_527 : decode cL_law 527 = .ok (.iload_n 3, 1) := by decide +kernel
theorem dL_law_528 : decode cL_law 528 = .ok (.iconst 2, 1) := by decide +kernel
theorem dL_law_529 : decode cL_law 529 = .ok (.iadd, 1) := by decide +kernel
theorem dL_law_530 : decode cL_law 530 = .ok (.iaload, 1) := by decide +kernel
theorem dL_law_531 : decode cL_law 531 = .ok (.invokevirtual 63, 3) := by decide +kernel
theorem dL_law_534 : decode cL_law 534 = .ok (.aload_n 2, 1) := by decide +kernel
theorem dL_law_535 : decode cL_law 535 = .ok (.aload_n 0, 1) := by decide +kernel
theorem dL_law_536 : decode cL_law 536 = .ok (.iload_n 3, 1) := by decide +kernel
theorem dL_law_537 : decode cL_law 537 = .ok (.iconst 1, 1) := by decide +kernel
theorem dL_law_538 : decode cL_law 538 = .ok (.iadd, 1) := by decide +kernel
theorem dL_law_539 : decode cL_law 539 = .ok (.iaload, 1) := by decide +kernel
theorem dL_law_540 : decode cL_law 540 = .ok (.aload_n 0, 1) := by decide +kernel
theorem dL_law_541 : decode cL_law 541 = .ok (.iload_n 3, 1) := by decide +kernel
theorem dL_law_542 : decode cL_law 542 = .ok (.iconst 2, 1) := by decide +kernel
theorem dL_law_543 : decode cL_law 543 = .ok (.iadd, 1) := by decide +kernel
theorem dL_law_544 : decode cL_law 544 = .ok (.iaload, 1) := by decide +kernel
theorem dL_law_545 : decode cL_law 545 = .ok (.invokevirtual 66, 3) := by decide +kernel
theorem dL_law_548 : decode cL_law 548 = .ok (.lcmp, 1) := by decide +kernel
theorem dL_law_549 : decode cL_law 549 = .ok (.ifCond .eq 545, 3) := by decide +kernel
theorem dL_law_552 : decode cL_law 552 = .ok (.iconst 0, 1) := by decide +kernel
theorem dL_law_553 : decode cL_law 553 = .ok (.ireturn, 1) := by decide +kernel
theorem dL_law_554 : decode cL_law 554 = .ok (.aload_n 1, 1) := by decide +kernel
theorem dL_law_555 : decode cL_law 555 = .ok (.aload_n 0, 1) := by decide +kernel
theorem dL_law_556 : decode cL_law 556 = .ok (.iload_n 3, 1) := by decide +kernel
theorem dL_law_557 : decode cL_law 557 = .ok (.iconst 1, 1) := by decide +kernel
theorem dL_law_558 : decode cL_law 558 = .ok (.iadd, 1) := by decide +kernel
theorem dL_law_559 : decode cL_law 559 = .ok (.iaload, 1) := by decide +kernel
theorem dL_law_560 : decode cL_law 560 = .ok (.aload_n 0, 1) := by decide +kernel
theorem dL_law_561 : decode cL_law 561 = .ok (.iload_n 3, 1) := by decide +kernel
theorem dL_law_562 : decode cL_law 562 = .ok (.iconst 2, 1) := by decide +kernel
theorem dL_law_563 : decode cL_law 563 = .ok (.iadd, 1) := by decide +kernel
theorem dL_law_564 : decode cL_law 564 = .ok (.iaload, 1) := by decide +kernel
theorem dL_law_565 : decode cL_law 565 = .ok (.invokevirtual 67, 3) := by decide +kernel
theorem dL_law_568 : decode cL_law 568 = .ok (.aload_n 2, 1) := by decide +kernel
theorem dL_law_569 : decode cL_law 569 = .ok (.aload_n 0, 1) := by decide +kernel
theorem dL_law_570 : decode cL_law 570 = .ok (.iload_n 3, 1) := by decide +kernel
theorem dL_law_571 : decode cL_law 571 = .ok (.iconst 1, 1) := by decide +kernel
theorem dL_law_572 : decode cL_law 572 = .ok (.iadd, 1) := by decide +kernel
theorem dL_law_573 : decode cL_law 573 = .ok (.iaload, 1) := by decide +kernel
theorem dL_law_574 : decode cL_law 574 = .ok (.aload_n 0, 1) := by decide +kernel
theorem dL_law_575 : decode cL_law 575 = .ok (.iload_n 3, 1) := by decide +kernel
theorem dL_law_576 : decode cL_law 576 = .ok (.iconst 2, 1) := by decide +kernel
theorem dL_law_577 : decode cL_law 577 = .ok (.iadd, 1) := by decide +kernel
theorem dL_law_578 : decode cL_law 578 = .ok (.iaload, 1) := by decide +kernel
theorem dL_law_579 : decode cL_law 579 = .ok (.invokevirtual 70, 3) := by decide +kernel
theorem dL_law_582 : decode cL_law 582 = .ok (.if_icmp .eq 512, 3) := by decide +kernel
theorem dL_law_585 : decode cL_law 585 = .ok (.iconst 0, 1) := by decide +kernel
theorem dL_law_586 : decode cL_law 586 = .ok (.ireturn, 1) := by decide +kernel
theorem dL_law_587 : decode cL_law 587 = .ok (.aload_n 1, 1) := by decide +kernel
theorem dL_law_588 : decode cL_law 588 = .ok (.aload_n 0, 1) := by decide +kernel
theorem dL_law_589 : decode cL_law 589 = .ok (.iload_n 3, 1) := by decide +kernel
theorem dL_law_590 : decode cL_law 590 = .ok (.iconst 1, 1) := by decide +kernel
theorem dL_law_591 : decode cL_law 591 = .ok (.iadd, 1) := by decide +kernel
theorem dL_law_592 : decode cL_law 592 = .ok (.iaload, 1) := by decide +kernel
theorem dL_law_593 : decode cL_law 593 = .ok (.aload_n 0, 1) := by decide +kernel
theorem dL_law_594 : decode cL_law 594 = .ok (.iload_n 3, 1) := by decide +kernel
theorem dL_law_595 : decode cL_law 595 = .ok (.iconst 2, 1) := by decide +kernel
theorem dL_law_596 : decode cL_law 596 = .ok (.iadd, 1) := by decide +kernel
theorem dL_law_597 : decode cL_law 597 = .ok (.iaload, 1) := by decide +kernel
theorem dL_law_598 : decode cL_law 598 = .ok (.invokevirtual 71, 3) := by decide +kernel
theorem dL_law_601 : decode cL_law 601 = .ok (.aload_n 2, 1) := by decide +kernel
theorem dL_law_602 : decode cL_law 602 = .ok (.aload_n 0, 1) := by decide +kernel
theorem dL_law_603 : decode cL_law 603 = .ok (.iload_n 3, 1) := by decide +kernel
theorem dL_law_604 : decode cL_law 604 = .ok (.iconst 1, 1) := by decide +kernel
theorem dL_law_605 : decode cL_law 605 = .ok (.iadd, 1) := by decide +kernel
theorem dL_law_606 : decode cL_law 606 = .ok (.iaload, 1) := by decide +kernel
theorem dL_law_607 : decode cL_law 607 = .ok (.aload_n 0, 1) := by decide +kernel
theorem dL_law_608 : decode cL_law 608 = .ok (.iload_n 3, 1) := by decide +kernel
theorem dL_law_609 : decode cL_law 609 = .ok (.iconst 2, 1) := by decide +kernel
theorem dL_law_610 : decode cL_law 610 = .ok (.iadd, 1) := by decide +kernel
theorem dL_law_611 : decode cL_law 611 = .ok (.iaload, 1) := by decide +kernel
theorem dL_law_612 : decode cL_law 612 = .ok (.invokevirtual 74, 3) := by decide +kernel
theorem dL_law_615 : decode cL_law 615 = .ok (.if_icmp .eq 479, 3) := by decide +kernel
theorem dL_law_618 : decode cL_law 618 = .ok (.iconst 0, 1) := by decide +kernel
theorem dL_law_619 : decode cL_law 619 = .ok (.ireturn, 1) := by decide +kernel
theorem dL_law_620 : decode cL_law 620 = .ok (.aload_n 1, 1) := by decide +kernel
theorem dL_law_621 : decode cL_law 621 = .ok (.aload_n 0, 1) := by decide +kernel
theorem dL_law_622 : decode cL_law 622 = .ok (.iload_n 3, 1) := by decide +kernel
theorem dL_law_623 : decode cL_law 623 = .ok (.iconst 1, 1) := by decide +kernel
theorem dL_law_624 : decode cL_law 624 = .ok (.iadd, 1) := by decide +kernel
theorem dL_law_625 : decode cL_law 625 = .ok (.iaload, 1) := by decide +kernel
theorem dL_law_626 : decode cL_law 626 = .ok (.aload_n 0, 1) := by decide +kernel
theorem dL_law_627 : decode cL_law 627 = .ok (.iload_n 3, 1) := by decide +kernel
theorem dL_law_628 : decode cL_law 628 = .ok (.iconst 2, 1) := by decide +kernel
theorem dL_law_629 : decode cL_law 629 = .ok (.iadd, 1) := by decide +kernel
theorem dL_law_630 : decode cL_law 630 = .ok (.iaload, 1) := by decide +kernel
theorem dL_law_631 : decode cL_law 631 = .ok (.invokevirtual 75, 3) := by decide +kernel
theorem dL_law_634 : decode cL_law 634 = .ok (.aload_n 2, 1) := by decide +kernel
theorem dL_law_635 : decode cL_law 635 = .ok (.aload_n 0, 1) := by decide +kernel
theorem dL_law_636 : decode cL_law 636 = .ok (.iload_n 3, 1) := by decide +kernel
theorem dL_law_637 : decode cL_law 637 = .ok (.iconst 1, 1) := by decide +kernel
theorem dL_law_638 : decode cL_law 638 = .ok (.iadd, 1) := by decide +kernel
theorem dL_law_639 : decode cL_law 639 = .ok (.iaload, 1) := by decide +kernel
theorem dL_law_640 : decode cL_law 640 = .ok (.aload_n 0, 1) := by decide +kernel
theorem dL_law_641 : decode cL_law 641 = .ok (.iload_n 3, 1) := by decide +kernel
theorem dL_law_642 : decode cL_law 642 = .ok (.iconst 2, 1) := by decide +kernel
theorem dL_law_643 : decode cL_law 643 = .ok (.iadd, 1) := by decide +kernel
theorem dL_law_644 : decode cL_law 644 = .ok (.iaload, 1) := by decide +kernel
theorem dL_law_645 : decode cL_law 645 = .ok (.invokevirtual 78, 3) := by decide +kernel
theorem dL_law_648 : decode cL_law 648 = .ok (.if_icmp .eq 446, 3) := by decide +kernel
theorem dL_law_651 : decode cL_law 651 = .ok (.iconst 0, 1) := by decide +kernel
theorem dL_law_652 : decode cL_law 652 = .ok (.ireturn, 1) := by decide +kernel
theorem dL_law_653 : decode cL_law 653 = .ok (.aload_n 1, 1) := by decide +kernel
theorem dL_law_654 : decode cL_law 654 = .ok (.aload_n 0, 1) := by decide +kernel
theorem dL_law_655 : decode cL_law 655 = .ok (.iload_n 3, 1) := by decide +kernel
theorem dL_law_656 : decode cL_law 656 = .ok (.iconst 1, 1) := by decide +kernel
theorem dL_law_657 : decode cL_law 657 = .ok (.iadd, 1) := by decide +kernel
theorem dL_law_658 : decode cL_law 658 = .ok (.iaload, 1) := by decide +kernel
theorem dL_law_659 : decode cL_law 659 = .ok (.aload_n 0, 1) := by decide +kernel
theorem dL_law_660 : decode cL_law 660 = .ok (.iload_n 3, 1) := by decide +kernel
theorem dL_law_661 : decode cL_law 661 = .ok (.iconst 2, 1) := by decide +kernel
theorem dL_law_662 : decode cL_law 662 = .ok (.iadd, 1) := by decide +kernel
theorem dL_law_663 : decode cL_law 663 = .ok (.iaload, 1) := by decide +kernel
theorem dL_law_664 : decode cL_law 664 = .ok (.invokevirtual 79, 3) := by decide +kernel
theorem dL_law_667 : decode cL_law 667 = .ok (.aload_n 2, 1) := by decide +kernel
theorem dL_law_668 : decode cL_law 668 = .ok (.aload_n 0, 1) := by decide +kernel
theorem dL_law_669 : decode cL_law 669 = .ok (.iload_n 3, 1) := by decide +kernel
theorem dL_law_670 : decode cL_law 670 = .ok (.iconst 1, 1) := by decide +kernel
theorem dL_law_671 : decode cL_law 671 = .ok (.iadd, 1) := by decide +kernel
theorem dL_law_672 : decode cL_law 672 = .ok (.iaload, 1) := by decide +kernel
theorem dL_law_673 : decode cL_law 673 = .ok (.aload_n 0, 1) := by decide +kernel
theorem dL_law_674 : decode cL_law 674 = .ok (.iload_n 3, 1) := by decide +kernel
theorem dL_law_675 : decode cL_law 675 = .ok (.iconst 2, 1) := by decide +kernel
theorem dL_law_676 : decode cL_law 676 = .ok (.iadd, 1) := by decide +kernel
theorem dL_law_677 : decode cL_law 677 = .ok (.iaload, 1) := by decide +kernel
theorem dL_law_678 : decode cL_law 678 = .ok (.invokevirtual 82, 3) := by decide +kernel
theorem dL_law_681 : decode cL_law 681 = .ok (.if_icmp .eq 413, 3) := by decide +kernel
theorem dL_law_684 : decode cL_law 684 = .ok (.iconst 0, 1) := by decide +kernel
theorem dL_law_685 : decode cL_law 685 = .ok (.ireturn, 1) := by decide +kernel
theorem dL_law_686 : decode cL_law 686 = .ok (.aload_n 1, 1) := by decide +kernel
theorem dL_law_687 : decode cL_law 687 = .ok (.aload_n 0, 1) := by decide +kernel
theorem dL_law_688 : decode cL_law 688 = .ok (.iload_n 3, 1) := by decide +kernel
theorem dL_law_689 : decode cL_law 689 = .ok (.iconst 1, 1) := by decide +kernel
theorem dL_law_690 : decode cL_law 690 = .ok (.iadd, 1) := by decide +kernel
theorem dL_law_691 : decode cL_law 691 = .ok (.iaload, 1) := by decide +kernel
theorem dL_law_692 : decode cL_law 692 = .ok (.aload_n 0, 1) := by decide +kernel
theorem dL_law_693 : decode cL_law 693 = .ok (.iload_n 3, 1) := by decide +kernel
theorem dL_law_694 : decode cL_law 694 = .ok (.iconst 2, 1) := by decide +kernel
theorem dL_law_695 : decode cL_law 695 = .ok (.iadd, 1) := by decide +kernel
theorem dL_law_696 : decode cL_law 696 = .ok (.iaload, 1) := by decide +kernel
theorem dL_law_697 : decode cL_law 697 = .ok (.invokevirtual 83, 3) := by decide +kernel
theorem dL_law_700 : decode cL_law 700 = .ok (.aload_n 2, 1) := by decide +kernel
theorem dL_law_701 : decode cL_law 701 = .ok (.aload_n 0, 1) := by decide +kernel
theorem dL_law_702 : decode cL_law 702 = .ok (.iload_n 3, 1) := by decide +kernel
theorem dL_law_703 : decode cL_law 703 = .ok (.iconst 1, 1) := by decide +kernel
theorem dL_law_704 : decode cL_law 704 = .ok (.iadd, 1) := by decide +kernel
theorem dL_law_705 : decode cL_law 705 = .ok (.iaload, 1) := by decide +kernel
theorem dL_law_706 : decode cL_law 706 = .ok (.aload_n 0, 1) := by decide +kernel
theorem dL_law_707 : decode cL_law 707 = .ok (.iload_n 3, 1) := by decide +kernel
theorem dL_law_708 : decode cL_law 708 = .ok (.iconst 2, 1) := by decide +kernel
theorem dL_law_709 : decode cL_law 709 = .ok (.iadd, 1) := by decide +kernel
theorem dL_law_710 : decode cL_law 710 = .ok (.iaload, 1) := by decide +kernel
theorem dL_law_711 : decode cL_law 711 = .ok (.invokevirtual 86, 3) := by decide +kernel
theorem dL_law_714 : decode cL_law 714 = .ok (.if_icmp .eq 380, 3) := by decide +kernel
theorem dL_law_717 : decode cL_law 717 = .ok (.iconst 0, 1) := by decide +kernel
theorem dL_law_718 : decode cL_law 718 = .ok (.ireturn, 1) := by decide +kernel
theorem dL_law_719 : decode cL_law 719 = .ok (.aload_n 1, 1) := by decide +kernel
theorem dL_law_720 : decode cL_law 720 = .ok (.aload_n 0, 1) := by decide +kernel
theorem dL_law_721 : decode cL_law 721 = .ok (.iload_n 3, 1) := by decide +kernel
theorem dL_law_722 : decode cL_law 722 = .ok (.iconst 1, 1) := by decide +kernel
theorem dL_law_723 : decode cL_law 723 = .ok (.iadd, 1) := by decide +kernel
theorem dL_law_724 : decode cL_law 724 = .ok (.iaload, 1) := by decide +kernel
theorem dL_law_725 : decode cL_law 725 = .ok (.aload_n 0, 1) := by decide +kernel
theorem dL_law_726 : decode cL_law 726 = .ok (.iload_n 3, 1) := by decide +kernel
theorem dL_law_727 : decode cL_law 727 = .ok (.iconst 2, 1) := by decide +kernel
theorem dL_law_728 : decode cL_law 728 = .ok (.iadd, 1) := by decide +kernel
theorem dL_law_729 : decode cL_law 729 = .ok (.iaload, 1) := by decide +kernel
theorem dL_law_730 : decode cL_law 730 = .ok (.invokevirtual 87, 3) := by decide +kernel
theorem dL_law_733 : decode cL_law 733 = .ok (.aload_n 2, 1) := by decide +kernel
theorem dL_law_734 : decode cL_law 734 = .ok (.aload_n 0, 1) := by decide +kernel
theorem dL_law_735 : decode cL_law 735 = .ok (.iload_n 3, 1) := by decide +kernel
theorem dL_law_736 : decode cL_law 736 = .ok (.iconst 1, 1) := by decide +kernel
theorem dL_law_737 : decode cL_law 737 = .ok (.iadd, 1) := by decide +kernel
theorem dL_law_738 : decode cL_law 738 = .ok (.iaload, 1) := by decide +kernel
theorem dL_law_739 : decode cL_law 739 = .ok (.aload_n 0, 1) := by decide +kernel
theorem dL_law_740 : decode cL_law 740 = .ok (.iload_n 3, 1) := by decide +kernel
theorem dL_law_741 : decode cL_law 741 = .ok (.iconst 2, 1) := by decide +kernel
theorem dL_law_742 : decode cL_law 742 = .ok (.iadd, 1) := by decide +kernel
theorem dL_law_743 : decode cL_law 743 = .ok (.iaload, 1) := by decide +kernel
theorem dL_law_744 : decode cL_law 744 = .ok (.invokevirtual 90, 3) := by decide +kernel
theorem dL_law_747 : decode cL_law 747 = .ok (.if_icmp .eq 347, 3) := by decide +kernel
theorem dL_law_750 : decode cL_law 750 = .ok (.iconst 0, 1) := by decide +kernel
theorem dL_law_751 : decode cL_law 751 = .ok (.ireturn, 1) := by decide +kernel
theorem dL_law_752 : decode cL_law 752 = .ok (.aload_n 1, 1) := by decide +kernel
theorem dL_law_753 : decode cL_law 753 = .ok (.aload_n 0, 1) := by decide +kernel
theorem dL_law_754 : decode cL_law 754 = .ok (.iload_n 3, 1) := by decide +kernel
theorem dL_law_755 : decode cL_law 755 = .ok (.iconst 1, 1) := by decide +kernel
theorem dL_law_756 : decode cL_law 756 = .ok (.iadd, 1) := by decide +kernel
theorem dL_law_757 : decode cL_law 757 = .ok (.iaload, 1) := by decide +kernel
theorem dL_law_758 : decode cL_law 758 = .ok (.invokevirtual 91, 3) := by decide +kernel
theorem dL_law_761 : decode cL_law 761 = .ok (.aload_n 2, 1) := by decide +kernel
theorem dL_law_762 : decode cL_law 762 = .ok (.aload_n 0, 1) := by decide +kernel
theorem dL_law_763 : decode cL_law 763 = .ok (.iload_n 3, 1) := by decide +kernel
theorem dL_law_764 : decode cL_law 764 = .ok (.iconst 1, 1) := by decide +kernel
theorem dL_law_765 : decode cL_law 765 = .ok (.iadd, 1) := by decide +kernel
theorem dL_law_766 : decode cL_law 766 = .ok (.iaload, 1) := by decide +kernel
theorem dL_law_767 : decode cL_law 767 = .ok (.invokevirtual 94, 3) := by decide +kernel
theorem dL_law_770 : decode cL_law 770 = .ok (.if_icmp .eq 324, 3) := by decide +kernel
theorem dL_law_773 : decode cL_law 773 = .ok (.iconst 0, 1) := by decide +kernel
theorem dL_law_774 : decode cL_law 774 = .ok (.ireturn, 1) := by decide +kernel
theorem dL_law_775 : decode cL_law 775 = .ok (.aload_n 1, 1) := by decide +kernel
theorem dL_law_776 : decode cL_law 776 = .ok (.aload_n 0, 1) := by decide +kernel
theorem dL_law_777 : decode cL_law 777 = .ok (.iload_n 3, 1) := by decide +kernel
theorem dL_law_778 : decode cL_law 778 = .ok (.iconst 1, 1) := by decide +kernel
theorem dL_law_779 : decode cL_law 779 = .ok (.iadd, 1) := by decide +kernel
theorem dL_law_780 : decode cL_law 780 = .ok (.iaload, 1) := by decide +kernel
theorem dL_law_781 : decode cL_law 781 = .ok (.aload_n 0, 1) := by decide +kernel
theorem dL_law_782 : decode cL_law 782 = .ok (.iload_n 3, 1) := by decide +kernel
theorem dL_law_783 : decode cL_law 783 = .ok (.iconst 2, 1) := by decide +kernel
theorem dL_law_784 : decode cL_law 784 = .ok (.iadd, 1) := by decide +kernel
theorem dL_law_785 : decode cL_law 785 = .ok (.iaload, 1) := by decide +kernel
theorem dL_law_786 : decode cL_law 786 = .ok (.ifCond .eq 7, 3) := by decide +kernel
theorem dL_law_789 : decode cL_law 789 = .ok (.iconst 1, 1) := by decide +kernel
theorem dL_law_790 : decode cL_law 790 = .ok (.goto 4, 3) := by decide +kernel
theorem dL_law_793 : decode cL_law 793 = .ok (.iconst 0, 1) := by decide +kernel
theorem dL_law_794 : decode cL_law 794 = .ok (.invokevirtual 95, 3) := by decide +kernel
theorem dL_law_797 : decode cL_law 797 = .ok (.aload_n 2, 1) := by decide +kernel
theorem dL_law_798 : decode cL_law 798 = .ok (.aload_n 0, 1) := by decide +kernel
theorem dL_law_799 : decode cL_law 799 = .ok (.iload_n 3, 1) := by decide +kernel
theorem dL_law_800 : decode cL_law 800 = .ok (.iconst 1, 1) := by decide +kernel
theorem dL_law_801 : decode cL_law 801 = .ok (.iadd, 1) := by decide +kernel
theorem dL_law_802 : decode cL_law 802 = .ok (.iaload, 1) := by decide +kernel
theorem dL_law_803 : decode cL_law 803 = .ok (.aload_n 0, 1) := by decide +kernel
theorem dL_law_804 : decode cL_law 804 = .ok (.iload_n 3, 1) := by decide +kernel
theorem dL_law_805 : decode cL_law 805 = .ok (.iconst 2, 1) := by decide +kernel
theorem dL_law_806 : decode cL_law 806 = .ok (.iadd, 1) := by decide +kernel
theorem dL_law_807 : decode cL_law 807 = .ok (.iaload, 1) := by decide +kernel
theorem dL_law_808 : decode cL_law 808 = .ok (.ifCond .eq 7, 3) := by decide +kernel
theorem dL_law_811 : decode cL_law 811 = .ok (.iconst 1, 1) := by decide +kernel
theorem dL_law_812 : decode cL_law 812 = .ok (.goto 4, 3) := by decide +kernel
theorem dL_law_815 : decode cL_law 815 = .ok (.iconst 0, 1) := by decide +kernel
theorem dL_law_816 : decode cL_law 816 = .ok (.invokevirtual 99, 3) := by decide +kernel
theorem dL_law_819 : decode cL_law 819 = .ok (.if_icmp .eq 275, 3) := by decide +kernel
theorem dL_law_822 : decode cL_law 822 = .ok (.iconst 0, 1) := by decide +kernel
theorem dL_law_823 : decode cL_law 823 = .ok (.ireturn, 1) := by decide +kernel
theorem dL_law_824 : decode cL_law 824 = .ok (.aload_n 1, 1) := by decide +kernel
theorem dL_law_825 : decode cL_law 825 = .ok (.invokevirtual 100, 3) := by decide +kernel
theorem dL_law_828 : decode cL_law 828 = .ok (.aload_n 2, 1) := by decide +kernel
theorem dL_law_829 : decode cL_law 829 = .ok (.invokevirtual 103, 3) := by decide +kernel
theorem dL_law_832 : decode cL_law 832 = .ok (.if_icmp .eq 262, 3) := by decide +kernel
theorem dL_law_835 : decode cL_law 835 = .ok (.iconst 0, 1) := by decide +kernel
theorem dL_law_836 : decode cL_law 836 = .ok (.ireturn, 1) := by decide +kernel
theorem dL_law_837 : decode cL_law 837 = .ok (.aload_n 1, 1) := by decide +kernel
theorem dL_law_838 : decode cL_law 838 = .ok (.aload_n 0, 1) := by decide +kernel
theorem dL_law_839 : decode cL_law 839 = .ok (.iload_n 3, 1) := by decide +kernel
theorem dL_law_840 : decode cL_law 840 = .ok (.iconst 1, 1) := by decide +kernel
theorem dL_law_841 : decode cL_law 841 = .ok (.iadd, 1) := by decide +kernel
theorem dL_law_842 : decode cL_law 842 = .ok (.iaload, 1) := by decide +kernel
theorem dL_law_843 : decode cL_law 843 = .ok (.invokevirtual 104, 3) := by decide +kernel
theorem dL_law_846 : decode cL_law 846 = .ok (.aload_n 2, 1) := by decide +kernel
theorem dL_law_847 : decode cL_law 847 = .ok (.aload_n 0, 1) := by decide +kernel
theorem dL_law_848 : decode cL_law 848 = .ok (.iload_n 3, 1) := by decide +kernel
theorem dL_law_849 : decode cL_law 849 = .ok (.iconst 1, 1) := by decide +kernel
theorem dL_law_850 : decode cL_law 850 = .ok (.iadd, 1) := by decide +kernel
theorem dL_law_851 : decode cL_law 851 = .ok (.iaload, 1) := by decide +kernel
theorem dL_law_852 : decode cL_law 852 = .ok (.invokevirtual 108, 3) := by decide +kernel
theorem dL_law_855 : decode cL_law 855 = .ok (.lcmp, 1) := by decide +kernel
theorem dL_law_856 : decode cL_law 856 = .ok (.ifCond .eq 238, 3) := by decide +kernel
theorem dL_law_859 : decode cL_law 859 = .ok (.iconst 0, 1) := by decide +kernel
theorem dL_law_860 : decode cL_law 860 = .ok (.ireturn, 1) := by decide +kernel
theorem dL_law_861 : decode cL_law 861 = .ok (.aload_n 1, 1) := by decide +kernel
theorem dL_law_862 : decode cL_law 862 = .ok (.aload_n 0, 1) := by decide +kernel
theorem dL_law_863 : decode cL_law 863 = .ok (.iload_n 3, 1) := by decide +kernel
theorem dL_law_864 : decode cL_law 864 = .ok (.iconst 1, 1) := by decide +kernel
theorem dL_law_865 : decode cL_law 865 = .ok (.iadd, 1) := by decide +kernel
theorem dL_law_866 : decode cL_law 866 = .ok (.iaload, 1) := by decide +kernel
theorem dL_law_867 : decode cL_law 867 = .ok (.invokevirtual 109, 3) := by decide +kernel
theorem dL_law_870 : decode cL_law 870 = .ok (.aload_n 2, 1) := by decide +kernel
theorem dL_law_871 : decode cL_law 871 = .ok (.aload_n 0, 1) := by decide +kernel
theorem dL_law_872 : decode cL_law 872 = .ok (.iload_n 3, 1) := by decide +kernel
theorem dL_law_873 : decode cL_law 873 = .ok (.iconst 1, 1) := by decide +kernel
theorem dL_law_874 : decode cL_law 874 = .ok (.iadd, 1) := by decide +kernel
theorem dL_law_875 : decode cL_law 875 = .ok (.iaload, 1) := by decide +kernel
theorem dL_law_876 : decode cL_law 876 = .ok (.invokevirtual 112, 3) := by decide +kernel
theorem dL_law_879 : decode cL_law 879 = .ok (.lcmp, 1) := by decide +kernel
theorem dL_law_880 : decode cL_law 880 = .ok (.ifCond .eq 214, 3) := by decide +kernel
theorem dL_law_883 : decode cL_law 883 = .ok (.iconst 0, 1) := by decide +kernel
theorem dL_law_884 : decode cL_law 884 = .ok (.ireturn, 1) := by decide +kernel
theorem dL_law_885 : decode cL_law 885 = .ok (.aload_n 1, 1) := by decide +kernel
theorem dL_law_886 : decode cL_law 886 = .ok (.aload_n 0, 1) := by decide +kernel
theorem dL_law_887 : decode cL_law 887 = .ok (.iload_n 3, 1) := by decide +kernel
theorem dL_law_888 : decode cL_law 888 = .ok (.iconst 1, 1) := by decide +kernel
theorem dL_law_889 : decode cL_law 889 = .ok (.iadd, 1) := by decide +kernel
theorem dL_law_890 : decode cL_law 890 = .ok (.iaload, 1) := by decide +kernel
theorem dL_law_891 : decode cL_law 891 = .ok (.invokevirtual 113, 3) := by decide +kernel
theorem dL_law_894 : decode cL_law 894 = .ok (.aload_n 2, 1) := by decide +kernel
theorem dL_law_895 : decode cL_law 895 = .ok (.aload_n 0, 1) := by decide +kernel
theorem dL_law_896 : decode cL_law 896 = .ok (.iload_n 3, 1) := by decide +kernel
theorem dL_law_897 : decode cL_law 897 = .ok (.iconst 1, 1) := by decide +kernel
theorem dL_law_898 : decode cL_law 898 = .ok (.iadd, 1) := by decide +kernel
theorem dL_law_899 : decode cL_law 899 = .ok (.iaload, 1) := by decide +kernel
theorem dL_law_900 : decode cL_law 900 = .ok (.invokevirtual 116, 3) := by decide +kernel
theorem dL_law_903 : decode cL_law 903 = .ok (.lcmp, 1) := by decide +kernel
theorem dL_law_904 : decode cL_law 904 = .ok (.ifCond .eq 190, 3) := by decide +kernel
theorem dL_law_907 : decode cL_law 907 = .ok (.iconst 0, 1) := by decide +kernel
theorem dL_law_908 : decode cL_law 908 = .ok (.ireturn, 1) := by decide +kernel
theorem dL_law_909 : decode cL_law 909 = .ok (.aload_n 1, 1) := by decide +kernel
theorem dL_law_910 : decode cL_law 910 = .ok (.invokevirtual 117, 3) := by decide +kernel
theorem dL_law_913 : decode cL_law 913 = .ok (.aload_n 2, 1) := by decide +kernel
theorem dL_law_914 : decode cL_law 914 = .ok (.invokevirtual 120, 3) := by decide +kernel
theorem dL_law_917 : decode cL_law 917 = .ok (.if_icmp .eq 177, 3) := by decide +kernel
theorem dL_law_920 : decode cL_law 920 = .ok (.iconst 0, 1) := by decide +kernel
theorem dL_law_921 : decode cL_law 921 = .ok (.ireturn, 1) := by decide +kernel
theorem dL_law_922 : decode cL_law 922 = .ok (.aload_n 1, 1) := by decide +kernel
theorem dL_law_923 : decode cL_law 923 = .ok (.aload_n 0, 1) := by decide +kernel
theorem dL_law_924 : decode cL_law 924 = .ok (.iload_n 3, 1) := by decide +kernel
theorem dL_law_925 : decode cL_law 925 = .ok (.iconst 1, 1) := by decide +kernel
theorem dL_law_926 : decode cL_law 926 = .ok (.iadd, 1) := by decide +kernel
theorem dL_law_927 : decode cL_law 927 = .ok (.iaload, 1) := by decide +kernel
theorem dL_law_928 : decode cL_law 928 = .ok (.aload_n 0, 1) := by decide +kernel
theorem dL_law_929 : decode cL_law 929 = .ok (.iload_n 3, 1) := by decide +kernel
theorem dL_law_930 : decode cL_law 930 = .ok (.iconst 2, 1) := by decide +kernel
theorem dL_law_931 : decode cL_law 931 = .ok (.iadd, 1) := by decide +kernel
theorem dL_law_932 : decode cL_law 932 = .ok (.iaload, 1) := by decide +kernel
theorem dL_law_933 : decode cL_law 933 = .ok (.invokevirtual 121, 3) := by decide +kernel
theorem dL_law_936 : decode cL_law 936 = .ok (.aload_n 2, 1) := by decide +kernel
theorem dL_law_937 : decode cL_law 937 = .ok (.aload_n 0, 1) := by decide +kernel
theorem dL_law_938 : decode cL_law 938 = .ok (.iload_n 3, 1) := by decide +kernel
theorem dL_law_939 : decode cL_law 939 = .ok (.iconst 1, 1) := by decide +kernel
theorem dL_law_940 : decode cL_law 940 = .ok (.iadd, 1) := by decide +kernel
theorem dL_law_941 : decode cL_law 941 = .ok (.iaload, 1) := by decide +kernel
theorem dL_law_942 : decode cL_law 942 = .ok (.aload_n 0, 1) := by decide +kernel
theorem dL_law_943 : decode cL_law 943 = .ok (.iload_n 3, 1) := by decide +kernel
theorem dL_law_944 : decode cL_law 944 = .ok (.iconst 2, 1) := by decide +kernel
theorem dL_law_945 : decode cL_law 945 = .ok (.iadd, 1) := by decide +kernel
theorem dL_law_946 : decode cL_law 946 = .ok (.iaload, 1) := by decide +kernel
theorem dL_law_947 : decode cL_law 947 = .ok (.invokevirtual 124, 3) := by decide +kernel
theorem dL_law_950 : decode cL_law 950 = .ok (.if_icmp .eq 144, 3) := by decide +kernel
theorem dL_law_953 : decode cL_law 953 = .ok (.iconst 0, 1) := by decide +kernel
theorem dL_law_954 : decode cL_law 954 = .ok (.ireturn, 1) := by decide +kernel
theorem dL_law_955 : decode cL_law 955 = .ok (.aload_n 1, 1) := by decide +kernel
theorem dL_law_956 : decode cL_law 956 = .ok (.aload_n 0, 1) := by decide +kernel
theorem dL_law_957 : decode cL_law 957 = .ok (.iload_n 3, 1) := by decide +kernel
theorem dL_law_958 : decode cL_law 958 = .ok (.iconst 1, 1) := by decide +kernel
theorem dL_law_959 : decode cL_law 959 = .ok (.iadd, 1) := by decide +kernel
theorem dL_law_960 : decode cL_law 960 = .ok (.iaload, 1) := by decide +kernel
theorem dL_law_961 : decode cL_law 961 = .ok (.aload_n 0, 1) := by decide +kernel
theorem dL_law_962 : decode cL_law 962 = .ok (.iload_n 3, 1) := by decide +kernel
theorem dL_law_963 : decode cL_law 963 = .ok (.iconst 2, 1) := by decide +kernel
theorem dL_law_964 : decode cL_law 964 = .ok (.iadd, 1) := by decide +kernel
theorem dL_law_965 : decode cL_law 965 = .ok (.iaload, 1) := by decide +kernel
theorem dL_law_966 : decode cL_law 966 = .ok (.invokevirtual 125, 3) := by decide +kernel
theorem dL_law_969 : decode cL_law 969 = .ok (.aload_n 2, 1) := by decide +kernel
theorem dL_law_970 : decode cL_law 970 = .ok (.aload_n 0, 1) := by decide +kernel
theorem dL_law_971 : decode cL_law 971 = .ok (.iload_n 3, 1) := by decide +kernel
theorem dL_law_972 : decode cL_law 972 = .ok (.iconst 1, 1) := by decide +kernel
theorem dL_law_973 : decode cL_law 973 = .ok (.iadd, 1) := by decide +kernel
theorem dL_law_974 : decode cL_law 974 = .ok (.iaload, 1) := by decide +kernel
theorem dL_law_975 : decode cL_law 975 = .ok (.aload_n 0, 1) := by decide +kernel
theorem dL_law_976 : decode cL_law 976 = .ok (.iload_n 3, 1) := by decide +kernel
theorem dL_law_977 : decode cL_law 977 = .ok (.iconst 2, 1) := by decide +kernel
theorem dL_law_978 : decode cL_law 978 = .ok (.iadd, 1) := by decide +kernel
theorem dL_law_979 : decode cL_law 979 = .ok (.iaload, 1) := by decide +kernel
theorem dL_law_980 : decode cL_law 980 = .ok (.invokevirtual 128, 3) := by decide +kernel
theorem dL_law_983 : decode cL_law 983 = .ok (.lcmp, 1) := by decide +kernel
theorem dL_law_984 : decode cL_law 984 = .ok (.ifCond .eq 110, 3) := by decide +kernel
theorem dL_law_987 : decode cL_law 987 = .ok (.iconst 0, 1) := by decide +kernel
theorem dL_law_988 : decode cL_law 988 = .ok (.ireturn, 1) := by decide +kernel
theorem dL_law_989 : decode cL_law 989 = .ok (.aload_n 1, 1) := by decide +kernel
theorem dL_law_990 : decode cL_law 990 = .ok (.aload_n 0, 1) := by decide +kernel
theorem dL_law_991 : decode cL_law 991 = .ok (.iload_n 3, 1) := by decide +kernel
theorem dL_law_992 : decode cL_law 992 = .ok (.iconst 1, 1) := by decide +kernel
theorem dL_law_993 : decode cL_law 993 = .ok (.iadd, 1) := by decide +kernel
theorem dL_law_994 : decode cL_law 994 = .ok (.iaload, 1) := by decide +kernel
theorem dL_law_995 : decode cL_law 995 = .ok (.invokevirtual 129, 3) := by decide +kernel
theorem dL_law_998 : decode cL_law 998 = .ok (.aload_n 2, 1) := by decide +kernel
theorem dL_law_999 : decode cL_law 999 = .ok (.aload_n 0, 1) := by decide +kernel
theorem dL_law_1000 : decode cL_law 1000 = .ok (.iload_n 3, 1) := by decide +kernel
theorem dL_law_1001 : decode cL_law 1001 = .ok (.iconst 1, 1) := by decide +kernel
theorem dL_law_1002 : decode cL_law 1002 = .ok (.iadd, 1) := by decide +kernel
theorem dL_law_1003 : decode cL_law 1003 = .ok (.iaload, 1) := by decide +kernel
theorem dL_law_1004 : decode cL_law 1004 = .ok (.invokevirtual 132, 3) := by decide +kernel
theorem dL_law_1007 : decode cL_law 1007 = .ok (.if_icmp .eq 87, 3) := by decide +kernel
theorem dL_law_1010 : decode cL_law 1010 = .ok (.iconst 0, 1) := by decide +kernel
theorem dL_law_1011 : decode cL_law 1011 = .ok (.ireturn, 1) := by decide +kernel
theorem dL_law_1012 : decode cL_law 1012 = .ok (.aload_n 1, 1) := by decide +kernel
theorem dL_law_1013 : decode cL_law 1013 = .ok (.aload_n 0, 1) := by decide +kernel
theorem dL_law_1014 : decode cL_law 1014 = .ok (.iload_n 3, 1) := by decide +kernel
theorem dL_law_1015 : decode cL_law 1015 = .ok (.iconst 1, 1) := by decide +kernel
theorem dL_law_1016 : decode cL_law 1016 = .ok (.iadd, 1) := by decide +kernel
theorem dL_law_1017 : decode cL_law 1017 = .ok (.iaload, 1) := by decide +kernel
theorem dL_law_1018 : decode cL_law 1018 = .ok (.invokevirtual 133, 3) := by decide +kernel
theorem dL_law_1021 : decode cL_law 1021 = .ok (.aload_n 2, 1) := by decide +kernel
theorem dL_law_1022 : decode cL_law 1022 = .ok (.aload_n 0, 1) := by decide +kernel
theorem dL_law_1023 : decode cL_law 1023 = .ok (.iload_n 3, 1) := by decide +kernel
theorem dL_law_1024 : decode cL_law 1024 = .ok (.iconst 1, 1) := by decide +kernel
theorem dL_law_1025 : decode cL_law 1025 = .ok (.iadd, 1) := by decide +kernel
theorem dL_law_1026 : decode cL_law 1026 = .ok (.iaload, 1) := by decide +kernel
theorem dL_law_1027 : decode cL_law 1027 = .ok (.invokevirtual 136, 3) := by decide +kernel
theorem dL_law_1030 : decode cL_law 1030 = .ok (.if_icmp .eq 64, 3) := by decide +kernel
theorem dL_law_1033 : decode cL_law 1033 = .ok (.iconst 0, 1) := by decide +kernel
theorem dL_law_1034 : decode cL_law 1034 = .ok (.ireturn, 1) := by decide +kernel
theorem dL_law_1035 : decode cL_law 1035 = .ok (.aload_n 1, 1) := by decide +kernel
theorem dL_law_1036 : decode cL_law 1036 = .ok (.aload_n 0, 1) := by decide +kernel
theorem dL_law_1037 : decode cL_law 1037 = .ok (.iload_n 3, 1) := by decide +kernel
theorem dL_law_1038 : decode cL_law 1038 = .ok (.iconst 1, 1) := by decide +kernel
theorem dL_law_1039 : decode cL_law 1039 = .ok (.iadd, 1) := by decide +kernel
theorem dL_law_1040 : decode cL_law 1040 = .ok (.iaload, 1) := by decide +kernel
theorem dL_law_1041 : decode cL_law 1041 = .ok (.invokevirtual 137, 3) := by decide +kernel
theorem dL_law_1044 : decode cL_law 1044 = .ok (.aload_n 2, 1) := by decide +kernel
theorem dL_law_1045 : decode cL_law 1045 = .ok (.aload_n 0, 1) := by decide +kernel
theorem dL_law_1046 : decode cL_law 1046 = .ok (.iload_n 3, 1) := by decide +kernel
theorem dL_law_1047 : decode cL_law 1047 = .ok (.iconst 1, 1) := by decide +kernel
theorem dL_law_1048 : decode cL_law 1048 = .ok (.iadd, 1) := by decide +kernel
theorem dL_law_1049 : decode cL_law 1049 = .ok (.iaload, 1) := by decide +kernel
theorem dL_law_1050 : decode cL_law 1050 = .ok (.invokevirtual 140, 3) := by decide +kernel
theorem dL_law_1053 : decode cL_law 1053 = .ok (.if_icmp .eq 41, 3) := by decide +kernel
theorem dL_law_1056 : decode cL_law 1056 = .ok (.iconst 0, 1) := by decide +kernel
theorem dL_law_1057 : decode cL_law 1057 = .ok (.ireturn, 1) := by decide +kernel
theorem dL_law_1058 : decode cL_law 1058 = .ok (.aload_n 1, 1) := by decide +kernel
theorem dL_law_1059 : decode cL_law 1059 = .ok (.invokevirtual 141, 3) := by decide +kernel
theorem dL_law_1062 : decode cL_law 1062 = .ok (.aload_n 2, 1) := by decide +kernel
theorem dL_law_1063 : decode cL_law 1063 = .ok (.invokevirtual 144, 3) := by decide +kernel
theorem dL_law_1066 : decode cL_law 1066 = .ok (.if_icmp .eq 28, 3) := by decide +kernel
theorem dL_law_1069 : decode cL_law 1069 = .ok (.iconst 0, 1) := by decide +kernel
theorem dL_law_1070 : decode cL_law 1070 = .ok (.ireturn, 1) := by decide +kernel
theorem dL_law_1071 : decode cL_law 1071 = .ok (.aload_n 1, 1) := by decide +kernel
theorem dL_law_1072 : decode cL_law 1072 = .ok (.aload_n 0, 1) := by decide +kernel
theorem dL_law_1073 : decode cL_law 1073 = .ok (.iload_n 3, 1) := by decide +kernel
theorem dL_law_1074 : decode cL_law 1074 = .ok (.iconst 1, 1) := by decide +kernel
theorem dL_law_1075 : decode cL_law 1075 = .ok (.iadd, 1) := by decide +kernel
theorem dL_law_1076 : decode cL_law 1076 = .ok (.iaload, 1) := by decide +kernel
theorem dL_law_1077 : decode cL_law 1077 = .ok (.invokevirtual 145, 3) := by decide +kernel
theorem dL_law_1080 : decode cL_law 1080 = .ok (.aload_n 2, 1) := by decide +kernel
theorem dL_law_1081 : decode cL_law 1081 = .ok (.aload_n 0, 1) := by decide +kernel
theorem dL_law_1082 : decode cL_law 1082 = .ok (.iload_n 3, 1) := by decide +kernel
theorem dL_law_1083 : decode cL_law 1083 = .ok (.iconst 1, 1) := by decide +kernel
theorem dL_law_1084 : decode cL_law 1084 = .ok (.iadd, 1) := by decide +kernel
theorem dL_law_1085 : decode cL_law 1085 = .ok (.iaload, 1) := by decide +kernel
theorem dL_law_1086 : decode cL_law 1086 = .ok (.invokevirtual 148, 3) := by decide +kernel
theorem dL_law_1089 : decode cL_law 1089 = .ok (.if_icmp .eq 5, 3) := by decide +kernel
theorem dL_law_1092 : decode cL_law 1092 = .ok (.iconst 0, 1) := by decide +kernel
theorem dL_law_1093 : decode cL_law 1093 = .ok (.ireturn, 1) := by decide +kernel
theorem dL_law_1094 : decode cL_law 1094 = .ok (.iinc 3 6, 3) := by decide +kernel
theorem dL_law_1097 : decode cL_law 1097 = .ok (.goto (-1079), 3) := by decide +kernel
theorem dL_law_1100 : decode cL_law 1100 = .ok (.iconst 1, 1) := by decide +kernel
theorem dL_law_1101 : decode cL_law 1101 = .ok (.ireturn, 1) := by decide +kernel
