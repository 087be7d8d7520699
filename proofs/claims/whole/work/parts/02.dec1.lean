theorem dX0_init_0 : decode cX0_init 0 = .ok (.aload_n 0, 1) := by decide +kernel
theorem dX0_init_1 : decode cX0_init 1 = .ok (.invokespecial 3, 3) := by decide +kernel
theorem dX0_init_4 : decode cX0_init 4 = .ok (.aload_n 0, 1) := by decide +kernel
theorem dX0_init_5 : decode cX0_init 5 = .ok (.bipush 10, 2) := by decide +kernel
theorem dX0_init_7 : decode cX0_init 7 = .ok (.anewarray 9, 3) := by decide +kernel
theorem dX0_init_10 : decode cX0_init 10 = .ok (.putfield 11, 3) := by decide +kernel
theorem dX0_init_13 : decode cX0_init 13 = .ok (.aload_n 0, 1) := by decide +kernel
theorem dX0_init_14 : decode cX0_init 14 = .ok (.new 17, 3) := by decide +kernel
theorem dX0_init_17 : decode cX0_init 17 = .ok (.dup, 1) := by decide +kernel
theorem dX0_init_18 : decode cX0_init 18 = .ok (.invokespecial 19, 3) := by decide +kernel
theorem dX0_init_21 : decode cX0_init 21 = .ok (.putfield 20, 3) := by decide +kernel
theorem dX0_init_24 : decode cX0_init 24 = .ok (.aload_n 0, 1) := by decide +kernel
theorem dX0_init_25 : decode cX0_init 25 = .ok (.bipush 10, 2) := by decide +kernel
theorem dX0_init_27 : decode cX0_init 27 = .ok (.newarray .long, 2) := by decide +kernel
theorem dX0_init_29 : decode cX0_init 29 = .ok (.putfield 24, 3) := by decide +kernel
theorem dX0_init_32 : decode cX0_init 32 = .ok (.aload_n 0, 1) := by decide +kernel
theorem dX0_init_33 : decode cX0_init 33 = .ok (.bipush 10, 2) := by decide +kernel
theorem dX0_init_35 : decode cX0_init 35 = .ok (.newarray .long, 2) := by decide +kernel
theorem dX0_init_37 : decode cX0_init 37 = .ok (.putfield 28, 3) := by decide +kernel
theorem dX0_init_40 : decode cX0_init 40 = .ok (.aload_n 0, 1) := by decide +kernel
theorem dX0_init_41 : decode cX0_init 41 = .ok (.bipush 10, 2) := by decide +kernel
theorem dX0_init_43 : decode cX0_init 43 = .ok (.newarray .int, 2) := by decide +kernel
theorem dX0_init_45 : decode cX0_init 45 = .ok (.putfield 31, 3) := by decide +kernel
theorem dX0_init_48 : decode cX0_init 48 = .ok (.aload_n 0, 1) := by decide +kernel
theorem dX0_init_49 : decode cX0_init 49 = .ok (.iconst 0, 1) := by decide +kernel
theorem dX0_init_50 : decode cX0_init 50 = .ok (.putfield 35, 3) := by decide +kernel
theorem dX0_init_53 : decode cX0_init 53 = .ok (.aload_n 0, 1) := by decide +kernel
theorem dX0_init_54 : decode cX0_init 54 = .ok (.iconst 0, 1) := by decide +kernel
theorem dX0_init_55 : decode cX0_init 55 = .ok (.putfield 39, 3) := by decide +kernel
theorem dX0_init_58 : decode cX0_init 58 = .ok (.iconst 0, 1) := by decide +kernel
theorem dX0_init_59 : decode cX0_init 59 = .ok (.istore_n 1, 1) := by decide +kernel
theorem dX0_init_60 : decode cX0_init 60 = .ok (.iload_n 1, 1) := by decide +kernel
theorem dX0_init_61 : decode cX0_init 61 = .ok (.bipush 10, 2) := by decide +kernel
theorem dX0_init_63 : decode cX0_init 63 = .ok (.if_icmp .ge 22, 3) := by decide +kernel
theorem dX0_init_66 : decode cX0_init 66 = .ok (.aload_n 0, 1) := by decide +kernel
theorem dX0_init_67 : decode cX0_init 67 = .ok (.getfield 11, 3) := by decide +kernel
theorem dX0_init_70 : decode cX0_init 70 = .ok (.iload_n 1, 1) := by decide +kernel
theorem dX0_init_71 : decode cX0_init 71 = .ok (.new 9, 3) := by decide +kernel
theorem dX0_init_74 : decode cX0_init 74 = .ok (.dup, 1) := by decide +kernel
theorem dX0_init_75 : decode cX0_init 75 = .ok (.invokespecial 42, 3) := by decide +kernel
theorem dX0_init_78 : decode cX0_init 78 = .ok (.aastore, 1) := by decide +kernel
theorem dX0_init_79 : decode cX0_init 79 = .ok (.iinc 1 1, 3) := by decide +kernel
theorem dX0_init_82 : decode cX0_init 82 = .ok (.goto (-22), 3) := by decide +kernel
theorem dX0_init_85 : decode cX0_init 85 = .ok (.return_, 1) := by decide +kernel
theorem dX0_isAboveLast_0 : decode cX0_isAboveLast 0 = .ok (.aload_n 0, 1) := by decide +kernel
theorem dX0_isAboveLast_1 : decode cX0_isAboveLast 1 = .ok (.getfield 35, 3) := by decide +kernel
theorem dX0_isAboveLast_4 : decode cX0_isAboveLast 4 = .ok (.ifCond .le 21, 3) := by decide +kernel
theorem dX0_isAboveLast_7 : decode cX0_isAboveLast 7 = .ok (.iload_n 1, 1) := by decide +kernel
theorem dX0_isAboveLast_8 : decode cX0_isAboveLast 8 = .ok (.aload_n 0, 1) := by decide +kernel
theorem dX0_isAboveLast_9 : decode cX0_isAboveLast 9 = .ok (.getfield 11, 3) := by decide +kernel
theorem dX0_isAboveLast_12 : decode cX0_isAboveLast 12 = .ok (.aload_n 0, 1) := by decide +kernel
theorem dX0_isAboveLast_13 : decode cX0_isAboveLast 13 = .ok (.getfield 35, 3) := by decide +kernel
theorem dX0_isAboveLast_16 : decode cX0_isAboveLast 16 = .ok (.iconst 1, 1) := by decide +kernel
theorem dX0_isAboveLast_17 : decode cX0_isAboveLast 17 = .ok (.isub, 1) := by decide +kernel
theorem dX0_isAboveLast_18 : decode cX0_isAboveLast 18 = .ok (.aaload, 1) := by decide +kernel
theorem dX0_isAboveLast_19 : decode cX0_isAboveLast 19 = .ok (.getfield 43, 3) := by decide +kernel
theorem dX0_isAboveLast_22 : decode cX0_isAboveLast 22 = .ok (.if_icmp .le 7, 3) := by decide +kernel
theorem dX0_isAboveLast_25 : decode cX0_isAboveLast 25 = .ok (.iconst 1, 1) := by decide +kernel
theorem dX0_isAboveLast_26 : decode cX0_isAboveLast 26 = .ok (.goto 4, 3) := by decide +kernel
theorem dX0_isAboveLast_29 : decode cX0_isAboveLast 29 = .ok (.iconst 0, 1) := by decide +kernel
theorem dX0_isAboveLast_30 : decode cX0_isAboveLast 30 = .ok (.ireturn, 1) := by decide +kernel
theorem dX0_idealStep_0 : decode cX0_idealStep 0 = .ok (.iconst 0, 1) := by decide +kernel
theorem dX0_idealStep_1 : decode cX0_idealStep 1 = .ok (.istore_n 3, 1) := by decide +kernel
theorem dX0_idealStep_2 : decode cX0_idealStep 2 = .ok (.getstatic 46, 3) := by decide +kernel
theorem dX0_idealStep_5 : decode cX0_idealStep 5 = .ok (.iconst 0, 1) := by decide +kernel
theorem dX0_idealStep_6 : decode cX0_idealStep 6 = .ok (.iaload, 1) := by decide +kernel
theorem dX0_idealStep_7 : decode cX0_idealStep 7 = .ok (.i2l, 1) := by decide +kernel
theorem dX0_idealStep_8 : decode cX0_idealStep 8 = .ok (.iload_n 2, 1) := by decide +kernel
theorem dX0_idealStep_9 : decode cX0_idealStep 9 = .ok (.i2l, 1) := by decide +kernel
theorem dX0_idealStep_10 : decode cX0_idealStep 10 = .ok (.lmul, 1) := by decide +kernel
theorem dX0_idealStep_11 : decode cX0_idealStep 11 = .ok (.lstore 4, 2) := by decide +kernel
theorem dX0_idealStep_13 : decode cX0_idealStep 13 = .ok (.iconst 1, 1) := by decide +kernel
theorem dX0_idealStep_14 : decode cX0_idealStep 14 = .ok (.istore 6, 2) := by decide +kernel
theorem dX0_idealStep_16 : decode cX0_idealStep 16 = .ok (.iload 6, 2) := by decide +kernel
theorem dX0_idealStep_18 : decode cX0_idealStep 18 = .ok (.bipush 12, 2) := by decide +kernel
theorem dX0_idealStep_20 : decode cX0_idealStep 20 = .ok (.if_icmp .gt 76, 3) := by decide +kernel
theorem dX0_idealStep_23 : decode cX0_idealStep 23 = .ok (.getstatic 46, 3) := by decide +kernel
theorem dX0_idealStep_26 : decode cX0_idealStep 26 = .ok (.iload 6, 2) := by decide +kernel
theorem dX0_idealStep_28 : decode cX0_idealStep 28 = .ok (.iaload, 1) := by decide +kernel
theorem dX0_idealStep_29 : decode cX0_idealStep 29 = .ok (.i2l, 1) := by decide +kernel
theorem dX0_idealStep_30 : decode cX0_idealStep 30 = .ok (.iload_n 2, 1) := by decide +kernel
theorem dX0_idealStep_31 : decode cX0_idealStep 31 = .ok (.i2l, 1) := by decide +kernel
theorem dX0_idealStep_32 : decode cX0_idealStep 32 = .ok (.lmul, 1) := by decide +kernel
theorem dX0_idealStep_33 : decode cX0_idealStep 33 = .ok (.lstore 7, 2) := by decide +kernel
theorem dX0_idealStep_35 : decode cX0_idealStep 35 = .ok (.getstatic 49, 3) := by decide +kernel
theorem dX0_idealStep_38 : decode cX0_idealStep 38 = .ok (.iload 6, 2) := by decide +kernel
theorem dX0_idealStep_40 : decode cX0_idealStep 40 = .ok (.iaload, 1) := by decide +kernel
theorem dX0_idealStep_41 : decode cX0_idealStep 41 = .ok (.i2l, 1) := by decide +kernel
theorem dX0_idealStep_42 : decode cX0_idealStep 42 = .ok (.iload_n 1, 1) := by decide +kernel
theorem dX0_idealStep_43 : decode cX0_idealStep 43 = .ok (.i2l, 1) := by decide +kernel
theorem dX0_idealStep_44 : decode cX0_idealStep 44 = .ok (.lmul, 1) := by decide +kernel
theorem dX0_idealStep_45 : decode cX0_idealStep 45 = .ok (.lstore 9, 2) := by decide +kernel
theorem dX0_idealStep_47 : decode cX0_idealStep 47 = .ok (.lload 7, 2) := by decide +kernel
theorem dX0_idealStep_49 : decode cX0_idealStep 49 = .ok (.lload 9, 2) := by decide +kernel
theorem dX0_idealStep_51 : decode cX0_idealStep 51 = .ok (.ladd, 1) := by decide +kernel
theorem dX0_idealStep_52 : decode cX0_idealStep 52 = .ok (.lload 4, 2) := by decide +kernel
theorem dX0_idealStep_54 : decode cX0_idealStep 54 = .ok (.lcmp, 1) := by decide +kernel
theorem dX0_idealStep_55 : decode cX0_idealStep 55 = .ok (.ifCond .le 14, 3) := by decide +kernel
theorem dX0_idealStep_58 : decode cX0_idealStep 58 = .ok (.lload 7, 2) := by decide +kernel
theorem dX0_idealStep_60 : decode cX0_idealStep 60 = .ok (.lload 9, 2) := by decide +kernel
theorem dX0_idealStep_62 : decode cX0_idealStep 62 = .ok (.ladd, 1) := by decide +kernel
theorem dX0_idealStep_63 : decode cX0_idealStep 63 = .ok (.lstore 4, 2) := by decide +kernel
theorem dX0_idealStep_65 : decode cX0_idealStep 65 = .ok (.iload 6, 2) := by decide +kernel
theorem dX0_idealStep_67 : decode cX0_idealStep 67 = .ok (.ineg, 1) := by decide +kernel
theorem dX0_idealStep_68 : decode cX0_idealStep 68 = .ok (.istore_n 3, 1) := by decide +kernel
theorem dX0_idealStep_69 : decode cX0_idealStep 69 = .ok (.lload 7, 2) := by decide +kernel
theorem dX0_idealStep_71 : decode cX0_idealStep 71 = .ok (.lload 9, 2) := by decide +kernel
theorem dX0_idealStep_73 : decode cX0_idealStep 73 = .ok (.lsub, 1) := by decide +kernel
theorem dX0_idealStep_74 : decode cX0_idealStep 74 = .ok (.lload 4, 2) := by decide +kernel
theorem dX0_idealStep_76 : decode cX0_idealStep 76 = .ok (.lcmp, 1) := by decide +kernel
theorem dX0_idealStep_77 : decode cX0_idealStep 77 = .ok (.ifCond .le 13, 3) := by decide +kernel
theorem dX0_idealStep_80 : decode cX0_idealStep 80 = .ok (.lload 7, 2) := by decide +kernel
theorem dX0_idealStep_82 : decode cX0_idealStep 82 = .ok (.lload 9, 2) := by decide +kernel
theorem dX0_idealStep_84 : decode cX0_idealStep 84 = .ok (.lsub, 1) := by decide +kernel
theorem dX0_idealStep_85 : decode cX0_idealStep 85 = .ok (.lstore 4, 2) := by decide +kernel
theorem dX0_idealStep_87 : decode cX0_idealStep 87 = .ok (.iload 6, 2) := by decide +kernel
theorem dX0_idealStep_89 : decode cX0_idealStep 89 = .ok (.istore_n 3, 1) := by decide +kernel
theorem dX0_idealStep_90 : decode cX0_idealStep 90 = .ok (.iinc 6 1, 3) := by decide +kernel
theorem dX0_idealStep_93 : decode cX0_idealStep 93 = .ok (.goto (-77), 3) := by decide +kernel
theorem dX0_idealStep_96 : decode cX0_idealStep 96 = .ok (.iload_n 3, 1) := by decide +kernel
theorem dX0_idealStep_97 : decode cX0_idealStep 97 = .ok (.ireturn, 1) := by decide +kernel
theorem dX0_backStep_0 : decode cX0_backStep 0 = .ok (.aload_n 0, 1) := by decide +kernel
theorem dX0_backStep_1 : decode cX0_backStep 1 = .ok (.iload_n 1, 1) := by decide +kernel
theorem dX0_backStep_2 : decode cX0_backStep 2 = .ok (.iload_n 2, 1) := by decide +kernel
theorem dX0_backStep_3 : decode cX0_backStep 3 = .ok (.invokevirtual 52, 3) := by decide +kernel
theorem dX0_backStep_6 : decode cX0_backStep 6 = .ok (.istore_n 3, 1) := by decide +kernel
theorem dX0_backStep_7 : decode cX0_backStep 7 = .ok (.iconst 0, 1) := by decide +kernel
theorem dX0_backStep_8 : decode cX0_backStep 8 = .ok (.istore 4, 2) := by decide +kernel
theorem dX0_backStep_10 : decode cX0_backStep 10 = .ok (.iload 4, 2) := by decide +kernel
theorem dX0_backStep_12 : decode cX0_backStep 12 = .ok (.bipush 24, 2) := by decide +kernel
theorem dX0_backStep_14 : decode cX0_backStep 14 = .ok (.if_icmp .gt 45, 3) := by decide +kernel
theorem dX0_backStep_17 : decode cX0_backStep 17 = .ok (.aload_n 0, 1) := by decide +kernel
theorem dX0_backStep_18 : decode cX0_backStep 18 = .ok (.iload_n 3, 1) := by decide +kernel
theorem dX0_backStep_19 : decode cX0_backStep 19 = .ok (.iload 4, 2) := by decide +kernel
theorem dX0_backStep_21 : decode cX0_backStep 21 = .ok (.isub, 1) := by decide +kernel
theorem dX0_backStep_22 : decode cX0_backStep 22 = .ok (.iload_n 1, 1) := by decide +kernel
theorem dX0_backStep_23 : decode cX0_backStep 23 = .ok (.iload_n 2, 1) := by decide +kernel
theorem dX0_backStep_24 : decode cX0_backStep 24 = .ok (.invokevirtual 56, 3) := by decide +kernel
theorem dX0_backStep_27 : decode cX0_backStep 27 = .ok (.ifCond .eq 8, 3) := by decide +kernel
theorem dX0_backStep_30 : decode cX0_backStep 30 = .ok (.iload_n 3, 1) := by decide +kernel
theorem dX0_backStep_31 : decode cX0_backStep 31 = .ok (.iload 4, 2) := by decide +kernel
theorem dX0_backStep_33 : decode cX0_backStep 33 = .ok (.isub, 1) := by decide +kernel
theorem dX0_backStep_34 : decode cX0_backStep 34 = .ok (.ireturn, 1) := by decide +kernel
theorem dX0_backStep_35 : decode cX0_backStep 35 = .ok (.aload_n 0, 1) := by decide +kernel
theorem dX0_backStep_36 : decode cX0_backStep 36 = .ok (.iload_n 3, 1) := by decide +kernel
theorem dX0_backStep_37 : decode cX0_backStep 37 = .ok (.iload 4, 2) := by decide +kernel
theorem dX0_backStep_39 : decode cX0_backStep 39 = .ok (.iadd, 1) := by decide +kernel
theorem dX0_backStep_40 : decode cX0_backStep 40 = .ok (.iload_n 1, 1) := by decide +kernel
theorem dX0_backStep_41 : decode cX0_backStep 41 = .ok (.iload_n 2, 1) := by decide +kernel
theorem dX0_backStep_42 : decode cX0_backStep 42 = .ok (.invokevirtual 56, 3) := by decide +kernel
theorem dX0_backStep_45 : decode cX0_backStep 45 = .ok (.ifCond .eq 8, 3) := by decide +kernel
theorem dX0_backStep_48 : decode cX0_backStep 48 = .ok (.iload_n 3, 1) := by decide +kernel
theorem dX0_backStep_49 : decode cX0_backStep 49 = .ok (.iload 4, 2) := by decide +kernel
theorem dX0_backStep_51 : decode cX0_backStep 51 = .ok (.iadd, 1) := by decide +kernel
theorem dX0_backStep_52 : decode cX0_backStep 52 = .ok (.ireturn, 1) := by decide +kernel
theorem dX0_backStep_53 : decode cX0_backStep 53 = .ok (.iinc 4 1, 3) := by decide +kernel
theorem dX0_backStep_56 : decode cX0_backStep 56 = .ok (.goto (-46), 3) := by decide +kernel
theorem dX0_backStep_59 : decode cX0_backStep 59 = .ok (.bipush 99, 2) := by decide +kernel
theorem dX0_backStep_61 : decode cX0_backStep 61 = .ok (.ireturn, 1) := by decide +kernel
theorem dX0_isFreeAt_0 : decode cX0_isFreeAt 0 = .ok (.iload_n 1, 1) := by decide +kernel
theorem dX0_isFreeAt_1 : decode cX0_isFreeAt 1 = .ok (.invokestatic 60, 3) := by decide +kernel
theorem dX0_isFreeAt_4 : decode cX0_isFreeAt 4 = .ok (.ifCond .ne 5, 3) := by decide +kernel
theorem dX0_isFreeAt_7 : decode cX0_isFreeAt 7 = .ok (.iconst 0, 1) := by decide +kernel
theorem dX0_isFreeAt_8 : decode cX0_isFreeAt 8 = .ok (.ireturn, 1) := by decide +kernel
theorem dX0_isFreeAt_9 : decode cX0_isFreeAt 9 = .ok (.aload_n 0, 1) := by decide +kernel
theorem dX0_isFreeAt_10 : decode cX0_isFreeAt 10 = .ok (.iload_n 2, 1) := by decide +kernel
theorem dX0_isFreeAt_11 : decode cX0_isFreeAt 11 = .ok (.putfield 39, 3) := by decide +kernel
theorem dX0_isFreeAt_14 : decode cX0_isFreeAt 14 = .ok (.iconst 0, 1) := by decide +kernel
theorem dX0_isFreeAt_15 : decode cX0_isFreeAt 15 = .ok (.istore 4, 2) := by decide +kernel
theorem dX0_isFreeAt_17 : decode cX0_isFreeAt 17 = .ok (.iload 4, 2) := by decide +kernel
theorem dX0_isFreeAt_19 : decode cX0_isFreeAt 19 = .ok (.aload_n 0, 1) := by decide +kernel
theorem dX0_isFreeAt_20 : decode cX0_isFreeAt 20 = .ok (.getfield 35, 3) := by decide +kernel
theorem dX0_isFreeAt_23 : decode cX0_isFreeAt 23 = .ok (.if_icmp .ge 49, 3) := by decide +kernel
theorem dX0_isFreeAt_26 : decode cX0_isFreeAt 26 = .ok (.aload_n 0, 1) := by decide +kernel
theorem dX0_isFreeAt_27 : decode cX0_isFreeAt 27 = .ok (.getfield 11, 3) := by decide +kernel
theorem dX0_isFreeAt_30 : decode cX0_isFreeAt 30 = .ok (.iload 4, 2) := by decide +kernel
theorem dX0_isFreeAt_32 : decode cX0_isFreeAt 32 = .ok (.aaload, 1) := by decide +kernel
theorem dX0_isFreeAt_33 : decode cX0_isFreeAt 33 = .ok (.astore 5, 2) := by decide +kernel
theorem dX0_isFreeAt_35 : decode cX0_isFreeAt 35 = .ok (.aload_n 0, 1) := by decide +kernel
theorem dX0_isFreeAt_36 : decode cX0_isFreeAt 36 = .ok (.getfield 20, 3) := by decide +kernel
theorem dX0_isFreeAt_39 : decode cX0_isFreeAt 39 = .ok (.iload 4, 2) := by decide +kernel
theorem dX0_isFreeAt_41 : decode cX0_isFreeAt 41 = .ok (.aload 5, 2) := by decide +kernel
theorem dX0_isFreeAt_43 : decode cX0_isFreeAt 43 = .ok (.aload 5, 2) := by decide +kernel
theorem dX0_isFreeAt_45 : decode cX0_isFreeAt 45 = .ok (.getfield 64, 3) := by decide +kernel
theorem dX0_isFreeAt_48 : decode cX0_isFreeAt 48 = .ok (.iconst 1, 1) := by decide +kernel
theorem dX0_isFreeAt_49 : decode cX0_isFreeAt 49 = .ok (.if_icmp .ne 11, 3) := by decide +kernel
theorem dX0_isFreeAt_52 : decode cX0_isFreeAt 52 = .ok (.aload 5, 2) := by decide +kernel
theorem dX0_isFreeAt_54 : decode cX0_isFreeAt 54 = .ok (.getfield 67, 3) := by decide +kernel
theorem dX0_isFreeAt_57 : decode cX0_isFreeAt 57 = .ok (.goto 4, 3) := by decide +kernel
theorem dX0_isFreeAt_60 : decode cX0_isFreeAt 60 = .ok (.iload_n 1, 1) := by decide +kernel
theorem dX0_isFreeAt_61 : decode cX0_isFreeAt 61 = .ok (.iload_n 2, 1) := by decide +kernel
theorem dX0_isFreeAt_62 : decode cX0_isFreeAt 62 = .ok (.iload_n 3, 1) := by decide +kernel
theorem dX0_isFreeAt_63 : decode cX0_isFreeAt 63 = .ok (.invokevirtual 70, 3) := by decide +kernel
theorem dX0_isFreeAt_66 : decode cX0_isFreeAt 66 = .ok (.iinc 4 1, 3) := by decide +kernel
theorem dX0_isFreeAt_69 : decode cX0_isFreeAt 69 = .ok (.goto (-52), 3) := by decide +kernel
theorem dX0_isFreeAt_72 : decode cX0_isFreeAt 72 = .ok (.iconst 0, 1) := by decide +kernel
theorem dX0_isFreeAt_73 : decode cX0_isFreeAt 73 = .ok (.istore 4, 2) := by decide +kernel
theorem dX0_isFreeAt_75 : decode cX0_isFreeAt 75 = .ok (.iload 4, 2) := by decide +kernel
theorem dX0_isFreeAt_77 : decode cX0_isFreeAt 77 = .ok (.aload_n 0, 1) := by decide +kernel
theorem dX0_isFreeAt_78 : decode cX0_isFreeAt 78 = .ok (.getfield 35, 3) := by decide +kernel
theorem dX0_isFreeAt_81 : decode cX0_isFreeAt 81 = .ok (.if_icmp .ge 61, 3) := by decide +kernel
theorem dX0_isFreeAt_84 : decode cX0_isFreeAt 84 = .ok (.aload_n 0, 1) := by decide +kernel
theorem dX0_isFreeAt_85 : decode cX0_isFreeAt 85 = .ok (.getfield 11, 3) := by decide +kernel
theorem dX0_isFreeAt_88 : decode cX0_isFreeAt 88 = .ok (.iload 4, 2) := by decide +kernel
theorem dX0_isFreeAt_90 : decode cX0_isFreeAt 90 = .ok (.aaload, 1) := by decide +kernel
theorem dX0_isFreeAt_91 : decode cX0_isFreeAt 91 = .ok (.getfield 64, 3) := by decide +kernel
theorem dX0_isFreeAt_94 : decode cX0_isFreeAt 94 = .ok (.iconst 1, 1) := by decide +kernel
theorem dX0_isFreeAt_95 : decode cX0_isFreeAt 95 = .ok (.if_icmp .eq 41, 3) := by decide +kernel
theorem dX0_isFreeAt_98 : decode cX0_isFreeAt 98 = .ok (.aload_n 0, 1) := by decide +kernel
theorem dX0_isFreeAt_99 : decode cX0_isFreeAt 99 = .ok (.getfield 20, 3) := by decide +kernel
theorem dX0_isFreeAt_102 : decode cX0_isFreeAt 102 = .ok (.iload 4, 2) := by decide +kernel
theorem dX0_isFreeAt_104 : decode cX0_isFreeAt 104 = .ok (.invokevirtual 74, 3) := by decide +kernel
theorem dX0_isFreeAt_107 : decode cX0_isFreeAt 107 = .ok (.ifCond .eq 29, 3) := by decide +kernel
theorem dX0_isFreeAt_110 : decode cX0_isFreeAt 110 = .ok (.aload_n 0, 1) := by decide +kernel
theorem dX0_isFreeAt_111 : decode cX0_isFreeAt 111 = .ok (.getfield 20, 3) := by decide +kernel
theorem dX0_isFreeAt_114 : decode cX0_isFreeAt 114 = .ok (.iload 4, 2) := by decide +kernel
theorem dX0_isFreeAt_116 : decode cX0_isFreeAt 116 = .ok (.aload_n 0, 1) := by decide +kernel
theorem dX0_isFreeAt_117 : decode cX0_isFreeAt 117 = .ok (.iload 4, 2) := by decide +kernel
theorem dX0_isFreeAt_119 : decode cX0_isFreeAt 119 = .ok (.invokevirtual 77, 3) := by decide +kernel
theorem dX0_isFreeAt_122 : decode cX0_isFreeAt 122 = .ok (.aload_n 0, 1) := by decide +kernel
theorem dX0_isFreeAt_123 : decode cX0_isFreeAt 123 = .ok (.iload 4, 2) := by decide +kernel
theorem dX0_isFreeAt_125 : decode cX0_isFreeAt 125 = .ok (.invokevirtual 81, 3) := by decide +kernel
theorem dX0_isFreeAt_128 : decode cX0_isFreeAt 128 = .ok (.invokevirtual 84, 3) := by decide +kernel
theorem dX0_isFreeAt_131 : decode cX0_isFreeAt 131 = .ok (.ifCond .eq 5, 3) := by decide +kernel
theorem dX0_isFreeAt_134 : decode cX0_isFreeAt 134 = .ok (.iconst 0, 1) := by decide +kernel
theorem dX0_isFreeAt_135 : decode cX0_isFreeAt 135 = .ok (.ireturn, 1) := by decide +kernel
theorem dX0_isFreeAt_136 : decode cX0_isFreeAt 136 = .ok (.iinc 4 1, 3) := by decide +kernel
theorem dX0_isFreeAt_139 : decode cX0_isFreeAt 139 = .ok (.goto (-64), 3) := by decide +kernel
theorem dX0_isFreeAt_142 : decode cX0_isFreeAt 142 = .ok (.iconst 1, 1) := by decide +kernel
theorem dX0_isFreeAt_143 : decode cX0_isFreeAt 143 = .ok (.ireturn, 1) := by decide +kernel
theorem dX0_lookAsTurned_0 : decode cX0_lookAsTurned 0 = .ok (.aload_n 0, 1) := by decide +kernel
theorem dX0_lookAsTurned_1 : decode cX0_lookAsTurned 1 = .ok (.iload_n 1, 1) := by decide +kernel
theorem dX0_lookAsTurned_2 : decode cX0_lookAsTurned 2 = .ok (.putfield 39, 3) := by decide +kernel
theorem dX0_lookAsTurned_5 : decode cX0_lookAsTurned 5 = .ok (.iconst 0, 1) := by decide +kernel
theorem dX0_lookAsTurned_6 : decode cX0_lookAsTurned 6 = .ok (.istore_n 3, 1) := by decide +kernel
theorem dX0_lookAsTurned_7 : decode cX0_lookAsTurned 7 = .ok (.iload_n 3, 1) := by decide +kernel
theorem dX0_lookAsTurned_8 : decode cX0_lookAsTurned 8 = .ok (.aload_n 0, 1) := by decide +kernel
theorem dX0_lookAsTurned_9 : decode cX0_lookAsTurned 9 = .ok (.getfield 35, 3) := by decide +kernel
theorem dX0_lookAsTurned_12 : decode cX0_lookAsTurned 12 = .ok (.if_icmp .ge 34, 3) := by decide +kernel
theorem dX0_lookAsTurned_15 : decode cX0_lookAsTurned 15 = .ok (.aload_n 0, 1) := by decide +kernel
theorem dX0_lookAsTurned_16 : decode cX0_lookAsTurned 16 = .ok (.getfield 20, 3) := by decide +kernel
theorem dX0_lookAsTurned_19 : decode cX0_lookAsTurned 19 = .ok (.iload_n 3, 1) := by decide +kernel
theorem dX0_lookAsTurned_20 : decode cX0_lookAsTurned 20 = .ok (.aload_n 0, 1) := by decide +kernel
theorem dX0_lookAsTurned_21 : decode cX0_lookAsTurned 21 = .ok (.getfield 11, 3) := by decide +kernel
theorem dX0_lookAsTurned_24 : decode cX0_lookAsTurned 24 = .ok (.iload_n 3, 1) := by decide +kernel
theorem dX0_lookAsTurned_25 : decode cX0_lookAsTurned 25 = .ok (.aaload, 1) := by decide +kernel
theorem dX0_lookAsTurned_26 : decode cX0_lookAsTurned 26 = .ok (.aload_n 0, 1) := by decide +kernel
theorem dX0_lookAsTurned_27 : decode cX0_lookAsTurned 27 = .ok (.getfield 11, 3) := by decide +kernel
theorem dX0_lookAsTurned_30 : decode cX0_lookAsTurned 30 = .ok (.iload_n 3, 1) := by decide +kernel
theorem dX0_lookAsTurned_31 : decode cX0_lookAsTurned 31 = .ok (.aaload, 1) := by decide +kernel
theorem dX0_lookAsTurned_32 : decode cX0_lookAsTurned 32 = .ok (.getfield 67, 3) := by decide +kernel
theorem dX0_lookAsTurned_35 : decode cX0_lookAsTurned 35 = .ok (.iload_n 1, 1) := by decide +kernel
theorem dX0_lookAsTurned_36 : decode cX0_lookAsTurned 36 = .ok (.iload_n 2, 1) := by decide +kernel
theorem dX0_lookAsTurned_37 : decode cX0_lookAsTurned 37 = .ok (.invokevirtual 70, 3) := by decide +kernel
theorem dX0_lookAsTurned_40 : decode cX0_lookAsTurned 40 = .ok (.iinc 3 1, 3) := by decide +kernel
theorem dX0_lookAsTurned_43 : decode cX0_lookAsTurned 43 = .ok (.goto (-36), 3) := by decide +kernel
theorem dX0_lookAsTurned_46 : decode cX0_lookAsTurned 46 = .ok (.return_, 1) := by decide +kernel
theorem dX0_firstAhead_0 : decode cX0_firstAhead 0 = .ok (.aload_n 0, 1) := by decide +kernel
theorem dX0_firstAhead_1 : decode cX0_firstAhead 1 = .ok (.getfield 39, 3) := by decide +kernel
theorem dX0_firstAhead_4 : decode cX0_firstAhead 4 = .ok (.ifCond .le 9, 3) := by decide +kernel
theorem dX0_firstAhead_7 : decode cX0_firstAhead 7 = .ok (.iload_n 1, 1) := by decide +kernel
theorem dX0_firstAhead_8 : decode cX0_firstAhead 8 = .ok (.iconst 1, 1) := by decide +kernel
theorem dX0_firstAhead_9 : decode cX0_firstAhead 9 = .ok (.iadd, 1) := by decide +kernel
theorem dX0_firstAhead_10 : decode cX0_firstAhead 10 = .ok (.goto 4, 3) := by decide +kernel
theorem dX0_firstAhead_13 : decode cX0_firstAhead 13 = .ok (.iconst 0, 1) := by decide +kernel
theorem dX0_firstAhead_14 : decode cX0_firstAhead 14 = .ok (.ireturn, 1) := by decide +kernel
theorem dX0_lastAhead_0 : decode cX0_lastAhead 0 = .ok (.aload_n 0, 1) := by decide +kernel
theorem dX0_lastAhead_1 : decode cX0_lastAhead 1 = .ok (.getfield 39, 3) := by decide +kernel
theorem dX0_lastAhead_4 : decode cX0_lastAhead 4 = .ok (.ifCond .ne 5, 3) := by decide +kernel
theorem dX0_lastAhead_7 : decode cX0_lastAhead 7 = .ok (.iconst (-1), 1) := by decide +kernel
theorem dX0_lastAhead_8 : decode cX0_lastAhead 8 = .ok (.ireturn, 1) := by decide +kernel
theorem dX0_lastAhead_9 : decode cX0_lastAhead 9 = .ok (.aload_n 0, 1) := by decide +kernel
theorem dX0_lastAhead_10 : decode cX0_lastAhead 10 = .ok (.getfield 39, 3) := by decide +kernel
theorem dX0_lastAhead_13 : decode cX0_lastAhead 13 = .ok (.ifCond .le 12, 3) := by decide +kernel
theorem dX0_lastAhead_16 : decode cX0_lastAhead 16 = .ok (.aload_n 0, 1) := by decide +kernel
theorem dX0_lastAhead_17 : decode cX0_lastAhead 17 = .ok (.getfield 35, 3) := by decide +kernel
theorem dX0_lastAhead_20 : decode cX0_lastAhead 20 = .ok (.iconst 1, 1) := by decide +kernel
theorem dX0_lastAhead_21 : decode cX0_lastAhead 21 = .ok (.isub, 1) := by decide +kernel
theorem dX0_lastAhead_22 : decode cX0_lastAhead 22 = .ok (.goto 6, 3) := by decide +kernel
theorem dX0_lastAhead_25 : decode cX0_lastAhead 25 = .ok (.iload_n 1, 1) := by decide +kernel
theorem dX0_lastAhead_26 : decode cX0_lastAhead 26 = .ok (.iconst 1, 1) := by decide +kernel
theorem dX0_lastAhead_27 : decode cX0_lastAhead 27 = .ok (.isub, 1) := by decide +kernel
theorem dX0_lastAhead_28 : decode cX0_lastAhead 28 = .ok (.ireturn, 1) := by decide +kernel
theorem dX0_castShade_0 : decode cX0_castShade 0 = .ok (.aload_n 0, 1) := by decide +kernel
theorem dX0_castShade_1 : decode cX0_castShade 1 = .ok (.getfield 20, 3) := by decide +kernel
theorem dX0_castShade_4 : decode cX0_castShade 4 = .ok (.iload_n 1, 1) := by decide +kernel
theorem dX0_castShade_5 : decode cX0_castShade 5 = .ok (.aload_n 0, 1) := by decide +kernel
theorem dX0_castShade_6 : decode cX0_castShade 6 = .ok (.iload_n 1, 1) := by decide +kernel
theorem dX0_castShade_7 : decode cX0_castShade 7 = .ok (.invokevirtual 77, 3) := by decide +kernel
theorem dX0_castShade_10 : decode cX0_castShade 10 = .ok (.aload_n 0, 1) := by decide +kernel
theorem dX0_castShade_11 : decode cX0_castShade 11 = .ok (.iload_n 1, 1) := by decide +kernel
theorem dX0_castShade_12 : decode cX0_castShade 12 = .ok (.invokevirtual 81, 3) := by decide +kernel
theorem dX0_castShade_15 : decode cX0_castShade 15 = .ok (.invokevirtual 87, 3) := by decide +kernel
theorem dX0_castShade_18 : decode cX0_castShade 18 = .ok (.return_, 1) := by decide +kernel
theorem dX0_weighAll_0 : decode cX0_weighAll 0 = .ok (.iconst 0, 1) := by decide +kernel
theorem dX0_weighAll_1 : decode cX0_weighAll 1 = .ok (.istore_n 1, 1) := by decide +kernel
theorem dX0_weighAll_2 : decode cX0_weighAll 2 = .ok (.iload_n 1, 1) := by decide +kernel
theorem dX0_weighAll_3 : decode cX0_weighAll 3 = .ok (.aload_n 0, 1) := by decide +kernel
theorem dX0_weighAll_4 : decode cX0_weighAll 4 = .ok (.getfield 35, 3) := by decide +kernel
theorem dX0_weighAll_7 : decode cX0_weighAll 7 = .ok (.if_icmp .ge 14, 3) := by decide +kernel
theorem dX0_weighAll_10 : decode cX0_weighAll 10 = .ok (.aload_n 0, 1) := by decide +kernel
theorem dX0_weighAll_11 : decode cX0_weighAll 11 = .ok (.iload_n 1, 1) := by decide +kernel
theorem dX0_weighAll_12 : decode cX0_weighAll 12 = .ok (.invokevirtual 91, 3) := by decide +kernel
theorem dX0_weighAll_15 : decode cX0_weighAll 15 = .ok (.iinc 1 1, 3) := by decide +kernel
theorem dX0_weighAll_18 : decode cX0_weighAll 18 = .ok (.goto (-16), 3) := by decide +kernel
theorem dX0_weighAll_21 : decode cX0_weighAll 21 = .ok (.return_, 1) := by decide +kernel
theorem dX0_weigh_0 : decode cX0_weigh 0 = .ok (.aload_n 0, 1) := by decide +kernel
theorem dX0_weigh_1 : decode cX0_weigh 1 = .ok (.getfield 24, 3) := by decide +kernel
theorem dX0_weigh_4 : decode cX0_weigh 4 = .ok (.iload_n 1, 1) := by decide +kernel
theorem dX0_weigh_5 : decode cX0_weigh 5 = .ok (.lconst 0, 1) := by decide +kernel
theorem dX0_weigh_6 : decode cX0_weigh 6 = .ok (.lastore, 1) := by decide +kernel
theorem dX0_weigh_7 : decode cX0_weigh 7 = .ok (.aload_n 0, 1) := by decide +kernel
theorem dX0_weigh_8 : decode cX0_weigh 8 = .ok (.getfield 28, 3) := by decide +kernel
theorem dX0_weigh_11 : decode cX0_weigh 11 = .ok (.iload_n 1, 1) := by decide +kernel
theorem dX0_weigh_12 : decode cX0_weigh 12 = .ok (.lconst 0, 1) := by decide +kernel
theorem dX0_weigh_13 : decode cX0_weigh 13 = .ok (.lastore, 1) := by decide +kernel
theorem dX0_weigh_14 : decode cX0_weigh 14 = .ok (.aload_n 0, 1) := by decide +kernel
theorem dX0_weigh_15 : decode cX0_weigh 15 = .ok (.getfield 31, 3) := by decide +kernel
theorem dX0_weigh_18 : decode cX0_weigh 18 = .ok (.iload_n 1, 1) := by decide +kernel
theorem dX0_weigh_19 : decode cX0_weigh 19 = .ok (.iconst 0, 1) := by decide +kernel
theorem dX0_weigh_20 : decode cX0_weigh 20 = .ok (.iastore, 1) := by decide +kernel
theorem dX0_weigh_21 : decode cX0_weigh 21 = .ok (.aload_n 0, 1) := by decide +kernel
theorem dX0_weigh_22 : decode cX0_weigh 22 = .ok (.getfield 20, 3) := by decide +kernel
theorem dX0_weigh_25 : decode cX0_weigh 25 = .ok (.iload_n 1, 1) := by decide +kernel
theorem dX0_weigh_26 : decode cX0_weigh 26 = .ok (.invokevirtual 74, 3) := by decide +kernel
theorem dX0_weigh_29 : decode cX0_weigh 29 = .ok (.ifCond .ne 4, 3) := by decide +kernel
theorem dX0_weigh_32 : decode cX0_weigh 32 = .ok (.return_, 1) := by decide +kernel
theorem dX0_weigh_33 : decode cX0_weigh 33 = .ok (.aload_n 0, 1) := by decide +kernel
theorem dX0_weigh_34 : decode cX0_weigh 34 = .ok (.iload_n 1, 1) := by decide +kernel
theorem dX0_weigh_35 : decode cX0_weigh 35 = .ok (.invokevirtual 95, 3) := by decide +kernel
theorem dX0_weigh_38 : decode cX0_weigh 38 = .ok (.iconst 3, 1) := by decide +kernel
theorem dX0_weigh_39 : decode cX0_weigh 39 = .ok (.aload_n 0, 1) := by decide +kernel
theorem dX0_weigh_40 : decode cX0_weigh 40 = .ok (.getfield 20, 3) := by decide +kernel
theorem dX0_weigh_43 : decode cX0_weigh 43 = .ok (.iload_n 1, 1) := by decide +kernel
theorem dX0_weigh_44 : decode cX0_weigh 44 = .ok (.invokevirtual 98, 3) := by decide +kernel
theorem dX0_weigh_47 : decode cX0_weigh 47 = .ok (.invokestatic 101, 3) := by decide +kernel
theorem dX0_weigh_50 : decode cX0_weigh 50 = .ok (.isub, 1) := by decide +kernel
theorem dX0_weigh_51 : decode cX0_weigh 51 = .ok (.istore_n 2, 1) := by decide +kernel
theorem dX0_weigh_52 : decode cX0_weigh 52 = .ok (.aload_n 0, 1) := by decide +kernel
theorem dX0_weigh_53 : decode cX0_weigh 53 = .ok (.getfield 24, 3) := by decide +kernel
theorem dX0_weigh_56 : decode cX0_weigh 56 = .ok (.iload_n 1, 1) := by decide +kernel
theorem dX0_weigh_57 : decode cX0_weigh 57 = .ok (.iload_n 2, 1) := by decide +kernel
theorem dX0_weigh_58 : decode cX0_weigh 58 = .ok (.i2l, 1) := by decide +kernel
theorem dX0_weigh_59 : decode cX0_weigh 59 = .ok (.aload_n 0, 1) := by decide +kernel
theorem dX0_weigh_60 : decode cX0_weigh 60 = .ok (.getfield 20, 3) := by decide +kernel
theorem dX0_weigh_63 : decode cX0_weigh 63 = .ok (.iload_n 1, 1) := by decide +kernel
theorem dX0_weigh_64 : decode cX0_weigh 64 = .ok (.invokevirtual 106, 3) := by decide +kernel
theorem dX0_weigh_67 : decode cX0_weigh 67 = .ok (.lmul, 1) := by decide +kernel
theorem dX0_weigh_68 : decode cX0_weigh 68 = .ok (.ldc2_w 110, 3) := by decide +kernel
theorem dX0_weigh_71 : decode cX0_weigh 71 = .ok (.ldiv, 1) := by decide +kernel
theorem dX0_weigh_72 : decode cX0_weigh 72 = .ok (.lastore, 1) := by decide +kernel
theorem dX0_weigh_73 : decode cX0_weigh 73 = .ok (.aload_n 0, 1) := by decide +kernel
theorem dX0_weigh_74 : decode cX0_weigh 74 = .ok (.getfield 28, 3) := by decide +kernel
theorem dX0_weigh_77 : decode cX0_weigh 77 = .ok (.iload_n 1, 1) := by decide +kernel
theorem dX0_weigh_78 : decode cX0_weigh 78 = .ok (.aload_n 0, 1) := by decide +kernel
theorem dX0_weigh_79 : decode cX0_weigh 79 = .ok (.getfield 24, 3) := by decide +kernel
theorem dX0_weigh_82 : decode cX0_weigh 82 = .ok (.iload_n 1, 1) := by decide +kernel
theorem dX0_weigh_83 : decode cX0_weigh 83 = .ok (.laload, 1) := by decide +kernel
theorem dX0_weigh_84 : decode cX0_weigh 84 = .ok (.aload_n 0, 1) := by decide +kernel
theorem dX0_weigh_85 : decode cX0_weigh 85 = .ok (.getfield 11, 3) := by decide +kernel
theorem dX0_weigh_88 : decode cX0_weigh 88 = .ok (.iload_n 1, 1) := by decide +kernel
theorem dX0_weigh_89 : decode cX0_weigh 89 = .ok (.aaload, 1) := by decide +kernel
theorem dX0_weigh_90 : decode cX0_weigh 90 = .ok (.getfield 112, 3) := by decide +kernel
theorem dX0_weigh_93 : decode cX0_weigh 93 = .ok (.i2l, 1) := by decide +kernel
theorem dX0_weigh_94 : decode cX0_weigh 94 = .ok (.lmul, 1) := by decide +kernel
theorem dX0_weigh_95 : decode cX0_weigh 95 = .ok (.ldc2_w 115, 3) := by decide +kernel
theorem dX0_weigh_98 : decode cX0_weigh 98 = .ok (.ldiv, 1) := by decide +kernel
theorem dX0_weigh_99 : decode cX0_weigh 99 = .ok (.lastore, 1) := by decide +kernel
theorem dX0_weigh_100 : decode cX0_weigh 100 = .ok (.aload_n 0, 1) := by decide +kernel
theorem dX0_weigh_101 : decode cX0_weigh 101 = .ok (.getfield 31, 3) := by decide +kernel
theorem dX0_weigh_104 : decode cX0_weigh 104 = .ok (.iload_n 1, 1) := by decide +kernel
theorem dX0_weigh_105 : decode cX0_weigh 105 = .ok (.aload_n 0, 1) := by decide +kernel
theorem dX0_weigh_106 : decode cX0_weigh 106 = .ok (.getfield 24, 3) := by decide +kernel
theorem dX0_weigh_109 : decode cX0_weigh 109 = .ok (.iload_n 1, 1) := by decide +kernel
theorem dX0_weigh_110 : decode cX0_weigh 110 = .ok (.laload, 1) := by decide +kernel
theorem dX0_weigh_111 : decode cX0_weigh 111 = .ok (.aload_n 0, 1) := by decide +kernel
theorem dX0_weigh_112 : decode cX0_weigh 112 = .ok (.getfield 28, 3) := by decide +kernel
theorem dX0_weigh_115 : decode cX0_weigh 115 = .ok (.iload_n 1, 1) := by decide +kernel
theorem dX0_weigh_116 : decode cX0_weigh 116 = .ok (.laload, 1) := by decide +kernel
theorem dX0_weigh_117 : decode cX0_weigh 117 = .ok (.lsub, 1) := by decide +kernel
theorem dX0_weigh_118 : decode cX0_weigh 118 = .ok (.l2i, 1) := by decide +kernel
theorem dX0_weigh_119 : decode cX0_weigh 119 = .ok (.iastore, 1) := by decide +kernel
theorem dX0_weigh_120 : decode cX0_weigh 120 = .ok (.return_, 1) := by decide +kernel
theorem dX0_turnTo_0 : decode cX0_turnTo 0 = .ok (.iconst 0, 1) := by decide +kernel
theorem dX0_turnTo_1 : decode cX0_turnTo 1 = .ok (.istore_n 3, 1) := by decide +kernel
theorem dX0_turnTo_2 : decode cX0_turnTo 2 = .ok (.iload_n 3, 1) := by decide +kernel
theorem dX0_turnTo_3 : decode cX0_turnTo 3 = .ok (.aload_n 0, 1) := by decide +kernel
theorem dX0_turnTo_4 : decode cX0_turnTo 4 = .ok (.getfield 35, 3) := by decide +kernel
theorem dX0_turnTo_7 : decode cX0_turnTo 7 = .ok (.if_icmp .ge 45, 3) := by decide +kernel
theorem dX0_turnTo_10 : decode cX0_turnTo 10 = .ok (.aload_n 0, 1) := by decide +kernel
theorem dX0_turnTo_11 : decode cX0_turnTo 11 = .ok (.getfield 11, 3) := by decide +kernel
theorem dX0_turnTo_14 : decode cX0_turnTo 14 = .ok (.iload_n 3, 1) := by decide +kernel
theorem dX0_turnTo_15 : decode cX0_turnTo 15 = .ok (.aaload, 1) := by decide +kernel
theorem dX0_turnTo_16 : decode cX0_turnTo 16 = .ok (.astore 4, 2) := by decide +kernel
theorem dX0_turnTo_18 : decode cX0_turnTo 18 = .ok (.aload 4, 2) := by decide +kernel
theorem dX0_turnTo_20 : decode cX0_turnTo 20 = .ok (.getfield 64, 3) := by decide +kernel
theorem dX0_turnTo_23 : decode cX0_turnTo 23 = .ok (.iconst 1, 1) := by decide +kernel
theorem dX0_turnTo_24 : decode cX0_turnTo 24 = .ok (.if_icmp .eq 22, 3) := by decide +kernel
theorem dX0_turnTo_27 : decode cX0_turnTo 27 = .ok (.aload 4, 2) := by decide +kernel
theorem dX0_turnTo_29 : decode cX0_turnTo 29 = .ok (.aload 4, 2) := by decide +kernel
theorem dX0_turnTo_31 : decode cX0_turnTo 31 = .ok (.getfield 64, 3) := by decide +kernel
theorem dX0_turnTo_34 : decode cX0_turnTo 34 = .ok (.iconst 2, 1) := by decide +kernel
theorem dX0_turnTo_35 : decode cX0_turnTo 35 = .ok (.if_icmp .ne 7, 3) := by decide +kernel
theorem dX0_turnTo_38 : decode cX0_turnTo 38 = .ok (.iload_n 2, 1) := by decide +kernel
theorem dX0_turnTo_39 : decode cX0_turnTo 39 = .ok (.goto 4, 3) := by decide +kernel
theorem dX0_turnTo_42 : decode cX0_turnTo 42 = .ok (.iload_n 1, 1) := by decide +kernel
theorem dX0_turnTo_43 : decode cX0_turnTo 43 = .ok (.putfield 67, 3) := by decide +kernel
theorem dX0_turnTo_46 : decode cX0_turnTo 46 = .ok (.iinc 3 1, 3) := by decide +kernel
theorem dX0_turnTo_49 : decode cX0_turnTo 49 = .ok (.goto (-47), 3) := by decide +kernel
theorem dX0_turnTo_52 : decode cX0_turnTo 52 = .ok (.return_, 1) := by decide +kernel
theorem dX0_washAll_0 : decode cX0_washAll 0 = .ok (.iconst 0, 1) := by decide +kernel
theorem dX0_washAll_1 : decode cX0_washAll 1 = .ok (.istore_n 1, 1) := by decide +kernel
theorem dX0_washAll_2 : decode cX0_washAll 2 = .ok (.iload_n 1, 1) := by decide +kernel
theorem dX0_washAll_3 : decode cX0_washAll 3 = .ok (.aload_n 0, 1) := by decide +kernel
theorem dX0_washAll_4 : decode cX0_washAll 4 = .ok (.getfield 35, 3) := by decide +kernel
theorem dX0_washAll_7 : decode cX0_washAll 7 = .ok (.if_icmp .ge 19, 3) := by decide +kernel
theorem dX0_washAll_10 : decode cX0_washAll 10 = .ok (.aload_n 0, 1) := by decide +kernel
theorem dX0_washAll_11 : decode cX0_washAll 11 = .ok (.getfield 11, 3) := by decide +kernel
theorem dX0_washAll_14 : decode cX0_washAll 14 = .ok (.iload_n 1, 1) := by decide +kernel
theorem dX0_washAll_15 : decode cX0_washAll 15 = .ok (.aaload, 1) := by decide +kernel
theorem dX0_washAll_16 : decode cX0_washAll 16 = .ok (.invokevirtual 117, 3) := by decide +kernel
theorem dX0_washAll_19 : decode cX0_washAll 19 = .ok (.pop, 1) := by decide +kernel
theorem dX0_washAll_20 : decode cX0_washAll 20 = .ok (.iinc 1 1, 3) := by decide +kernel
theorem dX0_washAll_23 : decode cX0_washAll 23 = .ok (.goto (-21), 3) := by decide +kernel
theorem dX0_washAll_26 : decode cX0_washAll 26 = .ok (.return_, 1) := by decide +kernel
theorem dX0_washRows_0 : decode cX0_washRows 0 = .ok (.iconst 0, 1) := by decide +kernel
theorem dX0_washRows_1 : decode cX0_washRows 1 = .ok (.istore_n 2, 1) := by decide +kernel
theorem dX0_washRows_2 : decode cX0_washRows 2 = .ok (.iconst 0, 1) := by decide +kernel
theorem dX0_washRows_3 : decode cX0_washRows 3 = .ok (.istore_n 3, 1) := by decide +kernel
theorem dX0_washRows_4 : decode cX0_washRows 4 = .ok (.iload_n 3, 1) := by decide +kernel
theorem dX0_washRows_5 : decode cX0_washRows 5 = .ok (.aload_n 0, 1) := by decide +kernel
theorem dX0_washRows_6 : decode cX0_washRows 6 = .ok (.getfield 35, 3) := by decide +kernel
theorem dX0_washRows_9 : decode cX0_washRows 9 = .ok (.if_icmp .ge 33, 3) := by decide +kernel
theorem dX0_washRows_12 : decode cX0_washRows 12 = .ok (.iload_n 1, 1) := by decide +kernel
theorem dX0_washRows_13 : decode cX0_washRows 13 = .ok (.iload_n 3, 1) := by decide +kernel
theorem dX0_washRows_14 : decode cX0_washRows 14 = .ok (.ishr, 1) := by decide +kernel
theorem dX0_washRows_15 : decode cX0_washRows 15 = .ok (.iconst 1, 1) := by decide +kernel
theorem dX0_washRows_16 : decode cX0_washRows 16 = .ok (.iand, 1) := by decide +kernel
theorem dX0_washRows_17 : decode cX0_washRows 17 = .ok (.iconst 1, 1) := by decide +kernel
theorem dX0_washRows_18 : decode cX0_washRows 18 = .ok (.if_icmp .ne 18, 3) := by decide +kernel
theorem dX0_washRows_21 : decode cX0_washRows 21 = .ok (.aload_n 0, 1) := by decide +kernel
theorem dX0_washRows_22 : decode cX0_washRows 22 = .ok (.getfield 11, 3) := by decide +kernel
theorem dX0_washRows_25 : decode cX0_washRows 25 = .ok (.iload_n 3, 1) := by decide +kernel
theorem dX0_washRows_26 : decode cX0_washRows 26 = .ok (.aaload, 1) := by decide +kernel
theorem dX0_washRows_27 : decode cX0_washRows 27 = .ok (.invokevirtual 117, 3) := by decide +kernel
theorem dX0_washRows_30 : decode cX0_washRows 30 = .ok (.ifCond .eq 6, 3) := by decide +kernel
theorem dX0_washRows_33 : decode cX0_washRows 33 = .ok (.iinc 2 1, 3) := by decide +kernel
theorem dX0_washRows_36 : decode cX0_washRows 36 = .ok (.iinc 3 1, 3) := by decide +kernel
theorem dX0_washRows_39 : decode cX0_washRows 39 = .ok (.goto (-35), 3) := by decide +kernel
theorem dX0_washRows_42 : decode cX0_washRows 42 = .ok (.iload_n 2, 1) := by decide +kernel
theorem dX0_washRows_43 : decode cX0_washRows 43 = .ok (.ireturn, 1) := by decide +kernel
theorem dX0_addDust_0 : decode cX0_addDust 0 = .ok (.iconst 0, 1) := by decide +kernel
theorem dX0_addDust_1 : decode cX0_addDust 1 = .ok (.istore_n 2, 1) := by decide +kernel
theorem dX0_addDust_2 : decode cX0_addDust 2 = .ok (.iconst 0, 1) := by decide +kernel
theorem dX0_addDust_3 : decode cX0_addDust 3 = .ok (.istore_n 3, 1) := by decide +kernel
theorem dX0_addDust_4 : decode cX0_addDust 4 = .ok (.iload_n 3, 1) := by decide +kernel
theorem dX0_addDust_5 : decode cX0_addDust 5 = .ok (.aload_n 0, 1) := by decide +kernel
theorem dX0_addDust_6 : decode cX0_addDust 6 = .ok (.getfield 35, 3) := by decide +kernel
theorem dX0_addDust_9 : decode cX0_addDust 9 = .ok (.if_icmp .ge 47, 3) := by decide +kernel
theorem dX0_addDust_12 : decode cX0_addDust 12 = .ok (.aload_n 0, 1) := by decide +kernel
theorem dX0_addDust_13 : decode cX0_addDust 13 = .ok (.getfield 11, 3) := by decide +kernel
theorem dX0_addDust_16 : decode cX0_addDust 16 = .ok (.iload_n 3, 1) := by decide +kernel
theorem dX0_addDust_17 : decode cX0_addDust 17 = .ok (.aaload, 1) := by decide +kernel
theorem dX0_addDust_18 : decode cX0_addDust 18 = .ok (.sipush 1000, 3) := by decide +kernel
theorem dX0_addDust_21 : decode cX0_addDust 21 = .ok (.aload_n 0, 1) := by decide +kernel
theorem dX0_addDust_22 : decode cX0_addDust 22 = .ok (.getfield 11, 3) := by decide +kernel
theorem dX0_addDust_25 : decode cX0_addDust 25 = .ok (.iload_n 3, 1) := by decide +kernel
theorem dX0_addDust_26 : decode cX0_addDust 26 = .ok (.aaload, 1) := by decide +kernel
theorem dX0_addDust_27 : decode cX0_addDust 27 = .ok (.getfield 112, 3) := by decide +kernel
theorem dX0_addDust_30 : decode cX0_addDust 30 = .ok (.iload_n 1, 1) := by decide +kernel
theorem dX0_addDust_31 : decode cX0_addDust 31 = .ok (.iadd, 1) := by decide +kernel
theorem dX0_addDust_32 : decode cX0_addDust 32 = .ok (.invokestatic 121, 3) := by decide +kernel
theorem dX0_addDust_35 : decode cX0_addDust 35 = .ok (.putfield 112, 3) := by decide +kernel
theorem dX0_addDust_38 : decode cX0_addDust 38 = .ok (.iload_n 2, 1) := by decide +kernel
theorem dX0_addDust_39 : decode cX0_addDust 39 = .ok (.aload_n 0, 1) := by decide +kernel
theorem dX0_addDust_40 : decode cX0_addDust 40 = .ok (.getfield 11, 3) := by decide +kernel
theorem dX0_addDust_43 : decode cX0_addDust 43 = .ok (.iload_n 3, 1) := by decide +kernel
theorem dX0_addDust_44 : decode cX0_addDust 44 = .ok (.aaload, 1) := by decide +kernel
theorem dX0_addDust_45 : decode cX0_addDust 45 = .ok (.getfield 112, 3) := by decide +kernel
theorem dX0_addDust_48 : decode cX0_addDust 48 = .ok (.iadd, 1) := by decide +kernel
theorem dX0_addDust_49 : decode cX0_addDust 49 = .ok (.istore_n 2, 1) := by decide +kernel
theorem dX0_addDust_50 : decode cX0_addDust 50 = .ok (.iinc 3 1, 3) := by decide +kernel
theorem dX0_addDust_53 : decode cX0_addDust 53 = .ok (.goto (-49), 3) := by decide +kernel
theorem dX0_addDust_56 : decode cX0_addDust 56 = .ok (.iload_n 2, 1) := by decide +kernel
theorem dX0_addDust_57 : decode cX0_addDust 57 = .ok (.ireturn, 1) := by decide +kernel
theorem dX1_init_0 : decode cX1_init 0 = .ok (.aload_n 0, 1) := by decide +kernel
theorem dX1_init_1 : decode cX1_init 1 = .ok (.invokespecial 3, 3) := by decide +kernel
theorem dX1_init_4 : decode cX1_init 4 = .ok (.aload_n 0, 1) := by decide +kernel
theorem dX1_init_5 : decode cX1_init 5 = .ok (.bipush 6, 2) := by decide +kernel
theorem dX1_init_7 : decode cX1_init 7 = .ok (.newarray .long, 2) := by decide +kernel
theorem dX1_init_9 : decode cX1_init 9 = .ok (.putfield 9, 3) := by decide +kernel
theorem dX1_init_12 : decode cX1_init 12 = .ok (.aload_n 0, 1) := by decide +kernel
theorem dX1_init_13 : decode cX1_init 13 = .ok (.bipush 6, 2) := by decide +kernel
theorem dX1_init_15 : decode cX1_init 15 = .ok (.newarray .long, 2) := by decide +kernel
theorem dX1_init_17 : decode cX1_init 17 = .ok (.putfield 15, 3) := by decide +kernel
theorem dX1_init_20 : decode cX1_init 20 = .ok (.aload_n 0, 1) := by decide +kernel
theorem dX1_init_21 : decode cX1_init 21 = .ok (.iconst 0, 1) := by decide +kernel
theorem dX1_init_22 : decode cX1_init 22 = .ok (.putfield 18, 3) := by decide +kernel
theorem dX1_init_25 : decode cX1_init 25 = .ok (.aload_n 0, 1) := by decide +kernel
theorem dX1_init_26 : decode cX1_init 26 = .ok (.iconst 0, 1) := by decide +kernel
theorem dX1_init_27 : decode cX1_init 27 = .ok (.putfield 22, 3) := by decide +kernel
theorem dX1_init_30 : decode cX1_init 30 = .ok (.aload_n 0, 1) := by decide +kernel
theorem dX1_init_31 : decode cX1_init 31 = .ok (.iconst 0, 1) := by decide +kernel
theorem dX1_init_32 : decode cX1_init 32 = .ok (.putfield 26, 3) := by decide +kernel
theorem dX1_init_35 : decode cX1_init 35 = .ok (.return_, 1) := by decide +kernel
theorem dX1_begin_0 : decode cX1_begin 0 = .ok (.aload_n 0, 1) := by decide +kernel
theorem dX1_begin_1 : decode cX1_begin 1 = .ok (.iconst 1, 1) := by decide +kernel
theorem dX1_begin_2 : decode cX1_begin 2 = .ok (.putfield 18, 3) := by decide +kernel
theorem dX1_begin_5 : decode cX1_begin 5 = .ok (.aload_n 0, 1) := by decide +kernel
theorem dX1_begin_6 : decode cX1_begin 6 = .ok (.iload_n 1, 1) := by decide +kernel
theorem dX1_begin_7 : decode cX1_begin 7 = .ok (.putfield 26, 3) := by decide +kernel
theorem dX1_begin_10 : decode cX1_begin 10 = .ok (.aload_n 0, 1) := by decide +kernel
theorem dX1_begin_11 : decode cX1_begin 11 = .ok (.iload_n 2, 1) := by decide +kernel
theorem dX1_begin_12 : decode cX1_begin 12 = .ok (.putfield 22, 3) := by decide +kernel
theorem dX1_begin_15 : decode cX1_begin 15 = .ok (.iconst 0, 1) := by decide +kernel
theorem dX1_begin_16 : decode cX1_begin 16 = .ok (.istore_n 3, 1) := by decide +kernel
theorem dX1_begin_17 : decode cX1_begin 17 = .ok (.iload_n 3, 1) := by decide +kernel
theorem dX1_begin_18 : decode cX1_begin 18 = .ok (.bipush 6, 2) := by decide +kernel
theorem dX1_begin_20 : decode cX1_begin 20 = .ok (.if_icmp .ge 16, 3) := by decide +kernel
theorem dX1_begin_23 : decode cX1_begin 23 = .ok (.aload_n 0, 1) := by decide +kernel
theorem dX1_begin_24 : decode cX1_begin 24 = .ok (.getfield 9, 3) := by decide +kernel
theorem dX1_begin_27 : decode cX1_begin 27 = .ok (.iload_n 3, 1) := by decide +kernel
theorem dX1_begin_28 : decode cX1_begin 28 = .ok (.lconst 0, 1) := by decide +kernel
theorem dX1_begin_29 : decode cX1_begin 29 = .ok (.lastore, 1) := by decide +kernel
theorem dX1_begin_30 : decode cX1_begin 30 = .ok (.iinc 3 1, 3) := by decide +kernel
theorem dX1_begin_33 : decode cX1_begin 33 = .ok (.goto (-16), 3) := by decide +kernel
theorem dX1_begin_36 : decode cX1_begin 36 = .ok (.return_, 1) := by decide +kernel
theorem dX1_addToSums_0 : decode cX1_addToSums 0 = .ok (.iconst 0, 1) := by decide +kernel
theorem dX1_addToSums_1 : decode cX1_addToSums 1 = .ok (.istore_n 1, 1) := by decide +kernel
theorem dX1_addToSums_2 : decode cX1_addToSums 2 = .ok (.iload_n 1, 1) := by decide +kernel
theorem dX1_addToSums_3 : decode cX1_addToSums 3 = .ok (.bipush 6, 2) := by decide +kernel
theorem dX1_addToSums_5 : decode cX1_addToSums 5 = .ok (.if_icmp .ge 24, 3) := by decide +kernel
theorem dX1_addToSums_8 : decode cX1_addToSums 8 = .ok (.aload_n 0, 1) := by decide +kernel
theorem dX1_addToSums_9 : decode cX1_addToSums 9 = .ok (.getfield 15, 3) := by decide +kernel
theorem dX1_addToSums_12 : decode cX1_addToSums 12 = .ok (.iload_n 1, 1) := by decide +kernel
theorem dX1_addToSums_13 : decode cX1_addToSums 13 = .ok (.dup2, 1) := by decide +kernel
theorem dX1_addToSums_14 : decode cX1_addToSums 14 = .ok (.laload, 1) := by decide +kernel
theorem dX1_addToSums_15 : decode cX1_addToSums 15 = .ok (.aload_n 0, 1) := by decide +kernel
theorem dX1_addToSums_16 : decode cX1_addToSums 16 = .ok (.getfield 9, 3) := by decide +kernel
theorem dX1_addToSums_19 : decode cX1_addToSums 19 = .ok (.iload_n 1, 1) := by decide +kernel
theorem dX1_addToSums_20 : decode cX1_addToSums 20 = .ok (.laload, 1) := by decide +kernel
theorem dX1_addToSums_21 : decode cX1_addToSums 21 = .ok (.ladd, 1) := by decide +kernel
theorem dX1_addToSums_22 : decode cX1_addToSums 22 = .ok (.lastore, 1) := by decide +kernel
theorem dX1_addToSums_23 : decode cX1_addToSums 23 = .ok (.iinc 1 1, 3) := by decide +kernel
theorem dX1_addToSums_26 : decode cX1_addToSums 26 = .ok (.goto (-24), 3) := by decide +kernel
theorem dX1_addToSums_29 : decode cX1_addToSums 29 = .ok (.return_, 1) := by decide +kernel
theorem dX2_init_0 : decode cX2_init 0 = .ok (.aload_n 0, 1) := by decide +kernel
theorem dX2_init_1 : decode cX2_init 1 = .ok (.invokespecial 3, 3) := by decide +kernel
theorem dX2_init_4 : decode cX2_init 4 = .ok (.aload_n 0, 1) := by decide +kernel
theorem dX2_init_5 : decode cX2_init 5 = .ok (.bipush 10, 2) := by decide +kernel
theorem dX2_init_7 : decode cX2_init 7 = .ok (.newarray .long, 2) := by decide +kernel
theorem dX2_init_9 : decode cX2_init 9 = .ok (.putfield 9, 3) := by decide +kernel
theorem dX2_init_12 : decode cX2_init 12 = .ok (.aload_n 0, 1) := by decide +kernel
theorem dX2_init_13 : decode cX2_init 13 = .ok (.bipush 10, 2) := by decide +kernel
theorem dX2_init_15 : decode cX2_init 15 = .ok (.newarray .long, 2) := by decide +kernel
theorem dX2_init_17 : decode cX2_init 17 = .ok (.putfield 15, 3) := by decide +kernel
theorem dX2_init_20 : decode cX2_init 20 = .ok (.aload_n 0, 1) := by decide +kernel
theorem dX2_init_21 : decode cX2_init 21 = .ok (.bipush 10, 2) := by decide +kernel
theorem dX2_init_23 : decode cX2_init 23 = .ok (.newarray .long, 2) := by decide +kernel
theorem dX2_init_25 : decode cX2_init 25 = .ok (.putfield 18, 3) := by decide +kernel
theorem dX2_init_28 : decode cX2_init 28 = .ok (.aload_n 0, 1) := by decide +kernel
theorem dX2_init_29 : decode cX2_init 29 = .ok (.bipush 10, 2) := by decide +kernel
theorem dX2_init_31 : decode cX2_init 31 = .ok (.newarray .long, 2) := by decide +kernel
theorem dX2_init_33 : decode cX2_init 33 = .ok (.putfield 21, 3) := by decide +kernel
theorem dX2_init_36 : decode cX2_init 36 = .ok (.return_, 1) := by decide +kernel
theorem dX2_put_0 : decode cX2_put 0 = .ok (.getstatic 24, 3) := by decide +kernel
theorem dX2_put_3 : decode cX2_put 3 = .ok (.iload_n 3, 1) := by decide +kernel
theorem dX2_put_4 : decode cX2_put 4 = .ok (.invokestatic 28, 3) := by decide +kernel
theorem dX2_put_7 : decode cX2_put 7 = .ok (.iaload, 1) := by decide +kernel
theorem dX2_put_8 : decode cX2_put 8 = .ok (.i2l, 1) := by decide +kernel
theorem dX2_put_9 : decode cX2_put 9 = .ok (.lstore 6, 2) := by decide +kernel
theorem dX2_put_11 : decode cX2_put 11 = .ok (.iload_n 3, 1) := by decide +kernel
theorem dX2_put_12 : decode cX2_put 12 = .ok (.ifCond .ge 14, 3) := by decide +kernel
theorem dX2_put_15 : decode cX2_put 15 = .ok (.getstatic 34, 3) := by decide +kernel
theorem dX2_put_18 : decode cX2_put 18 = .ok (.iload_n 3, 1) := by decide +kernel
theorem dX2_put_19 : decode cX2_put 19 = .ok (.ineg, 1) := by decide +kernel
theorem dX2_put_20 : decode cX2_put 20 = .ok (.iaload, 1) := by decide +kernel
theorem dX2_put_21 : decode cX2_put 21 = .ok (.ineg, 1) := by decide +kernel
theorem dX2_put_22 : decode cX2_put 22 = .ok (.i2l, 1) := by decide +kernel
theorem dX2_put_23 : decode cX2_put 23 = .ok (.goto 9, 3) := by decide +kernel
theorem dX2_put_26 : decode cX2_put 26 = .ok (.getstatic 34, 3) := by decide +kernel
theorem dX2_put_29 : decode cX2_put 29 = .ok (.iload_n 3, 1) := by decide +kernel
theorem dX2_put_30 : decode cX2_put 30 = .ok (.iaload, 1) := by decide +kernel
theorem dX2_put_31 : decode cX2_put 31 = .ok (.i2l, 1) := by decide +kernel
theorem dX2_put_32 : decode cX2_put 32 = .ok (.lstore 8, 2) := by decide +kernel
theorem dX2_put_34 : decode cX2_put 34 = .ok (.ldc2_w 37, 3) := by decide +kernel
theorem dX2_put_37 : decode cX2_put 37 = .ok (.aload_n 2, 1) := by decide +kernel
theorem dX2_put_38 : decode cX2_put 38 = .ok (.getfield 39, 3) := by decide +kernel
theorem dX2_put_41 : decode cX2_put 41 = .ok (.i2l, 1) := by decide +kernel
theorem dX2_put_42 : decode cX2_put 42 = .ok (.lmul, 1) := by decide +kernel
theorem dX2_put_43 : decode cX2_put 43 = .ok (.iload 5, 2) := by decide +kernel
theorem dX2_put_45 : decode cX2_put 45 = .ok (.i2l, 1) := by decide +kernel
theorem dX2_put_46 : decode cX2_put 46 = .ok (.lmul, 1) := by decide +kernel
theorem dX2_put_47 : decode cX2_put 47 = .ok (.ldc2_w 37, 3) := by decide +kernel
theorem dX2_put_50 : decode cX2_put 50 = .ok (.aload_n 2, 1) := by decide +kernel
theorem dX2_put_51 : decode cX2_put 51 = .ok (.getfield 45, 3) := by decide +kernel
theorem dX2_put_54 : decode cX2_put 54 = .ok (.i2l, 1) := by decide +kernel
theorem dX2_put_55 : decode cX2_put 55 = .ok (.lmul, 1) := by decide +kernel
theorem dX2_put_56 : decode cX2_put 56 = .ok (.iload 4, 2) := by decide +kernel
theorem dX2_put_58 : decode cX2_put 58 = .ok (.i2l, 1) := by decide +kernel
theorem dX2_put_59 : decode cX2_put 59 = .ok (.lmul, 1) := by decide +kernel
theorem dX2_put_60 : decode cX2_put 60 = .ok (.lsub, 1) := by decide +kernel
theorem dX2_put_61 : decode cX2_put 61 = .ok (.lstore 10, 2) := by decide +kernel
theorem dX2_put_63 : decode cX2_put 63 = .ok (.aload_n 2, 1) := by decide +kernel
theorem dX2_put_64 : decode cX2_put 64 = .ok (.getfield 48, 3) := by decide +kernel
theorem dX2_put_67 : decode cX2_put 67 = .ok (.i2l, 1) := by decide +kernel
theorem dX2_put_68 : decode cX2_put 68 = .ok (.lload 6, 2) := by decide +kernel
theorem dX2_put_70 : decode cX2_put 70 = .ok (.iload 5, 2) := by decide +kernel
theorem dX2_put_72 : decode cX2_put 72 = .ok (.i2l, 1) := by decide +kernel
theorem dX2_put_73 : decode cX2_put 73 = .ok (.lmul, 1) := by decide +kernel
theorem dX2_put_74 : decode cX2_put 74 = .ok (.lload 8, 2) := by decide +kernel
theorem dX2_put_76 : decode cX2_put 76 = .ok (.iload 4, 2) := by decide +kernel
theorem dX2_put_78 : decode cX2_put 78 = .ok (.i2l, 1) := by decide +kernel
theorem dX2_put_79 : decode cX2_put 79 = .ok (.lmul, 1) := by decide +kernel
theorem dX2_put_80 : decode cX2_put 80 = .ok (.lsub, 1) := by decide +kernel
theorem dX2_put_81 : decode cX2_put 81 = .ok (.lmul, 1) := by decide +kernel
theorem dX2_put_82 : decode cX2_put 82 = .ok (.lstore 12, 2) := by decide +kernel
theorem dX2_put_84 : decode cX2_put 84 = .ok (.aload_n 0, 1) := by decide +kernel
theorem dX2_put_85 : decode cX2_put 85 = .ok (.getfield 9, 3) := by decide +kernel
theorem dX2_put_88 : decode cX2_put 88 = .ok (.iload_n 1, 1) := by decide +kernel
theorem dX2_put_89 : decode cX2_put 89 = .ok (.lload 10, 2) := by decide +kernel
theorem dX2_put_91 : decode cX2_put 91 = .ok (.lload 12, 2) := by decide +kernel
theorem dX2_put_93 : decode cX2_put 93 = .ok (.lsub, 1) := by decide +kernel
theorem dX2_put_94 : decode cX2_put 94 = .ok (.lastore, 1) := by decide +kernel
theorem dX2_put_95 : decode cX2_put 95 = .ok (.aload_n 0, 1) := by decide +kernel
theorem dX2_put_96 : decode cX2_put 96 = .ok (.getfield 15, 3) := by decide +kernel
theorem dX2_put_99 : decode cX2_put 99 = .ok (.iload_n 1, 1) := by decide +kernel
theorem dX2_put_100 : decode cX2_put 100 = .ok (.lload 10, 2) := by decide +kernel
theorem dX2_put_102 : decode cX2_put 102 = .ok (.lload 12, 2) := by decide +kernel
theorem dX2_put_104 : decode cX2_put 104 = .ok (.ladd, 1) := by decide +kernel
theorem dX2_put_105 : decode cX2_put 105 = .ok (.lastore, 1) := by decide +kernel
theorem dX2_put_106 : decode cX2_put 106 = .ok (.return_, 1) := by decide +kernel
theorem dX2_stretch_0 : decode cX2_stretch 0 = .ok (.aload_n 0, 1) := by decide +kernel
theorem dX2_stretch_1 : decode cX2_stretch 1 = .ok (.getfield 15, 3) := by decide +kernel
theorem dX2_stretch_4 : decode cX2_stretch 4 = .ok (.iload_n 1, 1) := by decide +kernel
theorem dX2_stretch_5 : decode cX2_stretch 5 = .ok (.laload, 1) := by decide +kernel
theorem dX2_stretch_6 : decode cX2_stretch 6 = .ok (.aload_n 0, 1) := by decide +kernel
theorem dX2_stretch_7 : decode cX2_stretch 7 = .ok (.getfield 9, 3) := by decide +kernel
theorem dX2_stretch_10 : decode cX2_stretch 10 = .ok (.iload_n 1, 1) := by decide +kernel
theorem dX2_stretch_11 : decode cX2_stretch 11 = .ok (.laload, 1) := by decide +kernel
theorem dX2_stretch_12 : decode cX2_stretch 12 = .ok (.lsub, 1) := by decide +kernel
theorem dX2_stretch_13 : decode cX2_stretch 13 = .ok (.lreturn, 1) := by decide +kernel
theorem dX2_isLit_0 : decode cX2_isLit 0 = .ok (.aload_n 0, 1) := by decide +kernel
theorem dX2_isLit_1 : decode cX2_isLit 1 = .ok (.getfield 15, 3) := by decide +kernel
theorem dX2_isLit_4 : decode cX2_isLit 4 = .ok (.iload_n 1, 1) := by decide +kernel
theorem dX2_isLit_5 : decode cX2_isLit 5 = .ok (.laload, 1) := by decide +kernel
theorem dX2_isLit_6 : decode cX2_isLit 6 = .ok (.aload_n 0, 1) := by decide +kernel
theorem dX2_isLit_7 : decode cX2_isLit 7 = .ok (.getfield 9, 3) := by decide +kernel
theorem dX2_isLit_10 : decode cX2_isLit 10 = .ok (.iload_n 1, 1) := by decide +kernel
theorem dX2_isLit_11 : decode cX2_isLit 11 = .ok (.laload, 1) := by decide +kernel
theorem dX2_isLit_12 : decode cX2_isLit 12 = .ok (.lcmp, 1) := by decide +kernel
theorem dX2_isLit_13 : decode cX2_isLit 13 = .ok (.ifCond .le 7, 3) := by decide +kernel
theorem dX2_isLit_16 : decode cX2_isLit 16 = .ok (.iconst 1, 1) := by decide +kernel
theorem dX2_isLit_17 : decode cX2_isLit 17 = .ok (.goto 4, 3) := by decide +kernel
theorem dX2_isLit_20 : decode cX2_isLit 20 = .ok (.iconst 0, 1) := by decide +kernel
theorem dX2_isLit_21 : decode cX2_isLit 21 = .ok (.ireturn, 1) := by decide +kernel
theorem dX2_isShaded_0 : decode cX2_isShaded 0 = .ok (.iload_n 2, 1) := by decide +kernel
theorem dX2_isShaded_1 : decode cX2_isShaded 1 = .ok (.istore 4, 2) := by decide +kernel
theorem dX2_isShaded_3 : decode cX2_isShaded 3 = .ok (.iload 4, 2) := by decide +kernel
theorem dX2_isShaded_5 : decode cX2_isShaded 5 = .ok (.iload_n 3, 1) := by decide +kernel
theorem dX2_isShaded_6 : decode cX2_isShaded 6 = .ok (.if_icmp .gt 29, 3) := by decide +kernel
theorem dX2_isShaded_9 : decode cX2_isShaded 9 = .ok (.aload_n 0, 1) := by decide +kernel
theorem dX2_isShaded_10 : decode cX2_isShaded 10 = .ok (.iload_n 1, 1) := by decide +kernel
theorem dX2_isShaded_11 : decode cX2_isShaded 11 = .ok (.iload 4, 2) := by decide +kernel
theorem dX2_isShaded_13 : decode cX2_isShaded 13 = .ok (.invokevirtual 51, 3) := by decide +kernel
theorem dX2_isShaded_16 : decode cX2_isShaded 16 = .ok (.aload_n 0, 1) := by decide +kernel
theorem dX2_isShaded_17 : decode cX2_isShaded 17 = .ok (.iload_n 1, 1) := by decide +kernel
theorem dX2_isShaded_18 : decode cX2_isShaded 18 = .ok (.iload 4, 2) := by decide +kernel
theorem dX2_isShaded_20 : decode cX2_isShaded 20 = .ok (.invokevirtual 55, 3) := by decide +kernel
theorem dX2_isShaded_23 : decode cX2_isShaded 23 = .ok (.lcmp, 1) := by decide +kernel
theorem dX2_isShaded_24 : decode cX2_isShaded 24 = .ok (.ifCond .ge 5, 3) := by decide +kernel
theorem dX2_isShaded_27 : decode cX2_isShaded 27 = .ok (.iconst 1, 1) := by decide +kernel
theorem dX2_isShaded_28 : decode cX2_isShaded 28 = .ok (.ireturn, 1) := by decide +kernel
theorem dX2_isShaded_29 : decode cX2_isShaded 29 = .ok (.iinc 4 1, 3) := by decide +kernel
theorem dX2_isShaded_32 : decode cX2_isShaded 32 = .ok (.goto (-29), 3) := by decide +kernel
theorem dX2_isShaded_35 : decode cX2_isShaded 35 = .ok (.iconst 0, 1) := by decide +kernel
theorem dX2_isShaded_36 : decode cX2_isShaded 36 = .ok (.ireturn, 1) := by decide +kernel
theorem dX2_cast_0 : decode cX2_cast 0 = .ok (.aload_n 0, 1) := by decide +kernel
theorem dX2_cast_1 : decode cX2_cast 1 = .ok (.iconst 0, 1) := by decide +kernel
theorem dX2_cast_2 : decode cX2_cast 2 = .ok (.putfield 58, 3) := by decide +kernel
theorem dX2_cast_5 : decode cX2_cast 5 = .ok (.iload_n 2, 1) := by decide +kernel
theorem dX2_cast_6 : decode cX2_cast 6 = .ok (.istore 4, 2) := by decide +kernel
theorem dX2_cast_8 : decode cX2_cast 8 = .ok (.iload 4, 2) := by decide +kernel
theorem dX2_cast_10 : decode cX2_cast 10 = .ok (.iload_n 3, 1) := by decide +kernel
theorem dX2_cast_11 : decode cX2_cast 11 = .ok (.if_icmp .gt 27, 3) := by decide +kernel
theorem dX2_cast_14 : decode cX2_cast 14 = .ok (.aload_n 0, 1) := by decide +kernel
theorem dX2_cast_15 : decode cX2_cast 15 = .ok (.aload_n 0, 1) := by decide +kernel
theorem dX2_cast_16 : decode cX2_cast 16 = .ok (.iload_n 1, 1) := by decide +kernel
theorem dX2_cast_17 : decode cX2_cast 17 = .ok (.iload 4, 2) := by decide +kernel
theorem dX2_cast_19 : decode cX2_cast 19 = .ok (.invokevirtual 51, 3) := by decide +kernel
theorem dX2_cast_22 : decode cX2_cast 22 = .ok (.aload_n 0, 1) := by decide +kernel
theorem dX2_cast_23 : decode cX2_cast 23 = .ok (.iload_n 1, 1) := by decide +kernel
theorem dX2_cast_24 : decode cX2_cast 24 = .ok (.iload 4, 2) := by decide +kernel
theorem dX2_cast_26 : decode cX2_cast 26 = .ok (.invokevirtual 55, 3) := by decide +kernel
theorem dX2_cast_29 : decode cX2_cast 29 = .ok (.invokevirtual 61, 3) := by decide +kernel
theorem dX2_cast_32 : decode cX2_cast 32 = .ok (.iinc 4 1, 3) := by decide +kernel
theorem dX2_cast_35 : decode cX2_cast 35 = .ok (.goto (-27), 3) := by decide +kernel
theorem dX2_cast_38 : decode cX2_cast 38 = .ok (.return_, 1) := by decide +kernel
theorem dX2_shadeStart_0 : decode cX2_shadeStart 0 = .ok (.aload_n 0, 1) := by decide +kernel
theorem dX2_shadeStart_1 : decode cX2_shadeStart 1 = .ok (.getfield 9, 3) := by decide +kernel
theorem dX2_shadeStart_4 : decode cX2_shadeStart 4 = .ok (.iload_n 1, 1) := by decide +kernel
theorem dX2_shadeStart_5 : decode cX2_shadeStart 5 = .ok (.laload, 1) := by decide +kernel
theorem dX2_shadeStart_6 : decode cX2_shadeStart 6 = .ok (.aload_n 0, 1) := by decide +kernel
theorem dX2_shadeStart_7 : decode cX2_shadeStart 7 = .ok (.getfield 9, 3) := by decide +kernel
theorem dX2_shadeStart_10 : decode cX2_shadeStart 10 = .ok (.iload_n 2, 1) := by decide +kernel
theorem dX2_shadeStart_11 : decode cX2_shadeStart 11 = .ok (.laload, 1) := by decide +kernel
theorem dX2_shadeStart_12 : decode cX2_shadeStart 12 = .ok (.aload_n 0, 1) := by decide +kernel
theorem dX2_shadeStart_13 : decode cX2_shadeStart 13 = .ok (.getfield 15, 3) := by decide +kernel
theorem dX2_shadeStart_16 : decode cX2_shadeStart 16 = .ok (.iload_n 2, 1) := by decide +kernel
theorem dX2_shadeStart_17 : decode cX2_shadeStart 17 = .ok (.laload, 1) := by decide +kernel
theorem dX2_shadeStart_18 : decode cX2_shadeStart 18 = .ok (.invokestatic 65, 3) := by decide +kernel
theorem dX2_shadeStart_21 : decode cX2_shadeStart 21 = .ok (.invokestatic 69, 3) := by decide +kernel
theorem dX2_shadeStart_24 : decode cX2_shadeStart 24 = .ok (.lreturn, 1) := by decide +kernel
theorem dX2_shadeEnd_0 : decode cX2_shadeEnd 0 = .ok (.aload_n 0, 1) := by decide +kernel
theorem dX2_shadeEnd_1 : decode cX2_shadeEnd 1 = .ok (.getfield 15, 3) := by decide +kernel
theorem dX2_shadeEnd_4 : decode cX2_shadeEnd 4 = .ok (.iload_n 1, 1) := by decide +kernel
theorem dX2_shadeEnd_5 : decode cX2_shadeEnd 5 = .ok (.laload, 1) := by decide +kernel
theorem dX2_shadeEnd_6 : decode cX2_shadeEnd 6 = .ok (.aload_n 0, 1) := by decide +kernel
theorem dX2_shadeEnd_7 : decode cX2_shadeEnd 7 = .ok (.getfield 9, 3) := by decide +kernel
theorem dX2_shadeEnd_10 : decode cX2_shadeEnd 10 = .ok (.iload_n 2, 1) := by decide +kernel
theorem dX2_shadeEnd_11 : decode cX2_shadeEnd 11 = .ok (.laload, 1) := by decide +kernel
theorem dX2_shadeEnd_12 : decode cX2_shadeEnd 12 = .ok (.aload_n 0, 1) := by decide +kernel
theorem dX2_shadeEnd_13 : decode cX2_shadeEnd 13 = .ok (.getfield 15, 3) := by decide +kernel
theorem dX2_shadeEnd_16 : decode cX2_shadeEnd 16 = .ok (.iload_n 2, 1) := by decide +kernel
theorem dX2_shadeEnd_17 : decode cX2_shadeEnd 17 = .ok (.laload, 1) := by decide +kernel
theorem dX2_shadeEnd_18 : decode cX2_shadeEnd 18 = .ok (.invokestatic 69, 3) := by decide +kernel
theorem dX2_shadeEnd_21 : decode cX2_shadeEnd 21 = .ok (.invokestatic 65, 3) := by decide +kernel
theorem dX2_shadeEnd_24 : decode cX2_shadeEnd 24 = .ok (.lreturn, 1) := by decide +kernel
theorem dX2_addPiece_0 : decode cX2_addPiece 0 = .ok (.lload_n 1, 1) := by decide +kernel
theorem dX2_addPiece_1 : decode cX2_addPiece 1 = .ok (.lload_n 3, 1) := by decide +kernel
theorem dX2_addPiece_2 : decode cX2_addPiece 2 = .ok (.lcmp, 1) := by decide +kernel
theorem dX2_addPiece_3 : decode cX2_addPiece 3 = .ok (.ifCond .ge 12, 3) := by decide +kernel
theorem dX2_addPiece_6 : decode cX2_addPiece 6 = .ok (.aload_n 0, 1) := by decide +kernel
theorem dX2_addPiece_7 : decode cX2_addPiece 7 = .ok (.getfield 58, 3) := by decide +kernel
theorem dX2_addPiece_10 : decode cX2_addPiece 10 = .ok (.bipush 10, 2) := by decide +kernel
theorem dX2_addPiece_12 : decode cX2_addPiece 12 = .ok (.if_icmp .lt 4, 3) := by decide +kernel
theorem dX2_addPiece_15 : decode cX2_addPiece 15 = .ok (.return_, 1) := by decide +kernel
theorem dX2_addPiece_16 : decode cX2_addPiece 16 = .ok (.aload_n 0, 1) := by decide +kernel
theorem dX2_addPiece_17 : decode cX2_addPiece 17 = .ok (.getfield 58, 3) := by decide +kernel
theorem dX2_addPiece_20 : decode cX2_addPiece 20 = .ok (.istore 5, 2) := by decide +kernel
theorem dX2_addPiece_22 : decode cX2_addPiece 22 = .ok (.iload 5, 2) := by decide +kernel
theorem dX2_addPiece_24 : decode cX2_addPiece 24 = .ok (.ifCond .le 55, 3) := by decide +kernel
theorem dX2_addPiece_27 : decode cX2_addPiece 27 = .ok (.aload_n 0, 1) := by decide +kernel
theorem dX2_addPiece_28 : decode cX2_addPiece 28 = .ok (.getfield 18, 3) := by decide +kernel
theorem dX2_addPiece_31 : decode cX2_addPiece 31 = .ok (.iload 5, 2) := by decide +kernel
theorem dX2_addPiece_33 : decode cX2_addPiece 33 = .ok (.iconst 1, 1) := by decide +kernel
theorem dX2_addPiece_34 : decode cX2_addPiece 34 = .ok (.isub, 1) := by decide +kernel
theorem dX2_addPiece_35 : decode cX2_addPiece 35 = .ok (.laload, 1) := by decide +kernel
theorem dX2_addPiece_36 : decode cX2_addPiece 36 = .ok (.lload_n 1, 1) := by decide +kernel
theorem dX2_addPiece_37 : decode cX2_addPiece 37 = .ok (.lcmp, 1) := by decide +kernel
theorem dX2_addPiece_38 : decode cX2_addPiece 38 = .ok (.ifCond .le 41, 3) := by decide +kernel
theorem dX2_addPiece_41 : decode cX2_addPiece 41 = .ok (.aload_n 0, 1) := by decide +kernel
theorem dX2_addPiece_42 : decode cX2_addPiece 42 = .ok (.getfield 18, 3) := by decide +kernel
theorem dX2_addPiece_45 : decode cX2_addPiece 45 = .ok (.iload 5, 2) := by decide +kernel
theorem dX2_addPiece_47 : decode cX2_addPiece 47 = .ok (.aload_n 0, 1) := by decide +kernel
theorem dX2_addPiece_48 : decode cX2_addPiece 48 = .ok (.getfield 18, 3) := by decide +kernel
theorem dX2_addPiece_51 : decode cX2_addPiece 51 = .ok (.iload 5, 2) := by decide +kernel
theorem dX2_addPiece_53 : decode cX2_addPiece 53 = .ok (.iconst 1, 1) := by decide +kernel
theorem dX2_addPiece_54 : decode cX2_addPiece 54 = .ok (.isub, 1) := by decide +kernel
theorem dX2_addPiece_55 : decode cX2_addPiece 55 = .ok (.laload, 1) := by decide +kernel
theorem dX2_addPiece_56 : decode cX2_addPiece 56 = .ok (.lastore, 1) := by decide +kernel
theorem dX2_addPiece_57 : decode cX2_addPiece 57 = .ok (.aload_n 0, 1) := by decide +kernel
theorem dX2_addPiece_58 : decode cX2_addPiece 58 = .ok (.getfield 21, 3) := by decide +kernel
theorem dX2_addPiece_61 : decode cX2_addPiece 61 = .ok (.iload 5, 2) := by decide +kernel
theorem dX2_addPiece_63 : decode cX2_addPiece 63 = .ok (.aload_n 0, 1) := by decide +kernel
theorem dX2_addPiece_64 : decode cX2_addPiece 64 = .ok (.getfield 21, 3) := by decide +kernel
theorem dX2_addPiece_67 : decode cX2_addPiece 67 = .ok (.iload 5, 2) := by decide +kernel
theorem dX2_addPiece_69 : decode cX2_addPiece 69 = .ok (.iconst 1, 1) := by decide +kernel
theorem dX2_addPiece_70 : decode cX2_addPiece 70 = .ok (.isub, 1) := by decide +kernel
theorem dX2_addPiece_71 : decode cX2_addPiece 71 = .ok (.laload, 1) := by decide +kernel
theorem dX2_addPiece_72 : decode cX2_addPiece 72 = .ok (.lastore, 1) := by decide +kernel
theorem dX2_addPiece_73 : decode cX2_addPiece 73 = .ok (.iinc 5 (-1), 3) := by decide +kernel
theorem dX2_addPiece_76 : decode cX2_addPiece 76 = .ok (.goto (-54), 3) := by decide +kernel
theorem dX2_addPiece_79 : decode cX2_addPiece 79 = .ok (.aload_n 0, 1) := by decide +kernel
theorem dX2_addPiece_80 : decode cX2_addPiece 80 = .ok (.getfield 18, 3) := by decide +kernel
theorem dX2_addPiece_83 : decode cX2_addPiece 83 = .ok (.iload 5, 2) := by decide +kernel
theorem dX2_addPiece_85 : decode cX2_addPiece 85 = .ok (.lload_n 1, 1) := by decide +kernel
theorem dX2_addPiece_86 : decode cX2_addPiece 86 = .ok (.lastore, 1) := by decide +kernel
theorem dX2_addPiece_87 : decode cX2_addPiece 87 = .ok (.aload_n 0, 1) := by decide +kernel
theorem dX2_addPiece_88 : decode cX2_addPiece 88 = .ok (.getfield 21, 3) := by decide +kernel
theorem dX2_addPiece_91 : decode cX2_addPiece 91 = .ok (.iload 5, 2) := by decide +kernel
theorem dX2_addPiece_93 : decode cX2_addPiece 93 = .ok (.lload_n 3, 1) := by decide +kernel
theorem dX2_addPiece_94 : decode cX2_addPiece 94 = .ok (.lastore, 1) := by decide +kernel
theorem dX2_addPiece_95 : decode cX2_addPiece 95 = .ok (.aload_n 0, 1) := by decide +kernel
theorem dX2_addPiece_96 : decode cX2_addPiece 96 = .ok (.dup, 1) := by decide +kernel
theorem dX2_addPiece_97 : decode cX2_addPiece 97 = .ok (.getfield 58, 3) := by decide +kernel
theorem dX2_addPiece_100 : decode cX2_addPiece 100 = .ok (.iconst 1, 1) := by decide +kernel
theorem dX2_addPiece_101 : decode cX2_addPiece 101 = .ok (.iadd, 1) := by decide +kernel
theorem dX2_addPiece_102 : decode cX2_addPiece 102 = .ok (.putfield 58, 3) := by decide +kernel
theorem dX2_addPiece_105 : decode cX2_addPiece 105 = .ok (.return_, 1) := by decide +kernel
theorem dX2_shaded_0 : decode cX2_shaded 0 = .ok (.aload_n 0, 1) := by decide +kernel
theorem dX2_shaded_1 : decode cX2_shaded 1 = .ok (.getfield 58, 3) := by decide +kernel
theorem dX2_shaded_4 : decode cX2_shaded 4 = .ok (.ifCond .ne 5, 3) := by decide +kernel
theorem dX2_shaded_7 : decode cX2_shaded 7 = .ok (.lconst 0, 1) := by decide +kernel
theorem dX2_shaded_8 : decode cX2_shaded 8 = .ok (.lreturn, 1) := by decide +kernel
theorem dX2_shaded_9 : decode cX2_shaded 9 = .ok (.lconst 0, 1) := by decide +kernel
theorem dX2_shaded_10 : decode cX2_shaded 10 = .ok (.lstore_n 1, 1) := by decide +kernel
theorem dX2_shaded_11 : decode cX2_shaded 11 = .ok (.aload_n 0, 1) := by decide +kernel
theorem dX2_shaded_12 : decode cX2_shaded 12 = .ok (.getfield 18, 3) := by decide +kernel
theorem dX2_shaded_15 : decode cX2_shaded 15 = .ok (.iconst 0, 1) := by decide +kernel
theorem dX2_shaded_16 : decode cX2_shaded 16 = .ok (.laload, 1) := by decide +kernel
theorem dX2_shaded_17 : decode cX2_shaded 17 = .ok (.lstore_n 3, 1) := by decide +kernel
theorem dX2_shaded_18 : decode cX2_shaded 18 = .ok (.iconst 0, 1) := by decide +kernel
theorem dX2_shaded_19 : decode cX2_shaded 19 = .ok (.istore 5, 2) := by decide +kernel
theorem dX2_shaded_21 : decode cX2_shaded 21 = .ok (.iload 5, 2) := by decide +kernel
theorem dX2_shaded_23 : decode cX2_shaded 23 = .ok (.aload_n 0, 1) := by decide +kernel
theorem dX2_shaded_24 : decode cX2_shaded 24 = .ok (.getfield 58, 3) := by decide +kernel
theorem dX2_shaded_27 : decode cX2_shaded 27 = .ok (.if_icmp .ge 56, 3) := by decide +kernel
theorem dX2_shaded_30 : decode cX2_shaded 30 = .ok (.lload_n 3, 1) := by decide +kernel
theorem dX2_shaded_31 : decode cX2_shaded 31 = .ok (.aload_n 0, 1) := by decide +kernel
theorem dX2_shaded_32 : decode cX2_shaded 32 = .ok (.getfield 18, 3) := by decide +kernel
theorem dX2_shaded_35 : decode cX2_shaded 35 = .ok (.iload 5, 2) := by decide +kernel
theorem dX2_shaded_37 : decode cX2_shaded 37 = .ok (.laload, 1) := by decide +kernel
theorem dX2_shaded_38 : decode cX2_shaded 38 = .ok (.invokestatic 69, 3) := by decide +kernel
theorem dX2_shaded_41 : decode cX2_shaded 41 = .ok (.lstore 6, 2) := by decide +kernel
theorem dX2_shaded_43 : decode cX2_shaded 43 = .ok (.aload_n 0, 1) := by decide +kernel
theorem dX2_shaded_44 : decode cX2_shaded 44 = .ok (.getfield 21, 3) := by decide +kernel
theorem dX2_shaded_47 : decode cX2_shaded 47 = .ok (.iload 5, 2) := by decide +kernel
theorem dX2_shaded_49 : decode cX2_shaded 49 = .ok (.laload, 1) := by decide +kernel
theorem dX2_shaded_50 : decode cX2_shaded 50 = .ok (.lload 6, 2) := by decide +kernel
theorem dX2_shaded_52 : decode cX2_shaded 52 = .ok (.lcmp, 1) := by decide +kernel
theorem dX2_shaded_53 : decode cX2_shaded 53 = .ok (.ifCond .le 24, 3) := by decide +kernel
theorem dX2_shaded_56 : decode cX2_shaded 56 = .ok (.lload_n 1, 1) := by decide +kernel
theorem dX2_shaded_57 : decode cX2_shaded 57 = .ok (.aload_n 0, 1) := by decide +kernel
theorem dX2_shaded_58 : decode cX2_shaded 58 = .ok (.getfield 21, 3) := by decide +kernel
theorem dX2_shaded_61 : decode cX2_shaded 61 = .ok (.iload 5, 2) := by decide +kernel
theorem dX2_shaded_63 : decode cX2_shaded 63 = .ok (.laload, 1) := by decide +kernel
theorem dX2_shaded_64 : decode cX2_shaded 64 = .ok (.lload 6, 2) := by decide +kernel
theorem dX2_shaded_66 : decode cX2_shaded 66 = .ok (.lsub, 1) := by decide +kernel
theorem dX2_shaded_67 : decode cX2_shaded 67 = .ok (.ladd, 1) := by decide +kernel
theorem dX2_shaded_68 : decode cX2_shaded 68 = .ok (.lstore_n 1, 1) := by decide +kernel
theorem dX2_shaded_69 : decode cX2_shaded 69 = .ok (.aload_n 0, 1) := by decide +kernel
theorem dX2_shaded_70 : decode cX2_shaded 70 = .ok (.getfield 21, 3) := by decide +kernel
theorem dX2_shaded_73 : decode cX2_shaded 73 = .ok (.iload 5, 2) := by decide +kernel
theorem dX2_shaded_75 : decode cX2_shaded 75 = .ok (.laload, 1) := by decide +kernel
theorem dX2_shaded_76 : decode cX2_shaded 76 = .ok (.lstore_n 3, 1) := by decide +kernel
theorem dX2_shaded_77 : decode cX2_shaded 77 = .ok (.iinc 5 1, 3) := by decide +kernel
theorem dX2_shaded_80 : decode cX2_shaded 80 = .ok (.goto (-59), 3) := by decide +kernel
theorem dX2_shaded_83 : decode cX2_shaded 83 = .ok (.lload_n 1, 1) := by decide +kernel
theorem dX2_shaded_84 : decode cX2_shaded 84 = .ok (.lreturn, 1) := by decide +kernel
theorem dX2_darkGroups_0 : decode cX2_darkGroups 0 = .ok (.aload_n 0, 1) := by decide +kernel
theorem dX2_darkGroups_1 : decode cX2_darkGroups 1 = .ok (.getfield 15, 3) := by decide +kernel
theorem dX2_darkGroups_4 : decode cX2_darkGroups 4 = .ok (.iload_n 1, 1) := by decide +kernel
theorem dX2_darkGroups_5 : decode cX2_darkGroups 5 = .ok (.laload, 1) := by decide +kernel
theorem dX2_darkGroups_6 : decode cX2_darkGroups 6 = .ok (.aload_n 0, 1) := by decide +kernel
theorem dX2_darkGroups_7 : decode cX2_darkGroups 7 = .ok (.getfield 9, 3) := by decide +kernel
theorem dX2_darkGroups_10 : decode cX2_darkGroups 10 = .ok (.iload_n 1, 1) := by decide +kernel
theorem dX2_darkGroups_11 : decode cX2_darkGroups 11 = .ok (.laload, 1) := by decide +kernel
theorem dX2_darkGroups_12 : decode cX2_darkGroups 12 = .ok (.lsub, 1) := by decide +kernel
theorem dX2_darkGroups_13 : decode cX2_darkGroups 13 = .ok (.lstore_n 2, 1) := by decide +kernel
theorem dX2_darkGroups_14 : decode cX2_darkGroups 14 = .ok (.iconst 0, 1) := by decide +kernel
theorem dX2_darkGroups_15 : decode cX2_darkGroups 15 = .ok (.istore 4, 2) := by decide +kernel
theorem dX2_darkGroups_17 : decode cX2_darkGroups 17 = .ok (.iconst 0, 1) := by decide +kernel
theorem dX2_darkGroups_18 : decode cX2_darkGroups 18 = .ok (.istore 5, 2) := by decide +kernel
theorem dX2_darkGroups_20 : decode cX2_darkGroups 20 = .ok (.iload 5, 2) := by decide +kernel
theorem dX2_darkGroups_22 : decode cX2_darkGroups 22 = .ok (.iconst 3, 1) := by decide +kernel
theorem dX2_darkGroups_23 : decode cX2_darkGroups 23 = .ok (.if_icmp .ge 94, 3) := by decide +kernel
theorem dX2_darkGroups_26 : decode cX2_darkGroups 26 = .ok (.ldc2_w 72, 3) := by decide +kernel
theorem dX2_darkGroups_29 : decode cX2_darkGroups 29 = .ok (.aload_n 0, 1) := by decide +kernel
theorem dX2_darkGroups_30 : decode cX2_darkGroups 30 = .ok (.getfield 9, 3) := by decide +kernel
theorem dX2_darkGroups_33 : decode cX2_darkGroups 33 = .ok (.iload_n 1, 1) := by decide +kernel
theorem dX2_darkGroups_34 : decode cX2_darkGroups 34 = .ok (.laload, 1) := by decide +kernel
theorem dX2_darkGroups_35 : decode cX2_darkGroups 35 = .ok (.lmul, 1) := by decide +kernel
theorem dX2_darkGroups_36 : decode cX2_darkGroups 36 = .ok (.iload 5, 2) := by decide +kernel
theorem dX2_darkGroups_38 : decode cX2_darkGroups 38 = .ok (.i2l, 1) := by decide +kernel
theorem dX2_darkGroups_39 : decode cX2_darkGroups 39 = .ok (.lload_n 2, 1) := by decide +kernel
theorem dX2_darkGroups_40 : decode cX2_darkGroups 40 = .ok (.lmul, 1) := by decide +kernel
theorem dX2_darkGroups_41 : decode cX2_darkGroups 41 = .ok (.ladd, 1) := by decide +kernel
theorem dX2_darkGroups_42 : decode cX2_darkGroups 42 = .ok (.lstore 6, 2) := by decide +kernel
theorem dX2_darkGroups_44 : decode cX2_darkGroups 44 = .ok (.lload 6, 2) := by decide +kernel
theorem dX2_darkGroups_46 : decode cX2_darkGroups 46 = .ok (.lload_n 2, 1) := by decide +kernel
theorem dX2_darkGroups_47 : decode cX2_darkGroups 47 = .ok (.ladd, 1) := by decide +kernel
theorem dX2_darkGroups_48 : decode cX2_darkGroups 48 = .ok (.lstore 8, 2) := by decide +kernel
theorem dX2_darkGroups_50 : decode cX2_darkGroups 50 = .ok (.iconst 0, 1) := by decide +kernel
theorem dX2_darkGroups_51 : decode cX2_darkGroups 51 = .ok (.istore 10, 2) := by decide +kernel
theorem dX2_darkGroups_53 : decode cX2_darkGroups 53 = .ok (.iload 10, 2) := by decide +kernel
theorem dX2_darkGroups_55 : decode cX2_darkGroups 55 = .ok (.aload_n 0, 1) := by decide +kernel
theorem dX2_darkGroups_56 : decode cX2_darkGroups 56 = .ok (.getfield 58, 3) := by decide +kernel
theorem dX2_darkGroups_59 : decode cX2_darkGroups 59 = .ok (.if_icmp .ge 52, 3) := by decide +kernel
theorem dX2_darkGroups_62 : decode cX2_darkGroups 62 = .ok (.ldc2_w 72, 3) := by decide +kernel
theorem dX2_darkGroups_65 : decode cX2_darkGroups 65 = .ok (.aload_n 0, 1) := by decide +kernel
theorem dX2_darkGroups_66 : decode cX2_darkGroups 66 = .ok (.getfield 18, 3) := by decide +kernel
theorem dX2_darkGroups_69 : decode cX2_darkGroups 69 = .ok (.iload 10, 2) := by decide +kernel
theorem dX2_darkGroups_71 : decode cX2_darkGroups 71 = .ok (.laload, 1) := by decide +kernel
theorem dX2_darkGroups_72 : decode cX2_darkGroups 72 = .ok (.lmul, 1) := by decide +kernel
theorem dX2_darkGroups_73 : decode cX2_darkGroups 73 = .ok (.lload 8, 2) := by decide +kernel
theorem dX2_darkGroups_75 : decode cX2_darkGroups 75 = .ok (.lcmp, 1) := by decide +kernel
theorem dX2_darkGroups_76 : decode cX2_darkGroups 76 = .ok (.ifCond .ge 29, 3) := by decide +kernel
theorem dX2_darkGroups_79 : decode cX2_darkGroups 79 = .ok (.ldc2_w 72, 3) := by decide +kernel
theorem dX2_darkGroups_82 : decode cX2_darkGroups 82 = .ok (.aload_n 0, 1) := by decide +kernel
theorem dX2_darkGroups_83 : decode cX2_darkGroups 83 = .ok (.getfield 21, 3) := by decide +kernel
theorem dX2_darkGroups_86 : decode cX2_darkGroups 86 = .ok (.iload 10, 2) := by decide +kernel
theorem dX2_darkGroups_88 : decode cX2_darkGroups 88 = .ok (.laload, 1) := by decide +kernel
theorem dX2_darkGroups_89 : decode cX2_darkGroups 89 = .ok (.lmul, 1) := by decide +kernel
theorem dX2_darkGroups_90 : decode cX2_darkGroups 90 = .ok (.lload 6, 2) := by decide +kernel
theorem dX2_darkGroups_92 : decode cX2_darkGroups 92 = .ok (.lcmp, 1) := by decide +kernel
theorem dX2_darkGroups_93 : decode cX2_darkGroups 93 = .ok (.ifCond .le 12, 3) := by decide +kernel
theorem dX2_darkGroups_96 : decode cX2_darkGroups 96 = .ok (.iload 4, 2) := by decide +kernel
theorem dX2_darkGroups_98 : decode cX2_darkGroups 98 = .ok (.iconst 1, 1) := by decide +kernel
theorem dX2_darkGroups_99 : decode cX2_darkGroups 99 = .ok (.iload 5, 2) := by decide +kernel
theorem dX2_darkGroups_101 : decode cX2_darkGroups 101 = .ok (.ishl, 1) := by decide +kernel
theorem dX2_darkGroups_102 : decode cX2_darkGroups 102 = .ok (.ior, 1) := by decide +kernel
theorem dX2_darkGroups_103 : decode cX2_darkGroups 103 = .ok (.istore 4, 2) := by decide +kernel
theorem dX2_darkGroups_105 : decode cX2_darkGroups 105 = .ok (.iinc 10 1, 3) := by decide +kernel
theorem dX2_darkGroups_108 : decode cX2_darkGroups 108 = .ok (.goto (-55), 3) := by decide +kernel
theorem dX2_darkGroups_111 : decode cX2_darkGroups 111 = .ok (.iinc 5 1, 3) := by decide +kernel
theorem dX2_darkGroups_114 : decode cX2_darkGroups 114 = .ok (.goto (-94), 3) := by decide +kernel
theorem dX2_darkGroups_117 : decode cX2_darkGroups 117 = .ok (.iload 4, 2) := by decide +kernel
theorem dX2_darkGroups_119 : decode cX2_darkGroups 119 = .ok (.ireturn, 1) := by decide +kernel
theorem dX3_init_0 : decode cX3_init 0 = .ok (.aload_n 0, 1) := by decide +kernel
theorem dX3_init_1 : decode cX3_init 1 = .ok (.invokespecial 3, 3) := by decide +kernel
theorem dX3_init_4 : decode cX3_init 4 = .ok (.aload_n 0, 1) := by decide +kernel
theorem dX3_init_5 : decode cX3_init 5 = .ok (.iconst (-1), 1) := by decide +kernel
theorem dX3_init_6 : decode cX3_init 6 = .ok (.putfield 9, 3) := by decide +kernel
theorem dX3_init_9 : decode cX3_init 9 = .ok (.return_, 1) := by decide +kernel
theorem dX3_begin_0 : decode cX3_begin 0 = .ok (.aload_n 0, 1) := by decide +kernel
theorem dX3_begin_1 : decode cX3_begin 1 = .ok (.iload_n 1, 1) := by decide +kernel
theorem dX3_begin_2 : decode cX3_begin 2 = .ok (.putfield 15, 3) := by decide +kernel
theorem dX3_begin_5 : decode cX3_begin 5 = .ok (.aload_n 0, 1) := by decide +kernel
theorem dX3_begin_6 : decode cX3_begin 6 = .ok (.iload_n 2, 1) := by decide +kernel
theorem dX3_begin_7 : decode cX3_begin 7 = .ok (.putfield 18, 3) := by decide +kernel
theorem dX3_begin_10 : decode cX3_begin 10 = .ok (.aload_n 0, 1) := by decide +kernel
theorem dX3_begin_11 : decode cX3_begin 11 = .ok (.iload_n 3, 1) := by decide +kernel
theorem dX3_begin_12 : decode cX3_begin 12 = .ok (.putfield 21, 3) := by decide +kernel
theorem dX3_begin_15 : decode cX3_begin 15 = .ok (.aload_n 0, 1) := by decide +kernel
theorem dX3_begin_16 : decode cX3_begin 16 = .ok (.iload 4, 2) := by decide +kernel
theorem dX3_begin_18 : decode cX3_begin 18 = .ok (.putfield 24, 3) := by decide +kernel
theorem dX3_begin_21 : decode cX3_begin 21 = .ok (.aload_n 0, 1) := by decide +kernel
theorem dX3_begin_22 : decode cX3_begin 22 = .ok (.iconst 0, 1) := by decide +kernel
theorem dX3_begin_23 : decode cX3_begin 23 = .ok (.putfield 27, 3) := by decide +kernel
theorem dX3_begin_26 : decode cX3_begin 26 = .ok (.aload_n 0, 1) := by decide +kernel
theorem dX3_begin_27 : decode cX3_begin 27 = .ok (.iload_n 1, 1) := by decide +kernel
theorem dX3_begin_28 : decode cX3_begin 28 = .ok (.iconst 1, 1) := by decide +kernel
theorem dX3_begin_29 : decode cX3_begin 29 = .ok (.if_icmp .ne 8, 3) := by decide +kernel
theorem dX3_begin_32 : decode cX3_begin 32 = .ok (.iload 5, 2) := by decide +kernel
theorem dX3_begin_34 : decode cX3_begin 34 = .ok (.goto 4, 3) := by decide +kernel
theorem dX3_begin_37 : decode cX3_begin 37 = .ok (.iconst 0, 1) := by decide +kernel
theorem dX3_begin_38 : decode cX3_begin 38 = .ok (.putfield 30, 3) := by decide +kernel
theorem dX3_begin_41 : decode cX3_begin 41 = .ok (.aload_n 0, 1) := by decide +kernel
theorem dX3_begin_42 : decode cX3_begin 42 = .ok (.iconst (-1), 1) := by decide +kernel
theorem dX3_begin_43 : decode cX3_begin 43 = .ok (.putfield 9, 3) := by decide +kernel
theorem dX3_begin_46 : decode cX3_begin 46 = .ok (.return_, 1) := by decide +kernel
theorem dX3_isOf_0 : decode cX3_isOf 0 = .ok (.iload_n 1, 1) := by decide +kernel
theorem dX3_isOf_1 : decode cX3_isOf 1 = .ok (.ifCond .eq 11, 3) := by decide +kernel
theorem dX3_isOf_4 : decode cX3_isOf 4 = .ok (.iload_n 1, 1) := by decide +kernel
theorem dX3_isOf_5 : decode cX3_isOf 5 = .ok (.aload_n 0, 1) := by decide +kernel
theorem dX3_isOf_6 : decode cX3_isOf 6 = .ok (.getfield 15, 3) := by decide +kernel
theorem dX3_isOf_9 : decode cX3_isOf 9 = .ok (.if_icmp .ne 7, 3) := by decide +kernel
theorem dX3_isOf_12 : decode cX3_isOf 12 = .ok (.iconst 1, 1) := by decide +kernel
theorem dX3_isOf_13 : decode cX3_isOf 13 = .ok (.goto 4, 3) := by decide +kernel
theorem dX3_isOf_16 : decode cX3_isOf 16 = .ok (.iconst 0, 1) := by decide +kernel
theorem dX3_isOf_17 : decode cX3_isOf 17 = .ok (.ireturn, 1) := by decide +kernel
theorem dX3_loseDust_0 : decode cX3_loseDust 0 = .ok (.aload_n 0, 1) := by decide +kernel
theorem dX3_loseDust_1 : decode cX3_loseDust 1 = .ok (.getfield 27, 3) := by decide +kernel
theorem dX3_loseDust_4 : decode cX3_loseDust 4 = .ok (.ifCond .le 7, 3) := by decide +kernel
theorem dX3_loseDust_7 : decode cX3_loseDust 7 = .ok (.iconst 1, 1) := by decide +kernel
theorem dX3_loseDust_8 : decode cX3_loseDust 8 = .ok (.goto 4, 3) := by decide +kernel
theorem dX3_loseDust_11 : decode cX3_loseDust 11 = .ok (.iconst 0, 1) := by decide +kernel
theorem dX3_loseDust_12 : decode cX3_loseDust 12 = .ok (.istore_n 1, 1) := by decide +kernel
theorem dX3_loseDust_13 : decode cX3_loseDust 13 = .ok (.aload_n 0, 1) := by decide +kernel
theorem dX3_loseDust_14 : decode cX3_loseDust 14 = .ok (.iconst 0, 1) := by decide +kernel
theorem dX3_loseDust_15 : decode cX3_loseDust 15 = .ok (.putfield 27, 3) := by decide +kernel
theorem dX3_loseDust_18 : decode cX3_loseDust 18 = .ok (.iload_n 1, 1) := by decide +kernel
theorem dX3_loseDust_19 : decode cX3_loseDust 19 = .ok (.ireturn, 1) := by decide +kernel
theorem dX4_init_0 : decode cX4_init 0 = .ok (.aload_n 0, 1) := by decide +kernel
theorem dX4_init_1 : decode cX4_init 1 = .ok (.invokespecial 3, 3) := by decide +kernel
theorem dX4_init_4 : decode cX4_init 4 = .ok (.aload_n 0, 1) := by decide +kernel
theorem dX4_init_5 : decode cX4_init 5 = .ok (.bipush 24, 2) := by decide +kernel
theorem dX4_init_7 : decode cX4_init 7 = .ok (.newarray .int, 2) := by decide +kernel
theorem dX4_init_9 : decode cX4_init 9 = .ok (.putfield 9, 3) := by decide +kernel
theorem dX4_init_12 : decode cX4_init 12 = .ok (.aload_n 0, 1) := by decide +kernel
theorem dX4_init_13 : decode cX4_init 13 = .ok (.bipush 24, 2) := by decide +kernel
theorem dX4_init_15 : decode cX4_init 15 = .ok (.newarray .int, 2) := by decide +kernel
theorem dX4_init_17 : decode cX4_init 17 = .ok (.putfield 15, 3) := by decide +kernel
theorem dX4_init_20 : decode cX4_init 20 = .ok (.return_, 1) := by decide +kernel
theorem dX4_put_0 : decode cX4_put 0 = .ok (.aload_n 0, 1) := by decide +kernel
theorem dX4_put_1 : decode cX4_put 1 = .ok (.getfield 9, 3) := by decide +kernel
theorem dX4_put_4 : decode cX4_put 4 = .ok (.iload_n 1, 1) := by decide +kernel
theorem dX4_put_5 : decode cX4_put 5 = .ok (.iload_n 2, 1) := by decide +kernel
theorem dX4_put_6 : decode cX4_put 6 = .ok (.iastore, 1) := by decide +kernel
theorem dX4_put_7 : decode cX4_put 7 = .ok (.aload_n 0, 1) := by decide +kernel
theorem dX4_put_8 : decode cX4_put 8 = .ok (.getfield 15, 3) := by decide +kernel
theorem dX4_put_11 : decode cX4_put 11 = .ok (.iload_n 1, 1) := by decide +kernel
theorem dX4_put_12 : decode cX4_put 12 = .ok (.iload_n 3, 1) := by decide +kernel
theorem dX4_put_13 : decode cX4_put 13 = .ok (.iastore, 1) := by decide +kernel
theorem dX4_put_14 : decode cX4_put 14 = .ok (.return_, 1) := by decide +kernel
theorem dX4_isNight_0 : decode cX4_isNight 0 = .ok (.aload_n 0, 1) := by decide +kernel
theorem dX4_isNight_1 : decode cX4_isNight 1 = .ok (.getfield 15, 3) := by decide +kernel
theorem dX4_isNight_4 : decode cX4_isNight 4 = .ok (.iload_n 1, 1) := by decide +kernel
theorem dX4_isNight_5 : decode cX4_isNight 5 = .ok (.iaload, 1) := by decide +kernel
theorem dX4_isNight_6 : decode cX4_isNight 6 = .ok (.ifCond .ne 7, 3) := by decide +kernel
theorem dX4_isNight_9 : decode cX4_isNight 9 = .ok (.iconst 1, 1) := by decide +kernel
theorem dX4_isNight_10 : decode cX4_isNight 10 = .ok (.goto 4, 3) := by decide +kernel
theorem dX4_isNight_13 : decode cX4_isNight 13 = .ok (.iconst 0, 1) := by decide +kernel
theorem dX4_isNight_14 : decode cX4_isNight 14 = .ok (.ireturn, 1) := by decide +kernel
theorem dX5_init_0 : decode cX5_init 0 = .ok (.aload_n 0, 1) := by decide +kernel
theorem dX5_init_1 : decode cX5_init 1 = .ok (.invokespecial 3, 3) := by decide +kernel
theorem dX5_init_4 : decode cX5_init 4 = .ok (.aload_n 0, 1) := by decide +kernel
theorem dX5_init_5 : decode cX5_init 5 = .ok (.iconst 4, 1) := by decide +kernel
theorem dX5_init_6 : decode cX5_init 6 = .ok (.newarray .int, 2) := by decide +kernel
theorem dX5_init_8 : decode cX5_init 8 = .ok (.putfield 9, 3) := by decide +kernel
theorem dX5_init_11 : decode cX5_init 11 = .ok (.aload_n 0, 1) := by decide +kernel
theorem dX5_init_12 : decode cX5_init 12 = .ok (.bipush 10, 2) := by decide +kernel
theorem dX5_init_14 : decode cX5_init 14 = .ok (.newarray .int, 2) := by decide +kernel
theorem dX5_init_16 : decode cX5_init 16 = .ok (.putfield 15, 3) := by decide +kernel
theorem dX5_init_19 : decode cX5_init 19 = .ok (.aload_n 0, 1) := by decide +kernel
theorem dX5_init_20 : decode cX5_init 20 = .ok (.iconst 0, 1) := by decide +kernel
theorem dX5_init_21 : decode cX5_init 21 = .ok (.putfield 18, 3) := by decide +kernel
theorem dX5_init_24 : decode cX5_init 24 = .ok (.iconst 0, 1) := by decide +kernel
theorem dX5_init_25 : decode cX5_init 25 = .ok (.istore_n 1, 1) := by decide +kernel
theorem dX5_init_26 : decode cX5_init 26 = .ok (.iload_n 1, 1) := by decide +kernel
theorem dX5_init_27 : decode cX5_init 27 = .ok (.iconst 4, 1) := by decide +kernel
theorem dX5_init_28 : decode cX5_init 28 = .ok (.if_icmp .ge 17, 3) := by decide +kernel
theorem dX5_init_31 : decode cX5_init 31 = .ok (.aload_n 0, 1) := by decide +kernel
theorem dX5_init_32 : decode cX5_init 32 = .ok (.getfield 9, 3) := by decide +kernel
theorem dX5_init_35 : decode cX5_init 35 = .ok (.iload_n 1, 1) := by decide +kernel
theorem dX5_init_36 : decode cX5_init 36 = .ok (.ldc 22, 2) := by decide +kernel
theorem dX5_init_38 : decode cX5_init 38 = .ok (.iastore, 1) := by decide +kernel
theorem dX5_init_39 : decode cX5_init 39 = .ok (.iinc 1 1, 3) := by decide +kernel
theorem dX5_init_42 : decode cX5_init 42 = .ok (.goto (-16), 3) := by decide +kernel
theorem dX5_init_45 : decode cX5_init 45 = .ok (.return_, 1) := by decide +kernel
theorem dX5_rank_0 : decode cX5_rank 0 = .ok (.aload_n 0, 1) := by decide +kernel
theorem dX5_rank_1 : decode cX5_rank 1 = .ok (.iconst 0, 1) := by decide +kernel
theorem dX5_rank_2 : decode cX5_rank 2 = .ok (.putfield 18, 3) := by decide +kernel
theorem dX5_rank_5 : decode cX5_rank 5 = .ok (.iconst 0, 1) := by decide +kernel
theorem dX5_rank_6 : decode cX5_rank 6 = .ok (.istore_n 3, 1) := by decide +kernel
theorem dX5_rank_7 : decode cX5_rank 7 = .ok (.iload_n 3, 1) := by decide +kernel
theorem dX5_rank_8 : decode cX5_rank 8 = .ok (.aload_n 1, 1) := by decide +kernel
theorem dX5_rank_9 : decode cX5_rank 9 = .ok (.getfield 23, 3) := by decide +kernel
theorem dX5_rank_12 : decode cX5_rank 12 = .ok (.if_icmp .ge 32, 3) := by decide +kernel
theorem dX5_rank_15 : decode cX5_rank 15 = .ok (.aload_n 1, 1) := by decide +kernel
theorem dX5_rank_16 : decode cX5_rank 16 = .ok (.getfield 28, 3) := by decide +kernel
theorem dX5_rank_19 : decode cX5_rank 19 = .ok (.iload_n 3, 1) := by decide +kernel
theorem dX5_rank_20 : decode cX5_rank 20 = .ok (.aaload, 1) := by decide +kernel
theorem dX5_rank_21 : decode cX5_rank 21 = .ok (.getfield 32, 3) := by decide +kernel
theorem dX5_rank_24 : decode cX5_rank 24 = .ok (.iload_n 2, 1) := by decide +kernel
theorem dX5_rank_25 : decode cX5_rank 25 = .ok (.if_icmp .ne 13, 3) := by decide +kernel
theorem dX5_rank_28 : decode cX5_rank 28 = .ok (.aload_n 0, 1) := by decide +kernel
theorem dX5_rank_29 : decode cX5_rank 29 = .ok (.aload_n 1, 1) := by decide +kernel
theorem dX5_rank_30 : decode cX5_rank 30 = .ok (.getfield 37, 3) := by decide +kernel
theorem dX5_rank_33 : decode cX5_rank 33 = .ok (.iload_n 3, 1) := by decide +kernel
theorem dX5_rank_34 : decode cX5_rank 34 = .ok (.iaload, 1) := by decide +kernel
theorem dX5_rank_35 : decode cX5_rank 35 = .ok (.invokevirtual 40, 3) := by decide +kernel
theorem dX5_rank_38 : decode cX5_rank 38 = .ok (.iinc 3 1, 3) := by decide +kernel
theorem dX5_rank_41 : decode cX5_rank 41 = .ok (.goto (-34), 3) := by decide +kernel
theorem dX5_rank_44 : decode cX5_rank 44 = .ok (.return_, 1) := by decide +kernel
theorem dX5_insert_0 : decode cX5_insert 0 = .ok (.aload_n 0, 1) := by decide +kernel
theorem dX5_insert_1 : decode cX5_insert 1 = .ok (.getfield 18, 3) := by decide +kernel
theorem dX5_insert_4 : decode cX5_insert 4 = .ok (.bipush 10, 2) := by decide +kernel
theorem dX5_insert_6 : decode cX5_insert 6 = .ok (.if_icmp .lt 4, 3) := by decide +kernel
theorem dX5_insert_9 : decode cX5_insert 9 = .ok (.return_, 1) := by decide +kernel
theorem dX5_insert_10 : decode cX5_insert 10 = .ok (.aload_n 0, 1) := by decide +kernel
theorem dX5_insert_11 : decode cX5_insert 11 = .ok (.getfield 18, 3) := by decide +kernel
theorem dX5_insert_14 : decode cX5_insert 14 = .ok (.istore_n 2, 1) := by decide +kernel
theorem dX5_insert_15 : decode cX5_insert 15 = .ok (.iload_n 2, 1) := by decide +kernel
theorem dX5_insert_16 : decode cX5_insert 16 = .ok (.ifCond .le 35, 3) := by decide +kernel
theorem dX5_insert_19 : decode cX5_insert 19 = .ok (.aload_n 0, 1) := by decide +kernel
theorem dX5_insert_20 : decode cX5_insert 20 = .ok (.getfield 15, 3) := by decide +kernel
theorem dX5_insert_23 : decode cX5_insert 23 = .ok (.iload_n 2, 1) := by decide +kernel
theorem dX5_insert_24 : decode cX5_insert 24 = .ok (.iconst 1, 1) := by decide +kernel
theorem dX5_insert_25 : decode cX5_insert 25 = .ok (.isub, 1) := by decide +kernel
theorem dX5_insert_26 : decode cX5_insert 26 = .ok (.iaload, 1) := by decide +kernel
theorem dX5_insert_27 : decode cX5_insert 27 = .ok (.iload_n 1, 1) := by decide +kernel
theorem dX5_insert_28 : decode cX5_insert 28 = .ok (.if_icmp .ge 23, 3) := by decide +kernel
theorem dX5_insert_31 : decode cX5_insert 31 = .ok (.aload_n 0, 1) := by decide +kernel
theorem dX5_insert_32 : decode cX5_insert 32 = .ok (.getfield 15, 3) := by decide +kernel
theorem dX5_insert_35 : decode cX5_insert 35 = .ok (.iload_n 2, 1) := by decide +kernel
theorem dX5_insert_36 : decode cX5_insert 36 = .ok (.aload_n 0, 1) := by decide +kernel
theorem dX5_insert_37 : decode cX5_insert 37 = .ok (.getfield 15, 3) := by decide +kernel
theorem dX5_insert_40 : decode cX5_insert 40 = .ok (.iload_n 2, 1) := by decide +kernel
theorem dX5_insert_41 : decode cX5_insert 41 = .ok (.iconst 1, 1) := by decide +kernel
theorem dX5_insert_42 : decode cX5_insert 42 = .ok (.isub, 1) := by decide +kernel
theorem dX5_insert_43 : decode cX5_insert 43 = .ok (.iaload, 1) := by decide +kernel
theorem dX5_insert_44 : decode cX5_insert 44 = .ok (.iastore, 1) := by decide +kernel
theorem dX5_insert_45 : decode cX5_insert 45 = .ok (.iinc 2 (-1), 3) := by decide +kernel
theorem dX5_insert_48 : decode cX5_insert 48 = .ok (.goto (-33), 3) := by decide +kernel
theorem dX5_insert_51 : decode cX5_insert 51 = .ok (.aload_n 0, 1) := by decide +kernel
theorem dX5_insert_52 : decode cX5_insert 52 = .ok (.getfield 15, 3) := by decide +kernel
theorem dX5_insert_55 : decode cX5_insert 55 = .ok (.iload_n 2, 1) := by decide +kernel
theorem dX5_insert_56 : decode cX5_insert 56 = .ok (.iload_n 1, 1) := by decide +kernel
theorem dX5_insert_57 : decode cX5_insert 57 = .ok (.iastore, 1) := by decide +kernel
theorem dX5_insert_58 : decode cX5_insert 58 = .ok (.aload_n 0, 1) := by decide +kernel
theorem dX5_insert_59 : decode cX5_insert 59 = .ok (.dup, 1) := by decide +kernel
theorem dX5_insert_60 : decode cX5_insert 60 = .ok (.getfield 18, 3) := by decide +kernel
theorem dX5_insert_63 : decode cX5_insert 63 = .ok (.iconst 1, 1) := by decide +kernel
theorem dX5_insert_64 : decode cX5_insert 64 = .ok (.iadd, 1) := by decide +kernel
theorem dX5_insert_65 : decode cX5_insert 65 = .ok (.putfield 18, 3) := by decide +kernel
theorem dX5_insert_68 : decode cX5_insert 68 = .ok (.return_, 1) := by decide +kernel
theorem dX5_best_0 : decode cX5_best 0 = .ok (.iconst 0, 1) := by decide +kernel
theorem dX5_best_1 : decode cX5_best 1 = .ok (.istore_n 1, 1) := by decide +kernel
theorem dX5_best_2 : decode cX5_best 2 = .ok (.iconst 0, 1) := by decide +kernel
theorem dX5_best_3 : decode cX5_best 3 = .ok (.istore_n 2, 1) := by decide +kernel
theorem dX5_best_4 : decode cX5_best 4 = .ok (.iload_n 2, 1) := by decide +kernel
theorem dX5_best_5 : decode cX5_best 5 = .ok (.aload_n 0, 1) := by decide +kernel
theorem dX5_best_6 : decode cX5_best 6 = .ok (.getfield 18, 3) := by decide +kernel
theorem dX5_best_9 : decode cX5_best 9 = .ok (.if_icmp .ge 24, 3) := by decide +kernel
theorem dX5_best_12 : decode cX5_best 12 = .ok (.iload_n 1, 1) := by decide +kernel
theorem dX5_best_13 : decode cX5_best 13 = .ok (.iload_n 2, 1) := by decide +kernel
theorem dX5_best_14 : decode cX5_best 14 = .ok (.iconst 1, 1) := by decide +kernel
theorem dX5_best_15 : decode cX5_best 15 = .ok (.iadd, 1) := by decide +kernel
theorem dX5_best_16 : decode cX5_best 16 = .ok (.aload_n 0, 1) := by decide +kernel
theorem dX5_best_17 : decode cX5_best 17 = .ok (.getfield 15, 3) := by decide +kernel
theorem dX5_best_20 : decode cX5_best 20 = .ok (.iload_n 2, 1) := by decide +kernel
theorem dX5_best_21 : decode cX5_best 21 = .ok (.iaload, 1) := by decide +kernel
theorem dX5_best_22 : decode cX5_best 22 = .ok (.imul, 1) := by decide +kernel
theorem dX5_best_23 : decode cX5_best 23 = .ok (.invokestatic 44, 3) := by decide +kernel
theorem dX5_best_26 : decode cX5_best 26 = .ok (.istore_n 1, 1) := by decide +kernel
theorem dX5_best_27 : decode cX5_best 27 = .ok (.iinc 2 1, 3) := by decide +kernel
theorem dX5_best_30 : decode cX5_best 30 = .ok (.goto (-26), 3) := by decide +kernel
theorem dX5_best_33 : decode cX5_best 33 = .ok (.iload_n 1, 1) := by decide +kernel
theorem dX5_best_34 : decode cX5_best 34 = .ok (.ireturn, 1) := by decide +kernel
theorem dX5_sumOfRanked_0 : decode cX5_sumOfRanked 0 = .ok (.iconst 0, 1) := by decide +kernel
theorem dX5_sumOfRanked_1 : decode cX5_sumOfRanked 1 = .ok (.istore_n 1, 1) := by decide +kernel
theorem dX5_sumOfRanked_2 : decode cX5_sumOfRanked 2 = .ok (.iconst 0, 1) := by decide +kernel
theorem dX5_sumOfRanked_3 : decode cX5_sumOfRanked 3 = .ok (.istore_n 2, 1) := by decide +kernel
theorem dX5_sumOfRanked_4 : decode cX5_sumOfRanked 4 = .ok (.iload_n 2, 1) := by decide +kernel
theorem dX5_sumOfRanked_5 : decode cX5_sumOfRanked 5 = .ok (.aload_n 0, 1) := by decide +kernel
theorem dX5_sumOfRanked_6 : decode cX5_sumOfRanked 6 = .ok (.getfield 18, 3) := by decide +kernel
theorem dX5_sumOfRanked_9 : decode cX5_sumOfRanked 9 = .ok (.if_icmp .ge 18, 3) := by decide +kernel
theorem dX5_sumOfRanked_12 : decode cX5_sumOfRanked 12 = .ok (.iload_n 1, 1) := by decide +kernel
theorem dX5_sumOfRanked_13 : decode cX5_sumOfRanked 13 = .ok (.aload_n 0, 1) := by decide +kernel
theorem dX5_sumOfRanked_14 : decode cX5_sumOfRanked 14 = .ok (.getfield 15, 3) := by decide +kernel
theorem dX5_sumOfRanked_17 : decode cX5_sumOfRanked 17 = .ok (.iload_n 2, 1) := by decide +kernel
theorem dX5_sumOfRanked_18 : decode cX5_sumOfRanked 18 = .ok (.iaload, 1) := by decide +kernel
theorem dX5_sumOfRanked_19 : decode cX5_sumOfRanked 19 = .ok (.iadd, 1) := by decide +kernel
theorem dX5_sumOfRanked_20 : decode cX5_sumOfRanked 20 = .ok (.istore_n 1, 1) := by decide +kernel
theorem dX5_sumOfRanked_21 : decode cX5_sumOfRanked 21 = .ok (.iinc 2 1, 3) := by decide +kernel
theorem dX5_sumOfRanked_24 : decode cX5_sumOfRanked 24 = .ok (.goto (-20), 3) := by decide +kernel
theorem dX5_sumOfRanked_27 : decode cX5_sumOfRanked 27 = .ok (.iload_n 1, 1) := by decide +kernel
theorem dX5_sumOfRanked_28 : decode cX5_sumOfRanked 28 = .ok (.ireturn, 1) := by decide +kernel
theorem dX5_bookInto_0 : decode cX5_bookInto 0 = .ok (.iconst 0, 1) := by decide +kernel
theorem dX5_bookInto_1 : decode cX5_bookInto 1 = .ok (.istore_n 3, 1) := by decide +kernel
theorem dX5_bookInto_2 : decode cX5_bookInto 2 = .ok (.iload_n 3, 1) := by decide +kernel
theorem dX5_bookInto_3 : decode cX5_bookInto 3 = .ok (.aload_n 2, 1) := by decide +kernel
theorem dX5_bookInto_4 : decode cX5_bookInto 4 = .ok (.getfield 23, 3) := by decide +kernel
theorem dX5_bookInto_7 : decode cX5_bookInto 7 = .ok (.if_icmp .ge 95, 3) := by decide +kernel
theorem dX5_bookInto_10 : decode cX5_bookInto 10 = .ok (.aload_n 2, 1) := by decide +kernel
theorem dX5_bookInto_11 : decode cX5_bookInto 11 = .ok (.getfield 28, 3) := by decide +kernel
theorem dX5_bookInto_14 : decode cX5_bookInto 14 = .ok (.iload_n 3, 1) := by decide +kernel
theorem dX5_bookInto_15 : decode cX5_bookInto 15 = .ok (.aaload, 1) := by decide +kernel
theorem dX5_bookInto_16 : decode cX5_bookInto 16 = .ok (.getfield 32, 3) := by decide +kernel
theorem dX5_bookInto_19 : decode cX5_bookInto 19 = .ok (.iconst (-1), 1) := by decide +kernel
theorem dX5_bookInto_20 : decode cX5_bookInto 20 = .ok (.if_icmp .eq 76, 3) := by decide +kernel
theorem dX5_bookInto_23 : decode cX5_bookInto 23 = .ok (.aload_n 2, 1) := by decide +kernel
theorem dX5_bookInto_24 : decode cX5_bookInto 24 = .ok (.getfield 50, 3) := by decide +kernel
theorem dX5_bookInto_27 : decode cX5_bookInto 27 = .ok (.iload_n 3, 1) := by decide +kernel
theorem dX5_bookInto_28 : decode cX5_bookInto 28 = .ok (.invokevirtual 54, 3) := by decide +kernel
theorem dX5_bookInto_31 : decode cX5_bookInto 31 = .ok (.ifCond .eq 65, 3) := by decide +kernel
theorem dX5_bookInto_34 : decode cX5_bookInto 34 = .ok (.ldc2_w 60, 3) := by decide +kernel
theorem dX5_bookInto_37 : decode cX5_bookInto 37 = .ok (.aload_n 2, 1) := by decide +kernel
theorem dX5_bookInto_38 : decode cX5_bookInto 38 = .ok (.getfield 50, 3) := by decide +kernel
theorem dX5_bookInto_41 : decode cX5_bookInto 41 = .ok (.iload_n 3, 1) := by decide +kernel
theorem dX5_bookInto_42 : decode cX5_bookInto 42 = .ok (.invokevirtual 62, 3) := by decide +kernel
theorem dX5_bookInto_45 : decode cX5_bookInto 45 = .ok (.lmul, 1) := by decide +kernel
theorem dX5_bookInto_46 : decode cX5_bookInto 46 = .ok (.ldc2_w 66, 3) := by decide +kernel
theorem dX5_bookInto_49 : decode cX5_bookInto 49 = .ok (.ldiv, 1) := by decide +kernel
theorem dX5_bookInto_50 : decode cX5_bookInto 50 = .ok (.lstore 4, 2) := by decide +kernel
theorem dX5_bookInto_52 : decode cX5_bookInto 52 = .ok (.aload_n 1, 1) := by decide +kernel
theorem dX5_bookInto_53 : decode cX5_bookInto 53 = .ok (.getfield 68, 3) := by decide +kernel
theorem dX5_bookInto_56 : decode cX5_bookInto 56 = .ok (.iconst 0, 1) := by decide +kernel
theorem dX5_bookInto_57 : decode cX5_bookInto 57 = .ok (.dup2, 1) := by decide +kernel
theorem dX5_bookInto_58 : decode cX5_bookInto 58 = .ok (.laload, 1) := by decide +kernel
theorem dX5_bookInto_59 : decode cX5_bookInto 59 = .ok (.lload 4, 2) := by decide +kernel
theorem dX5_bookInto_61 : decode cX5_bookInto 61 = .ok (.ladd, 1) := by decide +kernel
theorem dX5_bookInto_62 : decode cX5_bookInto 62 = .ok (.lastore, 1) := by decide +kernel
theorem dX5_bookInto_63 : decode cX5_bookInto 63 = .ok (.aload_n 1, 1) := by decide +kernel
theorem dX5_bookInto_64 : decode cX5_bookInto 64 = .ok (.getfield 68, 3) := by decide +kernel
theorem dX5_bookInto_67 : decode cX5_bookInto 67 = .ok (.iconst 1, 1) := by decide +kernel
theorem dX5_bookInto_68 : decode cX5_bookInto 68 = .ok (.dup2, 1) := by decide +kernel
theorem dX5_bookInto_69 : decode cX5_bookInto 69 = .ok (.laload, 1) := by decide +kernel
theorem dX5_bookInto_70 : decode cX5_bookInto 70 = .ok (.lload 4, 2) := by decide +kernel
theorem dX5_bookInto_72 : decode cX5_bookInto 72 = .ok (.aload_n 2, 1) := by decide +kernel
theorem dX5_bookInto_73 : decode cX5_bookInto 73 = .ok (.getfield 74, 3) := by decide +kernel
theorem dX5_bookInto_76 : decode cX5_bookInto 76 = .ok (.iload_n 3, 1) := by decide +kernel
theorem dX5_bookInto_77 : decode cX5_bookInto 77 = .ok (.laload, 1) := by decide +kernel
theorem dX5_bookInto_78 : decode cX5_bookInto 78 = .ok (.lsub, 1) := by decide +kernel
theorem dX5_bookInto_79 : decode cX5_bookInto 79 = .ok (.ladd, 1) := by decide +kernel
theorem dX5_bookInto_80 : decode cX5_bookInto 80 = .ok (.lastore, 1) := by decide +kernel
theorem dX5_bookInto_81 : decode cX5_bookInto 81 = .ok (.aload_n 1, 1) := by decide +kernel
theorem dX5_bookInto_82 : decode cX5_bookInto 82 = .ok (.getfield 68, 3) := by decide +kernel
theorem dX5_bookInto_85 : decode cX5_bookInto 85 = .ok (.iconst 2, 1) := by decide +kernel
theorem dX5_bookInto_86 : decode cX5_bookInto 86 = .ok (.dup2, 1) := by decide +kernel
theorem dX5_bookInto_87 : decode cX5_bookInto 87 = .ok (.laload, 1) := by decide +kernel
theorem dX5_bookInto_88 : decode cX5_bookInto 88 = .ok (.aload_n 2, 1) := by decide +kernel
theorem dX5_bookInto_89 : decode cX5_bookInto 89 = .ok (.getfield 77, 3) := by decide +kernel
theorem dX5_bookInto_92 : decode cX5_bookInto 92 = .ok (.iload_n 3, 1) := by decide +kernel
theorem dX5_bookInto_93 : decode cX5_bookInto 93 = .ok (.laload, 1) := by decide +kernel
theorem dX5_bookInto_94 : decode cX5_bookInto 94 = .ok (.ladd, 1) := by decide +kernel
theorem dX5_bookInto_95 : decode cX5_bookInto 95 = .ok (.lastore, 1) := by decide +kernel
theorem dX5_bookInto_96 : decode cX5_bookInto 96 = .ok (.iinc 3 1, 3) := by decide +kernel
theorem dX5_bookInto_99 : decode cX5_bookInto 99 = .ok (.goto (-97), 3) := by decide +kernel
theorem dX5_bookInto_102 : decode cX5_bookInto 102 = .ok (.iconst 0, 1) := by decide +kernel
theorem dX5_bookInto_103 : decode cX5_bookInto 103 = .ok (.istore_n 3, 1) := by decide +kernel
theorem dX5_bookInto_104 : decode cX5_bookInto 104 = .ok (.iload_n 3, 1) := by decide +kernel
theorem dX5_bookInto_105 : decode cX5_bookInto 105 = .ok (.iconst 4, 1) := by decide +kernel
theorem dX5_bookInto_106 : decode cX5_bookInto 106 = .ok (.if_icmp .ge 78, 3) := by decide +kernel
theorem dX5_bookInto_109 : decode cX5_bookInto 109 = .ok (.aload_n 0, 1) := by decide +kernel
theorem dX5_bookInto_110 : decode cX5_bookInto 110 = .ok (.aload_n 2, 1) := by decide +kernel
theorem dX5_bookInto_111 : decode cX5_bookInto 111 = .ok (.iload_n 3, 1) := by decide +kernel
theorem dX5_bookInto_112 : decode cX5_bookInto 112 = .ok (.invokevirtual 80, 3) := by decide +kernel
theorem dX5_bookInto_115 : decode cX5_bookInto 115 = .ok (.aload_n 0, 1) := by decide +kernel
theorem dX5_bookInto_116 : decode cX5_bookInto 116 = .ok (.invokevirtual 84, 3) := by decide +kernel
theorem dX5_bookInto_119 : decode cX5_bookInto 119 = .ok (.istore 4, 2) := by decide +kernel
theorem dX5_bookInto_121 : decode cX5_bookInto 121 = .ok (.iload 4, 2) := by decide +kernel
theorem dX5_bookInto_123 : decode cX5_bookInto 123 = .ok (.aload_n 0, 1) := by decide +kernel
theorem dX5_bookInto_124 : decode cX5_bookInto 124 = .ok (.getfield 9, 3) := by decide +kernel
theorem dX5_bookInto_127 : decode cX5_bookInto 127 = .ok (.iload_n 3, 1) := by decide +kernel
theorem dX5_bookInto_128 : decode cX5_bookInto 128 = .ok (.iaload, 1) := by decide +kernel
theorem dX5_bookInto_129 : decode cX5_bookInto 129 = .ok (.invokestatic 88, 3) := by decide +kernel
theorem dX5_bookInto_132 : decode cX5_bookInto 132 = .ok (.istore 5, 2) := by decide +kernel
theorem dX5_bookInto_134 : decode cX5_bookInto 134 = .ok (.aload_n 1, 1) := by decide +kernel
theorem dX5_bookInto_135 : decode cX5_bookInto 135 = .ok (.getfield 68, 3) := by decide +kernel
theorem dX5_bookInto_138 : decode cX5_bookInto 138 = .ok (.iconst 3, 1) := by decide +kernel
theorem dX5_bookInto_139 : decode cX5_bookInto 139 = .ok (.dup2, 1) := by decide +kernel
theorem dX5_bookInto_140 : decode cX5_bookInto 140 = .ok (.laload, 1) := by decide +kernel
theorem dX5_bookInto_141 : decode cX5_bookInto 141 = .ok (.aload_n 0, 1) := by decide +kernel
theorem dX5_bookInto_142 : decode cX5_bookInto 142 = .ok (.invokevirtual 91, 3) := by decide +kernel
theorem dX5_bookInto_145 : decode cX5_bookInto 145 = .ok (.iload 4, 2) := by decide +kernel
theorem dX5_bookInto_147 : decode cX5_bookInto 147 = .ok (.isub, 1) := by decide +kernel
theorem dX5_bookInto_148 : decode cX5_bookInto 148 = .ok (.i2l, 1) := by decide +kernel
theorem dX5_bookInto_149 : decode cX5_bookInto 149 = .ok (.ladd, 1) := by decide +kernel
theorem dX5_bookInto_150 : decode cX5_bookInto 150 = .ok (.lastore, 1) := by decide +kernel
theorem dX5_bookInto_151 : decode cX5_bookInto 151 = .ok (.aload_n 1, 1) := by decide +kernel
theorem dX5_bookInto_152 : decode cX5_bookInto 152 = .ok (.getfield 68, 3) := by decide +kernel
theorem dX5_bookInto_155 : decode cX5_bookInto 155 = .ok (.iconst 4, 1) := by decide +kernel
theorem dX5_bookInto_156 : decode cX5_bookInto 156 = .ok (.dup2, 1) := by decide +kernel
theorem dX5_bookInto_157 : decode cX5_bookInto 157 = .ok (.laload, 1) := by decide +kernel
theorem dX5_bookInto_158 : decode cX5_bookInto 158 = .ok (.iload 4, 2) := by decide +kernel
theorem dX5_bookInto_160 : decode cX5_bookInto 160 = .ok (.iload 5, 2) := by decide +kernel
theorem dX5_bookInto_162 : decode cX5_bookInto 162 = .ok (.isub, 1) := by decide +kernel
theorem dX5_bookInto_163 : decode cX5_bookInto 163 = .ok (.i2l, 1) := by decide +kernel
theorem dX5_bookInto_164 : decode cX5_bookInto 164 = .ok (.ladd, 1) := by decide +kernel
theorem dX5_bookInto_165 : decode cX5_bookInto 165 = .ok (.lastore, 1) := by decide +kernel
theorem dX5_bookInto_166 : decode cX5_bookInto 166 = .ok (.aload_n 1, 1) := by decide +kernel
theorem dX5_bookInto_167 : decode cX5_bookInto 167 = .ok (.getfield 68, 3) := by decide +kernel
theorem dX5_bookInto_170 : decode cX5_bookInto 170 = .ok (.iconst 5, 1) := by decide +kernel
theorem dX5_bookInto_171 : decode cX5_bookInto 171 = .ok (.dup2, 1) := by decide +kernel
theorem dX5_bookInto_172 : decode cX5_bookInto 172 = .ok (.laload, 1) := by decide +kernel
theorem dX5_bookInto_173 : decode cX5_bookInto 173 = .ok (.iload 5, 2) := by decide +kernel
theorem dX5_bookInto_175 : decode cX5_bookInto 175 = .ok (.i2l, 1) := by decide +kernel
theorem dX5_bookInto_176 : decode cX5_bookInto 176 = .ok (.ladd, 1) := by decide +kernel
theorem dX5_bookInto_177 : decode cX5_bookInto 177 = .ok (.lastore, 1) := by decide +kernel
theorem dX5_bookInto_178 : decode cX5_bookInto 178 = .ok (.iinc 3 1, 3) := by decide +kernel
theorem dX5_bookInto_181 : decode cX5_bookInto 181 = .ok (.goto (-77), 3) := by decide +kernel
theorem dX5_bookInto_184 : decode cX5_bookInto 184 = .ok (.return_, 1) := by decide +kernel
theorem dX6_init_0 : decode cX6_init 0 = .ok (.aload_n 0, 1) := by decide +kernel
theorem dX6_init_1 : decode cX6_init 1 = .ok (.invokespecial 3, 3) := by decide +kernel
theorem dX6_init_4 : decode cX6_init 4 = .ok (.aload_n 0, 1) := by decide +kernel
theorem dX6_init_5 : decode cX6_init 5 = .ok (.bipush 72, 2) := by decide +kernel
theorem dX6_init_7 : decode cX6_init 7 = .ok (.newarray .int, 2) := by decide +kernel
theorem dX6_init_9 : decode cX6_init 9 = .ok (.putfield 9, 3) := by decide +kernel
theorem dX6_init_12 : decode cX6_init 12 = .ok (.aload_n 0, 1) := by decide +kernel
theorem dX6_init_13 : decode cX6_init 13 = .ok (.iconst 0, 1) := by decide +kernel
theorem dX6_init_14 : decode cX6_init 14 = .ok (.putfield 15, 3) := by decide +kernel
theorem dX6_init_17 : decode cX6_init 17 = .ok (.return_, 1) := by decide +kernel
theorem dX6_append_0 : decode cX6_append 0 = .ok (.aload_n 0, 1) := by decide +kernel
theorem dX6_append_1 : decode cX6_append 1 = .ok (.getfield 15, 3) := by decide +kernel
theorem dX6_append_4 : decode cX6_append 4 = .ok (.bipush 72, 2) := by decide +kernel
theorem dX6_append_6 : decode cX6_append 6 = .ok (.if_icmp .ge 23, 3) := by decide +kernel
theorem dX6_append_9 : decode cX6_append 9 = .ok (.aload_n 0, 1) := by decide +kernel
theorem dX6_append_10 : decode cX6_append 10 = .ok (.getfield 9, 3) := by decide +kernel
theorem dX6_append_13 : decode cX6_append 13 = .ok (.aload_n 0, 1) := by decide +kernel
theorem dX6_append_14 : decode cX6_append 14 = .ok (.getfield 15, 3) := by decide +kernel
theorem dX6_append_17 : decode cX6_append 17 = .ok (.iload_n 1, 1) := by decide +kernel
theorem dX6_append_18 : decode cX6_append 18 = .ok (.iastore, 1) := by decide +kernel
theorem dX6_append_19 : decode cX6_append 19 = .ok (.aload_n 0, 1) := by decide +kernel
theorem dX6_append_20 : decode cX6_append 20 = .ok (.dup, 1) := by decide +kernel
theorem dX6_append_21 : decode cX6_append 21 = .ok (.getfield 15, 3) := by decide +kernel
theorem dX6_append_24 : decode cX6_append 24 = .ok (.iconst 1, 1) := by decide +kernel
theorem dX6_append_25 : decode cX6_append 25 = .ok (.iadd, 1) := by decide +kernel
theorem dX6_append_26 : decode cX6_append 26 = .ok (.putfield 15, 3) := by decide +kernel
theorem dX6_append_29 : decode cX6_append 29 = .ok (.return_, 1) := by decide +kernel
theorem dX6_clear_0 : decode cX6_clear 0 = .ok (.aload_n 0, 1) := by decide +kernel
theorem dX6_clear_1 : decode cX6_clear 1 = .ok (.iconst 0, 1) := by decide +kernel
theorem dX6_clear_2 : decode cX6_clear 2 = .ok (.putfield 15, 3) := by decide +kernel
theorem dX6_clear_5 : decode cX6_clear 5 = .ok (.return_, 1) := by decide +kernel
theorem dX7_init_0 : decode cX7_init 0 = .ok (.aload_n 0, 1) := by decide +kernel
theorem dX7_init_1 : decode cX7_init 1 = .ok (.invokespecial 1, 3) := by decide +kernel
theorem dX7_init_4 : decode cX7_init 4 = .ok (.aload_n 0, 1) := by decide +kernel
theorem dX7_init_5 : decode cX7_init 5 = .ok (.iconst 0, 1) := by decide +kernel
theorem dX7_init_6 : decode cX7_init 6 = .ok (.putfield 7, 3) := by decide +kernel
theorem dX7_init_9 : decode cX7_init 9 = .ok (.aload_n 0, 1) := by decide +kernel
theorem dX7_init_10 : decode cX7_init 10 = .ok (.lconst 0, 1) := by decide +kernel
theorem dX7_init_11 : decode cX7_init 11 = .ok (.putfield 13, 3) := by decide +kernel
theorem dX7_init_14 : decode cX7_init 14 = .ok (.return_, 1) := by decide +kernel
theorem dX7_choose_0 : decode cX7_choose 0 = .ok (.aload_n 0, 1) := by decide +kernel
theorem dX7_choose_1 : decode cX7_choose 1 = .ok (.iconst 0, 1) := by decide +kernel
theorem dX7_choose_2 : decode cX7_choose 2 = .ok (.putfield 7, 3) := by decide +kernel
theorem dX7_choose_5 : decode cX7_choose 5 = .ok (.aload_n 0, 1) := by decide +kernel
theorem dX7_choose_6 : decode cX7_choose 6 = .ok (.lconst 0, 1) := by decide +kernel
theorem dX7_choose_7 : decode cX7_choose 7 = .ok (.putfield 13, 3) := by decide +kernel
theorem dX7_choose_10 : decode cX7_choose 10 = .ok (.iconst 0, 1) := by decide +kernel
theorem dX7_choose_11 : decode cX7_choose 11 = .ok (.istore 4, 2) := by decide +kernel
theorem dX7_choose_13 : decode cX7_choose 13 = .ok (.iload 4, 2) := by decide +kernel
theorem dX7_choose_15 : decode cX7_choose 15 = .ok (.aload_n 1, 1) := by decide +kernel
theorem dX7_choose_16 : decode cX7_choose 16 = .ok (.getfield 17, 3) := by decide +kernel
theorem dX7_choose_19 : decode cX7_choose 19 = .ok (.if_icmp .ge 138, 3) := by decide +kernel
theorem dX7_choose_22 : decode cX7_choose 22 = .ok (.lconst 0, 1) := by decide +kernel
theorem dX7_choose_23 : decode cX7_choose 23 = .ok (.lstore 5, 2) := by decide +kernel
theorem dX7_choose_25 : decode cX7_choose 25 = .ok (.iconst 0, 1) := by decide +kernel
theorem dX7_choose_26 : decode cX7_choose 26 = .ok (.istore 7, 2) := by decide +kernel
theorem dX7_choose_28 : decode cX7_choose 28 = .ok (.aload_n 1, 1) := by decide +kernel
theorem dX7_choose_29 : decode cX7_choose 29 = .ok (.getfield 22, 3) := by decide +kernel
theorem dX7_choose_32 : decode cX7_choose 32 = .ok (.iload 4, 2) := by decide +kernel
theorem dX7_choose_34 : decode cX7_choose 34 = .ok (.aaload, 1) := by decide +kernel
theorem dX7_choose_35 : decode cX7_choose 35 = .ok (.iload_n 2, 1) := by decide +kernel
theorem dX7_choose_36 : decode cX7_choose 36 = .ok (.iload_n 3, 1) := by decide +kernel
theorem dX7_choose_37 : decode cX7_choose 37 = .ok (.invokestatic 26, 3) := by decide +kernel
theorem dX7_choose_40 : decode cX7_choose 40 = .ok (.lstore 8, 2) := by decide +kernel
theorem dX7_choose_42 : decode cX7_choose 42 = .ok (.aload_n 0, 1) := by decide +kernel
theorem dX7_choose_43 : decode cX7_choose 43 = .ok (.lload 8, 2) := by decide +kernel
theorem dX7_choose_45 : decode cX7_choose 45 = .ok (.ldc2_w 30, 3) := by decide +kernel
theorem dX7_choose_48 : decode cX7_choose 48 = .ok (.lsub, 1) := by decide +kernel
theorem dX7_choose_49 : decode cX7_choose 49 = .ok (.iconst 1, 1) := by decide +kernel
theorem dX7_choose_50 : decode cX7_choose 50 = .ok (.iload 4, 2) := by decide +kernel
theorem dX7_choose_52 : decode cX7_choose 52 = .ok (.ishl, 1) := by decide +kernel
theorem dX7_choose_53 : decode cX7_choose 53 = .ok (.invokevirtual 32, 3) := by decide +kernel
theorem dX7_choose_56 : decode cX7_choose 56 = .ok (.iload 4, 2) := by decide +kernel
theorem dX7_choose_58 : decode cX7_choose 58 = .ok (.iconst 1, 1) := by decide +kernel
theorem dX7_choose_59 : decode cX7_choose 59 = .ok (.iadd, 1) := by decide +kernel
theorem dX7_choose_60 : decode cX7_choose 60 = .ok (.istore 10, 2) := by decide +kernel
theorem dX7_choose_62 : decode cX7_choose 62 = .ok (.iload 10, 2) := by decide +kernel
theorem dX7_choose_64 : decode cX7_choose 64 = .ok (.aload_n 1, 1) := by decide +kernel
theorem dX7_choose_65 : decode cX7_choose 65 = .ok (.getfield 17, 3) := by decide +kernel
theorem dX7_choose_68 : decode cX7_choose 68 = .ok (.if_icmp .ge 83, 3) := by decide +kernel
theorem dX7_choose_71 : decode cX7_choose 71 = .ok (.aload_n 1, 1) := by decide +kernel
theorem dX7_choose_72 : decode cX7_choose 72 = .ok (.getfield 22, 3) := by decide +kernel
theorem dX7_choose_75 : decode cX7_choose 75 = .ok (.iload 10, 2) := by decide +kernel
theorem dX7_choose_77 : decode cX7_choose 77 = .ok (.aaload, 1) := by decide +kernel
theorem dX7_choose_78 : decode cX7_choose 78 = .ok (.iload_n 2, 1) := by decide +kernel
theorem dX7_choose_79 : decode cX7_choose 79 = .ok (.iload_n 3, 1) := by decide +kernel
theorem dX7_choose_80 : decode cX7_choose 80 = .ok (.invokestatic 26, 3) := by decide +kernel
theorem dX7_choose_83 : decode cX7_choose 83 = .ok (.lstore 11, 2) := by decide +kernel
theorem dX7_choose_85 : decode cX7_choose 85 = .ok (.aload_n 0, 1) := by decide +kernel
theorem dX7_choose_86 : decode cX7_choose 86 = .ok (.lload 8, 2) := by decide +kernel
theorem dX7_choose_88 : decode cX7_choose 88 = .ok (.lload 5, 2) := by decide +kernel
theorem dX7_choose_90 : decode cX7_choose 90 = .ok (.ladd, 1) := by decide +kernel
theorem dX7_choose_91 : decode cX7_choose 91 = .ok (.lload 11, 2) := by decide +kernel
theorem dX7_choose_93 : decode cX7_choose 93 = .ok (.ladd, 1) := by decide +kernel
theorem dX7_choose_94 : decode cX7_choose 94 = .ok (.ldc2_w 30, 3) := by decide +kernel
theorem dX7_choose_97 : decode cX7_choose 97 = .ok (.iload 10, 2) := by decide +kernel
theorem dX7_choose_99 : decode cX7_choose 99 = .ok (.iload 4, 2) := by decide +kernel
theorem dX7_choose_101 : decode cX7_choose 101 = .ok (.isub, 1) := by decide +kernel
theorem dX7_choose_102 : decode cX7_choose 102 = .ok (.iconst 1, 1) := by decide +kernel
theorem dX7_choose_103 : decode cX7_choose 103 = .ok (.iadd, 1) := by decide +kernel
theorem dX7_choose_104 : decode cX7_choose 104 = .ok (.i2l, 1) := by decide +kernel
theorem dX7_choose_105 : decode cX7_choose 105 = .ok (.lmul, 1) := by decide +kernel
theorem dX7_choose_106 : decode cX7_choose 106 = .ok (.lsub, 1) := by decide +kernel
theorem dX7_choose_107 : decode cX7_choose 107 = .ok (.iconst 1, 1) := by decide +kernel
theorem dX7_choose_108 : decode cX7_choose 108 = .ok (.iload 4, 2) := by decide +kernel
theorem dX7_choose_110 : decode cX7_choose 110 = .ok (.ishl, 1) := by decide +kernel
theorem dX7_choose_111 : decode cX7_choose 111 = .ok (.iload 7, 2) := by decide +kernel
theorem dX7_choose_113 : decode cX7_choose 113 = .ok (.ior, 1) := by decide +kernel
theorem dX7_choose_114 : decode cX7_choose 114 = .ok (.iconst 1, 1) := by decide +kernel
theorem dX7_choose_115 : decode cX7_choose 115 = .ok (.iload 10, 2) := by decide +kernel
theorem dX7_choose_117 : decode cX7_choose 117 = .ok (.ishl, 1) := by decide +kernel
theorem dX7_choose_118 : decode cX7_choose 118 = .ok (.ior, 1) := by decide +kernel
theorem dX7_choose_119 : decode cX7_choose 119 = .ok (.invokevirtual 32, 3) := by decide +kernel
theorem dX7_choose_122 : decode cX7_choose 122 = .ok (.lload 11, 2) := by decide +kernel
theorem dX7_choose_124 : decode cX7_choose 124 = .ok (.lconst 0, 1) := by decide +kernel
theorem dX7_choose_125 : decode cX7_choose 125 = .ok (.lcmp, 1) := by decide +kernel
theorem dX7_choose_126 : decode cX7_choose 126 = .ok (.ifCond .le 19, 3) := by decide +kernel
theorem dX7_choose_129 : decode cX7_choose 129 = .ok (.lload 5, 2) := by decide +kernel
theorem dX7_choose_131 : decode cX7_choose 131 = .ok (.lload 11, 2) := by decide +kernel
theorem dX7_choose_133 : decode cX7_choose 133 = .ok (.ladd, 1) := by decide +kernel
theorem dX7_choose_134 : decode cX7_choose 134 = .ok (.lstore 5, 2) := by decide +kernel
theorem dX7_choose_136 : decode cX7_choose 136 = .ok (.iload 7, 2) := by decide +kernel
theorem dX7_choose_138 : decode cX7_choose 138 = .ok (.iconst 1, 1) := by decide +kernel
theorem dX7_choose_139 : decode cX7_choose 139 = .ok (.iload 10, 2) := by decide +kernel
theorem dX7_choose_141 : decode cX7_choose 141 = .ok (.ishl, 1) := by decide +kernel
theorem dX7_choose_142 : decode cX7_choose 142 = .ok (.ior, 1) := by decide +kernel
theorem dX7_choose_143 : decode cX7_choose 143 = .ok (.istore 7, 2) := by decide +kernel
theorem dX7_choose_145 : decode cX7_choose 145 = .ok (.iinc 10 1, 3) := by decide +kernel
theorem dX7_choose_148 : decode cX7_choose 148 = .ok (.goto (-86), 3) := by decide +kernel
theorem dX7_choose_151 : decode cX7_choose 151 = .ok (.iinc 4 1, 3) := by decide +kernel
theorem dX7_choose_154 : decode cX7_choose 154 = .ok (.goto (-141), 3) := by decide +kernel
theorem dX7_choose_157 : decode cX7_choose 157 = .ok (.return_, 1) := by decide +kernel
theorem dX7_gain_0 : decode cX7_gain 0 = .ok (.aload_n 0, 1) := by decide +kernel
theorem dX7_gain_1 : decode cX7_gain 1 = .ok (.getfield 36, 3) := by decide +kernel
theorem dX7_gain_4 : decode cX7_gain 4 = .ok (.i2l, 1) := by decide +kernel
theorem dX7_gain_5 : decode cX7_gain 5 = .ok (.aload_n 0, 1) := by decide +kernel
theorem dX7_gain_6 : decode cX7_gain 6 = .ok (.getfield 41, 3) := by decide +kernel
theorem dX7_gain_9 : decode cX7_gain 9 = .ok (.i2l, 1) := by decide +kernel
theorem dX7_gain_10 : decode cX7_gain 10 = .ok (.lmul, 1) := by decide +kernel
theorem dX7_gain_11 : decode cX7_gain 11 = .ok (.iload_n 1, 1) := by decide +kernel
theorem dX7_gain_12 : decode cX7_gain 12 = .ok (.i2l, 1) := by decide +kernel
theorem dX7_gain_13 : decode cX7_gain 13 = .ok (.lmul, 1) := by decide +kernel
theorem dX7_gain_14 : decode cX7_gain 14 = .ok (.iload_n 2, 1) := by decide +kernel
theorem dX7_gain_15 : decode cX7_gain 15 = .ok (.i2l, 1) := by decide +kernel
theorem dX7_gain_16 : decode cX7_gain 16 = .ok (.lsub, 1) := by decide +kernel
theorem dX7_gain_17 : decode cX7_gain 17 = .ok (.lreturn, 1) := by decide +kernel
theorem dX7_take_0 : decode cX7_take 0 = .ok (.lload_n 1, 1) := by decide +kernel
theorem dX7_take_1 : decode cX7_take 1 = .ok (.aload_n 0, 1) := by decide +kernel
theorem dX7_take_2 : decode cX7_take 2 = .ok (.getfield 13, 3) := by decide +kernel
theorem dX7_take_5 : decode cX7_take 5 = .ok (.lcmp, 1) := by decide +kernel
theorem dX7_take_6 : decode cX7_take 6 = .ok (.ifCond .gt 20, 3) := by decide +kernel
theorem dX7_take_9 : decode cX7_take 9 = .ok (.lload_n 1, 1) := by decide +kernel
theorem dX7_take_10 : decode cX7_take 10 = .ok (.aload_n 0, 1) := by decide +kernel
theorem dX7_take_11 : decode cX7_take 11 = .ok (.getfield 13, 3) := by decide +kernel
theorem dX7_take_14 : decode cX7_take 14 = .ok (.lcmp, 1) := by decide +kernel
theorem dX7_take_15 : decode cX7_take 15 = .ok (.ifCond .ne 21, 3) := by decide +kernel
theorem dX7_take_18 : decode cX7_take 18 = .ok (.iload_n 3, 1) := by decide +kernel
theorem dX7_take_19 : decode cX7_take 19 = .ok (.aload_n 0, 1) := by decide +kernel
theorem dX7_take_20 : decode cX7_take 20 = .ok (.getfield 7, 3) := by decide +kernel
theorem dX7_take_23 : decode cX7_take 23 = .ok (.if_icmp .ge 13, 3) := by decide +kernel
theorem dX7_take_26 : decode cX7_take 26 = .ok (.aload_n 0, 1) := by decide +kernel
theorem dX7_take_27 : decode cX7_take 27 = .ok (.lload_n 1, 1) := by decide +kernel
theorem dX7_take_28 : decode cX7_take 28 = .ok (.putfield 13, 3) := by decide +kernel
theorem dX7_take_31 : decode cX7_take 31 = .ok (.aload_n 0, 1) := by decide +kernel
theorem dX7_take_32 : decode cX7_take 32 = .ok (.iload_n 3, 1) := by decide +kernel
theorem dX7_take_33 : decode cX7_take 33 = .ok (.putfield 7, 3) := by decide +kernel
theorem dX7_take_36 : decode cX7_take 36 = .ok (.return_, 1) := by decide +kernel
theorem dX8_init_0 : decode cX8_init 0 = .ok (.aload_n 0, 1) := by decide +kernel
theorem dX8_init_1 : decode cX8_init 1 = .ok (.invokespecial 3, 3) := by decide +kernel
theorem dX8_init_4 : decode cX8_init 4 = .ok (.aload_n 0, 1) := by decide +kernel
theorem dX8_init_5 : decode cX8_init 5 = .ok (.bipush 24, 2) := by decide +kernel
theorem dX8_init_7 : decode cX8_init 7 = .ok (.newarray .int, 2) := by decide +kernel
theorem dX8_init_9 : decode cX8_init 9 = .ok (.putfield 9, 3) := by decide +kernel
theorem dX8_init_12 : decode cX8_init 12 = .ok (.aload_n 0, 1) := by decide +kernel
theorem dX8_init_13 : decode cX8_init 13 = .ok (.bipush 24, 2) := by decide +kernel
theorem dX8_init_15 : decode cX8_init 15 = .ok (.newarray .boolean, 2) := by decide +kernel
theorem dX8_init_17 : decode cX8_init 17 = .ok (.putfield 15, 3) := by decide +kernel
theorem dX8_init_20 : decode cX8_init 20 = .ok (.aload_n 0, 1) := by decide +kernel
theorem dX8_init_21 : decode cX8_init 21 = .ok (.bipush 50, 2) := by decide +kernel
theorem dX8_init_23 : decode cX8_init 23 = .ok (.putfield 19, 3) := by decide +kernel
theorem dX8_init_26 : decode cX8_init 26 = .ok (.aload_n 0, 1) := by decide +kernel
theorem dX8_init_27 : decode cX8_init 27 = .ok (.iconst 0, 1) := by decide +kernel
theorem dX8_init_28 : decode cX8_init 28 = .ok (.putfield 23, 3) := by decide +kernel
theorem dX8_init_31 : decode cX8_init 31 = .ok (.aload_n 0, 1) := by decide +kernel
theorem dX8_init_32 : decode cX8_init 32 = .ok (.iconst 0, 1) := by decide +kernel
theorem dX8_init_33 : decode cX8_init 33 = .ok (.putfield 26, 3) := by decide +kernel
theorem dX8_init_36 : decode cX8_init 36 = .ok (.iconst 0, 1) := by decide +kernel
theorem dX8_init_37 : decode cX8_init 37 = .ok (.istore_n 1, 1) := by decide +kernel
theorem dX8_init_38 : decode cX8_init 38 = .ok (.iload_n 1, 1) := by decide +kernel
theorem dX8_init_39 : decode cX8_init 39 = .ok (.bipush 24, 2) := by decide +kernel
theorem dX8_init_41 : decode cX8_init 41 = .ok (.if_icmp .ge 16, 3) := by decide +kernel
theorem dX8_init_44 : decode cX8_init 44 = .ok (.aload_n 0, 1) := by decide +kernel
theorem dX8_init_45 : decode cX8_init 45 = .ok (.getfield 9, 3) := by decide +kernel
theorem dX8_init_48 : decode cX8_init 48 = .ok (.iload_n 1, 1) := by decide +kernel
theorem dX8_init_49 : decode cX8_init 49 = .ok (.iconst (-1), 1) := by decide +kernel
theorem dX8_init_50 : decode cX8_init 50 = .ok (.iastore, 1) := by decide +kernel
theorem dX8_init_51 : decode cX8_init 51 = .ok (.iinc 1 1, 3) := by decide +kernel
theorem dX8_init_54 : decode cX8_init 54 = .ok (.goto (-16), 3) := by decide +kernel
theorem dX8_init_57 : decode cX8_init 57 = .ok (.return_, 1) := by decide +kernel
theorem dX8_stateAt_0 : decode cX8_stateAt 0 = .ok (.aload_n 0, 1) := by decide +kernel
theorem dX8_stateAt_1 : decode cX8_stateAt 1 = .ok (.getfield 9, 3) := by decide +kernel
theorem dX8_stateAt_4 : decode cX8_stateAt 4 = .ok (.iload_n 1, 1) := by decide +kernel
theorem dX8_stateAt_5 : decode cX8_stateAt 5 = .ok (.iaload, 1) := by decide +kernel
theorem dX8_stateAt_6 : decode cX8_stateAt 6 = .ok (.istore_n 2, 1) := by decide +kernel
theorem dX8_stateAt_7 : decode cX8_stateAt 7 = .ok (.aload_n 0, 1) := by decide +kernel
theorem dX8_stateAt_8 : decode cX8_stateAt 8 = .ok (.iload_n 2, 1) := by decide +kernel
theorem dX8_stateAt_9 : decode cX8_stateAt 9 = .ok (.iconst (-1), 1) := by decide +kernel
theorem dX8_stateAt_10 : decode cX8_stateAt 10 = .ok (.if_icmp .ne 16, 3) := by decide +kernel
theorem dX8_stateAt_13 : decode cX8_stateAt 13 = .ok (.aload_n 0, 1) := by decide +kernel
theorem dX8_stateAt_14 : decode cX8_stateAt 14 = .ok (.getfield 23, 3) := by decide +kernel
theorem dX8_stateAt_17 : decode cX8_stateAt 17 = .ok (.iconst 1, 1) := by decide +kernel
theorem dX8_stateAt_18 : decode cX8_stateAt 18 = .ok (.iadd, 1) := by decide +kernel
theorem dX8_stateAt_19 : decode cX8_stateAt 19 = .ok (.iconst 3, 1) := by decide +kernel
theorem dX8_stateAt_20 : decode cX8_stateAt 20 = .ok (.invokestatic 30, 3) := by decide +kernel
theorem dX8_stateAt_23 : decode cX8_stateAt 23 = .ok (.goto 4, 3) := by decide +kernel
theorem dX8_stateAt_26 : decode cX8_stateAt 26 = .ok (.iconst 0, 1) := by decide +kernel
theorem dX8_stateAt_27 : decode cX8_stateAt 27 = .ok (.putfield 23, 3) := by decide +kernel
theorem dX8_stateAt_30 : decode cX8_stateAt 30 = .ok (.iload_n 2, 1) := by decide +kernel
theorem dX8_stateAt_31 : decode cX8_stateAt 31 = .ok (.aload_n 0, 1) := by decide +kernel
theorem dX8_stateAt_32 : decode cX8_stateAt 32 = .ok (.getfield 19, 3) := by decide +kernel
theorem dX8_stateAt_35 : decode cX8_stateAt 35 = .ok (.if_icmp .ge 11, 3) := by decide +kernel
theorem dX8_stateAt_38 : decode cX8_stateAt 38 = .ok (.aload_n 0, 1) := by decide +kernel
theorem dX8_stateAt_39 : decode cX8_stateAt 39 = .ok (.getfield 23, 3) := by decide +kernel
theorem dX8_stateAt_42 : decode cX8_stateAt 42 = .ok (.iconst 3, 1) := by decide +kernel
theorem dX8_stateAt_43 : decode cX8_stateAt 43 = .ok (.if_icmp .lt 11, 3) := by decide +kernel
theorem dX8_stateAt_46 : decode cX8_stateAt 46 = .ok (.aload_n 0, 1) := by decide +kernel
theorem dX8_stateAt_47 : decode cX8_stateAt 47 = .ok (.iconst 1, 1) := by decide +kernel
theorem dX8_stateAt_48 : decode cX8_stateAt 48 = .ok (.putfield 26, 3) := by decide +kernel
theorem dX8_stateAt_51 : decode cX8_stateAt 51 = .ok (.goto 23, 3) := by decide +kernel
theorem dX8_stateAt_54 : decode cX8_stateAt 54 = .ok (.iload_n 2, 1) := by decide +kernel
theorem dX8_stateAt_55 : decode cX8_stateAt 55 = .ok (.iconst (-1), 1) := by decide +kernel
theorem dX8_stateAt_56 : decode cX8_stateAt 56 = .ok (.if_icmp .eq 18, 3) := by decide +kernel
theorem dX8_stateAt_59 : decode cX8_stateAt 59 = .ok (.iload_n 2, 1) := by decide +kernel
theorem dX8_stateAt_60 : decode cX8_stateAt 60 = .ok (.aload_n 0, 1) := by decide +kernel
theorem dX8_stateAt_61 : decode cX8_stateAt 61 = .ok (.getfield 19, 3) := by decide +kernel
theorem dX8_stateAt_64 : decode cX8_stateAt 64 = .ok (.iconst 2, 1) := by decide +kernel
theorem dX8_stateAt_65 : decode cX8_stateAt 65 = .ok (.idiv, 1) := by decide +kernel
theorem dX8_stateAt_66 : decode cX8_stateAt 66 = .ok (.if_icmp .ge 8, 3) := by decide +kernel
theorem dX8_stateAt_69 : decode cX8_stateAt 69 = .ok (.aload_n 0, 1) := by decide +kernel
theorem dX8_stateAt_70 : decode cX8_stateAt 70 = .ok (.iconst 0, 1) := by decide +kernel
theorem dX8_stateAt_71 : decode cX8_stateAt 71 = .ok (.putfield 26, 3) := by decide +kernel
theorem dX8_stateAt_74 : decode cX8_stateAt 74 = .ok (.aload_n 0, 1) := by decide +kernel
theorem dX8_stateAt_75 : decode cX8_stateAt 75 = .ok (.getfield 26, 3) := by decide +kernel
theorem dX8_stateAt_78 : decode cX8_stateAt 78 = .ok (.ifCond .eq 5, 3) := by decide +kernel
theorem dX8_stateAt_81 : decode cX8_stateAt 81 = .ok (.iconst 2, 1) := by decide +kernel
theorem dX8_stateAt_82 : decode cX8_stateAt 82 = .ok (.ireturn, 1) := by decide +kernel
theorem dX8_stateAt_83 : decode cX8_stateAt 83 = .ok (.aload_n 0, 1) := by decide +kernel
theorem dX8_stateAt_84 : decode cX8_stateAt 84 = .ok (.getfield 15, 3) := by decide +kernel
theorem dX8_stateAt_87 : decode cX8_stateAt 87 = .ok (.iload_n 1, 1) := by decide +kernel
theorem dX8_stateAt_88 : decode cX8_stateAt 88 = .ok (.baload, 1) := by decide +kernel
theorem dX8_stateAt_89 : decode cX8_stateAt 89 = .ok (.ifCond .eq 7, 3) := by decide +kernel
theorem dX8_stateAt_92 : decode cX8_stateAt 92 = .ok (.iconst 1, 1) := by decide +kernel
theorem dX8_stateAt_93 : decode cX8_stateAt 93 = .ok (.goto 4, 3) := by decide +kernel
theorem dX8_stateAt_96 : decode cX8_stateAt 96 = .ok (.iconst 0, 1) := by decide +kernel
theorem dX8_stateAt_97 : decode cX8_stateAt 97 = .ok (.ireturn, 1) := by decide +kernel
theorem dX9_init_0 : decode cX9_init 0 = .ok (.aload_n 0, 1) := by decide +kernel
theorem dX9_init_1 : decode cX9_init 1 = .ok (.invokespecial 1, 3) := by decide +kernel
theorem dX9_init_4 : decode cX9_init 4 = .ok (.aload_n 0, 1) := by decide +kernel
theorem dX9_init_5 : decode cX9_init 5 = .ok (.new 7, 3) := by decide +kernel
theorem dX9_init_8 : decode cX9_init 8 = .ok (.dup, 1) := by decide +kernel
theorem dX9_init_9 : decode cX9_init 9 = .ok (.invokespecial 9, 3) := by decide +kernel
theorem dX9_init_12 : decode cX9_init 12 = .ok (.putfield 10, 3) := by decide +kernel
theorem dX9_init_15 : decode cX9_init 15 = .ok (.aload_n 0, 1) := by decide +kernel
theorem dX9_init_16 : decode cX9_init 16 = .ok (.new 16, 3) := by decide +kernel
theorem dX9_init_19 : decode cX9_init 19 = .ok (.dup, 1) := by decide +kernel
theorem dX9_init_20 : decode cX9_init 20 = .ok (.invokespecial 18, 3) := by decide +kernel
theorem dX9_init_23 : decode cX9_init 23 = .ok (.putfield 19, 3) := by decide +kernel
theorem dX9_init_26 : decode cX9_init 26 = .ok (.aload_n 0, 1) := by decide +kernel
theorem dX9_init_27 : decode cX9_init 27 = .ok (.new 23, 3) := by decide +kernel
theorem dX9_init_30 : decode cX9_init 30 = .ok (.dup, 1) := by decide +kernel
theorem dX9_init_31 : decode cX9_init 31 = .ok (.invokespecial 25, 3) := by decide +kernel
theorem dX9_init_34 : decode cX9_init 34 = .ok (.putfield 26, 3) := by decide +kernel
theorem dX9_init_37 : decode cX9_init 37 = .ok (.aload_n 0, 1) := by decide +kernel
theorem dX9_init_38 : decode cX9_init 38 = .ok (.new 30, 3) := by decide +kernel
theorem dX9_init_41 : decode cX9_init 41 = .ok (.dup, 1) := by decide +kernel
theorem dX9_init_42 : decode cX9_init 42 = .ok (.invokespecial 32, 3) := by decide +kernel
theorem dX9_init_45 : decode cX9_init 45 = .ok (.putfield 33, 3) := by decide +kernel
theorem dX9_init_48 : decode cX9_init 48 = .ok (.aload_n 0, 1) := by decide +kernel
theorem dX9_init_49 : decode cX9_init 49 = .ok (.new 37, 3) := by decide +kernel
theorem dX9_init_52 : decode cX9_init 52 = .ok (.dup, 1) := by decide +kernel
theorem dX9_init_53 : decode cX9_init 53 = .ok (.invokespecial 39, 3) := by decide +kernel
theorem dX9_init_56 : decode cX9_init 56 = .ok (.putfield 40, 3) := by decide +kernel
theorem dX9_init_59 : decode cX9_init 59 = .ok (.aload_n 0, 1) := by decide +kernel
theorem dX9_init_60 : decode cX9_init 60 = .ok (.new 44, 3) := by decide +kernel
theorem dX9_init_63 : decode cX9_init 63 = .ok (.dup, 1) := by decide +kernel
theorem dX9_init_64 : decode cX9_init 64 = .ok (.invokespecial 46, 3) := by decide +kernel
theorem dX9_init_67 : decode cX9_init 67 = .ok (.putfield 47, 3) := by decide +kernel
theorem dX9_init_70 : decode cX9_init 70 = .ok (.aload_n 0, 1) := by decide +kernel
theorem dX9_init_71 : decode cX9_init 71 = .ok (.new 51, 3) := by decide +kernel
theorem dX9_init_74 : decode cX9_init 74 = .ok (.dup, 1) := by decide +kernel
theorem dX9_init_75 : decode cX9_init 75 = .ok (.invokespecial 53, 3) := by decide +kernel
theorem dX9_init_78 : decode cX9_init 78 = .ok (.putfield 54, 3) := by decide +kernel
theorem dX9_init_81 : decode cX9_init 81 = .ok (.aload_n 0, 1) := by decide +kernel
theorem dX9_init_82 : decode cX9_init 82 = .ok (.iconst 5, 1) := by decide +kernel
theorem dX9_init_83 : decode cX9_init 83 = .ok (.newarray .int, 2) := by decide +kernel
theorem dX9_init_85 : decode cX9_init 85 = .ok (.putfield 58, 3) := by decide +kernel
theorem dX9_init_88 : decode cX9_init 88 = .ok (.aload_n 0, 1) := by decide +kernel
theorem dX9_init_89 : decode cX9_init 89 = .ok (.iconst 0, 1) := by decide +kernel
theorem dX9_init_90 : decode cX9_init 90 = .ok (.putfield 62, 3) := by decide +kernel
theorem dX9_init_93 : decode cX9_init 93 = .ok (.aload_n 0, 1) := by decide +kernel
theorem dX9_init_94 : decode cX9_init 94 = .ok (.iconst 0, 1) := by decide +kernel
theorem dX9_init_95 : decode cX9_init 95 = .ok (.putfield 66, 3) := by decide +kernel
theorem dX9_init_98 : decode cX9_init 98 = .ok (.return_, 1) := by decide +kernel
theorem dX9_row_0 : decode cX9_row 0 = .ok (.iload_n 1, 1) := by decide +kernel
theorem dX9_row_1 : decode cX9_row 1 = .ok (.invokestatic 69, 3) := by decide +kernel
theorem dX9_row_4 : decode cX9_row 4 = .ok (.ifCond .eq 53, 3) := by decide +kernel
theorem dX9_row_7 : decode cX9_row 7 = .ok (.iload_n 3, 1) := by decide +kernel
theorem dX9_row_8 : decode cX9_row 8 = .ok (.sipush (-1000), 3) := by decide +kernel
theorem dX9_row_11 : decode cX9_row 11 = .ok (.sipush 1000, 3) := by decide +kernel
theorem dX9_row_14 : decode cX9_row 14 = .ok (.invokestatic 73, 3) := by decide +kernel
theorem dX9_row_17 : decode cX9_row 17 = .ok (.ifCond .eq 40, 3) := by decide +kernel
theorem dX9_row_20 : decode cX9_row 20 = .ok (.iload 4, 2) := by decide +kernel
theorem dX9_row_22 : decode cX9_row 22 = .ok (.bipush 10, 2) := by decide +kernel
theorem dX9_row_24 : decode cX9_row 24 = .ok (.sipush 400, 3) := by decide +kernel
theorem dX9_row_27 : decode cX9_row 27 = .ok (.invokestatic 73, 3) := by decide +kernel
theorem dX9_row_30 : decode cX9_row 30 = .ok (.ifCond .eq 27, 3) := by decide +kernel
theorem dX9_row_33 : decode cX9_row 33 = .ok (.iload_n 1, 1) := by decide +kernel
theorem dX9_row_34 : decode cX9_row 34 = .ok (.iconst 1, 1) := by decide +kernel
theorem dX9_row_35 : decode cX9_row 35 = .ok (.if_icmp .ne 11, 3) := by decide +kernel
theorem dX9_row_38 : decode cX9_row 38 = .ok (.iload 5, 2) := by decide +kernel
theorem dX9_row_40 : decode cX9_row 40 = .ok (.invokestatic 77, 3) := by decide +kernel
theorem dX9_row_43 : decode cX9_row 43 = .ok (.ifCond .eq 14, 3) := by decide +kernel
theorem dX9_row_46 : decode cX9_row 46 = .ok (.iload_n 2, 1) := by decide +kernel
theorem dX9_row_47 : decode cX9_row 47 = .ok (.iconst 0, 1) := by decide +kernel
theorem dX9_row_48 : decode cX9_row 48 = .ok (.sipush 10000, 3) := by decide +kernel
theorem dX9_row_51 : decode cX9_row 51 = .ok (.invokestatic 73, 3) := by decide +kernel
theorem dX9_row_54 : decode cX9_row 54 = .ok (.ifCond .ne 10, 3) := by decide +kernel
theorem dX9_row_57 : decode cX9_row 57 = .ok (.aload_n 0, 1) := by decide +kernel
theorem dX9_row_58 : decode cX9_row 58 = .ok (.ldc 80, 2) := by decide +kernel
theorem dX9_row_60 : decode cX9_row 60 = .ok (.invokevirtual 81, 3) := by decide +kernel
theorem dX9_row_63 : decode cX9_row 63 = .ok (.ireturn, 1) := by decide +kernel
theorem dX9_row_64 : decode cX9_row 64 = .ok (.aload_n 0, 1) := by decide +kernel
theorem dX9_row_65 : decode cX9_row 65 = .ok (.getfield 10, 3) := by decide +kernel
theorem dX9_row_68 : decode cX9_row 68 = .ok (.iload_n 2, 1) := by decide +kernel
theorem dX9_row_69 : decode cX9_row 69 = .ok (.invokevirtual 85, 3) := by decide +kernel
theorem dX9_row_72 : decode cX9_row 72 = .ok (.ifCond .ne 10, 3) := by decide +kernel
theorem dX9_row_75 : decode cX9_row 75 = .ok (.aload_n 0, 1) := by decide +kernel
theorem dX9_row_76 : decode cX9_row 76 = .ok (.ldc 88, 2) := by decide +kernel
theorem dX9_row_78 : decode cX9_row 78 = .ok (.invokevirtual 81, 3) := by decide +kernel
theorem dX9_row_81 : decode cX9_row 81 = .ok (.ireturn, 1) := by decide +kernel
theorem dX9_row_82 : decode cX9_row 82 = .ok (.aload_n 0, 1) := by decide +kernel
theorem dX9_row_83 : decode cX9_row 83 = .ok (.getfield 10, 3) := by decide +kernel
theorem dX9_row_86 : decode cX9_row 86 = .ok (.getfield 89, 3) := by decide +kernel
theorem dX9_row_89 : decode cX9_row 89 = .ok (.bipush 10, 2) := by decide +kernel
theorem dX9_row_91 : decode cX9_row 91 = .ok (.if_icmp .lt 10, 3) := by decide +kernel
theorem dX9_row_94 : decode cX9_row 94 = .ok (.aload_n 0, 1) := by decide +kernel
theorem dX9_row_95 : decode cX9_row 95 = .ok (.ldc 92, 2) := by decide +kernel
theorem dX9_row_97 : decode cX9_row 97 = .ok (.invokevirtual 81, 3) := by decide +kernel
theorem dX9_row_100 : decode cX9_row 100 = .ok (.ireturn, 1) := by decide +kernel
theorem dX9_row_101 : decode cX9_row 101 = .ok (.aload_n 0, 1) := by decide +kernel
theorem dX9_row_102 : decode cX9_row 102 = .ok (.getfield 10, 3) := by decide +kernel
theorem dX9_row_105 : decode cX9_row 105 = .ok (.getfield 93, 3) := by decide +kernel
theorem dX9_row_108 : decode cX9_row 108 = .ok (.aload_n 0, 1) := by decide +kernel
theorem dX9_row_109 : decode cX9_row 109 = .ok (.getfield 10, 3) := by decide +kernel
theorem dX9_row_112 : decode cX9_row 112 = .ok (.getfield 89, 3) := by decide +kernel
theorem dX9_row_115 : decode cX9_row 115 = .ok (.aaload, 1) := by decide +kernel
theorem dX9_row_116 : decode cX9_row 116 = .ok (.astore 6, 2) := by decide +kernel
theorem dX9_row_118 : decode cX9_row 118 = .ok (.aload 6, 2) := by decide +kernel
theorem dX9_row_120 : decode cX9_row 120 = .ok (.iload_n 1, 1) := by decide +kernel
theorem dX9_row_121 : decode cX9_row 121 = .ok (.iload_n 2, 1) := by decide +kernel
theorem dX9_row_122 : decode cX9_row 122 = .ok (.iload_n 3, 1) := by decide +kernel
theorem dX9_row_123 : decode cX9_row 123 = .ok (.iload 4, 2) := by decide +kernel
theorem dX9_row_125 : decode cX9_row 125 = .ok (.iload 5, 2) := by decide +kernel
theorem dX9_row_127 : decode cX9_row 127 = .ok (.invokevirtual 97, 3) := by decide +kernel
theorem dX9_row_130 : decode cX9_row 130 = .ok (.aload_n 0, 1) := by decide +kernel
theorem dX9_row_131 : decode cX9_row 131 = .ok (.getfield 10, 3) := by decide +kernel
theorem dX9_row_134 : decode cX9_row 134 = .ok (.dup, 1) := by decide +kernel
theorem dX9_row_135 : decode cX9_row 135 = .ok (.getfield 89, 3) := by decide +kernel
theorem dX9_row_138 : decode cX9_row 138 = .ok (.iconst 1, 1) := by decide +kernel
theorem dX9_row_139 : decode cX9_row 139 = .ok (.iadd, 1) := by decide +kernel
theorem dX9_row_140 : decode cX9_row 140 = .ok (.putfield 89, 3) := by decide +kernel
theorem dX9_row_143 : decode cX9_row 143 = .ok (.aload_n 0, 1) := by decide +kernel
theorem dX9_row_144 : decode cX9_row 144 = .ok (.getfield 10, 3) := by decide +kernel
theorem dX9_row_147 : decode cX9_row 147 = .ok (.getfield 89, 3) := by decide +kernel
theorem dX9_row_150 : decode cX9_row 150 = .ok (.iconst 1, 1) := by decide +kernel
theorem dX9_row_151 : decode cX9_row 151 = .ok (.isub, 1) := by decide +kernel
theorem dX9_row_152 : decode cX9_row 152 = .ok (.ireturn, 1) := by decide +kernel
theorem dX9_drop_0 : decode cX9_drop 0 = .ok (.aload_n 0, 1) := by decide +kernel
theorem dX9_drop_1 : decode cX9_drop 1 = .ok (.getfield 10, 3) := by decide +kernel
theorem dX9_drop_4 : decode cX9_drop 4 = .ok (.getfield 89, 3) := by decide +kernel
theorem dX9_drop_7 : decode cX9_drop 7 = .ok (.ifCond .gt 10, 3) := by decide +kernel
theorem dX9_drop_10 : decode cX9_drop 10 = .ok (.aload_n 0, 1) := by decide +kernel
theorem dX9_drop_11 : decode cX9_drop 11 = .ok (.ldc 103, 2) := by decide +kernel
theorem dX9_drop_13 : decode cX9_drop 13 = .ok (.invokevirtual 81, 3) := by decide +kernel
theorem dX9_drop_16 : decode cX9_drop 16 = .ok (.ireturn, 1) := by decide +kernel
theorem dX9_drop_17 : decode cX9_drop 17 = .ok (.aload_n 0, 1) := by decide +kernel
theorem dX9_drop_18 : decode cX9_drop 18 = .ok (.getfield 10, 3) := by decide +kernel
theorem dX9_drop_21 : decode cX9_drop 21 = .ok (.dup, 1) := by decide +kernel
theorem dX9_drop_22 : decode cX9_drop 22 = .ok (.getfield 89, 3) := by decide +kernel
theorem dX9_drop_25 : decode cX9_drop 25 = .ok (.iconst 1, 1) := by decide +kernel
theorem dX9_drop_26 : decode cX9_drop 26 = .ok (.isub, 1) := by decide +kernel
theorem dX9_drop_27 : decode cX9_drop 27 = .ok (.putfield 89, 3) := by decide +kernel
theorem dX9_drop_30 : decode cX9_drop 30 = .ok (.aload_n 0, 1) := by decide +kernel
theorem dX9_drop_31 : decode cX9_drop 31 = .ok (.getfield 10, 3) := by decide +kernel
theorem dX9_drop_34 : decode cX9_drop 34 = .ok (.getfield 89, 3) := by decide +kernel
theorem dX9_drop_37 : decode cX9_drop 37 = .ok (.ireturn, 1) := by decide +kernel
theorem dX9_about_0 : decode cX9_about 0 = .ok (.aload_n 0, 1) := by decide +kernel
theorem dX9_about_1 : decode cX9_about 1 = .ok (.iload_n 1, 1) := by decide +kernel
theorem dX9_about_2 : decode cX9_about 2 = .ok (.invokevirtual 104, 3) := by decide +kernel
theorem dX9_about_5 : decode cX9_about 5 = .ok (.ifCond .ne 10, 3) := by decide +kernel
theorem dX9_about_8 : decode cX9_about 8 = .ok (.aload_n 0, 1) := by decide +kernel
theorem dX9_about_9 : decode cX9_about 9 = .ok (.ldc 80, 2) := by decide +kernel
theorem dX9_about_11 : decode cX9_about 11 = .ok (.invokevirtual 81, 3) := by decide +kernel
theorem dX9_about_14 : decode cX9_about 14 = .ok (.ireturn, 1) := by decide +kernel
theorem dX9_about_15 : decode cX9_about 15 = .ok (.aload_n 0, 1) := by decide +kernel
theorem dX9_about_16 : decode cX9_about 16 = .ok (.getfield 10, 3) := by decide +kernel
theorem dX9_about_19 : decode cX9_about 19 = .ok (.getfield 93, 3) := by decide +kernel
theorem dX9_about_22 : decode cX9_about 22 = .ok (.iload_n 1, 1) := by decide +kernel
theorem dX9_about_23 : decode cX9_about 23 = .ok (.aaload, 1) := by decide +kernel
theorem dX9_about_24 : decode cX9_about 24 = .ok (.astore_n 3, 1) := by decide +kernel
theorem dX9_about_25 : decode cX9_about 25 = .ok (.iload_n 2, 1) := by decide +kernel
theorem dX9_about_26 : decode cX9_about 26 = .ok (.tableswitch 77 0 6 #[42, 47, 52, 57, 62, 67, 72], 42) := by decide +kernel
theorem dX9_about_68 : decode cX9_about 68 = .ok (.aload_n 3, 1) := by decide +kernel
theorem dX9_about_69 : decode cX9_about 69 = .ok (.getfield 107, 3) := by decide +kernel
theorem dX9_about_72 : decode cX9_about 72 = .ok (.ireturn, 1) := by decide +kernel
theorem dX9_about_73 : decode cX9_about 73 = .ok (.aload_n 3, 1) := by decide +kernel
theorem dX9_about_74 : decode cX9_about 74 = .ok (.getfield 110, 3) := by decide +kernel
theorem dX9_about_77 : decode cX9_about 77 = .ok (.ireturn, 1) := by decide +kernel
theorem dX9_about_78 : decode cX9_about 78 = .ok (.aload_n 3, 1) := by decide +kernel
theorem dX9_about_79 : decode cX9_about 79 = .ok (.getfield 113, 3) := by decide +kernel
theorem dX9_about_82 : decode cX9_about 82 = .ok (.ireturn, 1) := by decide +kernel
theorem dX9_about_83 : decode cX9_about 83 = .ok (.aload_n 3, 1) := by decide +kernel
theorem dX9_about_84 : decode cX9_about 84 = .ok (.getfield 116, 3) := by decide +kernel
theorem dX9_about_87 : decode cX9_about 87 = .ok (.ireturn, 1) := by decide +kernel
theorem dX9_about_88 : decode cX9_about 88 = .ok (.aload_n 3, 1) := by decide +kernel
theorem dX9_about_89 : decode cX9_about 89 = .ok (.getfield 119, 3) := by decide +kernel
theorem dX9_about_92 : decode cX9_about 92 = .ok (.ireturn, 1) := by decide +kernel
theorem dX9_about_93 : decode cX9_about 93 = .ok (.aload_n 3, 1) := by decide +kernel
theorem dX9_about_94 : decode cX9_about 94 = .ok (.getfield 122, 3) := by decide +kernel
theorem dX9_about_97 : decode cX9_about 97 = .ok (.ireturn, 1) := by decide +kernel
theorem dX9_about_98 : decode cX9_about 98 = .ok (.aload_n 3, 1) := by decide +kernel
theorem dX9_about_99 : decode cX9_about 99 = .ok (.getfield 125, 3) := by decide +kernel
theorem dX9_about_102 : decode cX9_about 102 = .ok (.ireturn, 1) := by decide +kernel
theorem dX9_about_103 : decode cX9_about 103 = .ok (.aload_n 0, 1) := by decide +kernel
theorem dX9_about_104 : decode cX9_about 104 = .ok (.ldc 80, 2) := by decide +kernel
theorem dX9_about_106 : decode cX9_about 106 = .ok (.invokevirtual 81, 3) := by decide +kernel
theorem dX9_about_109 : decode cX9_about 109 = .ok (.ireturn, 1) := by decide +kernel
theorem dX9_as_0 : decode cX9_as 0 = .ok (.aload_n 0, 1) := by decide +kernel
theorem dX9_as_1 : decode cX9_as 1 = .ok (.iload_n 1, 1) := by decide +kernel
theorem dX9_as_2 : decode cX9_as 2 = .ok (.invokevirtual 104, 3) := by decide +kernel
theorem dX9_as_5 : decode cX9_as 5 = .ok (.ifCond .eq 10, 3) := by decide +kernel
theorem dX9_as_8 : decode cX9_as 8 = .ok (.iload_n 2, 1) := by decide +kernel
theorem dX9_as_9 : decode cX9_as 9 = .ok (.invokestatic 69, 3) := by decide +kernel
theorem dX9_as_12 : decode cX9_as 12 = .ok (.ifCond .ne 10, 3) := by decide +kernel
theorem dX9_as_15 : decode cX9_as 15 = .ok (.aload_n 0, 1) := by decide +kernel
theorem dX9_as_16 : decode cX9_as 16 = .ok (.ldc 80, 2) := by decide +kernel
theorem dX9_as_18 : decode cX9_as 18 = .ok (.invokevirtual 81, 3) := by decide +kernel
theorem dX9_as_21 : decode cX9_as 21 = .ok (.ireturn, 1) := by decide +kernel
theorem dX9_as_22 : decode cX9_as 22 = .ok (.aload_n 0, 1) := by decide +kernel
theorem dX9_as_23 : decode cX9_as 23 = .ok (.getfield 10, 3) := by decide +kernel
theorem dX9_as_26 : decode cX9_as 26 = .ok (.getfield 93, 3) := by decide +kernel
theorem dX9_as_29 : decode cX9_as 29 = .ok (.iload_n 1, 1) := by decide +kernel
theorem dX9_as_30 : decode cX9_as 30 = .ok (.aaload, 1) := by decide +kernel
theorem dX9_as_31 : decode cX9_as 31 = .ok (.astore_n 3, 1) := by decide +kernel
theorem dX9_as_32 : decode cX9_as 32 = .ok (.aload_n 3, 1) := by decide +kernel
theorem dX9_as_33 : decode cX9_as 33 = .ok (.iload_n 2, 1) := by decide +kernel
theorem dX9_as_34 : decode cX9_as 34 = .ok (.invokevirtual 128, 3) := by decide +kernel
theorem dX9_as_37 : decode cX9_as 37 = .ok (.ifCond .ne 10, 3) := by decide +kernel
theorem dX9_as_40 : decode cX9_as 40 = .ok (.aload_n 0, 1) := by decide +kernel
theorem dX9_as_41 : decode cX9_as 41 = .ok (.ldc 131, 2) := by decide +kernel
theorem dX9_as_43 : decode cX9_as 43 = .ok (.invokevirtual 81, 3) := by decide +kernel
theorem dX9_as_46 : decode cX9_as 46 = .ok (.ireturn, 1) := by decide +kernel
theorem dX9_as_47 : decode cX9_as 47 = .ok (.aload_n 3, 1) := by decide +kernel
theorem dX9_as_48 : decode cX9_as 48 = .ok (.getfield 122, 3) := by decide +kernel
theorem dX9_as_51 : decode cX9_as 51 = .ok (.ireturn, 1) := by decide +kernel
theorem dX9_turn_0 : decode cX9_turn 0 = .ok (.aload_n 0, 1) := by decide +kernel
theorem dX9_turn_1 : decode cX9_turn 1 = .ok (.iload_n 1, 1) := by decide +kernel
theorem dX9_turn_2 : decode cX9_turn 2 = .ok (.invokevirtual 104, 3) := by decide +kernel
theorem dX9_turn_5 : decode cX9_turn 5 = .ok (.ifCond .eq 10, 3) := by decide +kernel
theorem dX9_turn_8 : decode cX9_turn 8 = .ok (.iload_n 2, 1) := by decide +kernel
theorem dX9_turn_9 : decode cX9_turn 9 = .ok (.invokestatic 77, 3) := by decide +kernel
theorem dX9_turn_12 : decode cX9_turn 12 = .ok (.ifCond .ne 10, 3) := by decide +kernel
theorem dX9_turn_15 : decode cX9_turn 15 = .ok (.aload_n 0, 1) := by decide +kernel
theorem dX9_turn_16 : decode cX9_turn 16 = .ok (.ldc 80, 2) := by decide +kernel
theorem dX9_turn_18 : decode cX9_turn 18 = .ok (.invokevirtual 81, 3) := by decide +kernel
theorem dX9_turn_21 : decode cX9_turn 21 = .ok (.ireturn, 1) := by decide +kernel
theorem dX9_turn_22 : decode cX9_turn 22 = .ok (.aload_n 0, 1) := by decide +kernel
theorem dX9_turn_23 : decode cX9_turn 23 = .ok (.getfield 10, 3) := by decide +kernel
theorem dX9_turn_26 : decode cX9_turn 26 = .ok (.getfield 93, 3) := by decide +kernel
theorem dX9_turn_29 : decode cX9_turn 29 = .ok (.iload_n 1, 1) := by decide +kernel
theorem dX9_turn_30 : decode cX9_turn 30 = .ok (.aaload, 1) := by decide +kernel
theorem dX9_turn_31 : decode cX9_turn 31 = .ok (.astore_n 3, 1) := by decide +kernel
theorem dX9_turn_32 : decode cX9_turn 32 = .ok (.aload_n 3, 1) := by decide +kernel
theorem dX9_turn_33 : decode cX9_turn 33 = .ok (.getfield 107, 3) := by decide +kernel
theorem dX9_turn_36 : decode cX9_turn 36 = .ok (.iconst 1, 1) := by decide +kernel
theorem dX9_turn_37 : decode cX9_turn 37 = .ok (.if_icmp .ne 10, 3) := by decide +kernel
theorem dX9_turn_40 : decode cX9_turn 40 = .ok (.aload_n 0, 1) := by decide +kernel
theorem dX9_turn_41 : decode cX9_turn 41 = .ok (.ldc 131, 2) := by decide +kernel
theorem dX9_turn_43 : decode cX9_turn 43 = .ok (.invokevirtual 81, 3) := by decide +kernel
theorem dX9_turn_46 : decode cX9_turn 46 = .ok (.ireturn, 1) := by decide +kernel
theorem dX9_turn_47 : decode cX9_turn 47 = .ok (.aload_n 3, 1) := by decide +kernel
theorem dX9_turn_48 : decode cX9_turn 48 = .ok (.getfield 122, 3) := by decide +kernel
theorem dX9_turn_51 : decode cX9_turn 51 = .ok (.istore 4, 2) := by decide +kernel
theorem dX9_turn_53 : decode cX9_turn 53 = .ok (.aload_n 3, 1) := by decide +kernel
theorem dX9_turn_54 : decode cX9_turn 54 = .ok (.iload_n 2, 1) := by decide +kernel
theorem dX9_turn_55 : decode cX9_turn 55 = .ok (.putfield 122, 3) := by decide +kernel
theorem dX9_turn_58 : decode cX9_turn 58 = .ok (.iload 4, 2) := by decide +kernel
theorem dX9_turn_60 : decode cX9_turn 60 = .ok (.ireturn, 1) := by decide +kernel
theorem dX9_dust_0 : decode cX9_dust 0 = .ok (.aload_n 0, 1) := by decide +kernel
theorem dX9_dust_1 : decode cX9_dust 1 = .ok (.iload_n 1, 1) := by decide +kernel
theorem dX9_dust_2 : decode cX9_dust 2 = .ok (.invokevirtual 104, 3) := by decide +kernel
theorem dX9_dust_5 : decode cX9_dust 5 = .ok (.ifCond .eq 14, 3) := by decide +kernel
theorem dX9_dust_8 : decode cX9_dust 8 = .ok (.iload_n 2, 1) := by decide +kernel
theorem dX9_dust_9 : decode cX9_dust 9 = .ok (.iconst 0, 1) := by decide +kernel
theorem dX9_dust_10 : decode cX9_dust 10 = .ok (.sipush 1000, 3) := by decide +kernel
theorem dX9_dust_13 : decode cX9_dust 13 = .ok (.invokestatic 73, 3) := by decide +kernel
theorem dX9_dust_16 : decode cX9_dust 16 = .ok (.ifCond .ne 10, 3) := by decide +kernel
theorem dX9_dust_19 : decode cX9_dust 19 = .ok (.aload_n 0, 1) := by decide +kernel
theorem dX9_dust_20 : decode cX9_dust 20 = .ok (.ldc 80, 2) := by decide +kernel
theorem dX9_dust_22 : decode cX9_dust 22 = .ok (.invokevirtual 81, 3) := by decide +kernel
theorem dX9_dust_25 : decode cX9_dust 25 = .ok (.ireturn, 1) := by decide +kernel
theorem dX9_dust_26 : decode cX9_dust 26 = .ok (.aload_n 0, 1) := by decide +kernel
theorem dX9_dust_27 : decode cX9_dust 27 = .ok (.getfield 10, 3) := by decide +kernel
theorem dX9_dust_30 : decode cX9_dust 30 = .ok (.getfield 93, 3) := by decide +kernel
theorem dX9_dust_33 : decode cX9_dust 33 = .ok (.iload_n 1, 1) := by decide +kernel
theorem dX9_dust_34 : decode cX9_dust 34 = .ok (.aaload, 1) := by decide +kernel
theorem dX9_dust_35 : decode cX9_dust 35 = .ok (.astore_n 3, 1) := by decide +kernel
theorem dX9_dust_36 : decode cX9_dust 36 = .ok (.aload_n 3, 1) := by decide +kernel
theorem dX9_dust_37 : decode cX9_dust 37 = .ok (.getfield 119, 3) := by decide +kernel
theorem dX9_dust_40 : decode cX9_dust 40 = .ok (.istore 4, 2) := by decide +kernel
theorem dX9_dust_42 : decode cX9_dust 42 = .ok (.aload_n 3, 1) := by decide +kernel
theorem dX9_dust_43 : decode cX9_dust 43 = .ok (.iload_n 2, 1) := by decide +kernel
theorem dX9_dust_44 : decode cX9_dust 44 = .ok (.putfield 119, 3) := by decide +kernel
theorem dX9_dust_47 : decode cX9_dust 47 = .ok (.iload 4, 2) := by decide +kernel
theorem dX9_dust_49 : decode cX9_dust 49 = .ok (.ireturn, 1) := by decide +kernel
theorem dX9_sun_0 : decode cX9_sun 0 = .ok (.iload_n 1, 1) := by decide +kernel
theorem dX9_sun_1 : decode cX9_sun 1 = .ok (.iload_n 2, 1) := by decide +kernel
theorem dX9_sun_2 : decode cX9_sun 2 = .ok (.iload_n 3, 1) := by decide +kernel
theorem dX9_sun_3 : decode cX9_sun 3 = .ok (.invokestatic 132, 3) := by decide +kernel
theorem dX9_sun_6 : decode cX9_sun 6 = .ok (.ifCond .ne 10, 3) := by decide +kernel
theorem dX9_sun_9 : decode cX9_sun 9 = .ok (.aload_n 0, 1) := by decide +kernel
theorem dX9_sun_10 : decode cX9_sun 10 = .ok (.ldc 80, 2) := by decide +kernel
theorem dX9_sun_12 : decode cX9_sun 12 = .ok (.invokevirtual 81, 3) := by decide +kernel
theorem dX9_sun_15 : decode cX9_sun 15 = .ok (.ireturn, 1) := by decide +kernel
theorem dX9_sun_16 : decode cX9_sun 16 = .ok (.aload_n 0, 1) := by decide +kernel
theorem dX9_sun_17 : decode cX9_sun 17 = .ok (.getfield 19, 3) := by decide +kernel
theorem dX9_sun_20 : decode cX9_sun 20 = .ok (.iload_n 1, 1) := by decide +kernel
theorem dX9_sun_21 : decode cX9_sun 21 = .ok (.iload_n 2, 1) := by decide +kernel
theorem dX9_sun_22 : decode cX9_sun 22 = .ok (.iload_n 3, 1) := by decide +kernel
theorem dX9_sun_23 : decode cX9_sun 23 = .ok (.invokevirtual 135, 3) := by decide +kernel
theorem dX9_sun_26 : decode cX9_sun 26 = .ok (.aload_n 0, 1) := by decide +kernel
theorem dX9_sun_27 : decode cX9_sun 27 = .ok (.getfield 19, 3) := by decide +kernel
theorem dX9_sun_30 : decode cX9_sun 30 = .ok (.iload_n 1, 1) := by decide +kernel
theorem dX9_sun_31 : decode cX9_sun 31 = .ok (.invokevirtual 139, 3) := by decide +kernel
theorem dX9_sun_34 : decode cX9_sun 34 = .ok (.ifCond .eq 7, 3) := by decide +kernel
theorem dX9_sun_37 : decode cX9_sun 37 = .ok (.iconst 0, 1) := by decide +kernel
theorem dX9_sun_38 : decode cX9_sun 38 = .ok (.goto 4, 3) := by decide +kernel
theorem dX9_sun_41 : decode cX9_sun 41 = .ok (.iconst 1, 1) := by decide +kernel
theorem dX9_sun_42 : decode cX9_sun 42 = .ok (.ireturn, 1) := by decide +kernel
theorem dX9_suns_0 : decode cX9_suns 0 = .ok (.aload_n 0, 1) := by decide +kernel
theorem dX9_suns_1 : decode cX9_suns 1 = .ok (.getfield 54, 3) := by decide +kernel
theorem dX9_suns_4 : decode cX9_suns 4 = .ok (.getfield 142, 3) := by decide +kernel
theorem dX9_suns_7 : decode cX9_suns 7 = .ok (.istore_n 1, 1) := by decide +kernel
theorem dX9_suns_8 : decode cX9_suns 8 = .ok (.iload_n 1, 1) := by decide +kernel
theorem dX9_suns_9 : decode cX9_suns 9 = .ok (.iconst 3, 1) := by decide +kernel
theorem dX9_suns_10 : decode cX9_suns 10 = .ok (.irem, 1) := by decide +kernel
theorem dX9_suns_11 : decode cX9_suns 11 = .ok (.ifCond .eq 10, 3) := by decide +kernel
theorem dX9_suns_14 : decode cX9_suns 14 = .ok (.aload_n 0, 1) := by decide +kernel
theorem dX9_suns_15 : decode cX9_suns 15 = .ok (.ldc 88, 2) := by decide +kernel
theorem dX9_suns_17 : decode cX9_suns 17 = .ok (.invokevirtual 81, 3) := by decide +kernel
theorem dX9_suns_20 : decode cX9_suns 20 = .ok (.ireturn, 1) := by decide +kernel
theorem dX9_suns_21 : decode cX9_suns 21 = .ok (.aload_n 0, 1) := by decide +kernel
theorem dX9_suns_22 : decode cX9_suns 22 = .ok (.getfield 54, 3) := by decide +kernel
theorem dX9_suns_25 : decode cX9_suns 25 = .ok (.invokevirtual 145, 3) := by decide +kernel
theorem dX9_suns_28 : decode cX9_suns 28 = .ok (.iconst 0, 1) := by decide +kernel
theorem dX9_suns_29 : decode cX9_suns 29 = .ok (.istore_n 2, 1) := by decide +kernel
theorem dX9_suns_30 : decode cX9_suns 30 = .ok (.iload_n 2, 1) := by decide +kernel
theorem dX9_suns_31 : decode cX9_suns 31 = .ok (.iconst 2, 1) := by decide +kernel
theorem dX9_suns_32 : decode cX9_suns 32 = .ok (.iadd, 1) := by decide +kernel
theorem dX9_suns_33 : decode cX9_suns 33 = .ok (.iload_n 1, 1) := by decide +kernel
theorem dX9_suns_34 : decode cX9_suns 34 = .ok (.if_icmp .ge 53, 3) := by decide +kernel
theorem dX9_suns_37 : decode cX9_suns 37 = .ok (.aload_n 0, 1) := by decide +kernel
theorem dX9_suns_38 : decode cX9_suns 38 = .ok (.getfield 54, 3) := by decide +kernel
theorem dX9_suns_41 : decode cX9_suns 41 = .ok (.getfield 148, 3) := by decide +kernel
theorem dX9_suns_44 : decode cX9_suns 44 = .ok (.iload_n 2, 1) := by decide +kernel
theorem dX9_suns_45 : decode cX9_suns 45 = .ok (.iaload, 1) := by decide +kernel
theorem dX9_suns_46 : decode cX9_suns 46 = .ok (.aload_n 0, 1) := by decide +kernel
theorem dX9_suns_47 : decode cX9_suns 47 = .ok (.getfield 54, 3) := by decide +kernel
theorem dX9_suns_50 : decode cX9_suns 50 = .ok (.getfield 148, 3) := by decide +kernel
theorem dX9_suns_53 : decode cX9_suns 53 = .ok (.iload_n 2, 1) := by decide +kernel
theorem dX9_suns_54 : decode cX9_suns 54 = .ok (.iconst 1, 1) := by decide +kernel
theorem dX9_suns_55 : decode cX9_suns 55 = .ok (.iadd, 1) := by decide +kernel
theorem dX9_suns_56 : decode cX9_suns 56 = .ok (.iaload, 1) := by decide +kernel
theorem dX9_suns_57 : decode cX9_suns 57 = .ok (.aload_n 0, 1) := by decide +kernel
theorem dX9_suns_58 : decode cX9_suns 58 = .ok (.getfield 54, 3) := by decide +kernel
theorem dX9_suns_61 : decode cX9_suns 61 = .ok (.getfield 148, 3) := by decide +kernel
theorem dX9_suns_64 : decode cX9_suns 64 = .ok (.iload_n 2, 1) := by decide +kernel
theorem dX9_suns_65 : decode cX9_suns 65 = .ok (.iconst 2, 1) := by decide +kernel
theorem dX9_suns_66 : decode cX9_suns 66 = .ok (.iadd, 1) := by decide +kernel
theorem dX9_suns_67 : decode cX9_suns 67 = .ok (.iaload, 1) := by decide +kernel
theorem dX9_suns_68 : decode cX9_suns 68 = .ok (.invokestatic 132, 3) := by decide +kernel
theorem dX9_suns_71 : decode cX9_suns 71 = .ok (.ifCond .ne 10, 3) := by decide +kernel
theorem dX9_suns_74 : decode cX9_suns 74 = .ok (.aload_n 0, 1) := by decide +kernel
theorem dX9_suns_75 : decode cX9_suns 75 = .ok (.ldc 80, 2) := by decide +kernel
theorem dX9_suns_77 : decode cX9_suns 77 = .ok (.invokevirtual 81, 3) := by decide +kernel
theorem dX9_suns_80 : decode cX9_suns 80 = .ok (.ireturn, 1) := by decide +kernel
theorem dX9_suns_81 : decode cX9_suns 81 = .ok (.iinc 2 3, 3) := by decide +kernel
theorem dX9_suns_84 : decode cX9_suns 84 = .ok (.goto (-54), 3) := by decide +kernel
theorem dX9_suns_87 : decode cX9_suns 87 = .ok (.iconst 0, 1) := by decide +kernel
theorem dX9_suns_88 : decode cX9_suns 88 = .ok (.istore_n 2, 1) := by decide +kernel
theorem dX9_suns_89 : decode cX9_suns 89 = .ok (.iload_n 2, 1) := by decide +kernel
theorem dX9_suns_90 : decode cX9_suns 90 = .ok (.iconst 2, 1) := by decide +kernel
theorem dX9_suns_91 : decode cX9_suns 91 = .ok (.iadd, 1) := by decide +kernel
theorem dX9_suns_92 : decode cX9_suns 92 = .ok (.iload_n 1, 1) := by decide +kernel
theorem dX9_suns_93 : decode cX9_suns 93 = .ok (.if_icmp .ge 47, 3) := by decide +kernel
theorem dX9_suns_96 : decode cX9_suns 96 = .ok (.aload_n 0, 1) := by decide +kernel
theorem dX9_suns_97 : decode cX9_suns 97 = .ok (.getfield 19, 3) := by decide +kernel
theorem dX9_suns_100 : decode cX9_suns 100 = .ok (.aload_n 0, 1) := by decide +kernel
theorem dX9_suns_101 : decode cX9_suns 101 = .ok (.getfield 54, 3) := by decide +kernel
theorem dX9_suns_104 : decode cX9_suns 104 = .ok (.getfield 148, 3) := by decide +kernel
theorem dX9_suns_107 : decode cX9_suns 107 = .ok (.iload_n 2, 1) := by decide +kernel
theorem dX9_suns_108 : decode cX9_suns 108 = .ok (.iaload, 1) := by decide +kernel
theorem dX9_suns_109 : decode cX9_suns 109 = .ok (.aload_n 0, 1) := by decide +kernel
theorem dX9_suns_110 : decode cX9_suns 110 = .ok (.getfield 54, 3) := by decide +kernel
theorem dX9_suns_113 : decode cX9_suns 113 = .ok (.getfield 148, 3) := by decide +kernel
theorem dX9_suns_116 : decode cX9_suns 116 = .ok (.iload_n 2, 1) := by decide +kernel
theorem dX9_suns_117 : decode cX9_suns 117 = .ok (.iconst 1, 1) := by decide +kernel
theorem dX9_suns_118 : decode cX9_suns 118 = .ok (.iadd, 1) := by decide +kernel
theorem dX9_suns_119 : decode cX9_suns 119 = .ok (.iaload, 1) := by decide +kernel
theorem dX9_suns_120 : decode cX9_suns 120 = .ok (.aload_n 0, 1) := by decide +kernel
theorem dX9_suns_121 : decode cX9_suns 121 = .ok (.getfield 54, 3) := by decide +kernel
theorem dX9_suns_124 : decode cX9_suns 124 = .ok (.getfield 148, 3) := by decide +kernel
theorem dX9_suns_127 : decode cX9_suns 127 = .ok (.iload_n 2, 1) := by decide +kernel
theorem dX9_suns_128 : decode cX9_suns 128 = .ok (.iconst 2, 1) := by decide +kernel
theorem dX9_suns_129 : decode cX9_suns 129 = .ok (.iadd, 1) := by decide +kernel
theorem dX9_suns_130 : decode cX9_suns 130 = .ok (.iaload, 1) := by decide +kernel
theorem dX9_suns_131 : decode cX9_suns 131 = .ok (.invokevirtual 135, 3) := by decide +kernel
theorem dX9_suns_134 : decode cX9_suns 134 = .ok (.iinc 2 3, 3) := by decide +kernel
theorem dX9_suns_137 : decode cX9_suns 137 = .ok (.goto (-48), 3) := by decide +kernel
theorem dX9_suns_140 : decode cX9_suns 140 = .ok (.iload_n 1, 1) := by decide +kernel
theorem dX9_suns_141 : decode cX9_suns 141 = .ok (.iconst 3, 1) := by decide +kernel
theorem dX9_suns_142 : decode cX9_suns 142 = .ok (.idiv, 1) := by decide +kernel
theorem dX9_suns_143 : decode cX9_suns 143 = .ok (.ireturn, 1) := by decide +kernel
theorem dX9_ideal_0 : decode cX9_ideal 0 = .ok (.iload_n 1, 1) := by decide +kernel
theorem dX9_ideal_1 : decode cX9_ideal 1 = .ok (.invokestatic 151, 3) := by decide +kernel
theorem dX9_ideal_4 : decode cX9_ideal 4 = .ok (.ifCond .ne 10, 3) := by decide +kernel
theorem dX9_ideal_7 : decode cX9_ideal 7 = .ok (.aload_n 0, 1) := by decide +kernel
theorem dX9_ideal_8 : decode cX9_ideal 8 = .ok (.ldc 80, 2) := by decide +kernel
theorem dX9_ideal_10 : decode cX9_ideal 10 = .ok (.invokevirtual 81, 3) := by decide +kernel
theorem dX9_ideal_13 : decode cX9_ideal 13 = .ok (.ireturn, 1) := by decide +kernel
theorem dX9_ideal_14 : decode cX9_ideal 14 = .ok (.aload_n 0, 1) := by decide +kernel
theorem dX9_ideal_15 : decode cX9_ideal 15 = .ok (.getfield 19, 3) := by decide +kernel
theorem dX9_ideal_18 : decode cX9_ideal 18 = .ok (.iload_n 1, 1) := by decide +kernel
theorem dX9_ideal_19 : decode cX9_ideal 19 = .ok (.invokevirtual 139, 3) := by decide +kernel
theorem dX9_ideal_22 : decode cX9_ideal 22 = .ok (.ifCond .eq 10, 3) := by decide +kernel
theorem dX9_ideal_25 : decode cX9_ideal 25 = .ok (.aload_n 0, 1) := by decide +kernel
theorem dX9_ideal_26 : decode cX9_ideal 26 = .ok (.ldc 103, 2) := by decide +kernel
theorem dX9_ideal_28 : decode cX9_ideal 28 = .ok (.invokevirtual 81, 3) := by decide +kernel
theorem dX9_ideal_31 : decode cX9_ideal 31 = .ok (.ireturn, 1) := by decide +kernel
theorem dX9_ideal_32 : decode cX9_ideal 32 = .ok (.aload_n 0, 1) := by decide +kernel
theorem dX9_ideal_33 : decode cX9_ideal 33 = .ok (.getfield 10, 3) := by decide +kernel
theorem dX9_ideal_36 : decode cX9_ideal 36 = .ok (.aload_n 0, 1) := by decide +kernel
theorem dX9_ideal_37 : decode cX9_ideal 37 = .ok (.getfield 19, 3) := by decide +kernel
theorem dX9_ideal_40 : decode cX9_ideal 40 = .ok (.getfield 154, 3) := by decide +kernel
theorem dX9_ideal_43 : decode cX9_ideal 43 = .ok (.iload_n 1, 1) := by decide +kernel
theorem dX9_ideal_44 : decode cX9_ideal 44 = .ok (.iaload, 1) := by decide +kernel
theorem dX9_ideal_45 : decode cX9_ideal 45 = .ok (.aload_n 0, 1) := by decide +kernel
theorem dX9_ideal_46 : decode cX9_ideal 46 = .ok (.getfield 19, 3) := by decide +kernel
theorem dX9_ideal_49 : decode cX9_ideal 49 = .ok (.getfield 157, 3) := by decide +kernel
theorem dX9_ideal_52 : decode cX9_ideal 52 = .ok (.iload_n 1, 1) := by decide +kernel
theorem dX9_ideal_53 : decode cX9_ideal 53 = .ok (.iaload, 1) := by decide +kernel
theorem dX9_ideal_54 : decode cX9_ideal 54 = .ok (.invokevirtual 160, 3) := by decide +kernel
theorem dX9_ideal_57 : decode cX9_ideal 57 = .ok (.ireturn, 1) := by decide +kernel
theorem dX9_back_0 : decode cX9_back 0 = .ok (.iload_n 1, 1) := by decide +kernel
theorem dX9_back_1 : decode cX9_back 1 = .ok (.invokestatic 151, 3) := by decide +kernel
theorem dX9_back_4 : decode cX9_back 4 = .ok (.ifCond .ne 10, 3) := by decide +kernel
theorem dX9_back_7 : decode cX9_back 7 = .ok (.aload_n 0, 1) := by decide +kernel
theorem dX9_back_8 : decode cX9_back 8 = .ok (.ldc 80, 2) := by decide +kernel
theorem dX9_back_10 : decode cX9_back 10 = .ok (.invokevirtual 81, 3) := by decide +kernel
theorem dX9_back_13 : decode cX9_back 13 = .ok (.ireturn, 1) := by decide +kernel
theorem dX9_back_14 : decode cX9_back 14 = .ok (.aload_n 0, 1) := by decide +kernel
theorem dX9_back_15 : decode cX9_back 15 = .ok (.getfield 19, 3) := by decide +kernel
theorem dX9_back_18 : decode cX9_back 18 = .ok (.iload_n 1, 1) := by decide +kernel
theorem dX9_back_19 : decode cX9_back 19 = .ok (.invokevirtual 139, 3) := by decide +kernel
theorem dX9_back_22 : decode cX9_back 22 = .ok (.ifCond .eq 10, 3) := by decide +kernel
theorem dX9_back_25 : decode cX9_back 25 = .ok (.aload_n 0, 1) := by decide +kernel
theorem dX9_back_26 : decode cX9_back 26 = .ok (.ldc 131, 2) := by decide +kernel
theorem dX9_back_28 : decode cX9_back 28 = .ok (.invokevirtual 81, 3) := by decide +kernel
theorem dX9_back_31 : decode cX9_back 31 = .ok (.ireturn, 1) := by decide +kernel
theorem dX9_back_32 : decode cX9_back 32 = .ok (.aload_n 0, 1) := by decide +kernel
theorem dX9_back_33 : decode cX9_back 33 = .ok (.getfield 10, 3) := by decide +kernel
theorem dX9_back_36 : decode cX9_back 36 = .ok (.aload_n 0, 1) := by decide +kernel
theorem dX9_back_37 : decode cX9_back 37 = .ok (.getfield 19, 3) := by decide +kernel
theorem dX9_back_40 : decode cX9_back 40 = .ok (.getfield 154, 3) := by decide +kernel
theorem dX9_back_43 : decode cX9_back 43 = .ok (.iload_n 1, 1) := by decide +kernel
theorem dX9_back_44 : decode cX9_back 44 = .ok (.iaload, 1) := by decide +kernel
theorem dX9_back_45 : decode cX9_back 45 = .ok (.aload_n 0, 1) := by decide +kernel
theorem dX9_back_46 : decode cX9_back 46 = .ok (.getfield 19, 3) := by decide +kernel
theorem dX9_back_49 : decode cX9_back 49 = .ok (.getfield 157, 3) := by decide +kernel
theorem dX9_back_52 : decode cX9_back 52 = .ok (.iload_n 1, 1) := by decide +kernel
theorem dX9_back_53 : decode cX9_back 53 = .ok (.iaload, 1) := by decide +kernel
theorem dX9_back_54 : decode cX9_back 54 = .ok (.invokevirtual 164, 3) := by decide +kernel
theorem dX9_back_57 : decode cX9_back 57 = .ok (.istore_n 2, 1) := by decide +kernel
theorem dX9_back_58 : decode cX9_back 58 = .ok (.iload_n 2, 1) := by decide +kernel
theorem dX9_back_59 : decode cX9_back 59 = .ok (.bipush 99, 2) := by decide +kernel
theorem dX9_back_61 : decode cX9_back 61 = .ok (.if_icmp .ne 12, 3) := by decide +kernel
theorem dX9_back_64 : decode cX9_back 64 = .ok (.aload_n 0, 1) := by decide +kernel
theorem dX9_back_65 : decode cX9_back 65 = .ok (.ldc 103, 2) := by decide +kernel
theorem dX9_back_67 : decode cX9_back 67 = .ok (.invokevirtual 81, 3) := by decide +kernel
theorem dX9_back_70 : decode cX9_back 70 = .ok (.goto 4, 3) := by decide +kernel
theorem dX9_back_73 : decode cX9_back 73 = .ok (.iload_n 2, 1) := by decide +kernel
theorem dX9_back_74 : decode cX9_back 74 = .ok (.ireturn, 1) := by decide +kernel
theorem dX9_breadth_0 : decode cX9_breadth 0 = .ok (.aload_n 0, 1) := by decide +kernel
theorem dX9_breadth_1 : decode cX9_breadth 1 = .ok (.iload_n 1, 1) := by decide +kernel
theorem dX9_breadth_2 : decode cX9_breadth 2 = .ok (.iload_n 2, 1) := by decide +kernel
theorem dX9_breadth_3 : decode cX9_breadth 3 = .ok (.invokevirtual 167, 3) := by decide +kernel
theorem dX9_breadth_6 : decode cX9_breadth 6 = .ok (.istore_n 3, 1) := by decide +kernel
theorem dX9_breadth_7 : decode cX9_breadth 7 = .ok (.iload_n 3, 1) := by decide +kernel
theorem dX9_breadth_8 : decode cX9_breadth 8 = .ok (.ifCond .eq 10, 3) := by decide +kernel
theorem dX9_breadth_11 : decode cX9_breadth 11 = .ok (.aload_n 0, 1) := by decide +kernel
theorem dX9_breadth_12 : decode cX9_breadth 12 = .ok (.iload_n 3, 1) := by decide +kernel
theorem dX9_breadth_13 : decode cX9_breadth 13 = .ok (.invokevirtual 81, 3) := by decide +kernel
theorem dX9_breadth_16 : decode cX9_breadth 16 = .ok (.i2l, 1) := by decide +kernel
theorem dX9_breadth_17 : decode cX9_breadth 17 = .ok (.lreturn, 1) := by decide +kernel
theorem dX9_breadth_18 : decode cX9_breadth 18 = .ok (.aload_n 0, 1) := by decide +kernel
theorem dX9_breadth_19 : decode cX9_breadth 19 = .ok (.iload_n 2, 1) := by decide +kernel
theorem dX9_breadth_20 : decode cX9_breadth 20 = .ok (.invokevirtual 170, 3) := by decide +kernel
theorem dX9_breadth_23 : decode cX9_breadth 23 = .ok (.aload_n 0, 1) := by decide +kernel
theorem dX9_breadth_24 : decode cX9_breadth 24 = .ok (.getfield 10, 3) := by decide +kernel
theorem dX9_breadth_27 : decode cX9_breadth 27 = .ok (.getfield 174, 3) := by decide +kernel
theorem dX9_breadth_30 : decode cX9_breadth 30 = .ok (.iload_n 1, 1) := by decide +kernel
theorem dX9_breadth_31 : decode cX9_breadth 31 = .ok (.invokevirtual 178, 3) := by decide +kernel
theorem dX9_breadth_34 : decode cX9_breadth 34 = .ok (.lreturn, 1) := by decide +kernel
theorem dX9_shade_0 : decode cX9_shade 0 = .ok (.aload_n 0, 1) := by decide +kernel
theorem dX9_shade_1 : decode cX9_shade 1 = .ok (.iload_n 1, 1) := by decide +kernel
theorem dX9_shade_2 : decode cX9_shade 2 = .ok (.iload_n 2, 1) := by decide +kernel
theorem dX9_shade_3 : decode cX9_shade 3 = .ok (.invokevirtual 184, 3) := by decide +kernel
theorem dX9_shade_6 : decode cX9_shade 6 = .ok (.istore_n 3, 1) := by decide +kernel
theorem dX9_shade_7 : decode cX9_shade 7 = .ok (.iload_n 3, 1) := by decide +kernel
theorem dX9_shade_8 : decode cX9_shade 8 = .ok (.ifCond .eq 10, 3) := by decide +kernel
theorem dX9_shade_11 : decode cX9_shade 11 = .ok (.aload_n 0, 1) := by decide +kernel
theorem dX9_shade_12 : decode cX9_shade 12 = .ok (.iload_n 3, 1) := by decide +kernel
theorem dX9_shade_13 : decode cX9_shade 13 = .ok (.invokevirtual 81, 3) := by decide +kernel
theorem dX9_shade_16 : decode cX9_shade 16 = .ok (.i2l, 1) := by decide +kernel
theorem dX9_shade_17 : decode cX9_shade 17 = .ok (.lreturn, 1) := by decide +kernel
theorem dX9_shade_18 : decode cX9_shade 18 = .ok (.aload_n 0, 1) := by decide +kernel
theorem dX9_shade_19 : decode cX9_shade 19 = .ok (.getfield 10, 3) := by decide +kernel
theorem dX9_shade_22 : decode cX9_shade 22 = .ok (.iload_n 1, 1) := by decide +kernel
theorem dX9_shade_23 : decode cX9_shade 23 = .ok (.invokevirtual 187, 3) := by decide +kernel
theorem dX9_shade_26 : decode cX9_shade 26 = .ok (.aload_n 0, 1) := by decide +kernel
theorem dX9_shade_27 : decode cX9_shade 27 = .ok (.getfield 10, 3) := by decide +kernel
theorem dX9_shade_30 : decode cX9_shade 30 = .ok (.getfield 174, 3) := by decide +kernel
theorem dX9_shade_33 : decode cX9_shade 33 = .ok (.invokevirtual 190, 3) := by decide +kernel
theorem dX9_shade_36 : decode cX9_shade 36 = .ok (.lreturn, 1) := by decide +kernel
theorem dX9_dark_0 : decode cX9_dark 0 = .ok (.aload_n 0, 1) := by decide +kernel
theorem dX9_dark_1 : decode cX9_dark 1 = .ok (.iload_n 1, 1) := by decide +kernel
theorem dX9_dark_2 : decode cX9_dark 2 = .ok (.iload_n 2, 1) := by decide +kernel
theorem dX9_dark_3 : decode cX9_dark 3 = .ok (.invokevirtual 184, 3) := by decide +kernel
theorem dX9_dark_6 : decode cX9_dark 6 = .ok (.istore_n 3, 1) := by decide +kernel
theorem dX9_dark_7 : decode cX9_dark 7 = .ok (.iload_n 3, 1) := by decide +kernel
theorem dX9_dark_8 : decode cX9_dark 8 = .ok (.ifCond .eq 9, 3) := by decide +kernel
theorem dX9_dark_11 : decode cX9_dark 11 = .ok (.aload_n 0, 1) := by decide +kernel
theorem dX9_dark_12 : decode cX9_dark 12 = .ok (.iload_n 3, 1) := by decide +kernel
theorem dX9_dark_13 : decode cX9_dark 13 = .ok (.invokevirtual 81, 3) := by decide +kernel
theorem dX9_dark_16 : decode cX9_dark 16 = .ok (.ireturn, 1) := by decide +kernel
