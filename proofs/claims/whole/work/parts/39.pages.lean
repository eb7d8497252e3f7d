theorem dPg_init_0 : decode cPg_init 0 = .ok (.aload_n 0, 1) := by decide +kernel
theorem dPg_init_1 : decode cPg_init 1 = .ok (.invokespecial 3, 3) := by decide +kernel
theorem dPg_init_4 : decode cPg_init 4 = .ok (.aload_n 0, 1) := by decide +kernel
theorem dPg_init_5 : decode cPg_init 5 = .ok (.iconst 1, 1) := by decide +kernel
theorem dPg_init_6 : decode cPg_init 6 = .ok (.ldc 9, 2) := by decide +kernel
theorem dPg_init_8 : decode cPg_init 8 = .ok (.iload_n 1, 1) := by decide +kernel
theorem dPg_init_9 : decode cPg_init 9 = .ok (.invokestatic 10, 3) := by decide +kernel
theorem dPg_init_12 : decode cPg_init 12 = .ok (.invokestatic 16, 3) := by decide +kernel
theorem dPg_init_15 : decode cPg_init 15 = .ok (.putfield 19, 3) := by decide +kernel
theorem dPg_init_18 : decode cPg_init 18 = .ok (.aload_n 0, 1) := by decide +kernel
theorem dPg_init_19 : decode cPg_init 19 = .ok (.iconst 1, 1) := by decide +kernel
theorem dPg_init_20 : decode cPg_init 20 = .ok (.ldc 9, 2) := by decide +kernel
theorem dPg_init_22 : decode cPg_init 22 = .ok (.iload_n 2, 1) := by decide +kernel
theorem dPg_init_23 : decode cPg_init 23 = .ok (.invokestatic 10, 3) := by decide +kernel
theorem dPg_init_26 : decode cPg_init 26 = .ok (.invokestatic 16, 3) := by decide +kernel
theorem dPg_init_29 : decode cPg_init 29 = .ok (.putfield 25, 3) := by decide +kernel
theorem dPg_init_32 : decode cPg_init 32 = .ok (.return_, 1) := by decide +kernel
theorem dPg_layOver_0 : decode cPg_layOver 0 = .ok (.aload_n 0, 1) := by decide +kernel
theorem dPg_layOver_1 : decode cPg_layOver 1 = .ok (.lconst 1, 1) := by decide +kernel
theorem dPg_layOver_2 : decode cPg_layOver 2 = .ok (.putfield 28, 3) := by decide +kernel
theorem dPg_layOver_5 : decode cPg_layOver 5 = .ok (.aload_n 0, 1) := by decide +kernel
theorem dPg_layOver_6 : decode cPg_layOver 6 = .ok (.lconst 1, 1) := by decide +kernel
theorem dPg_layOver_7 : decode cPg_layOver 7 = .ok (.putfield 32, 3) := by decide +kernel
theorem dPg_layOver_10 : decode cPg_layOver 10 = .ok (.aload_n 0, 1) := by decide +kernel
theorem dPg_layOver_11 : decode cPg_layOver 11 = .ok (.lconst 0, 1) := by decide +kernel
theorem dPg_layOver_12 : decode cPg_layOver 12 = .ok (.putfield 35, 3) := by decide +kernel
theorem dPg_layOver_15 : decode cPg_layOver 15 = .ok (.aload_n 0, 1) := by decide +kernel
theorem dPg_layOver_16 : decode cPg_layOver 16 = .ok (.lconst 0, 1) := by decide +kernel
theorem dPg_layOver_17 : decode cPg_layOver 17 = .ok (.putfield 38, 3) := by decide +kernel
theorem dPg_layOver_20 : decode cPg_layOver 20 = .ok (.aload_n 1, 1) := by decide +kernel
theorem dPg_layOver_21 : decode cPg_layOver 21 = .ok (.invokevirtual 41, 3) := by decide +kernel
theorem dPg_layOver_24 : decode cPg_layOver 24 = .ok (.ifCond .eq 63, 3) := by decide +kernel
theorem dPg_layOver_27 : decode cPg_layOver 27 = .ok (.aload_n 0, 1) := by decide +kernel
theorem dPg_layOver_28 : decode cPg_layOver 28 = .ok (.aload_n 1, 1) := by decide +kernel
theorem dPg_layOver_29 : decode cPg_layOver 29 = .ok (.invokevirtual 47, 3) := by decide +kernel
theorem dPg_layOver_32 : decode cPg_layOver 32 = .ok (.i2l, 1) := by decide +kernel
theorem dPg_layOver_33 : decode cPg_layOver 33 = .ok (.putfield 35, 3) := by decide +kernel
theorem dPg_layOver_36 : decode cPg_layOver 36 = .ok (.aload_n 0, 1) := by decide +kernel
theorem dPg_layOver_37 : decode cPg_layOver 37 = .ok (.aload_n 1, 1) := by decide +kernel
theorem dPg_layOver_38 : decode cPg_layOver 38 = .ok (.invokevirtual 51, 3) := by decide +kernel
theorem dPg_layOver_41 : decode cPg_layOver 41 = .ok (.i2l, 1) := by decide +kernel
theorem dPg_layOver_42 : decode cPg_layOver 42 = .ok (.putfield 38, 3) := by decide +kernel
theorem dPg_layOver_45 : decode cPg_layOver 45 = .ok (.aload_n 0, 1) := by decide +kernel
theorem dPg_layOver_46 : decode cPg_layOver 46 = .ok (.aload_n 1, 1) := by decide +kernel
theorem dPg_layOver_47 : decode cPg_layOver 47 = .ok (.invokevirtual 54, 3) := by decide +kernel
theorem dPg_layOver_50 : decode cPg_layOver 50 = .ok (.i2l, 1) := by decide +kernel
theorem dPg_layOver_51 : decode cPg_layOver 51 = .ok (.aload_n 0, 1) := by decide +kernel
theorem dPg_layOver_52 : decode cPg_layOver 52 = .ok (.getfield 35, 3) := by decide +kernel
theorem dPg_layOver_55 : decode cPg_layOver 55 = .ok (.lsub, 1) := by decide +kernel
theorem dPg_layOver_56 : decode cPg_layOver 56 = .ok (.aload_n 0, 1) := by decide +kernel
theorem dPg_layOver_57 : decode cPg_layOver 57 = .ok (.getfield 19, 3) := by decide +kernel
theorem dPg_layOver_60 : decode cPg_layOver 60 = .ok (.invokestatic 57, 3) := by decide +kernel
theorem dPg_layOver_63 : decode cPg_layOver 63 = .ok (.putfield 28, 3) := by decide +kernel
theorem dPg_layOver_66 : decode cPg_layOver 66 = .ok (.aload_n 0, 1) := by decide +kernel
theorem dPg_layOver_67 : decode cPg_layOver 67 = .ok (.aload_n 1, 1) := by decide +kernel
theorem dPg_layOver_68 : decode cPg_layOver 68 = .ok (.invokevirtual 61, 3) := by decide +kernel
theorem dPg_layOver_71 : decode cPg_layOver 71 = .ok (.i2l, 1) := by decide +kernel
theorem dPg_layOver_72 : decode cPg_layOver 72 = .ok (.aload_n 0, 1) := by decide +kernel
theorem dPg_layOver_73 : decode cPg_layOver 73 = .ok (.getfield 38, 3) := by decide +kernel
theorem dPg_layOver_76 : decode cPg_layOver 76 = .ok (.lsub, 1) := by decide +kernel
theorem dPg_layOver_77 : decode cPg_layOver 77 = .ok (.aload_n 0, 1) := by decide +kernel
theorem dPg_layOver_78 : decode cPg_layOver 78 = .ok (.getfield 25, 3) := by decide +kernel
theorem dPg_layOver_81 : decode cPg_layOver 81 = .ok (.invokestatic 57, 3) := by decide +kernel
theorem dPg_layOver_84 : decode cPg_layOver 84 = .ok (.putfield 32, 3) := by decide +kernel
theorem dPg_layOver_87 : decode cPg_layOver 87 = .ok (.return_, 1) := by decide +kernel
theorem dPg_pagesFor_0 : decode cPg_pagesFor 0 = .ok (.iload_n 2, 1) := by decide +kernel
theorem dPg_pagesFor_1 : decode cPg_pagesFor 1 = .ok (.iconst 1, 1) := by decide +kernel
theorem dPg_pagesFor_2 : decode cPg_pagesFor 2 = .ok (.if_icmp .ge 7, 3) := by decide +kernel
theorem dPg_pagesFor_5 : decode cPg_pagesFor 5 = .ok (.lconst 1, 1) := by decide +kernel
theorem dPg_pagesFor_6 : decode cPg_pagesFor 6 = .ok (.goto 16, 3) := by decide +kernel
theorem dPg_pagesFor_9 : decode cPg_pagesFor 9 = .ok (.lconst 1, 1) := by decide +kernel
theorem dPg_pagesFor_10 : decode cPg_pagesFor 10 = .ok (.lload_n 0, 1) := by decide +kernel
theorem dPg_pagesFor_11 : decode cPg_pagesFor 11 = .ok (.iload_n 2, 1) := by decide +kernel
theorem dPg_pagesFor_12 : decode cPg_pagesFor 12 = .ok (.i2l, 1) := by decide +kernel
theorem dPg_pagesFor_13 : decode cPg_pagesFor 13 = .ok (.ladd, 1) := by decide +kernel
theorem dPg_pagesFor_14 : decode cPg_pagesFor 14 = .ok (.lconst 1, 1) := by decide +kernel
theorem dPg_pagesFor_15 : decode cPg_pagesFor 15 = .ok (.lsub, 1) := by decide +kernel
theorem dPg_pagesFor_16 : decode cPg_pagesFor 16 = .ok (.iload_n 2, 1) := by decide +kernel
theorem dPg_pagesFor_17 : decode cPg_pagesFor 17 = .ok (.i2l, 1) := by decide +kernel
theorem dPg_pagesFor_18 : decode cPg_pagesFor 18 = .ok (.ldiv, 1) := by decide +kernel
theorem dPg_pagesFor_19 : decode cPg_pagesFor 19 = .ok (.invokestatic 64, 3) := by decide +kernel
theorem dPg_pagesFor_22 : decode cPg_pagesFor 22 = .ok (.lreturn, 1) := by decide +kernel
theorem dPg_count_0 : decode cPg_count 0 = .ok (.aload_n 0, 1) := by decide +kernel
theorem dPg_count_1 : decode cPg_count 1 = .ok (.getfield 28, 3) := by decide +kernel
theorem dPg_count_4 : decode cPg_count 4 = .ok (.aload_n 0, 1) := by decide +kernel
theorem dPg_count_5 : decode cPg_count 5 = .ok (.getfield 32, 3) := by decide +kernel
theorem dPg_count_8 : decode cPg_count 8 = .ok (.lmul, 1) := by decide +kernel
theorem dPg_count_9 : decode cPg_count 9 = .ok (.lreturn, 1) := by decide +kernel
theorem dPg_turnTo_0 : decode cPg_turnTo 0 = .ok (.aload_n 0, 1) := by decide +kernel
theorem dPg_turnTo_1 : decode cPg_turnTo 1 = .ok (.getfield 28, 3) := by decide +kernel
theorem dPg_turnTo_4 : decode cPg_turnTo 4 = .ok (.lconst 1, 1) := by decide +kernel
theorem dPg_turnTo_5 : decode cPg_turnTo 5 = .ok (.lcmp, 1) := by decide +kernel
theorem dPg_turnTo_6 : decode cPg_turnTo 6 = .ok (.ifCond .ge 7, 3) := by decide +kernel
theorem dPg_turnTo_9 : decode cPg_turnTo 9 = .ok (.lconst 0, 1) := by decide +kernel
theorem dPg_turnTo_10 : decode cPg_turnTo 10 = .ok (.goto 10, 3) := by decide +kernel
theorem dPg_turnTo_13 : decode cPg_turnTo 13 = .ok (.iload_n 1, 1) := by decide +kernel
theorem dPg_turnTo_14 : decode cPg_turnTo 14 = .ok (.i2l, 1) := by decide +kernel
theorem dPg_turnTo_15 : decode cPg_turnTo 15 = .ok (.aload_n 0, 1) := by decide +kernel
theorem dPg_turnTo_16 : decode cPg_turnTo 16 = .ok (.getfield 28, 3) := by decide +kernel
theorem dPg_turnTo_19 : decode cPg_turnTo 19 = .ok (.ldiv, 1) := by decide +kernel
theorem dPg_turnTo_20 : decode cPg_turnTo 20 = .ok (.lstore_n 2, 1) := by decide +kernel
theorem dPg_turnTo_21 : decode cPg_turnTo 21 = .ok (.iload_n 1, 1) := by decide +kernel
theorem dPg_turnTo_22 : decode cPg_turnTo 22 = .ok (.i2l, 1) := by decide +kernel
theorem dPg_turnTo_23 : decode cPg_turnTo 23 = .ok (.lload_n 2, 1) := by decide +kernel
theorem dPg_turnTo_24 : decode cPg_turnTo 24 = .ok (.aload_n 0, 1) := by decide +kernel
theorem dPg_turnTo_25 : decode cPg_turnTo 25 = .ok (.getfield 28, 3) := by decide +kernel
theorem dPg_turnTo_28 : decode cPg_turnTo 28 = .ok (.lmul, 1) := by decide +kernel
theorem dPg_turnTo_29 : decode cPg_turnTo 29 = .ok (.lsub, 1) := by decide +kernel
theorem dPg_turnTo_30 : decode cPg_turnTo 30 = .ok (.lstore 4, 2) := by decide +kernel
theorem dPg_turnTo_32 : decode cPg_turnTo 32 = .ok (.aload_n 0, 1) := by decide +kernel
theorem dPg_turnTo_33 : decode cPg_turnTo 33 = .ok (.aload_n 0, 1) := by decide +kernel
theorem dPg_turnTo_34 : decode cPg_turnTo 34 = .ok (.getfield 35, 3) := by decide +kernel
theorem dPg_turnTo_37 : decode cPg_turnTo 37 = .ok (.lload 4, 2) := by decide +kernel
theorem dPg_turnTo_39 : decode cPg_turnTo 39 = .ok (.aload_n 0, 1) := by decide +kernel
theorem dPg_turnTo_40 : decode cPg_turnTo 40 = .ok (.getfield 19, 3) := by decide +kernel
theorem dPg_turnTo_43 : decode cPg_turnTo 43 = .ok (.i2l, 1) := by decide +kernel
theorem dPg_turnTo_44 : decode cPg_turnTo 44 = .ok (.lmul, 1) := by decide +kernel
theorem dPg_turnTo_45 : decode cPg_turnTo 45 = .ok (.ladd, 1) := by decide +kernel
theorem dPg_turnTo_46 : decode cPg_turnTo 46 = .ok (.putfield 67, 3) := by decide +kernel
theorem dPg_turnTo_49 : decode cPg_turnTo 49 = .ok (.aload_n 0, 1) := by decide +kernel
theorem dPg_turnTo_50 : decode cPg_turnTo 50 = .ok (.aload_n 0, 1) := by decide +kernel
theorem dPg_turnTo_51 : decode cPg_turnTo 51 = .ok (.getfield 67, 3) := by decide +kernel
theorem dPg_turnTo_54 : decode cPg_turnTo 54 = .ok (.aload_n 0, 1) := by decide +kernel
theorem dPg_turnTo_55 : decode cPg_turnTo 55 = .ok (.getfield 19, 3) := by decide +kernel
theorem dPg_turnTo_58 : decode cPg_turnTo 58 = .ok (.i2l, 1) := by decide +kernel
theorem dPg_turnTo_59 : decode cPg_turnTo 59 = .ok (.ladd, 1) := by decide +kernel
theorem dPg_turnTo_60 : decode cPg_turnTo 60 = .ok (.putfield 70, 3) := by decide +kernel
theorem dPg_turnTo_63 : decode cPg_turnTo 63 = .ok (.aload_n 0, 1) := by decide +kernel
theorem dPg_turnTo_64 : decode cPg_turnTo 64 = .ok (.aload_n 0, 1) := by decide +kernel
theorem dPg_turnTo_65 : decode cPg_turnTo 65 = .ok (.getfield 38, 3) := by decide +kernel
theorem dPg_turnTo_68 : decode cPg_turnTo 68 = .ok (.lload_n 2, 1) := by decide +kernel
theorem dPg_turnTo_69 : decode cPg_turnTo 69 = .ok (.aload_n 0, 1) := by decide +kernel
theorem dPg_turnTo_70 : decode cPg_turnTo 70 = .ok (.getfield 25, 3) := by decide +kernel
theorem dPg_turnTo_73 : decode cPg_turnTo 73 = .ok (.i2l, 1) := by decide +kernel
theorem dPg_turnTo_74 : decode cPg_turnTo 74 = .ok (.lmul, 1) := by decide +kernel
theorem dPg_turnTo_75 : decode cPg_turnTo 75 = .ok (.ladd, 1) := by decide +kernel
theorem dPg_turnTo_76 : decode cPg_turnTo 76 = .ok (.putfield 73, 3) := by decide +kernel
theorem dPg_turnTo_79 : decode cPg_turnTo 79 = .ok (.aload_n 0, 1) := by decide +kernel
theorem dPg_turnTo_80 : decode cPg_turnTo 80 = .ok (.aload_n 0, 1) := by decide +kernel
theorem dPg_turnTo_81 : decode cPg_turnTo 81 = .ok (.getfield 73, 3) := by decide +kernel
theorem dPg_turnTo_84 : decode cPg_turnTo 84 = .ok (.aload_n 0, 1) := by decide +kernel
theorem dPg_turnTo_85 : decode cPg_turnTo 85 = .ok (.getfield 25, 3) := by decide +kernel
theorem dPg_turnTo_88 : decode cPg_turnTo 88 = .ok (.i2l, 1) := by decide +kernel
theorem dPg_turnTo_89 : decode cPg_turnTo 89 = .ok (.ladd, 1) := by decide +kernel
theorem dPg_turnTo_90 : decode cPg_turnTo 90 = .ok (.putfield 76, 3) := by decide +kernel
theorem dPg_turnTo_93 : decode cPg_turnTo 93 = .ok (.aload_n 0, 1) := by decide +kernel
theorem dPg_turnTo_94 : decode cPg_turnTo 94 = .ok (.lload_n 2, 1) := by decide +kernel
theorem dPg_turnTo_95 : decode cPg_turnTo 95 = .ok (.lconst 1, 1) := by decide +kernel
theorem dPg_turnTo_96 : decode cPg_turnTo 96 = .ok (.ladd, 1) := by decide +kernel
theorem dPg_turnTo_97 : decode cPg_turnTo 97 = .ok (.aload_n 0, 1) := by decide +kernel
theorem dPg_turnTo_98 : decode cPg_turnTo 98 = .ok (.getfield 32, 3) := by decide +kernel
theorem dPg_turnTo_101 : decode cPg_turnTo 101 = .ok (.lcmp, 1) := by decide +kernel
theorem dPg_turnTo_102 : decode cPg_turnTo 102 = .ok (.ifCond .ne 7, 3) := by decide +kernel
theorem dPg_turnTo_105 : decode cPg_turnTo 105 = .ok (.iconst 1, 1) := by decide +kernel
theorem dPg_turnTo_106 : decode cPg_turnTo 106 = .ok (.goto 4, 3) := by decide +kernel
theorem dPg_turnTo_109 : decode cPg_turnTo 109 = .ok (.iconst 0, 1) := by decide +kernel
theorem dPg_turnTo_110 : decode cPg_turnTo 110 = .ok (.putfield 79, 3) := by decide +kernel
theorem dPg_turnTo_113 : decode cPg_turnTo 113 = .ok (.return_, 1) := by decide +kernel
theorem dPg_strokesOn_0 : decode cPg_strokesOn 0 = .ok (.iconst 0, 1) := by decide +kernel
theorem dPg_strokesOn_1 : decode cPg_strokesOn 1 = .ok (.istore_n 2, 1) := by decide +kernel
theorem dPg_strokesOn_2 : decode cPg_strokesOn 2 = .ok (.iconst 0, 1) := by decide +kernel
theorem dPg_strokesOn_3 : decode cPg_strokesOn 3 = .ok (.istore_n 3, 1) := by decide +kernel
theorem dPg_strokesOn_4 : decode cPg_strokesOn 4 = .ok (.iload_n 3, 1) := by decide +kernel
theorem dPg_strokesOn_5 : decode cPg_strokesOn 5 = .ok (.aload_n 1, 1) := by decide +kernel
theorem dPg_strokesOn_6 : decode cPg_strokesOn 6 = .ok (.getfield 83, 3) := by decide +kernel
theorem dPg_strokesOn_9 : decode cPg_strokesOn 9 = .ok (.if_icmp .ge 104, 3) := by decide +kernel
theorem dPg_strokesOn_12 : decode cPg_strokesOn 12 = .ok (.aload_n 1, 1) := by decide +kernel
theorem dPg_strokesOn_13 : decode cPg_strokesOn 13 = .ok (.iload_n 3, 1) := by decide +kernel
theorem dPg_strokesOn_14 : decode cPg_strokesOn 14 = .ok (.invokevirtual 86, 3) := by decide +kernel
theorem dPg_strokesOn_17 : decode cPg_strokesOn 17 = .ok (.ifCond .ne 43, 3) := by decide +kernel
theorem dPg_strokesOn_20 : decode cPg_strokesOn 20 = .ok (.aload_n 1, 1) := by decide +kernel
theorem dPg_strokesOn_21 : decode cPg_strokesOn 21 = .ok (.iload_n 3, 1) := by decide +kernel
theorem dPg_strokesOn_22 : decode cPg_strokesOn 22 = .ok (.aload_n 0, 1) := by decide +kernel
theorem dPg_strokesOn_23 : decode cPg_strokesOn 23 = .ok (.getfield 73, 3) := by decide +kernel
theorem dPg_strokesOn_26 : decode cPg_strokesOn 26 = .ok (.aload_n 0, 1) := by decide +kernel
theorem dPg_strokesOn_27 : decode cPg_strokesOn 27 = .ok (.getfield 76, 3) := by decide +kernel
theorem dPg_strokesOn_30 : decode cPg_strokesOn 30 = .ok (.invokestatic 90, 3) := by decide +kernel
theorem dPg_strokesOn_33 : decode cPg_strokesOn 33 = .ok (.ifCond .eq 23, 3) := by decide +kernel
theorem dPg_strokesOn_36 : decode cPg_strokesOn 36 = .ok (.aload_n 1, 1) := by decide +kernel
theorem dPg_strokesOn_37 : decode cPg_strokesOn 37 = .ok (.iload_n 3, 1) := by decide +kernel
theorem dPg_strokesOn_38 : decode cPg_strokesOn 38 = .ok (.aload_n 0, 1) := by decide +kernel
theorem dPg_strokesOn_39 : decode cPg_strokesOn 39 = .ok (.getfield 67, 3) := by decide +kernel
theorem dPg_strokesOn_42 : decode cPg_strokesOn 42 = .ok (.aload_n 0, 1) := by decide +kernel
theorem dPg_strokesOn_43 : decode cPg_strokesOn 43 = .ok (.getfield 70, 3) := by decide +kernel
theorem dPg_strokesOn_46 : decode cPg_strokesOn 46 = .ok (.invokestatic 94, 3) := by decide +kernel
theorem dPg_strokesOn_49 : decode cPg_strokesOn 49 = .ok (.ifCond .eq 7, 3) := by decide +kernel
theorem dPg_strokesOn_52 : decode cPg_strokesOn 52 = .ok (.iconst 1, 1) := by decide +kernel
theorem dPg_strokesOn_53 : decode cPg_strokesOn 53 = .ok (.goto 44, 3) := by decide +kernel
theorem dPg_strokesOn_56 : decode cPg_strokesOn 56 = .ok (.iconst 0, 1) := by decide +kernel
theorem dPg_strokesOn_57 : decode cPg_strokesOn 57 = .ok (.goto 40, 3) := by decide +kernel
theorem dPg_strokesOn_60 : decode cPg_strokesOn 60 = .ok (.aload_n 1, 1) := by decide +kernel
theorem dPg_strokesOn_61 : decode cPg_strokesOn 61 = .ok (.iload_n 3, 1) := by decide +kernel
theorem dPg_strokesOn_62 : decode cPg_strokesOn 62 = .ok (.aload_n 0, 1) := by decide +kernel
theorem dPg_strokesOn_63 : decode cPg_strokesOn 63 = .ok (.getfield 67, 3) := by decide +kernel
theorem dPg_strokesOn_66 : decode cPg_strokesOn 66 = .ok (.aload_n 0, 1) := by decide +kernel
theorem dPg_strokesOn_67 : decode cPg_strokesOn 67 = .ok (.getfield 70, 3) := by decide +kernel
theorem dPg_strokesOn_70 : decode cPg_strokesOn 70 = .ok (.invokestatic 90, 3) := by decide +kernel
theorem dPg_strokesOn_73 : decode cPg_strokesOn 73 = .ok (.ifCond .eq 23, 3) := by decide +kernel
theorem dPg_strokesOn_76 : decode cPg_strokesOn 76 = .ok (.aload_n 1, 1) := by decide +kernel
theorem dPg_strokesOn_77 : decode cPg_strokesOn 77 = .ok (.iload_n 3, 1) := by decide +kernel
theorem dPg_strokesOn_78 : decode cPg_strokesOn 78 = .ok (.aload_n 0, 1) := by decide +kernel
theorem dPg_strokesOn_79 : decode cPg_strokesOn 79 = .ok (.getfield 73, 3) := by decide +kernel
theorem dPg_strokesOn_82 : decode cPg_strokesOn 82 = .ok (.aload_n 0, 1) := by decide +kernel
theorem dPg_strokesOn_83 : decode cPg_strokesOn 83 = .ok (.getfield 76, 3) := by decide +kernel
theorem dPg_strokesOn_86 : decode cPg_strokesOn 86 = .ok (.invokestatic 94, 3) := by decide +kernel
theorem dPg_strokesOn_89 : decode cPg_strokesOn 89 = .ok (.ifCond .eq 7, 3) := by decide +kernel
theorem dPg_strokesOn_92 : decode cPg_strokesOn 92 = .ok (.iconst 1, 1) := by decide +kernel
theorem dPg_strokesOn_93 : decode cPg_strokesOn 93 = .ok (.goto 4, 3) := by decide +kernel
theorem dPg_strokesOn_96 : decode cPg_strokesOn 96 = .ok (.iconst 0, 1) := by decide +kernel
theorem dPg_strokesOn_97 : decode cPg_strokesOn 97 = .ok (.istore 4, 2) := by decide +kernel
theorem dPg_strokesOn_99 : decode cPg_strokesOn 99 = .ok (.iload 4, 2) := by decide +kernel
theorem dPg_strokesOn_101 : decode cPg_strokesOn 101 = .ok (.ifCond .eq 6, 3) := by decide +kernel
theorem dPg_strokesOn_104 : decode cPg_strokesOn 104 = .ok (.iinc 2 1, 3) := by decide +kernel
theorem dPg_strokesOn_107 : decode cPg_strokesOn 107 = .ok (.iinc 3 1, 3) := by decide +kernel
theorem dPg_strokesOn_110 : decode cPg_strokesOn 110 = .ok (.goto (-106), 3) := by decide +kernel
theorem dPg_strokesOn_113 : decode cPg_strokesOn 113 = .ok (.iload_n 2, 1) := by decide +kernel
theorem dPg_strokesOn_114 : decode cPg_strokesOn 114 = .ok (.ireturn, 1) := by decide +kernel
theorem dPg_touches_0 : decode cPg_touches 0 = .ok (.lload_n 2, 1) := by decide +kernel
theorem dPg_touches_1 : decode cPg_touches 1 = .ok (.aload_n 0, 1) := by decide +kernel
theorem dPg_touches_2 : decode cPg_touches 2 = .ok (.getfield 97, 3) := by decide +kernel
theorem dPg_touches_5 : decode cPg_touches 5 = .ok (.iload_n 1, 1) := by decide +kernel
theorem dPg_touches_6 : decode cPg_touches 6 = .ok (.iaload, 1) := by decide +kernel
theorem dPg_touches_7 : decode cPg_touches 7 = .ok (.i2l, 1) := by decide +kernel
theorem dPg_touches_8 : decode cPg_touches 8 = .ok (.lcmp, 1) := by decide +kernel
theorem dPg_touches_9 : decode cPg_touches 9 = .ok (.ifCond .gt 20, 3) := by decide +kernel
theorem dPg_touches_12 : decode cPg_touches 12 = .ok (.aload_n 0, 1) := by decide +kernel
theorem dPg_touches_13 : decode cPg_touches 13 = .ok (.getfield 97, 3) := by decide +kernel
theorem dPg_touches_16 : decode cPg_touches 16 = .ok (.iload_n 1, 1) := by decide +kernel
theorem dPg_touches_17 : decode cPg_touches 17 = .ok (.iaload, 1) := by decide +kernel
theorem dPg_touches_18 : decode cPg_touches 18 = .ok (.i2l, 1) := by decide +kernel
theorem dPg_touches_19 : decode cPg_touches 19 = .ok (.lload 4, 2) := by decide +kernel
theorem dPg_touches_21 : decode cPg_touches 21 = .ok (.lcmp, 1) := by decide +kernel
theorem dPg_touches_22 : decode cPg_touches 22 = .ok (.ifCond .gt 7, 3) := by decide +kernel
theorem dPg_touches_25 : decode cPg_touches 25 = .ok (.iconst 1, 1) := by decide +kernel
theorem dPg_touches_26 : decode cPg_touches 26 = .ok (.goto 4, 3) := by decide +kernel
theorem dPg_touches_29 : decode cPg_touches 29 = .ok (.iconst 0, 1) := by decide +kernel
theorem dPg_touches_30 : decode cPg_touches 30 = .ok (.ireturn, 1) := by decide +kernel
theorem dPg_runsWithin_0 : decode cPg_runsWithin 0 = .ok (.aload_n 0, 1) := by decide +kernel
theorem dPg_runsWithin_1 : decode cPg_runsWithin 1 = .ok (.getfield 101, 3) := by decide +kernel
theorem dPg_runsWithin_4 : decode cPg_runsWithin 4 = .ok (.iload_n 1, 1) := by decide +kernel
theorem dPg_runsWithin_5 : decode cPg_runsWithin 5 = .ok (.iaload, 1) := by decide +kernel
theorem dPg_runsWithin_6 : decode cPg_runsWithin 6 = .ok (.i2l, 1) := by decide +kernel
theorem dPg_runsWithin_7 : decode cPg_runsWithin 7 = .ok (.lload 4, 2) := by decide +kernel
theorem dPg_runsWithin_9 : decode cPg_runsWithin 9 = .ok (.lcmp, 1) := by decide +kernel
theorem dPg_runsWithin_10 : decode cPg_runsWithin 10 = .ok (.ifCond .ge 19, 3) := by decide +kernel
theorem dPg_runsWithin_13 : decode cPg_runsWithin 13 = .ok (.lload_n 2, 1) := by decide +kernel
theorem dPg_runsWithin_14 : decode cPg_runsWithin 14 = .ok (.aload_n 0, 1) := by decide +kernel
theorem dPg_runsWithin_15 : decode cPg_runsWithin 15 = .ok (.getfield 104, 3) := by decide +kernel
theorem dPg_runsWithin_18 : decode cPg_runsWithin 18 = .ok (.iload_n 1, 1) := by decide +kernel
theorem dPg_runsWithin_19 : decode cPg_runsWithin 19 = .ok (.iaload, 1) := by decide +kernel
theorem dPg_runsWithin_20 : decode cPg_runsWithin 20 = .ok (.i2l, 1) := by decide +kernel
theorem dPg_runsWithin_21 : decode cPg_runsWithin 21 = .ok (.lcmp, 1) := by decide +kernel
theorem dPg_runsWithin_22 : decode cPg_runsWithin 22 = .ok (.ifCond .ge 7, 3) := by decide +kernel
theorem dPg_runsWithin_25 : decode cPg_runsWithin 25 = .ok (.iconst 1, 1) := by decide +kernel
theorem dPg_runsWithin_26 : decode cPg_runsWithin 26 = .ok (.goto 4, 3) := by decide +kernel
theorem dPg_runsWithin_29 : decode cPg_runsWithin 29 = .ok (.iconst 0, 1) := by decide +kernel
theorem dPg_runsWithin_30 : decode cPg_runsWithin 30 = .ok (.ireturn, 1) := by decide +kernel
theorem dPg_marks_0 : decode cPg_marks 0 = .ok (.iconst 0, 1) := by decide +kernel
theorem dPg_marks_1 : decode cPg_marks 1 = .ok (.istore_n 2, 1) := by decide +kernel
theorem dPg_marks_2 : decode cPg_marks 2 = .ok (.iconst 0, 1) := by decide +kernel
theorem dPg_marks_3 : decode cPg_marks 3 = .ok (.istore_n 3, 1) := by decide +kernel
theorem dPg_marks_4 : decode cPg_marks 4 = .ok (.iload_n 3, 1) := by decide +kernel
theorem dPg_marks_5 : decode cPg_marks 5 = .ok (.aload_n 1, 1) := by decide +kernel
theorem dPg_marks_6 : decode cPg_marks 6 = .ok (.getfield 107, 3) := by decide +kernel
theorem dPg_marks_9 : decode cPg_marks 9 = .ok (.if_icmp .ge 56, 3) := by decide +kernel
theorem dPg_marks_12 : decode cPg_marks 12 = .ok (.aload_n 1, 1) := by decide +kernel
theorem dPg_marks_13 : decode cPg_marks 13 = .ok (.getfield 101, 3) := by decide +kernel
theorem dPg_marks_16 : decode cPg_marks 16 = .ok (.iload_n 3, 1) := by decide +kernel
theorem dPg_marks_17 : decode cPg_marks 17 = .ok (.iaload, 1) := by decide +kernel
theorem dPg_marks_18 : decode cPg_marks 18 = .ok (.i2l, 1) := by decide +kernel
theorem dPg_marks_19 : decode cPg_marks 19 = .ok (.aload_n 0, 1) := by decide +kernel
theorem dPg_marks_20 : decode cPg_marks 20 = .ok (.getfield 70, 3) := by decide +kernel
theorem dPg_marks_23 : decode cPg_marks 23 = .ok (.lcmp, 1) := by decide +kernel
theorem dPg_marks_24 : decode cPg_marks 24 = .ok (.ifCond .ge 35, 3) := by decide +kernel
theorem dPg_marks_27 : decode cPg_marks 27 = .ok (.aload_n 0, 1) := by decide +kernel
theorem dPg_marks_28 : decode cPg_marks 28 = .ok (.getfield 70, 3) := by decide +kernel
theorem dPg_marks_31 : decode cPg_marks 31 = .ok (.aload_n 1, 1) := by decide +kernel
theorem dPg_marks_32 : decode cPg_marks 32 = .ok (.getfield 104, 3) := by decide +kernel
theorem dPg_marks_35 : decode cPg_marks 35 = .ok (.iload_n 3, 1) := by decide +kernel
theorem dPg_marks_36 : decode cPg_marks 36 = .ok (.iaload, 1) := by decide +kernel
theorem dPg_marks_37 : decode cPg_marks 37 = .ok (.i2l, 1) := by decide +kernel
theorem dPg_marks_38 : decode cPg_marks 38 = .ok (.lcmp, 1) := by decide +kernel
theorem dPg_marks_39 : decode cPg_marks 39 = .ok (.ifCond .ge 20, 3) := by decide +kernel
theorem dPg_marks_42 : decode cPg_marks 42 = .ok (.aload_n 0, 1) := by decide +kernel
theorem dPg_marks_43 : decode cPg_marks 43 = .ok (.aload_n 1, 1) := by decide +kernel
theorem dPg_marks_44 : decode cPg_marks 44 = .ok (.getfield 97, 3) := by decide +kernel
theorem dPg_marks_47 : decode cPg_marks 47 = .ok (.iload_n 3, 1) := by decide +kernel
theorem dPg_marks_48 : decode cPg_marks 48 = .ok (.iaload, 1) := by decide +kernel
theorem dPg_marks_49 : decode cPg_marks 49 = .ok (.i2l, 1) := by decide +kernel
theorem dPg_marks_50 : decode cPg_marks 50 = .ok (.invokevirtual 110, 3) := by decide +kernel
theorem dPg_marks_53 : decode cPg_marks 53 = .ok (.ifCond .eq 6, 3) := by decide +kernel
theorem dPg_marks_56 : decode cPg_marks 56 = .ok (.iinc 2 1, 3) := by decide +kernel
theorem dPg_marks_59 : decode cPg_marks 59 = .ok (.iinc 3 1, 3) := by decide +kernel
theorem dPg_marks_62 : decode cPg_marks 62 = .ok (.goto (-58), 3) := by decide +kernel
theorem dPg_marks_65 : decode cPg_marks 65 = .ok (.iload_n 2, 1) := by decide +kernel
theorem dPg_marks_66 : decode cPg_marks 66 = .ok (.ireturn, 1) := by decide +kernel
theorem dPg_isMarkedAt_0 : decode cPg_isMarkedAt 0 = .ok (.aload_n 0, 1) := by decide +kernel
theorem dPg_isMarkedAt_1 : decode cPg_isMarkedAt 1 = .ok (.getfield 73, 3) := by decide +kernel
theorem dPg_isMarkedAt_4 : decode cPg_isMarkedAt 4 = .ok (.lload_n 1, 1) := by decide +kernel
theorem dPg_isMarkedAt_5 : decode cPg_isMarkedAt 5 = .ok (.lcmp, 1) := by decide +kernel
theorem dPg_isMarkedAt_6 : decode cPg_isMarkedAt 6 = .ok (.ifCond .gt 32, 3) := by decide +kernel
theorem dPg_isMarkedAt_9 : decode cPg_isMarkedAt 9 = .ok (.lload_n 1, 1) := by decide +kernel
theorem dPg_isMarkedAt_10 : decode cPg_isMarkedAt 10 = .ok (.aload_n 0, 1) := by decide +kernel
theorem dPg_isMarkedAt_11 : decode cPg_isMarkedAt 11 = .ok (.getfield 76, 3) := by decide +kernel
theorem dPg_isMarkedAt_14 : decode cPg_isMarkedAt 14 = .ok (.lcmp, 1) := by decide +kernel
theorem dPg_isMarkedAt_15 : decode cPg_isMarkedAt 15 = .ok (.ifCond .lt 19, 3) := by decide +kernel
theorem dPg_isMarkedAt_18 : decode cPg_isMarkedAt 18 = .ok (.aload_n 0, 1) := by decide +kernel
theorem dPg_isMarkedAt_19 : decode cPg_isMarkedAt 19 = .ok (.getfield 79, 3) := by decide +kernel
theorem dPg_isMarkedAt_22 : decode cPg_isMarkedAt 22 = .ok (.ifCond .eq 16, 3) := by decide +kernel
theorem dPg_isMarkedAt_25 : decode cPg_isMarkedAt 25 = .ok (.lload_n 1, 1) := by decide +kernel
theorem dPg_isMarkedAt_26 : decode cPg_isMarkedAt 26 = .ok (.aload_n 0, 1) := by decide +kernel
theorem dPg_isMarkedAt_27 : decode cPg_isMarkedAt 27 = .ok (.getfield 76, 3) := by decide +kernel
theorem dPg_isMarkedAt_30 : decode cPg_isMarkedAt 30 = .ok (.lcmp, 1) := by decide +kernel
theorem dPg_isMarkedAt_31 : decode cPg_isMarkedAt 31 = .ok (.ifCond .ne 7, 3) := by decide +kernel
theorem dPg_isMarkedAt_34 : decode cPg_isMarkedAt 34 = .ok (.iconst 1, 1) := by decide +kernel
theorem dPg_isMarkedAt_35 : decode cPg_isMarkedAt 35 = .ok (.goto 4, 3) := by decide +kernel
theorem dPg_isMarkedAt_38 : decode cPg_isMarkedAt 38 = .ok (.iconst 0, 1) := by decide +kernel
theorem dPg_isMarkedAt_39 : decode cPg_isMarkedAt 39 = .ok (.ireturn, 1) := by decide +kernel
set_option maxRecDepth 100000 in
theorem kmPg_64 : inT (kMaxL "PartDrawings$Pages" 64) := gW_l [807, 808, 55, 809] rfl (by decide +kernel)
set_option maxRecDepth 100000 in
theorem flPg_28 : Cond.fieldLink "PartDrawings$Pages" 28 (TPg 2).1 (TPg 2).2.1 (TPg 2).2.2.1 ∈ gW := gW_1 278 rfl rfl
set_option maxRecDepth 100000 in
theorem inPg : ∀ w ∈ u_ws RPg TPg 11, w ∈ gW := gW_l [287, 289, 291, 293, 295, 297, 299, 301, 303, 305, 307] rfl (by decide +kernel)
set_option maxRecDepth 100000 in
theorem flPg_32 : Cond.fieldLink "PartDrawings$Pages" 32 (TPg 3).1 (TPg 3).2.1 (TPg 3).2.2.1 ∈ gW := gW_1 279 rfl rfl
set_option maxRecDepth 100000 in
theorem flPg_97 : Cond.fieldLink "PartDrawings$Pages" 97 (TSk 3).1 (TSk 3).2.1 (TSk 3).2.2.1 ∈ gW := gW_1 195 rfl rfl
set_option maxRecDepth 100000 in
theorem flPg_101 : Cond.fieldLink "PartDrawings$Pages" 101 (TSk 4).1 (TSk 4).2.1 (TSk 4).2.2.1 ∈ gW := gW_1 197 rfl rfl
set_option maxRecDepth 100000 in
theorem flPg_104 : Cond.fieldLink "PartDrawings$Pages" 104 (TSk 5).1 (TSk 5).2.1 (TSk 5).2.2.1 ∈ gW := gW_1 199 rfl rfl
set_option maxRecDepth 100000 in
theorem flPg_73 : Cond.fieldLink "PartDrawings$Pages" 73 (TPg 8).1 (TPg 8).2.1 (TPg 8).2.2.1 ∈ gW := gW_1 284 rfl rfl
set_option maxRecDepth 100000 in
theorem flPg_76 : Cond.fieldLink "PartDrawings$Pages" 76 (TPg 9).1 (TPg 9).2.1 (TPg 9).2.2.1 ∈ gW := gW_1 285 rfl rfl
set_option maxRecDepth 100000 in
theorem flPg_79 : Cond.fieldLink "PartDrawings$Pages" 79 (TPg 10).1 (TPg 10).2.1 (TPg 10).2.2.1 ∈ gW := gW_1 286 rfl rfl
set_option maxRecDepth 100000 in
theorem flPg_83 : Cond.fieldLink "PartDrawings$Pages" 83 (TSk 1).1 (TSk 1).2.1 (TSk 1).2.2.1 ∈ gW := gW_1 191 rfl rfl
set_option maxRecDepth 100000 in
theorem kPg_86 : inT (kV "PartDrawings$Pages" 86 ySk_wayOf cSk_wayOf 2 (some .int)) := gW_l [832, 635, 636, 51, 637] rfl (by decide +kernel)
set_option maxRecDepth 100000 in
theorem flPg_67 : Cond.fieldLink "PartDrawings$Pages" 67 (TPg 6).1 (TPg 6).2.1 (TPg 6).2.2.1 ∈ gW := gW_1 282 rfl rfl
set_option maxRecDepth 100000 in
theorem flPg_70 : Cond.fieldLink "PartDrawings$Pages" 70 (TPg 7).1 (TPg 7).2.1 (TPg 7).2.2.1 ∈ gW := gW_1 283 rfl rfl
set_option maxRecDepth 100000 in
theorem kPg_90 : inT (kS "PartDrawings$Pages" 90 yPg_touches cPg_touches 6 (some .boolean)) := gW_l [833, 834, 54, 835] rfl (by decide +kernel)
set_option maxRecDepth 100000 in
theorem kPg_94 : inT (kS "PartDrawings$Pages" 94 yPg_runsWithin cPg_runsWithin 6 (some .boolean)) := gW_l [836, 837, 54, 838] rfl (by decide +kernel)
set_option maxRecDepth 100000 in
theorem flPg_107 : Cond.fieldLink "PartDrawings$Pages" 107 (TSk 2).1 (TSk 2).2.1 (TSk 2).2.2.1 ∈ gW := gW_1 193 rfl rfl
set_option maxRecDepth 100000 in
theorem kPg_110 : inT (kV "PartDrawings$Pages" 110 yPg_isMarkedAt cPg_isMarkedAt 3 (some .boolean)) := gW_l [843, 845, 17, 54, 846] rfl (by decide +kernel)
set_option maxRecDepth 100000 in
theorem flPg_35 : Cond.fieldLink "PartDrawings$Pages" 35 (TPg 4).1 (TPg 4).2.1 (TPg 4).2.2.1 ∈ gW := gW_1 280 rfl rfl
set_option maxRecDepth 100000 in
theorem flPg_38 : Cond.fieldLink "PartDrawings$Pages" 38 (TPg 5).1 (TPg 5).2.1 (TPg 5).2.2.1 ∈ gW := gW_1 281 rfl rfl
set_option maxRecDepth 100000 in
theorem kPg_41 : inT (kV "PartDrawings$Pages" 41 ySk_goesBothWays cSk_goesBothWays 1 (some .boolean)) := gW_l [788, 789, 790, 51, 791] rfl (by decide +kernel)
set_option maxRecDepth 100000 in
theorem kPg_47 : inT (kV "PartDrawings$Pages" 47 ySk_leastAcross cSk_leastAcross 1 (some .int)) := gW_l [792, 793, 794, 51, 795] rfl (by decide +kernel)
set_option maxRecDepth 100000 in
theorem kPg_51 : inT (kV "PartDrawings$Pages" 51 ySk_leastUp cSk_leastUp 1 (some .int)) := gW_l [796, 797, 798, 51, 799] rfl (by decide +kernel)
set_option maxRecDepth 100000 in
theorem kPg_54 : inT (kV "PartDrawings$Pages" 54 ySk_greatestAcross cSk_greatestAcross 1 (some .int)) := gW_l [800, 801, 802, 51, 803] rfl (by decide +kernel)
set_option maxRecDepth 100000 in
theorem flPg_19 : Cond.fieldLink "PartDrawings$Pages" 19 (TPg 0).1 (TPg 0).2.1 (TPg 0).2.2.1 ∈ gW := gW_1 276 rfl rfl
set_option maxRecDepth 100000 in
theorem kPg_57 : inT (kS "PartDrawings$Pages" 57 yPg_pagesFor cPg_pagesFor 3 (some .long)) := gW_l [804, 805, 54, 806] rfl (by decide +kernel)
set_option maxRecDepth 100000 in
theorem kPg_61 : inT (kV "PartDrawings$Pages" 61 ySk_greatestUp cSk_greatestUp 1 (some .int)) := gW_l [810, 811, 812, 51, 813] rfl (by decide +kernel)
set_option maxRecDepth 100000 in
theorem flPg_25 : Cond.fieldLink "PartDrawings$Pages" 25 (TPg 1).1 (TPg 1).2.1 (TPg 1).2.2.1 ∈ gW := gW_1 277 rfl rfl
set_option maxHeartbeats 4000000 in
set_option maxRecDepth 100000 in
theorem c_Pages_pagesFor (l : Launch) (D : va_G) (cI cG cL cB : ClassId) (len : Int) (ea : Int) (h0 : -10000000 ≤ len) (h1 : len ≤ 10000000) (h2 : 1 ≤ ea) (h3 : ea ≤ 65536) : Cl l yPg_pagesFor cPg_pagesFor 3 (some .long) 1 0 0 D zCl (zT cI cG cL cB) [.long (zL len), .int (zI ea)] [] (fun x w => x = zL (pgF len ea) ∧ w = []) := by
  refine zBl (by decide) (Nat.le_of_ble_eq_true rfl) ?_
  intro p e s m args below meth c ls A H locs Q C hin hl hW hQ
  have hl : lv_has ls 3 [(0, .long (zL len)), (2, .int (zI ea))] := hl
  refine lv_iload_n C.1 C.2.1 dPg_pagesFor_0 rfl (lv_at hl 1 rfl) ?_
  refine lv_iconst (v := zI 1) C.1 C.2.1 dPg_pagesFor_1 (by decide) ?_
  refine zicmp_ge (tgt := 9) C (by omega) (by omega) dPg_pagesFor_2 (by decide) (fun c2 => ?_) (fun c2 => ?_)
  · refine lv_lconst (v := zL 1) C.1 C.2.1 dPg_pagesFor_9 (by decide) ?_
    refine lv_lload_n C.1 C.2.1 dPg_pagesFor_10 rfl (lv_at hl 0 rfl) ?_
    refine lv_iload_n C.1 C.2.1 dPg_pagesFor_11 rfl (lv_at hl 1 rfl) ?_
    refine zi2l C (by omega) dPg_pagesFor_12 ?_
    refine zladd C dPg_pagesFor_13 ?_
    refine lv_lconst (v := zL 1) C.1 C.2.1 dPg_pagesFor_14 (by decide) ?_
    refine zlsub C dPg_pagesFor_15 ?_
    refine lv_iload_n C.1 C.2.1 dPg_pagesFor_16 rfl (lv_at hl 1 rfl) ?_
    refine zi2l C (by omega) dPg_pagesFor_17 ?_
    refine zldiv C (by omega) (by omega) (by omega) dPg_pagesFor_18 ?_
    have htd := tdiv_b (a := len + ea - 1) (b := ea) (M := 20000000) (by omega) (by omega) (by omega)
    refine zmaxl C kmPg_64 hl.1 (by decide) (Nat.le_of_ble_eq_true rfl) (by first | decide | omega) (by first | decide | omega) (by omega) (by omega) dPg_pagesFor_19 ?_
    exact hQ (zL (max 1 (((len + ea) - 1).tdiv ea))) _ H locs _ _ _ ls hW ⟨rfl, rfl⟩ (by omega) (by omega) dPg_pagesFor_22
  · exact False.elim (by omega)
set_option maxHeartbeats 4000000 in
set_option maxRecDepth 100000 in
theorem c_Pages_count (l : Launch) (D : va_G) (cI cG cL cB : ClassId) (g0 : Nat) (wd : Int) (hg : Int) (co : Int) (ro : Int) (oa : Int) (ou : Int) (lf : Int) (rt : Int) (lw : Int) (up_ : Int) (tp : Int)  : Cl l yPg_count cPg_count 1 (some .long) 0 0 0 D zCl (zT cI cG cL cB) [.ref g0] [(g0, .inr (5, [.int (zI wd), .int (zI hg), .long (zL co), .long (zL ro), .long (zL oa), .long (zL ou), .long (zL lf), .long (zL rt), .long (zL lw), .long (zL up_), .int (zI tp)]))] (fun x w => x = zL (co * ro) ∧ w = [(g0, .inr (5, [.int (zI wd), .int (zI hg), .long (zL co), .long (zL ro), .long (zL oa), .long (zL ou), .long (zL lf), .long (zL rt), .long (zL lw), .long (zL up_), .int (zI tp)]))]) := by
  refine zBl (by decide) (Nat.le_of_ble_eq_true rfl) ?_
  intro p e s m args below meth c ls A H locs Q C hin hl hW hQ
  have hl : lv_has ls 1 [(0, .ref g0)] := hl
  refine lv_aload_n C.1 C.2.1 dPg_count_0 rfl (lv_at hl 0 rfl) ?_
  refine zget C hW 0 2 rfl rfl inPg (by decide) flPg_28 rfl dPg_count_1 ?_
  refine lv_aload_n C.1 C.2.1 dPg_count_4 rfl (lv_at hl 0 rfl) ?_
  refine zget C hW 0 3 rfl rfl inPg (by decide) flPg_32 rfl dPg_count_5 ?_
  refine zlmul C dPg_count_8 ?_
  exact hQ (zL (co * ro)) _ H locs _ _ _ ls hW ⟨rfl, rfl⟩ (by omega) (by omega) dPg_count_9
set_option maxHeartbeats 4000000 in
set_option maxRecDepth 100000 in
theorem c_Pages_touches (l : Launch) (D : va_G) (cI cG cL cB : ClassId) (th : Nat) (t1 : Nat) (t2 : Nat) (t3 : Nat) (t4 : Nat) (tth : Int) (tn : Int) (tac : Int) (tLi : Int → Int) (tBe : Int → Int) (tEn : Int → Int) (tSt : Int → Int) (k : Int) (a : Int) (b : Int) (btLi : ∀ j : Int, I32 (tLi j)) (btBe : ∀ j : Int, I32 (tBe j)) (btEn : ∀ j : Int, I32 (tEn j)) (btSt : ∀ j : Int, I32 (tSt j)) (hn0t : 0 ≤ tn) (hn1t : tn ≤ 1200) (ha0t : 0 ≤ tac) (ha1t : tac ≤ tn) (hk0 : 0 ≤ k) (hk1 : k < 1200) (hJa : I64 a) (hJb : I64 b) : Ci l yPg_touches cPg_touches 6 (some .boolean) 0 0 0 D zCl (zT cI cG cL cB) [.ref th, .int (zI k), .long (zL a), .long (zL b)] [(th, .inr (7, [.int (zI tth), .int (zI tn), .int (zI tac), .ref t1, .ref t2, .ref t3, .ref t4])), (t1, .inl (cI, 1200, .inl (fI tLi))), (t2, .inl (cI, 1200, .inl (fI tBe))), (t3, .inl (cI, 1200, .inl (fI tEn))), (t4, .inl (cI, 1200, .inl (fI tSt)))] (fun x w => x = zI (bz (tchP tLi a b k)) ∧ w = [(th, .inr (7, [.int (zI tth), .int (zI tn), .int (zI tac), .ref t1, .ref t2, .ref t3, .ref t4])), (t1, .inl (cI, 1200, .inl (fI tLi))), (t2, .inl (cI, 1200, .inl (fI tBe))), (t3, .inl (cI, 1200, .inl (fI tEn))), (t4, .inl (cI, 1200, .inl (fI tSt)))]) := by
  refine zBz (by decide) (Nat.le_of_ble_eq_true rfl) ?_
  intro p e s m args below meth c ls A H locs Q C hin hl hW hQ
  have hl : lv_has ls 6 [(0, .ref th), (1, .int (zI k)), (2, .long (zL a)), (4, .long (zL b))] := hl
  refine lv_lload_n C.1 C.2.1 dPg_touches_0 rfl (lv_at hl 2 rfl) ?_
  refine lv_aload_n C.1 C.2.1 dPg_touches_1 rfl (lv_at hl 0 rfl) ?_
  refine zget C hW 0 3 rfl rfl inSk (by decide) flPg_97 rfl dPg_touches_2 ?_
  refine lv_iload_n C.1 C.2.1 dPg_touches_5 rfl (lv_at hl 1 rfl) ?_
  refine ziald C hW 1 0 rfl rfl (by omega) (by omega) (by decide) dPg_touches_6 ?_
  have hb1 := btLi k
  refine zi2l C (by omega) dPg_touches_7 ?_
  refine zlcmp_gt (tgt := 29) C (by omega) (by omega) dPg_touches_8 dPg_touches_9 (by decide) (fun c8 => ?_) (fun c8 => ?_)
  · refine lv_iconst (v := zI 0) C.1 C.2.1 dPg_touches_29 (by decide) ?_
    exact hQ (zI 0) _ H locs _ _ _ ls hW (by decide) ⟨congrArg zI (by unfold tchP; exact bzd (fun h => by omega) (fun h => by omega)), rfl⟩ (by omega) (by omega) dPg_touches_30
  · refine lv_aload_n C.1 C.2.1 dPg_touches_12 rfl (lv_at hl 0 rfl) ?_
    refine zget C hW 0 3 rfl rfl inSk (by decide) flPg_97 rfl dPg_touches_13 ?_
    refine lv_iload_n C.1 C.2.1 dPg_touches_16 rfl (lv_at hl 1 rfl) ?_
    refine ziald C hW 1 0 rfl rfl (by omega) (by omega) (by decide) dPg_touches_17 ?_
    have hb2 := btLi k
    refine zi2l C (by omega) dPg_touches_18 ?_
    refine lv_lload C.1 C.2.1 dPg_touches_19 (lv_at hl 3 rfl) ?_
    refine zlcmp_gt (tgt := 29) C (by omega) (by omega) dPg_touches_21 dPg_touches_22 (by decide) (fun c21 => ?_) (fun c21 => ?_)
    · refine lv_iconst (v := zI 0) C.1 C.2.1 dPg_touches_29 (by decide) ?_
      exact hQ (zI 0) _ H locs _ _ _ ls hW (by decide) ⟨congrArg zI (by unfold tchP; exact bzd (fun h => by omega) (fun h => by omega)), rfl⟩ (by omega) (by omega) dPg_touches_30
    · refine lv_iconst (v := zI 1) C.1 C.2.1 dPg_touches_25 (by decide) ?_
      refine lv_goto (tgt := 30) C.1 C.2.1 dPg_touches_26 (by decide) ?_
      exact hQ (zI 1) _ H locs _ _ _ ls hW (by decide) ⟨congrArg zI (by unfold tchP; exact bzd (fun h => by omega) (fun h => by omega)), rfl⟩ (by omega) (by omega) dPg_touches_30
set_option maxHeartbeats 4000000 in
set_option maxRecDepth 100000 in
theorem c_Pages_runsWithin (l : Launch) (D : va_G) (cI cG cL cB : ClassId) (th : Nat) (t1 : Nat) (t2 : Nat) (t3 : Nat) (t4 : Nat) (tth : Int) (tn : Int) (tac : Int) (tLi : Int → Int) (tBe : Int → Int) (tEn : Int → Int) (tSt : Int → Int) (k : Int) (a : Int) (b : Int) (btLi : ∀ j : Int, I32 (tLi j)) (btBe : ∀ j : Int, I32 (tBe j)) (btEn : ∀ j : Int, I32 (tEn j)) (btSt : ∀ j : Int, I32 (tSt j)) (hn0t : 0 ≤ tn) (hn1t : tn ≤ 1200) (ha0t : 0 ≤ tac) (ha1t : tac ≤ tn) (hk0 : 0 ≤ k) (hk1 : k < 1200) (hJa : I64 a) (hJb : I64 b) : Ci l yPg_runsWithin cPg_runsWithin 6 (some .boolean) 0 0 0 D zCl (zT cI cG cL cB) [.ref th, .int (zI k), .long (zL a), .long (zL b)] [(th, .inr (7, [.int (zI tth), .int (zI tn), .int (zI tac), .ref t1, .ref t2, .ref t3, .ref t4])), (t1, .inl (cI, 1200, .inl (fI tLi))), (t2, .inl (cI, 1200, .inl (fI tBe))), (t3, .inl (cI, 1200, .inl (fI tEn))), (t4, .inl (cI, 1200, .inl (fI tSt)))] (fun x w => x = zI (bz (rnsP tBe tEn a b k)) ∧ w = [(th, .inr (7, [.int (zI tth), .int (zI tn), .int (zI tac), .ref t1, .ref t2, .ref t3, .ref t4])), (t1, .inl (cI, 1200, .inl (fI tLi))), (t2, .inl (cI, 1200, .inl (fI tBe))), (t3, .inl (cI, 1200, .inl (fI tEn))), (t4, .inl (cI, 1200, .inl (fI tSt)))]) := by
  refine zBz (by decide) (Nat.le_of_ble_eq_true rfl) ?_
  intro p e s m args below meth c ls A H locs Q C hin hl hW hQ
  have hl : lv_has ls 6 [(0, .ref th), (1, .int (zI k)), (2, .long (zL a)), (4, .long (zL b))] := hl
  refine lv_aload_n C.1 C.2.1 dPg_runsWithin_0 rfl (lv_at hl 0 rfl) ?_
  refine zget C hW 0 4 rfl rfl inSk (by decide) flPg_101 rfl dPg_runsWithin_1 ?_
  refine lv_iload_n C.1 C.2.1 dPg_runsWithin_4 rfl (lv_at hl 1 rfl) ?_
  refine ziald C hW 2 0 rfl rfl (by omega) (by omega) (by decide) dPg_runsWithin_5 ?_
  have hb1 := btBe k
  refine zi2l C (by omega) dPg_runsWithin_6 ?_
  refine lv_lload C.1 C.2.1 dPg_runsWithin_7 (lv_at hl 3 rfl) ?_
  refine zlcmp_ge (tgt := 29) C (by omega) (by omega) dPg_runsWithin_9 dPg_runsWithin_10 (by decide) (fun c9 => ?_) (fun c9 => ?_)
  · refine lv_iconst (v := zI 0) C.1 C.2.1 dPg_runsWithin_29 (by decide) ?_
    exact hQ (zI 0) _ H locs _ _ _ ls hW (by decide) ⟨congrArg zI (by unfold rnsP; exact bzd (fun h => by omega) (fun h => by omega)), rfl⟩ (by omega) (by omega) dPg_runsWithin_30
  · refine lv_lload_n C.1 C.2.1 dPg_runsWithin_13 rfl (lv_at hl 2 rfl) ?_
    refine lv_aload_n C.1 C.2.1 dPg_runsWithin_14 rfl (lv_at hl 0 rfl) ?_
    refine zget C hW 0 5 rfl rfl inSk (by decide) flPg_104 rfl dPg_runsWithin_15 ?_
    refine lv_iload_n C.1 C.2.1 dPg_runsWithin_18 rfl (lv_at hl 1 rfl) ?_
    refine ziald C hW 3 0 rfl rfl (by omega) (by omega) (by decide) dPg_runsWithin_19 ?_
    have hb2 := btEn k
    refine zi2l C (by omega) dPg_runsWithin_20 ?_
    refine zlcmp_ge (tgt := 29) C (by omega) (by omega) dPg_runsWithin_21 dPg_runsWithin_22 (by decide) (fun c21 => ?_) (fun c21 => ?_)
    · refine lv_iconst (v := zI 0) C.1 C.2.1 dPg_runsWithin_29 (by decide) ?_
      exact hQ (zI 0) _ H locs _ _ _ ls hW (by decide) ⟨congrArg zI (by unfold rnsP; exact bzd (fun h => by omega) (fun h => by omega)), rfl⟩ (by omega) (by omega) dPg_runsWithin_30
    · refine lv_iconst (v := zI 1) C.1 C.2.1 dPg_runsWithin_25 (by decide) ?_
      refine lv_goto (tgt := 30) C.1 C.2.1 dPg_runsWithin_26 (by decide) ?_
      exact hQ (zI 1) _ H locs _ _ _ ls hW (by decide) ⟨congrArg zI (by unfold rnsP; exact bzd (fun h => by omega) (fun h => by omega)), rfl⟩ (by omega) (by omega) dPg_runsWithin_30
set_option maxHeartbeats 4000000 in
set_option maxRecDepth 100000 in
theorem c_Pages_isMarkedAt (l : Launch) (D : va_G) (cI cG cL cB : ClassId) (g0 : Nat) (wd : Int) (hg : Int) (co : Int) (ro : Int) (oa : Int) (ou : Int) (lf : Int) (rt : Int) (lw : Int) (up_ : Int) (tp : Int) (y : Int) (hJlw : I64 lw) (hJup_ : I64 up_) (hJy : I64 y) (htp : tp = 0 ∨ tp = 1) : Ci l yPg_isMarkedAt cPg_isMarkedAt 3 (some .boolean) 0 0 0 D zCl (zT cI cG cL cB) [.ref g0, .long (zL y)] [(g0, .inr (5, [.int (zI wd), .int (zI hg), .long (zL co), .long (zL ro), .long (zL oa), .long (zL ou), .long (zL lf), .long (zL rt), .long (zL lw), .long (zL up_), .int (zI tp)]))] (fun x w => x = zI (bz (mkAt lw up_ tp y)) ∧ w = [(g0, .inr (5, [.int (zI wd), .int (zI hg), .long (zL co), .long (zL ro), .long (zL oa), .long (zL ou), .long (zL lf), .long (zL rt), .long (zL lw), .long (zL up_), .int (zI tp)]))]) := by
  refine zBz (by decide) (Nat.le_of_ble_eq_true rfl) ?_
  intro p e s m args below meth c ls A H locs Q C hin hl hW hQ
  have hl : lv_has ls 3 [(0, .ref g0), (1, .long (zL y))] := hl
  refine lv_aload_n C.1 C.2.1 dPg_isMarkedAt_0 rfl (lv_at hl 0 rfl) ?_
  refine zget C hW 0 8 rfl rfl inPg (by decide) flPg_73 rfl dPg_isMarkedAt_1 ?_
  refine lv_lload_n C.1 C.2.1 dPg_isMarkedAt_4 rfl (lv_at hl 1 rfl) ?_
  refine zlcmp_gt (tgt := 38) C (by omega) (by omega) dPg_isMarkedAt_5 dPg_isMarkedAt_6 (by decide) (fun c5 => ?_) (fun c5 => ?_)
  · refine lv_iconst (v := zI 0) C.1 C.2.1 dPg_isMarkedAt_38 (by decide) ?_
    exact hQ (zI 0) _ H locs _ _ _ ls hW (by decide) ⟨congrArg zI (by unfold mkAt; exact bzd (fun h => by omega) (fun h => by omega)), rfl⟩ (by omega) (by omega) dPg_isMarkedAt_39
  · refine lv_lload_n C.1 C.2.1 dPg_isMarkedAt_9 rfl (lv_at hl 1 rfl) ?_
    refine lv_aload_n C.1 C.2.1 dPg_isMarkedAt_10 rfl (lv_at hl 0 rfl) ?_
    refine zget C hW 0 9 rfl rfl inPg (by decide) flPg_76 rfl dPg_isMarkedAt_11 ?_
    refine zlcmp_lt (tgt := 34) C (by omega) (by omega) dPg_isMarkedAt_14 dPg_isMarkedAt_15 (by decide) (fun c14 => ?_) (fun c14 => ?_)
    · refine lv_iconst (v := zI 1) C.1 C.2.1 dPg_isMarkedAt_34 (by decide) ?_
      refine lv_goto (tgt := 39) C.1 C.2.1 dPg_isMarkedAt_35 (by decide) ?_
      exact hQ (zI 1) _ H locs _ _ _ ls hW (by decide) ⟨congrArg zI (by unfold mkAt; exact bzd (fun h => by omega) (fun h => by omega)), rfl⟩ (by omega) (by omega) dPg_isMarkedAt_39
    · refine lv_aload_n C.1 C.2.1 dPg_isMarkedAt_18 rfl (lv_at hl 0 rfl) ?_
      refine zget C hW 0 10 rfl rfl inPg (by decide) flPg_79 rfl dPg_isMarkedAt_19 ?_
      refine zif_eq (tgt := 38) C (by omega) dPg_isMarkedAt_22 (by decide) (fun c22 => ?_) (fun c22 => ?_)
      · refine lv_iconst (v := zI 0) C.1 C.2.1 dPg_isMarkedAt_38 (by decide) ?_
        exact hQ (zI 0) _ H locs _ _ _ ls hW (by decide) ⟨congrArg zI (by unfold mkAt; exact bzd (fun h => by omega) (fun h => by omega)), rfl⟩ (by omega) (by omega) dPg_isMarkedAt_39
      · refine lv_lload_n C.1 C.2.1 dPg_isMarkedAt_25 rfl (lv_at hl 1 rfl) ?_
        refine lv_aload_n C.1 C.2.1 dPg_isMarkedAt_26 rfl (lv_at hl 0 rfl) ?_
        refine zget C hW 0 9 rfl rfl inPg (by decide) flPg_76 rfl dPg_isMarkedAt_27 ?_
        refine zlcmp_ne (tgt := 38) C (by omega) (by omega) dPg_isMarkedAt_30 dPg_isMarkedAt_31 (by decide) (fun c30 => ?_) (fun c30 => ?_)
        · refine lv_iconst (v := zI 0) C.1 C.2.1 dPg_isMarkedAt_38 (by decide) ?_
          exact hQ (zI 0) _ H locs _ _ _ ls hW (by decide) ⟨congrArg zI (by unfold mkAt; exact bzd (fun h => by omega) (fun h => by omega)), rfl⟩ (by omega) (by omega) dPg_isMarkedAt_39
        · refine lv_iconst (v := zI 1) C.1 C.2.1 dPg_isMarkedAt_34 (by decide) ?_
          refine lv_goto (tgt := 39) C.1 C.2.1 dPg_isMarkedAt_35 (by decide) ?_
          exact hQ (zI 1) _ H locs _ _ _ ls hW (by decide) ⟨congrArg zI (by unfold mkAt; exact bzd (fun h => by omega) (fun h => by omega)), rfl⟩ (by omega) (by omega) dPg_isMarkedAt_39
set_option maxHeartbeats 4000000 in
set_option maxRecDepth 100000 in
theorem c_Pages_strokesOn (l : Launch) (D : va_G) (cI cG cL cB : ClassId) (g0 : Nat) (wd : Int) (hg : Int) (co : Int) (ro : Int) (oa : Int) (ou : Int) (lf : Int) (rt : Int) (lw : Int) (up_ : Int) (tp : Int) (th : Nat) (t1 : Nat) (t2 : Nat) (t3 : Nat) (t4 : Nat) (tth : Int) (tn : Int) (tac : Int) (tLi : Int → Int) (tBe : Int → Int) (tEn : Int → Int) (tSt : Int → Int) (btLi : ∀ j : Int, I32 (tLi j)) (btBe : ∀ j : Int, I32 (tBe j)) (btEn : ∀ j : Int, I32 (tEn j)) (btSt : ∀ j : Int, I32 (tSt j)) (hn0t : 0 ≤ tn) (hn1t : tn ≤ 1200) (ha0t : 0 ≤ tac) (ha1t : tac ≤ tn) (hJlf : I64 lf) (hJrt : I64 rt) (hJlw : I64 lw) (hJup_ : I64 up_) : Ci l yPg_strokesOn cPg_strokesOn 5 (some .int) 1 0 0 D zCl (zT cI cG cL cB) [.ref g0, .ref th] [(g0, .inr (5, [.int (zI wd), .int (zI hg), .long (zL co), .long (zL ro), .long (zL oa), .long (zL ou), .long (zL lf), .long (zL rt), .long (zL lw), .long (zL up_), .int (zI tp)])), (th, .inr (7, [.int (zI tth), .int (zI tn), .int (zI tac), .ref t1, .ref t2, .ref t3, .ref t4])), (t1, .inl (cI, 1200, .inl (fI tLi))), (t2, .inl (cI, 1200, .inl (fI tBe))), (t3, .inl (cI, 1200, .inl (fI tEn))), (t4, .inl (cI, 1200, .inl (fI tSt)))] (fun x w => x = zI (cntZ (onPg tac tLi tBe tEn lf rt lw up_) tn) ∧ w = [(g0, .inr (5, [.int (zI wd), .int (zI hg), .long (zL co), .long (zL ro), .long (zL oa), .long (zL ou), .long (zL lf), .long (zL rt), .long (zL lw), .long (zL up_), .int (zI tp)])), (th, .inr (7, [.int (zI tth), .int (zI tn), .int (zI tac), .ref t1, .ref t2, .ref t3, .ref t4])), (t1, .inl (cI, 1200, .inl (fI tLi))), (t2, .inl (cI, 1200, .inl (fI tBe))), (t3, .inl (cI, 1200, .inl (fI tEn))), (t4, .inl (cI, 1200, .inl (fI tSt)))]) := by
  refine zBi (by decide) (Nat.le_of_ble_eq_true rfl) ?_
  intro p e s m args below meth c ls A H locs Q C hin hl hW hQ
  have hl : lv_has ls 5 [(0, .ref g0), (1, .ref th)] := hl
  refine lv_iconst (v := zI 0) C.1 C.2.1 dPg_strokesOn_0 (by decide) ?_
  refine lv_istore_n (lv' := [(2, .int (zI 0)), (0, .ref g0), (1, .ref th)]) C.1 C.2.1 dPg_strokesOn_1 rfl hl (by decide) rfl (fun ls hl => ?_)
  refine lv_iconst (v := zI 0) C.1 C.2.1 dPg_strokesOn_2 (by decide) ?_
  refine lv_istore_n (lv' := [(3, .int (zI 0)), (2, .int (zI 0)), (0, .ref g0), (1, .ref th)]) C.1 C.2.1 dPg_strokesOn_3 rfl hl (by decide) rfl (fun ls hl => ?_)
  have L4 : ∀ (N : Nat) (i : Int) (n_ : Int), (tn - i).toNat < N → (0 ≤ i) → (i ≤ tn) → (n_ = cntZ (onPg tac tLi tBe tEn lf rt lw up_) i) → (0 ≤ n_ ∧ n_ ≤ i) → ∀ (ls : Array Slot) (H : Heap) (locs : List Loc), lv_has ls 5 [(3, .int (zI i)), (2, .int (zI n_)), (0, .ref g0), (1, .ref th)] → zw D zCl A s [(g0, .inr (5, [.int (zI wd), .int (zI hg), .long (zL co), .long (zL ro), .long (zL oa), .long (zL ou), .long (zL lf), .long (zL rt), .long (zL lw), .long (zL up_), .int (zI tp)])), (th, .inr (7, [.int (zI tth), .int (zI tn), .int (zI tac), .ref t1, .ref t2, .ref t3, .ref t4])), (t1, .inl (cI, 1200, .inl (fI tLi))), (t2, .inl (cI, 1200, .inl (fI tBe))), (t3, .inl (cI, 1200, .inl (fI tEn))), (t4, .inl (cI, 1200, .inl (fI tSt)))] H locs → W p l e (zr 1 0 0) s m args below meth c H locs 0 0 Q (F0 m 4 ls []) := by
    intro N
    induction N with
    | zero => intro i n_ hm; exact absurd hm (Nat.not_lt_zero _)
    | succ N ih4 =>
      intro i n_ hm4 hi0 hi1 hc_ hn_ ls H locs hl hW
      refine lv_iload_n C.1 C.2.1 dPg_strokesOn_4 rfl (lv_at hl 0 rfl) ?_
      refine lv_aload_n C.1 C.2.1 dPg_strokesOn_5 rfl (lv_at hl 3 rfl) ?_
      refine zget C hW 1 1 rfl rfl inSk (by decide) flPg_83 rfl dPg_strokesOn_6 ?_
      refine zicmp_ge (tgt := 113) C (by omega) (by omega) dPg_strokesOn_9 (by decide) (fun c9 => ?_) (fun c9 => ?_)
      · refine lv_iload_n C.1 C.2.1 dPg_strokesOn_113 rfl (lv_at hl 1 rfl) ?_
        exact hQ (zI n_) _ H locs _ _ _ ls hW ⟨congrArg zI (by rw [hc_, show i = tn by omega]), rfl⟩ (by omega) (by omega) dPg_strokesOn_114
      · refine lv_aload_n C.1 C.2.1 dPg_strokesOn_12 rfl (lv_at hl 3 rfl) ?_
        refine lv_iload_n C.1 C.2.1 dPg_strokesOn_13 rfl (lv_at hl 0 rfl) ?_
        refine zcalli (wr := [(g0, .inr (5, [.int (zI wd), .int (zI hg), .long (zL co), .long (zL ro), .long (zL oa), .long (zL ou), .long (zL lf), .long (zL rt), .long (zL lw), .long (zL up_), .int (zI tp)]))]) C hW [1, 2, 3, 4, 5] [0] rfl rfl (by decide) (by decide) (zRunV (k := 1) (As := [.int (zI i)]) (rest := []) C hW (c_Strokes_wayOf l D cI cG cL cB th t1 t2 t3 t4 tth tn tac tLi tBe tEn tSt i btLi btBe btEn btSt (by omega) (by omega) (by omega) (by omega) (by omega) H.size) [1, 2, 3, 4, 5] rfl (by decide) kPg_86 (by decide +kernel) ⟨by decide, by decide⟩ 1 rfl rfl rfl hl.1 (Nat.le_of_ble_eq_true rfl) dPg_strokesOn_14 ⟨by first | decide | omega, by first | decide | omega⟩) (fun x w H locs hq hW => ?_)
        obtain ⟨rfl, rfl⟩ := hq
        have hW : zw D zCl A s [(g0, .inr (5, [.int (zI wd), .int (zI hg), .long (zL co), .long (zL ro), .long (zL oa), .long (zL ou), .long (zL lf), .long (zL rt), .long (zL lw), .long (zL up_), .int (zI tp)])), (th, .inr (7, [.int (zI tth), .int (zI tn), .int (zI tac), .ref t1, .ref t2, .ref t3, .ref t4])), (t1, .inl (cI, 1200, .inl (fI tLi))), (t2, .inl (cI, 1200, .inl (fI tBe))), (t3, .inl (cI, 1200, .inl (fI tEn))), (t4, .inl (cI, 1200, .inl (fI tSt)))] H locs := hW
        have hr1 := wayZ_01 tac i
        have L97 : ∀ (v : Int), (v = bz ((onPg tac tLi tBe tEn lf rt lw up_) i)) → (v = 0 ∨ v = 1) → ∀ (ls : Array Slot) (H : Heap) (locs : List Loc), lv_has ls 5 [(3, .int (zI i)), (2, .int (zI n_)), (0, .ref g0), (1, .ref th)] → zw D zCl A s [(g0, .inr (5, [.int (zI wd), .int (zI hg), .long (zL co), .long (zL ro), .long (zL oa), .long (zL ou), .long (zL lf), .long (zL rt), .long (zL lw), .long (zL up_), .int (zI tp)])), (th, .inr (7, [.int (zI tth), .int (zI tn), .int (zI tac), .ref t1, .ref t2, .ref t3, .ref t4])), (t1, .inl (cI, 1200, .inl (fI tLi))), (t2, .inl (cI, 1200, .inl (fI tBe))), (t3, .inl (cI, 1200, .inl (fI tEn))), (t4, .inl (cI, 1200, .inl (fI tSt)))] H locs → W p l e (zr 1 0 0) s m args below meth c H locs 0 0 Q (F0 m 97 ls [.int (zI v)]) := by
          intro v hv hv2 ls H locs hl hW
          refine lv_istore (lv' := [(4, .int (zI v)), (3, .int (zI i)), (2, .int (zI n_)), (0, .ref g0), (1, .ref th)]) C.1 C.2.1 dPg_strokesOn_97 hl (by decide) rfl (fun ls hl => ?_)
          refine lv_iload C.1 C.2.1 dPg_strokesOn_99 (lv_at hl 0 rfl) ?_
          refine zif_eq (tgt := 107) C (by omega) dPg_strokesOn_101 (by decide) (fun c101 => ?_) (fun c101 => ?_)
          · refine lv_iinc (v := zI (i + 1)) (lv' := [(3, .int (zI (i + 1))), (4, .int (zI v)), (2, .int (zI n_)), (0, .ref g0), (1, .ref th)]) C.1 C.2.1 dPg_strokesOn_107 hl (k := 1) rfl (zI_add i 1) (by decide) rfl (fun ls hl => ?_)
            refine lv_goto (tgt := 4) C.1 C.2.1 dPg_strokesOn_110 (by decide) ?_
            exact ih4 (i + 1) n_ (by omega) (by omega) (by omega) (by rw [cntZ_s _ hi0, hc_]; omega) (by omega) ls H locs (lv_sub hl [0, 2, 3, 4] rfl) hW
          · refine lv_iinc (v := zI (n_ + 1)) (lv' := [(2, .int (zI (n_ + 1))), (4, .int (zI v)), (3, .int (zI i)), (0, .ref g0), (1, .ref th)]) C.1 C.2.1 dPg_strokesOn_104 hl (k := 2) rfl (zI_add n_ 1) (by decide) rfl (fun ls hl => ?_)
            refine lv_iinc (v := zI (i + 1)) (lv' := [(3, .int (zI (i + 1))), (2, .int (zI (n_ + 1))), (4, .int (zI v)), (0, .ref g0), (1, .ref th)]) C.1 C.2.1 dPg_strokesOn_107 hl (k := 2) rfl (zI_add i 1) (by decide) rfl (fun ls hl => ?_)
            refine lv_goto (tgt := 4) C.1 C.2.1 dPg_strokesOn_110 (by decide) ?_
            exact ih4 (i + 1) (n_ + 1) (by omega) (by omega) (by omega) (by rw [cntZ_s _ hi0, hc_]; omega) (by omega) ls H locs (lv_sub hl [0, 1, 3, 4] rfl) hW
        refine zif_ne (tgt := 60) C (by omega) dPg_strokesOn_17 (by decide) (fun c17 => ?_) (fun c17 => ?_)
        · refine lv_aload_n C.1 C.2.1 dPg_strokesOn_60 rfl (lv_at hl 3 rfl) ?_
          refine lv_iload_n C.1 C.2.1 dPg_strokesOn_61 rfl (lv_at hl 0 rfl) ?_
          refine lv_aload_n C.1 C.2.1 dPg_strokesOn_62 rfl (lv_at hl 2 rfl) ?_
          refine zget C hW 0 6 rfl rfl inPg (by decide) flPg_67 rfl dPg_strokesOn_63 ?_
          refine lv_aload_n C.1 C.2.1 dPg_strokesOn_66 rfl (lv_at hl 2 rfl) ?_
          refine zget C hW 0 7 rfl rfl inPg (by decide) flPg_70 rfl dPg_strokesOn_67 ?_
          refine zcalli (wr := [(g0, .inr (5, [.int (zI wd), .int (zI hg), .long (zL co), .long (zL ro), .long (zL oa), .long (zL ou), .long (zL lf), .long (zL rt), .long (zL lw), .long (zL up_), .int (zI tp)]))]) C hW [1, 2, 3, 4, 5] [0] rfl rfl (by decide) (by decide) (zRunS (k := 4) (As := [.ref th, .int (zI i), .long (zL lf), .long (zL rt)]) (rest := []) C hW (c_Pages_touches l D cI cG cL cB th t1 t2 t3 t4 tth tn tac tLi tBe tEn tSt i lf rt btLi btBe btEn btSt (by omega) (by omega) (by omega) (by omega) (by omega) (by omega) (by omega) (by omega) H.size) [1, 2, 3, 4, 5] rfl (by decide) kPg_90 (by decide +kernel) ⟨by decide, by decide⟩ rfl hl.1 (Nat.le_of_ble_eq_true rfl) dPg_strokesOn_70 ⟨by first | decide | omega, by first | decide | omega⟩) (fun x w H locs hq hW => ?_)
          obtain ⟨rfl, rfl⟩ := hq
          have hW : zw D zCl A s [(g0, .inr (5, [.int (zI wd), .int (zI hg), .long (zL co), .long (zL ro), .long (zL oa), .long (zL ou), .long (zL lf), .long (zL rt), .long (zL lw), .long (zL up_), .int (zI tp)])), (th, .inr (7, [.int (zI tth), .int (zI tn), .int (zI tac), .ref t1, .ref t2, .ref t3, .ref t4])), (t1, .inl (cI, 1200, .inl (fI tLi))), (t2, .inl (cI, 1200, .inl (fI tBe))), (t3, .inl (cI, 1200, .inl (fI tEn))), (t4, .inl (cI, 1200, .inl (fI tSt)))] H locs := hW
          have hr2 := bz_01 (tchP tLi lf rt i)
          refine zif_eq (tgt := 96) C (by omega) dPg_strokesOn_73 (by decide) (fun c73 => ?_) (fun c73 => ?_)
          · refine lv_iconst (v := zI 0) C.1 C.2.1 dPg_strokesOn_96 (by decide) ?_
            exact L97 0 (by unfold onPg; first | (rw [if_pos (by omega)]; first | exact bzA_t (by omega) (by omega) | exact bzA_1 (by omega) | exact bzA_2 (by omega)) | (rw [if_neg (by omega)]; first | exact bzA_t (by omega) (by omega) | exact bzA_1 (by omega) | exact bzA_2 (by omega))) (by omega) ls H locs (lv_sub hl [0, 1, 2, 3] rfl) hW
          · refine lv_aload_n C.1 C.2.1 dPg_strokesOn_76 rfl (lv_at hl 3 rfl) ?_
            refine lv_iload_n C.1 C.2.1 dPg_strokesOn_77 rfl (lv_at hl 0 rfl) ?_
            refine lv_aload_n C.1 C.2.1 dPg_strokesOn_78 rfl (lv_at hl 2 rfl) ?_
            refine zget C hW 0 8 rfl rfl inPg (by decide) flPg_73 rfl dPg_strokesOn_79 ?_
            refine lv_aload_n C.1 C.2.1 dPg_strokesOn_82 rfl (lv_at hl 2 rfl) ?_
            refine zget C hW 0 9 rfl rfl inPg (by decide) flPg_76 rfl dPg_strokesOn_83 ?_
            refine zcalli (wr := [(g0, .inr (5, [.int (zI wd), .int (zI hg), .long (zL co), .long (zL ro), .long (zL oa), .long (zL ou), .long (zL lf), .long (zL rt), .long (zL lw), .long (zL up_), .int (zI tp)]))]) C hW [1, 2, 3, 4, 5] [0] rfl rfl (by decide) (by decide) (zRunS (k := 4) (As := [.ref th, .int (zI i), .long (zL lw), .long (zL up_)]) (rest := []) C hW (c_Pages_runsWithin l D cI cG cL cB th t1 t2 t3 t4 tth tn tac tLi tBe tEn tSt i lw up_ btLi btBe btEn btSt (by omega) (by omega) (by omega) (by omega) (by omega) (by omega) (by omega) (by omega) H.size) [1, 2, 3, 4, 5] rfl (by decide) kPg_94 (by decide +kernel) ⟨by decide, by decide⟩ rfl hl.1 (Nat.le_of_ble_eq_true rfl) dPg_strokesOn_86 ⟨by first | decide | omega, by first | decide | omega⟩) (fun x w H locs hq hW => ?_)
            obtain ⟨rfl, rfl⟩ := hq
            have hW : zw D zCl A s [(g0, .inr (5, [.int (zI wd), .int (zI hg), .long (zL co), .long (zL ro), .long (zL oa), .long (zL ou), .long (zL lf), .long (zL rt), .long (zL lw), .long (zL up_), .int (zI tp)])), (th, .inr (7, [.int (zI tth), .int (zI tn), .int (zI tac), .ref t1, .ref t2, .ref t3, .ref t4])), (t1, .inl (cI, 1200, .inl (fI tLi))), (t2, .inl (cI, 1200, .inl (fI tBe))), (t3, .inl (cI, 1200, .inl (fI tEn))), (t4, .inl (cI, 1200, .inl (fI tSt)))] H locs := hW
            have hr3 := bz_01 (rnsP tBe tEn lw up_ i)
            refine zif_eq (tgt := 96) C (by omega) dPg_strokesOn_89 (by decide) (fun c89 => ?_) (fun c89 => ?_)
            · refine lv_iconst (v := zI 0) C.1 C.2.1 dPg_strokesOn_96 (by decide) ?_
              exact L97 0 (by unfold onPg; first | (rw [if_pos (by omega)]; first | exact bzA_t (by omega) (by omega) | exact bzA_1 (by omega) | exact bzA_2 (by omega)) | (rw [if_neg (by omega)]; first | exact bzA_t (by omega) (by omega) | exact bzA_1 (by omega) | exact bzA_2 (by omega))) (by omega) ls H locs (lv_sub hl [0, 1, 2, 3] rfl) hW
            · refine lv_iconst (v := zI 1) C.1 C.2.1 dPg_strokesOn_92 (by decide) ?_
              refine lv_goto (tgt := 97) C.1 C.2.1 dPg_strokesOn_93 (by decide) ?_
              exact L97 1 (by unfold onPg; first | (rw [if_pos (by omega)]; first | exact bzA_t (by omega) (by omega) | exact bzA_1 (by omega) | exact bzA_2 (by omega)) | (rw [if_neg (by omega)]; first | exact bzA_t (by omega) (by omega) | exact bzA_1 (by omega) | exact bzA_2 (by omega))) (by omega) ls H locs (lv_sub hl [0, 1, 2, 3] rfl) hW
        · refine lv_aload_n C.1 C.2.1 dPg_strokesOn_20 rfl (lv_at hl 3 rfl) ?_
          refine lv_iload_n C.1 C.2.1 dPg_strokesOn_21 rfl (lv_at hl 0 rfl) ?_
          refine lv_aload_n C.1 C.2.1 dPg_strokesOn_22 rfl (lv_at hl 2 rfl) ?_
          refine zget C hW 0 8 rfl rfl inPg (by decide) flPg_73 rfl dPg_strokesOn_23 ?_
          refine lv_aload_n C.1 C.2.1 dPg_strokesOn_26 rfl (lv_at hl 2 rfl) ?_
          refine zget C hW 0 9 rfl rfl inPg (by decide) flPg_76 rfl dPg_strokesOn_27 ?_
          refine zcalli (wr := [(g0, .inr (5, [.int (zI wd), .int (zI hg), .long (zL co), .long (zL ro), .long (zL oa), .long (zL ou), .long (zL lf), .long (zL rt), .long (zL lw), .long (zL up_), .int (zI tp)]))]) C hW [1, 2, 3, 4, 5] [0] rfl rfl (by decide) (by decide) (zRunS (k := 4) (As := [.ref th, .int (zI i), .long (zL lw), .long (zL up_)]) (rest := []) C hW (c_Pages_touches l D cI cG cL cB th t1 t2 t3 t4 tth tn tac tLi tBe tEn tSt i lw up_ btLi btBe btEn btSt (by omega) (by omega) (by omega) (by omega) (by omega) (by omega) (by omega) (by omega) H.size) [1, 2, 3, 4, 5] rfl (by decide) kPg_90 (by decide +kernel) ⟨by decide, by decide⟩ rfl hl.1 (Nat.le_of_ble_eq_true rfl) dPg_strokesOn_30 ⟨by first | decide | omega, by first | decide | omega⟩) (fun x w H locs hq hW => ?_)
          obtain ⟨rfl, rfl⟩ := hq
          have hW : zw D zCl A s [(g0, .inr (5, [.int (zI wd), .int (zI hg), .long (zL co), .long (zL ro), .long (zL oa), .long (zL ou), .long (zL lf), .long (zL rt), .long (zL lw), .long (zL up_), .int (zI tp)])), (th, .inr (7, [.int (zI tth), .int (zI tn), .int (zI tac), .ref t1, .ref t2, .ref t3, .ref t4])), (t1, .inl (cI, 1200, .inl (fI tLi))), (t2, .inl (cI, 1200, .inl (fI tBe))), (t3, .inl (cI, 1200, .inl (fI tEn))), (t4, .inl (cI, 1200, .inl (fI tSt)))] H locs := hW
          have hr4 := bz_01 (tchP tLi lw up_ i)
          refine zif_eq (tgt := 56) C (by omega) dPg_strokesOn_33 (by decide) (fun c33 => ?_) (fun c33 => ?_)
          · refine lv_iconst (v := zI 0) C.1 C.2.1 dPg_strokesOn_56 (by decide) ?_
            refine lv_goto (tgt := 97) C.1 C.2.1 dPg_strokesOn_57 (by decide) ?_
            exact L97 0 (by unfold onPg; first | (rw [if_pos (by omega)]; first | exact bzA_t (by omega) (by omega) | exact bzA_1 (by omega) | exact bzA_2 (by omega)) | (rw [if_neg (by omega)]; first | exact bzA_t (by omega) (by omega) | exact bzA_1 (by omega) | exact bzA_2 (by omega))) (by omega) ls H locs (lv_sub hl [0, 1, 2, 3] rfl) hW
          · refine lv_aload_n C.1 C.2.1 dPg_strokesOn_36 rfl (lv_at hl 3 rfl) ?_
            refine lv_iload_n C.1 C.2.1 dPg_strokesOn_37 rfl (lv_at hl 0 rfl) ?_
            refine lv_aload_n C.1 C.2.1 dPg_strokesOn_38 rfl (lv_at hl 2 rfl) ?_
            refine zget C hW 0 6 rfl rfl inPg (by decide) flPg_67 rfl dPg_strokesOn_39 ?_
            refine lv_aload_n C.1 C.2.1 dPg_strokesOn_42 rfl (lv_at hl 2 rfl) ?_
            refine zget C hW 0 7 rfl rfl inPg (by decide) flPg_70 rfl dPg_strokesOn_43 ?_
            refine zcalli (wr := [(g0, .inr (5, [.int (zI wd), .int (zI hg), .long (zL co), .long (zL ro), .long (zL oa), .long (zL ou), .long (zL lf), .long (zL rt), .long (zL lw), .long (zL up_), .int (zI tp)]))]) C hW [1, 2, 3, 4, 5] [0] rfl rfl (by decide) (by decide) (zRunS (k := 4) (As := [.ref th, .int (zI i), .long (zL lf), .long (zL rt)]) (rest := []) C hW (c_Pages_runsWithin l D cI cG cL cB th t1 t2 t3 t4 tth tn tac tLi tBe tEn tSt i lf rt btLi btBe btEn btSt (by omega) (by omega) (by omega) (by omega) (by omega) (by omega) (by omega) (by omega) H.size) [1, 2, 3, 4, 5] rfl (by decide) kPg_94 (by decide +kernel) ⟨by decide, by decide⟩ rfl hl.1 (Nat.le_of_ble_eq_true rfl) dPg_strokesOn_46 ⟨by first | decide | omega, by first | decide | omega⟩) (fun x w H locs hq hW => ?_)
            obtain ⟨rfl, rfl⟩ := hq
            have hW : zw D zCl A s [(g0, .inr (5, [.int (zI wd), .int (zI hg), .long (zL co), .long (zL ro), .long (zL oa), .long (zL ou), .long (zL lf), .long (zL rt), .long (zL lw), .long (zL up_), .int (zI tp)])), (th, .inr (7, [.int (zI tth), .int (zI tn), .int (zI tac), .ref t1, .ref t2, .ref t3, .ref t4])), (t1, .inl (cI, 1200, .inl (fI tLi))), (t2, .inl (cI, 1200, .inl (fI tBe))), (t3, .inl (cI, 1200, .inl (fI tEn))), (t4, .inl (cI, 1200, .inl (fI tSt)))] H locs := hW
            have hr5 := bz_01 (rnsP tBe tEn lf rt i)
            refine zif_eq (tgt := 56) C (by omega) dPg_strokesOn_49 (by decide) (fun c49 => ?_) (fun c49 => ?_)
            · refine lv_iconst (v := zI 0) C.1 C.2.1 dPg_strokesOn_56 (by decide) ?_
              refine lv_goto (tgt := 97) C.1 C.2.1 dPg_strokesOn_57 (by decide) ?_
              exact L97 0 (by unfold onPg; first | (rw [if_pos (by omega)]; first | exact bzA_t (by omega) (by omega) | exact bzA_1 (by omega) | exact bzA_2 (by omega)) | (rw [if_neg (by omega)]; first | exact bzA_t (by omega) (by omega) | exact bzA_1 (by omega) | exact bzA_2 (by omega))) (by omega) ls H locs (lv_sub hl [0, 1, 2, 3] rfl) hW
            · refine lv_iconst (v := zI 1) C.1 C.2.1 dPg_strokesOn_52 (by decide) ?_
              refine lv_goto (tgt := 97) C.1 C.2.1 dPg_strokesOn_53 (by decide) ?_
              exact L97 1 (by unfold onPg; first | (rw [if_pos (by omega)]; first | exact bzA_t (by omega) (by omega) | exact bzA_1 (by omega) | exact bzA_2 (by omega)) | (rw [if_neg (by omega)]; first | exact bzA_t (by omega) (by omega) | exact bzA_1 (by omega) | exact bzA_2 (by omega))) (by omega) ls H locs (lv_sub hl [0, 1, 2, 3] rfl) hW
  exact L4 _ 0 0 (Nat.lt_succ_self _) (by omega) (by omega) rfl (by omega) ls H locs (lv_sub hl [0, 1, 2, 3] rfl) hW
set_option maxHeartbeats 4000000 in
set_option maxRecDepth 100000 in
theorem c_Pages_marks (l : Launch) (D : va_G) (cI cG cL cB : ClassId) (g0 : Nat) (wd : Int) (hg : Int) (co : Int) (ro : Int) (oa : Int) (ou : Int) (lf : Int) (rt : Int) (lw : Int) (up_ : Int) (tp : Int) (th : Nat) (t1 : Nat) (t2 : Nat) (t3 : Nat) (t4 : Nat) (tth : Int) (tn : Int) (tac : Int) (tLi : Int → Int) (tBe : Int → Int) (tEn : Int → Int) (tSt : Int → Int) (btLi : ∀ j : Int, I32 (tLi j)) (btBe : ∀ j : Int, I32 (tBe j)) (btEn : ∀ j : Int, I32 (tEn j)) (btSt : ∀ j : Int, I32 (tSt j)) (hn0t : 0 ≤ tn) (hn1t : tn ≤ 1200) (ha0t : 0 ≤ tac) (ha1t : tac ≤ tn) (hJrt : I64 rt) (hJlw : I64 lw) (hJup_ : I64 up_) (htp : tp = 0 ∨ tp = 1) : Ci l yPg_marks cPg_marks 4 (some .int) 1 0 0 D zCl (zT cI cG cL cB) [.ref g0, .ref th] [(g0, .inr (5, [.int (zI wd), .int (zI hg), .long (zL co), .long (zL ro), .long (zL oa), .long (zL ou), .long (zL lf), .long (zL rt), .long (zL lw), .long (zL up_), .int (zI tp)])), (th, .inr (7, [.int (zI tth), .int (zI tn), .int (zI tac), .ref t1, .ref t2, .ref t3, .ref t4])), (t1, .inl (cI, 1200, .inl (fI tLi))), (t2, .inl (cI, 1200, .inl (fI tBe))), (t3, .inl (cI, 1200, .inl (fI tEn))), (t4, .inl (cI, 1200, .inl (fI tSt)))] (fun x w => x = zI (cntZ (mkPg tLi tBe tEn rt lw up_ tp) tac) ∧ w = [(g0, .inr (5, [.int (zI wd), .int (zI hg), .long (zL co), .long (zL ro), .long (zL oa), .long (zL ou), .long (zL lf), .long (zL rt), .long (zL lw), .long (zL up_), .int (zI tp)])), (th, .inr (7, [.int (zI tth), .int (zI tn), .int (zI tac), .ref t1, .ref t2, .ref t3, .ref t4])), (t1, .inl (cI, 1200, .inl (fI tLi))), (t2, .inl (cI, 1200, .inl (fI tBe))), (t3, .inl (cI, 1200, .inl (fI tEn))), (t4, .inl (cI, 1200, .inl (fI tSt)))]) := by
  refine zBi (by decide) (Nat.le_of_ble_eq_true rfl) ?_
  intro p e s m args below meth c ls A H locs Q C hin hl hW hQ
  have hl : lv_has ls 4 [(0, .ref g0), (1, .ref th)] := hl
  refine lv_iconst (v := zI 0) C.1 C.2.1 dPg_marks_0 (by decide) ?_
  refine lv_istore_n (lv' := [(2, .int (zI 0)), (0, .ref g0), (1, .ref th)]) C.1 C.2.1 dPg_marks_1 rfl hl (by decide) rfl (fun ls hl => ?_)
  refine lv_iconst (v := zI 0) C.1 C.2.1 dPg_marks_2 (by decide) ?_
  refine lv_istore_n (lv' := [(3, .int (zI 0)), (2, .int (zI 0)), (0, .ref g0), (1, .ref th)]) C.1 C.2.1 dPg_marks_3 rfl hl (by decide) rfl (fun ls hl => ?_)
  have L4 : ∀ (N : Nat) (i : Int) (n_ : Int), (tac - i).toNat < N → (0 ≤ i) → (i ≤ tac) → (n_ = cntZ (mkPg tLi tBe tEn rt lw up_ tp) i) → (0 ≤ n_ ∧ n_ ≤ i) → ∀ (ls : Array Slot) (H : Heap) (locs : List Loc), lv_has ls 4 [(3, .int (zI i)), (2, .int (zI n_)), (0, .ref g0), (1, .ref th)] → zw D zCl A s [(g0, .inr (5, [.int (zI wd), .int (zI hg), .long (zL co), .long (zL ro), .long (zL oa), .long (zL ou), .long (zL lf), .long (zL rt), .long (zL lw), .long (zL up_), .int (zI tp)])), (th, .inr (7, [.int (zI tth), .int (zI tn), .int (zI tac), .ref t1, .ref t2, .ref t3, .ref t4])), (t1, .inl (cI, 1200, .inl (fI tLi))), (t2, .inl (cI, 1200, .inl (fI tBe))), (t3, .inl (cI, 1200, .inl (fI tEn))), (t4, .inl (cI, 1200, .inl (fI tSt)))] H locs → W p l e (zr 1 0 0) s m args below meth c H locs 0 0 Q (F0 m 4 ls []) := by
    intro N
    induction N with
    | zero => intro i n_ hm; exact absurd hm (Nat.not_lt_zero _)
    | succ N ih4 =>
      intro i n_ hm4 hi0 hi1 hc_ hn_ ls H locs hl hW
      refine lv_iload_n C.1 C.2.1 dPg_marks_4 rfl (lv_at hl 0 rfl) ?_
      refine lv_aload_n C.1 C.2.1 dPg_marks_5 rfl (lv_at hl 3 rfl) ?_
      refine zget C hW 1 2 rfl rfl inSk (by decide) flPg_107 rfl dPg_marks_6 ?_
      refine zicmp_ge (tgt := 65) C (by omega) (by omega) dPg_marks_9 (by decide) (fun c9 => ?_) (fun c9 => ?_)
      · refine lv_iload_n C.1 C.2.1 dPg_marks_65 rfl (lv_at hl 1 rfl) ?_
        exact hQ (zI n_) _ H locs _ _ _ ls hW ⟨congrArg zI (by rw [hc_, show i = tac by omega]), rfl⟩ (by omega) (by omega) dPg_marks_66
      · refine lv_aload_n C.1 C.2.1 dPg_marks_12 rfl (lv_at hl 3 rfl) ?_
        refine zget C hW 1 4 rfl rfl inSk (by decide) flPg_101 rfl dPg_marks_13 ?_
        refine lv_iload_n C.1 C.2.1 dPg_marks_16 rfl (lv_at hl 0 rfl) ?_
        refine ziald C hW 3 0 rfl rfl (by omega) (by omega) (by decide) dPg_marks_17 ?_
        have hb1 := btBe i
        refine zi2l C (by omega) dPg_marks_18 ?_
        refine lv_aload_n C.1 C.2.1 dPg_marks_19 rfl (lv_at hl 2 rfl) ?_
        refine zget C hW 0 7 rfl rfl inPg (by decide) flPg_70 rfl dPg_marks_20 ?_
        refine zlcmp_ge (tgt := 59) C (by omega) (by omega) dPg_marks_23 dPg_marks_24 (by decide) (fun c23 => ?_) (fun c23 => ?_)
        · refine lv_iinc (v := zI (i + 1)) (lv' := [(3, .int (zI (i + 1))), (2, .int (zI n_)), (0, .ref g0), (1, .ref th)]) C.1 C.2.1 dPg_marks_59 hl (k := 0) rfl (zI_add i 1) (by decide) rfl (fun ls hl => ?_)
          refine lv_goto (tgt := 4) C.1 C.2.1 dPg_marks_62 (by decide) ?_
          exact ih4 (i + 1) n_ (by omega) (by omega) (by omega) (by rw [cntZ_s _ hi0, hc_]; have h9 : 0 = bz (mkPg tLi tBe tEn rt lw up_ tp i) := (by unfold mkPg; first | exact bzA_2 (by omega) | (rw [decide_eq_false (by omega)]; rfl)); omega) (by omega) ls H locs (lv_sub hl [0, 1, 2, 3] rfl) hW
        · refine lv_aload_n C.1 C.2.1 dPg_marks_27 rfl (lv_at hl 2 rfl) ?_
          refine zget C hW 0 7 rfl rfl inPg (by decide) flPg_70 rfl dPg_marks_28 ?_
          refine lv_aload_n C.1 C.2.1 dPg_marks_31 rfl (lv_at hl 3 rfl) ?_
          refine zget C hW 1 5 rfl rfl inSk (by decide) flPg_104 rfl dPg_marks_32 ?_
          refine lv_iload_n C.1 C.2.1 dPg_marks_35 rfl (lv_at hl 0 rfl) ?_
          refine ziald C hW 4 0 rfl rfl (by omega) (by omega) (by decide) dPg_marks_36 ?_
          have hb2 := btEn i
          refine zi2l C (by omega) dPg_marks_37 ?_
          refine zlcmp_ge (tgt := 59) C (by omega) (by omega) dPg_marks_38 dPg_marks_39 (by decide) (fun c38 => ?_) (fun c38 => ?_)
          · refine lv_iinc (v := zI (i + 1)) (lv' := [(3, .int (zI (i + 1))), (2, .int (zI n_)), (0, .ref g0), (1, .ref th)]) C.1 C.2.1 dPg_marks_59 hl (k := 0) rfl (zI_add i 1) (by decide) rfl (fun ls hl => ?_)
            refine lv_goto (tgt := 4) C.1 C.2.1 dPg_marks_62 (by decide) ?_
            exact ih4 (i + 1) n_ (by omega) (by omega) (by omega) (by rw [cntZ_s _ hi0, hc_]; have h9 : 0 = bz (mkPg tLi tBe tEn rt lw up_ tp i) := (by unfold mkPg; first | exact bzA_2 (by omega) | (rw [decide_eq_false (by omega)]; rfl)); omega) (by omega) ls H locs (lv_sub hl [0, 1, 2, 3] rfl) hW
          · refine lv_aload_n C.1 C.2.1 dPg_marks_42 rfl (lv_at hl 2 rfl) ?_
            refine lv_aload_n C.1 C.2.1 dPg_marks_43 rfl (lv_at hl 3 rfl) ?_
            refine zget C hW 1 3 rfl rfl inSk (by decide) flPg_97 rfl dPg_marks_44 ?_
            refine lv_iload_n C.1 C.2.1 dPg_marks_47 rfl (lv_at hl 0 rfl) ?_
            refine ziald C hW 2 0 rfl rfl (by omega) (by omega) (by decide) dPg_marks_48 ?_
            have hb3 := btLi i
            refine zi2l C (by omega) dPg_marks_49 ?_
            refine zcalli (wr := [(th, .inr (7, [.int (zI tth), .int (zI tn), .int (zI tac), .ref t1, .ref t2, .ref t3, .ref t4])), (t1, .inl (cI, 1200, .inl (fI tLi))), (t2, .inl (cI, 1200, .inl (fI tBe))), (t3, .inl (cI, 1200, .inl (fI tEn))), (t4, .inl (cI, 1200, .inl (fI tSt)))]) C hW [0] [1, 2, 3, 4, 5] rfl rfl (by decide) (by decide) (zRunV (k := 1) (As := [.long (zL (tLi i))]) (rest := []) C hW (c_Pages_isMarkedAt l D cI cG cL cB g0 wd hg co ro oa ou lf rt lw up_ tp (tLi i) (by omega) (by omega) (by omega) (by omega) H.size) [0] rfl (by decide) kPg_110 (by decide +kernel) ⟨by decide, by decide⟩ 0 rfl rfl rfl hl.1 (Nat.le_of_ble_eq_true rfl) dPg_marks_50 ⟨by first | decide | omega, by first | decide | omega⟩) (fun x w H locs hq hW => ?_)
            obtain ⟨rfl, rfl⟩ := hq
            have hW : zw D zCl A s [(th, .inr (7, [.int (zI tth), .int (zI tn), .int (zI tac), .ref t1, .ref t2, .ref t3, .ref t4])), (t1, .inl (cI, 1200, .inl (fI tLi))), (t2, .inl (cI, 1200, .inl (fI tBe))), (t3, .inl (cI, 1200, .inl (fI tEn))), (t4, .inl (cI, 1200, .inl (fI tSt))), (g0, .inr (5, [.int (zI wd), .int (zI hg), .long (zL co), .long (zL ro), .long (zL oa), .long (zL ou), .long (zL lf), .long (zL rt), .long (zL lw), .long (zL up_), .int (zI tp)]))] H locs := hW
            have hr4 := bz_01 (mkAt lw up_ tp (tLi i))
            refine zif_eq (tgt := 59) C (by omega) dPg_marks_53 (by decide) (fun c53 => ?_) (fun c53 => ?_)
            · refine lv_iinc (v := zI (i + 1)) (lv' := [(3, .int (zI (i + 1))), (2, .int (zI n_)), (0, .ref g0), (1, .ref th)]) C.1 C.2.1 dPg_marks_59 hl (k := 0) rfl (zI_add i 1) (by decide) rfl (fun ls hl => ?_)
              refine lv_goto (tgt := 4) C.1 C.2.1 dPg_marks_62 (by decide) ?_
              exact ih4 (i + 1) n_ (by omega) (by omega) (by omega) (by rw [cntZ_s _ hi0, hc_]; have h9 : 0 = bz (mkPg tLi tBe tEn rt lw up_ tp i) := (by unfold mkPg; first | exact bzA_2 (by omega) | (rw [decide_eq_false (by omega)]; rfl)); omega) (by omega) ls H locs (lv_sub hl [0, 1, 2, 3] rfl) (zwp hW [5, 0, 1, 2, 3, 4] rfl (by decide))
            · refine lv_iinc (v := zI (n_ + 1)) (lv' := [(2, .int (zI (n_ + 1))), (3, .int (zI i)), (0, .ref g0), (1, .ref th)]) C.1 C.2.1 dPg_marks_56 hl (k := 1) rfl (zI_add n_ 1) (by decide) rfl (fun ls hl => ?_)
              refine lv_iinc (v := zI (i + 1)) (lv' := [(3, .int (zI (i + 1))), (2, .int (zI (n_ + 1))), (0, .ref g0), (1, .ref th)]) C.1 C.2.1 dPg_marks_59 hl (k := 1) rfl (zI_add i 1) (by decide) rfl (fun ls hl => ?_)
              refine lv_goto (tgt := 4) C.1 C.2.1 dPg_marks_62 (by decide) ?_
              exact ih4 (i + 1) (n_ + 1) (by omega) (by omega) (by omega) (by rw [cntZ_s _ hi0, hc_]; have h9 : 1 = bz (mkPg tLi tBe tEn rt lw up_ tp i) := (by unfold mkPg; rw [decide_eq_true (by omega)]; rw [(bz_eq1 _).mpr (show bz (mkAt lw up_ tp (tLi i)) ≠ 0 by omega)]; rfl); omega) (by omega) ls H locs (lv_sub hl [0, 1, 2, 3] rfl) (zwp hW [5, 0, 1, 2, 3, 4] rfl (by decide))
  exact L4 _ 0 0 (Nat.lt_succ_self _) (by omega) (by omega) rfl (by omega) ls H locs (lv_sub hl [0, 1, 2, 3] rfl) hW
set_option maxHeartbeats 4000000 in
set_option maxRecDepth 100000 in
theorem c_Pages_layOver (l : Launch) (D : va_G) (cI cG cL cB : ClassId) (g0 : Nat) (wd : Int) (hg : Int) (co : Int) (ro : Int) (oa : Int) (ou : Int) (lf : Int) (rt : Int) (lw : Int) (up_ : Int) (tp : Int) (th : Nat) (t1 : Nat) (t2 : Nat) (t3 : Nat) (t4 : Nat) (tth : Int) (tn : Int) (tac : Int) (tLi : Int → Int) (tBe : Int → Int) (tEn : Int → Int) (tSt : Int → Int) (btLi : ∀ j : Int, I32 (tLi j)) (btBe : ∀ j : Int, I32 (tBe j)) (btEn : ∀ j : Int, I32 (tEn j)) (btSt : ∀ j : Int, I32 (tSt j)) (hn0t : 0 ≤ tn) (hn1t : tn ≤ 1200) (ha0t : 0 ≤ tac) (ha1t : tac ≤ tn) (hLb : ∀ j : Int, 0 ≤ j → j < tn → -2000000 ≤ tLi j ∧ tLi j ≤ 2000000) (hw0 : 1 ≤ wd ∧ wd ≤ 65536) (hg0_ : 1 ≤ hg ∧ hg ≤ 65536) : Cv l yPg_layOver cPg_layOver 2 none 2 0 0 D zCl (zT cI cG cL cB) [.ref g0, .ref th] [(g0, .inr (5, [.int (zI wd), .int (zI hg), .long (zL co), .long (zL ro), .long (zL oa), .long (zL ou), .long (zL lf), .long (zL rt), .long (zL lw), .long (zL up_), .int (zI tp)])), (th, .inr (7, [.int (zI tth), .int (zI tn), .int (zI tac), .ref t1, .ref t2, .ref t3, .ref t4])), (t1, .inl (cI, 1200, .inl (fI tLi))), (t2, .inl (cI, 1200, .inl (fI tBe))), (t3, .inl (cI, 1200, .inl (fI tEn))), (t4, .inl (cI, 1200, .inl (fI tSt)))] (fun w => ∃ co2 : Int, ∃ ro2 : Int, ∃ oa2 : Int, ∃ ou2 : Int, (layP tac tn tLi wd hg co2 ro2 oa2 ou2) ∧ w = [(g0, .inr (5, [.int (zI wd), .int (zI hg), .long (zL co2), .long (zL ro2), .long (zL oa2), .long (zL ou2), .long (zL lf), .long (zL rt), .long (zL lw), .long (zL up_), .int (zI tp)])), (th, .inr (7, [.int (zI tth), .int (zI tn), .int (zI tac), .ref t1, .ref t2, .ref t3, .ref t4])), (t1, .inl (cI, 1200, .inl (fI tLi))), (t2, .inl (cI, 1200, .inl (fI tBe))), (t3, .inl (cI, 1200, .inl (fI tEn))), (t4, .inl (cI, 1200, .inl (fI tSt)))]) := by
  refine zBv (by decide) (Nat.le_of_ble_eq_true rfl) ?_
  intro p e s m args below meth c ls A H locs Q C hin hl hW hQ
  have hl : lv_has ls 2 [(0, .ref g0), (1, .ref th)] := hl
  refine lv_aload_n C.1 C.2.1 dPg_layOver_0 rfl (lv_at hl 0 rfl) ?_
  refine lv_lconst (v := zL 1) C.1 C.2.1 dPg_layOver_1 (by decide) ?_
  refine zput C hW 0 2 tyPg tyPg_ok nmPg rfl rfl inPg (by decide) flPg_28 rfl rfl rfl rfl (Nat.le_of_ble_eq_true rfl) dPg_layOver_2 (fun H locs hW => ?_)
  have hW : zw D zCl A s [(g0, .inr (5, [.int (zI wd), .int (zI hg), .long (zL 1), .long (zL ro), .long (zL oa), .long (zL ou), .long (zL lf), .long (zL rt), .long (zL lw), .long (zL up_), .int (zI tp)])), (th, .inr (7, [.int (zI tth), .int (zI tn), .int (zI tac), .ref t1, .ref t2, .ref t3, .ref t4])), (t1, .inl (cI, 1200, .inl (fI tLi))), (t2, .inl (cI, 1200, .inl (fI tBe))), (t3, .inl (cI, 1200, .inl (fI tEn))), (t4, .inl (cI, 1200, .inl (fI tSt)))] H locs := hW
  refine lv_aload_n C.1 C.2.1 dPg_layOver_5 rfl (lv_at hl 0 rfl) ?_
  refine lv_lconst (v := zL 1) C.1 C.2.1 dPg_layOver_6 (by decide) ?_
  refine zput C hW 0 3 tyPg tyPg_ok nmPg rfl rfl inPg (by decide) flPg_32 rfl rfl rfl rfl (Nat.le_of_ble_eq_true rfl) dPg_layOver_7 (fun H locs hW => ?_)
  have hW : zw D zCl A s [(g0, .inr (5, [.int (zI wd), .int (zI hg), .long (zL 1), .long (zL 1), .long (zL oa), .long (zL ou), .long (zL lf), .long (zL rt), .long (zL lw), .long (zL up_), .int (zI tp)])), (th, .inr (7, [.int (zI tth), .int (zI tn), .int (zI tac), .ref t1, .ref t2, .ref t3, .ref t4])), (t1, .inl (cI, 1200, .inl (fI tLi))), (t2, .inl (cI, 1200, .inl (fI tBe))), (t3, .inl (cI, 1200, .inl (fI tEn))), (t4, .inl (cI, 1200, .inl (fI tSt)))] H locs := hW
  refine lv_aload_n C.1 C.2.1 dPg_layOver_10 rfl (lv_at hl 0 rfl) ?_
  refine lv_lconst (v := zL 0) C.1 C.2.1 dPg_layOver_11 (by decide) ?_
  refine zput C hW 0 4 tyPg tyPg_ok nmPg rfl rfl inPg (by decide) flPg_35 rfl rfl rfl rfl (Nat.le_of_ble_eq_true rfl) dPg_layOver_12 (fun H locs hW => ?_)
  have hW : zw D zCl A s [(g0, .inr (5, [.int (zI wd), .int (zI hg), .long (zL 1), .long (zL 1), .long (zL 0), .long (zL ou), .long (zL lf), .long (zL rt), .long (zL lw), .long (zL up_), .int (zI tp)])), (th, .inr (7, [.int (zI tth), .int (zI tn), .int (zI tac), .ref t1, .ref t2, .ref t3, .ref t4])), (t1, .inl (cI, 1200, .inl (fI tLi))), (t2, .inl (cI, 1200, .inl (fI tBe))), (t3, .inl (cI, 1200, .inl (fI tEn))), (t4, .inl (cI, 1200, .inl (fI tSt)))] H locs := hW
  refine lv_aload_n C.1 C.2.1 dPg_layOver_15 rfl (lv_at hl 0 rfl) ?_
  refine lv_lconst (v := zL 0) C.1 C.2.1 dPg_layOver_16 (by decide) ?_
  refine zput C hW 0 5 tyPg tyPg_ok nmPg rfl rfl inPg (by decide) flPg_38 rfl rfl rfl rfl (Nat.le_of_ble_eq_true rfl) dPg_layOver_17 (fun H locs hW => ?_)
  have hW : zw D zCl A s [(g0, .inr (5, [.int (zI wd), .int (zI hg), .long (zL 1), .long (zL 1), .long (zL 0), .long (zL 0), .long (zL lf), .long (zL rt), .long (zL lw), .long (zL up_), .int (zI tp)])), (th, .inr (7, [.int (zI tth), .int (zI tn), .int (zI tac), .ref t1, .ref t2, .ref t3, .ref t4])), (t1, .inl (cI, 1200, .inl (fI tLi))), (t2, .inl (cI, 1200, .inl (fI tBe))), (t3, .inl (cI, 1200, .inl (fI tEn))), (t4, .inl (cI, 1200, .inl (fI tSt)))] H locs := hW
  refine lv_aload_n C.1 C.2.1 dPg_layOver_20 rfl (lv_at hl 1 rfl) ?_
  refine zcalli (wr := [(g0, .inr (5, [.int (zI wd), .int (zI hg), .long (zL 1), .long (zL 1), .long (zL 0), .long (zL 0), .long (zL lf), .long (zL rt), .long (zL lw), .long (zL up_), .int (zI tp)]))]) C hW [1, 2, 3, 4, 5] [0] rfl rfl (by decide) (by decide) (zRunV (k := 0) (As := []) (rest := []) C hW (c_Strokes_goesBothWays l D cI cG cL cB th t1 t2 t3 t4 tth tn tac tLi tBe tEn tSt btLi btBe btEn btSt (by omega) (by omega) (by omega) (by omega) H.size) [1, 2, 3, 4, 5] rfl (by decide) kPg_41 (by decide +kernel) ⟨by decide, by decide⟩ 1 rfl rfl rfl hl.1 (Nat.le_of_ble_eq_true rfl) dPg_layOver_21 ⟨by first | decide | omega, by first | decide | omega⟩) (fun x w H locs hq hW => ?_)
  obtain ⟨rfl, rfl⟩ := hq
  have hW : zw D zCl A s [(g0, .inr (5, [.int (zI wd), .int (zI hg), .long (zL 1), .long (zL 1), .long (zL 0), .long (zL 0), .long (zL lf), .long (zL rt), .long (zL lw), .long (zL up_), .int (zI tp)])), (th, .inr (7, [.int (zI tth), .int (zI tn), .int (zI tac), .ref t1, .ref t2, .ref t3, .ref t4])), (t1, .inl (cI, 1200, .inl (fI tLi))), (t2, .inl (cI, 1200, .inl (fI tBe))), (t3, .inl (cI, 1200, .inl (fI tEn))), (t4, .inl (cI, 1200, .inl (fI tSt)))] H locs := hW
  have hr1 := bz_01 (decide (0 < tac ∧ tac < tn))
  refine zif_eq (tgt := 87) C (by omega) dPg_layOver_24 (by decide) (fun c24 => ?_) (fun c24 => ?_)
  · exact hQ _ H locs _ _ _ ls hW ⟨_, _, _, _, ⟨fun h => absurd ((bz_eq1 _).mp (decide_eq_true h)) (by omega), fun _ => ⟨rfl, rfl, rfl, rfl⟩⟩, rfl⟩ (by omega) (by omega) dPg_layOver_87
  · have hbw := of_decide_eq_true ((bz_eq1 _).mpr c24)
    have hL1 := hLb tac (by omega) (by omega)
    have hL2 := hLb 0 (by omega) (by omega)
    have hL3 := hLb (tn - 1) (by omega) (by omega)
    have hL4 := hLb (tac - 1) (by omega) (by omega)
    refine lv_aload_n C.1 C.2.1 dPg_layOver_27 rfl (lv_at hl 0 rfl) ?_
    refine lv_aload_n C.1 C.2.1 dPg_layOver_28 rfl (lv_at hl 1 rfl) ?_
    refine zcalli (wr := [(g0, .inr (5, [.int (zI wd), .int (zI hg), .long (zL 1), .long (zL 1), .long (zL 0), .long (zL 0), .long (zL lf), .long (zL rt), .long (zL lw), .long (zL up_), .int (zI tp)]))]) C hW [1, 2, 3, 4, 5] [0] rfl rfl (by decide) (by decide) (zRunV (k := 0) (As := []) (rest := [.ref g0]) C hW (c_Strokes_leastAcross l D cI cG cL cB th t1 t2 t3 t4 tth tn tac tLi tBe tEn tSt btLi btBe btEn btSt (by omega) (by omega) (by omega) (by omega) (by omega) H.size) [1, 2, 3, 4, 5] rfl (by decide) kPg_47 (by decide +kernel) ⟨by decide, by decide⟩ 1 rfl rfl rfl hl.1 (Nat.le_of_ble_eq_true rfl) dPg_layOver_29 ⟨by first | decide | omega, by first | decide | omega⟩) (fun x w H locs hq hW => ?_)
    obtain ⟨rfl, rfl⟩ := hq
    have hW : zw D zCl A s [(g0, .inr (5, [.int (zI wd), .int (zI hg), .long (zL 1), .long (zL 1), .long (zL 0), .long (zL 0), .long (zL lf), .long (zL rt), .long (zL lw), .long (zL up_), .int (zI tp)])), (th, .inr (7, [.int (zI tth), .int (zI tn), .int (zI tac), .ref t1, .ref t2, .ref t3, .ref t4])), (t1, .inl (cI, 1200, .inl (fI tLi))), (t2, .inl (cI, 1200, .inl (fI tBe))), (t3, .inl (cI, 1200, .inl (fI tEn))), (t4, .inl (cI, 1200, .inl (fI tSt)))] H locs := hW
    have hr2 := btLi tac
    refine zi2l C (by omega) dPg_layOver_32 ?_
    refine zput C hW 0 4 tyPg tyPg_ok nmPg rfl rfl inPg (by decide) flPg_35 rfl rfl rfl rfl (Nat.le_of_ble_eq_true rfl) dPg_layOver_33 (fun H locs hW => ?_)
    have hW : zw D zCl A s [(g0, .inr (5, [.int (zI wd), .int (zI hg), .long (zL 1), .long (zL 1), .long (zL (tLi tac)), .long (zL 0), .long (zL lf), .long (zL rt), .long (zL lw), .long (zL up_), .int (zI tp)])), (th, .inr (7, [.int (zI tth), .int (zI tn), .int (zI tac), .ref t1, .ref t2, .ref t3, .ref t4])), (t1, .inl (cI, 1200, .inl (fI tLi))), (t2, .inl (cI, 1200, .inl (fI tBe))), (t3, .inl (cI, 1200, .inl (fI tEn))), (t4, .inl (cI, 1200, .inl (fI tSt)))] H locs := hW
    refine lv_aload_n C.1 C.2.1 dPg_layOver_36 rfl (lv_at hl 0 rfl) ?_
    refine lv_aload_n C.1 C.2.1 dPg_layOver_37 rfl (lv_at hl 1 rfl) ?_
    refine zcalli (wr := [(g0, .inr (5, [.int (zI wd), .int (zI hg), .long (zL 1), .long (zL 1), .long (zL (tLi tac)), .long (zL 0), .long (zL lf), .long (zL rt), .long (zL lw), .long (zL up_), .int (zI tp)]))]) C hW [1, 2, 3, 4, 5] [0] rfl rfl (by decide) (by decide) (zRunV (k := 0) (As := []) (rest := [.ref g0]) C hW (c_Strokes_leastUp l D cI cG cL cB th t1 t2 t3 t4 tth tn tac tLi tBe tEn tSt btLi btBe btEn btSt (by omega) (by omega) (by omega) (by omega) H.size) [1, 2, 3, 4, 5] rfl (by decide) kPg_51 (by decide +kernel) ⟨by decide, by decide⟩ 1 rfl rfl rfl hl.1 (Nat.le_of_ble_eq_true rfl) dPg_layOver_38 ⟨by first | decide | omega, by first | decide | omega⟩) (fun x w H locs hq hW => ?_)
    obtain ⟨rfl, rfl⟩ := hq
    have hW : zw D zCl A s [(g0, .inr (5, [.int (zI wd), .int (zI hg), .long (zL 1), .long (zL 1), .long (zL (tLi tac)), .long (zL 0), .long (zL lf), .long (zL rt), .long (zL lw), .long (zL up_), .int (zI tp)])), (th, .inr (7, [.int (zI tth), .int (zI tn), .int (zI tac), .ref t1, .ref t2, .ref t3, .ref t4])), (t1, .inl (cI, 1200, .inl (fI tLi))), (t2, .inl (cI, 1200, .inl (fI tBe))), (t3, .inl (cI, 1200, .inl (fI tEn))), (t4, .inl (cI, 1200, .inl (fI tSt)))] H locs := hW
    have hr3 := btLi 0
    refine zi2l C (by omega) dPg_layOver_41 ?_
    refine zput C hW 0 5 tyPg tyPg_ok nmPg rfl rfl inPg (by decide) flPg_38 rfl rfl rfl rfl (Nat.le_of_ble_eq_true rfl) dPg_layOver_42 (fun H locs hW => ?_)
    have hW : zw D zCl A s [(g0, .inr (5, [.int (zI wd), .int (zI hg), .long (zL 1), .long (zL 1), .long (zL (tLi tac)), .long (zL (tLi 0)), .long (zL lf), .long (zL rt), .long (zL lw), .long (zL up_), .int (zI tp)])), (th, .inr (7, [.int (zI tth), .int (zI tn), .int (zI tac), .ref t1, .ref t2, .ref t3, .ref t4])), (t1, .inl (cI, 1200, .inl (fI tLi))), (t2, .inl (cI, 1200, .inl (fI tBe))), (t3, .inl (cI, 1200, .inl (fI tEn))), (t4, .inl (cI, 1200, .inl (fI tSt)))] H locs := hW
    refine lv_aload_n C.1 C.2.1 dPg_layOver_45 rfl (lv_at hl 0 rfl) ?_
    refine lv_aload_n C.1 C.2.1 dPg_layOver_46 rfl (lv_at hl 1 rfl) ?_
    refine zcalli (wr := [(g0, .inr (5, [.int (zI wd), .int (zI hg), .long (zL 1), .long (zL 1), .long (zL (tLi tac)), .long (zL (tLi 0)), .long (zL lf), .long (zL rt), .long (zL lw), .long (zL up_), .int (zI tp)]))]) C hW [1, 2, 3, 4, 5] [0] rfl rfl (by decide) (by decide) (zRunV (k := 0) (As := []) (rest := [.ref g0]) C hW (c_Strokes_greatestAcross l D cI cG cL cB th t1 t2 t3 t4 tth tn tac tLi tBe tEn tSt btLi btBe btEn btSt (by omega) (by omega) (by omega) (by omega) (by omega) H.size) [1, 2, 3, 4, 5] rfl (by decide) kPg_54 (by decide +kernel) ⟨by decide, by decide⟩ 1 rfl rfl rfl hl.1 (Nat.le_of_ble_eq_true rfl) dPg_layOver_47 ⟨by first | decide | omega, by first | decide | omega⟩) (fun x w H locs hq hW => ?_)
    obtain ⟨rfl, rfl⟩ := hq
    have hW : zw D zCl A s [(g0, .inr (5, [.int (zI wd), .int (zI hg), .long (zL 1), .long (zL 1), .long (zL (tLi tac)), .long (zL (tLi 0)), .long (zL lf), .long (zL rt), .long (zL lw), .long (zL up_), .int (zI tp)])), (th, .inr (7, [.int (zI tth), .int (zI tn), .int (zI tac), .ref t1, .ref t2, .ref t3, .ref t4])), (t1, .inl (cI, 1200, .inl (fI tLi))), (t2, .inl (cI, 1200, .inl (fI tBe))), (t3, .inl (cI, 1200, .inl (fI tEn))), (t4, .inl (cI, 1200, .inl (fI tSt)))] H locs := hW
    have hr4 := btLi (tn - 1)
    refine zi2l C (by omega) dPg_layOver_50 ?_
    refine lv_aload_n C.1 C.2.1 dPg_layOver_51 rfl (lv_at hl 0 rfl) ?_
    refine zget C hW 0 4 rfl rfl inPg (by decide) flPg_35 rfl dPg_layOver_52 ?_
    refine zlsub C dPg_layOver_55 ?_
    refine lv_aload_n C.1 C.2.1 dPg_layOver_56 rfl (lv_at hl 0 rfl) ?_
    refine zget C hW 0 0 rfl rfl inPg (by decide) flPg_19 rfl dPg_layOver_57 ?_
    refine zcalll (wr := [(g0, .inr (5, [.int (zI wd), .int (zI hg), .long (zL 1), .long (zL 1), .long (zL (tLi tac)), .long (zL (tLi 0)), .long (zL lf), .long (zL rt), .long (zL lw), .long (zL up_), .int (zI tp)])), (th, .inr (7, [.int (zI tth), .int (zI tn), .int (zI tac), .ref t1, .ref t2, .ref t3, .ref t4])), (t1, .inl (cI, 1200, .inl (fI tLi))), (t2, .inl (cI, 1200, .inl (fI tBe))), (t3, .inl (cI, 1200, .inl (fI tEn))), (t4, .inl (cI, 1200, .inl (fI tSt)))]) C hW [] [0, 1, 2, 3, 4, 5] rfl rfl (by decide) (by decide) (zRunS (k := 2) (As := [.long (zL (tLi (tn - 1) - tLi tac)), .int (zI wd)]) (rest := [.ref g0]) C hW (c_Pages_pagesFor l D cI cG cL cB (tLi (tn - 1) - tLi tac) wd (by omega) (by omega) (by omega) (by omega) H.size) [] rfl (by decide) kPg_57 (by decide +kernel) ⟨by decide, by decide⟩ rfl hl.1 (Nat.le_of_ble_eq_true rfl) dPg_layOver_60 ⟨by first | decide | omega, by first | decide | omega⟩) (fun x w H locs hq hW => ?_)
    obtain ⟨rfl, rfl⟩ := hq
    have hW : zw D zCl A s [(g0, .inr (5, [.int (zI wd), .int (zI hg), .long (zL 1), .long (zL 1), .long (zL (tLi tac)), .long (zL (tLi 0)), .long (zL lf), .long (zL rt), .long (zL lw), .long (zL up_), .int (zI tp)])), (th, .inr (7, [.int (zI tth), .int (zI tn), .int (zI tac), .ref t1, .ref t2, .ref t3, .ref t4])), (t1, .inl (cI, 1200, .inl (fI tLi))), (t2, .inl (cI, 1200, .inl (fI tBe))), (t3, .inl (cI, 1200, .inl (fI tEn))), (t4, .inl (cI, 1200, .inl (fI tSt)))] H locs := hW
    refine zput C hW 0 2 tyPg tyPg_ok nmPg rfl rfl inPg (by decide) flPg_28 rfl rfl rfl rfl (Nat.le_of_ble_eq_true rfl) dPg_layOver_63 (fun H locs hW => ?_)
    have hW : zw D zCl A s [(g0, .inr (5, [.int (zI wd), .int (zI hg), .long (zL (pgF (tLi (tn - 1) - tLi tac) wd)), .long (zL 1), .long (zL (tLi tac)), .long (zL (tLi 0)), .long (zL lf), .long (zL rt), .long (zL lw), .long (zL up_), .int (zI tp)])), (th, .inr (7, [.int (zI tth), .int (zI tn), .int (zI tac), .ref t1, .ref t2, .ref t3, .ref t4])), (t1, .inl (cI, 1200, .inl (fI tLi))), (t2, .inl (cI, 1200, .inl (fI tBe))), (t3, .inl (cI, 1200, .inl (fI tEn))), (t4, .inl (cI, 1200, .inl (fI tSt)))] H locs := hW
    refine lv_aload_n C.1 C.2.1 dPg_layOver_66 rfl (lv_at hl 0 rfl) ?_
    refine lv_aload_n C.1 C.2.1 dPg_layOver_67 rfl (lv_at hl 1 rfl) ?_
    refine zcalli (wr := [(g0, .inr (5, [.int (zI wd), .int (zI hg), .long (zL (pgF (tLi (tn - 1) - tLi tac) wd)), .long (zL 1), .long (zL (tLi tac)), .long (zL (tLi 0)), .long (zL lf), .long (zL rt), .long (zL lw), .long (zL up_), .int (zI tp)]))]) C hW [1, 2, 3, 4, 5] [0] rfl rfl (by decide) (by decide) (zRunV (k := 0) (As := []) (rest := [.ref g0]) C hW (c_Strokes_greatestUp l D cI cG cL cB th t1 t2 t3 t4 tth tn tac tLi tBe tEn tSt btLi btBe btEn btSt (by omega) (by omega) (by omega) (by omega) (by omega) H.size) [1, 2, 3, 4, 5] rfl (by decide) kPg_61 (by decide +kernel) ⟨by decide, by decide⟩ 1 rfl rfl rfl hl.1 (Nat.le_of_ble_eq_true rfl) dPg_layOver_68 ⟨by first | decide | omega, by first | decide | omega⟩) (fun x w H locs hq hW => ?_)
    obtain ⟨rfl, rfl⟩ := hq
    have hW : zw D zCl A s [(g0, .inr (5, [.int (zI wd), .int (zI hg), .long (zL (pgF (tLi (tn - 1) - tLi tac) wd)), .long (zL 1), .long (zL (tLi tac)), .long (zL (tLi 0)), .long (zL lf), .long (zL rt), .long (zL lw), .long (zL up_), .int (zI tp)])), (th, .inr (7, [.int (zI tth), .int (zI tn), .int (zI tac), .ref t1, .ref t2, .ref t3, .ref t4])), (t1, .inl (cI, 1200, .inl (fI tLi))), (t2, .inl (cI, 1200, .inl (fI tBe))), (t3, .inl (cI, 1200, .inl (fI tEn))), (t4, .inl (cI, 1200, .inl (fI tSt)))] H locs := hW
    have hr5 := btLi (tac - 1)
    refine zi2l C (by omega) dPg_layOver_71 ?_
    refine lv_aload_n C.1 C.2.1 dPg_layOver_72 rfl (lv_at hl 0 rfl) ?_
    refine zget C hW 0 5 rfl rfl inPg (by decide) flPg_38 rfl dPg_layOver_73 ?_
    refine zlsub C dPg_layOver_76 ?_
    refine lv_aload_n C.1 C.2.1 dPg_layOver_77 rfl (lv_at hl 0 rfl) ?_
    refine zget C hW 0 1 rfl rfl inPg (by decide) flPg_25 rfl dPg_layOver_78 ?_
    refine zcalll (wr := [(g0, .inr (5, [.int (zI wd), .int (zI hg), .long (zL (pgF (tLi (tn - 1) - tLi tac) wd)), .long (zL 1), .long (zL (tLi tac)), .long (zL (tLi 0)), .long (zL lf), .long (zL rt), .long (zL lw), .long (zL up_), .int (zI tp)])), (th, .inr (7, [.int (zI tth), .int (zI tn), .int (zI tac), .ref t1, .ref t2, .ref t3, .ref t4])), (t1, .inl (cI, 1200, .inl (fI tLi))), (t2, .inl (cI, 1200, .inl (fI tBe))), (t3, .inl (cI, 1200, .inl (fI tEn))), (t4, .inl (cI, 1200, .inl (fI tSt)))]) C hW [] [0, 1, 2, 3, 4, 5] rfl rfl (by decide) (by decide) (zRunS (k := 2) (As := [.long (zL (tLi (tac - 1) - tLi 0)), .int (zI hg)]) (rest := [.ref g0]) C hW (c_Pages_pagesFor l D cI cG cL cB (tLi (tac - 1) - tLi 0) hg (by omega) (by omega) (by omega) (by omega) H.size) [] rfl (by decide) kPg_57 (by decide +kernel) ⟨by decide, by decide⟩ rfl hl.1 (Nat.le_of_ble_eq_true rfl) dPg_layOver_81 ⟨by first | decide | omega, by first | decide | omega⟩) (fun x w H locs hq hW => ?_)
    obtain ⟨rfl, rfl⟩ := hq
    have hW : zw D zCl A s [(g0, .inr (5, [.int (zI wd), .int (zI hg), .long (zL (pgF (tLi (tn - 1) - tLi tac) wd)), .long (zL 1), .long (zL (tLi tac)), .long (zL (tLi 0)), .long (zL lf), .long (zL rt), .long (zL lw), .long (zL up_), .int (zI tp)])), (th, .inr (7, [.int (zI tth), .int (zI tn), .int (zI tac), .ref t1, .ref t2, .ref t3, .ref t4])), (t1, .inl (cI, 1200, .inl (fI tLi))), (t2, .inl (cI, 1200, .inl (fI tBe))), (t3, .inl (cI, 1200, .inl (fI tEn))), (t4, .inl (cI, 1200, .inl (fI tSt)))] H locs := hW
    refine zput C hW 0 3 tyPg tyPg_ok nmPg rfl rfl inPg (by decide) flPg_32 rfl rfl rfl rfl (Nat.le_of_ble_eq_true rfl) dPg_layOver_84 (fun H locs hW => ?_)
    have hW : zw D zCl A s [(g0, .inr (5, [.int (zI wd), .int (zI hg), .long (zL (pgF (tLi (tn - 1) - tLi tac) wd)), .long (zL (pgF (tLi (tac - 1) - tLi 0) hg)), .long (zL (tLi tac)), .long (zL (tLi 0)), .long (zL lf), .long (zL rt), .long (zL lw), .long (zL up_), .int (zI tp)])), (th, .inr (7, [.int (zI tth), .int (zI tn), .int (zI tac), .ref t1, .ref t2, .ref t3, .ref t4])), (t1, .inl (cI, 1200, .inl (fI tLi))), (t2, .inl (cI, 1200, .inl (fI tBe))), (t3, .inl (cI, 1200, .inl (fI tEn))), (t4, .inl (cI, 1200, .inl (fI tSt)))] H locs := hW
    exact hQ _ H locs _ _ _ ls hW ⟨_, _, _, _, ⟨fun _ => ⟨rfl, rfl, rfl, rfl⟩, fun h => absurd hbw h⟩, rfl⟩ (by omega) (by omega) dPg_layOver_87
set_option maxHeartbeats 4000000 in
set_option maxRecDepth 100000 in
theorem c_Pages_turnTo (l : Launch) (D : va_G) (cI cG cL cB : ClassId) (g0 : Nat) (wd : Int) (hg : Int) (co : Int) (ro : Int) (oa : Int) (ou : Int) (lf : Int) (rt : Int) (lw : Int) (up_ : Int) (tp : Int) (k : Int) (hk0 : 0 ≤ k) (hk1 : k ≤ 2147483647) (hc1 : 1 ≤ co) (hw0 : 1 ≤ wd ∧ wd ≤ 65536) (hg0_ : 1 ≤ hg ∧ hg ≤ 65536) (hJco : I64 co) (hJro : I64 ro) : Cv l yPg_turnTo cPg_turnTo 6 none 0 0 0 D zCl (zT cI cG cL cB) [.ref g0, .int (zI k)] [(g0, .inr (5, [.int (zI wd), .int (zI hg), .long (zL co), .long (zL ro), .long (zL oa), .long (zL ou), .long (zL lf), .long (zL rt), .long (zL lw), .long (zL up_), .int (zI tp)]))] (fun w => w = [(g0, .inr (5, [.int (zI wd), .int (zI hg), .long (zL co), .long (zL ro), .long (zL oa), .long (zL ou), .long (zL (oa + (k - (k.tdiv co) * co) * wd)), .long (zL (oa + (k - (k.tdiv co) * co) * wd + wd)), .long (zL (ou + (k.tdiv co) * hg)), .long (zL (ou + (k.tdiv co) * hg + hg)), .int (zI (bz (decide ((k.tdiv co) + 1 = ro))))]))]) := by
  refine zBv (by decide) (Nat.le_of_ble_eq_true rfl) ?_
  intro p e s m args below meth c ls A H locs Q C hin hl hW hQ
  have hl : lv_has ls 6 [(0, .ref g0), (1, .int (zI k))] := hl
  have htd := tdiv_b (a := k) (b := co) (M := 2147483647) (by omega) (by omega) (by omega)
  refine lv_aload_n C.1 C.2.1 dPg_turnTo_0 rfl (lv_at hl 0 rfl) ?_
  refine zget C hW 0 2 rfl rfl inPg (by decide) flPg_28 rfl dPg_turnTo_1 ?_
  refine lv_lconst (v := zL 1) C.1 C.2.1 dPg_turnTo_4 (by decide) ?_
  refine zlcmp_ge (tgt := 13) C (by omega) (by omega) dPg_turnTo_5 dPg_turnTo_6 (by decide) (fun c5 => ?_) (fun c5 => ?_)
  · refine lv_iload_n C.1 C.2.1 dPg_turnTo_13 rfl (lv_at hl 1 rfl) ?_
    refine zi2l C (by omega) dPg_turnTo_14 ?_
    refine lv_aload_n C.1 C.2.1 dPg_turnTo_15 rfl (lv_at hl 0 rfl) ?_
    refine zget C hW 0 2 rfl rfl inPg (by decide) flPg_28 rfl dPg_turnTo_16 ?_
    refine zldiv C (by omega) (by omega) (by omega) dPg_turnTo_19 ?_
    refine lv_lstore_n (lv' := [(2, .long (zL (k.tdiv co))), (0, .ref g0), (1, .int (zI k))]) C.1 C.2.1 dPg_turnTo_20 rfl hl (by decide) rfl (fun ls hl => ?_)
    refine lv_iload_n C.1 C.2.1 dPg_turnTo_21 rfl (lv_at hl 2 rfl) ?_
    refine zi2l C (by omega) dPg_turnTo_22 ?_
    refine lv_lload_n C.1 C.2.1 dPg_turnTo_23 rfl (lv_at hl 0 rfl) ?_
    refine lv_aload_n C.1 C.2.1 dPg_turnTo_24 rfl (lv_at hl 1 rfl) ?_
    refine zget C hW 0 2 rfl rfl inPg (by decide) flPg_28 rfl dPg_turnTo_25 ?_
    refine zlmul C dPg_turnTo_28 ?_
    refine zlsub C dPg_turnTo_29 ?_
    refine lv_lstore (lv' := [(4, .long (zL (k - ((k.tdiv co) * co)))), (2, .long (zL (k.tdiv co))), (0, .ref g0), (1, .int (zI k))]) C.1 C.2.1 dPg_turnTo_30 hl (by decide) rfl (fun ls hl => ?_)
    refine lv_aload_n C.1 C.2.1 dPg_turnTo_32 rfl (lv_at hl 2 rfl) ?_
    refine lv_aload_n C.1 C.2.1 dPg_turnTo_33 rfl (lv_at hl 2 rfl) ?_
    refine zget C hW 0 4 rfl rfl inPg (by decide) flPg_35 rfl dPg_turnTo_34 ?_
    refine lv_lload C.1 C.2.1 dPg_turnTo_37 (lv_at hl 0 rfl) ?_
    refine lv_aload_n C.1 C.2.1 dPg_turnTo_39 rfl (lv_at hl 2 rfl) ?_
    refine zget C hW 0 0 rfl rfl inPg (by decide) flPg_19 rfl dPg_turnTo_40 ?_
    refine zi2l C (by omega) dPg_turnTo_43 ?_
    refine zlmul C dPg_turnTo_44 ?_
    refine zladd C dPg_turnTo_45 ?_
    refine zput C hW 0 6 tyPg tyPg_ok nmPg rfl rfl inPg (by decide) flPg_67 rfl rfl rfl rfl (Nat.le_of_ble_eq_true rfl) dPg_turnTo_46 (fun H locs hW => ?_)
    have hW : zw D zCl A s [(g0, .inr (5, [.int (zI wd), .int (zI hg), .long (zL co), .long (zL ro), .long (zL oa), .long (zL ou), .long (zL (oa + ((k - ((k.tdiv co) * co)) * wd))), .long (zL rt), .long (zL lw), .long (zL up_), .int (zI tp)]))] H locs := hW
    refine lv_aload_n C.1 C.2.1 dPg_turnTo_49 rfl (lv_at hl 2 rfl) ?_
    refine lv_aload_n C.1 C.2.1 dPg_turnTo_50 rfl (lv_at hl 2 rfl) ?_
    refine zget C hW 0 6 rfl rfl inPg (by decide) flPg_67 rfl dPg_turnTo_51 ?_
    refine lv_aload_n C.1 C.2.1 dPg_turnTo_54 rfl (lv_at hl 2 rfl) ?_
    refine zget C hW 0 0 rfl rfl inPg (by decide) flPg_19 rfl dPg_turnTo_55 ?_
    refine zi2l C (by omega) dPg_turnTo_58 ?_
    refine zladd C dPg_turnTo_59 ?_
    refine zput C hW 0 7 tyPg tyPg_ok nmPg rfl rfl inPg (by decide) flPg_70 rfl rfl rfl rfl (Nat.le_of_ble_eq_true rfl) dPg_turnTo_60 (fun H locs hW => ?_)
    have hW : zw D zCl A s [(g0, .inr (5, [.int (zI wd), .int (zI hg), .long (zL co), .long (zL ro), .long (zL oa), .long (zL ou), .long (zL (oa + ((k - ((k.tdiv co) * co)) * wd))), .long (zL ((oa + ((k - ((k.tdiv co) * co)) * wd)) + wd)), .long (zL lw), .long (zL up_), .int (zI tp)]))] H locs := hW
    refine lv_aload_n C.1 C.2.1 dPg_turnTo_63 rfl (lv_at hl 2 rfl) ?_
    refine lv_aload_n C.1 C.2.1 dPg_turnTo_64 rfl (lv_at hl 2 rfl) ?_
    refine zget C hW 0 5 rfl rfl inPg (by decide) flPg_38 rfl dPg_turnTo_65 ?_
    refine lv_lload_n C.1 C.2.1 dPg_turnTo_68 rfl (lv_at hl 1 rfl) ?_
    refine lv_aload_n C.1 C.2.1 dPg_turnTo_69 rfl (lv_at hl 2 rfl) ?_
    refine zget C hW 0 1 rfl rfl inPg (by decide) flPg_25 rfl dPg_turnTo_70 ?_
    refine zi2l C (by omega) dPg_turnTo_73 ?_
    refine zlmul C dPg_turnTo_74 ?_
    refine zladd C dPg_turnTo_75 ?_
    refine zput C hW 0 8 tyPg tyPg_ok nmPg rfl rfl inPg (by decide) flPg_73 rfl rfl rfl rfl (Nat.le_of_ble_eq_true rfl) dPg_turnTo_76 (fun H locs hW => ?_)
    have hW : zw D zCl A s [(g0, .inr (5, [.int (zI wd), .int (zI hg), .long (zL co), .long (zL ro), .long (zL oa), .long (zL ou), .long (zL (oa + ((k - ((k.tdiv co) * co)) * wd))), .long (zL ((oa + ((k - ((k.tdiv co) * co)) * wd)) + wd)), .long (zL (ou + ((k.tdiv co) * hg))), .long (zL up_), .int (zI tp)]))] H locs := hW
    refine lv_aload_n C.1 C.2.1 dPg_turnTo_79 rfl (lv_at hl 2 rfl) ?_
    refine lv_aload_n C.1 C.2.1 dPg_turnTo_80 rfl (lv_at hl 2 rfl) ?_
    refine zget C hW 0 8 rfl rfl inPg (by decide) flPg_73 rfl dPg_turnTo_81 ?_
    refine lv_aload_n C.1 C.2.1 dPg_turnTo_84 rfl (lv_at hl 2 rfl) ?_
    refine zget C hW 0 1 rfl rfl inPg (by decide) flPg_25 rfl dPg_turnTo_85 ?_
    refine zi2l C (by omega) dPg_turnTo_88 ?_
    refine zladd C dPg_turnTo_89 ?_
    refine zput C hW 0 9 tyPg tyPg_ok nmPg rfl rfl inPg (by decide) flPg_76 rfl rfl rfl rfl (Nat.le_of_ble_eq_true rfl) dPg_turnTo_90 (fun H locs hW => ?_)
    have hW : zw D zCl A s [(g0, .inr (5, [.int (zI wd), .int (zI hg), .long (zL co), .long (zL ro), .long (zL oa), .long (zL ou), .long (zL (oa + ((k - ((k.tdiv co) * co)) * wd))), .long (zL ((oa + ((k - ((k.tdiv co) * co)) * wd)) + wd)), .long (zL (ou + ((k.tdiv co) * hg))), .long (zL ((ou + ((k.tdiv co) * hg)) + hg)), .int (zI tp)]))] H locs := hW
    refine lv_aload_n C.1 C.2.1 dPg_turnTo_93 rfl (lv_at hl 2 rfl) ?_
    refine lv_lload_n C.1 C.2.1 dPg_turnTo_94 rfl (lv_at hl 1 rfl) ?_
    refine lv_lconst (v := zL 1) C.1 C.2.1 dPg_turnTo_95 (by decide) ?_
    refine zladd C dPg_turnTo_96 ?_
    refine lv_aload_n C.1 C.2.1 dPg_turnTo_97 rfl (lv_at hl 2 rfl) ?_
    refine zget C hW 0 3 rfl rfl inPg (by decide) flPg_32 rfl dPg_turnTo_98 ?_
    refine zlcmp_ne (tgt := 109) C (by omega) (by omega) dPg_turnTo_101 dPg_turnTo_102 (by decide) (fun c101 => ?_) (fun c101 => ?_)
    · refine lv_iconst (v := zI 0) C.1 C.2.1 dPg_turnTo_109 (by decide) ?_
      refine zput C hW 0 10 tyPg tyPg_ok nmPg rfl rfl inPg (by decide) flPg_79 rfl rfl (by decide) (by decide) (Nat.le_of_ble_eq_true rfl) dPg_turnTo_110 (fun H locs hW => ?_)
      have hW : zw D zCl A s [(g0, .inr (5, [.int (zI wd), .int (zI hg), .long (zL co), .long (zL ro), .long (zL oa), .long (zL ou), .long (zL (oa + ((k - ((k.tdiv co) * co)) * wd))), .long (zL ((oa + ((k - ((k.tdiv co) * co)) * wd)) + wd)), .long (zL (ou + ((k.tdiv co) * hg))), .long (zL ((ou + ((k.tdiv co) * hg)) + hg)), .int (zI 0)]))] H locs := hW
      exact hQ _ H locs _ _ _ ls hW (by first | (rw [decide_eq_true (by omega)]; rfl) | (rw [decide_eq_false (by omega)]; rfl)) (by omega) (by omega) dPg_turnTo_113
    · refine lv_iconst (v := zI 1) C.1 C.2.1 dPg_turnTo_105 (by decide) ?_
      refine lv_goto (tgt := 110) C.1 C.2.1 dPg_turnTo_106 (by decide) ?_
      refine zput C hW 0 10 tyPg tyPg_ok nmPg rfl rfl inPg (by decide) flPg_79 rfl rfl (by decide) (by decide) (Nat.le_of_ble_eq_true rfl) dPg_turnTo_110 (fun H locs hW => ?_)
      have hW : zw D zCl A s [(g0, .inr (5, [.int (zI wd), .int (zI hg), .long (zL co), .long (zL ro), .long (zL oa), .long (zL ou), .long (zL (oa + ((k - ((k.tdiv co) * co)) * wd))), .long (zL ((oa + ((k - ((k.tdiv co) * co)) * wd)) + wd)), .long (zL (ou + ((k.tdiv co) * hg))), .long (zL ((ou + ((k.tdiv co) * hg)) + hg)), .int (zI 1)]))] H locs := hW
      exact hQ _ H locs _ _ _ ls hW (by first | (rw [decide_eq_true (by omega)]; rfl) | (rw [decide_eq_false (by omega)]; rfl)) (by omega) (by omega) dPg_turnTo_113
  · exact False.elim (by omega)
