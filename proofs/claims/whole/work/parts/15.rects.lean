theorem dRe_init_0 : decode cRe_init 0 = .ok (.aload_n 0, 1) := by decide +kernel
theorem dRe_init_1 : decode cRe_init 1 = .ok (.invokespecial 3, 3) := by decide +kernel
theorem dRe_init_4 : decode cRe_init 4 = .ok (.aload_n 0, 1) := by decide +kernel
theorem dRe_init_5 : decode cRe_init 5 = .ok (.iconst 2, 1) := by decide +kernel
theorem dRe_init_6 : decode cRe_init 6 = .ok (.bipush 24, 2) := by decide +kernel
theorem dRe_init_8 : decode cRe_init 8 = .ok (.multianewarray 9 2, 4) := by decide +kernel
theorem dRe_init_12 : decode cRe_init 12 = .ok (.putfield 11, 3) := by decide +kernel
theorem dRe_init_15 : decode cRe_init 15 = .ok (.aload_n 0, 1) := by decide +kernel
theorem dRe_init_16 : decode cRe_init 16 = .ok (.iconst 2, 1) := by decide +kernel
theorem dRe_init_17 : decode cRe_init 17 = .ok (.bipush 24, 2) := by decide +kernel
theorem dRe_init_19 : decode cRe_init 19 = .ok (.multianewarray 9 2, 4) := by decide +kernel
theorem dRe_init_23 : decode cRe_init 23 = .ok (.putfield 16, 3) := by decide +kernel
theorem dRe_init_26 : decode cRe_init 26 = .ok (.aload_n 0, 1) := by decide +kernel
theorem dRe_init_27 : decode cRe_init 27 = .ok (.bipush 24, 2) := by decide +kernel
theorem dRe_init_29 : decode cRe_init 29 = .ok (.newarray .int, 2) := by decide +kernel
theorem dRe_init_31 : decode cRe_init 31 = .ok (.putfield 19, 3) := by decide +kernel
theorem dRe_init_34 : decode cRe_init 34 = .ok (.aload_n 0, 1) := by decide +kernel
theorem dRe_init_35 : decode cRe_init 35 = .ok (.new 23, 3) := by decide +kernel
theorem dRe_init_38 : decode cRe_init 38 = .ok (.dup, 1) := by decide +kernel
theorem dRe_init_39 : decode cRe_init 39 = .ok (.invokespecial 25, 3) := by decide +kernel
theorem dRe_init_42 : decode cRe_init 42 = .ok (.putfield 26, 3) := by decide +kernel
theorem dRe_init_45 : decode cRe_init 45 = .ok (.aload_n 0, 1) := by decide +kernel
theorem dRe_init_46 : decode cRe_init 46 = .ok (.new 23, 3) := by decide +kernel
theorem dRe_init_49 : decode cRe_init 49 = .ok (.dup, 1) := by decide +kernel
theorem dRe_init_50 : decode cRe_init 50 = .ok (.invokespecial 25, 3) := by decide +kernel
theorem dRe_init_53 : decode cRe_init 53 = .ok (.putfield 30, 3) := by decide +kernel
theorem dRe_init_56 : decode cRe_init 56 = .ok (.return_, 1) := by decide +kernel
theorem dRe_takeAll_0 : decode cRe_takeAll 0 = .ok (.aload_n 0, 1) := by decide +kernel
theorem dRe_takeAll_1 : decode cRe_takeAll 1 = .ok (.iconst 0, 1) := by decide +kernel
theorem dRe_takeAll_2 : decode cRe_takeAll 2 = .ok (.putfield 33, 3) := by decide +kernel
theorem dRe_takeAll_5 : decode cRe_takeAll 5 = .ok (.iconst 0, 1) := by decide +kernel
theorem dRe_takeAll_6 : decode cRe_takeAll 6 = .ok (.istore_n 3, 1) := by decide +kernel
theorem dRe_takeAll_7 : decode cRe_takeAll 7 = .ok (.iload_n 3, 1) := by decide +kernel
theorem dRe_takeAll_8 : decode cRe_takeAll 8 = .ok (.aload_n 1, 1) := by decide +kernel
theorem dRe_takeAll_9 : decode cRe_takeAll 9 = .ok (.getfield 37, 3) := by decide +kernel
theorem dRe_takeAll_12 : decode cRe_takeAll 12 = .ok (.if_icmp .ge 16, 3) := by decide +kernel
theorem dRe_takeAll_15 : decode cRe_takeAll 15 = .ok (.aload_n 0, 1) := by decide +kernel
theorem dRe_takeAll_16 : decode cRe_takeAll 16 = .ok (.aload_n 1, 1) := by decide +kernel
theorem dRe_takeAll_17 : decode cRe_takeAll 17 = .ok (.iload_n 3, 1) := by decide +kernel
theorem dRe_takeAll_18 : decode cRe_takeAll 18 = .ok (.iload_n 2, 1) := by decide +kernel
theorem dRe_takeAll_19 : decode cRe_takeAll 19 = .ok (.invokevirtual 40, 3) := by decide +kernel
theorem dRe_takeAll_22 : decode cRe_takeAll 22 = .ok (.iinc 3 1, 3) := by decide +kernel
theorem dRe_takeAll_25 : decode cRe_takeAll 25 = .ok (.goto (-18), 3) := by decide +kernel
theorem dRe_takeAll_28 : decode cRe_takeAll 28 = .ok (.return_, 1) := by decide +kernel
theorem dRe_put_0 : decode cRe_put 0 = .ok (.iload_n 3, 1) := by decide +kernel
theorem dRe_put_1 : decode cRe_put 1 = .ok (.invokestatic 44, 3) := by decide +kernel
theorem dRe_put_4 : decode cRe_put 4 = .ok (.istore 4, 2) := by decide +kernel
theorem dRe_put_6 : decode cRe_put 6 = .ok (.iload 4, 2) := by decide +kernel
theorem dRe_put_8 : decode cRe_put 8 = .ok (.ifCond .ne 7, 3) := by decide +kernel
theorem dRe_put_11 : decode cRe_put 11 = .ok (.iconst 1, 1) := by decide +kernel
theorem dRe_put_12 : decode cRe_put 12 = .ok (.goto 4, 3) := by decide +kernel
theorem dRe_put_15 : decode cRe_put 15 = .ok (.iconst 0, 1) := by decide +kernel
theorem dRe_put_16 : decode cRe_put 16 = .ok (.istore 5, 2) := by decide +kernel
theorem dRe_put_18 : decode cRe_put 18 = .ok (.iload 4, 2) := by decide +kernel
theorem dRe_put_20 : decode cRe_put 20 = .ok (.iconst 2, 1) := by decide +kernel
theorem dRe_put_21 : decode cRe_put 21 = .ok (.if_icmp .ne 7, 3) := by decide +kernel
theorem dRe_put_24 : decode cRe_put 24 = .ok (.iconst 1, 1) := by decide +kernel
theorem dRe_put_25 : decode cRe_put 25 = .ok (.goto 4, 3) := by decide +kernel
theorem dRe_put_28 : decode cRe_put 28 = .ok (.iconst 2, 1) := by decide +kernel
theorem dRe_put_29 : decode cRe_put 29 = .ok (.istore 6, 2) := by decide +kernel
theorem dRe_put_31 : decode cRe_put 31 = .ok (.aload_n 0, 1) := by decide +kernel
theorem dRe_put_32 : decode cRe_put 32 = .ok (.getfield 11, 3) := by decide +kernel
theorem dRe_put_35 : decode cRe_put 35 = .ok (.iconst 0, 1) := by decide +kernel
theorem dRe_put_36 : decode cRe_put 36 = .ok (.aaload, 1) := by decide +kernel
theorem dRe_put_37 : decode cRe_put 37 = .ok (.aload_n 0, 1) := by decide +kernel
theorem dRe_put_38 : decode cRe_put 38 = .ok (.getfield 33, 3) := by decide +kernel
theorem dRe_put_41 : decode cRe_put 41 = .ok (.aload_n 1, 1) := by decide +kernel
theorem dRe_put_42 : decode cRe_put 42 = .ok (.iload_n 2, 1) := by decide +kernel
theorem dRe_put_43 : decode cRe_put 43 = .ok (.iload 5, 2) := by decide +kernel
theorem dRe_put_45 : decode cRe_put 45 = .ok (.invokevirtual 52, 3) := by decide +kernel
theorem dRe_put_48 : decode cRe_put 48 = .ok (.iastore, 1) := by decide +kernel
theorem dRe_put_49 : decode cRe_put 49 = .ok (.aload_n 0, 1) := by decide +kernel
theorem dRe_put_50 : decode cRe_put 50 = .ok (.getfield 16, 3) := by decide +kernel
theorem dRe_put_53 : decode cRe_put 53 = .ok (.iconst 0, 1) := by decide +kernel
theorem dRe_put_54 : decode cRe_put 54 = .ok (.aaload, 1) := by decide +kernel
theorem dRe_put_55 : decode cRe_put 55 = .ok (.aload_n 0, 1) := by decide +kernel
theorem dRe_put_56 : decode cRe_put 56 = .ok (.getfield 33, 3) := by decide +kernel
theorem dRe_put_59 : decode cRe_put 59 = .ok (.aload_n 1, 1) := by decide +kernel
theorem dRe_put_60 : decode cRe_put 60 = .ok (.iload_n 2, 1) := by decide +kernel
theorem dRe_put_61 : decode cRe_put 61 = .ok (.iload 5, 2) := by decide +kernel
theorem dRe_put_63 : decode cRe_put 63 = .ok (.invokevirtual 56, 3) := by decide +kernel
theorem dRe_put_66 : decode cRe_put 66 = .ok (.iastore, 1) := by decide +kernel
theorem dRe_put_67 : decode cRe_put 67 = .ok (.aload_n 0, 1) := by decide +kernel
theorem dRe_put_68 : decode cRe_put 68 = .ok (.getfield 11, 3) := by decide +kernel
theorem dRe_put_71 : decode cRe_put 71 = .ok (.iconst 1, 1) := by decide +kernel
theorem dRe_put_72 : decode cRe_put 72 = .ok (.aaload, 1) := by decide +kernel
theorem dRe_put_73 : decode cRe_put 73 = .ok (.aload_n 0, 1) := by decide +kernel
theorem dRe_put_74 : decode cRe_put 74 = .ok (.getfield 33, 3) := by decide +kernel
theorem dRe_put_77 : decode cRe_put 77 = .ok (.aload_n 1, 1) := by decide +kernel
theorem dRe_put_78 : decode cRe_put 78 = .ok (.iload_n 2, 1) := by decide +kernel
theorem dRe_put_79 : decode cRe_put 79 = .ok (.iload 6, 2) := by decide +kernel
theorem dRe_put_81 : decode cRe_put 81 = .ok (.invokevirtual 52, 3) := by decide +kernel
theorem dRe_put_84 : decode cRe_put 84 = .ok (.iastore, 1) := by decide +kernel
theorem dRe_put_85 : decode cRe_put 85 = .ok (.aload_n 0, 1) := by decide +kernel
theorem dRe_put_86 : decode cRe_put 86 = .ok (.getfield 16, 3) := by decide +kernel
theorem dRe_put_89 : decode cRe_put 89 = .ok (.iconst 1, 1) := by decide +kernel
theorem dRe_put_90 : decode cRe_put 90 = .ok (.aaload, 1) := by decide +kernel
theorem dRe_put_91 : decode cRe_put 91 = .ok (.aload_n 0, 1) := by decide +kernel
theorem dRe_put_92 : decode cRe_put 92 = .ok (.getfield 33, 3) := by decide +kernel
theorem dRe_put_95 : decode cRe_put 95 = .ok (.aload_n 1, 1) := by decide +kernel
theorem dRe_put_96 : decode cRe_put 96 = .ok (.iload_n 2, 1) := by decide +kernel
theorem dRe_put_97 : decode cRe_put 97 = .ok (.iload 6, 2) := by decide +kernel
theorem dRe_put_99 : decode cRe_put 99 = .ok (.invokevirtual 56, 3) := by decide +kernel
theorem dRe_put_102 : decode cRe_put 102 = .ok (.iastore, 1) := by decide +kernel
theorem dRe_put_103 : decode cRe_put 103 = .ok (.aload_n 0, 1) := by decide +kernel
theorem dRe_put_104 : decode cRe_put 104 = .ok (.getfield 19, 3) := by decide +kernel
theorem dRe_put_107 : decode cRe_put 107 = .ok (.aload_n 0, 1) := by decide +kernel
theorem dRe_put_108 : decode cRe_put 108 = .ok (.getfield 33, 3) := by decide +kernel
theorem dRe_put_111 : decode cRe_put 111 = .ok (.iload_n 3, 1) := by decide +kernel
theorem dRe_put_112 : decode cRe_put 112 = .ok (.invokestatic 59, 3) := by decide +kernel
theorem dRe_put_115 : decode cRe_put 115 = .ok (.ifCond .eq 13, 3) := by decide +kernel
theorem dRe_put_118 : decode cRe_put 118 = .ok (.aload_n 1, 1) := by decide +kernel
theorem dRe_put_119 : decode cRe_put 119 = .ok (.iload_n 2, 1) := by decide +kernel
theorem dRe_put_120 : decode cRe_put 120 = .ok (.iload 4, 2) := by decide +kernel
theorem dRe_put_122 : decode cRe_put 122 = .ok (.invokevirtual 52, 3) := by decide +kernel
theorem dRe_put_125 : decode cRe_put 125 = .ok (.goto 11, 3) := by decide +kernel
theorem dRe_put_128 : decode cRe_put 128 = .ok (.aload_n 1, 1) := by decide +kernel
theorem dRe_put_129 : decode cRe_put 129 = .ok (.iload_n 2, 1) := by decide +kernel
theorem dRe_put_130 : decode cRe_put 130 = .ok (.iload 4, 2) := by decide +kernel
theorem dRe_put_132 : decode cRe_put 132 = .ok (.invokevirtual 56, 3) := by decide +kernel
theorem dRe_put_135 : decode cRe_put 135 = .ok (.ineg, 1) := by decide +kernel
theorem dRe_put_136 : decode cRe_put 136 = .ok (.iastore, 1) := by decide +kernel
theorem dRe_put_137 : decode cRe_put 137 = .ok (.aload_n 0, 1) := by decide +kernel
theorem dRe_put_138 : decode cRe_put 138 = .ok (.dup, 1) := by decide +kernel
theorem dRe_put_139 : decode cRe_put 139 = .ok (.getfield 33, 3) := by decide +kernel
theorem dRe_put_142 : decode cRe_put 142 = .ok (.iconst 1, 1) := by decide +kernel
theorem dRe_put_143 : decode cRe_put 143 = .ok (.iadd, 1) := by decide +kernel
theorem dRe_put_144 : decode cRe_put 144 = .ok (.putfield 33, 3) := by decide +kernel
theorem dRe_put_147 : decode cRe_put 147 = .ok (.return_, 1) := by decide +kernel
theorem dRe_spans_0 : decode cRe_spans 0 = .ok (.aload_n 0, 1) := by decide +kernel
theorem dRe_spans_1 : decode cRe_spans 1 = .ok (.getfield 11, 3) := by decide +kernel
theorem dRe_spans_4 : decode cRe_spans 4 = .ok (.iload_n 2, 1) := by decide +kernel
theorem dRe_spans_5 : decode cRe_spans 5 = .ok (.aaload, 1) := by decide +kernel
theorem dRe_spans_6 : decode cRe_spans 6 = .ok (.iload_n 1, 1) := by decide +kernel
theorem dRe_spans_7 : decode cRe_spans 7 = .ok (.iaload, 1) := by decide +kernel
theorem dRe_spans_8 : decode cRe_spans 8 = .ok (.iload_n 3, 1) := by decide +kernel
theorem dRe_spans_9 : decode cRe_spans 9 = .ok (.if_icmp .gt 20, 3) := by decide +kernel
theorem dRe_spans_12 : decode cRe_spans 12 = .ok (.iload 4, 2) := by decide +kernel
theorem dRe_spans_14 : decode cRe_spans 14 = .ok (.aload_n 0, 1) := by decide +kernel
theorem dRe_spans_15 : decode cRe_spans 15 = .ok (.getfield 16, 3) := by decide +kernel
theorem dRe_spans_18 : decode cRe_spans 18 = .ok (.iload_n 2, 1) := by decide +kernel
theorem dRe_spans_19 : decode cRe_spans 19 = .ok (.aaload, 1) := by decide +kernel
theorem dRe_spans_20 : decode cRe_spans 20 = .ok (.iload_n 1, 1) := by decide +kernel
theorem dRe_spans_21 : decode cRe_spans 21 = .ok (.iaload, 1) := by decide +kernel
theorem dRe_spans_22 : decode cRe_spans 22 = .ok (.if_icmp .gt 7, 3) := by decide +kernel
theorem dRe_spans_25 : decode cRe_spans 25 = .ok (.iconst 1, 1) := by decide +kernel
theorem dRe_spans_26 : decode cRe_spans 26 = .ok (.goto 4, 3) := by decide +kernel
theorem dRe_spans_29 : decode cRe_spans 29 = .ok (.iconst 0, 1) := by decide +kernel
theorem dRe_spans_30 : decode cRe_spans 30 = .ok (.ireturn, 1) := by decide +kernel
theorem dRe_takeCut_0 : decode cRe_takeCut 0 = .ok (.aload_n 0, 1) := by decide +kernel
theorem dRe_takeCut_1 : decode cRe_takeCut 1 = .ok (.iconst 0, 1) := by decide +kernel
theorem dRe_takeCut_2 : decode cRe_takeCut 2 = .ok (.putfield 33, 3) := by decide +kernel
theorem dRe_takeCut_5 : decode cRe_takeCut 5 = .ok (.iconst 0, 1) := by decide +kernel
theorem dRe_takeCut_6 : decode cRe_takeCut 6 = .ok (.istore 5, 2) := by decide +kernel
theorem dRe_takeCut_8 : decode cRe_takeCut 8 = .ok (.iload 5, 2) := by decide +kernel
theorem dRe_takeCut_10 : decode cRe_takeCut 10 = .ok (.aload_n 1, 1) := by decide +kernel
theorem dRe_takeCut_11 : decode cRe_takeCut 11 = .ok (.getfield 37, 3) := by decide +kernel
theorem dRe_takeCut_14 : decode cRe_takeCut 14 = .ok (.if_icmp .ge 31, 3) := by decide +kernel
theorem dRe_takeCut_17 : decode cRe_takeCut 17 = .ok (.aload_n 1, 1) := by decide +kernel
theorem dRe_takeCut_18 : decode cRe_takeCut 18 = .ok (.iload 5, 2) := by decide +kernel
theorem dRe_takeCut_20 : decode cRe_takeCut 20 = .ok (.iload_n 2, 1) := by decide +kernel
theorem dRe_takeCut_21 : decode cRe_takeCut 21 = .ok (.invokestatic 44, 3) := by decide +kernel
theorem dRe_takeCut_24 : decode cRe_takeCut 24 = .ok (.lload_n 3, 1) := by decide +kernel
theorem dRe_takeCut_25 : decode cRe_takeCut 25 = .ok (.invokevirtual 48, 3) := by decide +kernel
theorem dRe_takeCut_28 : decode cRe_takeCut 28 = .ok (.ifCond .eq 11, 3) := by decide +kernel
theorem dRe_takeCut_31 : decode cRe_takeCut 31 = .ok (.aload_n 0, 1) := by decide +kernel
theorem dRe_takeCut_32 : decode cRe_takeCut 32 = .ok (.aload_n 1, 1) := by decide +kernel
theorem dRe_takeCut_33 : decode cRe_takeCut 33 = .ok (.iload 5, 2) := by decide +kernel
theorem dRe_takeCut_35 : decode cRe_takeCut 35 = .ok (.iload_n 2, 1) := by decide +kernel
theorem dRe_takeCut_36 : decode cRe_takeCut 36 = .ok (.invokevirtual 40, 3) := by decide +kernel
theorem dRe_takeCut_39 : decode cRe_takeCut 39 = .ok (.iinc 5 1, 3) := by decide +kernel
theorem dRe_takeCut_42 : decode cRe_takeCut 42 = .ok (.goto (-34), 3) := by decide +kernel
theorem dRe_takeCut_45 : decode cRe_takeCut 45 = .ok (.return_, 1) := by decide +kernel
theorem dRe_area_0 : decode cRe_area 0 = .ok (.aload_n 0, 1) := by decide +kernel
theorem dRe_area_1 : decode cRe_area 1 = .ok (.getfield 26, 3) := by decide +kernel
theorem dRe_area_4 : decode cRe_area 4 = .ok (.aload_n 0, 1) := by decide +kernel
theorem dRe_area_5 : decode cRe_area 5 = .ok (.iconst 0, 1) := by decide +kernel
theorem dRe_area_6 : decode cRe_area 6 = .ok (.invokevirtual 63, 3) := by decide +kernel
theorem dRe_area_9 : decode cRe_area 9 = .ok (.aload_n 0, 1) := by decide +kernel
theorem dRe_area_10 : decode cRe_area 10 = .ok (.getfield 30, 3) := by decide +kernel
theorem dRe_area_13 : decode cRe_area 13 = .ok (.aload_n 0, 1) := by decide +kernel
theorem dRe_area_14 : decode cRe_area 14 = .ok (.iconst 1, 1) := by decide +kernel
theorem dRe_area_15 : decode cRe_area 15 = .ok (.invokevirtual 63, 3) := by decide +kernel
theorem dRe_area_18 : decode cRe_area 18 = .ok (.lconst 0, 1) := by decide +kernel
theorem dRe_area_19 : decode cRe_area 19 = .ok (.lstore_n 1, 1) := by decide +kernel
theorem dRe_area_20 : decode cRe_area 20 = .ok (.iconst 0, 1) := by decide +kernel
theorem dRe_area_21 : decode cRe_area 21 = .ok (.istore_n 3, 1) := by decide +kernel
theorem dRe_area_22 : decode cRe_area 22 = .ok (.iload_n 3, 1) := by decide +kernel
theorem dRe_area_23 : decode cRe_area 23 = .ok (.iconst 1, 1) := by decide +kernel
theorem dRe_area_24 : decode cRe_area 24 = .ok (.iadd, 1) := by decide +kernel
theorem dRe_area_25 : decode cRe_area 25 = .ok (.aload_n 0, 1) := by decide +kernel
theorem dRe_area_26 : decode cRe_area 26 = .ok (.getfield 26, 3) := by decide +kernel
theorem dRe_area_29 : decode cRe_area 29 = .ok (.getfield 67, 3) := by decide +kernel
theorem dRe_area_32 : decode cRe_area 32 = .ok (.if_icmp .ge 51, 3) := by decide +kernel
theorem dRe_area_35 : decode cRe_area 35 = .ok (.aload_n 0, 1) := by decide +kernel
theorem dRe_area_36 : decode cRe_area 36 = .ok (.getfield 26, 3) := by decide +kernel
theorem dRe_area_39 : decode cRe_area 39 = .ok (.getfield 68, 3) := by decide +kernel
theorem dRe_area_42 : decode cRe_area 42 = .ok (.iload_n 3, 1) := by decide +kernel
theorem dRe_area_43 : decode cRe_area 43 = .ok (.iaload, 1) := by decide +kernel
theorem dRe_area_44 : decode cRe_area 44 = .ok (.istore 4, 2) := by decide +kernel
theorem dRe_area_46 : decode cRe_area 46 = .ok (.aload_n 0, 1) := by decide +kernel
theorem dRe_area_47 : decode cRe_area 47 = .ok (.getfield 26, 3) := by decide +kernel
theorem dRe_area_50 : decode cRe_area 50 = .ok (.getfield 68, 3) := by decide +kernel
theorem dRe_area_53 : decode cRe_area 53 = .ok (.iload_n 3, 1) := by decide +kernel
theorem dRe_area_54 : decode cRe_area 54 = .ok (.iconst 1, 1) := by decide +kernel
theorem dRe_area_55 : decode cRe_area 55 = .ok (.iadd, 1) := by decide +kernel
theorem dRe_area_56 : decode cRe_area 56 = .ok (.iaload, 1) := by decide +kernel
theorem dRe_area_57 : decode cRe_area 57 = .ok (.istore 5, 2) := by decide +kernel
theorem dRe_area_59 : decode cRe_area 59 = .ok (.lload_n 1, 1) := by decide +kernel
theorem dRe_area_60 : decode cRe_area 60 = .ok (.iload 5, 2) := by decide +kernel
theorem dRe_area_62 : decode cRe_area 62 = .ok (.iload 4, 2) := by decide +kernel
theorem dRe_area_64 : decode cRe_area 64 = .ok (.isub, 1) := by decide +kernel
theorem dRe_area_65 : decode cRe_area 65 = .ok (.i2l, 1) := by decide +kernel
theorem dRe_area_66 : decode cRe_area 66 = .ok (.aload_n 0, 1) := by decide +kernel
theorem dRe_area_67 : decode cRe_area 67 = .ok (.iload 4, 2) := by decide +kernel
theorem dRe_area_69 : decode cRe_area 69 = .ok (.iload 5, 2) := by decide +kernel
theorem dRe_area_71 : decode cRe_area 71 = .ok (.invokevirtual 71, 3) := by decide +kernel
theorem dRe_area_74 : decode cRe_area 74 = .ok (.lmul, 1) := by decide +kernel
theorem dRe_area_75 : decode cRe_area 75 = .ok (.ladd, 1) := by decide +kernel
theorem dRe_area_76 : decode cRe_area 76 = .ok (.lstore_n 1, 1) := by decide +kernel
theorem dRe_area_77 : decode cRe_area 77 = .ok (.iinc 3 1, 3) := by decide +kernel
theorem dRe_area_80 : decode cRe_area 80 = .ok (.goto (-58), 3) := by decide +kernel
theorem dRe_area_83 : decode cRe_area 83 = .ok (.lload_n 1, 1) := by decide +kernel
theorem dRe_area_84 : decode cRe_area 84 = .ok (.lreturn, 1) := by decide +kernel
theorem dRe_heightBetween_0 : decode cRe_heightBetween 0 = .ok (.lconst 0, 1) := by decide +kernel
theorem dRe_heightBetween_1 : decode cRe_heightBetween 1 = .ok (.lstore_n 3, 1) := by decide +kernel
theorem dRe_heightBetween_2 : decode cRe_heightBetween 2 = .ok (.iconst 0, 1) := by decide +kernel
theorem dRe_heightBetween_3 : decode cRe_heightBetween 3 = .ok (.istore 5, 2) := by decide +kernel
theorem dRe_heightBetween_5 : decode cRe_heightBetween 5 = .ok (.iload 5, 2) := by decide +kernel
theorem dRe_heightBetween_7 : decode cRe_heightBetween 7 = .ok (.iconst 1, 1) := by decide +kernel
theorem dRe_heightBetween_8 : decode cRe_heightBetween 8 = .ok (.iadd, 1) := by decide +kernel
theorem dRe_heightBetween_9 : decode cRe_heightBetween 9 = .ok (.aload_n 0, 1) := by decide +kernel
theorem dRe_heightBetween_10 : decode cRe_heightBetween 10 = .ok (.getfield 30, 3) := by decide +kernel
theorem dRe_heightBetween_13 : decode cRe_heightBetween 13 = .ok (.getfield 67, 3) := by decide +kernel
theorem dRe_heightBetween_16 : decode cRe_heightBetween 16 = .ok (.if_icmp .ge 57, 3) := by decide +kernel
theorem dRe_heightBetween_19 : decode cRe_heightBetween 19 = .ok (.aload_n 0, 1) := by decide +kernel
theorem dRe_heightBetween_20 : decode cRe_heightBetween 20 = .ok (.getfield 30, 3) := by decide +kernel
theorem dRe_heightBetween_23 : decode cRe_heightBetween 23 = .ok (.getfield 68, 3) := by decide +kernel
theorem dRe_heightBetween_26 : decode cRe_heightBetween 26 = .ok (.iload 5, 2) := by decide +kernel
theorem dRe_heightBetween_28 : decode cRe_heightBetween 28 = .ok (.iaload, 1) := by decide +kernel
theorem dRe_heightBetween_29 : decode cRe_heightBetween 29 = .ok (.istore 6, 2) := by decide +kernel
theorem dRe_heightBetween_31 : decode cRe_heightBetween 31 = .ok (.aload_n 0, 1) := by decide +kernel
theorem dRe_heightBetween_32 : decode cRe_heightBetween 32 = .ok (.getfield 30, 3) := by decide +kernel
theorem dRe_heightBetween_35 : decode cRe_heightBetween 35 = .ok (.getfield 68, 3) := by decide +kernel
theorem dRe_heightBetween_38 : decode cRe_heightBetween 38 = .ok (.iload 5, 2) := by decide +kernel
theorem dRe_heightBetween_40 : decode cRe_heightBetween 40 = .ok (.iconst 1, 1) := by decide +kernel
theorem dRe_heightBetween_41 : decode cRe_heightBetween 41 = .ok (.iadd, 1) := by decide +kernel
theorem dRe_heightBetween_42 : decode cRe_heightBetween 42 = .ok (.iaload, 1) := by decide +kernel
theorem dRe_heightBetween_43 : decode cRe_heightBetween 43 = .ok (.istore 7, 2) := by decide +kernel
theorem dRe_heightBetween_45 : decode cRe_heightBetween 45 = .ok (.aload_n 0, 1) := by decide +kernel
theorem dRe_heightBetween_46 : decode cRe_heightBetween 46 = .ok (.iload_n 1, 1) := by decide +kernel
theorem dRe_heightBetween_47 : decode cRe_heightBetween 47 = .ok (.iload_n 2, 1) := by decide +kernel
theorem dRe_heightBetween_48 : decode cRe_heightBetween 48 = .ok (.iload 6, 2) := by decide +kernel
theorem dRe_heightBetween_50 : decode cRe_heightBetween 50 = .ok (.iload 7, 2) := by decide +kernel
theorem dRe_heightBetween_52 : decode cRe_heightBetween 52 = .ok (.invokevirtual 75, 3) := by decide +kernel
theorem dRe_heightBetween_55 : decode cRe_heightBetween 55 = .ok (.ifCond .eq 12, 3) := by decide +kernel
theorem dRe_heightBetween_58 : decode cRe_heightBetween 58 = .ok (.lload_n 3, 1) := by decide +kernel
theorem dRe_heightBetween_59 : decode cRe_heightBetween 59 = .ok (.iload 7, 2) := by decide +kernel
theorem dRe_heightBetween_61 : decode cRe_heightBetween 61 = .ok (.iload 6, 2) := by decide +kernel
theorem dRe_heightBetween_63 : decode cRe_heightBetween 63 = .ok (.isub, 1) := by decide +kernel
theorem dRe_heightBetween_64 : decode cRe_heightBetween 64 = .ok (.i2l, 1) := by decide +kernel
theorem dRe_heightBetween_65 : decode cRe_heightBetween 65 = .ok (.ladd, 1) := by decide +kernel
theorem dRe_heightBetween_66 : decode cRe_heightBetween 66 = .ok (.lstore_n 3, 1) := by decide +kernel
theorem dRe_heightBetween_67 : decode cRe_heightBetween 67 = .ok (.iinc 5 1, 3) := by decide +kernel
theorem dRe_heightBetween_70 : decode cRe_heightBetween 70 = .ok (.goto (-65), 3) := by decide +kernel
theorem dRe_heightBetween_73 : decode cRe_heightBetween 73 = .ok (.lload_n 3, 1) := by decide +kernel
theorem dRe_heightBetween_74 : decode cRe_heightBetween 74 = .ok (.lreturn, 1) := by decide +kernel
theorem dRe_isFilled_0 : decode cRe_isFilled 0 = .ok (.iconst 0, 1) := by decide +kernel
theorem dRe_isFilled_1 : decode cRe_isFilled 1 = .ok (.istore 5, 2) := by decide +kernel
theorem dRe_isFilled_3 : decode cRe_isFilled 3 = .ok (.iload 5, 2) := by decide +kernel
theorem dRe_isFilled_5 : decode cRe_isFilled 5 = .ok (.aload_n 0, 1) := by decide +kernel
theorem dRe_isFilled_6 : decode cRe_isFilled 6 = .ok (.getfield 33, 3) := by decide +kernel
theorem dRe_isFilled_9 : decode cRe_isFilled 9 = .ok (.if_icmp .ge 36, 3) := by decide +kernel
theorem dRe_isFilled_12 : decode cRe_isFilled 12 = .ok (.aload_n 0, 1) := by decide +kernel
theorem dRe_isFilled_13 : decode cRe_isFilled 13 = .ok (.iload 5, 2) := by decide +kernel
theorem dRe_isFilled_15 : decode cRe_isFilled 15 = .ok (.iconst 0, 1) := by decide +kernel
theorem dRe_isFilled_16 : decode cRe_isFilled 16 = .ok (.iload_n 1, 1) := by decide +kernel
theorem dRe_isFilled_17 : decode cRe_isFilled 17 = .ok (.iload_n 2, 1) := by decide +kernel
theorem dRe_isFilled_18 : decode cRe_isFilled 18 = .ok (.invokevirtual 79, 3) := by decide +kernel
theorem dRe_isFilled_21 : decode cRe_isFilled 21 = .ok (.ifCond .eq 18, 3) := by decide +kernel
theorem dRe_isFilled_24 : decode cRe_isFilled 24 = .ok (.aload_n 0, 1) := by decide +kernel
theorem dRe_isFilled_25 : decode cRe_isFilled 25 = .ok (.iload 5, 2) := by decide +kernel
theorem dRe_isFilled_27 : decode cRe_isFilled 27 = .ok (.iconst 1, 1) := by decide +kernel
theorem dRe_isFilled_28 : decode cRe_isFilled 28 = .ok (.iload_n 3, 1) := by decide +kernel
theorem dRe_isFilled_29 : decode cRe_isFilled 29 = .ok (.iload 4, 2) := by decide +kernel
theorem dRe_isFilled_31 : decode cRe_isFilled 31 = .ok (.invokevirtual 79, 3) := by decide +kernel
theorem dRe_isFilled_34 : decode cRe_isFilled 34 = .ok (.ifCond .eq 5, 3) := by decide +kernel
theorem dRe_isFilled_37 : decode cRe_isFilled 37 = .ok (.iconst 1, 1) := by decide +kernel
theorem dRe_isFilled_38 : decode cRe_isFilled 38 = .ok (.ireturn, 1) := by decide +kernel
theorem dRe_isFilled_39 : decode cRe_isFilled 39 = .ok (.iinc 5 1, 3) := by decide +kernel
theorem dRe_isFilled_42 : decode cRe_isFilled 42 = .ok (.goto (-39), 3) := by decide +kernel
theorem dRe_isFilled_45 : decode cRe_isFilled 45 = .ok (.iconst 0, 1) := by decide +kernel
theorem dRe_isFilled_46 : decode cRe_isFilled 46 = .ok (.ireturn, 1) := by decide +kernel
set_option maxRecDepth 100000 in
theorem flRe_11 : Cond.fieldLink "PartDrawings$Rectangles" 11 (TRe 0).1 (TRe 0).2.1 (TRe 0).2.2.1 ∈ gW := gW_1 132 rfl rfl
set_option maxRecDepth 100000 in
theorem flRe_16 : Cond.fieldLink "PartDrawings$Rectangles" 16 (TRe 1).1 (TRe 1).2.1 (TRe 1).2.2.1 ∈ gW := gW_1 135 rfl rfl
set_option maxRecDepth 100000 in
theorem flRe_33 : Cond.fieldLink "PartDrawings$Rectangles" 33 (TRe 3).1 (TRe 3).2.1 (TRe 3).2.2.1 ∈ gW := gW_1 140 rfl rfl
set_option maxRecDepth 100000 in
theorem kRe_79 : inT (kV "PartDrawings$Rectangles" 79 yRe_spans cRe_spans 5 (some .boolean)) := gW_l [742, 606, 607, 48, 608] rfl (by decide +kernel)
set_option maxHeartbeats 4000000 in
set_option maxRecDepth 100000 in
theorem c_Rectangles_spans (l : Launch) (D : va_G) (cI cG cL cB : ClassId) (r0 : Nat) (hf : Nat) (ht : Nat) (hz : Nat) (ca : Nat) (cu : Nat) (f0 : Nat) (f1 : Nat) (t0 : Nat) (t1 : Nat) (rn : Int) (Fa : Int → Int) (Fb : Int → Int) (Ta : Int → Int) (Tb : Int → Int) (Z : Int → Int) (r : Int) (wy : Int) (be : Int) (en : Int) (bFa : ∀ j : Int, I32 (Fa j)) (bFb : ∀ j : Int, I32 (Fb j)) (bTa : ∀ j : Int, I32 (Ta j)) (bTb : ∀ j : Int, I32 (Tb j)) (bZ : ∀ j : Int, I32 (Z j)) (hrn0 : 0 ≤ rn) (hrn1 : rn ≤ 24) (hr0 : 0 ≤ r) (hr1 : r < 24) (hwy : wy = 0 ∨ wy = 1) (hIbe : I32 be) (hIen : I32 en) : Ci l yRe_spans cRe_spans 5 (some .boolean) 0 0 0 D zCl (zT cI cG cL cB) [.ref r0, .int (zI r), .int (zI wy), .int (zI be), .int (zI en)] [(r0, .inr (6, [.ref hf, .ref ht, .ref hz, .int (zI rn), .ref ca, .ref cu])), (hf, .inl (cG, 2, .inr (.inr (.inr (.inr (g2 f0 f1)))))), (ht, .inl (cG, 2, .inr (.inr (.inr (.inr (g2 t0 t1)))))), (f0, .inl (cI, 24, .inl (fI Fa))), (f1, .inl (cI, 24, .inl (fI Fb))), (t0, .inl (cI, 24, .inl (fI Ta))), (t1, .inl (cI, 24, .inl (fI Tb))), (hz, .inl (cI, 24, .inl (fI Z)))] (fun x w => x = zI (bz (spZ (sel2 wy Fa Fb) (sel2 wy Ta Tb) r be en)) ∧ w = [(r0, .inr (6, [.ref hf, .ref ht, .ref hz, .int (zI rn), .ref ca, .ref cu])), (hf, .inl (cG, 2, .inr (.inr (.inr (.inr (g2 f0 f1)))))), (ht, .inl (cG, 2, .inr (.inr (.inr (.inr (g2 t0 t1)))))), (f0, .inl (cI, 24, .inl (fI Fa))), (f1, .inl (cI, 24, .inl (fI Fb))), (t0, .inl (cI, 24, .inl (fI Ta))), (t1, .inl (cI, 24, .inl (fI Tb))), (hz, .inl (cI, 24, .inl (fI Z)))]) := by
  rcases hwy with rfl | rfl
  · refine zBz (by decide) (Nat.le_of_ble_eq_true rfl) ?_
    intro p e s m args below meth c ls A H locs Q C hin hl hW hQ
    have hl : lv_has ls 5 [(0, .ref r0), (1, .int (zI r)), (2, .int (zI 0)), (3, .int (zI be)), (4, .int (zI en))] := hl
    refine lv_aload_n C.1 C.2.1 dRe_spans_0 rfl (lv_at hl 0 rfl) ?_
    refine zget C hW 0 0 rfl rfl inRe (by decide) flRe_11 rfl dRe_spans_1 ?_
    refine lv_iload_n C.1 C.2.1 dRe_spans_4 rfl (lv_at hl 2 rfl) ?_
    refine zgald C hW 1 1 (r := f0) rfl rfl rfl (by omega) (by omega) (by decide) rfl dRe_spans_5 ?_
    refine lv_iload_n C.1 C.2.1 dRe_spans_6 rfl (lv_at hl 1 rfl) ?_
    refine ziald C hW 3 0 rfl rfl (by omega) (by omega) (by decide) dRe_spans_7 ?_
    have hb1 := bFa r
    refine lv_iload_n C.1 C.2.1 dRe_spans_8 rfl (lv_at hl 3 rfl) ?_
    refine zicmp_gt (tgt := 29) C (by omega) (by omega) dRe_spans_9 (by decide) (fun c9 => ?_) (fun c9 => ?_)
    · refine lv_iconst (v := zI 0) C.1 C.2.1 dRe_spans_29 (by decide) ?_
      exact hQ (zI 0) _ H locs _ _ _ ls hW (by decide) ⟨congrArg zI (by simp only [spZ, sel2, bz, decide_eq_true_eq]; split <;> simp_all <;> omega), rfl⟩ (by omega) (by omega) dRe_spans_30
    · refine lv_iload C.1 C.2.1 dRe_spans_12 (lv_at hl 4 rfl) ?_
      refine lv_aload_n C.1 C.2.1 dRe_spans_14 rfl (lv_at hl 0 rfl) ?_
      refine zget C hW 0 1 rfl rfl inRe (by decide) flRe_16 rfl dRe_spans_15 ?_
      refine lv_iload_n C.1 C.2.1 dRe_spans_18 rfl (lv_at hl 2 rfl) ?_
      refine zgald C hW 2 1 (r := t0) rfl rfl rfl (by omega) (by omega) (by decide) rfl dRe_spans_19 ?_
      refine lv_iload_n C.1 C.2.1 dRe_spans_20 rfl (lv_at hl 1 rfl) ?_
      refine ziald C hW 5 0 rfl rfl (by omega) (by omega) (by decide) dRe_spans_21 ?_
      have hb2 := bTa r
      refine zicmp_gt (tgt := 29) C (by omega) (by omega) dRe_spans_22 (by decide) (fun c22 => ?_) (fun c22 => ?_)
      · refine lv_iconst (v := zI 0) C.1 C.2.1 dRe_spans_29 (by decide) ?_
        exact hQ (zI 0) _ H locs _ _ _ ls hW (by decide) ⟨congrArg zI (by simp only [spZ, sel2, bz, decide_eq_true_eq]; split <;> simp_all <;> omega), rfl⟩ (by omega) (by omega) dRe_spans_30
      · refine lv_iconst (v := zI 1) C.1 C.2.1 dRe_spans_25 (by decide) ?_
        refine lv_goto (tgt := 30) C.1 C.2.1 dRe_spans_26 (by decide) ?_
        exact hQ (zI 1) _ H locs _ _ _ ls hW (by decide) ⟨congrArg zI (by simp only [spZ, sel2, bz, decide_eq_true_eq]; split <;> simp_all <;> omega), rfl⟩ (by omega) (by omega) dRe_spans_30
  · refine zBz (by decide) (Nat.le_of_ble_eq_true rfl) ?_
    intro p e s m args below meth c ls A H locs Q C hin hl hW hQ
    have hl : lv_has ls 5 [(0, .ref r0), (1, .int (zI r)), (2, .int (zI 1)), (3, .int (zI be)), (4, .int (zI en))] := hl
    refine lv_aload_n C.1 C.2.1 dRe_spans_0 rfl (lv_at hl 0 rfl) ?_
    refine zget C hW 0 0 rfl rfl inRe (by decide) flRe_11 rfl dRe_spans_1 ?_
    refine lv_iload_n C.1 C.2.1 dRe_spans_4 rfl (lv_at hl 2 rfl) ?_
    refine zgald C hW 1 1 (r := f1) rfl rfl rfl (by omega) (by omega) (by decide) rfl dRe_spans_5 ?_
    refine lv_iload_n C.1 C.2.1 dRe_spans_6 rfl (lv_at hl 1 rfl) ?_
    refine ziald C hW 4 0 rfl rfl (by omega) (by omega) (by decide) dRe_spans_7 ?_
    have hb1 := bFb r
    refine lv_iload_n C.1 C.2.1 dRe_spans_8 rfl (lv_at hl 3 rfl) ?_
    refine zicmp_gt (tgt := 29) C (by omega) (by omega) dRe_spans_9 (by decide) (fun c9 => ?_) (fun c9 => ?_)
    · refine lv_iconst (v := zI 0) C.1 C.2.1 dRe_spans_29 (by decide) ?_
      exact hQ (zI 0) _ H locs _ _ _ ls hW (by decide) ⟨congrArg zI (by simp only [spZ, sel2, bz, decide_eq_true_eq]; split <;> simp_all <;> omega), rfl⟩ (by omega) (by omega) dRe_spans_30
    · refine lv_iload C.1 C.2.1 dRe_spans_12 (lv_at hl 4 rfl) ?_
      refine lv_aload_n C.1 C.2.1 dRe_spans_14 rfl (lv_at hl 0 rfl) ?_
      refine zget C hW 0 1 rfl rfl inRe (by decide) flRe_16 rfl dRe_spans_15 ?_
      refine lv_iload_n C.1 C.2.1 dRe_spans_18 rfl (lv_at hl 2 rfl) ?_
      refine zgald C hW 2 1 (r := t1) rfl rfl rfl (by omega) (by omega) (by decide) rfl dRe_spans_19 ?_
      refine lv_iload_n C.1 C.2.1 dRe_spans_20 rfl (lv_at hl 1 rfl) ?_
      refine ziald C hW 6 0 rfl rfl (by omega) (by omega) (by decide) dRe_spans_21 ?_
      have hb2 := bTb r
      refine zicmp_gt (tgt := 29) C (by omega) (by omega) dRe_spans_22 (by decide) (fun c22 => ?_) (fun c22 => ?_)
      · refine lv_iconst (v := zI 0) C.1 C.2.1 dRe_spans_29 (by decide) ?_
        exact hQ (zI 0) _ H locs _ _ _ ls hW (by decide) ⟨congrArg zI (by simp only [spZ, sel2, bz, decide_eq_true_eq]; split <;> simp_all <;> omega), rfl⟩ (by omega) (by omega) dRe_spans_30
      · refine lv_iconst (v := zI 1) C.1 C.2.1 dRe_spans_25 (by decide) ?_
        refine lv_goto (tgt := 30) C.1 C.2.1 dRe_spans_26 (by decide) ?_
        exact hQ (zI 1) _ H locs _ _ _ ls hW (by decide) ⟨congrArg zI (by simp only [spZ, sel2, bz, decide_eq_true_eq]; split <;> simp_all <;> omega), rfl⟩ (by omega) (by omega) dRe_spans_30
set_option maxHeartbeats 4000000 in
set_option maxRecDepth 100000 in
theorem c_Rectangles_isFilled (l : Launch) (D : va_G) (cI cG cL cB : ClassId) (r0 : Nat) (hf : Nat) (ht : Nat) (hz : Nat) (ca : Nat) (cu : Nat) (f0 : Nat) (f1 : Nat) (t0 : Nat) (t1 : Nat) (rn : Int) (Fa : Int → Int) (Fb : Int → Int) (Ta : Int → Int) (Tb : Int → Int) (Z : Int → Int) (be : Int) (en : Int) (lo : Int) (hi : Int) (bFa : ∀ j : Int, I32 (Fa j)) (bFb : ∀ j : Int, I32 (Fb j)) (bTa : ∀ j : Int, I32 (Ta j)) (bTb : ∀ j : Int, I32 (Tb j)) (bZ : ∀ j : Int, I32 (Z j)) (hrn0 : 0 ≤ rn) (hrn1 : rn ≤ 24) (hIbe : I32 be) (hIen : I32 en) (hIlo : I32 lo) (hIhi : I32 hi) : Ci l yRe_isFilled cRe_isFilled 6 (some .boolean) 1 0 0 D zCl (zT cI cG cL cB) [.ref r0, .int (zI be), .int (zI en), .int (zI lo), .int (zI hi)] [(r0, .inr (6, [.ref hf, .ref ht, .ref hz, .int (zI rn), .ref ca, .ref cu])), (hf, .inl (cG, 2, .inr (.inr (.inr (.inr (g2 f0 f1)))))), (ht, .inl (cG, 2, .inr (.inr (.inr (.inr (g2 t0 t1)))))), (f0, .inl (cI, 24, .inl (fI Fa))), (f1, .inl (cI, 24, .inl (fI Fb))), (t0, .inl (cI, 24, .inl (fI Ta))), (t1, .inl (cI, 24, .inl (fI Tb))), (hz, .inl (cI, 24, .inl (fI Z)))] (fun x w => x = zI (bz (anyZ (fillP Fa Fb Ta Tb be en lo hi) rn)) ∧ w = [(r0, .inr (6, [.ref hf, .ref ht, .ref hz, .int (zI rn), .ref ca, .ref cu])), (hf, .inl (cG, 2, .inr (.inr (.inr (.inr (g2 f0 f1)))))), (ht, .inl (cG, 2, .inr (.inr (.inr (.inr (g2 t0 t1)))))), (f0, .inl (cI, 24, .inl (fI Fa))), (f1, .inl (cI, 24, .inl (fI Fb))), (t0, .inl (cI, 24, .inl (fI Ta))), (t1, .inl (cI, 24, .inl (fI Tb))), (hz, .inl (cI, 24, .inl (fI Z)))]) := by
  refine zBz (by decide) (Nat.le_of_ble_eq_true rfl) ?_
  intro p e s m args below meth c ls A H locs Q C hin hl hW hQ
  have hl : lv_has ls 6 [(0, .ref r0), (1, .int (zI be)), (2, .int (zI en)), (3, .int (zI lo)), (4, .int (zI hi))] := hl
  refine lv_iconst (v := zI 0) C.1 C.2.1 dRe_isFilled_0 (by decide) ?_
  refine lv_istore (lv' := [(5, .int (zI 0)), (0, .ref r0), (1, .int (zI be)), (2, .int (zI en)), (3, .int (zI lo)), (4, .int (zI hi))]) C.1 C.2.1 dRe_isFilled_1 hl (by decide) rfl (fun ls hl => ?_)
  have L3 : ∀ (N : Nat) (i : Int), (rn - i).toNat < N → (0 ≤ i) → (i ≤ rn) → (anyZ (fillP Fa Fb Ta Tb be en lo hi) i = false) → ∀ (ls : Array Slot) (H : Heap) (locs : List Loc), lv_has ls 6 [(5, .int (zI i)), (0, .ref r0), (1, .int (zI be)), (2, .int (zI en)), (3, .int (zI lo)), (4, .int (zI hi))] → zw D zCl A s [(r0, .inr (6, [.ref hf, .ref ht, .ref hz, .int (zI rn), .ref ca, .ref cu])), (hf, .inl (cG, 2, .inr (.inr (.inr (.inr (g2 f0 f1)))))), (ht, .inl (cG, 2, .inr (.inr (.inr (.inr (g2 t0 t1)))))), (f0, .inl (cI, 24, .inl (fI Fa))), (f1, .inl (cI, 24, .inl (fI Fb))), (t0, .inl (cI, 24, .inl (fI Ta))), (t1, .inl (cI, 24, .inl (fI Tb))), (hz, .inl (cI, 24, .inl (fI Z)))] H locs → W p l e (zr 1 0 0) s m args below meth c H locs 0 0 Q (F0 m 3 ls []) := by
    intro N
    induction N with
    | zero => intro i hm; exact absurd hm (Nat.not_lt_zero _)
    | succ N ih3 =>
      intro i hm3 hi0 hi1 hP ls H locs hl hW
      refine lv_iload C.1 C.2.1 dRe_isFilled_3 (lv_at hl 0 rfl) ?_
      refine lv_aload_n C.1 C.2.1 dRe_isFilled_5 rfl (lv_at hl 1 rfl) ?_
      refine zget C hW 0 3 rfl rfl inRe (by decide) flRe_33 rfl dRe_isFilled_6 ?_
      refine zicmp_ge (tgt := 45) C (by omega) (by omega) dRe_isFilled_9 (by decide) (fun c9 => ?_) (fun c9 => ?_)
      · refine lv_iconst (v := zI 0) C.1 C.2.1 dRe_isFilled_45 (by decide) ?_
        exact hQ (zI 0) _ H locs _ _ _ ls hW (by decide) ⟨congrArg zI (by rw [show i = rn by omega] at hP; rw [hP]; rfl), rfl⟩ (by omega) (by omega) dRe_isFilled_46
      · refine lv_aload_n C.1 C.2.1 dRe_isFilled_12 rfl (lv_at hl 1 rfl) ?_
        refine lv_iload C.1 C.2.1 dRe_isFilled_13 (lv_at hl 0 rfl) ?_
        refine lv_iconst (v := zI 0) C.1 C.2.1 dRe_isFilled_15 (by decide) ?_
        refine lv_iload_n C.1 C.2.1 dRe_isFilled_16 rfl (lv_at hl 2 rfl) ?_
        refine lv_iload_n C.1 C.2.1 dRe_isFilled_17 rfl (lv_at hl 3 rfl) ?_
        refine zcalli (wr := []) C hW [0, 1, 2, 3, 4, 5, 6, 7] [] rfl rfl (by decide) (by decide) (zRunV (k := 4) (As := [.int (zI i), .int (zI 0), .int (zI be), .int (zI en)]) (rest := []) C hW (c_Rectangles_spans l D cI cG cL cB r0 hf ht hz ca cu f0 f1 t0 t1 rn Fa Fb Ta Tb Z i 0 be en bFa bFb bTa bTb bZ (by omega) (by omega) (by omega) (by omega) (Or.inl rfl) (by omega) (by omega) H.size) [0, 1, 2, 3, 4, 5, 6, 7] rfl (by decide) kRe_79 (by decide +kernel) ⟨by decide, by decide⟩ 0 rfl rfl rfl hl.1 (Nat.le_of_ble_eq_true rfl) dRe_isFilled_18 ⟨by first | decide | omega, by first | decide | omega⟩) (fun x w H locs hq hW => ?_)
        obtain ⟨rfl, rfl⟩ := hq
        have hW : zw D zCl A s [(r0, .inr (6, [.ref hf, .ref ht, .ref hz, .int (zI rn), .ref ca, .ref cu])), (hf, .inl (cG, 2, .inr (.inr (.inr (.inr (g2 f0 f1)))))), (ht, .inl (cG, 2, .inr (.inr (.inr (.inr (g2 t0 t1)))))), (f0, .inl (cI, 24, .inl (fI Fa))), (f1, .inl (cI, 24, .inl (fI Fb))), (t0, .inl (cI, 24, .inl (fI Ta))), (t1, .inl (cI, 24, .inl (fI Tb))), (hz, .inl (cI, 24, .inl (fI Z)))] H locs := hW
        have hr1 := bz_01 (spZ (sel2 0 Fa Fb) (sel2 0 Ta Tb) i be en)
        refine zif_eq (tgt := 39) C (by omega) dRe_isFilled_21 (by decide) (fun c21 => ?_) (fun c21 => ?_)
        · refine lv_iinc (v := zI (i + 1)) (lv' := [(5, .int (zI (i + 1))), (0, .ref r0), (1, .int (zI be)), (2, .int (zI en)), (3, .int (zI lo)), (4, .int (zI hi))]) C.1 C.2.1 dRe_isFilled_39 hl (k := 0) rfl (zI_add i 1) (by decide) rfl (fun ls hl => ?_)
          refine lv_goto (tgt := 3) C.1 C.2.1 dRe_isFilled_42 (by decide) ?_
          exact ih3 (i + 1) (by omega) (by omega) (by omega) (anyZ_n hi0 hP (Bool.and_eq_false_iff.mpr (by first | exact Or.inl ((bz_eq0 _).mpr (by omega)) | exact Or.inr ((bz_eq0 _).mpr (by omega))))) ls H locs (lv_sub hl [0, 1, 2, 3, 4, 5] rfl) hW
        · refine lv_aload_n C.1 C.2.1 dRe_isFilled_24 rfl (lv_at hl 1 rfl) ?_
          refine lv_iload C.1 C.2.1 dRe_isFilled_25 (lv_at hl 0 rfl) ?_
          refine lv_iconst (v := zI 1) C.1 C.2.1 dRe_isFilled_27 (by decide) ?_
          refine lv_iload_n C.1 C.2.1 dRe_isFilled_28 rfl (lv_at hl 4 rfl) ?_
          refine lv_iload C.1 C.2.1 dRe_isFilled_29 (lv_at hl 5 rfl) ?_
          refine zcalli (wr := []) C hW [0, 1, 2, 3, 4, 5, 6, 7] [] rfl rfl (by decide) (by decide) (zRunV (k := 4) (As := [.int (zI i), .int (zI 1), .int (zI lo), .int (zI hi)]) (rest := []) C hW (c_Rectangles_spans l D cI cG cL cB r0 hf ht hz ca cu f0 f1 t0 t1 rn Fa Fb Ta Tb Z i 1 lo hi bFa bFb bTa bTb bZ (by omega) (by omega) (by omega) (by omega) (Or.inr rfl) (by omega) (by omega) H.size) [0, 1, 2, 3, 4, 5, 6, 7] rfl (by decide) kRe_79 (by decide +kernel) ⟨by decide, by decide⟩ 0 rfl rfl rfl hl.1 (Nat.le_of_ble_eq_true rfl) dRe_isFilled_31 ⟨by first | decide | omega, by first | decide | omega⟩) (fun x w H locs hq hW => ?_)
          obtain ⟨rfl, rfl⟩ := hq
          have hW : zw D zCl A s [(r0, .inr (6, [.ref hf, .ref ht, .ref hz, .int (zI rn), .ref ca, .ref cu])), (hf, .inl (cG, 2, .inr (.inr (.inr (.inr (g2 f0 f1)))))), (ht, .inl (cG, 2, .inr (.inr (.inr (.inr (g2 t0 t1)))))), (f0, .inl (cI, 24, .inl (fI Fa))), (f1, .inl (cI, 24, .inl (fI Fb))), (t0, .inl (cI, 24, .inl (fI Ta))), (t1, .inl (cI, 24, .inl (fI Tb))), (hz, .inl (cI, 24, .inl (fI Z)))] H locs := hW
          have hr2 := bz_01 (spZ (sel2 1 Fa Fb) (sel2 1 Ta Tb) i lo hi)
          refine zif_eq (tgt := 39) C (by omega) dRe_isFilled_34 (by decide) (fun c34 => ?_) (fun c34 => ?_)
          · refine lv_iinc (v := zI (i + 1)) (lv' := [(5, .int (zI (i + 1))), (0, .ref r0), (1, .int (zI be)), (2, .int (zI en)), (3, .int (zI lo)), (4, .int (zI hi))]) C.1 C.2.1 dRe_isFilled_39 hl (k := 0) rfl (zI_add i 1) (by decide) rfl (fun ls hl => ?_)
            refine lv_goto (tgt := 3) C.1 C.2.1 dRe_isFilled_42 (by decide) ?_
            exact ih3 (i + 1) (by omega) (by omega) (by omega) (anyZ_n hi0 hP (Bool.and_eq_false_iff.mpr (by first | exact Or.inl ((bz_eq0 _).mpr (by omega)) | exact Or.inr ((bz_eq0 _).mpr (by omega))))) ls H locs (lv_sub hl [0, 1, 2, 3, 4, 5] rfl) hW
          · refine lv_iconst (v := zI 1) C.1 C.2.1 dRe_isFilled_37 (by decide) ?_
            exact hQ (zI 1) _ H locs _ _ _ ls hW (by decide) ⟨congrArg zI (by rw [anyZ_t hi0 (by omega) (Bool.and_eq_true_iff.mpr ⟨(bz_eq1 _).mpr (by omega), (bz_eq1 _).mpr (by omega)⟩)]; rfl), rfl⟩ (by omega) (by omega) dRe_isFilled_38
  exact L3 _ 0 (Nat.lt_succ_self _) (by omega) (by omega) (anyZ_0 _) ls H locs (lv_sub hl [0, 1, 2, 3, 4, 5] rfl) hW
