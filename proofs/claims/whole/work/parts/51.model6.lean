theorem dMo_takeOff_0 : decode cMo_takeOff 0 = .ok (.aload_n 0, 1) := by decide +kernel
theorem dMo_takeOff_1 : decode cMo_takeOff 1 = .ok (.getfield 128, 3) := by decide +kernel
theorem dMo_takeOff_4 : decode cMo_takeOff 4 = .ok (.istore 5, 2) := by decide +kernel
theorem dMo_takeOff_6 : decode cMo_takeOff 6 = .ok (.iconst 0, 1) := by decide +kernel
theorem dMo_takeOff_7 : decode cMo_takeOff 7 = .ok (.istore 6, 2) := by decide +kernel
theorem dMo_takeOff_9 : decode cMo_takeOff 9 = .ok (.iload 6, 2) := by decide +kernel
theorem dMo_takeOff_11 : decode cMo_takeOff 11 = .ok (.iload 5, 2) := by decide +kernel
theorem dMo_takeOff_13 : decode cMo_takeOff 13 = .ok (.if_icmp .ge 99, 3) := by decide +kernel
theorem dMo_takeOff_16 : decode cMo_takeOff 16 = .ok (.aload_n 0, 1) := by decide +kernel
theorem dMo_takeOff_17 : decode cMo_takeOff 17 = .ok (.getfield 59, 3) := by decide +kernel
theorem dMo_takeOff_20 : decode cMo_takeOff 20 = .ok (.iload 6, 2) := by decide +kernel
theorem dMo_takeOff_22 : decode cMo_takeOff 22 = .ok (.laload, 1) := by decide +kernel
theorem dMo_takeOff_23 : decode cMo_takeOff 23 = .ok (.lstore 7, 2) := by decide +kernel
theorem dMo_takeOff_25 : decode cMo_takeOff 25 = .ok (.aload_n 0, 1) := by decide +kernel
theorem dMo_takeOff_26 : decode cMo_takeOff 26 = .ok (.getfield 62, 3) := by decide +kernel
theorem dMo_takeOff_29 : decode cMo_takeOff 29 = .ok (.iload 6, 2) := by decide +kernel
theorem dMo_takeOff_31 : decode cMo_takeOff 31 = .ok (.laload, 1) := by decide +kernel
theorem dMo_takeOff_32 : decode cMo_takeOff 32 = .ok (.lstore 9, 2) := by decide +kernel
theorem dMo_takeOff_34 : decode cMo_takeOff 34 = .ok (.lload_n 1, 1) := by decide +kernel
theorem dMo_takeOff_35 : decode cMo_takeOff 35 = .ok (.lload 9, 2) := by decide +kernel
theorem dMo_takeOff_37 : decode cMo_takeOff 37 = .ok (.lcmp, 1) := by decide +kernel
theorem dMo_takeOff_38 : decode cMo_takeOff 38 = .ok (.ifCond .ge 68, 3) := by decide +kernel
theorem dMo_takeOff_41 : decode cMo_takeOff 41 = .ok (.lload_n 3, 1) := by decide +kernel
theorem dMo_takeOff_42 : decode cMo_takeOff 42 = .ok (.lload 7, 2) := by decide +kernel
theorem dMo_takeOff_44 : decode cMo_takeOff 44 = .ok (.lcmp, 1) := by decide +kernel
theorem dMo_takeOff_45 : decode cMo_takeOff 45 = .ok (.ifCond .le 61, 3) := by decide +kernel
theorem dMo_takeOff_48 : decode cMo_takeOff 48 = .ok (.aload_n 0, 1) := by decide +kernel
theorem dMo_takeOff_49 : decode cMo_takeOff 49 = .ok (.getfield 62, 3) := by decide +kernel
theorem dMo_takeOff_52 : decode cMo_takeOff 52 = .ok (.iload 6, 2) := by decide +kernel
theorem dMo_takeOff_54 : decode cMo_takeOff 54 = .ok (.lload_n 1, 1) := by decide +kernel
theorem dMo_takeOff_55 : decode cMo_takeOff 55 = .ok (.lload 7, 2) := by decide +kernel
theorem dMo_takeOff_57 : decode cMo_takeOff 57 = .ok (.lcmp, 1) := by decide +kernel
theorem dMo_takeOff_58 : decode cMo_takeOff 58 = .ok (.ifCond .le 7, 3) := by decide +kernel
theorem dMo_takeOff_61 : decode cMo_takeOff 61 = .ok (.lload_n 1, 1) := by decide +kernel
theorem dMo_takeOff_62 : decode cMo_takeOff 62 = .ok (.goto 5, 3) := by decide +kernel
theorem dMo_takeOff_65 : decode cMo_takeOff 65 = .ok (.lload 7, 2) := by decide +kernel
theorem dMo_takeOff_67 : decode cMo_takeOff 67 = .ok (.lastore, 1) := by decide +kernel
theorem dMo_takeOff_68 : decode cMo_takeOff 68 = .ok (.lload_n 3, 1) := by decide +kernel
theorem dMo_takeOff_69 : decode cMo_takeOff 69 = .ok (.lload 9, 2) := by decide +kernel
theorem dMo_takeOff_71 : decode cMo_takeOff 71 = .ok (.lcmp, 1) := by decide +kernel
theorem dMo_takeOff_72 : decode cMo_takeOff 72 = .ok (.ifCond .ge 34, 3) := by decide +kernel
theorem dMo_takeOff_75 : decode cMo_takeOff 75 = .ok (.aload_n 0, 1) := by decide +kernel
theorem dMo_takeOff_76 : decode cMo_takeOff 76 = .ok (.getfield 59, 3) := by decide +kernel
theorem dMo_takeOff_79 : decode cMo_takeOff 79 = .ok (.aload_n 0, 1) := by decide +kernel
theorem dMo_takeOff_80 : decode cMo_takeOff 80 = .ok (.getfield 128, 3) := by decide +kernel
theorem dMo_takeOff_83 : decode cMo_takeOff 83 = .ok (.lload_n 3, 1) := by decide +kernel
theorem dMo_takeOff_84 : decode cMo_takeOff 84 = .ok (.lastore, 1) := by decide +kernel
theorem dMo_takeOff_85 : decode cMo_takeOff 85 = .ok (.aload_n 0, 1) := by decide +kernel
theorem dMo_takeOff_86 : decode cMo_takeOff 86 = .ok (.getfield 62, 3) := by decide +kernel
theorem dMo_takeOff_89 : decode cMo_takeOff 89 = .ok (.aload_n 0, 1) := by decide +kernel
theorem dMo_takeOff_90 : decode cMo_takeOff 90 = .ok (.getfield 128, 3) := by decide +kernel
theorem dMo_takeOff_93 : decode cMo_takeOff 93 = .ok (.lload 9, 2) := by decide +kernel
theorem dMo_takeOff_95 : decode cMo_takeOff 95 = .ok (.lastore, 1) := by decide +kernel
theorem dMo_takeOff_96 : decode cMo_takeOff 96 = .ok (.aload_n 0, 1) := by decide +kernel
theorem dMo_takeOff_97 : decode cMo_takeOff 97 = .ok (.dup, 1) := by decide +kernel
theorem dMo_takeOff_98 : decode cMo_takeOff 98 = .ok (.getfield 128, 3) := by decide +kernel
theorem dMo_takeOff_101 : decode cMo_takeOff 101 = .ok (.iconst 1, 1) := by decide +kernel
theorem dMo_takeOff_102 : decode cMo_takeOff 102 = .ok (.iadd, 1) := by decide +kernel
theorem dMo_takeOff_103 : decode cMo_takeOff 103 = .ok (.putfield 128, 3) := by decide +kernel
theorem dMo_takeOff_106 : decode cMo_takeOff 106 = .ok (.iinc 6 1, 3) := by decide +kernel
theorem dMo_takeOff_109 : decode cMo_takeOff 109 = .ok (.goto (-100), 3) := by decide +kernel
theorem dMo_takeOff_112 : decode cMo_takeOff 112 = .ok (.return_, 1) := by decide +kernel
theorem dMo_put_0 : decode cMo_put 0 = .ok (.aload_n 0, 1) := by decide +kernel
theorem dMo_put_1 : decode cMo_put 1 = .ok (.getfield 16, 3) := by decide +kernel
theorem dMo_put_4 : decode cMo_put 4 = .ok (.aload_n 0, 1) := by decide +kernel
theorem dMo_put_5 : decode cMo_put 5 = .ok (.getfield 145, 3) := by decide +kernel
theorem dMo_put_8 : decode cMo_put 8 = .ok (.iload_n 1, 1) := by decide +kernel
theorem dMo_put_9 : decode cMo_put 9 = .ok (.iastore, 1) := by decide +kernel
theorem dMo_put_10 : decode cMo_put 10 = .ok (.aload_n 0, 1) := by decide +kernel
theorem dMo_put_11 : decode cMo_put 11 = .ok (.getfield 20, 3) := by decide +kernel
theorem dMo_put_14 : decode cMo_put 14 = .ok (.aload_n 0, 1) := by decide +kernel
theorem dMo_put_15 : decode cMo_put 15 = .ok (.getfield 145, 3) := by decide +kernel
theorem dMo_put_18 : decode cMo_put 18 = .ok (.lload_n 2, 1) := by decide +kernel
theorem dMo_put_19 : decode cMo_put 19 = .ok (.lastore, 1) := by decide +kernel
theorem dMo_put_20 : decode cMo_put 20 = .ok (.aload_n 0, 1) := by decide +kernel
theorem dMo_put_21 : decode cMo_put 21 = .ok (.getfield 23, 3) := by decide +kernel
theorem dMo_put_24 : decode cMo_put 24 = .ok (.aload_n 0, 1) := by decide +kernel
theorem dMo_put_25 : decode cMo_put 25 = .ok (.getfield 145, 3) := by decide +kernel
theorem dMo_put_28 : decode cMo_put 28 = .ok (.lload 4, 2) := by decide +kernel
theorem dMo_put_30 : decode cMo_put 30 = .ok (.lastore, 1) := by decide +kernel
theorem dMo_put_31 : decode cMo_put 31 = .ok (.aload_n 0, 1) := by decide +kernel
theorem dMo_put_32 : decode cMo_put 32 = .ok (.getfield 26, 3) := by decide +kernel
theorem dMo_put_35 : decode cMo_put 35 = .ok (.aload_n 0, 1) := by decide +kernel
theorem dMo_put_36 : decode cMo_put 36 = .ok (.getfield 145, 3) := by decide +kernel
theorem dMo_put_39 : decode cMo_put 39 = .ok (.lload 6, 2) := by decide +kernel
theorem dMo_put_41 : decode cMo_put 41 = .ok (.lastore, 1) := by decide +kernel
theorem dMo_put_42 : decode cMo_put 42 = .ok (.aload_n 0, 1) := by decide +kernel
theorem dMo_put_43 : decode cMo_put 43 = .ok (.getfield 29, 3) := by decide +kernel
theorem dMo_put_46 : decode cMo_put 46 = .ok (.aload_n 0, 1) := by decide +kernel
theorem dMo_put_47 : decode cMo_put 47 = .ok (.getfield 145, 3) := by decide +kernel
theorem dMo_put_50 : decode cMo_put 50 = .ok (.iload 8, 2) := by decide +kernel
theorem dMo_put_52 : decode cMo_put 52 = .ok (.iastore, 1) := by decide +kernel
theorem dMo_put_53 : decode cMo_put 53 = .ok (.aload_n 0, 1) := by decide +kernel
theorem dMo_put_54 : decode cMo_put 54 = .ok (.dup, 1) := by decide +kernel
theorem dMo_put_55 : decode cMo_put 55 = .ok (.getfield 145, 3) := by decide +kernel
theorem dMo_put_58 : decode cMo_put 58 = .ok (.iconst 1, 1) := by decide +kernel
theorem dMo_put_59 : decode cMo_put 59 = .ok (.iadd, 1) := by decide +kernel
theorem dMo_put_60 : decode cMo_put 60 = .ok (.putfield 145, 3) := by decide +kernel
theorem dMo_put_63 : decode cMo_put 63 = .ok (.return_, 1) := by decide +kernel
theorem dMo_page_0 : decode cMo_page 0 = .ok (.aload_n 0, 1) := by decide +kernel
theorem dMo_page_1 : decode cMo_page 1 = .ok (.invokevirtual 195, 3) := by decide +kernel
theorem dMo_page_4 : decode cMo_page 4 = .ok (.ifCond .eq 5, 3) := by decide +kernel
theorem dMo_page_7 : decode cMo_page 7 = .ok (.iconst 0, 1) := by decide +kernel
theorem dMo_page_8 : decode cMo_page 8 = .ok (.ireturn, 1) := by decide +kernel
theorem dMo_page_9 : decode cMo_page 9 = .ok (.aload_n 0, 1) := by decide +kernel
theorem dMo_page_10 : decode cMo_page 10 = .ok (.iconst 0, 1) := by decide +kernel
theorem dMo_page_11 : decode cMo_page 11 = .ok (.iconst 0, 1) := by decide +kernel
theorem dMo_page_12 : decode cMo_page 12 = .ok (.invokevirtual 223, 3) := by decide +kernel
theorem dMo_page_15 : decode cMo_page 15 = .ok (.lstore_n 3, 1) := by decide +kernel
theorem dMo_page_16 : decode cMo_page 16 = .ok (.aload_n 0, 1) := by decide +kernel
theorem dMo_page_17 : decode cMo_page 17 = .ok (.iconst 1, 1) := by decide +kernel
theorem dMo_page_18 : decode cMo_page 18 = .ok (.iconst 0, 1) := by decide +kernel
theorem dMo_page_19 : decode cMo_page 19 = .ok (.invokevirtual 223, 3) := by decide +kernel
theorem dMo_page_22 : decode cMo_page 22 = .ok (.lstore 5, 2) := by decide +kernel
theorem dMo_page_24 : decode cMo_page 24 = .ok (.aload_n 0, 1) := by decide +kernel
theorem dMo_page_25 : decode cMo_page 25 = .ok (.iconst 0, 1) := by decide +kernel
theorem dMo_page_26 : decode cMo_page 26 = .ok (.iconst 1, 1) := by decide +kernel
theorem dMo_page_27 : decode cMo_page 27 = .ok (.invokevirtual 223, 3) := by decide +kernel
theorem dMo_page_30 : decode cMo_page 30 = .ok (.lload_n 3, 1) := by decide +kernel
theorem dMo_page_31 : decode cMo_page 31 = .ok (.lsub, 1) := by decide +kernel
theorem dMo_page_32 : decode cMo_page 32 = .ok (.aload_n 0, 1) := by decide +kernel
theorem dMo_page_33 : decode cMo_page 33 = .ok (.getfield 86, 3) := by decide +kernel
theorem dMo_page_36 : decode cMo_page 36 = .ok (.invokestatic 227, 3) := by decide +kernel
theorem dMo_page_39 : decode cMo_page 39 = .ok (.lstore 7, 2) := by decide +kernel
theorem dMo_page_41 : decode cMo_page 41 = .ok (.aload_n 0, 1) := by decide +kernel
theorem dMo_page_42 : decode cMo_page 42 = .ok (.iconst 1, 1) := by decide +kernel
theorem dMo_page_43 : decode cMo_page 43 = .ok (.iconst 1, 1) := by decide +kernel
theorem dMo_page_44 : decode cMo_page 44 = .ok (.invokevirtual 223, 3) := by decide +kernel
theorem dMo_page_47 : decode cMo_page 47 = .ok (.lload 5, 2) := by decide +kernel
theorem dMo_page_49 : decode cMo_page 49 = .ok (.lsub, 1) := by decide +kernel
theorem dMo_page_50 : decode cMo_page 50 = .ok (.aload_n 0, 1) := by decide +kernel
theorem dMo_page_51 : decode cMo_page 51 = .ok (.getfield 90, 3) := by decide +kernel
theorem dMo_page_54 : decode cMo_page 54 = .ok (.invokestatic 227, 3) := by decide +kernel
theorem dMo_page_57 : decode cMo_page 57 = .ok (.lstore 9, 2) := by decide +kernel
theorem dMo_page_59 : decode cMo_page 59 = .ok (.aload_n 0, 1) := by decide +kernel
theorem dMo_page_60 : decode cMo_page 60 = .ok (.iload_n 1, 1) := by decide +kernel
theorem dMo_page_61 : decode cMo_page 61 = .ok (.iconst (-1), 1) := by decide +kernel
theorem dMo_page_62 : decode cMo_page 62 = .ok (.if_icmp .lt 14, 3) := by decide +kernel
theorem dMo_page_65 : decode cMo_page 65 = .ok (.iload_n 1, 1) := by decide +kernel
theorem dMo_page_66 : decode cMo_page 66 = .ok (.i2l, 1) := by decide +kernel
theorem dMo_page_67 : decode cMo_page 67 = .ok (.lload 7, 2) := by decide +kernel
theorem dMo_page_69 : decode cMo_page 69 = .ok (.lload 9, 2) := by decide +kernel
theorem dMo_page_71 : decode cMo_page 71 = .ok (.lmul, 1) := by decide +kernel
theorem dMo_page_72 : decode cMo_page 72 = .ok (.lcmp, 1) := by decide +kernel
theorem dMo_page_73 : decode cMo_page 73 = .ok (.ifCond .lt 7, 3) := by decide +kernel
theorem dMo_page_76 : decode cMo_page 76 = .ok (.iconst 2, 1) := by decide +kernel
theorem dMo_page_77 : decode cMo_page 77 = .ok (.goto 17, 3) := by decide +kernel
theorem dMo_page_80 : decode cMo_page 80 = .ok (.iload_n 2, 1) := by decide +kernel
theorem dMo_page_81 : decode cMo_page 81 = .ok (.ifCond .lt 8, 3) := by decide +kernel
theorem dMo_page_84 : decode cMo_page 84 = .ok (.iload_n 2, 1) := by decide +kernel
theorem dMo_page_85 : decode cMo_page 85 = .ok (.iconst 1, 1) := by decide +kernel
theorem dMo_page_86 : decode cMo_page 86 = .ok (.if_icmp .le 7, 3) := by decide +kernel
theorem dMo_page_89 : decode cMo_page 89 = .ok (.iconst 3, 1) := by decide +kernel
theorem dMo_page_90 : decode cMo_page 90 = .ok (.goto 4, 3) := by decide +kernel
theorem dMo_page_93 : decode cMo_page 93 = .ok (.iconst 0, 1) := by decide +kernel
theorem dMo_page_94 : decode cMo_page 94 = .ok (.putfield 93, 3) := by decide +kernel
theorem dMo_page_97 : decode cMo_page 97 = .ok (.aload_n 0, 1) := by decide +kernel
theorem dMo_page_98 : decode cMo_page 98 = .ok (.getfield 93, 3) := by decide +kernel
theorem dMo_page_101 : decode cMo_page 101 = .ok (.ifCond .gt 8, 3) := by decide +kernel
theorem dMo_page_104 : decode cMo_page 104 = .ok (.iload_n 1, 1) := by decide +kernel
theorem dMo_page_105 : decode cMo_page 105 = .ok (.iconst (-1), 1) := by decide +kernel
theorem dMo_page_106 : decode cMo_page 106 = .ok (.if_icmp .ne 38, 3) := by decide +kernel
theorem dMo_page_109 : decode cMo_page 109 = .ok (.aload_n 0, 1) := by decide +kernel
theorem dMo_page_110 : decode cMo_page 110 = .ok (.getfield 93, 3) := by decide +kernel
theorem dMo_page_113 : decode cMo_page 113 = .ok (.ifCond .le 7, 3) := by decide +kernel
theorem dMo_page_116 : decode cMo_page 116 = .ok (.iconst 0, 1) := by decide +kernel
theorem dMo_page_117 : decode cMo_page 117 = .ok (.goto 26, 3) := by decide +kernel
theorem dMo_page_120 : decode cMo_page 120 = .ok (.lload 7, 2) := by decide +kernel
theorem dMo_page_122 : decode cMo_page 122 = .ok (.lload 9, 2) := by decide +kernel
theorem dMo_page_124 : decode cMo_page 124 = .ok (.lmul, 1) := by decide +kernel
theorem dMo_page_125 : decode cMo_page 125 = .ok (.ldc2_w 230, 3) := by decide +kernel
theorem dMo_page_128 : decode cMo_page 128 = .ok (.lcmp, 1) := by decide +kernel
theorem dMo_page_129 : decode cMo_page 129 = .ok (.ifCond .le 8, 3) := by decide +kernel
theorem dMo_page_132 : decode cMo_page 132 = .ok (.ldc 232, 2) := by decide +kernel
theorem dMo_page_134 : decode cMo_page 134 = .ok (.goto 9, 3) := by decide +kernel
theorem dMo_page_137 : decode cMo_page 137 = .ok (.lload 7, 2) := by decide +kernel
theorem dMo_page_139 : decode cMo_page 139 = .ok (.lload 9, 2) := by decide +kernel
theorem dMo_page_141 : decode cMo_page 141 = .ok (.lmul, 1) := by decide +kernel
theorem dMo_page_142 : decode cMo_page 142 = .ok (.l2i, 1) := by decide +kernel
theorem dMo_page_143 : decode cMo_page 143 = .ok (.ireturn, 1) := by decide +kernel
theorem dMo_page_144 : decode cMo_page 144 = .ok (.lload_n 3, 1) := by decide +kernel
theorem dMo_page_145 : decode cMo_page 145 = .ok (.aload_n 0, 1) := by decide +kernel
theorem dMo_page_146 : decode cMo_page 146 = .ok (.getfield 86, 3) := by decide +kernel
theorem dMo_page_149 : decode cMo_page 149 = .ok (.iload_n 1, 1) := by decide +kernel
theorem dMo_page_150 : decode cMo_page 150 = .ok (.i2l, 1) := by decide +kernel
theorem dMo_page_151 : decode cMo_page 151 = .ok (.lload 7, 2) := by decide +kernel
theorem dMo_page_153 : decode cMo_page 153 = .ok (.lrem, 1) := by decide +kernel
theorem dMo_page_154 : decode cMo_page 154 = .ok (.lmul, 1) := by decide +kernel
theorem dMo_page_155 : decode cMo_page 155 = .ok (.ladd, 1) := by decide +kernel
theorem dMo_page_156 : decode cMo_page 156 = .ok (.lstore 11, 2) := by decide +kernel
theorem dMo_page_158 : decode cMo_page 158 = .ok (.lload 5, 2) := by decide +kernel
theorem dMo_page_160 : decode cMo_page 160 = .ok (.aload_n 0, 1) := by decide +kernel
theorem dMo_page_161 : decode cMo_page 161 = .ok (.getfield 90, 3) := by decide +kernel
theorem dMo_page_164 : decode cMo_page 164 = .ok (.iload_n 1, 1) := by decide +kernel
theorem dMo_page_165 : decode cMo_page 165 = .ok (.i2l, 1) := by decide +kernel
theorem dMo_page_166 : decode cMo_page 166 = .ok (.lload 7, 2) := by decide +kernel
theorem dMo_page_168 : decode cMo_page 168 = .ok (.ldiv, 1) := by decide +kernel
theorem dMo_page_169 : decode cMo_page 169 = .ok (.lmul, 1) := by decide +kernel
theorem dMo_page_170 : decode cMo_page 170 = .ok (.ladd, 1) := by decide +kernel
theorem dMo_page_171 : decode cMo_page 171 = .ok (.lstore 13, 2) := by decide +kernel
theorem dMo_page_173 : decode cMo_page 173 = .ok (.iload_n 1, 1) := by decide +kernel
theorem dMo_page_174 : decode cMo_page 174 = .ok (.i2l, 1) := by decide +kernel
theorem dMo_page_175 : decode cMo_page 175 = .ok (.lload 7, 2) := by decide +kernel
theorem dMo_page_177 : decode cMo_page 177 = .ok (.ldiv, 1) := by decide +kernel
theorem dMo_page_178 : decode cMo_page 178 = .ok (.lload 9, 2) := by decide +kernel
theorem dMo_page_180 : decode cMo_page 180 = .ok (.lconst 1, 1) := by decide +kernel
theorem dMo_page_181 : decode cMo_page 181 = .ok (.lsub, 1) := by decide +kernel
theorem dMo_page_182 : decode cMo_page 182 = .ok (.lcmp, 1) := by decide +kernel
theorem dMo_page_183 : decode cMo_page 183 = .ok (.ifCond .ne 7, 3) := by decide +kernel
theorem dMo_page_186 : decode cMo_page 186 = .ok (.iconst 1, 1) := by decide +kernel
theorem dMo_page_187 : decode cMo_page 187 = .ok (.goto 4, 3) := by decide +kernel
theorem dMo_page_190 : decode cMo_page 190 = .ok (.iconst 0, 1) := by decide +kernel
theorem dMo_page_191 : decode cMo_page 191 = .ok (.istore 15, 2) := by decide +kernel
theorem dMo_page_193 : decode cMo_page 193 = .ok (.iconst 0, 1) := by decide +kernel
theorem dMo_page_194 : decode cMo_page 194 = .ok (.istore 16, 2) := by decide +kernel
theorem dMo_page_196 : decode cMo_page 196 = .ok (.iconst 0, 1) := by decide +kernel
theorem dMo_page_197 : decode cMo_page 197 = .ok (.istore 17, 2) := by decide +kernel
theorem dMo_page_199 : decode cMo_page 199 = .ok (.iload 17, 2) := by decide +kernel
theorem dMo_page_201 : decode cMo_page 201 = .ok (.aload_n 0, 1) := by decide +kernel
theorem dMo_page_202 : decode cMo_page 202 = .ok (.getfield 145, 3) := by decide +kernel
theorem dMo_page_205 : decode cMo_page 205 = .ok (.if_icmp .ge 164, 3) := by decide +kernel
theorem dMo_page_208 : decode cMo_page 208 = .ok (.aload_n 0, 1) := by decide +kernel
theorem dMo_page_209 : decode cMo_page 209 = .ok (.getfield 20, 3) := by decide +kernel
theorem dMo_page_212 : decode cMo_page 212 = .ok (.iload 17, 2) := by decide +kernel
theorem dMo_page_214 : decode cMo_page 214 = .ok (.laload, 1) := by decide +kernel
theorem dMo_page_215 : decode cMo_page 215 = .ok (.lload 13, 2) := by decide +kernel
theorem dMo_page_217 : decode cMo_page 217 = .ok (.lcmp, 1) := by decide +kernel
theorem dMo_page_218 : decode cMo_page 218 = .ok (.ifCond .lt 48, 3) := by decide +kernel
theorem dMo_page_221 : decode cMo_page 221 = .ok (.aload_n 0, 1) := by decide +kernel
theorem dMo_page_222 : decode cMo_page 222 = .ok (.getfield 20, 3) := by decide +kernel
theorem dMo_page_225 : decode cMo_page 225 = .ok (.iload 17, 2) := by decide +kernel
theorem dMo_page_227 : decode cMo_page 227 = .ok (.laload, 1) := by decide +kernel
theorem dMo_page_228 : decode cMo_page 228 = .ok (.lload 13, 2) := by decide +kernel
theorem dMo_page_230 : decode cMo_page 230 = .ok (.aload_n 0, 1) := by decide +kernel
theorem dMo_page_231 : decode cMo_page 231 = .ok (.getfield 90, 3) := by decide +kernel
theorem dMo_page_234 : decode cMo_page 234 = .ok (.ladd, 1) := by decide +kernel
theorem dMo_page_235 : decode cMo_page 235 = .ok (.lcmp, 1) := by decide +kernel
theorem dMo_page_236 : decode cMo_page 236 = .ok (.ifCond .lt 26, 3) := by decide +kernel
theorem dMo_page_239 : decode cMo_page 239 = .ok (.iload 15, 2) := by decide +kernel
theorem dMo_page_241 : decode cMo_page 241 = .ok (.ifCond .eq 25, 3) := by decide +kernel
theorem dMo_page_244 : decode cMo_page 244 = .ok (.aload_n 0, 1) := by decide +kernel
theorem dMo_page_245 : decode cMo_page 245 = .ok (.getfield 20, 3) := by decide +kernel
theorem dMo_page_248 : decode cMo_page 248 = .ok (.iload 17, 2) := by decide +kernel
theorem dMo_page_250 : decode cMo_page 250 = .ok (.laload, 1) := by decide +kernel
theorem dMo_page_251 : decode cMo_page 251 = .ok (.lload 13, 2) := by decide +kernel
theorem dMo_page_253 : decode cMo_page 253 = .ok (.aload_n 0, 1) := by decide +kernel
theorem dMo_page_254 : decode cMo_page 254 = .ok (.getfield 90, 3) := by decide +kernel
theorem dMo_page_257 : decode cMo_page 257 = .ok (.ladd, 1) := by decide +kernel
theorem dMo_page_258 : decode cMo_page 258 = .ok (.lcmp, 1) := by decide +kernel
theorem dMo_page_259 : decode cMo_page 259 = .ok (.ifCond .ne 7, 3) := by decide +kernel
theorem dMo_page_262 : decode cMo_page 262 = .ok (.iconst 1, 1) := by decide +kernel
theorem dMo_page_263 : decode cMo_page 263 = .ok (.goto 4, 3) := by decide +kernel
theorem dMo_page_266 : decode cMo_page 266 = .ok (.iconst 0, 1) := by decide +kernel
theorem dMo_page_267 : decode cMo_page 267 = .ok (.istore 18, 2) := by decide +kernel
theorem dMo_page_269 : decode cMo_page 269 = .ok (.aload_n 0, 1) := by decide +kernel
theorem dMo_page_270 : decode cMo_page 270 = .ok (.getfield 16, 3) := by decide +kernel
theorem dMo_page_273 : decode cMo_page 273 = .ok (.iload 17, 2) := by decide +kernel
theorem dMo_page_275 : decode cMo_page 275 = .ok (.iaload, 1) := by decide +kernel
theorem dMo_page_276 : decode cMo_page 276 = .ok (.ifCond .ne 48, 3) := by decide +kernel
theorem dMo_page_279 : decode cMo_page 279 = .ok (.aload_n 0, 1) := by decide +kernel
theorem dMo_page_280 : decode cMo_page 280 = .ok (.getfield 23, 3) := by decide +kernel
theorem dMo_page_283 : decode cMo_page 283 = .ok (.iload 17, 2) := by decide +kernel
theorem dMo_page_285 : decode cMo_page 285 = .ok (.laload, 1) := by decide +kernel
theorem dMo_page_286 : decode cMo_page 286 = .ok (.lload 11, 2) := by decide +kernel
theorem dMo_page_288 : decode cMo_page 288 = .ok (.aload_n 0, 1) := by decide +kernel
theorem dMo_page_289 : decode cMo_page 289 = .ok (.getfield 86, 3) := by decide +kernel
theorem dMo_page_292 : decode cMo_page 292 = .ok (.ladd, 1) := by decide +kernel
theorem dMo_page_293 : decode cMo_page 293 = .ok (.lcmp, 1) := by decide +kernel
theorem dMo_page_294 : decode cMo_page 294 = .ok (.ifCond .ge 30, 3) := by decide +kernel
theorem dMo_page_297 : decode cMo_page 297 = .ok (.aload_n 0, 1) := by decide +kernel
theorem dMo_page_298 : decode cMo_page 298 = .ok (.getfield 26, 3) := by decide +kernel
theorem dMo_page_301 : decode cMo_page 301 = .ok (.iload 17, 2) := by decide +kernel
theorem dMo_page_303 : decode cMo_page 303 = .ok (.laload, 1) := by decide +kernel
theorem dMo_page_304 : decode cMo_page 304 = .ok (.lload 11, 2) := by decide +kernel
theorem dMo_page_306 : decode cMo_page 306 = .ok (.aload_n 0, 1) := by decide +kernel
theorem dMo_page_307 : decode cMo_page 307 = .ok (.getfield 86, 3) := by decide +kernel
theorem dMo_page_310 : decode cMo_page 310 = .ok (.ladd, 1) := by decide +kernel
theorem dMo_page_311 : decode cMo_page 311 = .ok (.lcmp, 1) := by decide +kernel
theorem dMo_page_312 : decode cMo_page 312 = .ok (.ifCond .le 12, 3) := by decide +kernel
theorem dMo_page_315 : decode cMo_page 315 = .ok (.iload 18, 2) := by decide +kernel
theorem dMo_page_317 : decode cMo_page 317 = .ok (.ifCond .eq 7, 3) := by decide +kernel
theorem dMo_page_320 : decode cMo_page 320 = .ok (.iconst 1, 1) := by decide +kernel
theorem dMo_page_321 : decode cMo_page 321 = .ok (.goto 4, 3) := by decide +kernel
theorem dMo_page_324 : decode cMo_page 324 = .ok (.iconst 0, 1) := by decide +kernel
theorem dMo_page_325 : decode cMo_page 325 = .ok (.istore 19, 2) := by decide +kernel
theorem dMo_page_327 : decode cMo_page 327 = .ok (.iload_n 2, 1) := by decide +kernel
theorem dMo_page_328 : decode cMo_page 328 = .ok (.ifCond .ne 19, 3) := by decide +kernel
theorem dMo_page_331 : decode cMo_page 331 = .ok (.aload_n 0, 1) := by decide +kernel
theorem dMo_page_332 : decode cMo_page 332 = .ok (.iload 17, 2) := by decide +kernel
theorem dMo_page_334 : decode cMo_page 334 = .ok (.lload 11, 2) := by decide +kernel
theorem dMo_page_336 : decode cMo_page 336 = .ok (.lload 13, 2) := by decide +kernel
theorem dMo_page_338 : decode cMo_page 338 = .ok (.invokevirtual 233, 3) := by decide +kernel
theorem dMo_page_341 : decode cMo_page 341 = .ok (.ifCond .eq 18, 3) := by decide +kernel
theorem dMo_page_344 : decode cMo_page 344 = .ok (.goto 8, 3) := by decide +kernel
theorem dMo_page_347 : decode cMo_page 347 = .ok (.iload 19, 2) := by decide +kernel
theorem dMo_page_349 : decode cMo_page 349 = .ok (.ifCond .eq 10, 3) := by decide +kernel
theorem dMo_page_352 : decode cMo_page 352 = .ok (.iload 16, 2) := by decide +kernel
theorem dMo_page_354 : decode cMo_page 354 = .ok (.iconst 1, 1) := by decide +kernel
theorem dMo_page_355 : decode cMo_page 355 = .ok (.iadd, 1) := by decide +kernel
theorem dMo_page_356 : decode cMo_page 356 = .ok (.goto 5, 3) := by decide +kernel
theorem dMo_page_359 : decode cMo_page 359 = .ok (.iload 16, 2) := by decide +kernel
theorem dMo_page_361 : decode cMo_page 361 = .ok (.istore 16, 2) := by decide +kernel
theorem dMo_page_363 : decode cMo_page 363 = .ok (.iinc 17 1, 3) := by decide +kernel
theorem dMo_page_366 : decode cMo_page 366 = .ok (.goto (-167), 3) := by decide +kernel
theorem dMo_page_369 : decode cMo_page 369 = .ok (.iload 16, 2) := by decide +kernel
theorem dMo_page_371 : decode cMo_page 371 = .ok (.ireturn, 1) := by decide +kernel
set_option maxRecDepth 100000 in
theorem flMo_128 : Cond.fieldLink "PartDrawingsModel" 128 (TMo 26).1 (TMo 26).2.1 (TMo 26).2.2.1 ∈ gW := gW_1 1232 rfl rfl
set_option maxRecDepth 100000 in
theorem flMo_59 : Cond.fieldLink "PartDrawingsModel" 59 (TMo 27).1 (TMo 27).2.1 (TMo 27).2.2.1 ∈ gW := gW_1 1233 rfl rfl
set_option maxRecDepth 100000 in
theorem flMo_62 : Cond.fieldLink "PartDrawingsModel" 62 (TMo 28).1 (TMo 28).2.1 (TMo 28).2.2.1 ∈ gW := gW_1 1234 rfl rfl
set_option maxRecDepth 100000 in
theorem kMo_223 : inT (kV "PartDrawingsModel" 223 yMo_edge cMo_edge 10 (some .long)) := gW_l [1477, 1479, 41, 61, 1480] rfl (by decide +kernel)
set_option maxRecDepth 100000 in
theorem kMo_227 : inT (kS "PartDrawingsModel" 227 yMo_many cMo_many 6 (some .long)) := gW_l [1481, 1482, 61, 1483] rfl (by decide +kernel)
set_option maxRecDepth 100000 in
theorem kcMo_230 : Cond.constantLong "PartDrawingsModel" 230 (zL 2147483647) ∈ gW := by
  have e : zL 2147483647 = (2147483647 : Int64) := by decide
  rw [e]; exact gW_1 1484 rfl rfl
set_option maxRecDepth 100000 in
theorem kcMo_232 : Cond.constant "PartDrawingsModel" 232 (zI 2147483647) ∈ gW := by
  have e : zI 2147483647 = (2147483647 : Int32) := by decide
  rw [e]; exact gW_1 1485 rfl rfl
set_option maxRecDepth 100000 in
theorem kMo_233 : inT (kV "PartDrawingsModel" 233 yMo_isOn cMo_isOn 14 (some .boolean)) := gW_l [1486, 1488, 42, 61, 1489] rfl (by decide +kernel)
set_option maxHeartbeats 4000000 in
set_option maxRecDepth 100000 in
theorem m_put (l : Launch) (D : va_G) (cI cG cL cB : ClassId) (m0 : Nat) (cd : Int) (wi : Int) (hi : Int) (bn : Int) (af : Nat) (at_ : Nat) (dr : Int) (sz : Int) (au : Nat) (ap : Nat) (ab : Nat) (ae : Nat) (ah : Nat) (kp : Int) (ks : Int) (ku : Nat) (kq : Nat) (kb : Nat) (ke : Nat) (kh : Nat) (als : Int) (gf : Nat) (gt : Nat) (ses : Int) (sf : Nat) (st : Nat) (les : Int) (ef : Nat) (et : Nat) (mes : Int) (xa : Nat) (xf : Nat) (xt : Nat) (xr : Nat) (lb : Nat) (lbs : Int) (so : Nat) (Ups : Int → Int) (Pla : Int → Int) (Beg : Int → Int) (Ens : Int → Int) (Hid : Int → Int) (ua : Int) (pl : Int) (ba : Int) (bb : Int) (hd : Int) (bUps : ∀ j : Int, I32 (Ups j)) (bPla : ∀ j : Int, I64 (Pla j)) (bBeg : ∀ j : Int, I64 (Beg j)) (bEns : ∀ j : Int, I64 (Ens j)) (bHid : ∀ j : Int, I32 (Hid j)) (hs0 : 0 ≤ sz) (hs1 : sz < 6000) (hIua : I32 ua) (hIhd : I32 hd) (hJpl : I64 pl) (hJba : I64 ba) (hJbb : I64 bb) : Cv l yMo_put cMo_put 9 none 0 0 0 D zCl (zT cI cG cL cB) [.ref m0, .int (zI ua), .long (zL pl), .long (zL ba), .long (zL bb), .int (zI hd)] [(m0, .inr (10, [.int (zI cd), .long (zL wi), .long (zL hi), .int (zI bn), .ref af, .ref at_, .int (zI dr), .int (zI sz), .ref au, .ref ap, .ref ab, .ref ae, .ref ah, .int (zI kp), .int (zI ks), .ref ku, .ref kq, .ref kb, .ref ke, .ref kh, .int (zI als), .ref gf, .ref gt, .int (zI ses), .ref sf, .ref st, .int (zI les), .ref ef, .ref et, .int (zI mes), .ref xa, .ref xf, .ref xt, .ref xr, .ref lb, .int (zI lbs), .ref so])), (au, .inl (cI, 6000, .inl (fI Ups))), (ap, .inl (cL, 6000, .inr (.inl (fL Pla)))), (ab, .inl (cL, 6000, .inr (.inl (fL Beg)))), (ae, .inl (cL, 6000, .inr (.inl (fL Ens)))), (ah, .inl (cI, 6000, .inl (fI Hid)))] (fun w => w = [(m0, .inr (10, [.int (zI cd), .long (zL wi), .long (zL hi), .int (zI bn), .ref af, .ref at_, .int (zI dr), .int (zI (sz + 1)), .ref au, .ref ap, .ref ab, .ref ae, .ref ah, .int (zI kp), .int (zI ks), .ref ku, .ref kq, .ref kb, .ref ke, .ref kh, .int (zI als), .ref gf, .ref gt, .int (zI ses), .ref sf, .ref st, .int (zI les), .ref ef, .ref et, .int (zI mes), .ref xa, .ref xf, .ref xt, .ref xr, .ref lb, .int (zI lbs), .ref so])), (au, .inl (cI, 6000, .inl (fI (upz Ups sz ua)))), (ap, .inl (cL, 6000, .inr (.inl (fL (upz Pla sz pl))))), (ab, .inl (cL, 6000, .inr (.inl (fL (upz Beg sz ba))))), (ae, .inl (cL, 6000, .inr (.inl (fL (upz Ens sz bb))))), (ah, .inl (cI, 6000, .inl (fI (upz Hid sz hd))))]) := by
  refine zBv (by decide) (Nat.le_of_ble_eq_true rfl) ?_
  intro p e s m args below meth c ls A H locs Q C hin hl hW hQ
  have hl : lv_has ls 9 [(0, .ref m0), (1, .int (zI ua)), (2, .long (zL pl)), (4, .long (zL ba)), (6, .long (zL bb)), (8, .int (zI hd))] := hl
  refine lv_aload_n C.1 C.2.1 dMo_put_0 rfl (lv_at hl 0 rfl) ?_
  refine zget C hW 0 8 rfl rfl inMo (by decide) flMo_16 rfl dMo_put_1 ?_
  refine lv_aload_n C.1 C.2.1 dMo_put_4 rfl (lv_at hl 0 rfl) ?_
  refine zget C hW 0 7 rfl rfl inMo (by decide) flMo_145 rfl dMo_put_5 ?_
  refine lv_iload_n C.1 C.2.1 dMo_put_8 rfl (lv_at hl 1 rfl) ?_
  refine ziast C hW 1 0 rfl rfl (by omega) (by omega) (by decide) dMo_put_9 (fun H locs hW => ?_)
  have hB1 : ∀ jj : Int, I32 ((upz Ups sz ua) jj) := upz_b bUps (by omega)
  have hW : zw D zCl A s [(m0, .inr (10, [.int (zI cd), .long (zL wi), .long (zL hi), .int (zI bn), .ref af, .ref at_, .int (zI dr), .int (zI sz), .ref au, .ref ap, .ref ab, .ref ae, .ref ah, .int (zI kp), .int (zI ks), .ref ku, .ref kq, .ref kb, .ref ke, .ref kh, .int (zI als), .ref gf, .ref gt, .int (zI ses), .ref sf, .ref st, .int (zI les), .ref ef, .ref et, .int (zI mes), .ref xa, .ref xf, .ref xt, .ref xr, .ref lb, .int (zI lbs), .ref so])), (au, .inl (cI, 6000, .inl (fI (upz Ups sz ua)))), (ap, .inl (cL, 6000, .inr (.inl (fL Pla)))), (ab, .inl (cL, 6000, .inr (.inl (fL Beg)))), (ae, .inl (cL, 6000, .inr (.inl (fL Ens)))), (ah, .inl (cI, 6000, .inl (fI Hid)))] H locs := hW
  refine lv_aload_n C.1 C.2.1 dMo_put_10 rfl (lv_at hl 0 rfl) ?_
  refine zget C hW 0 9 rfl rfl inMo (by decide) flMo_20 rfl dMo_put_11 ?_
  refine lv_aload_n C.1 C.2.1 dMo_put_14 rfl (lv_at hl 0 rfl) ?_
  refine zget C hW 0 7 rfl rfl inMo (by decide) flMo_145 rfl dMo_put_15 ?_
  refine lv_lload_n C.1 C.2.1 dMo_put_18 rfl (lv_at hl 2 rfl) ?_
  refine zlast C hW 2 2 rfl rfl (by omega) (by omega) (by decide) dMo_put_19 (fun H locs hW => ?_)
  have hB2 : ∀ jj : Int, I64 ((upz Pla sz pl) jj) := upz_bL bPla (by omega)
  have hW : zw D zCl A s [(m0, .inr (10, [.int (zI cd), .long (zL wi), .long (zL hi), .int (zI bn), .ref af, .ref at_, .int (zI dr), .int (zI sz), .ref au, .ref ap, .ref ab, .ref ae, .ref ah, .int (zI kp), .int (zI ks), .ref ku, .ref kq, .ref kb, .ref ke, .ref kh, .int (zI als), .ref gf, .ref gt, .int (zI ses), .ref sf, .ref st, .int (zI les), .ref ef, .ref et, .int (zI mes), .ref xa, .ref xf, .ref xt, .ref xr, .ref lb, .int (zI lbs), .ref so])), (au, .inl (cI, 6000, .inl (fI (upz Ups sz ua)))), (ap, .inl (cL, 6000, .inr (.inl (fL (upz Pla sz pl))))), (ab, .inl (cL, 6000, .inr (.inl (fL Beg)))), (ae, .inl (cL, 6000, .inr (.inl (fL Ens)))), (ah, .inl (cI, 6000, .inl (fI Hid)))] H locs := hW
  refine lv_aload_n C.1 C.2.1 dMo_put_20 rfl (lv_at hl 0 rfl) ?_
  refine zget C hW 0 10 rfl rfl inMo (by decide) flMo_23 rfl dMo_put_21 ?_
  refine lv_aload_n C.1 C.2.1 dMo_put_24 rfl (lv_at hl 0 rfl) ?_
  refine zget C hW 0 7 rfl rfl inMo (by decide) flMo_145 rfl dMo_put_25 ?_
  refine lv_lload C.1 C.2.1 dMo_put_28 (lv_at hl 3 rfl) ?_
  refine zlast C hW 3 2 rfl rfl (by omega) (by omega) (by decide) dMo_put_30 (fun H locs hW => ?_)
  have hB3 : ∀ jj : Int, I64 ((upz Beg sz ba) jj) := upz_bL bBeg (by omega)
  have hW : zw D zCl A s [(m0, .inr (10, [.int (zI cd), .long (zL wi), .long (zL hi), .int (zI bn), .ref af, .ref at_, .int (zI dr), .int (zI sz), .ref au, .ref ap, .ref ab, .ref ae, .ref ah, .int (zI kp), .int (zI ks), .ref ku, .ref kq, .ref kb, .ref ke, .ref kh, .int (zI als), .ref gf, .ref gt, .int (zI ses), .ref sf, .ref st, .int (zI les), .ref ef, .ref et, .int (zI mes), .ref xa, .ref xf, .ref xt, .ref xr, .ref lb, .int (zI lbs), .ref so])), (au, .inl (cI, 6000, .inl (fI (upz Ups sz ua)))), (ap, .inl (cL, 6000, .inr (.inl (fL (upz Pla sz pl))))), (ab, .inl (cL, 6000, .inr (.inl (fL (upz Beg sz ba))))), (ae, .inl (cL, 6000, .inr (.inl (fL Ens)))), (ah, .inl (cI, 6000, .inl (fI Hid)))] H locs := hW
  refine lv_aload_n C.1 C.2.1 dMo_put_31 rfl (lv_at hl 0 rfl) ?_
  refine zget C hW 0 11 rfl rfl inMo (by decide) flMo_26 rfl dMo_put_32 ?_
  refine lv_aload_n C.1 C.2.1 dMo_put_35 rfl (lv_at hl 0 rfl) ?_
  refine zget C hW 0 7 rfl rfl inMo (by decide) flMo_145 rfl dMo_put_36 ?_
  refine lv_lload C.1 C.2.1 dMo_put_39 (lv_at hl 4 rfl) ?_
  refine zlast C hW 4 2 rfl rfl (by omega) (by omega) (by decide) dMo_put_41 (fun H locs hW => ?_)
  have hB4 : ∀ jj : Int, I64 ((upz Ens sz bb) jj) := upz_bL bEns (by omega)
  have hW : zw D zCl A s [(m0, .inr (10, [.int (zI cd), .long (zL wi), .long (zL hi), .int (zI bn), .ref af, .ref at_, .int (zI dr), .int (zI sz), .ref au, .ref ap, .ref ab, .ref ae, .ref ah, .int (zI kp), .int (zI ks), .ref ku, .ref kq, .ref kb, .ref ke, .ref kh, .int (zI als), .ref gf, .ref gt, .int (zI ses), .ref sf, .ref st, .int (zI les), .ref ef, .ref et, .int (zI mes), .ref xa, .ref xf, .ref xt, .ref xr, .ref lb, .int (zI lbs), .ref so])), (au, .inl (cI, 6000, .inl (fI (upz Ups sz ua)))), (ap, .inl (cL, 6000, .inr (.inl (fL (upz Pla sz pl))))), (ab, .inl (cL, 6000, .inr (.inl (fL (upz Beg sz ba))))), (ae, .inl (cL, 6000, .inr (.inl (fL (upz Ens sz bb))))), (ah, .inl (cI, 6000, .inl (fI Hid)))] H locs := hW
  refine lv_aload_n C.1 C.2.1 dMo_put_42 rfl (lv_at hl 0 rfl) ?_
  refine zget C hW 0 12 rfl rfl inMo (by decide) flMo_29 rfl dMo_put_43 ?_
  refine lv_aload_n C.1 C.2.1 dMo_put_46 rfl (lv_at hl 0 rfl) ?_
  refine zget C hW 0 7 rfl rfl inMo (by decide) flMo_145 rfl dMo_put_47 ?_
  refine lv_iload C.1 C.2.1 dMo_put_50 (lv_at hl 5 rfl) ?_
  refine ziast C hW 5 0 rfl rfl (by omega) (by omega) (by decide) dMo_put_52 (fun H locs hW => ?_)
  have hB5 : ∀ jj : Int, I32 ((upz Hid sz hd) jj) := upz_b bHid (by omega)
  have hW : zw D zCl A s [(m0, .inr (10, [.int (zI cd), .long (zL wi), .long (zL hi), .int (zI bn), .ref af, .ref at_, .int (zI dr), .int (zI sz), .ref au, .ref ap, .ref ab, .ref ae, .ref ah, .int (zI kp), .int (zI ks), .ref ku, .ref kq, .ref kb, .ref ke, .ref kh, .int (zI als), .ref gf, .ref gt, .int (zI ses), .ref sf, .ref st, .int (zI les), .ref ef, .ref et, .int (zI mes), .ref xa, .ref xf, .ref xt, .ref xr, .ref lb, .int (zI lbs), .ref so])), (au, .inl (cI, 6000, .inl (fI (upz Ups sz ua)))), (ap, .inl (cL, 6000, .inr (.inl (fL (upz Pla sz pl))))), (ab, .inl (cL, 6000, .inr (.inl (fL (upz Beg sz ba))))), (ae, .inl (cL, 6000, .inr (.inl (fL (upz Ens sz bb))))), (ah, .inl (cI, 6000, .inl (fI (upz Hid sz hd))))] H locs := hW
  refine lv_aload_n C.1 C.2.1 dMo_put_53 rfl (lv_at hl 0 rfl) ?_
  refine lv_dup C.1 C.2.1 dMo_put_54 rfl ?_
  refine zget C hW 0 7 rfl rfl inMo (by decide) flMo_145 rfl dMo_put_55 ?_
  refine lv_iconst (v := zI 1) C.1 C.2.1 dMo_put_58 (by decide) ?_
  refine ziadd C dMo_put_59 ?_
  refine zput C hW 0 7 tyMo tyMo_ok nmMo rfl rfl inMo (by decide) flMo_145 rfl rfl rfl rfl (Nat.le_of_ble_eq_true rfl) dMo_put_60 (fun H locs hW => ?_)
  have hW : zw D zCl A s [(m0, .inr (10, [.int (zI cd), .long (zL wi), .long (zL hi), .int (zI bn), .ref af, .ref at_, .int (zI dr), .int (zI (sz + 1)), .ref au, .ref ap, .ref ab, .ref ae, .ref ah, .int (zI kp), .int (zI ks), .ref ku, .ref kq, .ref kb, .ref ke, .ref kh, .int (zI als), .ref gf, .ref gt, .int (zI ses), .ref sf, .ref st, .int (zI les), .ref ef, .ref et, .int (zI mes), .ref xa, .ref xf, .ref xt, .ref xr, .ref lb, .int (zI lbs), .ref so])), (au, .inl (cI, 6000, .inl (fI (upz Ups sz ua)))), (ap, .inl (cL, 6000, .inr (.inl (fL (upz Pla sz pl))))), (ab, .inl (cL, 6000, .inr (.inl (fL (upz Beg sz ba))))), (ae, .inl (cL, 6000, .inr (.inl (fL (upz Ens sz bb))))), (ah, .inl (cI, 6000, .inl (fI (upz Hid sz hd))))] H locs := hW
  exact hQ _ H locs _ _ _ ls hW rfl (by omega) (by omega) dMo_put_63
set_option maxHeartbeats 4000000 in
set_option maxRecDepth 100000 in
theorem m_takeOff (l : Launch) (D : va_G) (cI cG cL cB : ClassId) (m0 : Nat) (cd : Int) (wi : Int) (hi : Int) (bn : Int) (af : Nat) (at_ : Nat) (dr : Int) (sz : Int) (au : Nat) (ap : Nat) (ab : Nat) (ae : Nat) (ah : Nat) (kp : Int) (ks : Int) (ku : Nat) (kq : Nat) (kb : Nat) (ke : Nat) (kh : Nat) (als : Int) (gf : Nat) (gt : Nat) (ses : Int) (sf : Nat) (st : Nat) (les : Int) (ef : Nat) (et : Nat) (mes : Int) (xa : Nat) (xf : Nat) (xt : Nat) (xr : Nat) (lb : Nat) (lbs : Int) (so : Nat) (LFr : Int → Int) (LTo : Int → Int) (ta : Int) (tb : Int) (bLFr : ∀ j : Int, I64 (LFr j)) (bLTo : ∀ j : Int, I64 (LTo j)) (hl0 : 0 ≤ les) (hl1 : les ≤ 63) (hdj : dsj LFr LTo les) (hiB : inB LFr LTo les) (hta : B2 ta) (htb : B2 tb) (hab : ta < tb) : Cv l yMo_takeOff cMo_takeOff 11 none 0 0 0 D zCl (zT cI cG cL cB) [.ref m0, .long (zL ta), .long (zL tb)] [(m0, .inr (10, [.int (zI cd), .long (zL wi), .long (zL hi), .int (zI bn), .ref af, .ref at_, .int (zI dr), .int (zI sz), .ref au, .ref ap, .ref ab, .ref ae, .ref ah, .int (zI kp), .int (zI ks), .ref ku, .ref kq, .ref kb, .ref ke, .ref kh, .int (zI als), .ref gf, .ref gt, .int (zI ses), .ref sf, .ref st, .int (zI les), .ref ef, .ref et, .int (zI mes), .ref xa, .ref xf, .ref xt, .ref xr, .ref lb, .int (zI lbs), .ref so])), (ef, .inl (cL, 64, .inr (.inl (fL LFr)))), (et, .inl (cL, 64, .inr (.inl (fL LTo))))] (fun w => ∃ les2 : Int, ∃ LFr2 : Int → Int, ∃ LTo2 : Int → Int, (∀ j : Int, I64 (LFr2 j)) ∧ (∀ j : Int, I64 (LTo2 j)) ∧ (les ≤ les2 ∧ les2 ≤ les + 1) ∧ (dsj LFr2 LTo2 les2) ∧ (inB LFr2 LTo2 les2) ∧ (∀ t : Int, LC LFr2 LTo2 les2 t ↔ LC LFr LTo les t ∧ ¬ (ta ≤ t ∧ t < tb)) ∧ w = [(m0, .inr (10, [.int (zI cd), .long (zL wi), .long (zL hi), .int (zI bn), .ref af, .ref at_, .int (zI dr), .int (zI sz), .ref au, .ref ap, .ref ab, .ref ae, .ref ah, .int (zI kp), .int (zI ks), .ref ku, .ref kq, .ref kb, .ref ke, .ref kh, .int (zI als), .ref gf, .ref gt, .int (zI ses), .ref sf, .ref st, .int (zI les2), .ref ef, .ref et, .int (zI mes), .ref xa, .ref xf, .ref xt, .ref xr, .ref lb, .int (zI lbs), .ref so])), (ef, .inl (cL, 64, .inr (.inl (fL LFr2)))), (et, .inl (cL, 64, .inr (.inl (fL LTo2))))]) := by
  refine zBv (by decide) (Nat.le_of_ble_eq_true rfl) ?_
  intro p e s m args below meth c ls A H locs Q C hin hl hW hQ
  have hl : lv_has ls 11 [(0, .ref m0), (1, .long (zL ta)), (3, .long (zL tb))] := hl
  refine lv_aload_n C.1 C.2.1 dMo_takeOff_0 rfl (lv_at hl 0 rfl) ?_
  refine zget C hW 0 26 rfl rfl inMo (by decide) flMo_128 rfl dMo_takeOff_1 ?_
  refine lv_istore (lv' := [(5, .int (zI les)), (0, .ref m0), (1, .long (zL ta)), (3, .long (zL tb))]) C.1 C.2.1 dMo_takeOff_4 hl (by decide) rfl (fun ls hl => ?_)
  refine lv_iconst (v := zI 0) C.1 C.2.1 dMo_takeOff_6 (by decide) ?_
  refine lv_istore (lv' := [(6, .int (zI 0)), (5, .int (zI les)), (0, .ref m0), (1, .long (zL ta)), (3, .long (zL tb))]) C.1 C.2.1 dMo_takeOff_7 hl (by decide) rfl (fun ls hl => ?_)
  have L9 : ∀ (N : Nat) (k : Int) (d : Int) (z_ : Int) (Fx : Int → Int) (Tx : Int → Int), (les - k).toNat < N → (0 ≤ k) → (k ≤ les) → (d = 0 ∨ d = 1) → (z_ = les + d) → (∀ j : Int, I64 (Fx j)) → (∀ j : Int, I64 (Tx j)) → (tko LFr LTo les ta tb Fx Tx k d) → ∀ (ls : Array Slot) (H : Heap) (locs : List Loc), lv_has ls 11 [(6, .int (zI k)), (5, .int (zI les)), (0, .ref m0), (1, .long (zL ta)), (3, .long (zL tb))] → zw D zCl A s [(m0, .inr (10, [.int (zI cd), .long (zL wi), .long (zL hi), .int (zI bn), .ref af, .ref at_, .int (zI dr), .int (zI sz), .ref au, .ref ap, .ref ab, .ref ae, .ref ah, .int (zI kp), .int (zI ks), .ref ku, .ref kq, .ref kb, .ref ke, .ref kh, .int (zI als), .ref gf, .ref gt, .int (zI ses), .ref sf, .ref st, .int (zI z_), .ref ef, .ref et, .int (zI mes), .ref xa, .ref xf, .ref xt, .ref xr, .ref lb, .int (zI lbs), .ref so])), (ef, .inl (cL, 64, .inr (.inl (fL Fx)))), (et, .inl (cL, 64, .inr (.inl (fL Tx))))] H locs → W p l e (zr 0 0 0) s m args below meth c H locs 0 0 Q (F0 m 9 ls []) := by
    intro N
    induction N with
    | zero => intro k d z_ Fx Tx hm; exact absurd hm (Nat.not_lt_zero _)
    | succ N ih9 =>
      intro k d z_ Fx Tx hm9 hk0 hk1 hd hz hFb hTb htk ls H locs hl hW
      refine lv_iload C.1 C.2.1 dMo_takeOff_9 (lv_at hl 0 rfl) ?_
      refine lv_iload C.1 C.2.1 dMo_takeOff_11 (lv_at hl 1 rfl) ?_
      refine zicmp_ge (tgt := 112) C (by omega) (by omega) dMo_takeOff_13 (by decide) (fun c13 => ?_) (fun c13 => ?_)
      · have htk2 := htk
        rw [show k = les by omega] at htk2
        exact hQ _ H locs _ _ _ ls hW ⟨z_, Fx, Tx, hFb, hTb, (by omega), (by rw [hz]; exact tko_dsj htk2 hd hdj hab), (by rw [hz]; exact tko_inB htk2 hd hiB hta htb), (by rw [hz]; exact tko_LC htk2 hd hdj hab hl0), rfl⟩ (by omega) (by omega) dMo_takeOff_112
      · refine lv_aload_n C.1 C.2.1 dMo_takeOff_16 rfl (lv_at hl 2 rfl) ?_
        refine zget C hW 0 27 rfl rfl inMo (by decide) flMo_59 rfl dMo_takeOff_17 ?_
        refine lv_iload C.1 C.2.1 dMo_takeOff_20 (lv_at hl 0 rfl) ?_
        refine zlald C hW 1 2 rfl rfl (by omega) (by omega) (by decide) dMo_takeOff_22 ?_
        have hb1 := hFb k
        refine lv_lstore (lv' := [(7, .long (zL (Fx k))), (6, .int (zI k)), (5, .int (zI les)), (0, .ref m0), (1, .long (zL ta)), (3, .long (zL tb))]) C.1 C.2.1 dMo_takeOff_23 hl (by decide) rfl (fun ls hl => ?_)
        refine lv_aload_n C.1 C.2.1 dMo_takeOff_25 rfl (lv_at hl 3 rfl) ?_
        refine zget C hW 0 28 rfl rfl inMo (by decide) flMo_62 rfl dMo_takeOff_26 ?_
        refine lv_iload C.1 C.2.1 dMo_takeOff_29 (lv_at hl 1 rfl) ?_
        refine zlald C hW 2 2 rfl rfl (by omega) (by omega) (by decide) dMo_takeOff_31 ?_
        have hb2 := hTb k
        refine lv_lstore (lv' := [(9, .long (zL (Tx k))), (7, .long (zL (Fx k))), (6, .int (zI k)), (5, .int (zI les)), (0, .ref m0), (1, .long (zL ta)), (3, .long (zL tb))]) C.1 C.2.1 dMo_takeOff_32 hl (by decide) rfl (fun ls hl => ?_)
        have hf := htk.fr k hk0 (by omega)
        have ht := htk.to2 k (Int.le_refl _) (by omega)
        refine lv_lload_n C.1 C.2.1 dMo_takeOff_34 rfl (lv_at hl 5 rfl) ?_
        refine lv_lload C.1 C.2.1 dMo_takeOff_35 (lv_at hl 0 rfl) ?_
        refine zlcmp_ge (tgt := 106) C (by omega) (by omega) dMo_takeOff_37 dMo_takeOff_38 (by decide) (fun c37 => ?_) (fun c37 => ?_)
        · refine lv_iinc (v := zI (k + 1)) (lv' := [(6, .int (zI (k + 1))), (9, .long (zL (Tx k))), (7, .long (zL (Fx k))), (5, .int (zI les)), (0, .ref m0), (1, .long (zL ta)), (3, .long (zL tb))]) C.1 C.2.1 dMo_takeOff_106 hl (k := 2) rfl (zI_add k 1) (by decide) rfl (fun ls hl => ?_)
          refine lv_goto (tgt := 9) C.1 C.2.1 dMo_takeOff_109 (by decide) ?_
          exact ih9 (k + 1) d z_ Fx Tx (by omega) (by omega) (by omega) hd hz hFb hTb (tko_n htk hk0 (by omega) (by omega)) ls H locs (lv_sub hl [0, 3, 4, 5, 6] rfl) hW
        · refine lv_lload_n C.1 C.2.1 dMo_takeOff_41 rfl (lv_at hl 6 rfl) ?_
          refine lv_lload C.1 C.2.1 dMo_takeOff_42 (lv_at hl 1 rfl) ?_
          refine zlcmp_le (tgt := 106) C (by omega) (by omega) dMo_takeOff_44 dMo_takeOff_45 (by decide) (fun c44 => ?_) (fun c44 => ?_)
          · refine lv_iinc (v := zI (k + 1)) (lv' := [(6, .int (zI (k + 1))), (9, .long (zL (Tx k))), (7, .long (zL (Fx k))), (5, .int (zI les)), (0, .ref m0), (1, .long (zL ta)), (3, .long (zL tb))]) C.1 C.2.1 dMo_takeOff_106 hl (k := 2) rfl (zI_add k 1) (by decide) rfl (fun ls hl => ?_)
            refine lv_goto (tgt := 9) C.1 C.2.1 dMo_takeOff_109 (by decide) ?_
            exact ih9 (k + 1) d z_ Fx Tx (by omega) (by omega) (by omega) hd hz hFb hTb (tko_n htk hk0 (by omega) (by omega)) ls H locs (lv_sub hl [0, 3, 4, 5, 6] rfl) hW
          · refine lv_aload_n C.1 C.2.1 dMo_takeOff_48 rfl (lv_at hl 4 rfl) ?_
            refine zget C hW 0 28 rfl rfl inMo (by decide) flMo_62 rfl dMo_takeOff_49 ?_
            refine lv_iload C.1 C.2.1 dMo_takeOff_52 (lv_at hl 2 rfl) ?_
            have L67 : ∀ (v : Int), (v = max ta (LFr k)) → (I64 v) → ∀ (ls : Array Slot) (H : Heap) (locs : List Loc), lv_has ls 11 [(9, .long (zL (Tx k))), (7, .long (zL (Fx k))), (6, .int (zI k)), (5, .int (zI les)), (0, .ref m0), (1, .long (zL ta)), (3, .long (zL tb))] → zw D zCl A s [(m0, .inr (10, [.int (zI cd), .long (zL wi), .long (zL hi), .int (zI bn), .ref af, .ref at_, .int (zI dr), .int (zI sz), .ref au, .ref ap, .ref ab, .ref ae, .ref ah, .int (zI kp), .int (zI ks), .ref ku, .ref kq, .ref kb, .ref ke, .ref kh, .int (zI als), .ref gf, .ref gt, .int (zI ses), .ref sf, .ref st, .int (zI z_), .ref ef, .ref et, .int (zI mes), .ref xa, .ref xf, .ref xt, .ref xr, .ref lb, .int (zI lbs), .ref so])), (ef, .inl (cL, 64, .inr (.inl (fL Fx)))), (et, .inl (cL, 64, .inr (.inl (fL Tx))))] H locs → W p l e (zr 0 0 0) s m args below meth c H locs 0 0 Q (F0 m 67 ls [.long (zL v), .int (zI k), .ref et]) := by
              intro v hv hvb ls H locs hl hW
              refine zlast C hW 2 2 rfl rfl (by omega) (by omega) (by decide) dMo_takeOff_67 (fun H locs hW => ?_)
              have hB3 : ∀ jj : Int, I64 ((upz Tx k v) jj) := upz_bL hTb (by omega)
              have hW : zw D zCl A s [(m0, .inr (10, [.int (zI cd), .long (zL wi), .long (zL hi), .int (zI bn), .ref af, .ref at_, .int (zI dr), .int (zI sz), .ref au, .ref ap, .ref ab, .ref ae, .ref ah, .int (zI kp), .int (zI ks), .ref ku, .ref kq, .ref kb, .ref ke, .ref kh, .int (zI als), .ref gf, .ref gt, .int (zI ses), .ref sf, .ref st, .int (zI z_), .ref ef, .ref et, .int (zI mes), .ref xa, .ref xf, .ref xt, .ref xr, .ref lb, .int (zI lbs), .ref so])), (ef, .inl (cL, 64, .inr (.inl (fL Fx)))), (et, .inl (cL, 64, .inr (.inl (fL (upz Tx k v)))))] H locs := hW
              refine lv_lload_n C.1 C.2.1 dMo_takeOff_68 rfl (lv_at hl 6 rfl) ?_
              refine lv_lload C.1 C.2.1 dMo_takeOff_69 (lv_at hl 0 rfl) ?_
              refine zlcmp_ge (tgt := 106) C (by omega) (by omega) dMo_takeOff_71 dMo_takeOff_72 (by decide) (fun c71 => ?_) (fun c71 => ?_)
              · refine lv_iinc (v := zI (k + 1)) (lv' := [(6, .int (zI (k + 1))), (9, .long (zL (Tx k))), (7, .long (zL (Fx k))), (5, .int (zI les)), (0, .ref m0), (1, .long (zL ta)), (3, .long (zL tb))]) C.1 C.2.1 dMo_takeOff_106 hl (k := 2) rfl (zI_add k 1) (by decide) rfl (fun ls hl => ?_)
                refine lv_goto (tgt := 9) C.1 C.2.1 dMo_takeOff_109 (by decide) ?_
                exact ih9 (k + 1) d z_ Fx (upz Tx k v) (by omega) (by omega) (by omega) hd hz hFb hB3 (tko_c htk hk0 (by omega) (by omega) (by omega) (by omega) hv) ls H locs (lv_sub hl [0, 3, 4, 5, 6] rfl) hW
              · have hd0 : d = 0 := tko_d htk hd hdj hk0 (by omega) (by omega) (by omega)
                refine lv_aload_n C.1 C.2.1 dMo_takeOff_75 rfl (lv_at hl 4 rfl) ?_
                refine zget C hW 0 27 rfl rfl inMo (by decide) flMo_59 rfl dMo_takeOff_76 ?_
                refine lv_aload_n C.1 C.2.1 dMo_takeOff_79 rfl (lv_at hl 4 rfl) ?_
                refine zget C hW 0 26 rfl rfl inMo (by decide) flMo_128 rfl dMo_takeOff_80 ?_
                refine lv_lload_n C.1 C.2.1 dMo_takeOff_83 rfl (lv_at hl 6 rfl) ?_
                refine zlast C hW 1 2 rfl rfl (by omega) (by omega) (by decide) dMo_takeOff_84 (fun H locs hW => ?_)
                have hB4 : ∀ jj : Int, I64 ((upz Fx z_ tb) jj) := upz_bL hFb (by omega)
                have hW : zw D zCl A s [(m0, .inr (10, [.int (zI cd), .long (zL wi), .long (zL hi), .int (zI bn), .ref af, .ref at_, .int (zI dr), .int (zI sz), .ref au, .ref ap, .ref ab, .ref ae, .ref ah, .int (zI kp), .int (zI ks), .ref ku, .ref kq, .ref kb, .ref ke, .ref kh, .int (zI als), .ref gf, .ref gt, .int (zI ses), .ref sf, .ref st, .int (zI z_), .ref ef, .ref et, .int (zI mes), .ref xa, .ref xf, .ref xt, .ref xr, .ref lb, .int (zI lbs), .ref so])), (ef, .inl (cL, 64, .inr (.inl (fL (upz Fx z_ tb))))), (et, .inl (cL, 64, .inr (.inl (fL (upz Tx k v)))))] H locs := hW
                refine lv_aload_n C.1 C.2.1 dMo_takeOff_85 rfl (lv_at hl 4 rfl) ?_
                refine zget C hW 0 28 rfl rfl inMo (by decide) flMo_62 rfl dMo_takeOff_86 ?_
                refine lv_aload_n C.1 C.2.1 dMo_takeOff_89 rfl (lv_at hl 4 rfl) ?_
                refine zget C hW 0 26 rfl rfl inMo (by decide) flMo_128 rfl dMo_takeOff_90 ?_
                refine lv_lload C.1 C.2.1 dMo_takeOff_93 (lv_at hl 0 rfl) ?_
                refine zlast C hW 2 2 rfl rfl (by omega) (by omega) (by decide) dMo_takeOff_95 (fun H locs hW => ?_)
                have hB5 : ∀ jj : Int, I64 ((upz (upz Tx k v) z_ (Tx k)) jj) := upz_bL hB3 (by omega)
                have hW : zw D zCl A s [(m0, .inr (10, [.int (zI cd), .long (zL wi), .long (zL hi), .int (zI bn), .ref af, .ref at_, .int (zI dr), .int (zI sz), .ref au, .ref ap, .ref ab, .ref ae, .ref ah, .int (zI kp), .int (zI ks), .ref ku, .ref kq, .ref kb, .ref ke, .ref kh, .int (zI als), .ref gf, .ref gt, .int (zI ses), .ref sf, .ref st, .int (zI z_), .ref ef, .ref et, .int (zI mes), .ref xa, .ref xf, .ref xt, .ref xr, .ref lb, .int (zI lbs), .ref so])), (ef, .inl (cL, 64, .inr (.inl (fL (upz Fx z_ tb))))), (et, .inl (cL, 64, .inr (.inl (fL (upz (upz Tx k v) z_ (Tx k))))))] H locs := hW
                refine lv_aload_n C.1 C.2.1 dMo_takeOff_96 rfl (lv_at hl 4 rfl) ?_
                refine lv_dup C.1 C.2.1 dMo_takeOff_97 rfl ?_
                refine zget C hW 0 26 rfl rfl inMo (by decide) flMo_128 rfl dMo_takeOff_98 ?_
                refine lv_iconst (v := zI 1) C.1 C.2.1 dMo_takeOff_101 (by decide) ?_
                refine ziadd C dMo_takeOff_102 ?_
                refine zput C hW 0 26 tyMo tyMo_ok nmMo rfl rfl inMo (by decide) flMo_128 rfl rfl rfl rfl (Nat.le_of_ble_eq_true rfl) dMo_takeOff_103 (fun H locs hW => ?_)
                have hW : zw D zCl A s [(m0, .inr (10, [.int (zI cd), .long (zL wi), .long (zL hi), .int (zI bn), .ref af, .ref at_, .int (zI dr), .int (zI sz), .ref au, .ref ap, .ref ab, .ref ae, .ref ah, .int (zI kp), .int (zI ks), .ref ku, .ref kq, .ref kb, .ref ke, .ref kh, .int (zI als), .ref gf, .ref gt, .int (zI ses), .ref sf, .ref st, .int (zI (z_ + 1)), .ref ef, .ref et, .int (zI mes), .ref xa, .ref xf, .ref xt, .ref xr, .ref lb, .int (zI lbs), .ref so])), (ef, .inl (cL, 64, .inr (.inl (fL (upz Fx z_ tb))))), (et, .inl (cL, 64, .inr (.inl (fL (upz (upz Tx k v) z_ (Tx k))))))] H locs := hW
                refine lv_iinc (v := zI (k + 1)) (lv' := [(6, .int (zI (k + 1))), (9, .long (zL (Tx k))), (7, .long (zL (Fx k))), (5, .int (zI les)), (0, .ref m0), (1, .long (zL ta)), (3, .long (zL tb))]) C.1 C.2.1 dMo_takeOff_106 hl (k := 2) rfl (zI_add k 1) (by decide) rfl (fun ls hl => ?_)
                refine lv_goto (tgt := 9) C.1 C.2.1 dMo_takeOff_109 (by decide) ?_
                exact ih9 (k + 1) 1 (z_ + 1) (upz Fx z_ tb) (upz (upz Tx k v) z_ (Tx k)) (by omega) (by omega) (by omega) (Or.inr rfl) (by omega) hB4 hB5 (by rw [show z_ = les by omega, ht]; exact tko_a htk hd0 hk0 (by omega) (by omega) (by omega) (by omega) hv) ls H locs (lv_sub hl [0, 3, 4, 5, 6] rfl) hW
            refine lv_lload_n C.1 C.2.1 dMo_takeOff_54 rfl (lv_at hl 5 rfl) ?_
            refine lv_lload C.1 C.2.1 dMo_takeOff_55 (lv_at hl 1 rfl) ?_
            refine zlcmp_le (tgt := 65) C (by omega) (by omega) dMo_takeOff_57 dMo_takeOff_58 (by decide) (fun c57 => ?_) (fun c57 => ?_)
            · refine lv_lload C.1 C.2.1 dMo_takeOff_65 (lv_at hl 1 rfl) ?_
              exact L67 (Fx k) (by omega) (by omega) ls H locs (lv_sub hl [0, 1, 2, 3, 4, 5, 6] rfl) hW
            · refine lv_lload_n C.1 C.2.1 dMo_takeOff_61 rfl (lv_at hl 5 rfl) ?_
              refine lv_goto (tgt := 67) C.1 C.2.1 dMo_takeOff_62 (by decide) ?_
              exact L67 ta (by omega) (by omega) ls H locs (lv_sub hl [0, 1, 2, 3, 4, 5, 6] rfl) hW
  exact L9 _ 0 0 les LFr LTo (Nat.lt_succ_self _) (by omega) (by omega) (Or.inl rfl) (by omega) bLFr bLTo (tko_0 ..) ls H locs (lv_sub hl [0, 1, 2, 3, 4] rfl) hW
set_option maxHeartbeats 4000000 in
set_option maxRecDepth 100000 in
theorem m_page (l : Launch) (D : va_G) (cI cG cL cB : ClassId) (m0 : Nat) (cd : Int) (wi : Int) (hi : Int) (bn : Int) (af : Nat) (at_ : Nat) (dr : Int) (sz : Int) (au : Nat) (ap : Nat) (ab : Nat) (ae : Nat) (ah : Nat) (kp : Int) (ks : Int) (ku : Nat) (kq : Nat) (kb : Nat) (ke : Nat) (kh : Nat) (als : Int) (gf : Nat) (gt : Nat) (ses : Int) (sf : Nat) (st : Nat) (les : Int) (ef : Nat) (et : Nat) (mes : Int) (xa : Nat) (xf : Nat) (xt : Nat) (xr : Nat) (lb : Nat) (lbs : Int) (so : Nat) (Ups : Int → Int) (Pla : Int → Int) (Beg : Int → Int) (Ens : Int → Int) (Hid : Int → Int) (k : Int) (wh : Int) (bUps : ∀ j : Int, I32 (Ups j)) (bPla : ∀ j : Int, I64 (Pla j)) (bBeg : ∀ j : Int, I64 (Beg j)) (bEns : ∀ j : Int, I64 (Ens j)) (hsz : 0 ≤ sz ∧ sz ≤ 6000) (hMS : moS sz Ups Pla Beg Ens Hid) (hdr : dr = 0 ∨ dr = 1) (hwi : 1 ≤ wi ∧ wi ≤ 65536) (hhi : 1 ≤ hi ∧ hi ≤ 65536) (hIk : I32 k) (hIwh : I32 wh) : Ci l yMo_page cMo_page 20 (some .int) 1 0 0 D zCl (zT cI cG cL cB) [.ref m0, .int (zI k), .int (zI wh)] [(m0, .inr (10, [.int (zI cd), .long (zL wi), .long (zL hi), .int (zI bn), .ref af, .ref at_, .int (zI dr), .int (zI sz), .ref au, .ref ap, .ref ab, .ref ae, .ref ah, .int (zI kp), .int (zI ks), .ref ku, .ref kq, .ref kb, .ref ke, .ref kh, .int (zI als), .ref gf, .ref gt, .int (zI ses), .ref sf, .ref st, .int (zI les), .ref ef, .ref et, .int (zI mes), .ref xa, .ref xf, .ref xt, .ref xr, .ref lb, .int (zI lbs), .ref so])), (au, .inl (cI, 6000, .inl (fI Ups))), (ap, .inl (cL, 6000, .inr (.inl (fL Pla)))), (ab, .inl (cL, 6000, .inr (.inl (fL Beg)))), (ae, .inl (cL, 6000, .inr (.inl (fL Ens))))] (fun x w => ∃ cd2 : Int, ∃ r2 : Int, (cd2 = if dr = 0 then 1 else paC ((pgF ((edM Ups Pla Beg Ens 0 1 sz) - (edM Ups Pla Beg Ens 0 0 sz)) wi) * (pgF ((edM Ups Pla Beg Ens 1 1 sz) - (edM Ups Pla Beg Ens 1 0 sz)) hi)) k wh) ∧ (cd2 = 0 → k = -1 → r2 = min ((pgF ((edM Ups Pla Beg Ens 0 1 sz) - (edM Ups Pla Beg Ens 0 0 sz)) wi) * (pgF ((edM Ups Pla Beg Ens 1 1 sz) - (edM Ups Pla Beg Ens 1 0 sz)) hi)) 2147483647) ∧ (cd2 = 0 → k ≠ -1 → r2 = cntZ (pgP Ups Pla Beg Ens wi hi ((edM Ups Pla Beg Ens 0 0 sz) + wi * (k.tmod (pgF ((edM Ups Pla Beg Ens 0 1 sz) - (edM Ups Pla Beg Ens 0 0 sz)) wi))) ((edM Ups Pla Beg Ens 1 0 sz) + hi * (k.tdiv (pgF ((edM Ups Pla Beg Ens 0 1 sz) - (edM Ups Pla Beg Ens 0 0 sz)) wi))) (bz (decide (k.tdiv (pgF ((edM Ups Pla Beg Ens 0 1 sz) - (edM Ups Pla Beg Ens 0 0 sz)) wi) = (pgF ((edM Ups Pla Beg Ens 1 1 sz) - (edM Ups Pla Beg Ens 1 0 sz)) hi) - 1))) wh) sz) ∧ x = zI r2 ∧ w = [(m0, .inr (10, [.int (zI cd2), .long (zL wi), .long (zL hi), .int (zI bn), .ref af, .ref at_, .int (zI dr), .int (zI sz), .ref au, .ref ap, .ref ab, .ref ae, .ref ah, .int (zI kp), .int (zI ks), .ref ku, .ref kq, .ref kb, .ref ke, .ref kh, .int (zI als), .ref gf, .ref gt, .int (zI ses), .ref sf, .ref st, .int (zI les), .ref ef, .ref et, .int (zI mes), .ref xa, .ref xf, .ref xt, .ref xr, .ref lb, .int (zI lbs), .ref so])), (au, .inl (cI, 6000, .inl (fI Ups))), (ap, .inl (cL, 6000, .inr (.inl (fL Pla)))), (ab, .inl (cL, 6000, .inr (.inl (fL Beg)))), (ae, .inl (cL, 6000, .inr (.inl (fL Ens))))]) := by
  refine zBi (by decide) (Nat.le_of_ble_eq_true rfl) ?_
  intro p e s m args below meth c ls A H locs Q C hin hl hW hQ
  have hl : lv_has ls 20 [(0, .ref m0), (1, .int (zI k)), (2, .int (zI wh))] := hl
  refine lv_aload_n C.1 C.2.1 dMo_page_0 rfl (lv_at hl 0 rfl) ?_
  refine zcalli (wr := [(au, .inl (cI, 6000, .inl (fI Ups))), (ap, .inl (cL, 6000, .inr (.inl (fL Pla)))), (ab, .inl (cL, 6000, .inr (.inl (fL Beg)))), (ae, .inl (cL, 6000, .inr (.inl (fL Ens))))]) C hW [0] [1, 2, 3, 4] rfl rfl (by decide) (by decide) (zRunV (k := 0) (As := []) (rest := []) C hW (m_none l D cI cG cL cB m0 cd wi hi bn af at_ dr sz au ap ab ae ah kp ks ku kq kb ke kh als gf gt ses sf st les ef et mes xa xf xt xr lb lbs so (by omega) H.size) [0] rfl (by decide) kMo_195 (by decide +kernel) ⟨by decide, by decide⟩ 0 rfl rfl rfl hl.1 (Nat.le_of_ble_eq_true rfl) dMo_page_1 ⟨by first | decide | omega, by first | decide | omega⟩) (fun x w H locs hq hW => ?_)
  obtain ⟨rfl, rfl⟩ := hq
  have hW : zw D zCl A s [(au, .inl (cI, 6000, .inl (fI Ups))), (ap, .inl (cL, 6000, .inr (.inl (fL Pla)))), (ab, .inl (cL, 6000, .inr (.inl (fL Beg)))), (ae, .inl (cL, 6000, .inr (.inl (fL Ens)))), (m0, .inr (10, [.int (zI (1 - dr)), .long (zL wi), .long (zL hi), .int (zI bn), .ref af, .ref at_, .int (zI dr), .int (zI sz), .ref au, .ref ap, .ref ab, .ref ae, .ref ah, .int (zI kp), .int (zI ks), .ref ku, .ref kq, .ref kb, .ref ke, .ref kh, .int (zI als), .ref gf, .ref gt, .int (zI ses), .ref sf, .ref st, .int (zI les), .ref ef, .ref et, .int (zI mes), .ref xa, .ref xf, .ref xt, .ref xr, .ref lb, .int (zI lbs), .ref so]))] H locs := hW
  refine zif_eq (tgt := 9) C (by omega) dMo_page_4 (by decide) (fun c4 => ?_) (fun c4 => ?_)
  · refine lv_aload_n C.1 C.2.1 dMo_page_9 rfl (lv_at hl 0 rfl) ?_
    refine lv_iconst (v := zI 0) C.1 C.2.1 dMo_page_10 (by decide) ?_
    refine lv_iconst (v := zI 0) C.1 C.2.1 dMo_page_11 (by decide) ?_
    refine zcalll (wr := []) C hW [4, 0, 1, 2, 3] [] rfl rfl (by decide) (by decide) (zRunV (k := 2) (As := [.int (zI 0), .int (zI 0)]) (rest := []) C hW (m_edge l D cI cG cL cB m0 (1 - dr) wi hi bn af at_ dr sz au ap ab ae ah kp ks ku kq kb ke kh als gf gt ses sf st les ef et mes xa xf xt xr lb lbs so Ups Pla Beg Ens Hid 0 0 bUps bPla bBeg bEns (by omega) hMS (by omega) (by omega) H.size) [4, 0, 1, 2, 3] rfl (by decide) kMo_223 (by decide +kernel) ⟨by decide, by decide⟩ 4 rfl rfl rfl hl.1 (Nat.le_of_ble_eq_true rfl) dMo_page_12 ⟨by first | decide | omega, by first | decide | omega⟩) (fun x w H locs hq hW => ?_)
    obtain ⟨rfl, rfl⟩ := hq
    have hW : zw D zCl A s [(m0, .inr (10, [.int (zI (1 - dr)), .long (zL wi), .long (zL hi), .int (zI bn), .ref af, .ref at_, .int (zI dr), .int (zI sz), .ref au, .ref ap, .ref ab, .ref ae, .ref ah, .int (zI kp), .int (zI ks), .ref ku, .ref kq, .ref kb, .ref ke, .ref kh, .int (zI als), .ref gf, .ref gt, .int (zI ses), .ref sf, .ref st, .int (zI les), .ref ef, .ref et, .int (zI mes), .ref xa, .ref xf, .ref xt, .ref xr, .ref lb, .int (zI lbs), .ref so])), (au, .inl (cI, 6000, .inl (fI Ups))), (ap, .inl (cL, 6000, .inr (.inl (fL Pla)))), (ab, .inl (cL, 6000, .inr (.inl (fL Beg)))), (ae, .inl (cL, 6000, .inr (.inl (fL Ens))))] H locs := hW
    have hr1 := edM_in hMS 0 0 hsz.1
    refine lv_lstore_n (lv' := [(3, .long (zL (edM Ups Pla Beg Ens 0 0 sz))), (0, .ref m0), (1, .int (zI k)), (2, .int (zI wh))]) C.1 C.2.1 dMo_page_15 rfl hl (by decide) rfl (fun ls hl => ?_)
    refine lv_aload_n C.1 C.2.1 dMo_page_16 rfl (lv_at hl 1 rfl) ?_
    refine lv_iconst (v := zI 1) C.1 C.2.1 dMo_page_17 (by decide) ?_
    refine lv_iconst (v := zI 0) C.1 C.2.1 dMo_page_18 (by decide) ?_
    refine zcalll (wr := []) C hW [0, 1, 2, 3, 4] [] rfl rfl (by decide) (by decide) (zRunV (k := 2) (As := [.int (zI 1), .int (zI 0)]) (rest := []) C hW (m_edge l D cI cG cL cB m0 (1 - dr) wi hi bn af at_ dr sz au ap ab ae ah kp ks ku kq kb ke kh als gf gt ses sf st les ef et mes xa xf xt xr lb lbs so Ups Pla Beg Ens Hid 1 0 bUps bPla bBeg bEns (by omega) hMS (by omega) (by omega) H.size) [0, 1, 2, 3, 4] rfl (by decide) kMo_223 (by decide +kernel) ⟨by decide, by decide⟩ 0 rfl rfl rfl hl.1 (Nat.le_of_ble_eq_true rfl) dMo_page_19 ⟨by first | decide | omega, by first | decide | omega⟩) (fun x w H locs hq hW => ?_)
    obtain ⟨rfl, rfl⟩ := hq
    have hW : zw D zCl A s [(m0, .inr (10, [.int (zI (1 - dr)), .long (zL wi), .long (zL hi), .int (zI bn), .ref af, .ref at_, .int (zI dr), .int (zI sz), .ref au, .ref ap, .ref ab, .ref ae, .ref ah, .int (zI kp), .int (zI ks), .ref ku, .ref kq, .ref kb, .ref ke, .ref kh, .int (zI als), .ref gf, .ref gt, .int (zI ses), .ref sf, .ref st, .int (zI les), .ref ef, .ref et, .int (zI mes), .ref xa, .ref xf, .ref xt, .ref xr, .ref lb, .int (zI lbs), .ref so])), (au, .inl (cI, 6000, .inl (fI Ups))), (ap, .inl (cL, 6000, .inr (.inl (fL Pla)))), (ab, .inl (cL, 6000, .inr (.inl (fL Beg)))), (ae, .inl (cL, 6000, .inr (.inl (fL Ens))))] H locs := hW
    have hr2 := edM_in hMS 1 0 hsz.1
    refine lv_lstore (lv' := [(5, .long (zL (edM Ups Pla Beg Ens 1 0 sz))), (3, .long (zL (edM Ups Pla Beg Ens 0 0 sz))), (0, .ref m0), (1, .int (zI k)), (2, .int (zI wh))]) C.1 C.2.1 dMo_page_22 hl (by decide) rfl (fun ls hl => ?_)
    refine lv_aload_n C.1 C.2.1 dMo_page_24 rfl (lv_at hl 2 rfl) ?_
    refine lv_iconst (v := zI 0) C.1 C.2.1 dMo_page_25 (by decide) ?_
    refine lv_iconst (v := zI 1) C.1 C.2.1 dMo_page_26 (by decide) ?_
    refine zcalll (wr := []) C hW [0, 1, 2, 3, 4] [] rfl rfl (by decide) (by decide) (zRunV (k := 2) (As := [.int (zI 0), .int (zI 1)]) (rest := []) C hW (m_edge l D cI cG cL cB m0 (1 - dr) wi hi bn af at_ dr sz au ap ab ae ah kp ks ku kq kb ke kh als gf gt ses sf st les ef et mes xa xf xt xr lb lbs so Ups Pla Beg Ens Hid 0 1 bUps bPla bBeg bEns (by omega) hMS (by omega) (by omega) H.size) [0, 1, 2, 3, 4] rfl (by decide) kMo_223 (by decide +kernel) ⟨by decide, by decide⟩ 0 rfl rfl rfl hl.1 (Nat.le_of_ble_eq_true rfl) dMo_page_27 ⟨by first | decide | omega, by first | decide | omega⟩) (fun x w H locs hq hW => ?_)
    obtain ⟨rfl, rfl⟩ := hq
    have hW : zw D zCl A s [(m0, .inr (10, [.int (zI (1 - dr)), .long (zL wi), .long (zL hi), .int (zI bn), .ref af, .ref at_, .int (zI dr), .int (zI sz), .ref au, .ref ap, .ref ab, .ref ae, .ref ah, .int (zI kp), .int (zI ks), .ref ku, .ref kq, .ref kb, .ref ke, .ref kh, .int (zI als), .ref gf, .ref gt, .int (zI ses), .ref sf, .ref st, .int (zI les), .ref ef, .ref et, .int (zI mes), .ref xa, .ref xf, .ref xt, .ref xr, .ref lb, .int (zI lbs), .ref so])), (au, .inl (cI, 6000, .inl (fI Ups))), (ap, .inl (cL, 6000, .inr (.inl (fL Pla)))), (ab, .inl (cL, 6000, .inr (.inl (fL Beg)))), (ae, .inl (cL, 6000, .inr (.inl (fL Ens))))] H locs := hW
    have hr3 := edM_in hMS 0 1 hsz.1
    refine lv_lload_n C.1 C.2.1 dMo_page_30 rfl (lv_at hl 1 rfl) ?_
    refine zlsub C dMo_page_31 ?_
    refine lv_aload_n C.1 C.2.1 dMo_page_32 rfl (lv_at hl 2 rfl) ?_
    refine zget C hW 0 1 rfl rfl inMo (by decide) flMo_86 rfl dMo_page_33 ?_
    refine zcalll (wr := [(m0, .inr (10, [.int (zI (1 - dr)), .long (zL wi), .long (zL hi), .int (zI bn), .ref af, .ref at_, .int (zI dr), .int (zI sz), .ref au, .ref ap, .ref ab, .ref ae, .ref ah, .int (zI kp), .int (zI ks), .ref ku, .ref kq, .ref kb, .ref ke, .ref kh, .int (zI als), .ref gf, .ref gt, .int (zI ses), .ref sf, .ref st, .int (zI les), .ref ef, .ref et, .int (zI mes), .ref xa, .ref xf, .ref xt, .ref xr, .ref lb, .int (zI lbs), .ref so])), (au, .inl (cI, 6000, .inl (fI Ups))), (ap, .inl (cL, 6000, .inr (.inl (fL Pla)))), (ab, .inl (cL, 6000, .inr (.inl (fL Beg)))), (ae, .inl (cL, 6000, .inr (.inl (fL Ens))))]) C hW [] [0, 1, 2, 3, 4] rfl rfl (by decide) (by decide) (zRunS (k := 2) (As := [.long (zL (edM Ups Pla Beg Ens 0 1 sz - edM Ups Pla Beg Ens 0 0 sz)), .long (zL wi)]) (rest := []) C hW (m_many l D cI cG cL cB (edM Ups Pla Beg Ens 0 1 sz - edM Ups Pla Beg Ens 0 0 sz) wi (by omega) (by omega) (by omega) (by omega) H.size) [] rfl (by decide) kMo_227 (by decide +kernel) ⟨by decide, by decide⟩ rfl hl.1 (Nat.le_of_ble_eq_true rfl) dMo_page_36 ⟨by first | decide | omega, by first | decide | omega⟩) (fun x w H locs hq hW => ?_)
    obtain ⟨rfl, rfl⟩ := hq
    have hW : zw D zCl A s [(m0, .inr (10, [.int (zI (1 - dr)), .long (zL wi), .long (zL hi), .int (zI bn), .ref af, .ref at_, .int (zI dr), .int (zI sz), .ref au, .ref ap, .ref ab, .ref ae, .ref ah, .int (zI kp), .int (zI ks), .ref ku, .ref kq, .ref kb, .ref ke, .ref kh, .int (zI als), .ref gf, .ref gt, .int (zI ses), .ref sf, .ref st, .int (zI les), .ref ef, .ref et, .int (zI mes), .ref xa, .ref xf, .ref xt, .ref xr, .ref lb, .int (zI lbs), .ref so])), (au, .inl (cI, 6000, .inl (fI Ups))), (ap, .inl (cL, 6000, .inr (.inl (fL Pla)))), (ab, .inl (cL, 6000, .inr (.inl (fL Beg)))), (ae, .inl (cL, 6000, .inr (.inl (fL Ens))))] H locs := hW
    refine lv_lstore (lv' := [(7, .long (zL (pgF (edM Ups Pla Beg Ens 0 1 sz - edM Ups Pla Beg Ens 0 0 sz) wi))), (5, .long (zL (edM Ups Pla Beg Ens 1 0 sz))), (3, .long (zL (edM Ups Pla Beg Ens 0 0 sz))), (0, .ref m0), (1, .int (zI k)), (2, .int (zI wh))]) C.1 C.2.1 dMo_page_39 hl (by decide) rfl (fun ls hl => ?_)
    refine lv_aload_n C.1 C.2.1 dMo_page_41 rfl (lv_at hl 3 rfl) ?_
    refine lv_iconst (v := zI 1) C.1 C.2.1 dMo_page_42 (by decide) ?_
    refine lv_iconst (v := zI 1) C.1 C.2.1 dMo_page_43 (by decide) ?_
    refine zcalll (wr := []) C hW [0, 1, 2, 3, 4] [] rfl rfl (by decide) (by decide) (zRunV (k := 2) (As := [.int (zI 1), .int (zI 1)]) (rest := []) C hW (m_edge l D cI cG cL cB m0 (1 - dr) wi hi bn af at_ dr sz au ap ab ae ah kp ks ku kq kb ke kh als gf gt ses sf st les ef et mes xa xf xt xr lb lbs so Ups Pla Beg Ens Hid 1 1 bUps bPla bBeg bEns (by omega) hMS (by omega) (by omega) H.size) [0, 1, 2, 3, 4] rfl (by decide) kMo_223 (by decide +kernel) ⟨by decide, by decide⟩ 0 rfl rfl rfl hl.1 (Nat.le_of_ble_eq_true rfl) dMo_page_44 ⟨by first | decide | omega, by first | decide | omega⟩) (fun x w H locs hq hW => ?_)
    obtain ⟨rfl, rfl⟩ := hq
    have hW : zw D zCl A s [(m0, .inr (10, [.int (zI (1 - dr)), .long (zL wi), .long (zL hi), .int (zI bn), .ref af, .ref at_, .int (zI dr), .int (zI sz), .ref au, .ref ap, .ref ab, .ref ae, .ref ah, .int (zI kp), .int (zI ks), .ref ku, .ref kq, .ref kb, .ref ke, .ref kh, .int (zI als), .ref gf, .ref gt, .int (zI ses), .ref sf, .ref st, .int (zI les), .ref ef, .ref et, .int (zI mes), .ref xa, .ref xf, .ref xt, .ref xr, .ref lb, .int (zI lbs), .ref so])), (au, .inl (cI, 6000, .inl (fI Ups))), (ap, .inl (cL, 6000, .inr (.inl (fL Pla)))), (ab, .inl (cL, 6000, .inr (.inl (fL Beg)))), (ae, .inl (cL, 6000, .inr (.inl (fL Ens))))] H locs := hW
    have hr4 := edM_in hMS 1 1 hsz.1
    refine lv_lload C.1 C.2.1 dMo_page_47 (lv_at hl 1 rfl) ?_
    refine zlsub C dMo_page_49 ?_
    refine lv_aload_n C.1 C.2.1 dMo_page_50 rfl (lv_at hl 3 rfl) ?_
    refine zget C hW 0 2 rfl rfl inMo (by decide) flMo_90 rfl dMo_page_51 ?_
    refine zcalll (wr := [(m0, .inr (10, [.int (zI (1 - dr)), .long (zL wi), .long (zL hi), .int (zI bn), .ref af, .ref at_, .int (zI dr), .int (zI sz), .ref au, .ref ap, .ref ab, .ref ae, .ref ah, .int (zI kp), .int (zI ks), .ref ku, .ref kq, .ref kb, .ref ke, .ref kh, .int (zI als), .ref gf, .ref gt, .int (zI ses), .ref sf, .ref st, .int (zI les), .ref ef, .ref et, .int (zI mes), .ref xa, .ref xf, .ref xt, .ref xr, .ref lb, .int (zI lbs), .ref so])), (au, .inl (cI, 6000, .inl (fI Ups))), (ap, .inl (cL, 6000, .inr (.inl (fL Pla)))), (ab, .inl (cL, 6000, .inr (.inl (fL Beg)))), (ae, .inl (cL, 6000, .inr (.inl (fL Ens))))]) C hW [] [0, 1, 2, 3, 4] rfl rfl (by decide) (by decide) (zRunS (k := 2) (As := [.long (zL (edM Ups Pla Beg Ens 1 1 sz - edM Ups Pla Beg Ens 1 0 sz)), .long (zL hi)]) (rest := []) C hW (m_many l D cI cG cL cB (edM Ups Pla Beg Ens 1 1 sz - edM Ups Pla Beg Ens 1 0 sz) hi (by omega) (by omega) (by omega) (by omega) H.size) [] rfl (by decide) kMo_227 (by decide +kernel) ⟨by decide, by decide⟩ rfl hl.1 (Nat.le_of_ble_eq_true rfl) dMo_page_54 ⟨by first | decide | omega, by first | decide | omega⟩) (fun x w H locs hq hW => ?_)
    obtain ⟨rfl, rfl⟩ := hq
    have hW : zw D zCl A s [(m0, .inr (10, [.int (zI (1 - dr)), .long (zL wi), .long (zL hi), .int (zI bn), .ref af, .ref at_, .int (zI dr), .int (zI sz), .ref au, .ref ap, .ref ab, .ref ae, .ref ah, .int (zI kp), .int (zI ks), .ref ku, .ref kq, .ref kb, .ref ke, .ref kh, .int (zI als), .ref gf, .ref gt, .int (zI ses), .ref sf, .ref st, .int (zI les), .ref ef, .ref et, .int (zI mes), .ref xa, .ref xf, .ref xt, .ref xr, .ref lb, .int (zI lbs), .ref so])), (au, .inl (cI, 6000, .inl (fI Ups))), (ap, .inl (cL, 6000, .inr (.inl (fL Pla)))), (ab, .inl (cL, 6000, .inr (.inl (fL Beg)))), (ae, .inl (cL, 6000, .inr (.inl (fL Ens))))] H locs := hW
    refine lv_lstore (lv' := [(9, .long (zL (pgF (edM Ups Pla Beg Ens 1 1 sz - edM Ups Pla Beg Ens 1 0 sz) hi))), (7, .long (zL (pgF (edM Ups Pla Beg Ens 0 1 sz - edM Ups Pla Beg Ens 0 0 sz) wi))), (5, .long (zL (edM Ups Pla Beg Ens 1 0 sz))), (3, .long (zL (edM Ups Pla Beg Ens 0 0 sz))), (0, .ref m0), (1, .int (zI k)), (2, .int (zI wh))]) C.1 C.2.1 dMo_page_57 hl (by decide) rfl (fun ls hl => ?_)
    have L59 : ∀ (lf : Int) (lo : Int) (co : Int) (ro : Int), (lf = (edM Ups Pla Beg Ens 0 0 sz)) → (lo = (edM Ups Pla Beg Ens 1 0 sz)) → (co = (pgF ((edM Ups Pla Beg Ens 0 1 sz) - (edM Ups Pla Beg Ens 0 0 sz)) wi)) → (ro = (pgF ((edM Ups Pla Beg Ens 1 1 sz) - (edM Ups Pla Beg Ens 1 0 sz)) hi)) → (B2 lf) → (B2 lo) → (1 ≤ co ∧ co ≤ 20000000) → (1 ≤ ro ∧ ro ≤ 20000000) → ∀ (ls : Array Slot) (H : Heap) (locs : List Loc), lv_has ls 20 [(9, .long (zL ro)), (7, .long (zL co)), (5, .long (zL lo)), (3, .long (zL lf)), (0, .ref m0), (1, .int (zI k)), (2, .int (zI wh))] → zw D zCl A s [(m0, .inr (10, [.int (zI (1 - dr)), .long (zL wi), .long (zL hi), .int (zI bn), .ref af, .ref at_, .int (zI dr), .int (zI sz), .ref au, .ref ap, .ref ab, .ref ae, .ref ah, .int (zI kp), .int (zI ks), .ref ku, .ref kq, .ref kb, .ref ke, .ref kh, .int (zI als), .ref gf, .ref gt, .int (zI ses), .ref sf, .ref st, .int (zI les), .ref ef, .ref et, .int (zI mes), .ref xa, .ref xf, .ref xt, .ref xr, .ref lb, .int (zI lbs), .ref so])), (au, .inl (cI, 6000, .inl (fI Ups))), (ap, .inl (cL, 6000, .inr (.inl (fL Pla)))), (ab, .inl (cL, 6000, .inr (.inl (fL Beg)))), (ae, .inl (cL, 6000, .inr (.inl (fL Ens))))] H locs → W p l e (zr 1 0 0) s m args below meth c H locs 0 0 Q (F0 m 59 ls []) := by
      intro lf lo co ro hlf hlo hco hro hlfb hlob hcob hrob ls H locs hl hW
      have hcr := mul_in (a := co) (b := ro) (A := 20000000) (B := 20000000) (by omega) (by omega) (by omega) (by omega)
      refine lv_aload_n C.1 C.2.1 dMo_page_59 rfl (lv_at hl 4 rfl) ?_
      have L94 : ∀ (v : Int), (v = paC (co * ro) k wh) → (v = 0 ∧ -1 ≤ k ∧ k < co * ro ∧ 0 ≤ wh ∧ wh ≤ 1 ∨ v = 2 ∨ v = 3) → ∀ (ls : Array Slot) (H : Heap) (locs : List Loc), lv_has ls 20 [(9, .long (zL ro)), (7, .long (zL co)), (5, .long (zL lo)), (3, .long (zL lf)), (0, .ref m0), (1, .int (zI k)), (2, .int (zI wh))] → zw D zCl A s [(m0, .inr (10, [.int (zI (1 - dr)), .long (zL wi), .long (zL hi), .int (zI bn), .ref af, .ref at_, .int (zI dr), .int (zI sz), .ref au, .ref ap, .ref ab, .ref ae, .ref ah, .int (zI kp), .int (zI ks), .ref ku, .ref kq, .ref kb, .ref ke, .ref kh, .int (zI als), .ref gf, .ref gt, .int (zI ses), .ref sf, .ref st, .int (zI les), .ref ef, .ref et, .int (zI mes), .ref xa, .ref xf, .ref xt, .ref xr, .ref lb, .int (zI lbs), .ref so])), (au, .inl (cI, 6000, .inl (fI Ups))), (ap, .inl (cL, 6000, .inr (.inl (fL Pla)))), (ab, .inl (cL, 6000, .inr (.inl (fL Beg)))), (ae, .inl (cL, 6000, .inr (.inl (fL Ens))))] H locs → W p l e (zr 1 0 0) s m args below meth c H locs 0 0 Q (F0 m 94 ls [.int (zI v), .ref m0]) := by
        intro v hv hv2 ls H locs hl hW
        refine zput C hW 0 0 tyMo tyMo_ok nmMo rfl rfl inMo (by decide) flMo_93 rfl rfl rfl rfl (Nat.le_of_ble_eq_true rfl) dMo_page_94 (fun H locs hW => ?_)
        have hW : zw D zCl A s [(m0, .inr (10, [.int (zI v), .long (zL wi), .long (zL hi), .int (zI bn), .ref af, .ref at_, .int (zI dr), .int (zI sz), .ref au, .ref ap, .ref ab, .ref ae, .ref ah, .int (zI kp), .int (zI ks), .ref ku, .ref kq, .ref kb, .ref ke, .ref kh, .int (zI als), .ref gf, .ref gt, .int (zI ses), .ref sf, .ref st, .int (zI les), .ref ef, .ref et, .int (zI mes), .ref xa, .ref xf, .ref xt, .ref xr, .ref lb, .int (zI lbs), .ref so])), (au, .inl (cI, 6000, .inl (fI Ups))), (ap, .inl (cL, 6000, .inr (.inl (fL Pla)))), (ab, .inl (cL, 6000, .inr (.inl (fL Beg)))), (ae, .inl (cL, 6000, .inr (.inl (fL Ens))))] H locs := hW
        refine lv_aload_n C.1 C.2.1 dMo_page_97 rfl (lv_at hl 4 rfl) ?_
        refine zget C hW 0 0 rfl rfl inMo (by decide) flMo_93 rfl dMo_page_98 ?_
        refine zif_gt (tgt := 109) C (by omega) dMo_page_101 (by decide) (fun c101 => ?_) (fun c101 => ?_)
        · refine lv_aload_n C.1 C.2.1 dMo_page_109 rfl (lv_at hl 4 rfl) ?_
          refine zget C hW 0 0 rfl rfl inMo (by decide) flMo_93 rfl dMo_page_110 ?_
          refine zif_le (tgt := 120) C (by omega) dMo_page_113 (by decide) (fun c113 => ?_) (fun c113 => ?_)
          · refine lv_lload C.1 C.2.1 dMo_page_120 (lv_at hl 1 rfl) ?_
            refine lv_lload C.1 C.2.1 dMo_page_122 (lv_at hl 0 rfl) ?_
            refine zlmul C dMo_page_124 ?_
            refine zldc2 C kcMo_230 dMo_page_125 ?_
            refine zlcmp_le (tgt := 137) C (by omega) (by omega) dMo_page_128 dMo_page_129 (by decide) (fun c128 => ?_) (fun c128 => ?_)
            · refine lv_lload C.1 C.2.1 dMo_page_137 (lv_at hl 1 rfl) ?_
              refine lv_lload C.1 C.2.1 dMo_page_139 (lv_at hl 0 rfl) ?_
              refine zlmul C dMo_page_141 ?_
              refine zl2i C dMo_page_142 ?_
              exact hQ (zI (co * ro)) _ H locs _ _ _ ls hW ⟨v, _, (by rw [if_neg (show ¬ dr = 0 by omega), ← hco, ← hro]; exact hv), (fun h h2 => by first | (exfalso; omega) | (rw [← hco, ← hro]; omega)), (fun h h2 => by exfalso; omega), rfl, rfl⟩ (by omega) (by omega) dMo_page_143
            · refine zldc C kcMo_232 dMo_page_132 ?_
              refine lv_goto (tgt := 143) C.1 C.2.1 dMo_page_134 (by decide) ?_
              exact hQ (zI 2147483647) _ H locs _ _ _ ls hW ⟨v, _, (by rw [if_neg (show ¬ dr = 0 by omega), ← hco, ← hro]; exact hv), (fun h h2 => by first | (exfalso; omega) | (rw [← hco, ← hro]; omega)), (fun h h2 => by exfalso; omega), rfl, rfl⟩ (by omega) (by omega) dMo_page_143
          · refine lv_iconst (v := zI 0) C.1 C.2.1 dMo_page_116 (by decide) ?_
            refine lv_goto (tgt := 143) C.1 C.2.1 dMo_page_117 (by decide) ?_
            exact hQ (zI 0) _ H locs _ _ _ ls hW ⟨v, _, (by rw [if_neg (show ¬ dr = 0 by omega), ← hco, ← hro]; exact hv), (fun h h2 => by first | (exfalso; omega) | (rw [← hco, ← hro]; omega)), (fun h h2 => by exfalso; omega), rfl, rfl⟩ (by omega) (by omega) dMo_page_143
        · refine lv_iload_n C.1 C.2.1 dMo_page_104 rfl (lv_at hl 5 rfl) ?_
          refine lv_iconst (v := zI (-1)) C.1 C.2.1 dMo_page_105 (by decide) ?_
          refine zicmp_ne (tgt := 144) C (by omega) (by omega) dMo_page_106 (by decide) (fun c106 => ?_) (fun c106 => ?_)
          · have htm0 := Int.tmod_nonneg co (show 0 ≤ k by omega)
            have htm1 := Int.tmod_lt_of_pos k (show 0 < co by omega)
            have htd := tdiv_b (a := k) (b := co) (M := 2147483648) (by omega) (by omega) (by omega)
            have htd0 := Int.tdiv_nonneg (a := k) (b := co) (by omega) (by omega)
            have hx1 := mul_in (a := wi) (b := k.tmod co) (A := 65536) (B := 20000000) (by omega) (by omega) (by omega) (by omega)
            have hy1 := mul_in (a := hi) (b := k.tdiv co) (A := 65536) (B := 2147483648) (by omega) (by omega) (by omega) (by omega)
            refine lv_lload_n C.1 C.2.1 dMo_page_144 rfl (lv_at hl 3 rfl) ?_
            refine lv_aload_n C.1 C.2.1 dMo_page_145 rfl (lv_at hl 4 rfl) ?_
            refine zget C hW 0 1 rfl rfl inMo (by decide) flMo_86 rfl dMo_page_146 ?_
            refine lv_iload_n C.1 C.2.1 dMo_page_149 rfl (lv_at hl 5 rfl) ?_
            refine zi2l C (by omega) dMo_page_150 ?_
            refine lv_lload C.1 C.2.1 dMo_page_151 (lv_at hl 1 rfl) ?_
            refine zlrem C (by omega) (by omega) (by omega) dMo_page_153 ?_
            refine zlmul C dMo_page_154 ?_
            refine zladd C dMo_page_155 ?_
            refine lv_lstore (lv' := [(11, .long (zL (lf + (wi * (k.tmod co))))), (9, .long (zL ro)), (7, .long (zL co)), (5, .long (zL lo)), (3, .long (zL lf)), (0, .ref m0), (1, .int (zI k)), (2, .int (zI wh))]) C.1 C.2.1 dMo_page_156 hl (by decide) rfl (fun ls hl => ?_)
            refine lv_lload C.1 C.2.1 dMo_page_158 (lv_at hl 3 rfl) ?_
            refine lv_aload_n C.1 C.2.1 dMo_page_160 rfl (lv_at hl 5 rfl) ?_
            refine zget C hW 0 2 rfl rfl inMo (by decide) flMo_90 rfl dMo_page_161 ?_
            refine lv_iload_n C.1 C.2.1 dMo_page_164 rfl (lv_at hl 6 rfl) ?_
            refine zi2l C (by omega) dMo_page_165 ?_
            refine lv_lload C.1 C.2.1 dMo_page_166 (lv_at hl 2 rfl) ?_
            refine zldiv C (by omega) (by omega) (by omega) dMo_page_168 ?_
            refine zlmul C dMo_page_169 ?_
            refine zladd C dMo_page_170 ?_
            refine lv_lstore (lv' := [(13, .long (zL (lo + (hi * (k.tdiv co))))), (11, .long (zL (lf + (wi * (k.tmod co))))), (9, .long (zL ro)), (7, .long (zL co)), (5, .long (zL lo)), (3, .long (zL lf)), (0, .ref m0), (1, .int (zI k)), (2, .int (zI wh))]) C.1 C.2.1 dMo_page_171 hl (by decide) rfl (fun ls hl => ?_)
            have L173 : ∀ (x1 : Int) (y1 : Int), (x1 = lf + wi * (k.tmod co)) → (y1 = lo + hi * (k.tdiv co)) → (-1000000000000000 ≤ x1 ∧ x1 ≤ 1000000000000000) → (-1000000000000000 ≤ y1 ∧ y1 ≤ 1000000000000000) → ∀ (ls : Array Slot) (H : Heap) (locs : List Loc), lv_has ls 20 [(13, .long (zL y1)), (11, .long (zL x1)), (9, .long (zL ro)), (7, .long (zL co)), (5, .long (zL lo)), (3, .long (zL lf)), (0, .ref m0), (1, .int (zI k)), (2, .int (zI wh))] → zw D zCl A s [(m0, .inr (10, [.int (zI v), .long (zL wi), .long (zL hi), .int (zI bn), .ref af, .ref at_, .int (zI dr), .int (zI sz), .ref au, .ref ap, .ref ab, .ref ae, .ref ah, .int (zI kp), .int (zI ks), .ref ku, .ref kq, .ref kb, .ref ke, .ref kh, .int (zI als), .ref gf, .ref gt, .int (zI ses), .ref sf, .ref st, .int (zI les), .ref ef, .ref et, .int (zI mes), .ref xa, .ref xf, .ref xt, .ref xr, .ref lb, .int (zI lbs), .ref so])), (au, .inl (cI, 6000, .inl (fI Ups))), (ap, .inl (cL, 6000, .inr (.inl (fL Pla)))), (ab, .inl (cL, 6000, .inr (.inl (fL Beg)))), (ae, .inl (cL, 6000, .inr (.inl (fL Ens))))] H locs → W p l e (zr 1 0 0) s m args below meth c H locs 0 0 Q (F0 m 173 ls []) := by
              intro x1 y1 hx hy hxb hyb ls H locs hl hW
              have L191 : ∀ (la : Int), (la = bz (decide (k.tdiv co = ro - 1))) → (la = 0 ∨ la = 1) → ∀ (ls : Array Slot) (H : Heap) (locs : List Loc), lv_has ls 20 [(13, .long (zL y1)), (11, .long (zL x1)), (9, .long (zL ro)), (7, .long (zL co)), (5, .long (zL lo)), (3, .long (zL lf)), (0, .ref m0), (1, .int (zI k)), (2, .int (zI wh))] → zw D zCl A s [(m0, .inr (10, [.int (zI v), .long (zL wi), .long (zL hi), .int (zI bn), .ref af, .ref at_, .int (zI dr), .int (zI sz), .ref au, .ref ap, .ref ab, .ref ae, .ref ah, .int (zI kp), .int (zI ks), .ref ku, .ref kq, .ref kb, .ref ke, .ref kh, .int (zI als), .ref gf, .ref gt, .int (zI ses), .ref sf, .ref st, .int (zI les), .ref ef, .ref et, .int (zI mes), .ref xa, .ref xf, .ref xt, .ref xr, .ref lb, .int (zI lbs), .ref so])), (au, .inl (cI, 6000, .inl (fI Ups))), (ap, .inl (cL, 6000, .inr (.inl (fL Pla)))), (ab, .inl (cL, 6000, .inr (.inl (fL Beg)))), (ae, .inl (cL, 6000, .inr (.inl (fL Ens))))] H locs → W p l e (zr 1 0 0) s m args below meth c H locs 0 0 Q (F0 m 191 ls [.int (zI la)]) := by
                intro la hla hlab ls H locs hl hW
                refine lv_istore (lv' := [(15, .int (zI la)), (13, .long (zL y1)), (11, .long (zL x1)), (9, .long (zL ro)), (7, .long (zL co)), (5, .long (zL lo)), (3, .long (zL lf)), (0, .ref m0), (1, .int (zI k)), (2, .int (zI wh))]) C.1 C.2.1 dMo_page_191 hl (by decide) rfl (fun ls hl => ?_)
                refine lv_iconst (v := zI 0) C.1 C.2.1 dMo_page_193 (by decide) ?_
                refine lv_istore (lv' := [(16, .int (zI 0)), (15, .int (zI la)), (13, .long (zL y1)), (11, .long (zL x1)), (9, .long (zL ro)), (7, .long (zL co)), (5, .long (zL lo)), (3, .long (zL lf)), (0, .ref m0), (1, .int (zI k)), (2, .int (zI wh))]) C.1 C.2.1 dMo_page_194 hl (by decide) rfl (fun ls hl => ?_)
                refine lv_iconst (v := zI 0) C.1 C.2.1 dMo_page_196 (by decide) ?_
                refine lv_istore (lv' := [(17, .int (zI 0)), (16, .int (zI 0)), (15, .int (zI la)), (13, .long (zL y1)), (11, .long (zL x1)), (9, .long (zL ro)), (7, .long (zL co)), (5, .long (zL lo)), (3, .long (zL lf)), (0, .ref m0), (1, .int (zI k)), (2, .int (zI wh))]) C.1 C.2.1 dMo_page_197 hl (by decide) rfl (fun ls hl => ?_)
                have L199 : ∀ (N : Nat) (j : Int) (n_ : Int), (sz - j).toNat < N → (0 ≤ j) → (j ≤ sz) → (n_ = cntZ (pgP Ups Pla Beg Ens wi hi x1 y1 la wh) j) → (0 ≤ n_ ∧ n_ ≤ j) → ∀ (ls : Array Slot) (H : Heap) (locs : List Loc), lv_has ls 20 [(17, .int (zI j)), (16, .int (zI n_)), (15, .int (zI la)), (13, .long (zL y1)), (11, .long (zL x1)), (9, .long (zL ro)), (7, .long (zL co)), (5, .long (zL lo)), (3, .long (zL lf)), (0, .ref m0), (1, .int (zI k)), (2, .int (zI wh))] → zw D zCl A s [(m0, .inr (10, [.int (zI v), .long (zL wi), .long (zL hi), .int (zI bn), .ref af, .ref at_, .int (zI dr), .int (zI sz), .ref au, .ref ap, .ref ab, .ref ae, .ref ah, .int (zI kp), .int (zI ks), .ref ku, .ref kq, .ref kb, .ref ke, .ref kh, .int (zI als), .ref gf, .ref gt, .int (zI ses), .ref sf, .ref st, .int (zI les), .ref ef, .ref et, .int (zI mes), .ref xa, .ref xf, .ref xt, .ref xr, .ref lb, .int (zI lbs), .ref so])), (au, .inl (cI, 6000, .inl (fI Ups))), (ap, .inl (cL, 6000, .inr (.inl (fL Pla)))), (ab, .inl (cL, 6000, .inr (.inl (fL Beg)))), (ae, .inl (cL, 6000, .inr (.inl (fL Ens))))] H locs → W p l e (zr 1 0 0) s m args below meth c H locs 0 0 Q (F0 m 199 ls []) := by
                  intro N
                  induction N with
                  | zero => intro j n_ hm; exact absurd hm (Nat.not_lt_zero _)
                  | succ N ih199 =>
                    intro j n_ hm199 hi0 hi1 hn_ hnb ls H locs hl hW
                    refine lv_iload C.1 C.2.1 dMo_page_199 (lv_at hl 0 rfl) ?_
                    refine lv_aload_n C.1 C.2.1 dMo_page_201 rfl (lv_at hl 9 rfl) ?_
                    refine zget C hW 0 7 rfl rfl inMo (by decide) flMo_145 rfl dMo_page_202 ?_
                    refine zicmp_ge (tgt := 369) C (by omega) (by omega) dMo_page_205 (by decide) (fun c205 => ?_) (fun c205 => ?_)
                    · refine lv_iload C.1 C.2.1 dMo_page_369 (lv_at hl 1 rfl) ?_
                      exact hQ (zI n_) _ H locs _ _ _ ls hW ⟨v, _, (by rw [if_neg (show ¬ dr = 0 by omega), ← hco, ← hro]; exact hv), (fun h h2 => by exfalso; omega), (fun h h2 => by rw [← hco, ← hro, ← hlf, ← hlo, ← hx, ← hy, ← hla, hn_, show sz = j by omega]), rfl, rfl⟩ (by omega) (by omega) dMo_page_371
                    · have L267 : ∀ (u_ : Int), (u_ = bz (irM Pla hi y1 la j)) → (u_ = 0 ∨ u_ = 1) → ∀ (ls : Array Slot) (H : Heap) (locs : List Loc), lv_has ls 20 [(17, .int (zI j)), (16, .int (zI n_)), (15, .int (zI la)), (13, .long (zL y1)), (11, .long (zL x1)), (9, .long (zL ro)), (7, .long (zL co)), (5, .long (zL lo)), (3, .long (zL lf)), (0, .ref m0), (1, .int (zI k)), (2, .int (zI wh))] → zw D zCl A s [(m0, .inr (10, [.int (zI v), .long (zL wi), .long (zL hi), .int (zI bn), .ref af, .ref at_, .int (zI dr), .int (zI sz), .ref au, .ref ap, .ref ab, .ref ae, .ref ah, .int (zI kp), .int (zI ks), .ref ku, .ref kq, .ref kb, .ref ke, .ref kh, .int (zI als), .ref gf, .ref gt, .int (zI ses), .ref sf, .ref st, .int (zI les), .ref ef, .ref et, .int (zI mes), .ref xa, .ref xf, .ref xt, .ref xr, .ref lb, .int (zI lbs), .ref so])), (au, .inl (cI, 6000, .inl (fI Ups))), (ap, .inl (cL, 6000, .inr (.inl (fL Pla)))), (ab, .inl (cL, 6000, .inr (.inl (fL Beg)))), (ae, .inl (cL, 6000, .inr (.inl (fL Ens))))] H locs → W p l e (zr 1 0 0) s m args below meth c H locs 0 0 Q (F0 m 267 ls [.int (zI u_)]) := by
                        intro u_ hu hub ls H locs hl hW
                        refine lv_istore (lv' := [(18, .int (zI u_)), (17, .int (zI j)), (16, .int (zI n_)), (15, .int (zI la)), (13, .long (zL y1)), (11, .long (zL x1)), (9, .long (zL ro)), (7, .long (zL co)), (5, .long (zL lo)), (3, .long (zL lf)), (0, .ref m0), (1, .int (zI k)), (2, .int (zI wh))]) C.1 C.2.1 dMo_page_267 hl (by decide) rfl (fun ls hl => ?_)
                        have L325 : ∀ (w_ : Int), (w_ = bz (mkM Ups Pla Beg Ens wi hi x1 y1 la j)) → (w_ = 0 ∨ w_ = 1) → ∀ (ls : Array Slot) (H : Heap) (locs : List Loc), lv_has ls 20 [(18, .int (zI u_)), (17, .int (zI j)), (16, .int (zI n_)), (15, .int (zI la)), (13, .long (zL y1)), (11, .long (zL x1)), (9, .long (zL ro)), (7, .long (zL co)), (5, .long (zL lo)), (3, .long (zL lf)), (0, .ref m0), (1, .int (zI k)), (2, .int (zI wh))] → zw D zCl A s [(m0, .inr (10, [.int (zI v), .long (zL wi), .long (zL hi), .int (zI bn), .ref af, .ref at_, .int (zI dr), .int (zI sz), .ref au, .ref ap, .ref ab, .ref ae, .ref ah, .int (zI kp), .int (zI ks), .ref ku, .ref kq, .ref kb, .ref ke, .ref kh, .int (zI als), .ref gf, .ref gt, .int (zI ses), .ref sf, .ref st, .int (zI les), .ref ef, .ref et, .int (zI mes), .ref xa, .ref xf, .ref xt, .ref xr, .ref lb, .int (zI lbs), .ref so])), (au, .inl (cI, 6000, .inl (fI Ups))), (ap, .inl (cL, 6000, .inr (.inl (fL Pla)))), (ab, .inl (cL, 6000, .inr (.inl (fL Beg)))), (ae, .inl (cL, 6000, .inr (.inl (fL Ens))))] H locs → W p l e (zr 1 0 0) s m args below meth c H locs 0 0 Q (F0 m 325 ls [.int (zI w_)]) := by
                          intro w_ hm_ hwb ls H locs hl hW
                          refine lv_istore (lv' := [(19, .int (zI w_)), (18, .int (zI u_)), (17, .int (zI j)), (16, .int (zI n_)), (15, .int (zI la)), (13, .long (zL y1)), (11, .long (zL x1)), (9, .long (zL ro)), (7, .long (zL co)), (5, .long (zL lo)), (3, .long (zL lf)), (0, .ref m0), (1, .int (zI k)), (2, .int (zI wh))]) C.1 C.2.1 dMo_page_325 hl (by decide) rfl (fun ls hl => ?_)
                          have L361 : ∀ (z_ : Int), (wh = 0 ∧ z_ = n_ + bz (onM Ups Pla Beg Ens wi hi x1 y1 j) ∨ wh ≠ 0 ∧ z_ = n_ + w_) → ∀ (ls : Array Slot) (H : Heap) (locs : List Loc), lv_has ls 20 [(19, .int (zI w_)), (18, .int (zI u_)), (17, .int (zI j)), (16, .int (zI n_)), (15, .int (zI la)), (13, .long (zL y1)), (11, .long (zL x1)), (9, .long (zL ro)), (7, .long (zL co)), (5, .long (zL lo)), (3, .long (zL lf)), (0, .ref m0), (1, .int (zI k)), (2, .int (zI wh))] → zw D zCl A s [(m0, .inr (10, [.int (zI v), .long (zL wi), .long (zL hi), .int (zI bn), .ref af, .ref at_, .int (zI dr), .int (zI sz), .ref au, .ref ap, .ref ab, .ref ae, .ref ah, .int (zI kp), .int (zI ks), .ref ku, .ref kq, .ref kb, .ref ke, .ref kh, .int (zI als), .ref gf, .ref gt, .int (zI ses), .ref sf, .ref st, .int (zI les), .ref ef, .ref et, .int (zI mes), .ref xa, .ref xf, .ref xt, .ref xr, .ref lb, .int (zI lbs), .ref so])), (au, .inl (cI, 6000, .inl (fI Ups))), (ap, .inl (cL, 6000, .inr (.inl (fL Pla)))), (ab, .inl (cL, 6000, .inr (.inl (fL Beg)))), (ae, .inl (cL, 6000, .inr (.inl (fL Ens))))] H locs → W p l e (zr 1 0 0) s m args below meth c H locs 0 0 Q (F0 m 361 ls [.int (zI z_)]) := by
                            intro z_ hz ls H locs hl hW
                            refine lv_istore (lv' := [(16, .int (zI z_)), (19, .int (zI w_)), (18, .int (zI u_)), (17, .int (zI j)), (15, .int (zI la)), (13, .long (zL y1)), (11, .long (zL x1)), (9, .long (zL ro)), (7, .long (zL co)), (5, .long (zL lo)), (3, .long (zL lf)), (0, .ref m0), (1, .int (zI k)), (2, .int (zI wh))]) C.1 C.2.1 dMo_page_361 hl (by decide) rfl (fun ls hl => ?_)
                            refine lv_iinc (v := zI (j + 1)) (lv' := [(17, .int (zI (j + 1))), (16, .int (zI z_)), (19, .int (zI w_)), (18, .int (zI u_)), (15, .int (zI la)), (13, .long (zL y1)), (11, .long (zL x1)), (9, .long (zL ro)), (7, .long (zL co)), (5, .long (zL lo)), (3, .long (zL lf)), (0, .ref m0), (1, .int (zI k)), (2, .int (zI wh))]) C.1 C.2.1 dMo_page_363 hl (k := 3) rfl (zI_add j 1) (by decide) rfl (fun ls hl => ?_)
                            refine lv_goto (tgt := 199) C.1 C.2.1 dMo_page_366 (by decide) ?_
                            exact ih199 (j + 1) z_ (by omega) (by omega) (by omega) (by rw [cntZ_s _ hi0, ← hn_]; exact pgP_z hz hm_) (by have := bz_01 (onM Ups Pla Beg Ens wi hi x1 y1 j); omega) ls H locs (lv_sub hl [0, 1, 4, 5, 6, 7, 8, 9, 10, 11, 12, 13] rfl) hW
                          refine lv_iload_n C.1 C.2.1 dMo_page_327 rfl (lv_at hl 13 rfl) ?_
                          refine zif_ne (tgt := 347) C (by omega) dMo_page_328 (by decide) (fun c328 => ?_) (fun c328 => ?_)
                          · refine lv_iload C.1 C.2.1 dMo_page_347 (lv_at hl 0 rfl) ?_
                            refine zif_eq (tgt := 359) C (by omega) dMo_page_349 (by decide) (fun c349 => ?_) (fun c349 => ?_)
                            · refine lv_iload C.1 C.2.1 dMo_page_359 (lv_at hl 3 rfl) ?_
                              exact L361 n_ (by omega) ls H locs (lv_sub hl [0, 1, 2, 3, 4, 5, 6, 7, 8, 9, 10, 11, 12, 13] rfl) hW
                            · refine lv_iload C.1 C.2.1 dMo_page_352 (lv_at hl 3 rfl) ?_
                              refine lv_iconst (v := zI 1) C.1 C.2.1 dMo_page_354 (by decide) ?_
                              refine ziadd C dMo_page_355 ?_
                              refine lv_goto (tgt := 361) C.1 C.2.1 dMo_page_356 (by decide) ?_
                              exact L361 (n_ + 1) (by omega) ls H locs (lv_sub hl [0, 1, 2, 3, 4, 5, 6, 7, 8, 9, 10, 11, 12, 13] rfl) hW
                          · refine lv_aload_n C.1 C.2.1 dMo_page_331 rfl (lv_at hl 11 rfl) ?_
                            refine lv_iload C.1 C.2.1 dMo_page_332 (lv_at hl 2 rfl) ?_
                            refine lv_lload C.1 C.2.1 dMo_page_334 (lv_at hl 6 rfl) ?_
                            refine lv_lload C.1 C.2.1 dMo_page_336 (lv_at hl 5 rfl) ?_
                            refine zcalli (wr := []) C hW [0, 1, 2, 3, 4] [] rfl rfl (by decide) (by decide) (zRunV (k := 3) (As := [.int (zI j), .long (zL x1), .long (zL y1)]) (rest := []) C hW (m_isOn l D cI cG cL cB m0 v wi hi bn af at_ dr sz au ap ab ae ah kp ks ku kq kb ke kh als gf gt ses sf st les ef et mes xa xf xt xr lb lbs so Ups Pla Beg Ens j x1 y1 bUps bPla bBeg bEns (by omega) (by omega) (by omega) (by omega) (by omega) (by omega) H.size) [0, 1, 2, 3, 4] rfl (by decide) kMo_233 (by decide +kernel) ⟨by decide, by decide⟩ 0 rfl rfl rfl hl.1 (Nat.le_of_ble_eq_true rfl) dMo_page_338 ⟨by first | decide | omega, by first | decide | omega⟩) (fun x w H locs hq hW => ?_)
                            obtain ⟨rfl, rfl⟩ := hq
                            have hW : zw D zCl A s [(m0, .inr (10, [.int (zI v), .long (zL wi), .long (zL hi), .int (zI bn), .ref af, .ref at_, .int (zI dr), .int (zI sz), .ref au, .ref ap, .ref ab, .ref ae, .ref ah, .int (zI kp), .int (zI ks), .ref ku, .ref kq, .ref kb, .ref ke, .ref kh, .int (zI als), .ref gf, .ref gt, .int (zI ses), .ref sf, .ref st, .int (zI les), .ref ef, .ref et, .int (zI mes), .ref xa, .ref xf, .ref xt, .ref xr, .ref lb, .int (zI lbs), .ref so])), (au, .inl (cI, 6000, .inl (fI Ups))), (ap, .inl (cL, 6000, .inr (.inl (fL Pla)))), (ab, .inl (cL, 6000, .inr (.inl (fL Beg)))), (ae, .inl (cL, 6000, .inr (.inl (fL Ens))))] H locs := hW
                            have hr5 := bz_01 (onM Ups Pla Beg Ens wi hi x1 y1 j)
                            refine zif_eq (tgt := 359) C (by omega) dMo_page_341 (by decide) (fun c341 => ?_) (fun c341 => ?_)
                            · refine lv_iload C.1 C.2.1 dMo_page_359 (lv_at hl 3 rfl) ?_
                              exact L361 n_ (by omega) ls H locs (lv_sub hl [0, 1, 2, 3, 4, 5, 6, 7, 8, 9, 10, 11, 12, 13] rfl) hW
                            · refine lv_goto (tgt := 352) C.1 C.2.1 dMo_page_344 (by decide) ?_
                              refine lv_iload C.1 C.2.1 dMo_page_352 (lv_at hl 3 rfl) ?_
                              refine lv_iconst (v := zI 1) C.1 C.2.1 dMo_page_354 (by decide) ?_
                              refine ziadd C dMo_page_355 ?_
                              refine lv_goto (tgt := 361) C.1 C.2.1 dMo_page_356 (by decide) ?_
                              exact L361 (n_ + 1) (by omega) ls H locs (lv_sub hl [0, 1, 2, 3, 4, 5, 6, 7, 8, 9, 10, 11, 12, 13] rfl) hW
                        refine lv_aload_n C.1 C.2.1 dMo_page_269 rfl (lv_at hl 10 rfl) ?_
                        refine zget C hW 0 8 rfl rfl inMo (by decide) flMo_16 rfl dMo_page_270 ?_
                        refine lv_iload C.1 C.2.1 dMo_page_273 (lv_at hl 1 rfl) ?_
                        refine ziald C hW 1 0 rfl rfl (by omega) (by omega) (by decide) dMo_page_275 ?_
                        have hb6 := bUps j
                        refine zif_ne (tgt := 324) C (by omega) dMo_page_276 (by decide) (fun c276 => ?_) (fun c276 => ?_)
                        · refine lv_iconst (v := zI 0) C.1 C.2.1 dMo_page_324 (by decide) ?_
                          exact L325 0 (by have q := bz_eq1 (irM Pla hi y1 la j); unfold mkM; rw [← hu] at q; exact bzd (fun h => by have := q.mp h.2.2.2; omega) (fun h => by first | rfl | (exfalso; exact h ⟨by omega, by omega, by omega, q.mpr (by omega)⟩))) (by omega) ls H locs (lv_sub hl [0, 1, 2, 3, 4, 5, 6, 7, 8, 9, 10, 11, 12] rfl) hW
                        · refine lv_aload_n C.1 C.2.1 dMo_page_279 rfl (lv_at hl 10 rfl) ?_
                          refine zget C hW 0 10 rfl rfl inMo (by decide) flMo_23 rfl dMo_page_280 ?_
                          refine lv_iload C.1 C.2.1 dMo_page_283 (lv_at hl 1 rfl) ?_
                          refine zlald C hW 3 2 rfl rfl (by omega) (by omega) (by decide) dMo_page_285 ?_
                          have hb7 := bBeg j
                          refine lv_lload C.1 C.2.1 dMo_page_286 (lv_at hl 5 rfl) ?_
                          refine lv_aload_n C.1 C.2.1 dMo_page_288 rfl (lv_at hl 10 rfl) ?_
                          refine zget C hW 0 1 rfl rfl inMo (by decide) flMo_86 rfl dMo_page_289 ?_
                          refine zladd C dMo_page_292 ?_
                          refine zlcmp_ge (tgt := 324) C (by omega) (by omega) dMo_page_293 dMo_page_294 (by decide) (fun c293 => ?_) (fun c293 => ?_)
                          · refine lv_iconst (v := zI 0) C.1 C.2.1 dMo_page_324 (by decide) ?_
                            exact L325 0 (by have q := bz_eq1 (irM Pla hi y1 la j); unfold mkM; rw [← hu] at q; exact bzd (fun h => by have := q.mp h.2.2.2; omega) (fun h => by first | rfl | (exfalso; exact h ⟨by omega, by omega, by omega, q.mpr (by omega)⟩))) (by omega) ls H locs (lv_sub hl [0, 1, 2, 3, 4, 5, 6, 7, 8, 9, 10, 11, 12] rfl) hW
                          · refine lv_aload_n C.1 C.2.1 dMo_page_297 rfl (lv_at hl 10 rfl) ?_
                            refine zget C hW 0 11 rfl rfl inMo (by decide) flMo_26 rfl dMo_page_298 ?_
                            refine lv_iload C.1 C.2.1 dMo_page_301 (lv_at hl 1 rfl) ?_
                            refine zlald C hW 4 2 rfl rfl (by omega) (by omega) (by decide) dMo_page_303 ?_
                            have hb8 := bEns j
                            refine lv_lload C.1 C.2.1 dMo_page_304 (lv_at hl 5 rfl) ?_
                            refine lv_aload_n C.1 C.2.1 dMo_page_306 rfl (lv_at hl 10 rfl) ?_
                            refine zget C hW 0 1 rfl rfl inMo (by decide) flMo_86 rfl dMo_page_307 ?_
                            refine zladd C dMo_page_310 ?_
                            refine zlcmp_le (tgt := 324) C (by omega) (by omega) dMo_page_311 dMo_page_312 (by decide) (fun c311 => ?_) (fun c311 => ?_)
                            · refine lv_iconst (v := zI 0) C.1 C.2.1 dMo_page_324 (by decide) ?_
                              exact L325 0 (by have q := bz_eq1 (irM Pla hi y1 la j); unfold mkM; rw [← hu] at q; exact bzd (fun h => by have := q.mp h.2.2.2; omega) (fun h => by first | rfl | (exfalso; exact h ⟨by omega, by omega, by omega, q.mpr (by omega)⟩))) (by omega) ls H locs (lv_sub hl [0, 1, 2, 3, 4, 5, 6, 7, 8, 9, 10, 11, 12] rfl) hW
                            · refine lv_iload C.1 C.2.1 dMo_page_315 (lv_at hl 0 rfl) ?_
                              refine zif_eq (tgt := 324) C (by omega) dMo_page_317 (by decide) (fun c317 => ?_) (fun c317 => ?_)
                              · refine lv_iconst (v := zI 0) C.1 C.2.1 dMo_page_324 (by decide) ?_
                                exact L325 0 (by have q := bz_eq1 (irM Pla hi y1 la j); unfold mkM; rw [← hu] at q; exact bzd (fun h => by have := q.mp h.2.2.2; omega) (fun h => by first | rfl | (exfalso; exact h ⟨by omega, by omega, by omega, q.mpr (by omega)⟩))) (by omega) ls H locs (lv_sub hl [0, 1, 2, 3, 4, 5, 6, 7, 8, 9, 10, 11, 12] rfl) hW
                              · refine lv_iconst (v := zI 1) C.1 C.2.1 dMo_page_320 (by decide) ?_
                                refine lv_goto (tgt := 325) C.1 C.2.1 dMo_page_321 (by decide) ?_
                                exact L325 1 (by have q := bz_eq1 (irM Pla hi y1 la j); unfold mkM; rw [← hu] at q; exact bzd (fun h => by have := q.mp h.2.2.2; omega) (fun h => by first | rfl | (exfalso; exact h ⟨by omega, by omega, by omega, q.mpr (by omega)⟩))) (by omega) ls H locs (lv_sub hl [0, 1, 2, 3, 4, 5, 6, 7, 8, 9, 10, 11, 12] rfl) hW
                      refine lv_aload_n C.1 C.2.1 dMo_page_208 rfl (lv_at hl 9 rfl) ?_
                      refine zget C hW 0 9 rfl rfl inMo (by decide) flMo_20 rfl dMo_page_209 ?_
                      refine lv_iload C.1 C.2.1 dMo_page_212 (lv_at hl 0 rfl) ?_
                      refine zlald C hW 2 2 rfl rfl (by omega) (by omega) (by decide) dMo_page_214 ?_
                      have hb9 := bPla j
                      refine lv_lload C.1 C.2.1 dMo_page_215 (lv_at hl 3 rfl) ?_
                      refine zlcmp_lt (tgt := 266) C (by omega) (by omega) dMo_page_217 dMo_page_218 (by decide) (fun c217 => ?_) (fun c217 => ?_)
                      · refine lv_iconst (v := zI 0) C.1 C.2.1 dMo_page_266 (by decide) ?_
                        exact L267 0 (by unfold irM; exact bzd (fun h => by omega) (fun h => by omega)) (by omega) ls H locs (lv_sub hl [0, 1, 2, 3, 4, 5, 6, 7, 8, 9, 10, 11] rfl) hW
                      · refine lv_aload_n C.1 C.2.1 dMo_page_221 rfl (lv_at hl 9 rfl) ?_
                        refine zget C hW 0 9 rfl rfl inMo (by decide) flMo_20 rfl dMo_page_222 ?_
                        refine lv_iload C.1 C.2.1 dMo_page_225 (lv_at hl 0 rfl) ?_
                        refine zlald C hW 2 2 rfl rfl (by omega) (by omega) (by decide) dMo_page_227 ?_
                        have hb10 := bPla j
                        refine lv_lload C.1 C.2.1 dMo_page_228 (lv_at hl 3 rfl) ?_
                        refine lv_aload_n C.1 C.2.1 dMo_page_230 rfl (lv_at hl 9 rfl) ?_
                        refine zget C hW 0 2 rfl rfl inMo (by decide) flMo_90 rfl dMo_page_231 ?_
                        refine zladd C dMo_page_234 ?_
                        refine zlcmp_lt (tgt := 262) C (by omega) (by omega) dMo_page_235 dMo_page_236 (by decide) (fun c235 => ?_) (fun c235 => ?_)
                        · refine lv_iconst (v := zI 1) C.1 C.2.1 dMo_page_262 (by decide) ?_
                          refine lv_goto (tgt := 267) C.1 C.2.1 dMo_page_263 (by decide) ?_
                          exact L267 1 (by unfold irM; exact bzd (fun h => by omega) (fun h => by omega)) (by omega) ls H locs (lv_sub hl [0, 1, 2, 3, 4, 5, 6, 7, 8, 9, 10, 11] rfl) hW
                        · refine lv_iload C.1 C.2.1 dMo_page_239 (lv_at hl 2 rfl) ?_
                          refine zif_eq (tgt := 266) C (by omega) dMo_page_241 (by decide) (fun c241 => ?_) (fun c241 => ?_)
                          · refine lv_iconst (v := zI 0) C.1 C.2.1 dMo_page_266 (by decide) ?_
                            exact L267 0 (by unfold irM; exact bzd (fun h => by omega) (fun h => by omega)) (by omega) ls H locs (lv_sub hl [0, 1, 2, 3, 4, 5, 6, 7, 8, 9, 10, 11] rfl) hW
                          · refine lv_aload_n C.1 C.2.1 dMo_page_244 rfl (lv_at hl 9 rfl) ?_
                            refine zget C hW 0 9 rfl rfl inMo (by decide) flMo_20 rfl dMo_page_245 ?_
                            refine lv_iload C.1 C.2.1 dMo_page_248 (lv_at hl 0 rfl) ?_
                            refine zlald C hW 2 2 rfl rfl (by omega) (by omega) (by decide) dMo_page_250 ?_
                            have hb11 := bPla j
                            refine lv_lload C.1 C.2.1 dMo_page_251 (lv_at hl 3 rfl) ?_
                            refine lv_aload_n C.1 C.2.1 dMo_page_253 rfl (lv_at hl 9 rfl) ?_
                            refine zget C hW 0 2 rfl rfl inMo (by decide) flMo_90 rfl dMo_page_254 ?_
                            refine zladd C dMo_page_257 ?_
                            refine zlcmp_ne (tgt := 266) C (by omega) (by omega) dMo_page_258 dMo_page_259 (by decide) (fun c258 => ?_) (fun c258 => ?_)
                            · refine lv_iconst (v := zI 0) C.1 C.2.1 dMo_page_266 (by decide) ?_
                              exact L267 0 (by unfold irM; exact bzd (fun h => by omega) (fun h => by omega)) (by omega) ls H locs (lv_sub hl [0, 1, 2, 3, 4, 5, 6, 7, 8, 9, 10, 11] rfl) hW
                            · refine lv_iconst (v := zI 1) C.1 C.2.1 dMo_page_262 (by decide) ?_
                              refine lv_goto (tgt := 267) C.1 C.2.1 dMo_page_263 (by decide) ?_
                              exact L267 1 (by unfold irM; exact bzd (fun h => by omega) (fun h => by omega)) (by omega) ls H locs (lv_sub hl [0, 1, 2, 3, 4, 5, 6, 7, 8, 9, 10, 11] rfl) hW
                exact L199 _ 0 0 (Nat.lt_succ_self _) (by omega) (by omega) rfl (by omega) ls H locs (lv_sub hl [0, 1, 2, 3, 4, 5, 6, 7, 8, 9, 10, 11] rfl) hW
              refine lv_iload_n C.1 C.2.1 dMo_page_173 rfl (lv_at hl 7 rfl) ?_
              refine zi2l C (by omega) dMo_page_174 ?_
              refine lv_lload C.1 C.2.1 dMo_page_175 (lv_at hl 3 rfl) ?_
              refine zldiv C (by omega) (by omega) (by omega) dMo_page_177 ?_
              refine lv_lload C.1 C.2.1 dMo_page_178 (lv_at hl 2 rfl) ?_
              refine lv_lconst (v := zL 1) C.1 C.2.1 dMo_page_180 (by decide) ?_
              refine zlsub C dMo_page_181 ?_
              refine zlcmp_ne (tgt := 190) C (by omega) (by omega) dMo_page_182 dMo_page_183 (by decide) (fun c182 => ?_) (fun c182 => ?_)
              · refine lv_iconst (v := zI 0) C.1 C.2.1 dMo_page_190 (by decide) ?_
                exact L191 0 (bzd (fun h => by omega) (fun h => by omega)) (by omega) ls H locs (lv_sub hl [0, 1, 2, 3, 4, 5, 6, 7, 8] rfl) hW
              · refine lv_iconst (v := zI 1) C.1 C.2.1 dMo_page_186 (by decide) ?_
                refine lv_goto (tgt := 191) C.1 C.2.1 dMo_page_187 (by decide) ?_
                exact L191 1 (bzd (fun h => by omega) (fun h => by omega)) (by omega) ls H locs (lv_sub hl [0, 1, 2, 3, 4, 5, 6, 7, 8] rfl) hW
            exact L173 (lf + (wi * (k.tmod co))) (lo + (hi * (k.tdiv co))) rfl rfl (by omega) (by omega) ls H locs (lv_sub hl [0, 1, 2, 3, 4, 5, 6, 7, 8] rfl) hW
          · refine lv_aload_n C.1 C.2.1 dMo_page_109 rfl (lv_at hl 4 rfl) ?_
            refine zget C hW 0 0 rfl rfl inMo (by decide) flMo_93 rfl dMo_page_110 ?_
            refine zif_le (tgt := 120) C (by omega) dMo_page_113 (by decide) (fun c113 => ?_) (fun c113 => ?_)
            · refine lv_lload C.1 C.2.1 dMo_page_120 (lv_at hl 1 rfl) ?_
              refine lv_lload C.1 C.2.1 dMo_page_122 (lv_at hl 0 rfl) ?_
              refine zlmul C dMo_page_124 ?_
              refine zldc2 C kcMo_230 dMo_page_125 ?_
              refine zlcmp_le (tgt := 137) C (by omega) (by omega) dMo_page_128 dMo_page_129 (by decide) (fun c128 => ?_) (fun c128 => ?_)
              · refine lv_lload C.1 C.2.1 dMo_page_137 (lv_at hl 1 rfl) ?_
                refine lv_lload C.1 C.2.1 dMo_page_139 (lv_at hl 0 rfl) ?_
                refine zlmul C dMo_page_141 ?_
                refine zl2i C dMo_page_142 ?_
                exact hQ (zI (co * ro)) _ H locs _ _ _ ls hW ⟨v, _, (by rw [if_neg (show ¬ dr = 0 by omega), ← hco, ← hro]; exact hv), (fun h h2 => by first | (exfalso; omega) | (rw [← hco, ← hro]; omega)), (fun h h2 => by exfalso; omega), rfl, rfl⟩ (by omega) (by omega) dMo_page_143
              · refine zldc C kcMo_232 dMo_page_132 ?_
                refine lv_goto (tgt := 143) C.1 C.2.1 dMo_page_134 (by decide) ?_
                exact hQ (zI 2147483647) _ H locs _ _ _ ls hW ⟨v, _, (by rw [if_neg (show ¬ dr = 0 by omega), ← hco, ← hro]; exact hv), (fun h h2 => by first | (exfalso; omega) | (rw [← hco, ← hro]; omega)), (fun h h2 => by exfalso; omega), rfl, rfl⟩ (by omega) (by omega) dMo_page_143
            · refine lv_iconst (v := zI 0) C.1 C.2.1 dMo_page_116 (by decide) ?_
              refine lv_goto (tgt := 143) C.1 C.2.1 dMo_page_117 (by decide) ?_
              exact hQ (zI 0) _ H locs _ _ _ ls hW ⟨v, _, (by rw [if_neg (show ¬ dr = 0 by omega), ← hco, ← hro]; exact hv), (fun h h2 => by first | (exfalso; omega) | (rw [← hco, ← hro]; omega)), (fun h h2 => by exfalso; omega), rfl, rfl⟩ (by omega) (by omega) dMo_page_143
      refine lv_iload_n C.1 C.2.1 dMo_page_60 rfl (lv_at hl 5 rfl) ?_
      refine lv_iconst (v := zI (-1)) C.1 C.2.1 dMo_page_61 (by decide) ?_
      refine zicmp_lt (tgt := 76) C (by omega) (by omega) dMo_page_62 (by decide) (fun c62 => ?_) (fun c62 => ?_)
      · refine lv_iconst (v := zI 2) C.1 C.2.1 dMo_page_76 (by decide) ?_
        refine lv_goto (tgt := 94) C.1 C.2.1 dMo_page_77 (by decide) ?_
        exact L94 2 (by unfold paC; first | (rw [if_neg (by omega)]; done) | (rw [if_pos (by omega), if_pos (by omega)]; done) | (rw [if_pos (by omega), if_neg (by omega)]; done)) (by omega) ls H locs (lv_sub hl [0, 1, 2, 3, 4, 5, 6] rfl) hW
      · refine lv_iload_n C.1 C.2.1 dMo_page_65 rfl (lv_at hl 5 rfl) ?_
        refine zi2l C (by omega) dMo_page_66 ?_
        refine lv_lload C.1 C.2.1 dMo_page_67 (lv_at hl 1 rfl) ?_
        refine lv_lload C.1 C.2.1 dMo_page_69 (lv_at hl 0 rfl) ?_
        refine zlmul C dMo_page_71 ?_
        refine zlcmp_lt (tgt := 80) C (by omega) (by omega) dMo_page_72 dMo_page_73 (by decide) (fun c72 => ?_) (fun c72 => ?_)
        · refine lv_iload_n C.1 C.2.1 dMo_page_80 rfl (lv_at hl 6 rfl) ?_
          refine zif_lt (tgt := 89) C (by omega) dMo_page_81 (by decide) (fun c81 => ?_) (fun c81 => ?_)
          · refine lv_iconst (v := zI 3) C.1 C.2.1 dMo_page_89 (by decide) ?_
            refine lv_goto (tgt := 94) C.1 C.2.1 dMo_page_90 (by decide) ?_
            exact L94 3 (by unfold paC; first | (rw [if_neg (by omega)]; done) | (rw [if_pos (by omega), if_pos (by omega)]; done) | (rw [if_pos (by omega), if_neg (by omega)]; done)) (by omega) ls H locs (lv_sub hl [0, 1, 2, 3, 4, 5, 6] rfl) hW
          · refine lv_iload_n C.1 C.2.1 dMo_page_84 rfl (lv_at hl 6 rfl) ?_
            refine lv_iconst (v := zI 1) C.1 C.2.1 dMo_page_85 (by decide) ?_
            refine zicmp_le (tgt := 93) C (by omega) (by omega) dMo_page_86 (by decide) (fun c86 => ?_) (fun c86 => ?_)
            · refine lv_iconst (v := zI 0) C.1 C.2.1 dMo_page_93 (by decide) ?_
              exact L94 0 (by unfold paC; first | (rw [if_neg (by omega)]; done) | (rw [if_pos (by omega), if_pos (by omega)]; done) | (rw [if_pos (by omega), if_neg (by omega)]; done)) (by omega) ls H locs (lv_sub hl [0, 1, 2, 3, 4, 5, 6] rfl) hW
            · refine lv_iconst (v := zI 3) C.1 C.2.1 dMo_page_89 (by decide) ?_
              refine lv_goto (tgt := 94) C.1 C.2.1 dMo_page_90 (by decide) ?_
              exact L94 3 (by unfold paC; first | (rw [if_neg (by omega)]; done) | (rw [if_pos (by omega), if_pos (by omega)]; done) | (rw [if_pos (by omega), if_neg (by omega)]; done)) (by omega) ls H locs (lv_sub hl [0, 1, 2, 3, 4, 5, 6] rfl) hW
        · refine lv_iconst (v := zI 2) C.1 C.2.1 dMo_page_76 (by decide) ?_
          refine lv_goto (tgt := 94) C.1 C.2.1 dMo_page_77 (by decide) ?_
          exact L94 2 (by unfold paC; first | (rw [if_neg (by omega)]; done) | (rw [if_pos (by omega), if_pos (by omega)]; done) | (rw [if_pos (by omega), if_neg (by omega)]; done)) (by omega) ls H locs (lv_sub hl [0, 1, 2, 3, 4, 5, 6] rfl) hW
    exact L59 (edM Ups Pla Beg Ens 0 0 sz) (edM Ups Pla Beg Ens 1 0 sz) (pgF (edM Ups Pla Beg Ens 0 1 sz - edM Ups Pla Beg Ens 0 0 sz) wi) (pgF (edM Ups Pla Beg Ens 1 1 sz - edM Ups Pla Beg Ens 1 0 sz) hi) rfl rfl rfl rfl (edM_in hMS 0 0 hsz.1) (edM_in hMS 1 0 hsz.1) (pgF_in (by omega) (by omega) (by omega) (by omega)) (pgF_in (by omega) (by omega) (by omega) (by omega)) ls H locs (lv_sub hl [0, 1, 2, 3, 4, 5, 6] rfl) hW
  · refine lv_iconst (v := zI 0) C.1 C.2.1 dMo_page_7 (by decide) ?_
    have hW : zw D zCl A s [(m0, .inr (10, [.int (zI (1 - dr)), .long (zL wi), .long (zL hi), .int (zI bn), .ref af, .ref at_, .int (zI dr), .int (zI sz), .ref au, .ref ap, .ref ab, .ref ae, .ref ah, .int (zI kp), .int (zI ks), .ref ku, .ref kq, .ref kb, .ref ke, .ref kh, .int (zI als), .ref gf, .ref gt, .int (zI ses), .ref sf, .ref st, .int (zI les), .ref ef, .ref et, .int (zI mes), .ref xa, .ref xf, .ref xt, .ref xr, .ref lb, .int (zI lbs), .ref so])), (au, .inl (cI, 6000, .inl (fI Ups))), (ap, .inl (cL, 6000, .inr (.inl (fL Pla)))), (ab, .inl (cL, 6000, .inr (.inl (fL Beg)))), (ae, .inl (cL, 6000, .inr (.inl (fL Ens))))] H locs := zwp hW [4, 0, 1, 2, 3] rfl (by decide)
    exact hQ (zI 0) _ H locs _ _ _ ls hW ⟨_, 0, (by rw [if_pos (show dr = 0 by omega)]; omega), (fun h => by omega), (fun h => by omega), rfl, rfl⟩ (by omega) (by omega) dMo_page_8
