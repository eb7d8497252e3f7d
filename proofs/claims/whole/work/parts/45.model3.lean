theorem dMo_explode_0 : decode cMo_explode 0 = .ok (.aload_n 0, 1) := by decide +kernel
theorem dMo_explode_1 : decode cMo_explode 1 = .ok (.iload_n 1, 1) := by decide +kernel
theorem dMo_explode_2 : decode cMo_explode 2 = .ok (.invokevirtual 112, 3) := by decide +kernel
theorem dMo_explode_5 : decode cMo_explode 5 = .ok (.ifCond .eq 4, 3) := by decide +kernel
theorem dMo_explode_8 : decode cMo_explode 8 = .ok (.return_, 1) := by decide +kernel
theorem dMo_explode_9 : decode cMo_explode 9 = .ok (.iconst 3, 1) := by decide +kernel
theorem dMo_explode_10 : decode cMo_explode 10 = .ok (.iload_n 1, 1) := by decide +kernel
theorem dMo_explode_11 : decode cMo_explode 11 = .ok (.imul, 1) := by decide +kernel
theorem dMo_explode_12 : decode cMo_explode 12 = .ok (.istore 8, 2) := by decide +kernel
theorem dMo_explode_14 : decode cMo_explode 14 = .ok (.aload_n 0, 1) := by decide +kernel
theorem dMo_explode_15 : decode cMo_explode 15 = .ok (.aload_n 0, 1) := by decide +kernel
theorem dMo_explode_16 : decode cMo_explode 16 = .ok (.iload 8, 2) := by decide +kernel
theorem dMo_explode_18 : decode cMo_explode 18 = .ok (.lload_n 2, 1) := by decide +kernel
theorem dMo_explode_19 : decode cMo_explode 19 = .ok (.invokevirtual 120, 3) := by decide +kernel
theorem dMo_explode_22 : decode cMo_explode 22 = .ok (.ifCond .eq 33, 3) := by decide +kernel
theorem dMo_explode_25 : decode cMo_explode 25 = .ok (.aload_n 0, 1) := by decide +kernel
theorem dMo_explode_26 : decode cMo_explode 26 = .ok (.iload 8, 2) := by decide +kernel
theorem dMo_explode_28 : decode cMo_explode 28 = .ok (.iconst 1, 1) := by decide +kernel
theorem dMo_explode_29 : decode cMo_explode 29 = .ok (.iadd, 1) := by decide +kernel
theorem dMo_explode_30 : decode cMo_explode 30 = .ok (.lload 4, 2) := by decide +kernel
theorem dMo_explode_32 : decode cMo_explode 32 = .ok (.invokevirtual 120, 3) := by decide +kernel
theorem dMo_explode_35 : decode cMo_explode 35 = .ok (.ifCond .eq 20, 3) := by decide +kernel
theorem dMo_explode_38 : decode cMo_explode 38 = .ok (.aload_n 0, 1) := by decide +kernel
theorem dMo_explode_39 : decode cMo_explode 39 = .ok (.iload 8, 2) := by decide +kernel
theorem dMo_explode_41 : decode cMo_explode 41 = .ok (.iconst 2, 1) := by decide +kernel
theorem dMo_explode_42 : decode cMo_explode 42 = .ok (.iadd, 1) := by decide +kernel
theorem dMo_explode_43 : decode cMo_explode 43 = .ok (.lload 6, 2) := by decide +kernel
theorem dMo_explode_45 : decode cMo_explode 45 = .ok (.invokevirtual 120, 3) := by decide +kernel
theorem dMo_explode_48 : decode cMo_explode 48 = .ok (.ifCond .eq 7, 3) := by decide +kernel
theorem dMo_explode_51 : decode cMo_explode 51 = .ok (.iconst 0, 1) := by decide +kernel
theorem dMo_explode_52 : decode cMo_explode 52 = .ok (.goto 4, 3) := by decide +kernel
theorem dMo_explode_55 : decode cMo_explode 55 = .ok (.iconst 2, 1) := by decide +kernel
theorem dMo_explode_56 : decode cMo_explode 56 = .ok (.putfield 93, 3) := by decide +kernel
theorem dMo_explode_59 : decode cMo_explode 59 = .ok (.aload_n 0, 1) := by decide +kernel
theorem dMo_explode_60 : decode cMo_explode 60 = .ok (.getfield 93, 3) := by decide +kernel
theorem dMo_explode_63 : decode cMo_explode 63 = .ok (.ifCond .le 4, 3) := by decide +kernel
theorem dMo_explode_66 : decode cMo_explode 66 = .ok (.return_, 1) := by decide +kernel
theorem dMo_explode_67 : decode cMo_explode 67 = .ok (.aload_n 0, 1) := by decide +kernel
theorem dMo_explode_68 : decode cMo_explode 68 = .ok (.getfield 7, 3) := by decide +kernel
theorem dMo_explode_71 : decode cMo_explode 71 = .ok (.iload 8, 2) := by decide +kernel
theorem dMo_explode_73 : decode cMo_explode 73 = .ok (.aload_n 0, 1) := by decide +kernel
theorem dMo_explode_74 : decode cMo_explode 74 = .ok (.getfield 7, 3) := by decide +kernel
theorem dMo_explode_77 : decode cMo_explode 77 = .ok (.iload 8, 2) := by decide +kernel
theorem dMo_explode_79 : decode cMo_explode 79 = .ok (.laload, 1) := by decide +kernel
theorem dMo_explode_80 : decode cMo_explode 80 = .ok (.lload_n 2, 1) := by decide +kernel
theorem dMo_explode_81 : decode cMo_explode 81 = .ok (.ladd, 1) := by decide +kernel
theorem dMo_explode_82 : decode cMo_explode 82 = .ok (.lastore, 1) := by decide +kernel
theorem dMo_explode_83 : decode cMo_explode 83 = .ok (.aload_n 0, 1) := by decide +kernel
theorem dMo_explode_84 : decode cMo_explode 84 = .ok (.getfield 13, 3) := by decide +kernel
theorem dMo_explode_87 : decode cMo_explode 87 = .ok (.iload 8, 2) := by decide +kernel
theorem dMo_explode_89 : decode cMo_explode 89 = .ok (.aload_n 0, 1) := by decide +kernel
theorem dMo_explode_90 : decode cMo_explode 90 = .ok (.getfield 13, 3) := by decide +kernel
theorem dMo_explode_93 : decode cMo_explode 93 = .ok (.iload 8, 2) := by decide +kernel
theorem dMo_explode_95 : decode cMo_explode 95 = .ok (.laload, 1) := by decide +kernel
theorem dMo_explode_96 : decode cMo_explode 96 = .ok (.lload_n 2, 1) := by decide +kernel
theorem dMo_explode_97 : decode cMo_explode 97 = .ok (.ladd, 1) := by decide +kernel
theorem dMo_explode_98 : decode cMo_explode 98 = .ok (.lastore, 1) := by decide +kernel
theorem dMo_explode_99 : decode cMo_explode 99 = .ok (.aload_n 0, 1) := by decide +kernel
theorem dMo_explode_100 : decode cMo_explode 100 = .ok (.getfield 7, 3) := by decide +kernel
theorem dMo_explode_103 : decode cMo_explode 103 = .ok (.iload 8, 2) := by decide +kernel
theorem dMo_explode_105 : decode cMo_explode 105 = .ok (.iconst 1, 1) := by decide +kernel
theorem dMo_explode_106 : decode cMo_explode 106 = .ok (.iadd, 1) := by decide +kernel
theorem dMo_explode_107 : decode cMo_explode 107 = .ok (.aload_n 0, 1) := by decide +kernel
theorem dMo_explode_108 : decode cMo_explode 108 = .ok (.getfield 7, 3) := by decide +kernel
theorem dMo_explode_111 : decode cMo_explode 111 = .ok (.iload 8, 2) := by decide +kernel
theorem dMo_explode_113 : decode cMo_explode 113 = .ok (.iconst 1, 1) := by decide +kernel
theorem dMo_explode_114 : decode cMo_explode 114 = .ok (.iadd, 1) := by decide +kernel
theorem dMo_explode_115 : decode cMo_explode 115 = .ok (.laload, 1) := by decide +kernel
theorem dMo_explode_116 : decode cMo_explode 116 = .ok (.lload 4, 2) := by decide +kernel
theorem dMo_explode_118 : decode cMo_explode 118 = .ok (.ladd, 1) := by decide +kernel
theorem dMo_explode_119 : decode cMo_explode 119 = .ok (.lastore, 1) := by decide +kernel
theorem dMo_explode_120 : decode cMo_explode 120 = .ok (.aload_n 0, 1) := by decide +kernel
theorem dMo_explode_121 : decode cMo_explode 121 = .ok (.getfield 13, 3) := by decide +kernel
theorem dMo_explode_124 : decode cMo_explode 124 = .ok (.iload 8, 2) := by decide +kernel
theorem dMo_explode_126 : decode cMo_explode 126 = .ok (.iconst 1, 1) := by decide +kernel
theorem dMo_explode_127 : decode cMo_explode 127 = .ok (.iadd, 1) := by decide +kernel
theorem dMo_explode_128 : decode cMo_explode 128 = .ok (.aload_n 0, 1) := by decide +kernel
theorem dMo_explode_129 : decode cMo_explode 129 = .ok (.getfield 13, 3) := by decide +kernel
theorem dMo_explode_132 : decode cMo_explode 132 = .ok (.iload 8, 2) := by decide +kernel
theorem dMo_explode_134 : decode cMo_explode 134 = .ok (.iconst 1, 1) := by decide +kernel
theorem dMo_explode_135 : decode cMo_explode 135 = .ok (.iadd, 1) := by decide +kernel
theorem dMo_explode_136 : decode cMo_explode 136 = .ok (.laload, 1) := by decide +kernel
theorem dMo_explode_137 : decode cMo_explode 137 = .ok (.lload 4, 2) := by decide +kernel
theorem dMo_explode_139 : decode cMo_explode 139 = .ok (.ladd, 1) := by decide +kernel
theorem dMo_explode_140 : decode cMo_explode 140 = .ok (.lastore, 1) := by decide +kernel
theorem dMo_explode_141 : decode cMo_explode 141 = .ok (.aload_n 0, 1) := by decide +kernel
theorem dMo_explode_142 : decode cMo_explode 142 = .ok (.getfield 7, 3) := by decide +kernel
theorem dMo_explode_145 : decode cMo_explode 145 = .ok (.iload 8, 2) := by decide +kernel
theorem dMo_explode_147 : decode cMo_explode 147 = .ok (.iconst 2, 1) := by decide +kernel
theorem dMo_explode_148 : decode cMo_explode 148 = .ok (.iadd, 1) := by decide +kernel
theorem dMo_explode_149 : decode cMo_explode 149 = .ok (.aload_n 0, 1) := by decide +kernel
theorem dMo_explode_150 : decode cMo_explode 150 = .ok (.getfield 7, 3) := by decide +kernel
theorem dMo_explode_153 : decode cMo_explode 153 = .ok (.iload 8, 2) := by decide +kernel
theorem dMo_explode_155 : decode cMo_explode 155 = .ok (.iconst 2, 1) := by decide +kernel
theorem dMo_explode_156 : decode cMo_explode 156 = .ok (.iadd, 1) := by decide +kernel
theorem dMo_explode_157 : decode cMo_explode 157 = .ok (.laload, 1) := by decide +kernel
theorem dMo_explode_158 : decode cMo_explode 158 = .ok (.lload 6, 2) := by decide +kernel
theorem dMo_explode_160 : decode cMo_explode 160 = .ok (.ladd, 1) := by decide +kernel
theorem dMo_explode_161 : decode cMo_explode 161 = .ok (.lastore, 1) := by decide +kernel
theorem dMo_explode_162 : decode cMo_explode 162 = .ok (.aload_n 0, 1) := by decide +kernel
theorem dMo_explode_163 : decode cMo_explode 163 = .ok (.getfield 13, 3) := by decide +kernel
theorem dMo_explode_166 : decode cMo_explode 166 = .ok (.iload 8, 2) := by decide +kernel
theorem dMo_explode_168 : decode cMo_explode 168 = .ok (.iconst 2, 1) := by decide +kernel
theorem dMo_explode_169 : decode cMo_explode 169 = .ok (.iadd, 1) := by decide +kernel
theorem dMo_explode_170 : decode cMo_explode 170 = .ok (.aload_n 0, 1) := by decide +kernel
theorem dMo_explode_171 : decode cMo_explode 171 = .ok (.getfield 13, 3) := by decide +kernel
theorem dMo_explode_174 : decode cMo_explode 174 = .ok (.iload 8, 2) := by decide +kernel
theorem dMo_explode_176 : decode cMo_explode 176 = .ok (.iconst 2, 1) := by decide +kernel
theorem dMo_explode_177 : decode cMo_explode 177 = .ok (.iadd, 1) := by decide +kernel
theorem dMo_explode_178 : decode cMo_explode 178 = .ok (.laload, 1) := by decide +kernel
theorem dMo_explode_179 : decode cMo_explode 179 = .ok (.lload 6, 2) := by decide +kernel
theorem dMo_explode_181 : decode cMo_explode 181 = .ok (.ladd, 1) := by decide +kernel
theorem dMo_explode_182 : decode cMo_explode 182 = .ok (.lastore, 1) := by decide +kernel
theorem dMo_explode_183 : decode cMo_explode 183 = .ok (.aload_n 0, 1) := by decide +kernel
theorem dMo_explode_184 : decode cMo_explode 184 = .ok (.iconst 0, 1) := by decide +kernel
theorem dMo_explode_185 : decode cMo_explode 185 = .ok (.putfield 108, 3) := by decide +kernel
theorem dMo_explode_188 : decode cMo_explode 188 = .ok (.return_, 1) := by decide +kernel
theorem dMo_row_0 : decode cMo_row 0 = .ok (.aload_n 0, 1) := by decide +kernel
theorem dMo_row_1 : decode cMo_row 1 = .ok (.iload_n 1, 1) := by decide +kernel
theorem dMo_row_2 : decode cMo_row 2 = .ok (.ifCond .lt 11, 3) := by decide +kernel
theorem dMo_row_5 : decode cMo_row 5 = .ok (.iload_n 1, 1) := by decide +kernel
theorem dMo_row_6 : decode cMo_row 6 = .ok (.aload_n 0, 1) := by decide +kernel
theorem dMo_row_7 : decode cMo_row 7 = .ok (.getfield 199, 3) := by decide +kernel
theorem dMo_row_10 : decode cMo_row 10 = .ok (.if_icmp .lt 7, 3) := by decide +kernel
theorem dMo_row_13 : decode cMo_row 13 = .ok (.iconst 1, 1) := by decide +kernel
theorem dMo_row_14 : decode cMo_row 14 = .ok (.goto 4, 3) := by decide +kernel
theorem dMo_row_17 : decode cMo_row 17 = .ok (.iconst 0, 1) := by decide +kernel
theorem dMo_row_18 : decode cMo_row 18 = .ok (.putfield 93, 3) := by decide +kernel
theorem dMo_row_21 : decode cMo_row 21 = .ok (.aload_n 0, 1) := by decide +kernel
theorem dMo_row_22 : decode cMo_row 22 = .ok (.getfield 93, 3) := by decide +kernel
theorem dMo_row_25 : decode cMo_row 25 = .ok (.ifCond .le 7, 3) := by decide +kernel
theorem dMo_row_28 : decode cMo_row 28 = .ok (.iconst 0, 1) := by decide +kernel
theorem dMo_row_29 : decode cMo_row 29 = .ok (.goto 9, 3) := by decide +kernel
theorem dMo_row_32 : decode cMo_row 32 = .ok (.aload_n 0, 1) := by decide +kernel
theorem dMo_row_33 : decode cMo_row 33 = .ok (.getfield 74, 3) := by decide +kernel
theorem dMo_row_36 : decode cMo_row 36 = .ok (.iload_n 1, 1) := by decide +kernel
theorem dMo_row_37 : decode cMo_row 37 = .ok (.iaload, 1) := by decide +kernel
theorem dMo_row_38 : decode cMo_row 38 = .ok (.ireturn, 1) := by decide +kernel
theorem dMo_total_0 : decode cMo_total 0 = .ok (.aload_n 0, 1) := by decide +kernel
theorem dMo_total_1 : decode cMo_total 1 = .ok (.iload_n 1, 1) := by decide +kernel
theorem dMo_total_2 : decode cMo_total 2 = .ok (.ifCond .lt 12, 3) := by decide +kernel
theorem dMo_total_5 : decode cMo_total 5 = .ok (.iload_n 1, 1) := by decide +kernel
theorem dMo_total_6 : decode cMo_total 6 = .ok (.iconst 2, 1) := by decide +kernel
theorem dMo_total_7 : decode cMo_total 7 = .ok (.if_icmp .gt 7, 3) := by decide +kernel
theorem dMo_total_10 : decode cMo_total 10 = .ok (.iload_n 2, 1) := by decide +kernel
theorem dMo_total_11 : decode cMo_total 11 = .ok (.ifCond .ge 7, 3) := by decide +kernel
theorem dMo_total_14 : decode cMo_total 14 = .ok (.iconst 1, 1) := by decide +kernel
theorem dMo_total_15 : decode cMo_total 15 = .ok (.goto 4, 3) := by decide +kernel
theorem dMo_total_18 : decode cMo_total 18 = .ok (.iconst 0, 1) := by decide +kernel
theorem dMo_total_19 : decode cMo_total 19 = .ok (.putfield 93, 3) := by decide +kernel
theorem dMo_total_22 : decode cMo_total 22 = .ok (.lconst 0, 1) := by decide +kernel
theorem dMo_total_23 : decode cMo_total 23 = .ok (.lstore_n 3, 1) := by decide +kernel
theorem dMo_total_24 : decode cMo_total 24 = .ok (.iconst 0, 1) := by decide +kernel
theorem dMo_total_25 : decode cMo_total 25 = .ok (.istore 5, 2) := by decide +kernel
theorem dMo_total_27 : decode cMo_total 27 = .ok (.iload 5, 2) := by decide +kernel
theorem dMo_total_29 : decode cMo_total 29 = .ok (.aload_n 0, 1) := by decide +kernel
theorem dMo_total_30 : decode cMo_total 30 = .ok (.getfield 199, 3) := by decide +kernel
theorem dMo_total_33 : decode cMo_total 33 = .ok (.if_icmp .ge 60, 3) := by decide +kernel
theorem dMo_total_36 : decode cMo_total 36 = .ok (.aload_n 0, 1) := by decide +kernel
theorem dMo_total_37 : decode cMo_total 37 = .ok (.getfield 93, 3) := by decide +kernel
theorem dMo_total_40 : decode cMo_total 40 = .ok (.ifCond .ne 53, 3) := by decide +kernel
theorem dMo_total_43 : decode cMo_total 43 = .ok (.aload_n 0, 1) := by decide +kernel
theorem dMo_total_44 : decode cMo_total 44 = .ok (.getfield 65, 3) := by decide +kernel
theorem dMo_total_47 : decode cMo_total 47 = .ok (.iload 5, 2) := by decide +kernel
theorem dMo_total_49 : decode cMo_total 49 = .ok (.iaload, 1) := by decide +kernel
theorem dMo_total_50 : decode cMo_total 50 = .ok (.iload_n 1, 1) := by decide +kernel
theorem dMo_total_51 : decode cMo_total 51 = .ok (.if_icmp .ne 34, 3) := by decide +kernel
theorem dMo_total_54 : decode cMo_total 54 = .ok (.aload_n 0, 1) := by decide +kernel
theorem dMo_total_55 : decode cMo_total 55 = .ok (.getfield 74, 3) := by decide +kernel
theorem dMo_total_58 : decode cMo_total 58 = .ok (.iload 5, 2) := by decide +kernel
theorem dMo_total_60 : decode cMo_total 60 = .ok (.iaload, 1) := by decide +kernel
theorem dMo_total_61 : decode cMo_total 61 = .ok (.iload_n 2, 1) := by decide +kernel
theorem dMo_total_62 : decode cMo_total 62 = .ok (.if_icmp .ne 23, 3) := by decide +kernel
theorem dMo_total_65 : decode cMo_total 65 = .ok (.lload_n 3, 1) := by decide +kernel
theorem dMo_total_66 : decode cMo_total 66 = .ok (.aload_n 0, 1) := by decide +kernel
theorem dMo_total_67 : decode cMo_total 67 = .ok (.getfield 71, 3) := by decide +kernel
theorem dMo_total_70 : decode cMo_total 70 = .ok (.iload 5, 2) := by decide +kernel
theorem dMo_total_72 : decode cMo_total 72 = .ok (.laload, 1) := by decide +kernel
theorem dMo_total_73 : decode cMo_total 73 = .ok (.ladd, 1) := by decide +kernel
theorem dMo_total_74 : decode cMo_total 74 = .ok (.aload_n 0, 1) := by decide +kernel
theorem dMo_total_75 : decode cMo_total 75 = .ok (.getfield 68, 3) := by decide +kernel
theorem dMo_total_78 : decode cMo_total 78 = .ok (.iload 5, 2) := by decide +kernel
theorem dMo_total_80 : decode cMo_total 80 = .ok (.laload, 1) := by decide +kernel
theorem dMo_total_81 : decode cMo_total 81 = .ok (.lsub, 1) := by decide +kernel
theorem dMo_total_82 : decode cMo_total 82 = .ok (.goto 4, 3) := by decide +kernel
theorem dMo_total_85 : decode cMo_total 85 = .ok (.lload_n 3, 1) := by decide +kernel
theorem dMo_total_86 : decode cMo_total 86 = .ok (.lstore_n 3, 1) := by decide +kernel
theorem dMo_total_87 : decode cMo_total 87 = .ok (.iinc 5 1, 3) := by decide +kernel
theorem dMo_total_90 : decode cMo_total 90 = .ok (.goto (-63), 3) := by decide +kernel
theorem dMo_total_93 : decode cMo_total 93 = .ok (.lload_n 3, 1) := by decide +kernel
theorem dMo_total_94 : decode cMo_total 94 = .ok (.lreturn, 1) := by decide +kernel
theorem dMo_isKept_0 : decode cMo_isKept 0 = .ok (.iconst 0, 1) := by decide +kernel
theorem dMo_isKept_1 : decode cMo_isKept 1 = .ok (.istore_n 2, 1) := by decide +kernel
theorem dMo_isKept_2 : decode cMo_isKept 2 = .ok (.iconst 0, 1) := by decide +kernel
theorem dMo_isKept_3 : decode cMo_isKept 3 = .ok (.istore_n 3, 1) := by decide +kernel
theorem dMo_isKept_4 : decode cMo_isKept 4 = .ok (.iload_n 3, 1) := by decide +kernel
theorem dMo_isKept_5 : decode cMo_isKept 5 = .ok (.aload_n 0, 1) := by decide +kernel
theorem dMo_isKept_6 : decode cMo_isKept 6 = .ok (.getfield 249, 3) := by decide +kernel
theorem dMo_isKept_9 : decode cMo_isKept 9 = .ok (.if_icmp .ge 97, 3) := by decide +kernel
theorem dMo_isKept_12 : decode cMo_isKept 12 = .ok (.iload_n 2, 1) := by decide +kernel
theorem dMo_isKept_13 : decode cMo_isKept 13 = .ok (.ifCond .ne 81, 3) := by decide +kernel
theorem dMo_isKept_16 : decode cMo_isKept 16 = .ok (.aload_n 0, 1) := by decide +kernel
theorem dMo_isKept_17 : decode cMo_isKept 17 = .ok (.getfield 32, 3) := by decide +kernel
theorem dMo_isKept_20 : decode cMo_isKept 20 = .ok (.iload_n 3, 1) := by decide +kernel
theorem dMo_isKept_21 : decode cMo_isKept 21 = .ok (.iaload, 1) := by decide +kernel
theorem dMo_isKept_22 : decode cMo_isKept 22 = .ok (.aload_n 0, 1) := by decide +kernel
theorem dMo_isKept_23 : decode cMo_isKept 23 = .ok (.getfield 16, 3) := by decide +kernel
theorem dMo_isKept_26 : decode cMo_isKept 26 = .ok (.iload_n 1, 1) := by decide +kernel
theorem dMo_isKept_27 : decode cMo_isKept 27 = .ok (.iaload, 1) := by decide +kernel
theorem dMo_isKept_28 : decode cMo_isKept 28 = .ok (.if_icmp .ne 70, 3) := by decide +kernel
theorem dMo_isKept_31 : decode cMo_isKept 31 = .ok (.aload_n 0, 1) := by decide +kernel
theorem dMo_isKept_32 : decode cMo_isKept 32 = .ok (.getfield 35, 3) := by decide +kernel
theorem dMo_isKept_35 : decode cMo_isKept 35 = .ok (.iload_n 3, 1) := by decide +kernel
theorem dMo_isKept_36 : decode cMo_isKept 36 = .ok (.laload, 1) := by decide +kernel
theorem dMo_isKept_37 : decode cMo_isKept 37 = .ok (.aload_n 0, 1) := by decide +kernel
theorem dMo_isKept_38 : decode cMo_isKept 38 = .ok (.getfield 20, 3) := by decide +kernel
theorem dMo_isKept_41 : decode cMo_isKept 41 = .ok (.iload_n 1, 1) := by decide +kernel
theorem dMo_isKept_42 : decode cMo_isKept 42 = .ok (.laload, 1) := by decide +kernel
theorem dMo_isKept_43 : decode cMo_isKept 43 = .ok (.lcmp, 1) := by decide +kernel
theorem dMo_isKept_44 : decode cMo_isKept 44 = .ok (.ifCond .ne 54, 3) := by decide +kernel
theorem dMo_isKept_47 : decode cMo_isKept 47 = .ok (.aload_n 0, 1) := by decide +kernel
theorem dMo_isKept_48 : decode cMo_isKept 48 = .ok (.getfield 38, 3) := by decide +kernel
theorem dMo_isKept_51 : decode cMo_isKept 51 = .ok (.iload_n 3, 1) := by decide +kernel
theorem dMo_isKept_52 : decode cMo_isKept 52 = .ok (.laload, 1) := by decide +kernel
theorem dMo_isKept_53 : decode cMo_isKept 53 = .ok (.aload_n 0, 1) := by decide +kernel
theorem dMo_isKept_54 : decode cMo_isKept 54 = .ok (.getfield 23, 3) := by decide +kernel
theorem dMo_isKept_57 : decode cMo_isKept 57 = .ok (.iload_n 1, 1) := by decide +kernel
theorem dMo_isKept_58 : decode cMo_isKept 58 = .ok (.laload, 1) := by decide +kernel
theorem dMo_isKept_59 : decode cMo_isKept 59 = .ok (.lcmp, 1) := by decide +kernel
theorem dMo_isKept_60 : decode cMo_isKept 60 = .ok (.ifCond .ne 38, 3) := by decide +kernel
theorem dMo_isKept_63 : decode cMo_isKept 63 = .ok (.aload_n 0, 1) := by decide +kernel
theorem dMo_isKept_64 : decode cMo_isKept 64 = .ok (.getfield 41, 3) := by decide +kernel
theorem dMo_isKept_67 : decode cMo_isKept 67 = .ok (.iload_n 3, 1) := by decide +kernel
theorem dMo_isKept_68 : decode cMo_isKept 68 = .ok (.laload, 1) := by decide +kernel
theorem dMo_isKept_69 : decode cMo_isKept 69 = .ok (.aload_n 0, 1) := by decide +kernel
theorem dMo_isKept_70 : decode cMo_isKept 70 = .ok (.getfield 26, 3) := by decide +kernel
theorem dMo_isKept_73 : decode cMo_isKept 73 = .ok (.iload_n 1, 1) := by decide +kernel
theorem dMo_isKept_74 : decode cMo_isKept 74 = .ok (.laload, 1) := by decide +kernel
theorem dMo_isKept_75 : decode cMo_isKept 75 = .ok (.lcmp, 1) := by decide +kernel
theorem dMo_isKept_76 : decode cMo_isKept 76 = .ok (.ifCond .ne 22, 3) := by decide +kernel
theorem dMo_isKept_79 : decode cMo_isKept 79 = .ok (.aload_n 0, 1) := by decide +kernel
theorem dMo_isKept_80 : decode cMo_isKept 80 = .ok (.getfield 44, 3) := by decide +kernel
theorem dMo_isKept_83 : decode cMo_isKept 83 = .ok (.iload_n 3, 1) := by decide +kernel
theorem dMo_isKept_84 : decode cMo_isKept 84 = .ok (.iaload, 1) := by decide +kernel
theorem dMo_isKept_85 : decode cMo_isKept 85 = .ok (.aload_n 0, 1) := by decide +kernel
theorem dMo_isKept_86 : decode cMo_isKept 86 = .ok (.getfield 29, 3) := by decide +kernel
theorem dMo_isKept_89 : decode cMo_isKept 89 = .ok (.iload_n 1, 1) := by decide +kernel
theorem dMo_isKept_90 : decode cMo_isKept 90 = .ok (.iaload, 1) := by decide +kernel
theorem dMo_isKept_91 : decode cMo_isKept 91 = .ok (.if_icmp .ne 7, 3) := by decide +kernel
theorem dMo_isKept_94 : decode cMo_isKept 94 = .ok (.iconst 1, 1) := by decide +kernel
theorem dMo_isKept_95 : decode cMo_isKept 95 = .ok (.goto 4, 3) := by decide +kernel
theorem dMo_isKept_98 : decode cMo_isKept 98 = .ok (.iconst 0, 1) := by decide +kernel
theorem dMo_isKept_99 : decode cMo_isKept 99 = .ok (.istore_n 2, 1) := by decide +kernel
theorem dMo_isKept_100 : decode cMo_isKept 100 = .ok (.iinc 3 1, 3) := by decide +kernel
theorem dMo_isKept_103 : decode cMo_isKept 103 = .ok (.goto (-99), 3) := by decide +kernel
theorem dMo_isKept_106 : decode cMo_isKept 106 = .ok (.iload_n 2, 1) := by decide +kernel
theorem dMo_isKept_107 : decode cMo_isKept 107 = .ok (.ireturn, 1) := by decide +kernel
set_option maxRecDepth 100000 in
theorem kMo_120 : inT (kV "PartDrawingsModel" 120 yMo_mayGo cMo_mayGo 4 (some .boolean)) := gW_l [1344, 1346, 21, 61, 1347] rfl (by decide +kernel)
set_option maxRecDepth 100000 in
theorem flMo_199 : Cond.fieldLink "PartDrawingsModel" 199 (TMo 29).1 (TMo 29).2.1 (TMo 29).2.2.1 ∈ gW := gW_1 1235 rfl rfl
set_option maxRecDepth 100000 in
theorem flMo_74 : Cond.fieldLink "PartDrawingsModel" 74 (TMo 33).1 (TMo 33).2.1 (TMo 33).2.2.1 ∈ gW := gW_1 1239 rfl rfl
set_option maxRecDepth 100000 in
theorem flMo_65 : Cond.fieldLink "PartDrawingsModel" 65 (TMo 30).1 (TMo 30).2.1 (TMo 30).2.2.1 ∈ gW := gW_1 1236 rfl rfl
set_option maxRecDepth 100000 in
theorem flMo_71 : Cond.fieldLink "PartDrawingsModel" 71 (TMo 32).1 (TMo 32).2.1 (TMo 32).2.2.1 ∈ gW := gW_1 1238 rfl rfl
set_option maxRecDepth 100000 in
theorem flMo_68 : Cond.fieldLink "PartDrawingsModel" 68 (TMo 31).1 (TMo 31).2.1 (TMo 31).2.2.1 ∈ gW := gW_1 1237 rfl rfl
set_option maxRecDepth 100000 in
theorem flMo_249 : Cond.fieldLink "PartDrawingsModel" 249 (TMo 14).1 (TMo 14).2.1 (TMo 14).2.2.1 ∈ gW := gW_1 1220 rfl rfl
set_option maxRecDepth 100000 in
theorem flMo_32 : Cond.fieldLink "PartDrawingsModel" 32 (TMo 15).1 (TMo 15).2.1 (TMo 15).2.2.1 ∈ gW := gW_1 1221 rfl rfl
set_option maxRecDepth 100000 in
theorem flMo_35 : Cond.fieldLink "PartDrawingsModel" 35 (TMo 16).1 (TMo 16).2.1 (TMo 16).2.2.1 ∈ gW := gW_1 1222 rfl rfl
set_option maxRecDepth 100000 in
theorem flMo_38 : Cond.fieldLink "PartDrawingsModel" 38 (TMo 17).1 (TMo 17).2.1 (TMo 17).2.2.1 ∈ gW := gW_1 1223 rfl rfl
set_option maxRecDepth 100000 in
theorem flMo_41 : Cond.fieldLink "PartDrawingsModel" 41 (TMo 18).1 (TMo 18).2.1 (TMo 18).2.2.1 ∈ gW := gW_1 1224 rfl rfl
set_option maxRecDepth 100000 in
theorem flMo_44 : Cond.fieldLink "PartDrawingsModel" 44 (TMo 19).1 (TMo 19).2.1 (TMo 19).2.2.1 ∈ gW := gW_1 1225 rfl rfl
set_option maxHeartbeats 4000000 in
set_option maxRecDepth 100000 in
theorem m_explode (l : Launch) (D : va_G) (cI cG cL cB : ClassId) (m0 : Nat) (cd : Int) (wi : Int) (hi : Int) (bn : Int) (af : Nat) (at_ : Nat) (dr : Int) (sz : Int) (au : Nat) (ap : Nat) (ab : Nat) (ae : Nat) (ah : Nat) (kp : Int) (ks : Int) (ku : Nat) (kq : Nat) (kb : Nat) (ke : Nat) (kh : Nat) (als : Int) (gf : Nat) (gt : Nat) (ses : Int) (sf : Nat) (st : Nat) (les : Int) (ef : Nat) (et : Nat) (mes : Int) (xa : Nat) (xf : Nat) (xt : Nat) (xr : Nat) (lb : Nat) (lbs : Int) (so : Nat) (From : Int → Int) (To : Int → Int) (bx : Int) (px : Int) (py : Int) (pz : Int) (bFrom : ∀ j : Int, I64 (From j)) (bTo : ∀ j : Int, I64 (To j)) (hbn0 : 0 ≤ bn) (hbn1 : bn ≤ 24) (hMB : moB bn From To) (hIbx : I32 bx) (hJpx : I64 px) (hJpy : I64 py) (hJpz : I64 pz) : Cv l yMo_explode cMo_explode 9 none 2 0 0 D zCl (zT cI cG cL cB) [.ref m0, .int (zI bx), .long (zL px), .long (zL py), .long (zL pz)] [(m0, .inr (10, [.int (zI cd), .long (zL wi), .long (zL hi), .int (zI bn), .ref af, .ref at_, .int (zI dr), .int (zI sz), .ref au, .ref ap, .ref ab, .ref ae, .ref ah, .int (zI kp), .int (zI ks), .ref ku, .ref kq, .ref kb, .ref ke, .ref kh, .int (zI als), .ref gf, .ref gt, .int (zI ses), .ref sf, .ref st, .int (zI les), .ref ef, .ref et, .int (zI mes), .ref xa, .ref xf, .ref xt, .ref xr, .ref lb, .int (zI lbs), .ref so])), (af, .inl (cL, 72, .inr (.inl (fL From)))), (at_, .inl (cL, 72, .inr (.inl (fL To))))] (fun w => ∃ cd2 : Int, ∃ dr2 : Int, ∃ From2 : Int → Int, ∃ To2 : Int → Int, (∀ j : Int, I64 (From2 j)) ∧ (∀ j : Int, I64 (To2 j)) ∧ (cd2 = deC bn bx (mGo From (3 * bx) px && (mGo From (3 * bx + 1) py && mGo From (3 * bx + 2) pz))) ∧ (cd2 = 0 → dr2 = 0 ∧ (From2 (3 * bx) = From (3 * bx) + px ∧ From2 (3 * bx + 1) = From (3 * bx + 1) + py ∧ From2 (3 * bx + 2) = From (3 * bx + 2) + pz ∧ (∀ j : Int, j ≠ 3 * bx → j ≠ 3 * bx + 1 → j ≠ 3 * bx + 2 → From2 j = From j)) ∧ (To2 (3 * bx) = To (3 * bx) + px ∧ To2 (3 * bx + 1) = To (3 * bx + 1) + py ∧ To2 (3 * bx + 2) = To (3 * bx + 2) + pz ∧ (∀ j : Int, j ≠ 3 * bx → j ≠ 3 * bx + 1 → j ≠ 3 * bx + 2 → To2 j = To j))) ∧ (cd2 ≠ 0 → dr2 = dr ∧ From2 = From ∧ To2 = To) ∧ w = [(m0, .inr (10, [.int (zI cd2), .long (zL wi), .long (zL hi), .int (zI bn), .ref af, .ref at_, .int (zI dr2), .int (zI sz), .ref au, .ref ap, .ref ab, .ref ae, .ref ah, .int (zI kp), .int (zI ks), .ref ku, .ref kq, .ref kb, .ref ke, .ref kh, .int (zI als), .ref gf, .ref gt, .int (zI ses), .ref sf, .ref st, .int (zI les), .ref ef, .ref et, .int (zI mes), .ref xa, .ref xf, .ref xt, .ref xr, .ref lb, .int (zI lbs), .ref so])), (af, .inl (cL, 72, .inr (.inl (fL From2)))), (at_, .inl (cL, 72, .inr (.inl (fL To2))))]) := by
  refine zBv (by decide) (Nat.le_of_ble_eq_true rfl) ?_
  intro p e s m args below meth c ls A H locs Q C hin hl hW hQ
  have hl : lv_has ls 9 [(0, .ref m0), (1, .int (zI bx)), (2, .long (zL px)), (4, .long (zL py)), (6, .long (zL pz))] := hl
  refine lv_aload_n C.1 C.2.1 dMo_explode_0 rfl (lv_at hl 0 rfl) ?_
  refine lv_iload_n C.1 C.2.1 dMo_explode_1 rfl (lv_at hl 1 rfl) ?_
  refine zcalli (wr := [(af, .inl (cL, 72, .inr (.inl (fL From)))), (at_, .inl (cL, 72, .inr (.inl (fL To))))]) C hW [0] [1, 2] rfl rfl (by decide) (by decide) (zRunV (k := 1) (As := [.int (zI bx)]) (rest := []) C hW (m_noBox l D cI cG cL cB m0 cd wi hi bn af at_ dr sz au ap ab ae ah kp ks ku kq kb ke kh als gf gt ses sf st les ef et mes xa xf xt xr lb lbs so bx (by omega) (by omega) H.size) [0] rfl (by decide) kMo_112 (by decide +kernel) ⟨by decide, by decide⟩ 0 rfl rfl rfl hl.1 (Nat.le_of_ble_eq_true rfl) dMo_explode_2 ⟨by first | decide | omega, by first | decide | omega⟩) (fun x w H locs hq hW => ?_)
  obtain ⟨rfl, rfl⟩ := hq
  have hW : zw D zCl A s [(af, .inl (cL, 72, .inr (.inl (fL From)))), (at_, .inl (cL, 72, .inr (.inl (fL To)))), (m0, .inr (10, [.int (zI (noB bn bx)), .long (zL wi), .long (zL hi), .int (zI bn), .ref af, .ref at_, .int (zI dr), .int (zI sz), .ref au, .ref ap, .ref ab, .ref ae, .ref ah, .int (zI kp), .int (zI ks), .ref ku, .ref kq, .ref kb, .ref ke, .ref kh, .int (zI als), .ref gf, .ref gt, .int (zI ses), .ref sf, .ref st, .int (zI les), .ref ef, .ref et, .int (zI mes), .ref xa, .ref xf, .ref xt, .ref xr, .ref lb, .int (zI lbs), .ref so]))] H locs := hW
  have hnbi := noB_in bn bx
  refine zif_eq (tgt := 9) C (by omega) dMo_explode_5 (by decide) (fun c5 => ?_) (fun c5 => ?_)
  · have hnb : 0 ≤ bx ∧ bx < bn := noB_0 (by omega)
    have hm0 := hMB (3 * bx) (by omega) (by omega)
    have hm1 := hMB (3 * bx + 1) (by omega) (by omega)
    have hm2 := hMB (3 * bx + 2) (by omega) (by omega)
    refine lv_iconst (v := zI 3) C.1 C.2.1 dMo_explode_9 (by decide) ?_
    refine lv_iload_n C.1 C.2.1 dMo_explode_10 rfl (lv_at hl 1 rfl) ?_
    refine zimul C dMo_explode_11 ?_
    refine lv_istore (lv' := [(8, .int (zI (3 * bx))), (0, .ref m0), (1, .int (zI bx)), (2, .long (zL px)), (4, .long (zL py)), (6, .long (zL pz))]) C.1 C.2.1 dMo_explode_12 hl (by decide) rfl (fun ls hl => ?_)
    refine lv_aload_n C.1 C.2.1 dMo_explode_14 rfl (lv_at hl 1 rfl) ?_
    refine lv_aload_n C.1 C.2.1 dMo_explode_15 rfl (lv_at hl 1 rfl) ?_
    refine lv_iload C.1 C.2.1 dMo_explode_16 (lv_at hl 0 rfl) ?_
    refine lv_lload_n C.1 C.2.1 dMo_explode_18 rfl (lv_at hl 3 rfl) ?_
    refine zcalli (wr := [(at_, .inl (cL, 72, .inr (.inl (fL To))))]) C hW [2, 0] [1] rfl rfl (by decide) (by decide) (zRunV (k := 2) (As := [.int (zI (3 * bx)), .long (zL px)]) (rest := [.ref m0]) C hW (m_mayGo l D cI cG cL cB m0 (noB bn bx) wi hi bn af at_ dr sz au ap ab ae ah kp ks ku kq kb ke kh als gf gt ses sf st les ef et mes xa xf xt xr lb lbs so From (3 * bx) px bFrom (by omega) (by omega) (by omega) (by omega) H.size) [2, 0] rfl (by decide) kMo_120 (by decide +kernel) ⟨by decide, by decide⟩ 2 rfl rfl rfl hl.1 (Nat.le_of_ble_eq_true rfl) dMo_explode_19 ⟨by first | decide | omega, by first | decide | omega⟩) (fun x w H locs hq hW => ?_)
    obtain ⟨rfl, rfl⟩ := hq
    have hW : zw D zCl A s [(at_, .inl (cL, 72, .inr (.inl (fL To)))), (m0, .inr (10, [.int (zI (noB bn bx)), .long (zL wi), .long (zL hi), .int (zI bn), .ref af, .ref at_, .int (zI dr), .int (zI sz), .ref au, .ref ap, .ref ab, .ref ae, .ref ah, .int (zI kp), .int (zI ks), .ref ku, .ref kq, .ref kb, .ref ke, .ref kh, .int (zI als), .ref gf, .ref gt, .int (zI ses), .ref sf, .ref st, .int (zI les), .ref ef, .ref et, .int (zI mes), .ref xa, .ref xf, .ref xt, .ref xr, .ref lb, .int (zI lbs), .ref so])), (af, .inl (cL, 72, .inr (.inl (fL From))))] H locs := hW
    have hr1 := bz_01 (mGo From (3 * bx) px)
    refine zif_eq (tgt := 55) C (by omega) dMo_explode_22 (by decide) (fun c22 => ?_) (fun c22 => ?_)
    · refine lv_iconst (v := zI 2) C.1 C.2.1 dMo_explode_55 (by decide) ?_
      refine zput C hW 1 0 tyMo tyMo_ok nmMo rfl rfl inMo (by decide) flMo_93 rfl rfl rfl rfl (Nat.le_of_ble_eq_true rfl) dMo_explode_56 (fun H locs hW => ?_)
      have hW : zw D zCl A s [(at_, .inl (cL, 72, .inr (.inl (fL To)))), (m0, .inr (10, [.int (zI 2), .long (zL wi), .long (zL hi), .int (zI bn), .ref af, .ref at_, .int (zI dr), .int (zI sz), .ref au, .ref ap, .ref ab, .ref ae, .ref ah, .int (zI kp), .int (zI ks), .ref ku, .ref kq, .ref kb, .ref ke, .ref kh, .int (zI als), .ref gf, .ref gt, .int (zI ses), .ref sf, .ref st, .int (zI les), .ref ef, .ref et, .int (zI mes), .ref xa, .ref xf, .ref xt, .ref xr, .ref lb, .int (zI lbs), .ref so])), (af, .inl (cL, 72, .inr (.inl (fL From))))] H locs := hW
      refine lv_aload_n C.1 C.2.1 dMo_explode_59 rfl (lv_at hl 1 rfl) ?_
      refine zget C hW 1 0 rfl rfl inMo (by decide) flMo_93 rfl dMo_explode_60 ?_
      refine zif_le (tgt := 67) C (by omega) dMo_explode_63 (by decide) (fun c63 => ?_) (fun c63 => ?_)
      · exact absurd c63 (by decide)
      · have hW : zw D zCl A s [(m0, .inr (10, [.int (zI 2), .long (zL wi), .long (zL hi), .int (zI bn), .ref af, .ref at_, .int (zI dr), .int (zI sz), .ref au, .ref ap, .ref ab, .ref ae, .ref ah, .int (zI kp), .int (zI ks), .ref ku, .ref kq, .ref kb, .ref ke, .ref kh, .int (zI als), .ref gf, .ref gt, .int (zI ses), .ref sf, .ref st, .int (zI les), .ref ef, .ref et, .int (zI mes), .ref xa, .ref xf, .ref xt, .ref xr, .ref lb, .int (zI lbs), .ref so])), (af, .inl (cL, 72, .inr (.inl (fL From)))), (at_, .inl (cL, 72, .inr (.inl (fL To))))] H locs := zwp hW [1, 2, 0] rfl (by decide)
        exact hQ _ H locs _ _ _ ls hW ⟨_, dr, From, To, bFrom, bTo, deC_2 hnb (by first | exact (bzA_1 (by omega)).symm | exact (bzA_2 (bzA_1 (by omega)).symm).symm | exact (bzA_2 (bzA_2 (by omega)).symm).symm), (fun h => absurd h (by decide)), (fun _ => ⟨rfl, rfl, rfl⟩), rfl⟩ (by omega) (by omega) dMo_explode_66
    · refine lv_aload_n C.1 C.2.1 dMo_explode_25 rfl (lv_at hl 1 rfl) ?_
      refine lv_iload C.1 C.2.1 dMo_explode_26 (lv_at hl 0 rfl) ?_
      refine lv_iconst (v := zI 1) C.1 C.2.1 dMo_explode_28 (by decide) ?_
      refine ziadd C dMo_explode_29 ?_
      refine lv_lload C.1 C.2.1 dMo_explode_30 (lv_at hl 4 rfl) ?_
      refine zcalli (wr := [(at_, .inl (cL, 72, .inr (.inl (fL To))))]) C hW [1, 2] [0] rfl rfl (by decide) (by decide) (zRunV (k := 2) (As := [.int (zI ((3 * bx) + 1)), .long (zL py)]) (rest := [.ref m0]) C hW (m_mayGo l D cI cG cL cB m0 (noB bn bx) wi hi bn af at_ dr sz au ap ab ae ah kp ks ku kq kb ke kh als gf gt ses sf st les ef et mes xa xf xt xr lb lbs so From ((3 * bx) + 1) py bFrom (by omega) (by omega) (by omega) (by omega) H.size) [1, 2] rfl (by decide) kMo_120 (by decide +kernel) ⟨by decide, by decide⟩ 1 rfl rfl rfl hl.1 (Nat.le_of_ble_eq_true rfl) dMo_explode_32 ⟨by first | decide | omega, by first | decide | omega⟩) (fun x w H locs hq hW => ?_)
      obtain ⟨rfl, rfl⟩ := hq
      have hW : zw D zCl A s [(at_, .inl (cL, 72, .inr (.inl (fL To)))), (m0, .inr (10, [.int (zI (noB bn bx)), .long (zL wi), .long (zL hi), .int (zI bn), .ref af, .ref at_, .int (zI dr), .int (zI sz), .ref au, .ref ap, .ref ab, .ref ae, .ref ah, .int (zI kp), .int (zI ks), .ref ku, .ref kq, .ref kb, .ref ke, .ref kh, .int (zI als), .ref gf, .ref gt, .int (zI ses), .ref sf, .ref st, .int (zI les), .ref ef, .ref et, .int (zI mes), .ref xa, .ref xf, .ref xt, .ref xr, .ref lb, .int (zI lbs), .ref so])), (af, .inl (cL, 72, .inr (.inl (fL From))))] H locs := hW
      have hr2 := bz_01 (mGo From ((3 * bx) + 1) py)
      refine zif_eq (tgt := 55) C (by omega) dMo_explode_35 (by decide) (fun c35 => ?_) (fun c35 => ?_)
      · refine lv_iconst (v := zI 2) C.1 C.2.1 dMo_explode_55 (by decide) ?_
        refine zput C hW 1 0 tyMo tyMo_ok nmMo rfl rfl inMo (by decide) flMo_93 rfl rfl rfl rfl (Nat.le_of_ble_eq_true rfl) dMo_explode_56 (fun H locs hW => ?_)
        have hW : zw D zCl A s [(at_, .inl (cL, 72, .inr (.inl (fL To)))), (m0, .inr (10, [.int (zI 2), .long (zL wi), .long (zL hi), .int (zI bn), .ref af, .ref at_, .int (zI dr), .int (zI sz), .ref au, .ref ap, .ref ab, .ref ae, .ref ah, .int (zI kp), .int (zI ks), .ref ku, .ref kq, .ref kb, .ref ke, .ref kh, .int (zI als), .ref gf, .ref gt, .int (zI ses), .ref sf, .ref st, .int (zI les), .ref ef, .ref et, .int (zI mes), .ref xa, .ref xf, .ref xt, .ref xr, .ref lb, .int (zI lbs), .ref so])), (af, .inl (cL, 72, .inr (.inl (fL From))))] H locs := hW
        refine lv_aload_n C.1 C.2.1 dMo_explode_59 rfl (lv_at hl 1 rfl) ?_
        refine zget C hW 1 0 rfl rfl inMo (by decide) flMo_93 rfl dMo_explode_60 ?_
        refine zif_le (tgt := 67) C (by omega) dMo_explode_63 (by decide) (fun c63 => ?_) (fun c63 => ?_)
        · exact absurd c63 (by decide)
        · have hW : zw D zCl A s [(m0, .inr (10, [.int (zI 2), .long (zL wi), .long (zL hi), .int (zI bn), .ref af, .ref at_, .int (zI dr), .int (zI sz), .ref au, .ref ap, .ref ab, .ref ae, .ref ah, .int (zI kp), .int (zI ks), .ref ku, .ref kq, .ref kb, .ref ke, .ref kh, .int (zI als), .ref gf, .ref gt, .int (zI ses), .ref sf, .ref st, .int (zI les), .ref ef, .ref et, .int (zI mes), .ref xa, .ref xf, .ref xt, .ref xr, .ref lb, .int (zI lbs), .ref so])), (af, .inl (cL, 72, .inr (.inl (fL From)))), (at_, .inl (cL, 72, .inr (.inl (fL To))))] H locs := zwp hW [1, 2, 0] rfl (by decide)
          exact hQ _ H locs _ _ _ ls hW ⟨_, dr, From, To, bFrom, bTo, deC_2 hnb (by first | exact (bzA_1 (by omega)).symm | exact (bzA_2 (bzA_1 (by omega)).symm).symm | exact (bzA_2 (bzA_2 (by omega)).symm).symm), (fun h => absurd h (by decide)), (fun _ => ⟨rfl, rfl, rfl⟩), rfl⟩ (by omega) (by omega) dMo_explode_66
      · refine lv_aload_n C.1 C.2.1 dMo_explode_38 rfl (lv_at hl 1 rfl) ?_
        refine lv_iload C.1 C.2.1 dMo_explode_39 (lv_at hl 0 rfl) ?_
        refine lv_iconst (v := zI 2) C.1 C.2.1 dMo_explode_41 (by decide) ?_
        refine ziadd C dMo_explode_42 ?_
        refine lv_lload C.1 C.2.1 dMo_explode_43 (lv_at hl 5 rfl) ?_
        refine zcalli (wr := [(at_, .inl (cL, 72, .inr (.inl (fL To))))]) C hW [1, 2] [0] rfl rfl (by decide) (by decide) (zRunV (k := 2) (As := [.int (zI ((3 * bx) + 2)), .long (zL pz)]) (rest := [.ref m0]) C hW (m_mayGo l D cI cG cL cB m0 (noB bn bx) wi hi bn af at_ dr sz au ap ab ae ah kp ks ku kq kb ke kh als gf gt ses sf st les ef et mes xa xf xt xr lb lbs so From ((3 * bx) + 2) pz bFrom (by omega) (by omega) (by omega) (by omega) H.size) [1, 2] rfl (by decide) kMo_120 (by decide +kernel) ⟨by decide, by decide⟩ 1 rfl rfl rfl hl.1 (Nat.le_of_ble_eq_true rfl) dMo_explode_45 ⟨by first | decide | omega, by first | decide | omega⟩) (fun x w H locs hq hW => ?_)
        obtain ⟨rfl, rfl⟩ := hq
        have hW : zw D zCl A s [(at_, .inl (cL, 72, .inr (.inl (fL To)))), (m0, .inr (10, [.int (zI (noB bn bx)), .long (zL wi), .long (zL hi), .int (zI bn), .ref af, .ref at_, .int (zI dr), .int (zI sz), .ref au, .ref ap, .ref ab, .ref ae, .ref ah, .int (zI kp), .int (zI ks), .ref ku, .ref kq, .ref kb, .ref ke, .ref kh, .int (zI als), .ref gf, .ref gt, .int (zI ses), .ref sf, .ref st, .int (zI les), .ref ef, .ref et, .int (zI mes), .ref xa, .ref xf, .ref xt, .ref xr, .ref lb, .int (zI lbs), .ref so])), (af, .inl (cL, 72, .inr (.inl (fL From))))] H locs := hW
        have hr3 := bz_01 (mGo From ((3 * bx) + 2) pz)
        refine zif_eq (tgt := 55) C (by omega) dMo_explode_48 (by decide) (fun c48 => ?_) (fun c48 => ?_)
        · refine lv_iconst (v := zI 2) C.1 C.2.1 dMo_explode_55 (by decide) ?_
          refine zput C hW 1 0 tyMo tyMo_ok nmMo rfl rfl inMo (by decide) flMo_93 rfl rfl rfl rfl (Nat.le_of_ble_eq_true rfl) dMo_explode_56 (fun H locs hW => ?_)
          have hW : zw D zCl A s [(at_, .inl (cL, 72, .inr (.inl (fL To)))), (m0, .inr (10, [.int (zI 2), .long (zL wi), .long (zL hi), .int (zI bn), .ref af, .ref at_, .int (zI dr), .int (zI sz), .ref au, .ref ap, .ref ab, .ref ae, .ref ah, .int (zI kp), .int (zI ks), .ref ku, .ref kq, .ref kb, .ref ke, .ref kh, .int (zI als), .ref gf, .ref gt, .int (zI ses), .ref sf, .ref st, .int (zI les), .ref ef, .ref et, .int (zI mes), .ref xa, .ref xf, .ref xt, .ref xr, .ref lb, .int (zI lbs), .ref so])), (af, .inl (cL, 72, .inr (.inl (fL From))))] H locs := hW
          refine lv_aload_n C.1 C.2.1 dMo_explode_59 rfl (lv_at hl 1 rfl) ?_
          refine zget C hW 1 0 rfl rfl inMo (by decide) flMo_93 rfl dMo_explode_60 ?_
          refine zif_le (tgt := 67) C (by omega) dMo_explode_63 (by decide) (fun c63 => ?_) (fun c63 => ?_)
          · exact absurd c63 (by decide)
          · have hW : zw D zCl A s [(m0, .inr (10, [.int (zI 2), .long (zL wi), .long (zL hi), .int (zI bn), .ref af, .ref at_, .int (zI dr), .int (zI sz), .ref au, .ref ap, .ref ab, .ref ae, .ref ah, .int (zI kp), .int (zI ks), .ref ku, .ref kq, .ref kb, .ref ke, .ref kh, .int (zI als), .ref gf, .ref gt, .int (zI ses), .ref sf, .ref st, .int (zI les), .ref ef, .ref et, .int (zI mes), .ref xa, .ref xf, .ref xt, .ref xr, .ref lb, .int (zI lbs), .ref so])), (af, .inl (cL, 72, .inr (.inl (fL From)))), (at_, .inl (cL, 72, .inr (.inl (fL To))))] H locs := zwp hW [1, 2, 0] rfl (by decide)
            exact hQ _ H locs _ _ _ ls hW ⟨_, dr, From, To, bFrom, bTo, deC_2 hnb (by first | exact (bzA_1 (by omega)).symm | exact (bzA_2 (bzA_1 (by omega)).symm).symm | exact (bzA_2 (bzA_2 (by omega)).symm).symm), (fun h => absurd h (by decide)), (fun _ => ⟨rfl, rfl, rfl⟩), rfl⟩ (by omega) (by omega) dMo_explode_66
        · refine lv_iconst (v := zI 0) C.1 C.2.1 dMo_explode_51 (by decide) ?_
          refine lv_goto (tgt := 56) C.1 C.2.1 dMo_explode_52 (by decide) ?_
          refine zput C hW 1 0 tyMo tyMo_ok nmMo rfl rfl inMo (by decide) flMo_93 rfl rfl rfl rfl (Nat.le_of_ble_eq_true rfl) dMo_explode_56 (fun H locs hW => ?_)
          have hW : zw D zCl A s [(at_, .inl (cL, 72, .inr (.inl (fL To)))), (m0, .inr (10, [.int (zI 0), .long (zL wi), .long (zL hi), .int (zI bn), .ref af, .ref at_, .int (zI dr), .int (zI sz), .ref au, .ref ap, .ref ab, .ref ae, .ref ah, .int (zI kp), .int (zI ks), .ref ku, .ref kq, .ref kb, .ref ke, .ref kh, .int (zI als), .ref gf, .ref gt, .int (zI ses), .ref sf, .ref st, .int (zI les), .ref ef, .ref et, .int (zI mes), .ref xa, .ref xf, .ref xt, .ref xr, .ref lb, .int (zI lbs), .ref so])), (af, .inl (cL, 72, .inr (.inl (fL From))))] H locs := hW
          refine lv_aload_n C.1 C.2.1 dMo_explode_59 rfl (lv_at hl 1 rfl) ?_
          refine zget C hW 1 0 rfl rfl inMo (by decide) flMo_93 rfl dMo_explode_60 ?_
          refine zif_le (tgt := 67) C (by omega) dMo_explode_63 (by decide) (fun c63 => ?_) (fun c63 => ?_)
          · have hg0 := mGo_s ((bz_eq1 _).mpr c22)
            have hg1 := mGo_s ((bz_eq1 _).mpr c35)
            have hg2 := mGo_s ((bz_eq1 _).mpr c48)
            refine lv_aload_n C.1 C.2.1 dMo_explode_67 rfl (lv_at hl 1 rfl) ?_
            refine zget C hW 1 4 rfl rfl inMo (by decide) flMo_7 rfl dMo_explode_68 ?_
            refine lv_iload C.1 C.2.1 dMo_explode_71 (lv_at hl 0 rfl) ?_
            refine lv_aload_n C.1 C.2.1 dMo_explode_73 rfl (lv_at hl 1 rfl) ?_
            refine zget C hW 1 4 rfl rfl inMo (by decide) flMo_7 rfl dMo_explode_74 ?_
            refine lv_iload C.1 C.2.1 dMo_explode_77 (lv_at hl 0 rfl) ?_
            refine zlald C hW 2 2 rfl rfl (by omega) (by omega) (by decide) dMo_explode_79 ?_
            have hb4 := bFrom (3 * bx)
            refine lv_lload_n C.1 C.2.1 dMo_explode_80 rfl (lv_at hl 3 rfl) ?_
            refine zladd C dMo_explode_81 ?_
            refine zlast C hW 2 2 rfl rfl (by omega) (by omega) (by decide) dMo_explode_82 (fun H locs hW => ?_)
            have hB5 : ∀ jj : Int, I64 ((upz From (3 * bx) ((From (3 * bx)) + px)) jj) := upz_bL bFrom (by omega)
            have hW : zw D zCl A s [(at_, .inl (cL, 72, .inr (.inl (fL To)))), (m0, .inr (10, [.int (zI 0), .long (zL wi), .long (zL hi), .int (zI bn), .ref af, .ref at_, .int (zI dr), .int (zI sz), .ref au, .ref ap, .ref ab, .ref ae, .ref ah, .int (zI kp), .int (zI ks), .ref ku, .ref kq, .ref kb, .ref ke, .ref kh, .int (zI als), .ref gf, .ref gt, .int (zI ses), .ref sf, .ref st, .int (zI les), .ref ef, .ref et, .int (zI mes), .ref xa, .ref xf, .ref xt, .ref xr, .ref lb, .int (zI lbs), .ref so])), (af, .inl (cL, 72, .inr (.inl (fL (upz From (3 * bx) ((From (3 * bx)) + px))))))] H locs := hW
            refine lv_aload_n C.1 C.2.1 dMo_explode_83 rfl (lv_at hl 1 rfl) ?_
            refine zget C hW 1 5 rfl rfl inMo (by decide) flMo_13 rfl dMo_explode_84 ?_
            refine lv_iload C.1 C.2.1 dMo_explode_87 (lv_at hl 0 rfl) ?_
            refine lv_aload_n C.1 C.2.1 dMo_explode_89 rfl (lv_at hl 1 rfl) ?_
            refine zget C hW 1 5 rfl rfl inMo (by decide) flMo_13 rfl dMo_explode_90 ?_
            refine lv_iload C.1 C.2.1 dMo_explode_93 (lv_at hl 0 rfl) ?_
            refine zlald C hW 0 2 rfl rfl (by omega) (by omega) (by decide) dMo_explode_95 ?_
            have hb6 := bTo (3 * bx)
            refine lv_lload_n C.1 C.2.1 dMo_explode_96 rfl (lv_at hl 3 rfl) ?_
            refine zladd C dMo_explode_97 ?_
            refine zlast C hW 0 2 rfl rfl (by omega) (by omega) (by decide) dMo_explode_98 (fun H locs hW => ?_)
            have hB7 : ∀ jj : Int, I64 ((upz To (3 * bx) ((To (3 * bx)) + px)) jj) := upz_bL bTo (by omega)
            have hW : zw D zCl A s [(at_, .inl (cL, 72, .inr (.inl (fL (upz To (3 * bx) ((To (3 * bx)) + px)))))), (m0, .inr (10, [.int (zI 0), .long (zL wi), .long (zL hi), .int (zI bn), .ref af, .ref at_, .int (zI dr), .int (zI sz), .ref au, .ref ap, .ref ab, .ref ae, .ref ah, .int (zI kp), .int (zI ks), .ref ku, .ref kq, .ref kb, .ref ke, .ref kh, .int (zI als), .ref gf, .ref gt, .int (zI ses), .ref sf, .ref st, .int (zI les), .ref ef, .ref et, .int (zI mes), .ref xa, .ref xf, .ref xt, .ref xr, .ref lb, .int (zI lbs), .ref so])), (af, .inl (cL, 72, .inr (.inl (fL (upz From (3 * bx) ((From (3 * bx)) + px))))))] H locs := hW
            refine lv_aload_n C.1 C.2.1 dMo_explode_99 rfl (lv_at hl 1 rfl) ?_
            refine zget C hW 1 4 rfl rfl inMo (by decide) flMo_7 rfl dMo_explode_100 ?_
            refine lv_iload C.1 C.2.1 dMo_explode_103 (lv_at hl 0 rfl) ?_
            refine lv_iconst (v := zI 1) C.1 C.2.1 dMo_explode_105 (by decide) ?_
            refine ziadd C dMo_explode_106 ?_
            refine lv_aload_n C.1 C.2.1 dMo_explode_107 rfl (lv_at hl 1 rfl) ?_
            refine zget C hW 1 4 rfl rfl inMo (by decide) flMo_7 rfl dMo_explode_108 ?_
            refine lv_iload C.1 C.2.1 dMo_explode_111 (lv_at hl 0 rfl) ?_
            refine lv_iconst (v := zI 1) C.1 C.2.1 dMo_explode_113 (by decide) ?_
            refine ziadd C dMo_explode_114 ?_
            refine zlald C hW 2 2 rfl rfl (by omega) (by omega) (by decide) dMo_explode_115 ?_
            have hb8 := hB5 ((3 * bx) + 1)
            refine lv_lload C.1 C.2.1 dMo_explode_116 (lv_at hl 4 rfl) ?_
            refine zladd C dMo_explode_118 ?_
            have e_af1 : (upz From (3 * bx) ((From (3 * bx)) + px)) (3 * bx + 1) = From (3 * bx + 1) := by rw [upz_n (by omega)]
            refine zlast C hW 2 2 rfl rfl (by omega) (by omega) (by decide) dMo_explode_119 (fun H locs hW => ?_)
            have hB9 : ∀ jj : Int, I64 ((upz (upz From (3 * bx) ((From (3 * bx)) + px)) ((3 * bx) + 1) (((upz From (3 * bx) ((From (3 * bx)) + px)) ((3 * bx) + 1)) + py)) jj) := upz_bL hB5 (by omega)
            have hW : zw D zCl A s [(at_, .inl (cL, 72, .inr (.inl (fL (upz To (3 * bx) ((To (3 * bx)) + px)))))), (m0, .inr (10, [.int (zI 0), .long (zL wi), .long (zL hi), .int (zI bn), .ref af, .ref at_, .int (zI dr), .int (zI sz), .ref au, .ref ap, .ref ab, .ref ae, .ref ah, .int (zI kp), .int (zI ks), .ref ku, .ref kq, .ref kb, .ref ke, .ref kh, .int (zI als), .ref gf, .ref gt, .int (zI ses), .ref sf, .ref st, .int (zI les), .ref ef, .ref et, .int (zI mes), .ref xa, .ref xf, .ref xt, .ref xr, .ref lb, .int (zI lbs), .ref so])), (af, .inl (cL, 72, .inr (.inl (fL (upz (upz From (3 * bx) ((From (3 * bx)) + px)) ((3 * bx) + 1) (((upz From (3 * bx) ((From (3 * bx)) + px)) ((3 * bx) + 1)) + py))))))] H locs := hW
            refine lv_aload_n C.1 C.2.1 dMo_explode_120 rfl (lv_at hl 1 rfl) ?_
            refine zget C hW 1 5 rfl rfl inMo (by decide) flMo_13 rfl dMo_explode_121 ?_
            refine lv_iload C.1 C.2.1 dMo_explode_124 (lv_at hl 0 rfl) ?_
            refine lv_iconst (v := zI 1) C.1 C.2.1 dMo_explode_126 (by decide) ?_
            refine ziadd C dMo_explode_127 ?_
            refine lv_aload_n C.1 C.2.1 dMo_explode_128 rfl (lv_at hl 1 rfl) ?_
            refine zget C hW 1 5 rfl rfl inMo (by decide) flMo_13 rfl dMo_explode_129 ?_
            refine lv_iload C.1 C.2.1 dMo_explode_132 (lv_at hl 0 rfl) ?_
            refine lv_iconst (v := zI 1) C.1 C.2.1 dMo_explode_134 (by decide) ?_
            refine ziadd C dMo_explode_135 ?_
            refine zlald C hW 0 2 rfl rfl (by omega) (by omega) (by decide) dMo_explode_136 ?_
            have hb10 := hB7 ((3 * bx) + 1)
            refine lv_lload C.1 C.2.1 dMo_explode_137 (lv_at hl 4 rfl) ?_
            refine zladd C dMo_explode_139 ?_
            have e_at_1 : (upz To (3 * bx) ((To (3 * bx)) + px)) (3 * bx + 1) = To (3 * bx + 1) := by rw [upz_n (by omega)]
            refine zlast C hW 0 2 rfl rfl (by omega) (by omega) (by decide) dMo_explode_140 (fun H locs hW => ?_)
            have hB11 : ∀ jj : Int, I64 ((upz (upz To (3 * bx) ((To (3 * bx)) + px)) ((3 * bx) + 1) (((upz To (3 * bx) ((To (3 * bx)) + px)) ((3 * bx) + 1)) + py)) jj) := upz_bL hB7 (by omega)
            have hW : zw D zCl A s [(at_, .inl (cL, 72, .inr (.inl (fL (upz (upz To (3 * bx) ((To (3 * bx)) + px)) ((3 * bx) + 1) (((upz To (3 * bx) ((To (3 * bx)) + px)) ((3 * bx) + 1)) + py)))))), (m0, .inr (10, [.int (zI 0), .long (zL wi), .long (zL hi), .int (zI bn), .ref af, .ref at_, .int (zI dr), .int (zI sz), .ref au, .ref ap, .ref ab, .ref ae, .ref ah, .int (zI kp), .int (zI ks), .ref ku, .ref kq, .ref kb, .ref ke, .ref kh, .int (zI als), .ref gf, .ref gt, .int (zI ses), .ref sf, .ref st, .int (zI les), .ref ef, .ref et, .int (zI mes), .ref xa, .ref xf, .ref xt, .ref xr, .ref lb, .int (zI lbs), .ref so])), (af, .inl (cL, 72, .inr (.inl (fL (upz (upz From (3 * bx) ((From (3 * bx)) + px)) ((3 * bx) + 1) (((upz From (3 * bx) ((From (3 * bx)) + px)) ((3 * bx) + 1)) + py))))))] H locs := hW
            refine lv_aload_n C.1 C.2.1 dMo_explode_141 rfl (lv_at hl 1 rfl) ?_
            refine zget C hW 1 4 rfl rfl inMo (by decide) flMo_7 rfl dMo_explode_142 ?_
            refine lv_iload C.1 C.2.1 dMo_explode_145 (lv_at hl 0 rfl) ?_
            refine lv_iconst (v := zI 2) C.1 C.2.1 dMo_explode_147 (by decide) ?_
            refine ziadd C dMo_explode_148 ?_
            refine lv_aload_n C.1 C.2.1 dMo_explode_149 rfl (lv_at hl 1 rfl) ?_
            refine zget C hW 1 4 rfl rfl inMo (by decide) flMo_7 rfl dMo_explode_150 ?_
            refine lv_iload C.1 C.2.1 dMo_explode_153 (lv_at hl 0 rfl) ?_
            refine lv_iconst (v := zI 2) C.1 C.2.1 dMo_explode_155 (by decide) ?_
            refine ziadd C dMo_explode_156 ?_
            refine zlald C hW 2 2 rfl rfl (by omega) (by omega) (by decide) dMo_explode_157 ?_
            have hb12 := hB9 ((3 * bx) + 2)
            refine lv_lload C.1 C.2.1 dMo_explode_158 (lv_at hl 5 rfl) ?_
            refine zladd C dMo_explode_160 ?_
            have e_af2 : (upz (upz From (3 * bx) ((From (3 * bx)) + px)) ((3 * bx) + 1) (((upz From (3 * bx) ((From (3 * bx)) + px)) ((3 * bx) + 1)) + py)) (3 * bx + 2) = From (3 * bx + 2) := by rw [upz_n (by omega), upz_n (by omega)]
            refine zlast C hW 2 2 rfl rfl (by omega) (by omega) (by decide) dMo_explode_161 (fun H locs hW => ?_)
            have hB13 : ∀ jj : Int, I64 ((upz (upz (upz From (3 * bx) ((From (3 * bx)) + px)) ((3 * bx) + 1) (((upz From (3 * bx) ((From (3 * bx)) + px)) ((3 * bx) + 1)) + py)) ((3 * bx) + 2) (((upz (upz From (3 * bx) ((From (3 * bx)) + px)) ((3 * bx) + 1) (((upz From (3 * bx) ((From (3 * bx)) + px)) ((3 * bx) + 1)) + py)) ((3 * bx) + 2)) + pz)) jj) := upz_bL hB9 (by omega)
            have hW : zw D zCl A s [(at_, .inl (cL, 72, .inr (.inl (fL (upz (upz To (3 * bx) ((To (3 * bx)) + px)) ((3 * bx) + 1) (((upz To (3 * bx) ((To (3 * bx)) + px)) ((3 * bx) + 1)) + py)))))), (m0, .inr (10, [.int (zI 0), .long (zL wi), .long (zL hi), .int (zI bn), .ref af, .ref at_, .int (zI dr), .int (zI sz), .ref au, .ref ap, .ref ab, .ref ae, .ref ah, .int (zI kp), .int (zI ks), .ref ku, .ref kq, .ref kb, .ref ke, .ref kh, .int (zI als), .ref gf, .ref gt, .int (zI ses), .ref sf, .ref st, .int (zI les), .ref ef, .ref et, .int (zI mes), .ref xa, .ref xf, .ref xt, .ref xr, .ref lb, .int (zI lbs), .ref so])), (af, .inl (cL, 72, .inr (.inl (fL (upz (upz (upz From (3 * bx) ((From (3 * bx)) + px)) ((3 * bx) + 1) (((upz From (3 * bx) ((From (3 * bx)) + px)) ((3 * bx) + 1)) + py)) ((3 * bx) + 2) (((upz (upz From (3 * bx) ((From (3 * bx)) + px)) ((3 * bx) + 1) (((upz From (3 * bx) ((From (3 * bx)) + px)) ((3 * bx) + 1)) + py)) ((3 * bx) + 2)) + pz))))))] H locs := hW
            refine lv_aload_n C.1 C.2.1 dMo_explode_162 rfl (lv_at hl 1 rfl) ?_
            refine zget C hW 1 5 rfl rfl inMo (by decide) flMo_13 rfl dMo_explode_163 ?_
            refine lv_iload C.1 C.2.1 dMo_explode_166 (lv_at hl 0 rfl) ?_
            refine lv_iconst (v := zI 2) C.1 C.2.1 dMo_explode_168 (by decide) ?_
            refine ziadd C dMo_explode_169 ?_
            refine lv_aload_n C.1 C.2.1 dMo_explode_170 rfl (lv_at hl 1 rfl) ?_
            refine zget C hW 1 5 rfl rfl inMo (by decide) flMo_13 rfl dMo_explode_171 ?_
            refine lv_iload C.1 C.2.1 dMo_explode_174 (lv_at hl 0 rfl) ?_
            refine lv_iconst (v := zI 2) C.1 C.2.1 dMo_explode_176 (by decide) ?_
            refine ziadd C dMo_explode_177 ?_
            refine zlald C hW 0 2 rfl rfl (by omega) (by omega) (by decide) dMo_explode_178 ?_
            have hb14 := hB11 ((3 * bx) + 2)
            refine lv_lload C.1 C.2.1 dMo_explode_179 (lv_at hl 5 rfl) ?_
            refine zladd C dMo_explode_181 ?_
            have e_at_2 : (upz (upz To (3 * bx) ((To (3 * bx)) + px)) ((3 * bx) + 1) (((upz To (3 * bx) ((To (3 * bx)) + px)) ((3 * bx) + 1)) + py)) (3 * bx + 2) = To (3 * bx + 2) := by rw [upz_n (by omega), upz_n (by omega)]
            refine zlast C hW 0 2 rfl rfl (by omega) (by omega) (by decide) dMo_explode_182 (fun H locs hW => ?_)
            have hB15 : ∀ jj : Int, I64 ((upz (upz (upz To (3 * bx) ((To (3 * bx)) + px)) ((3 * bx) + 1) (((upz To (3 * bx) ((To (3 * bx)) + px)) ((3 * bx) + 1)) + py)) ((3 * bx) + 2) (((upz (upz To (3 * bx) ((To (3 * bx)) + px)) ((3 * bx) + 1) (((upz To (3 * bx) ((To (3 * bx)) + px)) ((3 * bx) + 1)) + py)) ((3 * bx) + 2)) + pz)) jj) := upz_bL hB11 (by omega)
            have hW : zw D zCl A s [(at_, .inl (cL, 72, .inr (.inl (fL (upz (upz (upz To (3 * bx) ((To (3 * bx)) + px)) ((3 * bx) + 1) (((upz To (3 * bx) ((To (3 * bx)) + px)) ((3 * bx) + 1)) + py)) ((3 * bx) + 2) (((upz (upz To (3 * bx) ((To (3 * bx)) + px)) ((3 * bx) + 1) (((upz To (3 * bx) ((To (3 * bx)) + px)) ((3 * bx) + 1)) + py)) ((3 * bx) + 2)) + pz)))))), (m0, .inr (10, [.int (zI 0), .long (zL wi), .long (zL hi), .int (zI bn), .ref af, .ref at_, .int (zI dr), .int (zI sz), .ref au, .ref ap, .ref ab, .ref ae, .ref ah, .int (zI kp), .int (zI ks), .ref ku, .ref kq, .ref kb, .ref ke, .ref kh, .int (zI als), .ref gf, .ref gt, .int (zI ses), .ref sf, .ref st, .int (zI les), .ref ef, .ref et, .int (zI mes), .ref xa, .ref xf, .ref xt, .ref xr, .ref lb, .int (zI lbs), .ref so])), (af, .inl (cL, 72, .inr (.inl (fL (upz (upz (upz From (3 * bx) ((From (3 * bx)) + px)) ((3 * bx) + 1) (((upz From (3 * bx) ((From (3 * bx)) + px)) ((3 * bx) + 1)) + py)) ((3 * bx) + 2) (((upz (upz From (3 * bx) ((From (3 * bx)) + px)) ((3 * bx) + 1) (((upz From (3 * bx) ((From (3 * bx)) + px)) ((3 * bx) + 1)) + py)) ((3 * bx) + 2)) + pz))))))] H locs := hW
            refine lv_aload_n C.1 C.2.1 dMo_explode_183 rfl (lv_at hl 1 rfl) ?_
            refine lv_iconst (v := zI 0) C.1 C.2.1 dMo_explode_184 (by decide) ?_
            refine zput C hW 1 6 tyMo tyMo_ok nmMo rfl rfl inMo (by decide) flMo_108 rfl rfl (by decide) (by decide) (Nat.le_of_ble_eq_true rfl) dMo_explode_185 (fun H locs hW => ?_)
            have hW : zw D zCl A s [(at_, .inl (cL, 72, .inr (.inl (fL (upz (upz (upz To (3 * bx) ((To (3 * bx)) + px)) ((3 * bx) + 1) (((upz To (3 * bx) ((To (3 * bx)) + px)) ((3 * bx) + 1)) + py)) ((3 * bx) + 2) (((upz (upz To (3 * bx) ((To (3 * bx)) + px)) ((3 * bx) + 1) (((upz To (3 * bx) ((To (3 * bx)) + px)) ((3 * bx) + 1)) + py)) ((3 * bx) + 2)) + pz)))))), (m0, .inr (10, [.int (zI 0), .long (zL wi), .long (zL hi), .int (zI bn), .ref af, .ref at_, .int (zI 0), .int (zI sz), .ref au, .ref ap, .ref ab, .ref ae, .ref ah, .int (zI kp), .int (zI ks), .ref ku, .ref kq, .ref kb, .ref ke, .ref kh, .int (zI als), .ref gf, .ref gt, .int (zI ses), .ref sf, .ref st, .int (zI les), .ref ef, .ref et, .int (zI mes), .ref xa, .ref xf, .ref xt, .ref xr, .ref lb, .int (zI lbs), .ref so])), (af, .inl (cL, 72, .inr (.inl (fL (upz (upz (upz From (3 * bx) ((From (3 * bx)) + px)) ((3 * bx) + 1) (((upz From (3 * bx) ((From (3 * bx)) + px)) ((3 * bx) + 1)) + py)) ((3 * bx) + 2) (((upz (upz From (3 * bx) ((From (3 * bx)) + px)) ((3 * bx) + 1) (((upz From (3 * bx) ((From (3 * bx)) + px)) ((3 * bx) + 1)) + py)) ((3 * bx) + 2)) + pz))))))] H locs := hW
            have hW : zw D zCl A s [(m0, .inr (10, [.int (zI 0), .long (zL wi), .long (zL hi), .int (zI bn), .ref af, .ref at_, .int (zI 0), .int (zI sz), .ref au, .ref ap, .ref ab, .ref ae, .ref ah, .int (zI kp), .int (zI ks), .ref ku, .ref kq, .ref kb, .ref ke, .ref kh, .int (zI als), .ref gf, .ref gt, .int (zI ses), .ref sf, .ref st, .int (zI les), .ref ef, .ref et, .int (zI mes), .ref xa, .ref xf, .ref xt, .ref xr, .ref lb, .int (zI lbs), .ref so])), (af, .inl (cL, 72, .inr (.inl (fL (upz (upz (upz From (3 * bx) ((From (3 * bx)) + px)) ((3 * bx) + 1) (((upz From (3 * bx) ((From (3 * bx)) + px)) ((3 * bx) + 1)) + py)) ((3 * bx) + 2) (((upz (upz From (3 * bx) ((From (3 * bx)) + px)) ((3 * bx) + 1) (((upz From (3 * bx) ((From (3 * bx)) + px)) ((3 * bx) + 1)) + py)) ((3 * bx) + 2)) + pz)))))), (at_, .inl (cL, 72, .inr (.inl (fL (upz (upz (upz To (3 * bx) ((To (3 * bx)) + px)) ((3 * bx) + 1) (((upz To (3 * bx) ((To (3 * bx)) + px)) ((3 * bx) + 1)) + py)) ((3 * bx) + 2) (((upz (upz To (3 * bx) ((To (3 * bx)) + px)) ((3 * bx) + 1) (((upz To (3 * bx) ((To (3 * bx)) + px)) ((3 * bx) + 1)) + py)) ((3 * bx) + 2)) + pz))))))] H locs := zwp hW [1, 2, 0] rfl (by decide)
            exact hQ _ H locs _ _ _ ls hW ⟨_, _, _, _, hB13, hB15, deC_0 hnb (by rw [← bzA_t (by omega) (by rw [← bzA_t (by omega) (by omega)]; decide)]; decide), (fun _ => ⟨rfl, ⟨by rw [upz_n (by omega), upz_n (by omega), upz_s], by rw [upz_n (by omega), upz_s, upz_n (by omega)], by rw [upz_s, upz_n (by omega), upz_n (by omega)], fun j h1 h2 h3 => by rw [upz_n h3, upz_n h2, upz_n h1]⟩, ⟨by rw [upz_n (by omega), upz_n (by omega), upz_s], by rw [upz_n (by omega), upz_s, upz_n (by omega)], by rw [upz_s, upz_n (by omega), upz_n (by omega)], fun j h1 h2 h3 => by rw [upz_n h3, upz_n h2, upz_n h1]⟩⟩), (fun h => absurd rfl h), rfl⟩ (by omega) (by omega) dMo_explode_188
          · exact absurd c63 (by decide)
  · have hW : zw D zCl A s [(m0, .inr (10, [.int (zI (noB bn bx)), .long (zL wi), .long (zL hi), .int (zI bn), .ref af, .ref at_, .int (zI dr), .int (zI sz), .ref au, .ref ap, .ref ab, .ref ae, .ref ah, .int (zI kp), .int (zI ks), .ref ku, .ref kq, .ref kb, .ref ke, .ref kh, .int (zI als), .ref gf, .ref gt, .int (zI ses), .ref sf, .ref st, .int (zI les), .ref ef, .ref et, .int (zI mes), .ref xa, .ref xf, .ref xt, .ref xr, .ref lb, .int (zI lbs), .ref so])), (af, .inl (cL, 72, .inr (.inl (fL From)))), (at_, .inl (cL, 72, .inr (.inl (fL To))))] H locs := zwp hW [2, 0, 1] rfl (by decide)
    exact hQ _ H locs _ _ _ ls hW ⟨_, dr, From, To, bFrom, bTo, deC_1 (by omega), (fun h => by omega), (fun _ => ⟨rfl, rfl, rfl⟩), rfl⟩ (by omega) (by omega) dMo_explode_8
set_option maxHeartbeats 4000000 in
set_option maxRecDepth 100000 in
theorem m_row (l : Launch) (D : va_G) (cI cG cL cB : ClassId) (m0 : Nat) (cd : Int) (wi : Int) (hi : Int) (bn : Int) (af : Nat) (at_ : Nat) (dr : Int) (sz : Int) (au : Nat) (ap : Nat) (ab : Nat) (ae : Nat) (ah : Nat) (kp : Int) (ks : Int) (ku : Nat) (kq : Nat) (kb : Nat) (ke : Nat) (kh : Nat) (als : Int) (gf : Nat) (gt : Nat) (ses : Int) (sf : Nat) (st : Nat) (les : Int) (ef : Nat) (et : Nat) (mes : Int) (xa : Nat) (xf : Nat) (xt : Nat) (xr : Nat) (lb : Nat) (lbs : Int) (so : Nat) (Rws : Int → Int) (k : Int) (bRws : ∀ j : Int, I32 (Rws j)) (hms0 : 0 ≤ mes) (hms1 : mes ≤ 30) (hIk : I32 k) : Ci l yMo_row cMo_row 2 (some .int) 0 0 0 D zCl (zT cI cG cL cB) [.ref m0, .int (zI k)] [(m0, .inr (10, [.int (zI cd), .long (zL wi), .long (zL hi), .int (zI bn), .ref af, .ref at_, .int (zI dr), .int (zI sz), .ref au, .ref ap, .ref ab, .ref ae, .ref ah, .int (zI kp), .int (zI ks), .ref ku, .ref kq, .ref kb, .ref ke, .ref kh, .int (zI als), .ref gf, .ref gt, .int (zI ses), .ref sf, .ref st, .int (zI les), .ref ef, .ref et, .int (zI mes), .ref xa, .ref xf, .ref xt, .ref xr, .ref lb, .int (zI lbs), .ref so])), (xr, .inl (cI, 30, .inl (fI Rws)))] (fun x w => ∃ cd2 : Int, ∃ r2 : Int, (cd2 = noB mes k) ∧ (cd2 = 0 → r2 = Rws k) ∧ x = zI r2 ∧ w = [(m0, .inr (10, [.int (zI cd2), .long (zL wi), .long (zL hi), .int (zI bn), .ref af, .ref at_, .int (zI dr), .int (zI sz), .ref au, .ref ap, .ref ab, .ref ae, .ref ah, .int (zI kp), .int (zI ks), .ref ku, .ref kq, .ref kb, .ref ke, .ref kh, .int (zI als), .ref gf, .ref gt, .int (zI ses), .ref sf, .ref st, .int (zI les), .ref ef, .ref et, .int (zI mes), .ref xa, .ref xf, .ref xt, .ref xr, .ref lb, .int (zI lbs), .ref so])), (xr, .inl (cI, 30, .inl (fI Rws)))]) := by
  refine zBi (by decide) (Nat.le_of_ble_eq_true rfl) ?_
  intro p e s m args below meth c ls A H locs Q C hin hl hW hQ
  have hl : lv_has ls 2 [(0, .ref m0), (1, .int (zI k))] := hl
  refine lv_aload_n C.1 C.2.1 dMo_row_0 rfl (lv_at hl 0 rfl) ?_
  refine lv_iload_n C.1 C.2.1 dMo_row_1 rfl (lv_at hl 1 rfl) ?_
  refine zif_lt (tgt := 13) C (by omega) dMo_row_2 (by decide) (fun c2 => ?_) (fun c2 => ?_)
  · refine lv_iconst (v := zI 1) C.1 C.2.1 dMo_row_13 (by decide) ?_
    refine lv_goto (tgt := 18) C.1 C.2.1 dMo_row_14 (by decide) ?_
    refine zput C hW 0 0 tyMo tyMo_ok nmMo rfl rfl inMo (by decide) flMo_93 rfl rfl rfl rfl (Nat.le_of_ble_eq_true rfl) dMo_row_18 (fun H locs hW => ?_)
    have hW : zw D zCl A s [(m0, .inr (10, [.int (zI 1), .long (zL wi), .long (zL hi), .int (zI bn), .ref af, .ref at_, .int (zI dr), .int (zI sz), .ref au, .ref ap, .ref ab, .ref ae, .ref ah, .int (zI kp), .int (zI ks), .ref ku, .ref kq, .ref kb, .ref ke, .ref kh, .int (zI als), .ref gf, .ref gt, .int (zI ses), .ref sf, .ref st, .int (zI les), .ref ef, .ref et, .int (zI mes), .ref xa, .ref xf, .ref xt, .ref xr, .ref lb, .int (zI lbs), .ref so])), (xr, .inl (cI, 30, .inl (fI Rws)))] H locs := hW
    refine lv_aload_n C.1 C.2.1 dMo_row_21 rfl (lv_at hl 0 rfl) ?_
    refine zget C hW 0 0 rfl rfl inMo (by decide) flMo_93 rfl dMo_row_22 ?_
    refine zif_le (tgt := 32) C (by omega) dMo_row_25 (by decide) (fun c25 => ?_) (fun c25 => ?_)
    · exact absurd c25 (by decide)
    · refine lv_iconst (v := zI 0) C.1 C.2.1 dMo_row_28 (by decide) ?_
      refine lv_goto (tgt := 38) C.1 C.2.1 dMo_row_29 (by decide) ?_
      exact hQ (zI 0) _ H locs _ _ _ ls hW ⟨_, _, (by unfold noB; rw [if_neg (by omega)]), (fun h => absurd h (by decide)), rfl, rfl⟩ (by omega) (by omega) dMo_row_38
  · refine lv_iload_n C.1 C.2.1 dMo_row_5 rfl (lv_at hl 1 rfl) ?_
    refine lv_aload_n C.1 C.2.1 dMo_row_6 rfl (lv_at hl 0 rfl) ?_
    refine zget C hW 0 29 rfl rfl inMo (by decide) flMo_199 rfl dMo_row_7 ?_
    refine zicmp_lt (tgt := 17) C (by omega) (by omega) dMo_row_10 (by decide) (fun c10 => ?_) (fun c10 => ?_)
    · refine lv_iconst (v := zI 0) C.1 C.2.1 dMo_row_17 (by decide) ?_
      refine zput C hW 0 0 tyMo tyMo_ok nmMo rfl rfl inMo (by decide) flMo_93 rfl rfl rfl rfl (Nat.le_of_ble_eq_true rfl) dMo_row_18 (fun H locs hW => ?_)
      have hW : zw D zCl A s [(m0, .inr (10, [.int (zI 0), .long (zL wi), .long (zL hi), .int (zI bn), .ref af, .ref at_, .int (zI dr), .int (zI sz), .ref au, .ref ap, .ref ab, .ref ae, .ref ah, .int (zI kp), .int (zI ks), .ref ku, .ref kq, .ref kb, .ref ke, .ref kh, .int (zI als), .ref gf, .ref gt, .int (zI ses), .ref sf, .ref st, .int (zI les), .ref ef, .ref et, .int (zI mes), .ref xa, .ref xf, .ref xt, .ref xr, .ref lb, .int (zI lbs), .ref so])), (xr, .inl (cI, 30, .inl (fI Rws)))] H locs := hW
      refine lv_aload_n C.1 C.2.1 dMo_row_21 rfl (lv_at hl 0 rfl) ?_
      refine zget C hW 0 0 rfl rfl inMo (by decide) flMo_93 rfl dMo_row_22 ?_
      refine zif_le (tgt := 32) C (by omega) dMo_row_25 (by decide) (fun c25 => ?_) (fun c25 => ?_)
      · refine lv_aload_n C.1 C.2.1 dMo_row_32 rfl (lv_at hl 0 rfl) ?_
        refine zget C hW 0 33 rfl rfl inMo (by decide) flMo_74 rfl dMo_row_33 ?_
        refine lv_iload_n C.1 C.2.1 dMo_row_36 rfl (lv_at hl 1 rfl) ?_
        refine ziald C hW 1 0 rfl rfl (by omega) (by omega) (by decide) dMo_row_37 ?_
        have hb1 := bRws k
        exact hQ (zI (Rws k)) _ H locs _ _ _ ls hW ⟨_, _, (noB_t (by omega)).symm, (fun _ => rfl), rfl, rfl⟩ (by omega) (by omega) dMo_row_38
      · exact absurd c25 (by decide)
    · refine lv_iconst (v := zI 1) C.1 C.2.1 dMo_row_13 (by decide) ?_
      refine lv_goto (tgt := 18) C.1 C.2.1 dMo_row_14 (by decide) ?_
      refine zput C hW 0 0 tyMo tyMo_ok nmMo rfl rfl inMo (by decide) flMo_93 rfl rfl rfl rfl (Nat.le_of_ble_eq_true rfl) dMo_row_18 (fun H locs hW => ?_)
      have hW : zw D zCl A s [(m0, .inr (10, [.int (zI 1), .long (zL wi), .long (zL hi), .int (zI bn), .ref af, .ref at_, .int (zI dr), .int (zI sz), .ref au, .ref ap, .ref ab, .ref ae, .ref ah, .int (zI kp), .int (zI ks), .ref ku, .ref kq, .ref kb, .ref ke, .ref kh, .int (zI als), .ref gf, .ref gt, .int (zI ses), .ref sf, .ref st, .int (zI les), .ref ef, .ref et, .int (zI mes), .ref xa, .ref xf, .ref xt, .ref xr, .ref lb, .int (zI lbs), .ref so])), (xr, .inl (cI, 30, .inl (fI Rws)))] H locs := hW
      refine lv_aload_n C.1 C.2.1 dMo_row_21 rfl (lv_at hl 0 rfl) ?_
      refine zget C hW 0 0 rfl rfl inMo (by decide) flMo_93 rfl dMo_row_22 ?_
      refine zif_le (tgt := 32) C (by omega) dMo_row_25 (by decide) (fun c25 => ?_) (fun c25 => ?_)
      · exact absurd c25 (by decide)
      · refine lv_iconst (v := zI 0) C.1 C.2.1 dMo_row_28 (by decide) ?_
        refine lv_goto (tgt := 38) C.1 C.2.1 dMo_row_29 (by decide) ?_
        exact hQ (zI 0) _ H locs _ _ _ ls hW ⟨_, _, (by unfold noB; rw [if_neg (by omega)]), (fun h => absurd h (by decide)), rfl, rfl⟩ (by omega) (by omega) dMo_row_38
set_option maxHeartbeats 4000000 in
set_option maxRecDepth 100000 in
theorem m_total (l : Launch) (D : va_G) (cI cG cL cB : ClassId) (m0 : Nat) (cd : Int) (wi : Int) (hi : Int) (bn : Int) (af : Nat) (at_ : Nat) (dr : Int) (sz : Int) (au : Nat) (ap : Nat) (ab : Nat) (ae : Nat) (ah : Nat) (kp : Int) (ks : Int) (ku : Nat) (kq : Nat) (kb : Nat) (ke : Nat) (kh : Nat) (als : Int) (gf : Nat) (gt : Nat) (ses : Int) (sf : Nat) (st : Nat) (les : Int) (ef : Nat) (et : Nat) (mes : Int) (xa : Nat) (xf : Nat) (xt : Nat) (xr : Nat) (lb : Nat) (lbs : Int) (so : Nat) (Axs : Int → Int) (MFr : Int → Int) (MTo : Int → Int) (Rws : Int → Int) (ax : Int) (ro : Int) (bAxs : ∀ j : Int, I32 (Axs j)) (bMFr : ∀ j : Int, I64 (MFr j)) (bMTo : ∀ j : Int, I64 (MTo j)) (bRws : ∀ j : Int, I32 (Rws j)) (hms0 : 0 ≤ mes) (hms1 : mes ≤ 30) (hIax : I32 ax) (hIro : I32 ro) : Cl l yMo_total cMo_total 6 (some .long) 0 0 0 D zCl (zT cI cG cL cB) [.ref m0, .int (zI ax), .int (zI ro)] [(m0, .inr (10, [.int (zI cd), .long (zL wi), .long (zL hi), .int (zI bn), .ref af, .ref at_, .int (zI dr), .int (zI sz), .ref au, .ref ap, .ref ab, .ref ae, .ref ah, .int (zI kp), .int (zI ks), .ref ku, .ref kq, .ref kb, .ref ke, .ref kh, .int (zI als), .ref gf, .ref gt, .int (zI ses), .ref sf, .ref st, .int (zI les), .ref ef, .ref et, .int (zI mes), .ref xa, .ref xf, .ref xt, .ref xr, .ref lb, .int (zI lbs), .ref so])), (xa, .inl (cI, 30, .inl (fI Axs))), (xf, .inl (cL, 30, .inr (.inl (fL MFr)))), (xt, .inl (cL, 30, .inr (.inl (fL MTo)))), (xr, .inl (cI, 30, .inl (fI Rws)))] (fun x w => ∃ cd2 : Int, ∃ r2 : Int, (cd2 = if 0 ≤ ax ∧ ax ≤ 2 ∧ 0 ≤ ro then 0 else 1) ∧ (cd2 = 0 → r2 = sumZ (lnT Axs Rws MFr MTo ax ro) mes) ∧ x = zL r2 ∧ w = [(m0, .inr (10, [.int (zI cd2), .long (zL wi), .long (zL hi), .int (zI bn), .ref af, .ref at_, .int (zI dr), .int (zI sz), .ref au, .ref ap, .ref ab, .ref ae, .ref ah, .int (zI kp), .int (zI ks), .ref ku, .ref kq, .ref kb, .ref ke, .ref kh, .int (zI als), .ref gf, .ref gt, .int (zI ses), .ref sf, .ref st, .int (zI les), .ref ef, .ref et, .int (zI mes), .ref xa, .ref xf, .ref xt, .ref xr, .ref lb, .int (zI lbs), .ref so])), (xa, .inl (cI, 30, .inl (fI Axs))), (xf, .inl (cL, 30, .inr (.inl (fL MFr)))), (xt, .inl (cL, 30, .inr (.inl (fL MTo)))), (xr, .inl (cI, 30, .inl (fI Rws)))]) := by
  refine zBl (by decide) (Nat.le_of_ble_eq_true rfl) ?_
  intro p e s m args below meth c ls A H locs Q C hin hl hW hQ
  have hl : lv_has ls 6 [(0, .ref m0), (1, .int (zI ax)), (2, .int (zI ro))] := hl
  refine lv_aload_n C.1 C.2.1 dMo_total_0 rfl (lv_at hl 0 rfl) ?_
  refine lv_iload_n C.1 C.2.1 dMo_total_1 rfl (lv_at hl 1 rfl) ?_
  have L19 : ∀ (v : Int), (v = if 0 ≤ ax ∧ ax ≤ 2 ∧ 0 ≤ ro then 0 else 1) → (v = 0 ∨ v = 1) → ∀ (ls : Array Slot) (H : Heap) (locs : List Loc), lv_has ls 6 [(0, .ref m0), (1, .int (zI ax)), (2, .int (zI ro))] → zw D zCl A s [(m0, .inr (10, [.int (zI cd), .long (zL wi), .long (zL hi), .int (zI bn), .ref af, .ref at_, .int (zI dr), .int (zI sz), .ref au, .ref ap, .ref ab, .ref ae, .ref ah, .int (zI kp), .int (zI ks), .ref ku, .ref kq, .ref kb, .ref ke, .ref kh, .int (zI als), .ref gf, .ref gt, .int (zI ses), .ref sf, .ref st, .int (zI les), .ref ef, .ref et, .int (zI mes), .ref xa, .ref xf, .ref xt, .ref xr, .ref lb, .int (zI lbs), .ref so])), (xa, .inl (cI, 30, .inl (fI Axs))), (xf, .inl (cL, 30, .inr (.inl (fL MFr)))), (xt, .inl (cL, 30, .inr (.inl (fL MTo)))), (xr, .inl (cI, 30, .inl (fI Rws)))] H locs → W p l e (zr 0 0 0) s m args below meth c H locs 0 0 Q (F0 m 19 ls [.int (zI v), .ref m0]) := by
    intro v hv hv2 ls H locs hl hW
    refine zput C hW 0 0 tyMo tyMo_ok nmMo rfl rfl inMo (by decide) flMo_93 rfl rfl rfl rfl (Nat.le_of_ble_eq_true rfl) dMo_total_19 (fun H locs hW => ?_)
    have hW : zw D zCl A s [(m0, .inr (10, [.int (zI v), .long (zL wi), .long (zL hi), .int (zI bn), .ref af, .ref at_, .int (zI dr), .int (zI sz), .ref au, .ref ap, .ref ab, .ref ae, .ref ah, .int (zI kp), .int (zI ks), .ref ku, .ref kq, .ref kb, .ref ke, .ref kh, .int (zI als), .ref gf, .ref gt, .int (zI ses), .ref sf, .ref st, .int (zI les), .ref ef, .ref et, .int (zI mes), .ref xa, .ref xf, .ref xt, .ref xr, .ref lb, .int (zI lbs), .ref so])), (xa, .inl (cI, 30, .inl (fI Axs))), (xf, .inl (cL, 30, .inr (.inl (fL MFr)))), (xt, .inl (cL, 30, .inr (.inl (fL MTo)))), (xr, .inl (cI, 30, .inl (fI Rws)))] H locs := hW
    refine lv_lconst (v := zL 0) C.1 C.2.1 dMo_total_22 (by decide) ?_
    refine lv_lstore_n (lv' := [(3, .long (zL 0)), (0, .ref m0), (1, .int (zI ax)), (2, .int (zI ro))]) C.1 C.2.1 dMo_total_23 rfl hl (by decide) rfl (fun ls hl => ?_)
    refine lv_iconst (v := zI 0) C.1 C.2.1 dMo_total_24 (by decide) ?_
    refine lv_istore (lv' := [(5, .int (zI 0)), (3, .long (zL 0)), (0, .ref m0), (1, .int (zI ax)), (2, .int (zI ro))]) C.1 C.2.1 dMo_total_25 hl (by decide) rfl (fun ls hl => ?_)
    have L27 : ∀ (N : Nat) (j : Int) (x_ : Int), (mes - j).toNat < N → (0 ≤ j) → (j ≤ mes) → (x_ = sumZ (lnT Axs Rws MFr MTo ax ro) j) → ∀ (ls : Array Slot) (H : Heap) (locs : List Loc), lv_has ls 6 [(5, .int (zI j)), (3, .long (zL x_)), (0, .ref m0), (1, .int (zI ax)), (2, .int (zI ro))] → zw D zCl A s [(m0, .inr (10, [.int (zI v), .long (zL wi), .long (zL hi), .int (zI bn), .ref af, .ref at_, .int (zI dr), .int (zI sz), .ref au, .ref ap, .ref ab, .ref ae, .ref ah, .int (zI kp), .int (zI ks), .ref ku, .ref kq, .ref kb, .ref ke, .ref kh, .int (zI als), .ref gf, .ref gt, .int (zI ses), .ref sf, .ref st, .int (zI les), .ref ef, .ref et, .int (zI mes), .ref xa, .ref xf, .ref xt, .ref xr, .ref lb, .int (zI lbs), .ref so])), (xa, .inl (cI, 30, .inl (fI Axs))), (xf, .inl (cL, 30, .inr (.inl (fL MFr)))), (xt, .inl (cL, 30, .inr (.inl (fL MTo)))), (xr, .inl (cI, 30, .inl (fI Rws)))] H locs → W p l e (zr 0 0 0) s m args below meth c H locs 0 0 Q (F0 m 27 ls []) := by
      intro N
      induction N with
      | zero => intro j x_ hm; exact absurd hm (Nat.not_lt_zero _)
      | succ N ih27 =>
        intro j x_ hm27 hi0 hi1 hx_ ls H locs hl hW
        refine lv_iload C.1 C.2.1 dMo_total_27 (lv_at hl 0 rfl) ?_
        refine lv_aload_n C.1 C.2.1 dMo_total_29 rfl (lv_at hl 2 rfl) ?_
        refine zget C hW 0 29 rfl rfl inMo (by decide) flMo_199 rfl dMo_total_30 ?_
        refine zicmp_ge (tgt := 93) C (by omega) (by omega) dMo_total_33 (by decide) (fun c33 => ?_) (fun c33 => ?_)
        · refine lv_lload_n C.1 C.2.1 dMo_total_93 rfl (lv_at hl 1 rfl) ?_
          exact hQ (zL x_) _ H locs _ _ _ ls hW ⟨v, x_, hv, (fun h => by rw [hx_, show mes = j by omega]), rfl, rfl⟩ (by omega) (by omega) dMo_total_94
        · refine lv_aload_n C.1 C.2.1 dMo_total_36 rfl (lv_at hl 2 rfl) ?_
          refine zget C hW 0 0 rfl rfl inMo (by decide) flMo_93 rfl dMo_total_37 ?_
          refine zif_ne (tgt := 93) C (by omega) dMo_total_40 (by decide) (fun c40 => ?_) (fun c40 => ?_)
          · refine lv_lload_n C.1 C.2.1 dMo_total_93 rfl (lv_at hl 1 rfl) ?_
            exact hQ (zL x_) _ H locs _ _ _ ls hW ⟨v, x_, hv, (fun h => by rw [hx_, show mes = j by omega]), rfl, rfl⟩ (by omega) (by omega) dMo_total_94
          · refine lv_aload_n C.1 C.2.1 dMo_total_43 rfl (lv_at hl 2 rfl) ?_
            refine zget C hW 0 30 rfl rfl inMo (by decide) flMo_65 rfl dMo_total_44 ?_
            refine lv_iload C.1 C.2.1 dMo_total_47 (lv_at hl 0 rfl) ?_
            refine ziald C hW 1 0 rfl rfl (by omega) (by omega) (by decide) dMo_total_49 ?_
            have hb1 := bAxs j
            refine lv_iload_n C.1 C.2.1 dMo_total_50 rfl (lv_at hl 3 rfl) ?_
            have L86 : ∀ (y_ : Int), (y_ = x_ + (lnT Axs Rws MFr MTo ax ro) j) → ∀ (ls : Array Slot) (H : Heap) (locs : List Loc), lv_has ls 6 [(5, .int (zI j)), (3, .long (zL x_)), (0, .ref m0), (1, .int (zI ax)), (2, .int (zI ro))] → zw D zCl A s [(m0, .inr (10, [.int (zI v), .long (zL wi), .long (zL hi), .int (zI bn), .ref af, .ref at_, .int (zI dr), .int (zI sz), .ref au, .ref ap, .ref ab, .ref ae, .ref ah, .int (zI kp), .int (zI ks), .ref ku, .ref kq, .ref kb, .ref ke, .ref kh, .int (zI als), .ref gf, .ref gt, .int (zI ses), .ref sf, .ref st, .int (zI les), .ref ef, .ref et, .int (zI mes), .ref xa, .ref xf, .ref xt, .ref xr, .ref lb, .int (zI lbs), .ref so])), (xa, .inl (cI, 30, .inl (fI Axs))), (xf, .inl (cL, 30, .inr (.inl (fL MFr)))), (xt, .inl (cL, 30, .inr (.inl (fL MTo)))), (xr, .inl (cI, 30, .inl (fI Rws)))] H locs → W p l e (zr 0 0 0) s m args below meth c H locs 0 0 Q (F0 m 86 ls [.long (zL y_)]) := by
              intro y_ hy_ ls H locs hl hW
              refine lv_lstore_n (lv' := [(3, .long (zL y_)), (5, .int (zI j)), (0, .ref m0), (1, .int (zI ax)), (2, .int (zI ro))]) C.1 C.2.1 dMo_total_86 rfl hl (by decide) rfl (fun ls hl => ?_)
              refine lv_iinc (v := zI (j + 1)) (lv' := [(5, .int (zI (j + 1))), (3, .long (zL y_)), (0, .ref m0), (1, .int (zI ax)), (2, .int (zI ro))]) C.1 C.2.1 dMo_total_87 hl (k := 1) rfl (zI_add j 1) (by decide) rfl (fun ls hl => ?_)
              refine lv_goto (tgt := 27) C.1 C.2.1 dMo_total_90 (by decide) ?_
              exact ih27 (j + 1) y_ (by omega) (by omega) (by omega) (by rw [sumZ_s _ hi0, ← hx_]; exact hy_) ls H locs (lv_sub hl [0, 1, 2, 3, 4] rfl) hW
            refine zicmp_ne (tgt := 85) C (by omega) (by omega) dMo_total_51 (by decide) (fun c51 => ?_) (fun c51 => ?_)
            · refine lv_lload_n C.1 C.2.1 dMo_total_85 rfl (lv_at hl 1 rfl) ?_
              exact L86 x_ (by unfold lnT; first | (rw [if_pos (by omega)]; omega) | (rw [if_neg (by omega)]; omega)) ls H locs (lv_sub hl [0, 1, 2, 3, 4] rfl) hW
            · refine lv_aload_n C.1 C.2.1 dMo_total_54 rfl (lv_at hl 2 rfl) ?_
              refine zget C hW 0 33 rfl rfl inMo (by decide) flMo_74 rfl dMo_total_55 ?_
              refine lv_iload C.1 C.2.1 dMo_total_58 (lv_at hl 0 rfl) ?_
              refine ziald C hW 4 0 rfl rfl (by omega) (by omega) (by decide) dMo_total_60 ?_
              have hb2 := bRws j
              refine lv_iload_n C.1 C.2.1 dMo_total_61 rfl (lv_at hl 4 rfl) ?_
              refine zicmp_ne (tgt := 85) C (by omega) (by omega) dMo_total_62 (by decide) (fun c62 => ?_) (fun c62 => ?_)
              · refine lv_lload_n C.1 C.2.1 dMo_total_85 rfl (lv_at hl 1 rfl) ?_
                exact L86 x_ (by unfold lnT; first | (rw [if_pos (by omega)]; omega) | (rw [if_neg (by omega)]; omega)) ls H locs (lv_sub hl [0, 1, 2, 3, 4] rfl) hW
              · refine lv_lload_n C.1 C.2.1 dMo_total_65 rfl (lv_at hl 1 rfl) ?_
                refine lv_aload_n C.1 C.2.1 dMo_total_66 rfl (lv_at hl 2 rfl) ?_
                refine zget C hW 0 32 rfl rfl inMo (by decide) flMo_71 rfl dMo_total_67 ?_
                refine lv_iload C.1 C.2.1 dMo_total_70 (lv_at hl 0 rfl) ?_
                refine zlald C hW 3 2 rfl rfl (by omega) (by omega) (by decide) dMo_total_72 ?_
                have hb3 := bMTo j
                refine zladd C dMo_total_73 ?_
                refine lv_aload_n C.1 C.2.1 dMo_total_74 rfl (lv_at hl 2 rfl) ?_
                refine zget C hW 0 31 rfl rfl inMo (by decide) flMo_68 rfl dMo_total_75 ?_
                refine lv_iload C.1 C.2.1 dMo_total_78 (lv_at hl 0 rfl) ?_
                refine zlald C hW 2 2 rfl rfl (by omega) (by omega) (by decide) dMo_total_80 ?_
                have hb4 := bMFr j
                refine zlsub C dMo_total_81 ?_
                refine lv_goto (tgt := 86) C.1 C.2.1 dMo_total_82 (by decide) ?_
                exact L86 ((x_ + (MTo j)) - (MFr j)) (by unfold lnT; first | (rw [if_pos (by omega)]; omega) | (rw [if_neg (by omega)]; omega)) ls H locs (lv_sub hl [0, 1, 2, 3, 4] rfl) hW
    exact L27 _ 0 0 (Nat.lt_succ_self _) (by omega) (by omega) rfl ls H locs (lv_sub hl [0, 1, 2, 3, 4] rfl) hW
  refine zif_lt (tgt := 14) C (by omega) dMo_total_2 (by decide) (fun c2 => ?_) (fun c2 => ?_)
  · refine lv_iconst (v := zI 1) C.1 C.2.1 dMo_total_14 (by decide) ?_
    refine lv_goto (tgt := 19) C.1 C.2.1 dMo_total_15 (by decide) ?_
    exact L19 1 (by first | rw [if_pos (by omega)] | rw [if_neg (by omega)]) (by omega) ls H locs (lv_sub hl [0, 1, 2] rfl) hW
  · refine lv_iload_n C.1 C.2.1 dMo_total_5 rfl (lv_at hl 1 rfl) ?_
    refine lv_iconst (v := zI 2) C.1 C.2.1 dMo_total_6 (by decide) ?_
    refine zicmp_gt (tgt := 14) C (by omega) (by omega) dMo_total_7 (by decide) (fun c7 => ?_) (fun c7 => ?_)
    · refine lv_iconst (v := zI 1) C.1 C.2.1 dMo_total_14 (by decide) ?_
      refine lv_goto (tgt := 19) C.1 C.2.1 dMo_total_15 (by decide) ?_
      exact L19 1 (by first | rw [if_pos (by omega)] | rw [if_neg (by omega)]) (by omega) ls H locs (lv_sub hl [0, 1, 2] rfl) hW
    · refine lv_iload_n C.1 C.2.1 dMo_total_10 rfl (lv_at hl 2 rfl) ?_
      refine zif_ge (tgt := 18) C (by omega) dMo_total_11 (by decide) (fun c11 => ?_) (fun c11 => ?_)
      · refine lv_iconst (v := zI 0) C.1 C.2.1 dMo_total_18 (by decide) ?_
        exact L19 0 (by first | rw [if_pos (by omega)] | rw [if_neg (by omega)]) (by omega) ls H locs (lv_sub hl [0, 1, 2] rfl) hW
      · refine lv_iconst (v := zI 1) C.1 C.2.1 dMo_total_14 (by decide) ?_
        refine lv_goto (tgt := 19) C.1 C.2.1 dMo_total_15 (by decide) ?_
        exact L19 1 (by first | rw [if_pos (by omega)] | rw [if_neg (by omega)]) (by omega) ls H locs (lv_sub hl [0, 1, 2] rfl) hW
set_option maxHeartbeats 4000000 in
set_option maxRecDepth 100000 in
theorem m_isKept (l : Launch) (D : va_G) (cI cG cL cB : ClassId) (m0 : Nat) (cd : Int) (wi : Int) (hi : Int) (bn : Int) (af : Nat) (at_ : Nat) (dr : Int) (sz : Int) (au : Nat) (ap : Nat) (ab : Nat) (ae : Nat) (ah : Nat) (kp : Int) (ks : Int) (ku : Nat) (kq : Nat) (kb : Nat) (ke : Nat) (kh : Nat) (als : Int) (gf : Nat) (gt : Nat) (ses : Int) (sf : Nat) (st : Nat) (les : Int) (ef : Nat) (et : Nat) (mes : Int) (xa : Nat) (xf : Nat) (xt : Nat) (xr : Nat) (lb : Nat) (lbs : Int) (so : Nat) (Ups : Int → Int) (Pla : Int → Int) (Beg : Int → Int) (Ens : Int → Int) (Hid : Int → Int) (KUp : Int → Int) (KPl : Int → Int) (KBe : Int → Int) (KEn : Int → Int) (KHi : Int → Int) (q : Int) (bUps : ∀ j : Int, I32 (Ups j)) (bPla : ∀ j : Int, I64 (Pla j)) (bBeg : ∀ j : Int, I64 (Beg j)) (bEns : ∀ j : Int, I64 (Ens j)) (bHid : ∀ j : Int, I32 (Hid j)) (bKUp : ∀ j : Int, I32 (KUp j)) (bKPl : ∀ j : Int, I64 (KPl j)) (bKBe : ∀ j : Int, I64 (KBe j)) (bKEn : ∀ j : Int, I64 (KEn j)) (bKHi : ∀ j : Int, I32 (KHi j)) (hsz : 0 ≤ sz ∧ sz ≤ 6000) (hks : 0 ≤ ks ∧ ks ≤ 6000) (hq0 : 0 ≤ q) (hq1 : q < sz) : Ci l yMo_isKept cMo_isKept 4 (some .boolean) 0 0 0 D zCl (zT cI cG cL cB) [.ref m0, .int (zI q)] [(m0, .inr (10, [.int (zI cd), .long (zL wi), .long (zL hi), .int (zI bn), .ref af, .ref at_, .int (zI dr), .int (zI sz), .ref au, .ref ap, .ref ab, .ref ae, .ref ah, .int (zI kp), .int (zI ks), .ref ku, .ref kq, .ref kb, .ref ke, .ref kh, .int (zI als), .ref gf, .ref gt, .int (zI ses), .ref sf, .ref st, .int (zI les), .ref ef, .ref et, .int (zI mes), .ref xa, .ref xf, .ref xt, .ref xr, .ref lb, .int (zI lbs), .ref so])), (au, .inl (cI, 6000, .inl (fI Ups))), (ap, .inl (cL, 6000, .inr (.inl (fL Pla)))), (ab, .inl (cL, 6000, .inr (.inl (fL Beg)))), (ae, .inl (cL, 6000, .inr (.inl (fL Ens)))), (ah, .inl (cI, 6000, .inl (fI Hid))), (ku, .inl (cI, 6000, .inl (fI KUp))), (kq, .inl (cL, 6000, .inr (.inl (fL KPl)))), (kb, .inl (cL, 6000, .inr (.inl (fL KBe)))), (ke, .inl (cL, 6000, .inr (.inl (fL KEn)))), (kh, .inl (cI, 6000, .inl (fI KHi)))] (fun x w => x = zI (bz (anyZ (mSame Ups Pla Beg Ens Hid KUp KPl KBe KEn KHi q) ks)) ∧ w = [(m0, .inr (10, [.int (zI cd), .long (zL wi), .long (zL hi), .int (zI bn), .ref af, .ref at_, .int (zI dr), .int (zI sz), .ref au, .ref ap, .ref ab, .ref ae, .ref ah, .int (zI kp), .int (zI ks), .ref ku, .ref kq, .ref kb, .ref ke, .ref kh, .int (zI als), .ref gf, .ref gt, .int (zI ses), .ref sf, .ref st, .int (zI les), .ref ef, .ref et, .int (zI mes), .ref xa, .ref xf, .ref xt, .ref xr, .ref lb, .int (zI lbs), .ref so])), (au, .inl (cI, 6000, .inl (fI Ups))), (ap, .inl (cL, 6000, .inr (.inl (fL Pla)))), (ab, .inl (cL, 6000, .inr (.inl (fL Beg)))), (ae, .inl (cL, 6000, .inr (.inl (fL Ens)))), (ah, .inl (cI, 6000, .inl (fI Hid))), (ku, .inl (cI, 6000, .inl (fI KUp))), (kq, .inl (cL, 6000, .inr (.inl (fL KPl)))), (kb, .inl (cL, 6000, .inr (.inl (fL KBe)))), (ke, .inl (cL, 6000, .inr (.inl (fL KEn)))), (kh, .inl (cI, 6000, .inl (fI KHi)))]) := by
  refine zBz (by decide) (Nat.le_of_ble_eq_true rfl) ?_
  intro p e s m args below meth c ls A H locs Q C hin hl hW hQ
  have hl : lv_has ls 4 [(0, .ref m0), (1, .int (zI q))] := hl
  refine lv_iconst (v := zI 0) C.1 C.2.1 dMo_isKept_0 (by decide) ?_
  refine lv_istore_n (lv' := [(2, .int (zI 0)), (0, .ref m0), (1, .int (zI q))]) C.1 C.2.1 dMo_isKept_1 rfl hl (by decide) rfl (fun ls hl => ?_)
  refine lv_iconst (v := zI 0) C.1 C.2.1 dMo_isKept_2 (by decide) ?_
  refine lv_istore_n (lv' := [(3, .int (zI 0)), (2, .int (zI 0)), (0, .ref m0), (1, .int (zI q))]) C.1 C.2.1 dMo_isKept_3 rfl hl (by decide) rfl (fun ls hl => ?_)
  have L4 : ∀ (N : Nat) (j : Int) (b_ : Int), (ks - j).toNat < N → (0 ≤ j) → (j ≤ ks) → (b_ = bz (anyZ (mSame Ups Pla Beg Ens Hid KUp KPl KBe KEn KHi q) j)) → (b_ = 0 ∨ b_ = 1) → ∀ (ls : Array Slot) (H : Heap) (locs : List Loc), lv_has ls 4 [(3, .int (zI j)), (2, .int (zI b_)), (0, .ref m0), (1, .int (zI q))] → zw D zCl A s [(m0, .inr (10, [.int (zI cd), .long (zL wi), .long (zL hi), .int (zI bn), .ref af, .ref at_, .int (zI dr), .int (zI sz), .ref au, .ref ap, .ref ab, .ref ae, .ref ah, .int (zI kp), .int (zI ks), .ref ku, .ref kq, .ref kb, .ref ke, .ref kh, .int (zI als), .ref gf, .ref gt, .int (zI ses), .ref sf, .ref st, .int (zI les), .ref ef, .ref et, .int (zI mes), .ref xa, .ref xf, .ref xt, .ref xr, .ref lb, .int (zI lbs), .ref so])), (au, .inl (cI, 6000, .inl (fI Ups))), (ap, .inl (cL, 6000, .inr (.inl (fL Pla)))), (ab, .inl (cL, 6000, .inr (.inl (fL Beg)))), (ae, .inl (cL, 6000, .inr (.inl (fL Ens)))), (ah, .inl (cI, 6000, .inl (fI Hid))), (ku, .inl (cI, 6000, .inl (fI KUp))), (kq, .inl (cL, 6000, .inr (.inl (fL KPl)))), (kb, .inl (cL, 6000, .inr (.inl (fL KBe)))), (ke, .inl (cL, 6000, .inr (.inl (fL KEn)))), (kh, .inl (cI, 6000, .inl (fI KHi)))] H locs → W p l e (zr 0 0 0) s m args below meth c H locs 0 0 Q (F0 m 4 ls []) := by
    intro N
    induction N with
    | zero => intro j b_ hm; exact absurd hm (Nat.not_lt_zero _)
    | succ N ih4 =>
      intro j b_ hm4 hi0 hi1 hb_ hb2 ls H locs hl hW
      refine lv_iload_n C.1 C.2.1 dMo_isKept_4 rfl (lv_at hl 0 rfl) ?_
      refine lv_aload_n C.1 C.2.1 dMo_isKept_5 rfl (lv_at hl 2 rfl) ?_
      refine zget C hW 0 14 rfl rfl inMo (by decide) flMo_249 rfl dMo_isKept_6 ?_
      refine zicmp_ge (tgt := 106) C (by omega) (by omega) dMo_isKept_9 (by decide) (fun c9 => ?_) (fun c9 => ?_)
      · refine lv_iload_n C.1 C.2.1 dMo_isKept_106 rfl (lv_at hl 1 rfl) ?_
        exact hQ (zI b_) _ H locs _ _ _ ls hW (by rcases hb2 with h | h <;> (rw [h]; decide)) ⟨congrArg zI (by rw [hb_, show ks = j by omega]), rfl⟩ (by omega) (by omega) dMo_isKept_107
      · refine lv_iload_n C.1 C.2.1 dMo_isKept_12 rfl (lv_at hl 1 rfl) ?_
        have L99 : ∀ (v : Int), (v = if b_ = 0 then bz ((mSame Ups Pla Beg Ens Hid KUp KPl KBe KEn KHi q) j) else 1) → (v = 0 ∨ v = 1) → ∀ (ls : Array Slot) (H : Heap) (locs : List Loc), lv_has ls 4 [(3, .int (zI j)), (2, .int (zI b_)), (0, .ref m0), (1, .int (zI q))] → zw D zCl A s [(m0, .inr (10, [.int (zI cd), .long (zL wi), .long (zL hi), .int (zI bn), .ref af, .ref at_, .int (zI dr), .int (zI sz), .ref au, .ref ap, .ref ab, .ref ae, .ref ah, .int (zI kp), .int (zI ks), .ref ku, .ref kq, .ref kb, .ref ke, .ref kh, .int (zI als), .ref gf, .ref gt, .int (zI ses), .ref sf, .ref st, .int (zI les), .ref ef, .ref et, .int (zI mes), .ref xa, .ref xf, .ref xt, .ref xr, .ref lb, .int (zI lbs), .ref so])), (au, .inl (cI, 6000, .inl (fI Ups))), (ap, .inl (cL, 6000, .inr (.inl (fL Pla)))), (ab, .inl (cL, 6000, .inr (.inl (fL Beg)))), (ae, .inl (cL, 6000, .inr (.inl (fL Ens)))), (ah, .inl (cI, 6000, .inl (fI Hid))), (ku, .inl (cI, 6000, .inl (fI KUp))), (kq, .inl (cL, 6000, .inr (.inl (fL KPl)))), (kb, .inl (cL, 6000, .inr (.inl (fL KBe)))), (ke, .inl (cL, 6000, .inr (.inl (fL KEn)))), (kh, .inl (cI, 6000, .inl (fI KHi)))] H locs → W p l e (zr 0 0 0) s m args below meth c H locs 0 0 Q (F0 m 99 ls [.int (zI v)]) := by
          intro v hv3 hv4 ls H locs hl hW
          have hv_ : bz ((mSame Ups Pla Beg Ens Hid KUp KPl KBe KEn KHi q) j) = bz ((mSame Ups Pla Beg Ens Hid KUp KPl KBe KEn KHi q) j) := rfl
          have hv2 : bz ((mSame Ups Pla Beg Ens Hid KUp KPl KBe KEn KHi q) j) = 0 ∨ bz ((mSame Ups Pla Beg Ens Hid KUp KPl KBe KEn KHi q) j) = 1 := (by have := bz_01 ((mSame Ups Pla Beg Ens Hid KUp KPl KBe KEn KHi q) j); omega)
          refine lv_istore_n (lv' := [(2, .int (zI v)), (3, .int (zI j)), (0, .ref m0), (1, .int (zI q))]) C.1 C.2.1 dMo_isKept_99 rfl hl (by decide) rfl (fun ls hl => ?_)
          refine lv_iinc (v := zI (j + 1)) (lv' := [(3, .int (zI (j + 1))), (2, .int (zI v)), (0, .ref m0), (1, .int (zI q))]) C.1 C.2.1 dMo_isKept_100 hl (k := 1) rfl (zI_add j 1) (by decide) rfl (fun ls hl => ?_)
          refine lv_goto (tgt := 4) C.1 C.2.1 dMo_isKept_103 (by decide) ?_
          exact ih4 (j + 1) v (by omega) (by omega) (by omega) (by rw [anyZ_s _ hi0, bz_or hb_ hv_ hv2]; exact hv3) (by omega) ls H locs (lv_sub hl [0, 1, 2, 3] rfl) hW
        refine zif_ne (tgt := 94) C (by omega) dMo_isKept_13 (by decide) (fun c13 => ?_) (fun c13 => ?_)
        · refine lv_iconst (v := zI 1) C.1 C.2.1 dMo_isKept_94 (by decide) ?_
          refine lv_goto (tgt := 99) C.1 C.2.1 dMo_isKept_95 (by decide) ?_
          exact L99 1 (by first | (rw [if_neg (by omega)]; done) | (rw [if_pos (by omega)]; unfold mSame; exact bzd (fun h => by omega) (fun h => by omega))) (by omega) ls H locs (lv_sub hl [0, 1, 2, 3] rfl) hW
        · refine lv_aload_n C.1 C.2.1 dMo_isKept_16 rfl (lv_at hl 2 rfl) ?_
          refine zget C hW 0 15 rfl rfl inMo (by decide) flMo_32 rfl dMo_isKept_17 ?_
          refine lv_iload_n C.1 C.2.1 dMo_isKept_20 rfl (lv_at hl 0 rfl) ?_
          refine ziald C hW 6 0 rfl rfl (by omega) (by omega) (by decide) dMo_isKept_21 ?_
          have hb1 := bKUp j
          refine lv_aload_n C.1 C.2.1 dMo_isKept_22 rfl (lv_at hl 2 rfl) ?_
          refine zget C hW 0 8 rfl rfl inMo (by decide) flMo_16 rfl dMo_isKept_23 ?_
          refine lv_iload_n C.1 C.2.1 dMo_isKept_26 rfl (lv_at hl 3 rfl) ?_
          refine ziald C hW 1 0 rfl rfl (by omega) (by omega) (by decide) dMo_isKept_27 ?_
          have hb2 := bUps q
          refine zicmp_ne (tgt := 98) C (by omega) (by omega) dMo_isKept_28 (by decide) (fun c28 => ?_) (fun c28 => ?_)
          · refine lv_iconst (v := zI 0) C.1 C.2.1 dMo_isKept_98 (by decide) ?_
            exact L99 0 (by first | (rw [if_neg (by omega)]; done) | (rw [if_pos (by omega)]; unfold mSame; exact bzd (fun h => by omega) (fun h => by omega))) (by omega) ls H locs (lv_sub hl [0, 1, 2, 3] rfl) hW
          · refine lv_aload_n C.1 C.2.1 dMo_isKept_31 rfl (lv_at hl 2 rfl) ?_
            refine zget C hW 0 16 rfl rfl inMo (by decide) flMo_35 rfl dMo_isKept_32 ?_
            refine lv_iload_n C.1 C.2.1 dMo_isKept_35 rfl (lv_at hl 0 rfl) ?_
            refine zlald C hW 7 2 rfl rfl (by omega) (by omega) (by decide) dMo_isKept_36 ?_
            have hb3 := bKPl j
            refine lv_aload_n C.1 C.2.1 dMo_isKept_37 rfl (lv_at hl 2 rfl) ?_
            refine zget C hW 0 9 rfl rfl inMo (by decide) flMo_20 rfl dMo_isKept_38 ?_
            refine lv_iload_n C.1 C.2.1 dMo_isKept_41 rfl (lv_at hl 3 rfl) ?_
            refine zlald C hW 2 2 rfl rfl (by omega) (by omega) (by decide) dMo_isKept_42 ?_
            have hb4 := bPla q
            refine zlcmp_ne (tgt := 98) C (by omega) (by omega) dMo_isKept_43 dMo_isKept_44 (by decide) (fun c43 => ?_) (fun c43 => ?_)
            · refine lv_iconst (v := zI 0) C.1 C.2.1 dMo_isKept_98 (by decide) ?_
              exact L99 0 (by first | (rw [if_neg (by omega)]; done) | (rw [if_pos (by omega)]; unfold mSame; exact bzd (fun h => by omega) (fun h => by omega))) (by omega) ls H locs (lv_sub hl [0, 1, 2, 3] rfl) hW
            · refine lv_aload_n C.1 C.2.1 dMo_isKept_47 rfl (lv_at hl 2 rfl) ?_
              refine zget C hW 0 17 rfl rfl inMo (by decide) flMo_38 rfl dMo_isKept_48 ?_
              refine lv_iload_n C.1 C.2.1 dMo_isKept_51 rfl (lv_at hl 0 rfl) ?_
              refine zlald C hW 8 2 rfl rfl (by omega) (by omega) (by decide) dMo_isKept_52 ?_
              have hb5 := bKBe j
              refine lv_aload_n C.1 C.2.1 dMo_isKept_53 rfl (lv_at hl 2 rfl) ?_
              refine zget C hW 0 10 rfl rfl inMo (by decide) flMo_23 rfl dMo_isKept_54 ?_
              refine lv_iload_n C.1 C.2.1 dMo_isKept_57 rfl (lv_at hl 3 rfl) ?_
              refine zlald C hW 3 2 rfl rfl (by omega) (by omega) (by decide) dMo_isKept_58 ?_
              have hb6 := bBeg q
              refine zlcmp_ne (tgt := 98) C (by omega) (by omega) dMo_isKept_59 dMo_isKept_60 (by decide) (fun c59 => ?_) (fun c59 => ?_)
              · refine lv_iconst (v := zI 0) C.1 C.2.1 dMo_isKept_98 (by decide) ?_
                exact L99 0 (by first | (rw [if_neg (by omega)]; done) | (rw [if_pos (by omega)]; unfold mSame; exact bzd (fun h => by omega) (fun h => by omega))) (by omega) ls H locs (lv_sub hl [0, 1, 2, 3] rfl) hW
              · refine lv_aload_n C.1 C.2.1 dMo_isKept_63 rfl (lv_at hl 2 rfl) ?_
                refine zget C hW 0 18 rfl rfl inMo (by decide) flMo_41 rfl dMo_isKept_64 ?_
                refine lv_iload_n C.1 C.2.1 dMo_isKept_67 rfl (lv_at hl 0 rfl) ?_
                refine zlald C hW 9 2 rfl rfl (by omega) (by omega) (by decide) dMo_isKept_68 ?_
                have hb7 := bKEn j
                refine lv_aload_n C.1 C.2.1 dMo_isKept_69 rfl (lv_at hl 2 rfl) ?_
                refine zget C hW 0 11 rfl rfl inMo (by decide) flMo_26 rfl dMo_isKept_70 ?_
                refine lv_iload_n C.1 C.2.1 dMo_isKept_73 rfl (lv_at hl 3 rfl) ?_
                refine zlald C hW 4 2 rfl rfl (by omega) (by omega) (by decide) dMo_isKept_74 ?_
                have hb8 := bEns q
                refine zlcmp_ne (tgt := 98) C (by omega) (by omega) dMo_isKept_75 dMo_isKept_76 (by decide) (fun c75 => ?_) (fun c75 => ?_)
                · refine lv_iconst (v := zI 0) C.1 C.2.1 dMo_isKept_98 (by decide) ?_
                  exact L99 0 (by first | (rw [if_neg (by omega)]; done) | (rw [if_pos (by omega)]; unfold mSame; exact bzd (fun h => by omega) (fun h => by omega))) (by omega) ls H locs (lv_sub hl [0, 1, 2, 3] rfl) hW
                · refine lv_aload_n C.1 C.2.1 dMo_isKept_79 rfl (lv_at hl 2 rfl) ?_
                  refine zget C hW 0 19 rfl rfl inMo (by decide) flMo_44 rfl dMo_isKept_80 ?_
                  refine lv_iload_n C.1 C.2.1 dMo_isKept_83 rfl (lv_at hl 0 rfl) ?_
                  refine ziald C hW 10 0 rfl rfl (by omega) (by omega) (by decide) dMo_isKept_84 ?_
                  have hb9 := bKHi j
                  refine lv_aload_n C.1 C.2.1 dMo_isKept_85 rfl (lv_at hl 2 rfl) ?_
                  refine zget C hW 0 12 rfl rfl inMo (by decide) flMo_29 rfl dMo_isKept_86 ?_
                  refine lv_iload_n C.1 C.2.1 dMo_isKept_89 rfl (lv_at hl 3 rfl) ?_
                  refine ziald C hW 5 0 rfl rfl (by omega) (by omega) (by decide) dMo_isKept_90 ?_
                  have hb10 := bHid q
                  refine zicmp_ne (tgt := 98) C (by omega) (by omega) dMo_isKept_91 (by decide) (fun c91 => ?_) (fun c91 => ?_)
                  · refine lv_iconst (v := zI 0) C.1 C.2.1 dMo_isKept_98 (by decide) ?_
                    exact L99 0 (by first | (rw [if_neg (by omega)]; done) | (rw [if_pos (by omega)]; unfold mSame; exact bzd (fun h => by omega) (fun h => by omega))) (by omega) ls H locs (lv_sub hl [0, 1, 2, 3] rfl) hW
                  · refine lv_iconst (v := zI 1) C.1 C.2.1 dMo_isKept_94 (by decide) ?_
                    refine lv_goto (tgt := 99) C.1 C.2.1 dMo_isKept_95 (by decide) ?_
                    exact L99 1 (by first | (rw [if_neg (by omega)]; done) | (rw [if_pos (by omega)]; unfold mSame; exact bzd (fun h => by omega) (fun h => by omega))) (by omega) ls H locs (lv_sub hl [0, 1, 2, 3] rfl) hW
  exact L4 _ 0 0 (Nat.lt_succ_self _) (by omega) (by omega) rfl (Or.inl rfl) ls H locs (lv_sub hl [0, 1, 2, 3] rfl) hW
