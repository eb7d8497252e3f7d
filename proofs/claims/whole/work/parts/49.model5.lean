theorem dMo_list_0 : decode cMo_list 0 = .ok (.aload_n 0, 1) := by decide +kernel
theorem dMo_list_1 : decode cMo_list 1 = .ok (.invokevirtual 217, 3) := by decide +kernel
theorem dMo_list_4 : decode cMo_list 4 = .ok (.iconst 0, 1) := by decide +kernel
theorem dMo_list_5 : decode cMo_list 5 = .ok (.istore_n 3, 1) := by decide +kernel
theorem dMo_list_6 : decode cMo_list 6 = .ok (.iconst (-1), 1) := by decide +kernel
theorem dMo_list_7 : decode cMo_list 7 = .ok (.istore 4, 2) := by decide +kernel
theorem dMo_list_9 : decode cMo_list 9 = .ok (.lconst 0, 1) := by decide +kernel
theorem dMo_list_10 : decode cMo_list 10 = .ok (.lstore 5, 2) := by decide +kernel
theorem dMo_list_12 : decode cMo_list 12 = .ok (.iconst 0, 1) := by decide +kernel
theorem dMo_list_13 : decode cMo_list 13 = .ok (.istore 7, 2) := by decide +kernel
theorem dMo_list_15 : decode cMo_list 15 = .ok (.iload 7, 2) := by decide +kernel
theorem dMo_list_17 : decode cMo_list 17 = .ok (.aload_n 0, 1) := by decide +kernel
theorem dMo_list_18 : decode cMo_list 18 = .ok (.getfield 105, 3) := by decide +kernel
theorem dMo_list_21 : decode cMo_list 21 = .ok (.if_icmp .ge 64, 3) := by decide +kernel
theorem dMo_list_24 : decode cMo_list 24 = .ok (.aload_n 0, 1) := by decide +kernel
theorem dMo_list_25 : decode cMo_list 25 = .ok (.iload 7, 2) := by decide +kernel
theorem dMo_list_27 : decode cMo_list 27 = .ok (.invokevirtual 220, 3) := by decide +kernel
theorem dMo_list_30 : decode cMo_list 30 = .ok (.istore 8, 2) := by decide +kernel
theorem dMo_list_32 : decode cMo_list 32 = .ok (.iload 8, 2) := by decide +kernel
theorem dMo_list_34 : decode cMo_list 34 = .ok (.iload_n 3, 1) := by decide +kernel
theorem dMo_list_35 : decode cMo_list 35 = .ok (.if_icmp .lt 10, 3) := by decide +kernel
theorem dMo_list_38 : decode cMo_list 38 = .ok (.iload 8, 2) := by decide +kernel
theorem dMo_list_40 : decode cMo_list 40 = .ok (.iconst 1, 1) := by decide +kernel
theorem dMo_list_41 : decode cMo_list 41 = .ok (.iadd, 1) := by decide +kernel
theorem dMo_list_42 : decode cMo_list 42 = .ok (.goto 4, 3) := by decide +kernel
theorem dMo_list_45 : decode cMo_list 45 = .ok (.iload_n 3, 1) := by decide +kernel
theorem dMo_list_46 : decode cMo_list 46 = .ok (.istore_n 3, 1) := by decide +kernel
theorem dMo_list_47 : decode cMo_list 47 = .ok (.iload 8, 2) := by decide +kernel
theorem dMo_list_49 : decode cMo_list 49 = .ok (.iload_n 1, 1) := by decide +kernel
theorem dMo_list_50 : decode cMo_list 50 = .ok (.if_icmp .ne 8, 3) := by decide +kernel
theorem dMo_list_53 : decode cMo_list 53 = .ok (.iload 7, 2) := by decide +kernel
theorem dMo_list_55 : decode cMo_list 55 = .ok (.goto 5, 3) := by decide +kernel
theorem dMo_list_58 : decode cMo_list 58 = .ok (.iload 4, 2) := by decide +kernel
theorem dMo_list_60 : decode cMo_list 60 = .ok (.istore 4, 2) := by decide +kernel
theorem dMo_list_62 : decode cMo_list 62 = .ok (.iload 8, 2) := by decide +kernel
theorem dMo_list_64 : decode cMo_list 64 = .ok (.iload_n 1, 1) := by decide +kernel
theorem dMo_list_65 : decode cMo_list 65 = .ok (.if_icmp .ne 10, 3) := by decide +kernel
theorem dMo_list_68 : decode cMo_list 68 = .ok (.lload 5, 2) := by decide +kernel
theorem dMo_list_70 : decode cMo_list 70 = .ok (.lconst 1, 1) := by decide +kernel
theorem dMo_list_71 : decode cMo_list 71 = .ok (.ladd, 1) := by decide +kernel
theorem dMo_list_72 : decode cMo_list 72 = .ok (.goto 5, 3) := by decide +kernel
theorem dMo_list_75 : decode cMo_list 75 = .ok (.lload 5, 2) := by decide +kernel
theorem dMo_list_77 : decode cMo_list 77 = .ok (.lstore 5, 2) := by decide +kernel
theorem dMo_list_79 : decode cMo_list 79 = .ok (.iinc 7 1, 3) := by decide +kernel
theorem dMo_list_82 : decode cMo_list 82 = .ok (.goto (-67), 3) := by decide +kernel
theorem dMo_list_85 : decode cMo_list 85 = .ok (.aload_n 0, 1) := by decide +kernel
theorem dMo_list_86 : decode cMo_list 86 = .ok (.iload_n 1, 1) := by decide +kernel
theorem dMo_list_87 : decode cMo_list 87 = .ok (.iconst (-1), 1) := by decide +kernel
theorem dMo_list_88 : decode cMo_list 88 = .ok (.if_icmp .lt 8, 3) := by decide +kernel
theorem dMo_list_91 : decode cMo_list 91 = .ok (.iload_n 1, 1) := by decide +kernel
theorem dMo_list_92 : decode cMo_list 92 = .ok (.iload_n 3, 1) := by decide +kernel
theorem dMo_list_93 : decode cMo_list 93 = .ok (.if_icmp .lt 7, 3) := by decide +kernel
theorem dMo_list_96 : decode cMo_list 96 = .ok (.iconst 1, 1) := by decide +kernel
theorem dMo_list_97 : decode cMo_list 97 = .ok (.goto 17, 3) := by decide +kernel
theorem dMo_list_100 : decode cMo_list 100 = .ok (.iload_n 2, 1) := by decide +kernel
theorem dMo_list_101 : decode cMo_list 101 = .ok (.ifCond .lt 8, 3) := by decide +kernel
theorem dMo_list_104 : decode cMo_list 104 = .ok (.iload_n 2, 1) := by decide +kernel
theorem dMo_list_105 : decode cMo_list 105 = .ok (.iconst 3, 1) := by decide +kernel
theorem dMo_list_106 : decode cMo_list 106 = .ok (.if_icmp .le 7, 3) := by decide +kernel
theorem dMo_list_109 : decode cMo_list 109 = .ok (.iconst 2, 1) := by decide +kernel
theorem dMo_list_110 : decode cMo_list 110 = .ok (.goto 4, 3) := by decide +kernel
theorem dMo_list_113 : decode cMo_list 113 = .ok (.iconst 0, 1) := by decide +kernel
theorem dMo_list_114 : decode cMo_list 114 = .ok (.putfield 93, 3) := by decide +kernel
theorem dMo_list_117 : decode cMo_list 117 = .ok (.aload_n 0, 1) := by decide +kernel
theorem dMo_list_118 : decode cMo_list 118 = .ok (.getfield 93, 3) := by decide +kernel
theorem dMo_list_121 : decode cMo_list 121 = .ok (.ifCond .gt 8, 3) := by decide +kernel
theorem dMo_list_124 : decode cMo_list 124 = .ok (.iload_n 1, 1) := by decide +kernel
theorem dMo_list_125 : decode cMo_list 125 = .ok (.iconst (-1), 1) := by decide +kernel
theorem dMo_list_126 : decode cMo_list 126 = .ok (.if_icmp .ne 17, 3) := by decide +kernel
theorem dMo_list_129 : decode cMo_list 129 = .ok (.aload_n 0, 1) := by decide +kernel
theorem dMo_list_130 : decode cMo_list 130 = .ok (.getfield 93, 3) := by decide +kernel
theorem dMo_list_133 : decode cMo_list 133 = .ok (.ifCond .le 7, 3) := by decide +kernel
theorem dMo_list_136 : decode cMo_list 136 = .ok (.lconst 0, 1) := by decide +kernel
theorem dMo_list_137 : decode cMo_list 137 = .ok (.goto 5, 3) := by decide +kernel
theorem dMo_list_140 : decode cMo_list 140 = .ok (.iload_n 3, 1) := by decide +kernel
theorem dMo_list_141 : decode cMo_list 141 = .ok (.i2l, 1) := by decide +kernel
theorem dMo_list_142 : decode cMo_list 142 = .ok (.lreturn, 1) := by decide +kernel
theorem dMo_list_143 : decode cMo_list 143 = .ok (.iload_n 2, 1) := by decide +kernel
theorem dMo_list_144 : decode cMo_list 144 = .ok (.iconst 3, 1) := by decide +kernel
theorem dMo_list_145 : decode cMo_list 145 = .ok (.if_icmp .ne 8, 3) := by decide +kernel
theorem dMo_list_148 : decode cMo_list 148 = .ok (.lload 5, 2) := by decide +kernel
theorem dMo_list_150 : decode cMo_list 150 = .ok (.goto 14, 3) := by decide +kernel
theorem dMo_list_153 : decode cMo_list 153 = .ok (.aload_n 0, 1) := by decide +kernel
theorem dMo_list_154 : decode cMo_list 154 = .ok (.getfield 80, 3) := by decide +kernel
theorem dMo_list_157 : decode cMo_list 157 = .ok (.iconst 3, 1) := by decide +kernel
theorem dMo_list_158 : decode cMo_list 158 = .ok (.iload 4, 2) := by decide +kernel
theorem dMo_list_160 : decode cMo_list 160 = .ok (.imul, 1) := by decide +kernel
theorem dMo_list_161 : decode cMo_list 161 = .ok (.iload_n 2, 1) := by decide +kernel
theorem dMo_list_162 : decode cMo_list 162 = .ok (.iadd, 1) := by decide +kernel
theorem dMo_list_163 : decode cMo_list 163 = .ok (.laload, 1) := by decide +kernel
theorem dMo_list_164 : decode cMo_list 164 = .ok (.lreturn, 1) := by decide +kernel
theorem dMo_sortSizes_0 : decode cMo_sortSizes 0 = .ok (.iconst 0, 1) := by decide +kernel
theorem dMo_sortSizes_1 : decode cMo_sortSizes 1 = .ok (.istore_n 1, 1) := by decide +kernel
theorem dMo_sortSizes_2 : decode cMo_sortSizes 2 = .ok (.iload_n 1, 1) := by decide +kernel
theorem dMo_sortSizes_3 : decode cMo_sortSizes 3 = .ok (.aload_n 0, 1) := by decide +kernel
theorem dMo_sortSizes_4 : decode cMo_sortSizes 4 = .ok (.getfield 105, 3) := by decide +kernel
theorem dMo_sortSizes_7 : decode cMo_sortSizes 7 = .ok (.if_icmp .ge 141, 3) := by decide +kernel
theorem dMo_sortSizes_10 : decode cMo_sortSizes 10 = .ok (.aload_n 0, 1) := by decide +kernel
theorem dMo_sortSizes_11 : decode cMo_sortSizes 11 = .ok (.iload_n 1, 1) := by decide +kernel
theorem dMo_sortSizes_12 : decode cMo_sortSizes 12 = .ok (.iconst 0, 1) := by decide +kernel
theorem dMo_sortSizes_13 : decode cMo_sortSizes 13 = .ok (.invokevirtual 210, 3) := by decide +kernel
theorem dMo_sortSizes_16 : decode cMo_sortSizes 16 = .ok (.lstore_n 2, 1) := by decide +kernel
theorem dMo_sortSizes_17 : decode cMo_sortSizes 17 = .ok (.aload_n 0, 1) := by decide +kernel
theorem dMo_sortSizes_18 : decode cMo_sortSizes 18 = .ok (.iload_n 1, 1) := by decide +kernel
theorem dMo_sortSizes_19 : decode cMo_sortSizes 19 = .ok (.iconst 1, 1) := by decide +kernel
theorem dMo_sortSizes_20 : decode cMo_sortSizes 20 = .ok (.invokevirtual 210, 3) := by decide +kernel
theorem dMo_sortSizes_23 : decode cMo_sortSizes 23 = .ok (.lstore 4, 2) := by decide +kernel
theorem dMo_sortSizes_25 : decode cMo_sortSizes 25 = .ok (.aload_n 0, 1) := by decide +kernel
theorem dMo_sortSizes_26 : decode cMo_sortSizes 26 = .ok (.iload_n 1, 1) := by decide +kernel
theorem dMo_sortSizes_27 : decode cMo_sortSizes 27 = .ok (.iconst 2, 1) := by decide +kernel
theorem dMo_sortSizes_28 : decode cMo_sortSizes 28 = .ok (.invokevirtual 210, 3) := by decide +kernel
theorem dMo_sortSizes_31 : decode cMo_sortSizes 31 = .ok (.lstore 6, 2) := by decide +kernel
theorem dMo_sortSizes_33 : decode cMo_sortSizes 33 = .ok (.lload_n 2, 1) := by decide +kernel
theorem dMo_sortSizes_34 : decode cMo_sortSizes 34 = .ok (.lload 4, 2) := by decide +kernel
theorem dMo_sortSizes_36 : decode cMo_sortSizes 36 = .ok (.lcmp, 1) := by decide +kernel
theorem dMo_sortSizes_37 : decode cMo_sortSizes 37 = .ok (.ifCond .le 7, 3) := by decide +kernel
theorem dMo_sortSizes_40 : decode cMo_sortSizes 40 = .ok (.lload_n 2, 1) := by decide +kernel
theorem dMo_sortSizes_41 : decode cMo_sortSizes 41 = .ok (.goto 5, 3) := by decide +kernel
theorem dMo_sortSizes_44 : decode cMo_sortSizes 44 = .ok (.lload 4, 2) := by decide +kernel
theorem dMo_sortSizes_46 : decode cMo_sortSizes 46 = .ok (.lstore 8, 2) := by decide +kernel
theorem dMo_sortSizes_48 : decode cMo_sortSizes 48 = .ok (.lload 6, 2) := by decide +kernel
theorem dMo_sortSizes_50 : decode cMo_sortSizes 50 = .ok (.lload 8, 2) := by decide +kernel
theorem dMo_sortSizes_52 : decode cMo_sortSizes 52 = .ok (.lcmp, 1) := by decide +kernel
theorem dMo_sortSizes_53 : decode cMo_sortSizes 53 = .ok (.ifCond .le 8, 3) := by decide +kernel
theorem dMo_sortSizes_56 : decode cMo_sortSizes 56 = .ok (.lload 6, 2) := by decide +kernel
theorem dMo_sortSizes_58 : decode cMo_sortSizes 58 = .ok (.goto 5, 3) := by decide +kernel
theorem dMo_sortSizes_61 : decode cMo_sortSizes 61 = .ok (.lload 8, 2) := by decide +kernel
theorem dMo_sortSizes_63 : decode cMo_sortSizes 63 = .ok (.lstore 8, 2) := by decide +kernel
theorem dMo_sortSizes_65 : decode cMo_sortSizes 65 = .ok (.lload_n 2, 1) := by decide +kernel
theorem dMo_sortSizes_66 : decode cMo_sortSizes 66 = .ok (.lload 4, 2) := by decide +kernel
theorem dMo_sortSizes_68 : decode cMo_sortSizes 68 = .ok (.lcmp, 1) := by decide +kernel
theorem dMo_sortSizes_69 : decode cMo_sortSizes 69 = .ok (.ifCond .ge 7, 3) := by decide +kernel
theorem dMo_sortSizes_72 : decode cMo_sortSizes 72 = .ok (.lload_n 2, 1) := by decide +kernel
theorem dMo_sortSizes_73 : decode cMo_sortSizes 73 = .ok (.goto 5, 3) := by decide +kernel
theorem dMo_sortSizes_76 : decode cMo_sortSizes 76 = .ok (.lload 4, 2) := by decide +kernel
theorem dMo_sortSizes_78 : decode cMo_sortSizes 78 = .ok (.lstore 10, 2) := by decide +kernel
theorem dMo_sortSizes_80 : decode cMo_sortSizes 80 = .ok (.lload 6, 2) := by decide +kernel
theorem dMo_sortSizes_82 : decode cMo_sortSizes 82 = .ok (.lload 10, 2) := by decide +kernel
theorem dMo_sortSizes_84 : decode cMo_sortSizes 84 = .ok (.lcmp, 1) := by decide +kernel
theorem dMo_sortSizes_85 : decode cMo_sortSizes 85 = .ok (.ifCond .ge 8, 3) := by decide +kernel
theorem dMo_sortSizes_88 : decode cMo_sortSizes 88 = .ok (.lload 6, 2) := by decide +kernel
theorem dMo_sortSizes_90 : decode cMo_sortSizes 90 = .ok (.goto 5, 3) := by decide +kernel
theorem dMo_sortSizes_93 : decode cMo_sortSizes 93 = .ok (.lload 10, 2) := by decide +kernel
theorem dMo_sortSizes_95 : decode cMo_sortSizes 95 = .ok (.lstore 10, 2) := by decide +kernel
theorem dMo_sortSizes_97 : decode cMo_sortSizes 97 = .ok (.aload_n 0, 1) := by decide +kernel
theorem dMo_sortSizes_98 : decode cMo_sortSizes 98 = .ok (.getfield 80, 3) := by decide +kernel
theorem dMo_sortSizes_101 : decode cMo_sortSizes 101 = .ok (.iconst 3, 1) := by decide +kernel
theorem dMo_sortSizes_102 : decode cMo_sortSizes 102 = .ok (.iload_n 1, 1) := by decide +kernel
theorem dMo_sortSizes_103 : decode cMo_sortSizes 103 = .ok (.imul, 1) := by decide +kernel
theorem dMo_sortSizes_104 : decode cMo_sortSizes 104 = .ok (.lload 8, 2) := by decide +kernel
theorem dMo_sortSizes_106 : decode cMo_sortSizes 106 = .ok (.lastore, 1) := by decide +kernel
theorem dMo_sortSizes_107 : decode cMo_sortSizes 107 = .ok (.aload_n 0, 1) := by decide +kernel
theorem dMo_sortSizes_108 : decode cMo_sortSizes 108 = .ok (.getfield 80, 3) := by decide +kernel
theorem dMo_sortSizes_111 : decode cMo_sortSizes 111 = .ok (.iconst 3, 1) := by decide +kernel
theorem dMo_sortSizes_112 : decode cMo_sortSizes 112 = .ok (.iload_n 1, 1) := by decide +kernel
theorem dMo_sortSizes_113 : decode cMo_sortSizes 113 = .ok (.imul, 1) := by decide +kernel
theorem dMo_sortSizes_114 : decode cMo_sortSizes 114 = .ok (.iconst 1, 1) := by decide +kernel
theorem dMo_sortSizes_115 : decode cMo_sortSizes 115 = .ok (.iadd, 1) := by decide +kernel
theorem dMo_sortSizes_116 : decode cMo_sortSizes 116 = .ok (.lload_n 2, 1) := by decide +kernel
theorem dMo_sortSizes_117 : decode cMo_sortSizes 117 = .ok (.lload 4, 2) := by decide +kernel
theorem dMo_sortSizes_119 : decode cMo_sortSizes 119 = .ok (.ladd, 1) := by decide +kernel
theorem dMo_sortSizes_120 : decode cMo_sortSizes 120 = .ok (.lload 6, 2) := by decide +kernel
theorem dMo_sortSizes_122 : decode cMo_sortSizes 122 = .ok (.ladd, 1) := by decide +kernel
theorem dMo_sortSizes_123 : decode cMo_sortSizes 123 = .ok (.lload 8, 2) := by decide +kernel
theorem dMo_sortSizes_125 : decode cMo_sortSizes 125 = .ok (.lsub, 1) := by decide +kernel
theorem dMo_sortSizes_126 : decode cMo_sortSizes 126 = .ok (.lload 10, 2) := by decide +kernel
theorem dMo_sortSizes_128 : decode cMo_sortSizes 128 = .ok (.lsub, 1) := by decide +kernel
theorem dMo_sortSizes_129 : decode cMo_sortSizes 129 = .ok (.lastore, 1) := by decide +kernel
theorem dMo_sortSizes_130 : decode cMo_sortSizes 130 = .ok (.aload_n 0, 1) := by decide +kernel
theorem dMo_sortSizes_131 : decode cMo_sortSizes 131 = .ok (.getfield 80, 3) := by decide +kernel
theorem dMo_sortSizes_134 : decode cMo_sortSizes 134 = .ok (.iconst 3, 1) := by decide +kernel
theorem dMo_sortSizes_135 : decode cMo_sortSizes 135 = .ok (.iload_n 1, 1) := by decide +kernel
theorem dMo_sortSizes_136 : decode cMo_sortSizes 136 = .ok (.imul, 1) := by decide +kernel
theorem dMo_sortSizes_137 : decode cMo_sortSizes 137 = .ok (.iconst 2, 1) := by decide +kernel
theorem dMo_sortSizes_138 : decode cMo_sortSizes 138 = .ok (.iadd, 1) := by decide +kernel
theorem dMo_sortSizes_139 : decode cMo_sortSizes 139 = .ok (.lload 10, 2) := by decide +kernel
theorem dMo_sortSizes_141 : decode cMo_sortSizes 141 = .ok (.lastore, 1) := by decide +kernel
theorem dMo_sortSizes_142 : decode cMo_sortSizes 142 = .ok (.iinc 1 1, 3) := by decide +kernel
theorem dMo_sortSizes_145 : decode cMo_sortSizes 145 = .ok (.goto (-143), 3) := by decide +kernel
theorem dMo_sortSizes_148 : decode cMo_sortSizes 148 = .ok (.return_, 1) := by decide +kernel
theorem dMo_lineOf_0 : decode cMo_lineOf 0 = .ok (.iconst 0, 1) := by decide +kernel
theorem dMo_lineOf_1 : decode cMo_lineOf 1 = .ok (.istore_n 2, 1) := by decide +kernel
theorem dMo_lineOf_2 : decode cMo_lineOf 2 = .ok (.iconst 0, 1) := by decide +kernel
theorem dMo_lineOf_3 : decode cMo_lineOf 3 = .ok (.istore_n 3, 1) := by decide +kernel
theorem dMo_lineOf_4 : decode cMo_lineOf 4 = .ok (.iload_n 3, 1) := by decide +kernel
theorem dMo_lineOf_5 : decode cMo_lineOf 5 = .ok (.aload_n 0, 1) := by decide +kernel
theorem dMo_lineOf_6 : decode cMo_lineOf 6 = .ok (.getfield 105, 3) := by decide +kernel
theorem dMo_lineOf_9 : decode cMo_lineOf 9 = .ok (.if_icmp .ge 71, 3) := by decide +kernel
theorem dMo_lineOf_12 : decode cMo_lineOf 12 = .ok (.iconst 1, 1) := by decide +kernel
theorem dMo_lineOf_13 : decode cMo_lineOf 13 = .ok (.istore 4, 2) := by decide +kernel
theorem dMo_lineOf_15 : decode cMo_lineOf 15 = .ok (.iconst 0, 1) := by decide +kernel
theorem dMo_lineOf_16 : decode cMo_lineOf 16 = .ok (.istore 5, 2) := by decide +kernel
theorem dMo_lineOf_18 : decode cMo_lineOf 18 = .ok (.iload 5, 2) := by decide +kernel
theorem dMo_lineOf_20 : decode cMo_lineOf 20 = .ok (.iload_n 3, 1) := by decide +kernel
theorem dMo_lineOf_21 : decode cMo_lineOf 21 = .ok (.if_icmp .ge 31, 3) := by decide +kernel
theorem dMo_lineOf_24 : decode cMo_lineOf 24 = .ok (.iload 4, 2) := by decide +kernel
theorem dMo_lineOf_26 : decode cMo_lineOf 26 = .ok (.ifCond .eq 17, 3) := by decide +kernel
theorem dMo_lineOf_29 : decode cMo_lineOf 29 = .ok (.aload_n 0, 1) := by decide +kernel
theorem dMo_lineOf_30 : decode cMo_lineOf 30 = .ok (.iload 5, 2) := by decide +kernel
theorem dMo_lineOf_32 : decode cMo_lineOf 32 = .ok (.iload_n 3, 1) := by decide +kernel
theorem dMo_lineOf_33 : decode cMo_lineOf 33 = .ok (.invokevirtual 213, 3) := by decide +kernel
theorem dMo_lineOf_36 : decode cMo_lineOf 36 = .ok (.ifCond .eq 7, 3) := by decide +kernel
theorem dMo_lineOf_39 : decode cMo_lineOf 39 = .ok (.iconst 1, 1) := by decide +kernel
theorem dMo_lineOf_40 : decode cMo_lineOf 40 = .ok (.goto 4, 3) := by decide +kernel
theorem dMo_lineOf_43 : decode cMo_lineOf 43 = .ok (.iconst 0, 1) := by decide +kernel
theorem dMo_lineOf_44 : decode cMo_lineOf 44 = .ok (.istore 4, 2) := by decide +kernel
theorem dMo_lineOf_46 : decode cMo_lineOf 46 = .ok (.iinc 5 1, 3) := by decide +kernel
theorem dMo_lineOf_49 : decode cMo_lineOf 49 = .ok (.goto (-31), 3) := by decide +kernel
theorem dMo_lineOf_52 : decode cMo_lineOf 52 = .ok (.iload 4, 2) := by decide +kernel
theorem dMo_lineOf_54 : decode cMo_lineOf 54 = .ok (.ifCond .eq 18, 3) := by decide +kernel
theorem dMo_lineOf_57 : decode cMo_lineOf 57 = .ok (.aload_n 0, 1) := by decide +kernel
theorem dMo_lineOf_58 : decode cMo_lineOf 58 = .ok (.iload_n 3, 1) := by decide +kernel
theorem dMo_lineOf_59 : decode cMo_lineOf 59 = .ok (.iload_n 1, 1) := by decide +kernel
theorem dMo_lineOf_60 : decode cMo_lineOf 60 = .ok (.invokevirtual 213, 3) := by decide +kernel
theorem dMo_lineOf_63 : decode cMo_lineOf 63 = .ok (.ifCond .le 9, 3) := by decide +kernel
theorem dMo_lineOf_66 : decode cMo_lineOf 66 = .ok (.iload_n 2, 1) := by decide +kernel
theorem dMo_lineOf_67 : decode cMo_lineOf 67 = .ok (.iconst 1, 1) := by decide +kernel
theorem dMo_lineOf_68 : decode cMo_lineOf 68 = .ok (.iadd, 1) := by decide +kernel
theorem dMo_lineOf_69 : decode cMo_lineOf 69 = .ok (.goto 4, 3) := by decide +kernel
theorem dMo_lineOf_72 : decode cMo_lineOf 72 = .ok (.iload_n 2, 1) := by decide +kernel
theorem dMo_lineOf_73 : decode cMo_lineOf 73 = .ok (.istore_n 2, 1) := by decide +kernel
theorem dMo_lineOf_74 : decode cMo_lineOf 74 = .ok (.iinc 3 1, 3) := by decide +kernel
theorem dMo_lineOf_77 : decode cMo_lineOf 77 = .ok (.goto (-73), 3) := by decide +kernel
theorem dMo_lineOf_80 : decode cMo_lineOf 80 = .ok (.iload_n 2, 1) := by decide +kernel
theorem dMo_lineOf_81 : decode cMo_lineOf 81 = .ok (.ireturn, 1) := by decide +kernel
theorem dMo_compare_0 : decode cMo_compare 0 = .ok (.iconst 0, 1) := by decide +kernel
theorem dMo_compare_1 : decode cMo_compare 1 = .ok (.istore_n 3, 1) := by decide +kernel
theorem dMo_compare_2 : decode cMo_compare 2 = .ok (.iload_n 3, 1) := by decide +kernel
theorem dMo_compare_3 : decode cMo_compare 3 = .ok (.iconst 3, 1) := by decide +kernel
theorem dMo_compare_4 : decode cMo_compare 4 = .ok (.if_icmp .ge 63, 3) := by decide +kernel
theorem dMo_compare_7 : decode cMo_compare 7 = .ok (.aload_n 0, 1) := by decide +kernel
theorem dMo_compare_8 : decode cMo_compare 8 = .ok (.getfield 80, 3) := by decide +kernel
theorem dMo_compare_11 : decode cMo_compare 11 = .ok (.iconst 3, 1) := by decide +kernel
theorem dMo_compare_12 : decode cMo_compare 12 = .ok (.iload_n 1, 1) := by decide +kernel
theorem dMo_compare_13 : decode cMo_compare 13 = .ok (.imul, 1) := by decide +kernel
theorem dMo_compare_14 : decode cMo_compare 14 = .ok (.iload_n 3, 1) := by decide +kernel
theorem dMo_compare_15 : decode cMo_compare 15 = .ok (.iadd, 1) := by decide +kernel
theorem dMo_compare_16 : decode cMo_compare 16 = .ok (.laload, 1) := by decide +kernel
theorem dMo_compare_17 : decode cMo_compare 17 = .ok (.aload_n 0, 1) := by decide +kernel
theorem dMo_compare_18 : decode cMo_compare 18 = .ok (.getfield 80, 3) := by decide +kernel
theorem dMo_compare_21 : decode cMo_compare 21 = .ok (.iconst 3, 1) := by decide +kernel
theorem dMo_compare_22 : decode cMo_compare 22 = .ok (.iload_n 2, 1) := by decide +kernel
theorem dMo_compare_23 : decode cMo_compare 23 = .ok (.imul, 1) := by decide +kernel
theorem dMo_compare_24 : decode cMo_compare 24 = .ok (.iload_n 3, 1) := by decide +kernel
theorem dMo_compare_25 : decode cMo_compare 25 = .ok (.iadd, 1) := by decide +kernel
theorem dMo_compare_26 : decode cMo_compare 26 = .ok (.laload, 1) := by decide +kernel
theorem dMo_compare_27 : decode cMo_compare 27 = .ok (.lcmp, 1) := by decide +kernel
theorem dMo_compare_28 : decode cMo_compare 28 = .ok (.ifCond .eq 33, 3) := by decide +kernel
theorem dMo_compare_31 : decode cMo_compare 31 = .ok (.aload_n 0, 1) := by decide +kernel
theorem dMo_compare_32 : decode cMo_compare 32 = .ok (.getfield 80, 3) := by decide +kernel
theorem dMo_compare_35 : decode cMo_compare 35 = .ok (.iconst 3, 1) := by decide +kernel
theorem dMo_compare_36 : decode cMo_compare 36 = .ok (.iload_n 1, 1) := by decide +kernel
theorem dMo_compare_37 : decode cMo_compare 37 = .ok (.imul, 1) := by decide +kernel
theorem dMo_compare_38 : decode cMo_compare 38 = .ok (.iload_n 3, 1) := by decide +kernel
theorem dMo_compare_39 : decode cMo_compare 39 = .ok (.iadd, 1) := by decide +kernel
theorem dMo_compare_40 : decode cMo_compare 40 = .ok (.laload, 1) := by decide +kernel
theorem dMo_compare_41 : decode cMo_compare 41 = .ok (.aload_n 0, 1) := by decide +kernel
theorem dMo_compare_42 : decode cMo_compare 42 = .ok (.getfield 80, 3) := by decide +kernel
theorem dMo_compare_45 : decode cMo_compare 45 = .ok (.iconst 3, 1) := by decide +kernel
theorem dMo_compare_46 : decode cMo_compare 46 = .ok (.iload_n 2, 1) := by decide +kernel
theorem dMo_compare_47 : decode cMo_compare 47 = .ok (.imul, 1) := by decide +kernel
theorem dMo_compare_48 : decode cMo_compare 48 = .ok (.iload_n 3, 1) := by decide +kernel
theorem dMo_compare_49 : decode cMo_compare 49 = .ok (.iadd, 1) := by decide +kernel
theorem dMo_compare_50 : decode cMo_compare 50 = .ok (.laload, 1) := by decide +kernel
theorem dMo_compare_51 : decode cMo_compare 51 = .ok (.lcmp, 1) := by decide +kernel
theorem dMo_compare_52 : decode cMo_compare 52 = .ok (.ifCond .le 7, 3) := by decide +kernel
theorem dMo_compare_55 : decode cMo_compare 55 = .ok (.iconst 1, 1) := by decide +kernel
theorem dMo_compare_56 : decode cMo_compare 56 = .ok (.goto 4, 3) := by decide +kernel
theorem dMo_compare_59 : decode cMo_compare 59 = .ok (.iconst (-1), 1) := by decide +kernel
theorem dMo_compare_60 : decode cMo_compare 60 = .ok (.ireturn, 1) := by decide +kernel
theorem dMo_compare_61 : decode cMo_compare 61 = .ok (.iinc 3 1, 3) := by decide +kernel
theorem dMo_compare_64 : decode cMo_compare 64 = .ok (.goto (-62), 3) := by decide +kernel
theorem dMo_compare_67 : decode cMo_compare 67 = .ok (.iconst 0, 1) := by decide +kernel
theorem dMo_compare_68 : decode cMo_compare 68 = .ok (.ireturn, 1) := by decide +kernel
theorem dMo_edge_0 : decode cMo_edge 0 = .ok (.iconst 0, 1) := by decide +kernel
theorem dMo_edge_1 : decode cMo_edge 1 = .ok (.istore_n 3, 1) := by decide +kernel
theorem dMo_edge_2 : decode cMo_edge 2 = .ok (.lconst 0, 1) := by decide +kernel
theorem dMo_edge_3 : decode cMo_edge 3 = .ok (.lstore 4, 2) := by decide +kernel
theorem dMo_edge_5 : decode cMo_edge 5 = .ok (.iconst 0, 1) := by decide +kernel
theorem dMo_edge_6 : decode cMo_edge 6 = .ok (.istore 6, 2) := by decide +kernel
theorem dMo_edge_8 : decode cMo_edge 8 = .ok (.iload 6, 2) := by decide +kernel
theorem dMo_edge_10 : decode cMo_edge 10 = .ok (.aload_n 0, 1) := by decide +kernel
theorem dMo_edge_11 : decode cMo_edge 11 = .ok (.getfield 145, 3) := by decide +kernel
theorem dMo_edge_14 : decode cMo_edge 14 = .ok (.if_icmp .ge 108, 3) := by decide +kernel
theorem dMo_edge_17 : decode cMo_edge 17 = .ok (.aload_n 0, 1) := by decide +kernel
theorem dMo_edge_18 : decode cMo_edge 18 = .ok (.getfield 16, 3) := by decide +kernel
theorem dMo_edge_21 : decode cMo_edge 21 = .ok (.iload 6, 2) := by decide +kernel
theorem dMo_edge_23 : decode cMo_edge 23 = .ok (.iaload, 1) := by decide +kernel
theorem dMo_edge_24 : decode cMo_edge 24 = .ok (.iload_n 1, 1) := by decide +kernel
theorem dMo_edge_25 : decode cMo_edge 25 = .ok (.if_icmp .ne 27, 3) := by decide +kernel
theorem dMo_edge_28 : decode cMo_edge 28 = .ok (.iload_n 2, 1) := by decide +kernel
theorem dMo_edge_29 : decode cMo_edge 29 = .ok (.ifCond .eq 13, 3) := by decide +kernel
theorem dMo_edge_32 : decode cMo_edge 32 = .ok (.aload_n 0, 1) := by decide +kernel
theorem dMo_edge_33 : decode cMo_edge 33 = .ok (.getfield 26, 3) := by decide +kernel
theorem dMo_edge_36 : decode cMo_edge 36 = .ok (.iload 6, 2) := by decide +kernel
theorem dMo_edge_38 : decode cMo_edge 38 = .ok (.laload, 1) := by decide +kernel
theorem dMo_edge_39 : decode cMo_edge 39 = .ok (.goto 20, 3) := by decide +kernel
theorem dMo_edge_42 : decode cMo_edge 42 = .ok (.aload_n 0, 1) := by decide +kernel
theorem dMo_edge_43 : decode cMo_edge 43 = .ok (.getfield 23, 3) := by decide +kernel
theorem dMo_edge_46 : decode cMo_edge 46 = .ok (.iload 6, 2) := by decide +kernel
theorem dMo_edge_48 : decode cMo_edge 48 = .ok (.laload, 1) := by decide +kernel
theorem dMo_edge_49 : decode cMo_edge 49 = .ok (.goto 10, 3) := by decide +kernel
theorem dMo_edge_52 : decode cMo_edge 52 = .ok (.aload_n 0, 1) := by decide +kernel
theorem dMo_edge_53 : decode cMo_edge 53 = .ok (.getfield 20, 3) := by decide +kernel
theorem dMo_edge_56 : decode cMo_edge 56 = .ok (.iload 6, 2) := by decide +kernel
theorem dMo_edge_58 : decode cMo_edge 58 = .ok (.laload, 1) := by decide +kernel
theorem dMo_edge_59 : decode cMo_edge 59 = .ok (.lstore 7, 2) := by decide +kernel
theorem dMo_edge_61 : decode cMo_edge 61 = .ok (.iload_n 2, 1) := by decide +kernel
theorem dMo_edge_62 : decode cMo_edge 62 = .ok (.ifCond .eq 19, 3) := by decide +kernel
theorem dMo_edge_65 : decode cMo_edge 65 = .ok (.lload 7, 2) := by decide +kernel
theorem dMo_edge_67 : decode cMo_edge 67 = .ok (.lload 4, 2) := by decide +kernel
theorem dMo_edge_69 : decode cMo_edge 69 = .ok (.lcmp, 1) := by decide +kernel
theorem dMo_edge_70 : decode cMo_edge 70 = .ok (.ifCond .le 7, 3) := by decide +kernel
theorem dMo_edge_73 : decode cMo_edge 73 = .ok (.iconst 1, 1) := by decide +kernel
theorem dMo_edge_74 : decode cMo_edge 74 = .ok (.goto 20, 3) := by decide +kernel
theorem dMo_edge_77 : decode cMo_edge 77 = .ok (.iconst 0, 1) := by decide +kernel
theorem dMo_edge_78 : decode cMo_edge 78 = .ok (.goto 16, 3) := by decide +kernel
theorem dMo_edge_81 : decode cMo_edge 81 = .ok (.lload 7, 2) := by decide +kernel
theorem dMo_edge_83 : decode cMo_edge 83 = .ok (.lload 4, 2) := by decide +kernel
theorem dMo_edge_85 : decode cMo_edge 85 = .ok (.lcmp, 1) := by decide +kernel
theorem dMo_edge_86 : decode cMo_edge 86 = .ok (.ifCond .ge 7, 3) := by decide +kernel
theorem dMo_edge_89 : decode cMo_edge 89 = .ok (.iconst 1, 1) := by decide +kernel
theorem dMo_edge_90 : decode cMo_edge 90 = .ok (.goto 4, 3) := by decide +kernel
theorem dMo_edge_93 : decode cMo_edge 93 = .ok (.iconst 0, 1) := by decide +kernel
theorem dMo_edge_94 : decode cMo_edge 94 = .ok (.istore 9, 2) := by decide +kernel
theorem dMo_edge_96 : decode cMo_edge 96 = .ok (.iload_n 3, 1) := by decide +kernel
theorem dMo_edge_97 : decode cMo_edge 97 = .ok (.ifCond .eq 8, 3) := by decide +kernel
theorem dMo_edge_100 : decode cMo_edge 100 = .ok (.iload 9, 2) := by decide +kernel
theorem dMo_edge_102 : decode cMo_edge 102 = .ok (.ifCond .eq 8, 3) := by decide +kernel
theorem dMo_edge_105 : decode cMo_edge 105 = .ok (.lload 7, 2) := by decide +kernel
theorem dMo_edge_107 : decode cMo_edge 107 = .ok (.goto 5, 3) := by decide +kernel
theorem dMo_edge_110 : decode cMo_edge 110 = .ok (.lload 4, 2) := by decide +kernel
theorem dMo_edge_112 : decode cMo_edge 112 = .ok (.lstore 4, 2) := by decide +kernel
theorem dMo_edge_114 : decode cMo_edge 114 = .ok (.iconst 1, 1) := by decide +kernel
theorem dMo_edge_115 : decode cMo_edge 115 = .ok (.istore_n 3, 1) := by decide +kernel
theorem dMo_edge_116 : decode cMo_edge 116 = .ok (.iinc 6 1, 3) := by decide +kernel
theorem dMo_edge_119 : decode cMo_edge 119 = .ok (.goto (-111), 3) := by decide +kernel
theorem dMo_edge_122 : decode cMo_edge 122 = .ok (.lload 4, 2) := by decide +kernel
theorem dMo_edge_124 : decode cMo_edge 124 = .ok (.lreturn, 1) := by decide +kernel
theorem dMo_isOn_0 : decode cMo_isOn 0 = .ok (.aload_n 0, 1) := by decide +kernel
theorem dMo_isOn_1 : decode cMo_isOn 1 = .ok (.getfield 16, 3) := by decide +kernel
theorem dMo_isOn_4 : decode cMo_isOn 4 = .ok (.iload_n 1, 1) := by decide +kernel
theorem dMo_isOn_5 : decode cMo_isOn 5 = .ok (.iaload, 1) := by decide +kernel
theorem dMo_isOn_6 : decode cMo_isOn 6 = .ok (.ifCond .ne 8, 3) := by decide +kernel
theorem dMo_isOn_9 : decode cMo_isOn 9 = .ok (.lload 4, 2) := by decide +kernel
theorem dMo_isOn_11 : decode cMo_isOn 11 = .ok (.goto 4, 3) := by decide +kernel
theorem dMo_isOn_14 : decode cMo_isOn 14 = .ok (.lload_n 2, 1) := by decide +kernel
theorem dMo_isOn_15 : decode cMo_isOn 15 = .ok (.lstore 6, 2) := by decide +kernel
theorem dMo_isOn_17 : decode cMo_isOn 17 = .ok (.aload_n 0, 1) := by decide +kernel
theorem dMo_isOn_18 : decode cMo_isOn 18 = .ok (.getfield 16, 3) := by decide +kernel
theorem dMo_isOn_21 : decode cMo_isOn 21 = .ok (.iload_n 1, 1) := by decide +kernel
theorem dMo_isOn_22 : decode cMo_isOn 22 = .ok (.iaload, 1) := by decide +kernel
theorem dMo_isOn_23 : decode cMo_isOn 23 = .ok (.ifCond .ne 10, 3) := by decide +kernel
theorem dMo_isOn_26 : decode cMo_isOn 26 = .ok (.aload_n 0, 1) := by decide +kernel
theorem dMo_isOn_27 : decode cMo_isOn 27 = .ok (.getfield 90, 3) := by decide +kernel
theorem dMo_isOn_30 : decode cMo_isOn 30 = .ok (.goto 7, 3) := by decide +kernel
theorem dMo_isOn_33 : decode cMo_isOn 33 = .ok (.aload_n 0, 1) := by decide +kernel
theorem dMo_isOn_34 : decode cMo_isOn 34 = .ok (.getfield 86, 3) := by decide +kernel
theorem dMo_isOn_37 : decode cMo_isOn 37 = .ok (.lstore 8, 2) := by decide +kernel
theorem dMo_isOn_39 : decode cMo_isOn 39 = .ok (.aload_n 0, 1) := by decide +kernel
theorem dMo_isOn_40 : decode cMo_isOn 40 = .ok (.getfield 16, 3) := by decide +kernel
theorem dMo_isOn_43 : decode cMo_isOn 43 = .ok (.iload_n 1, 1) := by decide +kernel
theorem dMo_isOn_44 : decode cMo_isOn 44 = .ok (.iaload, 1) := by decide +kernel
theorem dMo_isOn_45 : decode cMo_isOn 45 = .ok (.ifCond .ne 7, 3) := by decide +kernel
theorem dMo_isOn_48 : decode cMo_isOn 48 = .ok (.lload_n 2, 1) := by decide +kernel
theorem dMo_isOn_49 : decode cMo_isOn 49 = .ok (.goto 5, 3) := by decide +kernel
theorem dMo_isOn_52 : decode cMo_isOn 52 = .ok (.lload 4, 2) := by decide +kernel
theorem dMo_isOn_54 : decode cMo_isOn 54 = .ok (.lstore 10, 2) := by decide +kernel
theorem dMo_isOn_56 : decode cMo_isOn 56 = .ok (.aload_n 0, 1) := by decide +kernel
theorem dMo_isOn_57 : decode cMo_isOn 57 = .ok (.getfield 16, 3) := by decide +kernel
theorem dMo_isOn_60 : decode cMo_isOn 60 = .ok (.iload_n 1, 1) := by decide +kernel
theorem dMo_isOn_61 : decode cMo_isOn 61 = .ok (.iaload, 1) := by decide +kernel
theorem dMo_isOn_62 : decode cMo_isOn 62 = .ok (.ifCond .ne 10, 3) := by decide +kernel
theorem dMo_isOn_65 : decode cMo_isOn 65 = .ok (.aload_n 0, 1) := by decide +kernel
theorem dMo_isOn_66 : decode cMo_isOn 66 = .ok (.getfield 86, 3) := by decide +kernel
theorem dMo_isOn_69 : decode cMo_isOn 69 = .ok (.goto 7, 3) := by decide +kernel
theorem dMo_isOn_72 : decode cMo_isOn 72 = .ok (.aload_n 0, 1) := by decide +kernel
theorem dMo_isOn_73 : decode cMo_isOn 73 = .ok (.getfield 90, 3) := by decide +kernel
theorem dMo_isOn_76 : decode cMo_isOn 76 = .ok (.lstore 12, 2) := by decide +kernel
theorem dMo_isOn_78 : decode cMo_isOn 78 = .ok (.aload_n 0, 1) := by decide +kernel
theorem dMo_isOn_79 : decode cMo_isOn 79 = .ok (.getfield 20, 3) := by decide +kernel
theorem dMo_isOn_82 : decode cMo_isOn 82 = .ok (.iload_n 1, 1) := by decide +kernel
theorem dMo_isOn_83 : decode cMo_isOn 83 = .ok (.laload, 1) := by decide +kernel
theorem dMo_isOn_84 : decode cMo_isOn 84 = .ok (.lload 6, 2) := by decide +kernel
theorem dMo_isOn_86 : decode cMo_isOn 86 = .ok (.lcmp, 1) := by decide +kernel
theorem dMo_isOn_87 : decode cMo_isOn 87 = .ok (.ifCond .lt 49, 3) := by decide +kernel
theorem dMo_isOn_90 : decode cMo_isOn 90 = .ok (.aload_n 0, 1) := by decide +kernel
theorem dMo_isOn_91 : decode cMo_isOn 91 = .ok (.getfield 20, 3) := by decide +kernel
theorem dMo_isOn_94 : decode cMo_isOn 94 = .ok (.iload_n 1, 1) := by decide +kernel
theorem dMo_isOn_95 : decode cMo_isOn 95 = .ok (.laload, 1) := by decide +kernel
theorem dMo_isOn_96 : decode cMo_isOn 96 = .ok (.lload 6, 2) := by decide +kernel
theorem dMo_isOn_98 : decode cMo_isOn 98 = .ok (.lload 8, 2) := by decide +kernel
theorem dMo_isOn_100 : decode cMo_isOn 100 = .ok (.ladd, 1) := by decide +kernel
theorem dMo_isOn_101 : decode cMo_isOn 101 = .ok (.lcmp, 1) := by decide +kernel
theorem dMo_isOn_102 : decode cMo_isOn 102 = .ok (.ifCond .gt 34, 3) := by decide +kernel
theorem dMo_isOn_105 : decode cMo_isOn 105 = .ok (.aload_n 0, 1) := by decide +kernel
theorem dMo_isOn_106 : decode cMo_isOn 106 = .ok (.getfield 23, 3) := by decide +kernel
theorem dMo_isOn_109 : decode cMo_isOn 109 = .ok (.iload_n 1, 1) := by decide +kernel
theorem dMo_isOn_110 : decode cMo_isOn 110 = .ok (.laload, 1) := by decide +kernel
theorem dMo_isOn_111 : decode cMo_isOn 111 = .ok (.lload 10, 2) := by decide +kernel
theorem dMo_isOn_113 : decode cMo_isOn 113 = .ok (.lload 12, 2) := by decide +kernel
theorem dMo_isOn_115 : decode cMo_isOn 115 = .ok (.ladd, 1) := by decide +kernel
theorem dMo_isOn_116 : decode cMo_isOn 116 = .ok (.lcmp, 1) := by decide +kernel
theorem dMo_isOn_117 : decode cMo_isOn 117 = .ok (.ifCond .ge 19, 3) := by decide +kernel
theorem dMo_isOn_120 : decode cMo_isOn 120 = .ok (.aload_n 0, 1) := by decide +kernel
theorem dMo_isOn_121 : decode cMo_isOn 121 = .ok (.getfield 26, 3) := by decide +kernel
theorem dMo_isOn_124 : decode cMo_isOn 124 = .ok (.iload_n 1, 1) := by decide +kernel
theorem dMo_isOn_125 : decode cMo_isOn 125 = .ok (.laload, 1) := by decide +kernel
theorem dMo_isOn_126 : decode cMo_isOn 126 = .ok (.lload 10, 2) := by decide +kernel
theorem dMo_isOn_128 : decode cMo_isOn 128 = .ok (.lcmp, 1) := by decide +kernel
theorem dMo_isOn_129 : decode cMo_isOn 129 = .ok (.ifCond .le 7, 3) := by decide +kernel
theorem dMo_isOn_132 : decode cMo_isOn 132 = .ok (.iconst 1, 1) := by decide +kernel
theorem dMo_isOn_133 : decode cMo_isOn 133 = .ok (.goto 4, 3) := by decide +kernel
theorem dMo_isOn_136 : decode cMo_isOn 136 = .ok (.iconst 0, 1) := by decide +kernel
theorem dMo_isOn_137 : decode cMo_isOn 137 = .ok (.ireturn, 1) := by decide +kernel
set_option maxRecDepth 100000 in
theorem kMo_210 : inT (kV "PartDrawingsModel" 210 yMo_sizeOf cMo_sizeOf 3 (some .long)) := gW_l [1461, 1463, 38, 61, 1464] rfl (by decide +kernel)
set_option maxRecDepth 100000 in
theorem flMo_80 : Cond.fieldLink "PartDrawingsModel" 80 (TMo 36).1 (TMo 36).2.1 (TMo 36).2.2.1 ∈ gW := gW_1 1242 rfl rfl
set_option maxRecDepth 100000 in
theorem kMo_213 : inT (kV "PartDrawingsModel" 213 yMo_compare cMo_compare 4 (some .int)) := gW_l [1469, 1471, 40, 61, 1472] rfl (by decide +kernel)
set_option maxRecDepth 100000 in
theorem kMo_217 : inT (kV "PartDrawingsModel" 217 yMo_sortSizes cMo_sortSizes 12 none) := gW_l [1457, 1459, 37, 61, 1460] rfl (by decide +kernel)
set_option maxRecDepth 100000 in
theorem kMo_220 : inT (kV "PartDrawingsModel" 220 yMo_lineOf cMo_lineOf 6 (some .int)) := gW_l [1465, 1467, 39, 61, 1468] rfl (by decide +kernel)
set_option maxRecDepth 100000 in
theorem flMo_90 : Cond.fieldLink "PartDrawingsModel" 90 (TMo 2).1 (TMo 2).2.1 (TMo 2).2.2.1 ∈ gW := gW_1 1208 rfl rfl
set_option maxRecDepth 100000 in
theorem flMo_86 : Cond.fieldLink "PartDrawingsModel" 86 (TMo 1).1 (TMo 1).2.1 (TMo 1).2.2.1 ∈ gW := gW_1 1207 rfl rfl
set_option maxHeartbeats 4000000 in
set_option maxRecDepth 100000 in
theorem m_sortSizes (l : Launch) (D : va_G) (cI cG cL cB : ClassId) (m0 : Nat) (cd : Int) (wi : Int) (hi : Int) (bn : Int) (af : Nat) (at_ : Nat) (dr : Int) (sz : Int) (au : Nat) (ap : Nat) (ab : Nat) (ae : Nat) (ah : Nat) (kp : Int) (ks : Int) (ku : Nat) (kq : Nat) (kb : Nat) (ke : Nat) (kh : Nat) (als : Int) (gf : Nat) (gt : Nat) (ses : Int) (sf : Nat) (st : Nat) (les : Int) (ef : Nat) (et : Nat) (mes : Int) (xa : Nat) (xf : Nat) (xt : Nat) (xr : Nat) (lb : Nat) (lbs : Int) (so : Nat) (From : Int → Int) (To : Int → Int) (Srt : Int → Int) (bFrom : ∀ j : Int, I64 (From j)) (bTo : ∀ j : Int, I64 (To j)) (bSrt : ∀ j : Int, I64 (Srt j)) (hbn0 : 0 ≤ bn) (hbn1 : bn ≤ 24) (hMB : moB bn From To) : Cv l yMo_sortSizes cMo_sortSizes 12 none 1 0 0 D zCl (zT cI cG cL cB) [.ref m0] [(m0, .inr (10, [.int (zI cd), .long (zL wi), .long (zL hi), .int (zI bn), .ref af, .ref at_, .int (zI dr), .int (zI sz), .ref au, .ref ap, .ref ab, .ref ae, .ref ah, .int (zI kp), .int (zI ks), .ref ku, .ref kq, .ref kb, .ref ke, .ref kh, .int (zI als), .ref gf, .ref gt, .int (zI ses), .ref sf, .ref st, .int (zI les), .ref ef, .ref et, .int (zI mes), .ref xa, .ref xf, .ref xt, .ref xr, .ref lb, .int (zI lbs), .ref so])), (af, .inl (cL, 72, .inr (.inl (fL From)))), (at_, .inl (cL, 72, .inr (.inl (fL To)))), (so, .inl (cL, 72, .inr (.inl (fL Srt))))] (fun w => ∃ Srt2 : Int → Int, (∀ j : Int, I64 (Srt2 j)) ∧ (srtP From To bn Srt2) ∧ w = [(m0, .inr (10, [.int (zI cd), .long (zL wi), .long (zL hi), .int (zI bn), .ref af, .ref at_, .int (zI dr), .int (zI sz), .ref au, .ref ap, .ref ab, .ref ae, .ref ah, .int (zI kp), .int (zI ks), .ref ku, .ref kq, .ref kb, .ref ke, .ref kh, .int (zI als), .ref gf, .ref gt, .int (zI ses), .ref sf, .ref st, .int (zI les), .ref ef, .ref et, .int (zI mes), .ref xa, .ref xf, .ref xt, .ref xr, .ref lb, .int (zI lbs), .ref so])), (af, .inl (cL, 72, .inr (.inl (fL From)))), (at_, .inl (cL, 72, .inr (.inl (fL To)))), (so, .inl (cL, 72, .inr (.inl (fL Srt2))))]) := by
  refine zBv (by decide) (Nat.le_of_ble_eq_true rfl) ?_
  intro p e s m args below meth c ls A H locs Q C hin hl hW hQ
  have hl : lv_has ls 12 [(0, .ref m0)] := hl
  refine lv_iconst (v := zI 0) C.1 C.2.1 dMo_sortSizes_0 (by decide) ?_
  refine lv_istore_n (lv' := [(1, .int (zI 0)), (0, .ref m0)]) C.1 C.2.1 dMo_sortSizes_1 rfl hl (by decide) rfl (fun ls hl => ?_)
  have L2 : ∀ (N : Nat) (j : Int) (Sx : Int → Int), (bn - j).toNat < N → (0 ≤ j) → (j ≤ bn) → (∀ j : Int, I64 (Sx j)) → (srtP From To j Sx) → ∀ (ls : Array Slot) (H : Heap) (locs : List Loc), lv_has ls 12 [(1, .int (zI j)), (0, .ref m0)] → zw D zCl A s [(m0, .inr (10, [.int (zI cd), .long (zL wi), .long (zL hi), .int (zI bn), .ref af, .ref at_, .int (zI dr), .int (zI sz), .ref au, .ref ap, .ref ab, .ref ae, .ref ah, .int (zI kp), .int (zI ks), .ref ku, .ref kq, .ref kb, .ref ke, .ref kh, .int (zI als), .ref gf, .ref gt, .int (zI ses), .ref sf, .ref st, .int (zI les), .ref ef, .ref et, .int (zI mes), .ref xa, .ref xf, .ref xt, .ref xr, .ref lb, .int (zI lbs), .ref so])), (af, .inl (cL, 72, .inr (.inl (fL From)))), (at_, .inl (cL, 72, .inr (.inl (fL To)))), (so, .inl (cL, 72, .inr (.inl (fL Sx))))] H locs → W p l e (zr 1 0 0) s m args below meth c H locs 0 0 Q (F0 m 2 ls []) := by
    intro N
    induction N with
    | zero => intro j Sx hm; exact absurd hm (Nat.not_lt_zero _)
    | succ N ih2 =>
      intro j Sx hm2 hi0 hi1 hSb hS ls H locs hl hW
      refine lv_iload_n C.1 C.2.1 dMo_sortSizes_2 rfl (lv_at hl 0 rfl) ?_
      refine lv_aload_n C.1 C.2.1 dMo_sortSizes_3 rfl (lv_at hl 1 rfl) ?_
      refine zget C hW 0 3 rfl rfl inMo (by decide) flMo_105 rfl dMo_sortSizes_4 ?_
      refine zicmp_ge (tgt := 148) C (by omega) (by omega) dMo_sortSizes_7 (by decide) (fun c7 => ?_) (fun c7 => ?_)
      · exact hQ _ H locs _ _ _ ls hW ⟨Sx, hSb, (by rw [show bn = j by omega]; exact hS), rfl⟩ (by omega) (by omega) dMo_sortSizes_148
      · have hm0 := hMB (3 * j + 0) (by omega) (by omega)
        have hm1 := hMB (3 * j + 1) (by omega) (by omega)
        have hm2 := hMB (3 * j + 2) (by omega) (by omega)
        refine lv_aload_n C.1 C.2.1 dMo_sortSizes_10 rfl (lv_at hl 1 rfl) ?_
        refine lv_iload_n C.1 C.2.1 dMo_sortSizes_11 rfl (lv_at hl 0 rfl) ?_
        refine lv_iconst (v := zI 0) C.1 C.2.1 dMo_sortSizes_12 (by decide) ?_
        refine zcalll (wr := [(so, .inl (cL, 72, .inr (.inl (fL Sx))))]) C hW [0, 1, 2] [3] rfl rfl (by decide) (by decide) (zRunV (k := 2) (As := [.int (zI j), .int (zI 0)]) (rest := []) C hW (m_sizeOf l D cI cG cL cB m0 cd wi hi bn af at_ dr sz au ap ab ae ah kp ks ku kq kb ke kh als gf gt ses sf st les ef et mes xa xf xt xr lb lbs so From To j 0 bFrom bTo (by omega) (by omega) (by omega) (by omega) (by omega) (by omega) (by omega) H.size) [0, 1, 2] rfl (by decide) kMo_210 (by decide +kernel) ⟨by decide, by decide⟩ 0 rfl rfl rfl hl.1 (Nat.le_of_ble_eq_true rfl) dMo_sortSizes_13 ⟨by first | decide | omega, by first | decide | omega⟩) (fun x w H locs hq hW => ?_)
        obtain ⟨rfl, rfl⟩ := hq
        have hW : zw D zCl A s [(so, .inl (cL, 72, .inr (.inl (fL Sx)))), (m0, .inr (10, [.int (zI cd), .long (zL wi), .long (zL hi), .int (zI bn), .ref af, .ref at_, .int (zI dr), .int (zI sz), .ref au, .ref ap, .ref ab, .ref ae, .ref ah, .int (zI kp), .int (zI ks), .ref ku, .ref kq, .ref kb, .ref ke, .ref kh, .int (zI als), .ref gf, .ref gt, .int (zI ses), .ref sf, .ref st, .int (zI les), .ref ef, .ref et, .int (zI mes), .ref xa, .ref xf, .ref xt, .ref xr, .ref lb, .int (zI lbs), .ref so])), (af, .inl (cL, 72, .inr (.inl (fL From)))), (at_, .inl (cL, 72, .inr (.inl (fL To))))] H locs := hW
        refine lv_lstore_n (lv' := [(2, .long (zL (To (3 * j + 0) - From (3 * j + 0)))), (1, .int (zI j)), (0, .ref m0)]) C.1 C.2.1 dMo_sortSizes_16 rfl hl (by decide) rfl (fun ls hl => ?_)
        refine lv_aload_n C.1 C.2.1 dMo_sortSizes_17 rfl (lv_at hl 2 rfl) ?_
        refine lv_iload_n C.1 C.2.1 dMo_sortSizes_18 rfl (lv_at hl 1 rfl) ?_
        refine lv_iconst (v := zI 1) C.1 C.2.1 dMo_sortSizes_19 (by decide) ?_
        refine zcalll (wr := [(so, .inl (cL, 72, .inr (.inl (fL Sx))))]) C hW [1, 2, 3] [0] rfl rfl (by decide) (by decide) (zRunV (k := 2) (As := [.int (zI j), .int (zI 1)]) (rest := []) C hW (m_sizeOf l D cI cG cL cB m0 cd wi hi bn af at_ dr sz au ap ab ae ah kp ks ku kq kb ke kh als gf gt ses sf st les ef et mes xa xf xt xr lb lbs so From To j 1 bFrom bTo (by omega) (by omega) (by omega) (by omega) (by omega) (by omega) (by omega) H.size) [1, 2, 3] rfl (by decide) kMo_210 (by decide +kernel) ⟨by decide, by decide⟩ 1 rfl rfl rfl hl.1 (Nat.le_of_ble_eq_true rfl) dMo_sortSizes_20 ⟨by first | decide | omega, by first | decide | omega⟩) (fun x w H locs hq hW => ?_)
        obtain ⟨rfl, rfl⟩ := hq
        have hW : zw D zCl A s [(so, .inl (cL, 72, .inr (.inl (fL Sx)))), (m0, .inr (10, [.int (zI cd), .long (zL wi), .long (zL hi), .int (zI bn), .ref af, .ref at_, .int (zI dr), .int (zI sz), .ref au, .ref ap, .ref ab, .ref ae, .ref ah, .int (zI kp), .int (zI ks), .ref ku, .ref kq, .ref kb, .ref ke, .ref kh, .int (zI als), .ref gf, .ref gt, .int (zI ses), .ref sf, .ref st, .int (zI les), .ref ef, .ref et, .int (zI mes), .ref xa, .ref xf, .ref xt, .ref xr, .ref lb, .int (zI lbs), .ref so])), (af, .inl (cL, 72, .inr (.inl (fL From)))), (at_, .inl (cL, 72, .inr (.inl (fL To))))] H locs := hW
        refine lv_lstore (lv' := [(4, .long (zL (To (3 * j + 1) - From (3 * j + 1)))), (2, .long (zL (To (3 * j + 0) - From (3 * j + 0)))), (1, .int (zI j)), (0, .ref m0)]) C.1 C.2.1 dMo_sortSizes_23 hl (by decide) rfl (fun ls hl => ?_)
        refine lv_aload_n C.1 C.2.1 dMo_sortSizes_25 rfl (lv_at hl 3 rfl) ?_
        refine lv_iload_n C.1 C.2.1 dMo_sortSizes_26 rfl (lv_at hl 2 rfl) ?_
        refine lv_iconst (v := zI 2) C.1 C.2.1 dMo_sortSizes_27 (by decide) ?_
        refine zcalll (wr := [(so, .inl (cL, 72, .inr (.inl (fL Sx))))]) C hW [1, 2, 3] [0] rfl rfl (by decide) (by decide) (zRunV (k := 2) (As := [.int (zI j), .int (zI 2)]) (rest := []) C hW (m_sizeOf l D cI cG cL cB m0 cd wi hi bn af at_ dr sz au ap ab ae ah kp ks ku kq kb ke kh als gf gt ses sf st les ef et mes xa xf xt xr lb lbs so From To j 2 bFrom bTo (by omega) (by omega) (by omega) (by omega) (by omega) (by omega) (by omega) H.size) [1, 2, 3] rfl (by decide) kMo_210 (by decide +kernel) ⟨by decide, by decide⟩ 1 rfl rfl rfl hl.1 (Nat.le_of_ble_eq_true rfl) dMo_sortSizes_28 ⟨by first | decide | omega, by first | decide | omega⟩) (fun x w H locs hq hW => ?_)
        obtain ⟨rfl, rfl⟩ := hq
        have hW : zw D zCl A s [(so, .inl (cL, 72, .inr (.inl (fL Sx)))), (m0, .inr (10, [.int (zI cd), .long (zL wi), .long (zL hi), .int (zI bn), .ref af, .ref at_, .int (zI dr), .int (zI sz), .ref au, .ref ap, .ref ab, .ref ae, .ref ah, .int (zI kp), .int (zI ks), .ref ku, .ref kq, .ref kb, .ref ke, .ref kh, .int (zI als), .ref gf, .ref gt, .int (zI ses), .ref sf, .ref st, .int (zI les), .ref ef, .ref et, .int (zI mes), .ref xa, .ref xf, .ref xt, .ref xr, .ref lb, .int (zI lbs), .ref so])), (af, .inl (cL, 72, .inr (.inl (fL From)))), (at_, .inl (cL, 72, .inr (.inl (fL To))))] H locs := hW
        refine lv_lstore (lv' := [(6, .long (zL (To (3 * j + 2) - From (3 * j + 2)))), (4, .long (zL (To (3 * j + 1) - From (3 * j + 1)))), (2, .long (zL (To (3 * j + 0) - From (3 * j + 0)))), (1, .int (zI j)), (0, .ref m0)]) C.1 C.2.1 dMo_sortSizes_31 hl (by decide) rfl (fun ls hl => ?_)
        have L46 : ∀ (m1_ : Int), (m1_ = max (To (3 * j + 0) - From (3 * j + 0)) (To (3 * j + 1) - From (3 * j + 1))) → (0 ≤ m1_ ∧ m1_ ≤ 1000000) → ∀ (ls : Array Slot) (H : Heap) (locs : List Loc), lv_has ls 12 [(6, .long (zL (To (3 * j + 2) - From (3 * j + 2)))), (4, .long (zL (To (3 * j + 1) - From (3 * j + 1)))), (2, .long (zL (To (3 * j + 0) - From (3 * j + 0)))), (1, .int (zI j)), (0, .ref m0)] → zw D zCl A s [(so, .inl (cL, 72, .inr (.inl (fL Sx)))), (m0, .inr (10, [.int (zI cd), .long (zL wi), .long (zL hi), .int (zI bn), .ref af, .ref at_, .int (zI dr), .int (zI sz), .ref au, .ref ap, .ref ab, .ref ae, .ref ah, .int (zI kp), .int (zI ks), .ref ku, .ref kq, .ref kb, .ref ke, .ref kh, .int (zI als), .ref gf, .ref gt, .int (zI ses), .ref sf, .ref st, .int (zI les), .ref ef, .ref et, .int (zI mes), .ref xa, .ref xf, .ref xt, .ref xr, .ref lb, .int (zI lbs), .ref so])), (af, .inl (cL, 72, .inr (.inl (fL From)))), (at_, .inl (cL, 72, .inr (.inl (fL To))))] H locs → W p l e (zr 1 0 0) s m args below meth c H locs 0 0 Q (F0 m 46 ls [.long (zL m1_)]) := by
          intro m1_ hm1_ hm1_b ls H locs hl hW
          refine lv_lstore (lv' := [(8, .long (zL m1_)), (6, .long (zL (To (3 * j + 2) - From (3 * j + 2)))), (4, .long (zL (To (3 * j + 1) - From (3 * j + 1)))), (2, .long (zL (To (3 * j + 0) - From (3 * j + 0)))), (1, .int (zI j)), (0, .ref m0)]) C.1 C.2.1 dMo_sortSizes_46 hl (by decide) rfl (fun ls hl => ?_)
          have L63 : ∀ (m2_ : Int), (m2_ = max (To (3 * j + 0) - From (3 * j + 0)) (max (To (3 * j + 1) - From (3 * j + 1)) (To (3 * j + 2) - From (3 * j + 2)))) → (0 ≤ m2_ ∧ m2_ ≤ 1000000) → ∀ (ls : Array Slot) (H : Heap) (locs : List Loc), lv_has ls 12 [(8, .long (zL m1_)), (6, .long (zL (To (3 * j + 2) - From (3 * j + 2)))), (4, .long (zL (To (3 * j + 1) - From (3 * j + 1)))), (2, .long (zL (To (3 * j + 0) - From (3 * j + 0)))), (1, .int (zI j)), (0, .ref m0)] → zw D zCl A s [(so, .inl (cL, 72, .inr (.inl (fL Sx)))), (m0, .inr (10, [.int (zI cd), .long (zL wi), .long (zL hi), .int (zI bn), .ref af, .ref at_, .int (zI dr), .int (zI sz), .ref au, .ref ap, .ref ab, .ref ae, .ref ah, .int (zI kp), .int (zI ks), .ref ku, .ref kq, .ref kb, .ref ke, .ref kh, .int (zI als), .ref gf, .ref gt, .int (zI ses), .ref sf, .ref st, .int (zI les), .ref ef, .ref et, .int (zI mes), .ref xa, .ref xf, .ref xt, .ref xr, .ref lb, .int (zI lbs), .ref so])), (af, .inl (cL, 72, .inr (.inl (fL From)))), (at_, .inl (cL, 72, .inr (.inl (fL To))))] H locs → W p l e (zr 1 0 0) s m args below meth c H locs 0 0 Q (F0 m 63 ls [.long (zL m2_)]) := by
            intro m2_ hm2_ hm2_b ls H locs hl hW
            refine lv_lstore (lv' := [(8, .long (zL m2_)), (6, .long (zL (To (3 * j + 2) - From (3 * j + 2)))), (4, .long (zL (To (3 * j + 1) - From (3 * j + 1)))), (2, .long (zL (To (3 * j + 0) - From (3 * j + 0)))), (1, .int (zI j)), (0, .ref m0)]) C.1 C.2.1 dMo_sortSizes_63 hl (by decide) rfl (fun ls hl => ?_)
            have L78 : ∀ (n1 : Int), (n1 = min (To (3 * j + 0) - From (3 * j + 0)) (To (3 * j + 1) - From (3 * j + 1))) → (0 ≤ n1 ∧ n1 ≤ 1000000) → ∀ (ls : Array Slot) (H : Heap) (locs : List Loc), lv_has ls 12 [(8, .long (zL m2_)), (6, .long (zL (To (3 * j + 2) - From (3 * j + 2)))), (4, .long (zL (To (3 * j + 1) - From (3 * j + 1)))), (2, .long (zL (To (3 * j + 0) - From (3 * j + 0)))), (1, .int (zI j)), (0, .ref m0)] → zw D zCl A s [(so, .inl (cL, 72, .inr (.inl (fL Sx)))), (m0, .inr (10, [.int (zI cd), .long (zL wi), .long (zL hi), .int (zI bn), .ref af, .ref at_, .int (zI dr), .int (zI sz), .ref au, .ref ap, .ref ab, .ref ae, .ref ah, .int (zI kp), .int (zI ks), .ref ku, .ref kq, .ref kb, .ref ke, .ref kh, .int (zI als), .ref gf, .ref gt, .int (zI ses), .ref sf, .ref st, .int (zI les), .ref ef, .ref et, .int (zI mes), .ref xa, .ref xf, .ref xt, .ref xr, .ref lb, .int (zI lbs), .ref so])), (af, .inl (cL, 72, .inr (.inl (fL From)))), (at_, .inl (cL, 72, .inr (.inl (fL To))))] H locs → W p l e (zr 1 0 0) s m args below meth c H locs 0 0 Q (F0 m 78 ls [.long (zL n1)]) := by
              intro n1 hn1 hn1b ls H locs hl hW
              refine lv_lstore (lv' := [(10, .long (zL n1)), (8, .long (zL m2_)), (6, .long (zL (To (3 * j + 2) - From (3 * j + 2)))), (4, .long (zL (To (3 * j + 1) - From (3 * j + 1)))), (2, .long (zL (To (3 * j + 0) - From (3 * j + 0)))), (1, .int (zI j)), (0, .ref m0)]) C.1 C.2.1 dMo_sortSizes_78 hl (by decide) rfl (fun ls hl => ?_)
              have L95 : ∀ (n2 : Int), (n2 = min (To (3 * j + 0) - From (3 * j + 0)) (min (To (3 * j + 1) - From (3 * j + 1)) (To (3 * j + 2) - From (3 * j + 2)))) → (0 ≤ n2 ∧ n2 ≤ 1000000) → ∀ (ls : Array Slot) (H : Heap) (locs : List Loc), lv_has ls 12 [(10, .long (zL n1)), (8, .long (zL m2_)), (6, .long (zL (To (3 * j + 2) - From (3 * j + 2)))), (4, .long (zL (To (3 * j + 1) - From (3 * j + 1)))), (2, .long (zL (To (3 * j + 0) - From (3 * j + 0)))), (1, .int (zI j)), (0, .ref m0)] → zw D zCl A s [(so, .inl (cL, 72, .inr (.inl (fL Sx)))), (m0, .inr (10, [.int (zI cd), .long (zL wi), .long (zL hi), .int (zI bn), .ref af, .ref at_, .int (zI dr), .int (zI sz), .ref au, .ref ap, .ref ab, .ref ae, .ref ah, .int (zI kp), .int (zI ks), .ref ku, .ref kq, .ref kb, .ref ke, .ref kh, .int (zI als), .ref gf, .ref gt, .int (zI ses), .ref sf, .ref st, .int (zI les), .ref ef, .ref et, .int (zI mes), .ref xa, .ref xf, .ref xt, .ref xr, .ref lb, .int (zI lbs), .ref so])), (af, .inl (cL, 72, .inr (.inl (fL From)))), (at_, .inl (cL, 72, .inr (.inl (fL To))))] H locs → W p l e (zr 1 0 0) s m args below meth c H locs 0 0 Q (F0 m 95 ls [.long (zL n2)]) := by
                intro n2 hn2 hn2b ls H locs hl hW
                refine lv_lstore (lv' := [(10, .long (zL n2)), (8, .long (zL m2_)), (6, .long (zL (To (3 * j + 2) - From (3 * j + 2)))), (4, .long (zL (To (3 * j + 1) - From (3 * j + 1)))), (2, .long (zL (To (3 * j + 0) - From (3 * j + 0)))), (1, .int (zI j)), (0, .ref m0)]) C.1 C.2.1 dMo_sortSizes_95 hl (by decide) rfl (fun ls hl => ?_)
                refine lv_aload_n C.1 C.2.1 dMo_sortSizes_97 rfl (lv_at hl 6 rfl) ?_
                refine zget C hW 1 36 rfl rfl inMo (by decide) flMo_80 rfl dMo_sortSizes_98 ?_
                refine lv_iconst (v := zI 3) C.1 C.2.1 dMo_sortSizes_101 (by decide) ?_
                refine lv_iload_n C.1 C.2.1 dMo_sortSizes_102 rfl (lv_at hl 5 rfl) ?_
                refine zimul C dMo_sortSizes_103 ?_
                refine lv_lload C.1 C.2.1 dMo_sortSizes_104 (lv_at hl 1 rfl) ?_
                refine zlast C hW 0 2 rfl rfl (by omega) (by omega) (by decide) dMo_sortSizes_106 (fun H locs hW => ?_)
                have hB1 : ∀ jj : Int, I64 ((upz Sx (3 * j) m2_) jj) := upz_bL hSb (by omega)
                have hW : zw D zCl A s [(so, .inl (cL, 72, .inr (.inl (fL (upz Sx (3 * j) m2_))))), (m0, .inr (10, [.int (zI cd), .long (zL wi), .long (zL hi), .int (zI bn), .ref af, .ref at_, .int (zI dr), .int (zI sz), .ref au, .ref ap, .ref ab, .ref ae, .ref ah, .int (zI kp), .int (zI ks), .ref ku, .ref kq, .ref kb, .ref ke, .ref kh, .int (zI als), .ref gf, .ref gt, .int (zI ses), .ref sf, .ref st, .int (zI les), .ref ef, .ref et, .int (zI mes), .ref xa, .ref xf, .ref xt, .ref xr, .ref lb, .int (zI lbs), .ref so])), (af, .inl (cL, 72, .inr (.inl (fL From)))), (at_, .inl (cL, 72, .inr (.inl (fL To))))] H locs := hW
                refine lv_aload_n C.1 C.2.1 dMo_sortSizes_107 rfl (lv_at hl 6 rfl) ?_
                refine zget C hW 1 36 rfl rfl inMo (by decide) flMo_80 rfl dMo_sortSizes_108 ?_
                refine lv_iconst (v := zI 3) C.1 C.2.1 dMo_sortSizes_111 (by decide) ?_
                refine lv_iload_n C.1 C.2.1 dMo_sortSizes_112 rfl (lv_at hl 5 rfl) ?_
                refine zimul C dMo_sortSizes_113 ?_
                refine lv_iconst (v := zI 1) C.1 C.2.1 dMo_sortSizes_114 (by decide) ?_
                refine ziadd C dMo_sortSizes_115 ?_
                refine lv_lload_n C.1 C.2.1 dMo_sortSizes_116 rfl (lv_at hl 4 rfl) ?_
                refine lv_lload C.1 C.2.1 dMo_sortSizes_117 (lv_at hl 3 rfl) ?_
                refine zladd C dMo_sortSizes_119 ?_
                refine lv_lload C.1 C.2.1 dMo_sortSizes_120 (lv_at hl 2 rfl) ?_
                refine zladd C dMo_sortSizes_122 ?_
                refine lv_lload C.1 C.2.1 dMo_sortSizes_123 (lv_at hl 1 rfl) ?_
                refine zlsub C dMo_sortSizes_125 ?_
                refine lv_lload C.1 C.2.1 dMo_sortSizes_126 (lv_at hl 0 rfl) ?_
                refine zlsub C dMo_sortSizes_128 ?_
                refine zlast C hW 0 2 rfl rfl (by omega) (by omega) (by decide) dMo_sortSizes_129 (fun H locs hW => ?_)
                have hB2 : ∀ jj : Int, I64 ((upz (upz Sx (3 * j) m2_) ((3 * j) + 1) (((((To (3 * j + 0) - From (3 * j + 0)) + (To (3 * j + 1) - From (3 * j + 1))) + (To (3 * j + 2) - From (3 * j + 2))) - m2_) - n2)) jj) := upz_bL hB1 (by omega)
                have hW : zw D zCl A s [(so, .inl (cL, 72, .inr (.inl (fL (upz (upz Sx (3 * j) m2_) ((3 * j) + 1) (((((To (3 * j + 0) - From (3 * j + 0)) + (To (3 * j + 1) - From (3 * j + 1))) + (To (3 * j + 2) - From (3 * j + 2))) - m2_) - n2)))))), (m0, .inr (10, [.int (zI cd), .long (zL wi), .long (zL hi), .int (zI bn), .ref af, .ref at_, .int (zI dr), .int (zI sz), .ref au, .ref ap, .ref ab, .ref ae, .ref ah, .int (zI kp), .int (zI ks), .ref ku, .ref kq, .ref kb, .ref ke, .ref kh, .int (zI als), .ref gf, .ref gt, .int (zI ses), .ref sf, .ref st, .int (zI les), .ref ef, .ref et, .int (zI mes), .ref xa, .ref xf, .ref xt, .ref xr, .ref lb, .int (zI lbs), .ref so])), (af, .inl (cL, 72, .inr (.inl (fL From)))), (at_, .inl (cL, 72, .inr (.inl (fL To))))] H locs := hW
                refine lv_aload_n C.1 C.2.1 dMo_sortSizes_130 rfl (lv_at hl 6 rfl) ?_
                refine zget C hW 1 36 rfl rfl inMo (by decide) flMo_80 rfl dMo_sortSizes_131 ?_
                refine lv_iconst (v := zI 3) C.1 C.2.1 dMo_sortSizes_134 (by decide) ?_
                refine lv_iload_n C.1 C.2.1 dMo_sortSizes_135 rfl (lv_at hl 5 rfl) ?_
                refine zimul C dMo_sortSizes_136 ?_
                refine lv_iconst (v := zI 2) C.1 C.2.1 dMo_sortSizes_137 (by decide) ?_
                refine ziadd C dMo_sortSizes_138 ?_
                refine lv_lload C.1 C.2.1 dMo_sortSizes_139 (lv_at hl 0 rfl) ?_
                refine zlast C hW 0 2 rfl rfl (by omega) (by omega) (by decide) dMo_sortSizes_141 (fun H locs hW => ?_)
                have hB3 : ∀ jj : Int, I64 ((upz (upz (upz Sx (3 * j) m2_) ((3 * j) + 1) (((((To (3 * j + 0) - From (3 * j + 0)) + (To (3 * j + 1) - From (3 * j + 1))) + (To (3 * j + 2) - From (3 * j + 2))) - m2_) - n2)) ((3 * j) + 2) n2) jj) := upz_bL hB2 (by omega)
                have hW : zw D zCl A s [(so, .inl (cL, 72, .inr (.inl (fL (upz (upz (upz Sx (3 * j) m2_) ((3 * j) + 1) (((((To (3 * j + 0) - From (3 * j + 0)) + (To (3 * j + 1) - From (3 * j + 1))) + (To (3 * j + 2) - From (3 * j + 2))) - m2_) - n2)) ((3 * j) + 2) n2))))), (m0, .inr (10, [.int (zI cd), .long (zL wi), .long (zL hi), .int (zI bn), .ref af, .ref at_, .int (zI dr), .int (zI sz), .ref au, .ref ap, .ref ab, .ref ae, .ref ah, .int (zI kp), .int (zI ks), .ref ku, .ref kq, .ref kb, .ref ke, .ref kh, .int (zI als), .ref gf, .ref gt, .int (zI ses), .ref sf, .ref st, .int (zI les), .ref ef, .ref et, .int (zI mes), .ref xa, .ref xf, .ref xt, .ref xr, .ref lb, .int (zI lbs), .ref so])), (af, .inl (cL, 72, .inr (.inl (fL From)))), (at_, .inl (cL, 72, .inr (.inl (fL To))))] H locs := hW
                refine lv_iinc (v := zI (j + 1)) (lv' := [(1, .int (zI (j + 1))), (10, .long (zL n2)), (8, .long (zL m2_)), (6, .long (zL (To (3 * j + 2) - From (3 * j + 2)))), (4, .long (zL (To (3 * j + 1) - From (3 * j + 1)))), (2, .long (zL (To (3 * j + 0) - From (3 * j + 0)))), (0, .ref m0)]) C.1 C.2.1 dMo_sortSizes_142 hl (k := 5) rfl (zI_add j 1) (by decide) rfl (fun ls hl => ?_)
                refine lv_goto (tgt := 2) C.1 C.2.1 dMo_sortSizes_145 (by decide) ?_
                exact ih2 (j + 1) (upz (upz (upz Sx (3 * j) m2_) ((3 * j) + 1) (((((To (3 * j + 0) - From (3 * j + 0)) + (To (3 * j + 1) - From (3 * j + 1))) + (To (3 * j + 2) - From (3 * j + 2))) - m2_) - n2)) ((3 * j) + 2) n2) (by omega) (by omega) (by omega) hB3 (srtP_s hi0 hS hm2_ (by unfold sm2; rw [show sm1 From To j = m2_ from hm2_.symm, show sm3 From To j = n2 from hn2.symm]; rfl) hn2) ls H locs (lv_sub hl [0, 6] rfl) (zwp hW [1, 2, 3, 0] rfl (by decide))
              refine lv_lload C.1 C.2.1 dMo_sortSizes_80 (lv_at hl 2 rfl) ?_
              refine lv_lload C.1 C.2.1 dMo_sortSizes_82 (lv_at hl 0 rfl) ?_
              refine zlcmp_ge (tgt := 93) C (by omega) (by omega) dMo_sortSizes_84 dMo_sortSizes_85 (by decide) (fun c84 => ?_) (fun c84 => ?_)
              · refine lv_lload C.1 C.2.1 dMo_sortSizes_93 (lv_at hl 0 rfl) ?_
                exact L95 n1 (by omega) (by omega) ls H locs (lv_sub hl [0, 1, 2, 3, 4, 5, 6] rfl) hW
              · refine lv_lload C.1 C.2.1 dMo_sortSizes_88 (lv_at hl 2 rfl) ?_
                refine lv_goto (tgt := 95) C.1 C.2.1 dMo_sortSizes_90 (by decide) ?_
                exact L95 (To (3 * j + 2) - From (3 * j + 2)) (by omega) (by omega) ls H locs (lv_sub hl [0, 1, 2, 3, 4, 5, 6] rfl) hW
            refine lv_lload_n C.1 C.2.1 dMo_sortSizes_65 rfl (lv_at hl 3 rfl) ?_
            refine lv_lload C.1 C.2.1 dMo_sortSizes_66 (lv_at hl 2 rfl) ?_
            refine zlcmp_ge (tgt := 76) C (by omega) (by omega) dMo_sortSizes_68 dMo_sortSizes_69 (by decide) (fun c68 => ?_) (fun c68 => ?_)
            · refine lv_lload C.1 C.2.1 dMo_sortSizes_76 (lv_at hl 2 rfl) ?_
              exact L78 (To (3 * j + 1) - From (3 * j + 1)) (by omega) (by omega) ls H locs (lv_sub hl [0, 1, 2, 3, 4, 5] rfl) hW
            · refine lv_lload_n C.1 C.2.1 dMo_sortSizes_72 rfl (lv_at hl 3 rfl) ?_
              refine lv_goto (tgt := 78) C.1 C.2.1 dMo_sortSizes_73 (by decide) ?_
              exact L78 (To (3 * j + 0) - From (3 * j + 0)) (by omega) (by omega) ls H locs (lv_sub hl [0, 1, 2, 3, 4, 5] rfl) hW
          refine lv_lload C.1 C.2.1 dMo_sortSizes_48 (lv_at hl 1 rfl) ?_
          refine lv_lload C.1 C.2.1 dMo_sortSizes_50 (lv_at hl 0 rfl) ?_
          refine zlcmp_le (tgt := 61) C (by omega) (by omega) dMo_sortSizes_52 dMo_sortSizes_53 (by decide) (fun c52 => ?_) (fun c52 => ?_)
          · refine lv_lload C.1 C.2.1 dMo_sortSizes_61 (lv_at hl 0 rfl) ?_
            exact L63 m1_ (by omega) (by omega) ls H locs (lv_sub hl [0, 1, 2, 3, 4, 5] rfl) hW
          · refine lv_lload C.1 C.2.1 dMo_sortSizes_56 (lv_at hl 1 rfl) ?_
            refine lv_goto (tgt := 63) C.1 C.2.1 dMo_sortSizes_58 (by decide) ?_
            exact L63 (To (3 * j + 2) - From (3 * j + 2)) (by omega) (by omega) ls H locs (lv_sub hl [0, 1, 2, 3, 4, 5] rfl) hW
        refine lv_lload_n C.1 C.2.1 dMo_sortSizes_33 rfl (lv_at hl 2 rfl) ?_
        refine lv_lload C.1 C.2.1 dMo_sortSizes_34 (lv_at hl 1 rfl) ?_
        refine zlcmp_le (tgt := 44) C (by omega) (by omega) dMo_sortSizes_36 dMo_sortSizes_37 (by decide) (fun c36 => ?_) (fun c36 => ?_)
        · refine lv_lload C.1 C.2.1 dMo_sortSizes_44 (lv_at hl 1 rfl) ?_
          exact L46 (To (3 * j + 1) - From (3 * j + 1)) (by omega) (by omega) ls H locs (lv_sub hl [0, 1, 2, 3, 4] rfl) hW
        · refine lv_lload_n C.1 C.2.1 dMo_sortSizes_40 rfl (lv_at hl 2 rfl) ?_
          refine lv_goto (tgt := 46) C.1 C.2.1 dMo_sortSizes_41 (by decide) ?_
          exact L46 (To (3 * j + 0) - From (3 * j + 0)) (by omega) (by omega) ls H locs (lv_sub hl [0, 1, 2, 3, 4] rfl) hW
  exact L2 _ 0 Srt (Nat.lt_succ_self _) (by omega) (by omega) bSrt (fun b h0 h1 => absurd h1 (by omega)) ls H locs (lv_sub hl [0, 1] rfl) hW
set_option maxHeartbeats 4000000 in
set_option maxRecDepth 100000 in
theorem m_compare (l : Launch) (D : va_G) (cI cG cL cB : ClassId) (m0 : Nat) (cd : Int) (wi : Int) (hi : Int) (bn : Int) (af : Nat) (at_ : Nat) (dr : Int) (sz : Int) (au : Nat) (ap : Nat) (ab : Nat) (ae : Nat) (ah : Nat) (kp : Int) (ks : Int) (ku : Nat) (kq : Nat) (kb : Nat) (ke : Nat) (kh : Nat) (als : Int) (gf : Nat) (gt : Nat) (ses : Int) (sf : Nat) (st : Nat) (les : Int) (ef : Nat) (et : Nat) (mes : Int) (xa : Nat) (xf : Nat) (xt : Nat) (xr : Nat) (lb : Nat) (lbs : Int) (so : Nat) (Srt : Int → Int) (a : Int) (b : Int) (bSrt : ∀ j : Int, I64 (Srt j)) (ha : 0 ≤ a ∧ a < 24) (hb : 0 ≤ b ∧ b < 24) : Ci l yMo_compare cMo_compare 4 (some .int) 0 0 0 D zCl (zT cI cG cL cB) [.ref m0, .int (zI a), .int (zI b)] [(m0, .inr (10, [.int (zI cd), .long (zL wi), .long (zL hi), .int (zI bn), .ref af, .ref at_, .int (zI dr), .int (zI sz), .ref au, .ref ap, .ref ab, .ref ae, .ref ah, .int (zI kp), .int (zI ks), .ref ku, .ref kq, .ref kb, .ref ke, .ref kh, .int (zI als), .ref gf, .ref gt, .int (zI ses), .ref sf, .ref st, .int (zI les), .ref ef, .ref et, .int (zI mes), .ref xa, .ref xf, .ref xt, .ref xr, .ref lb, .int (zI lbs), .ref so])), (so, .inl (cL, 72, .inr (.inl (fL Srt))))] (fun x w => x = zI (cq Srt a b) ∧ w = [(m0, .inr (10, [.int (zI cd), .long (zL wi), .long (zL hi), .int (zI bn), .ref af, .ref at_, .int (zI dr), .int (zI sz), .ref au, .ref ap, .ref ab, .ref ae, .ref ah, .int (zI kp), .int (zI ks), .ref ku, .ref kq, .ref kb, .ref ke, .ref kh, .int (zI als), .ref gf, .ref gt, .int (zI ses), .ref sf, .ref st, .int (zI les), .ref ef, .ref et, .int (zI mes), .ref xa, .ref xf, .ref xt, .ref xr, .ref lb, .int (zI lbs), .ref so])), (so, .inl (cL, 72, .inr (.inl (fL Srt))))]) := by
  refine zBi (by decide) (Nat.le_of_ble_eq_true rfl) ?_
  intro p e s m args below meth c ls A H locs Q C hin hl hW hQ
  have hl : lv_has ls 4 [(0, .ref m0), (1, .int (zI a)), (2, .int (zI b))] := hl
  refine lv_iconst (v := zI 0) C.1 C.2.1 dMo_compare_0 (by decide) ?_
  refine lv_istore_n (lv' := [(3, .int (zI 0)), (0, .ref m0), (1, .int (zI a)), (2, .int (zI b))]) C.1 C.2.1 dMo_compare_1 rfl hl (by decide) rfl (fun ls hl => ?_)
  have L2 : ∀ (N : Nat) (k : Int), (3 - k).toNat < N → (0 ≤ k) → (k ≤ 3) → (∀ i : Int, 0 ≤ i → i < k → Srt (3 * a + i) = Srt (3 * b + i)) → ∀ (ls : Array Slot) (H : Heap) (locs : List Loc), lv_has ls 4 [(3, .int (zI k)), (0, .ref m0), (1, .int (zI a)), (2, .int (zI b))] → zw D zCl A s [(m0, .inr (10, [.int (zI cd), .long (zL wi), .long (zL hi), .int (zI bn), .ref af, .ref at_, .int (zI dr), .int (zI sz), .ref au, .ref ap, .ref ab, .ref ae, .ref ah, .int (zI kp), .int (zI ks), .ref ku, .ref kq, .ref kb, .ref ke, .ref kh, .int (zI als), .ref gf, .ref gt, .int (zI ses), .ref sf, .ref st, .int (zI les), .ref ef, .ref et, .int (zI mes), .ref xa, .ref xf, .ref xt, .ref xr, .ref lb, .int (zI lbs), .ref so])), (so, .inl (cL, 72, .inr (.inl (fL Srt))))] H locs → W p l e (zr 0 0 0) s m args below meth c H locs 0 0 Q (F0 m 2 ls []) := by
    intro N
    induction N with
    | zero => intro k hm; exact absurd hm (Nat.not_lt_zero _)
    | succ N ih2 =>
      intro k hm2 hk0 hk1 hP ls H locs hl hW
      refine lv_iload_n C.1 C.2.1 dMo_compare_2 rfl (lv_at hl 0 rfl) ?_
      refine lv_iconst (v := zI 3) C.1 C.2.1 dMo_compare_3 (by decide) ?_
      refine zicmp_ge (tgt := 67) C (by omega) (by omega) dMo_compare_4 (by decide) (fun c4 => ?_) (fun c4 => ?_)
      · refine lv_iconst (v := zI 0) C.1 C.2.1 dMo_compare_67 (by decide) ?_
        exact hQ (zI 0) _ H locs _ _ _ ls hW ⟨congrArg zI (by rw [show k = 3 by omega] at hP; rw [cq_e hP]), rfl⟩ (by omega) (by omega) dMo_compare_68
      · refine lv_aload_n C.1 C.2.1 dMo_compare_7 rfl (lv_at hl 1 rfl) ?_
        refine zget C hW 0 36 rfl rfl inMo (by decide) flMo_80 rfl dMo_compare_8 ?_
        refine lv_iconst (v := zI 3) C.1 C.2.1 dMo_compare_11 (by decide) ?_
        refine lv_iload_n C.1 C.2.1 dMo_compare_12 rfl (lv_at hl 2 rfl) ?_
        refine zimul C dMo_compare_13 ?_
        refine lv_iload_n C.1 C.2.1 dMo_compare_14 rfl (lv_at hl 0 rfl) ?_
        refine ziadd C dMo_compare_15 ?_
        refine zlald C hW 1 2 rfl rfl (by omega) (by omega) (by decide) dMo_compare_16 ?_
        have hb1 := bSrt ((3 * a) + k)
        refine lv_aload_n C.1 C.2.1 dMo_compare_17 rfl (lv_at hl 1 rfl) ?_
        refine zget C hW 0 36 rfl rfl inMo (by decide) flMo_80 rfl dMo_compare_18 ?_
        refine lv_iconst (v := zI 3) C.1 C.2.1 dMo_compare_21 (by decide) ?_
        refine lv_iload_n C.1 C.2.1 dMo_compare_22 rfl (lv_at hl 3 rfl) ?_
        refine zimul C dMo_compare_23 ?_
        refine lv_iload_n C.1 C.2.1 dMo_compare_24 rfl (lv_at hl 0 rfl) ?_
        refine ziadd C dMo_compare_25 ?_
        refine zlald C hW 1 2 rfl rfl (by omega) (by omega) (by decide) dMo_compare_26 ?_
        have hb2 := bSrt ((3 * b) + k)
        refine zlcmp_eq (tgt := 61) C (by omega) (by omega) dMo_compare_27 dMo_compare_28 (by decide) (fun c27 => ?_) (fun c27 => ?_)
        · refine lv_iinc (v := zI (k + 1)) (lv' := [(3, .int (zI (k + 1))), (0, .ref m0), (1, .int (zI a)), (2, .int (zI b))]) C.1 C.2.1 dMo_compare_61 hl (k := 0) rfl (zI_add k 1) (by decide) rfl (fun ls hl => ?_)
          refine lv_goto (tgt := 2) C.1 C.2.1 dMo_compare_64 (by decide) ?_
          exact ih2 (k + 1) (by omega) (by omega) (by omega) (fun i h0 h1 => by by_cases h : i = k; subst h; omega; exact hP i h0 (by omega)) ls H locs (lv_sub hl [0, 1, 2, 3] rfl) hW
        · refine lv_aload_n C.1 C.2.1 dMo_compare_31 rfl (lv_at hl 1 rfl) ?_
          refine zget C hW 0 36 rfl rfl inMo (by decide) flMo_80 rfl dMo_compare_32 ?_
          refine lv_iconst (v := zI 3) C.1 C.2.1 dMo_compare_35 (by decide) ?_
          refine lv_iload_n C.1 C.2.1 dMo_compare_36 rfl (lv_at hl 2 rfl) ?_
          refine zimul C dMo_compare_37 ?_
          refine lv_iload_n C.1 C.2.1 dMo_compare_38 rfl (lv_at hl 0 rfl) ?_
          refine ziadd C dMo_compare_39 ?_
          refine zlald C hW 1 2 rfl rfl (by omega) (by omega) (by decide) dMo_compare_40 ?_
          have hb3 := bSrt ((3 * a) + k)
          refine lv_aload_n C.1 C.2.1 dMo_compare_41 rfl (lv_at hl 1 rfl) ?_
          refine zget C hW 0 36 rfl rfl inMo (by decide) flMo_80 rfl dMo_compare_42 ?_
          refine lv_iconst (v := zI 3) C.1 C.2.1 dMo_compare_45 (by decide) ?_
          refine lv_iload_n C.1 C.2.1 dMo_compare_46 rfl (lv_at hl 3 rfl) ?_
          refine zimul C dMo_compare_47 ?_
          refine lv_iload_n C.1 C.2.1 dMo_compare_48 rfl (lv_at hl 0 rfl) ?_
          refine ziadd C dMo_compare_49 ?_
          refine zlald C hW 1 2 rfl rfl (by omega) (by omega) (by decide) dMo_compare_50 ?_
          have hb4 := bSrt ((3 * b) + k)
          refine zlcmp_le (tgt := 59) C (by omega) (by omega) dMo_compare_51 dMo_compare_52 (by decide) (fun c51 => ?_) (fun c51 => ?_)
          · refine lv_iconst (v := zI (-1)) C.1 C.2.1 dMo_compare_59 (by decide) ?_
            exact hQ (zI (-1)) _ H locs _ _ _ ls hW ⟨congrArg zI (by rw [cq_d hk0 (by omega) hP (by omega)]; have := cmpZ_in (Srt (3 * a + k)) (Srt (3 * b + k)); omega), rfl⟩ (by omega) (by omega) dMo_compare_60
          · refine lv_iconst (v := zI 1) C.1 C.2.1 dMo_compare_55 (by decide) ?_
            refine lv_goto (tgt := 60) C.1 C.2.1 dMo_compare_56 (by decide) ?_
            exact hQ (zI 1) _ H locs _ _ _ ls hW ⟨congrArg zI (by rw [cq_d hk0 (by omega) hP (by omega)]; have := cmpZ_in (Srt (3 * a + k)) (Srt (3 * b + k)); omega), rfl⟩ (by omega) (by omega) dMo_compare_60
  exact L2 _ 0 (Nat.lt_succ_self _) (by omega) (by omega) (fun i h0 h1 => absurd h1 (by omega)) ls H locs (lv_sub hl [0, 1, 2, 3] rfl) hW
set_option maxHeartbeats 4000000 in
set_option maxRecDepth 100000 in
theorem m_lineOf (l : Launch) (D : va_G) (cI cG cL cB : ClassId) (m0 : Nat) (cd : Int) (wi : Int) (hi : Int) (bn : Int) (af : Nat) (at_ : Nat) (dr : Int) (sz : Int) (au : Nat) (ap : Nat) (ab : Nat) (ae : Nat) (ah : Nat) (kp : Int) (ks : Int) (ku : Nat) (kq : Nat) (kb : Nat) (ke : Nat) (kh : Nat) (als : Int) (gf : Nat) (gt : Nat) (ses : Int) (sf : Nat) (st : Nat) (les : Int) (ef : Nat) (et : Nat) (mes : Int) (xa : Nat) (xf : Nat) (xt : Nat) (xr : Nat) (lb : Nat) (lbs : Int) (so : Nat) (Srt : Int → Int) (b : Int) (bSrt : ∀ j : Int, I64 (Srt j)) (hbn0 : 0 ≤ bn) (hbn1 : bn ≤ 24) (hb : 0 ≤ b ∧ b < bn) : Ci l yMo_lineOf cMo_lineOf 6 (some .int) 1 0 0 D zCl (zT cI cG cL cB) [.ref m0, .int (zI b)] [(m0, .inr (10, [.int (zI cd), .long (zL wi), .long (zL hi), .int (zI bn), .ref af, .ref at_, .int (zI dr), .int (zI sz), .ref au, .ref ap, .ref ab, .ref ae, .ref ah, .int (zI kp), .int (zI ks), .ref ku, .ref kq, .ref kb, .ref ke, .ref kh, .int (zI als), .ref gf, .ref gt, .int (zI ses), .ref sf, .ref st, .int (zI les), .ref ef, .ref et, .int (zI mes), .ref xa, .ref xf, .ref xt, .ref xr, .ref lb, .int (zI lbs), .ref so])), (so, .inl (cL, 72, .inr (.inl (fL Srt))))] (fun x w => x = zI (lnQ Srt bn b) ∧ w = [(m0, .inr (10, [.int (zI cd), .long (zL wi), .long (zL hi), .int (zI bn), .ref af, .ref at_, .int (zI dr), .int (zI sz), .ref au, .ref ap, .ref ab, .ref ae, .ref ah, .int (zI kp), .int (zI ks), .ref ku, .ref kq, .ref kb, .ref ke, .ref kh, .int (zI als), .ref gf, .ref gt, .int (zI ses), .ref sf, .ref st, .int (zI les), .ref ef, .ref et, .int (zI mes), .ref xa, .ref xf, .ref xt, .ref xr, .ref lb, .int (zI lbs), .ref so])), (so, .inl (cL, 72, .inr (.inl (fL Srt))))]) := by
  refine zBi (by decide) (Nat.le_of_ble_eq_true rfl) ?_
  intro p e s m args below meth c ls A H locs Q C hin hl hW hQ
  have hl : lv_has ls 6 [(0, .ref m0), (1, .int (zI b))] := hl
  refine lv_iconst (v := zI 0) C.1 C.2.1 dMo_lineOf_0 (by decide) ?_
  refine lv_istore_n (lv' := [(2, .int (zI 0)), (0, .ref m0), (1, .int (zI b))]) C.1 C.2.1 dMo_lineOf_1 rfl hl (by decide) rfl (fun ls hl => ?_)
  refine lv_iconst (v := zI 0) C.1 C.2.1 dMo_lineOf_2 (by decide) ?_
  refine lv_istore_n (lv' := [(3, .int (zI 0)), (2, .int (zI 0)), (0, .ref m0), (1, .int (zI b))]) C.1 C.2.1 dMo_lineOf_3 rfl hl (by decide) rfl (fun ls hl => ?_)
  have L4 : ∀ (N : Nat) (o_ : Int) (n_ : Int), (bn - o_).toNat < N → (0 ≤ o_) → (o_ ≤ bn) → (n_ = cntZ (upQ Srt b) o_) → ∀ (ls : Array Slot) (H : Heap) (locs : List Loc), lv_has ls 6 [(3, .int (zI o_)), (2, .int (zI n_)), (0, .ref m0), (1, .int (zI b))] → zw D zCl A s [(m0, .inr (10, [.int (zI cd), .long (zL wi), .long (zL hi), .int (zI bn), .ref af, .ref at_, .int (zI dr), .int (zI sz), .ref au, .ref ap, .ref ab, .ref ae, .ref ah, .int (zI kp), .int (zI ks), .ref ku, .ref kq, .ref kb, .ref ke, .ref kh, .int (zI als), .ref gf, .ref gt, .int (zI ses), .ref sf, .ref st, .int (zI les), .ref ef, .ref et, .int (zI mes), .ref xa, .ref xf, .ref xt, .ref xr, .ref lb, .int (zI lbs), .ref so])), (so, .inl (cL, 72, .inr (.inl (fL Srt))))] H locs → W p l e (zr 1 0 0) s m args below meth c H locs 0 0 Q (F0 m 4 ls []) := by
    intro N
    induction N with
    | zero => intro o_ n_ hm; exact absurd hm (Nat.not_lt_zero _)
    | succ N ih4 =>
      intro o_ n_ hm4 hi0 hi1 hn_ ls H locs hl hW
      have hcn := cntZ_le (upQ Srt b) o_ hi0
      refine lv_iload_n C.1 C.2.1 dMo_lineOf_4 rfl (lv_at hl 0 rfl) ?_
      refine lv_aload_n C.1 C.2.1 dMo_lineOf_5 rfl (lv_at hl 2 rfl) ?_
      refine zget C hW 0 3 rfl rfl inMo (by decide) flMo_105 rfl dMo_lineOf_6 ?_
      refine zicmp_ge (tgt := 80) C (by omega) (by omega) dMo_lineOf_9 (by decide) (fun c9 => ?_) (fun c9 => ?_)
      · refine lv_iload_n C.1 C.2.1 dMo_lineOf_80 rfl (lv_at hl 1 rfl) ?_
        exact hQ (zI n_) _ H locs _ _ _ ls hW ⟨congrArg zI (by rw [hn_, show o_ = bn by omega]; rfl), rfl⟩ (by omega) (by omega) dMo_lineOf_81
      · refine lv_iconst (v := zI 1) C.1 C.2.1 dMo_lineOf_12 (by decide) ?_
        refine lv_istore (lv' := [(4, .int (zI 1)), (3, .int (zI o_)), (2, .int (zI n_)), (0, .ref m0), (1, .int (zI b))]) C.1 C.2.1 dMo_lineOf_13 hl (by decide) rfl (fun ls hl => ?_)
        refine lv_iconst (v := zI 0) C.1 C.2.1 dMo_lineOf_15 (by decide) ?_
        refine lv_istore (lv' := [(5, .int (zI 0)), (4, .int (zI 1)), (3, .int (zI o_)), (2, .int (zI n_)), (0, .ref m0), (1, .int (zI b))]) C.1 C.2.1 dMo_lineOf_16 hl (by decide) rfl (fun ls hl => ?_)
        have L18 : ∀ (N : Nat) (g_ : Int) (u_ : Int), (o_ - g_).toNat < N → (0 ≤ g_) → (g_ ≤ o_) → (u_ = bz (!(anyZ (eqQ Srt o_) g_))) → (u_ = 0 ∨ u_ = 1) → ∀ (ls : Array Slot) (H : Heap) (locs : List Loc), lv_has ls 6 [(5, .int (zI g_)), (4, .int (zI u_)), (3, .int (zI o_)), (2, .int (zI n_)), (0, .ref m0), (1, .int (zI b))] → zw D zCl A s [(m0, .inr (10, [.int (zI cd), .long (zL wi), .long (zL hi), .int (zI bn), .ref af, .ref at_, .int (zI dr), .int (zI sz), .ref au, .ref ap, .ref ab, .ref ae, .ref ah, .int (zI kp), .int (zI ks), .ref ku, .ref kq, .ref kb, .ref ke, .ref kh, .int (zI als), .ref gf, .ref gt, .int (zI ses), .ref sf, .ref st, .int (zI les), .ref ef, .ref et, .int (zI mes), .ref xa, .ref xf, .ref xt, .ref xr, .ref lb, .int (zI lbs), .ref so])), (so, .inl (cL, 72, .inr (.inl (fL Srt))))] H locs → W p l e (zr 1 0 0) s m args below meth c H locs 0 0 Q (F0 m 18 ls []) := by
          intro N
          induction N with
          | zero => intro g_ u_ hm; exact absurd hm (Nat.not_lt_zero _)
          | succ N ih18 =>
            intro g_ u_ hm18 hj0 hj1 hu hu2 ls H locs hl hW
            refine lv_iload C.1 C.2.1 dMo_lineOf_18 (lv_at hl 0 rfl) ?_
            refine lv_iload_n C.1 C.2.1 dMo_lineOf_20 rfl (lv_at hl 2 rfl) ?_
            refine zicmp_ge (tgt := 52) C (by omega) (by omega) dMo_lineOf_21 (by decide) (fun c21 => ?_) (fun c21 => ?_)
            · have L73 : ∀ (z_ : Int), (z_ = n_ + bz (upQ Srt b o_)) → ∀ (ls : Array Slot) (H : Heap) (locs : List Loc), lv_has ls 6 [(5, .int (zI g_)), (4, .int (zI u_)), (3, .int (zI o_)), (2, .int (zI n_)), (0, .ref m0), (1, .int (zI b))] → zw D zCl A s [(m0, .inr (10, [.int (zI cd), .long (zL wi), .long (zL hi), .int (zI bn), .ref af, .ref at_, .int (zI dr), .int (zI sz), .ref au, .ref ap, .ref ab, .ref ae, .ref ah, .int (zI kp), .int (zI ks), .ref ku, .ref kq, .ref kb, .ref ke, .ref kh, .int (zI als), .ref gf, .ref gt, .int (zI ses), .ref sf, .ref st, .int (zI les), .ref ef, .ref et, .int (zI mes), .ref xa, .ref xf, .ref xt, .ref xr, .ref lb, .int (zI lbs), .ref so])), (so, .inl (cL, 72, .inr (.inl (fL Srt))))] H locs → W p l e (zr 1 0 0) s m args below meth c H locs 0 0 Q (F0 m 73 ls [.int (zI z_)]) := by
                intro z_ hz ls H locs hl hW
                refine lv_istore_n (lv' := [(2, .int (zI z_)), (5, .int (zI g_)), (4, .int (zI u_)), (3, .int (zI o_)), (0, .ref m0), (1, .int (zI b))]) C.1 C.2.1 dMo_lineOf_73 rfl hl (by decide) rfl (fun ls hl => ?_)
                refine lv_iinc (v := zI (o_ + 1)) (lv' := [(3, .int (zI (o_ + 1))), (2, .int (zI z_)), (5, .int (zI g_)), (4, .int (zI u_)), (0, .ref m0), (1, .int (zI b))]) C.1 C.2.1 dMo_lineOf_74 hl (k := 3) rfl (zI_add o_ 1) (by decide) rfl (fun ls hl => ?_)
                refine lv_goto (tgt := 4) C.1 C.2.1 dMo_lineOf_77 (by decide) ?_
                exact ih4 (o_ + 1) z_ (by omega) (by omega) (by omega) (by rw [cntZ_s _ hi0, ← hn_]; exact hz) ls H locs (lv_sub hl [0, 1, 4, 5] rfl) hW
              refine lv_iload C.1 C.2.1 dMo_lineOf_52 (lv_at hl 1 rfl) ?_
              refine zif_eq (tgt := 72) C (by omega) dMo_lineOf_54 (by decide) (fun c54 => ?_) (fun c54 => ?_)
              · refine lv_iload_n C.1 C.2.1 dMo_lineOf_72 rfl (lv_at hl 3 rfl) ?_
                exact L73 n_ (by have hgo : o_ = g_ := (by omega); have e : bz (fsQ Srt o_) = u_ := (by rw [hu, ← hgo]; rfl); unfold upQ; rw [bz_and e.symm]; first | (rw [if_pos (by omega)]; omega) | (rw [if_neg (by omega), decide_eq_true (by omega)]; rfl) | (rw [if_neg (by omega), decide_eq_false (by omega)]; show n_ = n_ + 0; omega)) ls H locs (lv_sub hl [0, 1, 2, 3, 4, 5] rfl) hW
              · refine lv_aload_n C.1 C.2.1 dMo_lineOf_57 rfl (lv_at hl 4 rfl) ?_
                refine lv_iload_n C.1 C.2.1 dMo_lineOf_58 rfl (lv_at hl 2 rfl) ?_
                refine lv_iload_n C.1 C.2.1 dMo_lineOf_59 rfl (lv_at hl 5 rfl) ?_
                refine zcalli (wr := []) C hW [0, 1] [] rfl rfl (by decide) (by decide) (zRunV (k := 2) (As := [.int (zI o_), .int (zI b)]) (rest := []) C hW (m_compare l D cI cG cL cB m0 cd wi hi bn af at_ dr sz au ap ab ae ah kp ks ku kq kb ke kh als gf gt ses sf st les ef et mes xa xf xt xr lb lbs so Srt o_ b bSrt (by omega) (by omega) H.size) [0, 1] rfl (by decide) kMo_213 (by decide +kernel) ⟨by decide, by decide⟩ 0 rfl rfl rfl hl.1 (Nat.le_of_ble_eq_true rfl) dMo_lineOf_60 ⟨by first | decide | omega, by first | decide | omega⟩) (fun x w H locs hq hW => ?_)
                obtain ⟨rfl, rfl⟩ := hq
                have hW : zw D zCl A s [(m0, .inr (10, [.int (zI cd), .long (zL wi), .long (zL hi), .int (zI bn), .ref af, .ref at_, .int (zI dr), .int (zI sz), .ref au, .ref ap, .ref ab, .ref ae, .ref ah, .int (zI kp), .int (zI ks), .ref ku, .ref kq, .ref kb, .ref ke, .ref kh, .int (zI als), .ref gf, .ref gt, .int (zI ses), .ref sf, .ref st, .int (zI les), .ref ef, .ref et, .int (zI mes), .ref xa, .ref xf, .ref xt, .ref xr, .ref lb, .int (zI lbs), .ref so])), (so, .inl (cL, 72, .inr (.inl (fL Srt))))] H locs := hW
                have hr1 := cq_in Srt o_ b
                refine zif_le (tgt := 72) C (by omega) dMo_lineOf_63 (by decide) (fun c63 => ?_) (fun c63 => ?_)
                · refine lv_iload_n C.1 C.2.1 dMo_lineOf_72 rfl (lv_at hl 3 rfl) ?_
                  exact L73 n_ (by have hgo : o_ = g_ := (by omega); have e : bz (fsQ Srt o_) = u_ := (by rw [hu, ← hgo]; rfl); unfold upQ; rw [bz_and e.symm]; first | (rw [if_pos (by omega)]; omega) | (rw [if_neg (by omega), decide_eq_true (by omega)]; rfl) | (rw [if_neg (by omega), decide_eq_false (by omega)]; show n_ = n_ + 0; omega)) ls H locs (lv_sub hl [0, 1, 2, 3, 4, 5] rfl) hW
                · refine lv_iload_n C.1 C.2.1 dMo_lineOf_66 rfl (lv_at hl 3 rfl) ?_
                  refine lv_iconst (v := zI 1) C.1 C.2.1 dMo_lineOf_67 (by decide) ?_
                  refine ziadd C dMo_lineOf_68 ?_
                  refine lv_goto (tgt := 73) C.1 C.2.1 dMo_lineOf_69 (by decide) ?_
                  exact L73 (n_ + 1) (by have hgo : o_ = g_ := (by omega); have e : bz (fsQ Srt o_) = u_ := (by rw [hu, ← hgo]; rfl); unfold upQ; rw [bz_and e.symm]; first | (rw [if_pos (by omega)]; omega) | (rw [if_neg (by omega), decide_eq_true (by omega)]; rfl) | (rw [if_neg (by omega), decide_eq_false (by omega)]; show n_ = n_ + 0; omega)) ls H locs (lv_sub hl [0, 1, 2, 3, 4, 5] rfl) hW
            · have L44 : ∀ (v : Int), (v = if u_ = 0 then 0 else bz (!(eqQ Srt o_ g_))) → (v = 0 ∨ v = 1) → ∀ (ls : Array Slot) (H : Heap) (locs : List Loc), lv_has ls 6 [(5, .int (zI g_)), (4, .int (zI u_)), (3, .int (zI o_)), (2, .int (zI n_)), (0, .ref m0), (1, .int (zI b))] → zw D zCl A s [(m0, .inr (10, [.int (zI cd), .long (zL wi), .long (zL hi), .int (zI bn), .ref af, .ref at_, .int (zI dr), .int (zI sz), .ref au, .ref ap, .ref ab, .ref ae, .ref ah, .int (zI kp), .int (zI ks), .ref ku, .ref kq, .ref kb, .ref ke, .ref kh, .int (zI als), .ref gf, .ref gt, .int (zI ses), .ref sf, .ref st, .int (zI les), .ref ef, .ref et, .int (zI mes), .ref xa, .ref xf, .ref xt, .ref xr, .ref lb, .int (zI lbs), .ref so])), (so, .inl (cL, 72, .inr (.inl (fL Srt))))] H locs → W p l e (zr 1 0 0) s m args below meth c H locs 0 0 Q (F0 m 44 ls [.int (zI v)]) := by
                intro v hv hv2 ls H locs hl hW
                refine lv_istore (lv' := [(4, .int (zI v)), (5, .int (zI g_)), (3, .int (zI o_)), (2, .int (zI n_)), (0, .ref m0), (1, .int (zI b))]) C.1 C.2.1 dMo_lineOf_44 hl (by decide) rfl (fun ls hl => ?_)
                refine lv_iinc (v := zI (g_ + 1)) (lv' := [(5, .int (zI (g_ + 1))), (4, .int (zI v)), (3, .int (zI o_)), (2, .int (zI n_)), (0, .ref m0), (1, .int (zI b))]) C.1 C.2.1 dMo_lineOf_46 hl (k := 1) rfl (zI_add g_ 1) (by decide) rfl (fun ls hl => ?_)
                refine lv_goto (tgt := 18) C.1 C.2.1 dMo_lineOf_49 (by decide) ?_
                exact ih18 (g_ + 1) v (by omega) (by omega) (by omega) (by rw [anyZ_s _ hj0, Bool.not_or, bz_and hu]; exact hv) hv2 ls H locs (lv_sub hl [0, 1, 2, 3, 4, 5] rfl) hW
              refine lv_iload C.1 C.2.1 dMo_lineOf_24 (lv_at hl 1 rfl) ?_
              refine zif_eq (tgt := 43) C (by omega) dMo_lineOf_26 (by decide) (fun c26 => ?_) (fun c26 => ?_)
              · refine lv_iconst (v := zI 0) C.1 C.2.1 dMo_lineOf_43 (by decide) ?_
                exact L44 0 (by first | (rw [if_pos (by omega)]; done) | (rw [if_neg (by omega), bz_no]; unfold eqQ; first | (rw [decide_eq_true (by omega)]; rfl) | (rw [decide_eq_false (by omega)]; rfl))) (by omega) ls H locs (lv_sub hl [0, 1, 2, 3, 4, 5] rfl) hW
              · refine lv_aload_n C.1 C.2.1 dMo_lineOf_29 rfl (lv_at hl 4 rfl) ?_
                refine lv_iload C.1 C.2.1 dMo_lineOf_30 (lv_at hl 0 rfl) ?_
                refine lv_iload_n C.1 C.2.1 dMo_lineOf_32 rfl (lv_at hl 2 rfl) ?_
                refine zcalli (wr := []) C hW [0, 1] [] rfl rfl (by decide) (by decide) (zRunV (k := 2) (As := [.int (zI g_), .int (zI o_)]) (rest := []) C hW (m_compare l D cI cG cL cB m0 cd wi hi bn af at_ dr sz au ap ab ae ah kp ks ku kq kb ke kh als gf gt ses sf st les ef et mes xa xf xt xr lb lbs so Srt g_ o_ bSrt (by omega) (by omega) H.size) [0, 1] rfl (by decide) kMo_213 (by decide +kernel) ⟨by decide, by decide⟩ 0 rfl rfl rfl hl.1 (Nat.le_of_ble_eq_true rfl) dMo_lineOf_33 ⟨by first | decide | omega, by first | decide | omega⟩) (fun x w H locs hq hW => ?_)
                obtain ⟨rfl, rfl⟩ := hq
                have hW : zw D zCl A s [(m0, .inr (10, [.int (zI cd), .long (zL wi), .long (zL hi), .int (zI bn), .ref af, .ref at_, .int (zI dr), .int (zI sz), .ref au, .ref ap, .ref ab, .ref ae, .ref ah, .int (zI kp), .int (zI ks), .ref ku, .ref kq, .ref kb, .ref ke, .ref kh, .int (zI als), .ref gf, .ref gt, .int (zI ses), .ref sf, .ref st, .int (zI les), .ref ef, .ref et, .int (zI mes), .ref xa, .ref xf, .ref xt, .ref xr, .ref lb, .int (zI lbs), .ref so])), (so, .inl (cL, 72, .inr (.inl (fL Srt))))] H locs := hW
                have hr2 := cq_in Srt g_ o_
                refine zif_eq (tgt := 43) C (by omega) dMo_lineOf_36 (by decide) (fun c36 => ?_) (fun c36 => ?_)
                · refine lv_iconst (v := zI 0) C.1 C.2.1 dMo_lineOf_43 (by decide) ?_
                  exact L44 0 (by first | (rw [if_pos (by omega)]; done) | (rw [if_neg (by omega), bz_no]; unfold eqQ; first | (rw [decide_eq_true (by omega)]; rfl) | (rw [decide_eq_false (by omega)]; rfl))) (by omega) ls H locs (lv_sub hl [0, 1, 2, 3, 4, 5] rfl) hW
                · refine lv_iconst (v := zI 1) C.1 C.2.1 dMo_lineOf_39 (by decide) ?_
                  refine lv_goto (tgt := 44) C.1 C.2.1 dMo_lineOf_40 (by decide) ?_
                  exact L44 1 (by first | (rw [if_pos (by omega)]; done) | (rw [if_neg (by omega), bz_no]; unfold eqQ; first | (rw [decide_eq_true (by omega)]; rfl) | (rw [decide_eq_false (by omega)]; rfl))) (by omega) ls H locs (lv_sub hl [0, 1, 2, 3, 4, 5] rfl) hW
        exact L18 _ 0 1 (Nat.lt_succ_self _) (by omega) (by omega) rfl (Or.inr rfl) ls H locs (lv_sub hl [0, 1, 2, 3, 4, 5] rfl) hW
  exact L4 _ 0 0 (Nat.lt_succ_self _) (by omega) (by omega) rfl ls H locs (lv_sub hl [0, 1, 2, 3] rfl) hW
set_option maxHeartbeats 4000000 in
set_option maxRecDepth 100000 in
theorem m_list (l : Launch) (D : va_G) (cI cG cL cB : ClassId) (m0 : Nat) (cd : Int) (wi : Int) (hi : Int) (bn : Int) (af : Nat) (at_ : Nat) (dr : Int) (sz : Int) (au : Nat) (ap : Nat) (ab : Nat) (ae : Nat) (ah : Nat) (kp : Int) (ks : Int) (ku : Nat) (kq : Nat) (kb : Nat) (ke : Nat) (kh : Nat) (als : Int) (gf : Nat) (gt : Nat) (ses : Int) (sf : Nat) (st : Nat) (les : Int) (ef : Nat) (et : Nat) (mes : Int) (xa : Nat) (xf : Nat) (xt : Nat) (xr : Nat) (lb : Nat) (lbs : Int) (so : Nat) (From : Int → Int) (To : Int → Int) (Srt : Int → Int) (k : Int) (wh : Int) (bFrom : ∀ j : Int, I64 (From j)) (bTo : ∀ j : Int, I64 (To j)) (bSrt : ∀ j : Int, I64 (Srt j)) (hbn0 : 0 ≤ bn) (hbn1 : bn ≤ 24) (hMB : moB bn From To) (hIk : I32 k) (hIwh : I32 wh) (hfd : ∀ S : Int → Int, srtP From To bn S → 0 ≤ k → k < lnsQ S bn bn → 0 ≤ fndQ S bn k bn) : Cl l yMo_list cMo_list 9 (some .long) 2 0 0 D zCl (zT cI cG cL cB) [.ref m0, .int (zI k), .int (zI wh)] [(m0, .inr (10, [.int (zI cd), .long (zL wi), .long (zL hi), .int (zI bn), .ref af, .ref at_, .int (zI dr), .int (zI sz), .ref au, .ref ap, .ref ab, .ref ae, .ref ah, .int (zI kp), .int (zI ks), .ref ku, .ref kq, .ref kb, .ref ke, .ref kh, .int (zI als), .ref gf, .ref gt, .int (zI ses), .ref sf, .ref st, .int (zI les), .ref ef, .ref et, .int (zI mes), .ref xa, .ref xf, .ref xt, .ref xr, .ref lb, .int (zI lbs), .ref so])), (af, .inl (cL, 72, .inr (.inl (fL From)))), (at_, .inl (cL, 72, .inr (.inl (fL To)))), (so, .inl (cL, 72, .inr (.inl (fL Srt))))] (fun x w => ∃ Srt2 : Int → Int, ∃ cd2 : Int, ∃ r2 : Int, (∀ j : Int, I64 (Srt2 j)) ∧ (srtP From To bn Srt2) ∧ (cd2 = liC (lnsQ Srt2 bn bn) k wh) ∧ (cd2 = 0 → k = -1 → r2 = (lnsQ Srt2 bn bn)) ∧ (cd2 = 0 → k ≠ -1 → r2 = if wh = 3 then cntZ (isQ Srt2 bn k) bn else Srt2 (3 * fndQ Srt2 bn k bn + wh)) ∧ x = zL r2 ∧ w = [(m0, .inr (10, [.int (zI cd2), .long (zL wi), .long (zL hi), .int (zI bn), .ref af, .ref at_, .int (zI dr), .int (zI sz), .ref au, .ref ap, .ref ab, .ref ae, .ref ah, .int (zI kp), .int (zI ks), .ref ku, .ref kq, .ref kb, .ref ke, .ref kh, .int (zI als), .ref gf, .ref gt, .int (zI ses), .ref sf, .ref st, .int (zI les), .ref ef, .ref et, .int (zI mes), .ref xa, .ref xf, .ref xt, .ref xr, .ref lb, .int (zI lbs), .ref so])), (af, .inl (cL, 72, .inr (.inl (fL From)))), (at_, .inl (cL, 72, .inr (.inl (fL To)))), (so, .inl (cL, 72, .inr (.inl (fL Srt2))))]) := by
  refine zBl (by decide) (Nat.le_of_ble_eq_true rfl) ?_
  intro p e s m args below meth c ls A H locs Q C hin hl hW hQ
  have hl : lv_has ls 9 [(0, .ref m0), (1, .int (zI k)), (2, .int (zI wh))] := hl
  refine lv_aload_n C.1 C.2.1 dMo_list_0 rfl (lv_at hl 0 rfl) ?_
  refine zcallv (wr := []) C hW [0, 1, 2, 3] [] rfl rfl (by decide) (by decide) (zRunV (k := 0) (As := []) (rest := []) C hW (m_sortSizes l D cI cG cL cB m0 cd wi hi bn af at_ dr sz au ap ab ae ah kp ks ku kq kb ke kh als gf gt ses sf st les ef et mes xa xf xt xr lb lbs so From To Srt bFrom bTo bSrt (by omega) (by omega) (by omega) H.size) [0, 1, 2, 3] rfl (by decide) kMo_217 (by decide +kernel) ⟨by decide, by decide⟩ 0 rfl rfl rfl hl.1 (Nat.le_of_ble_eq_true rfl) dMo_list_1 ⟨by first | decide | omega, by first | decide | omega⟩) (fun w H locs hq hW => ?_)
  obtain ⟨Srt21, hf2, hf3, rfl⟩ := hq
  have hW : zw D zCl A s [(m0, .inr (10, [.int (zI cd), .long (zL wi), .long (zL hi), .int (zI bn), .ref af, .ref at_, .int (zI dr), .int (zI sz), .ref au, .ref ap, .ref ab, .ref ae, .ref ah, .int (zI kp), .int (zI ks), .ref ku, .ref kq, .ref kb, .ref ke, .ref kh, .int (zI als), .ref gf, .ref gt, .int (zI ses), .ref sf, .ref st, .int (zI les), .ref ef, .ref et, .int (zI mes), .ref xa, .ref xf, .ref xt, .ref xr, .ref lb, .int (zI lbs), .ref so])), (af, .inl (cL, 72, .inr (.inl (fL From)))), (at_, .inl (cL, 72, .inr (.inl (fL To)))), (so, .inl (cL, 72, .inr (.inl (fL Srt21))))] H locs := hW
  have hSP := hf3
  refine lv_iconst (v := zI 0) C.1 C.2.1 dMo_list_4 (by decide) ?_
  refine lv_istore_n (lv' := [(3, .int (zI 0)), (0, .ref m0), (1, .int (zI k)), (2, .int (zI wh))]) C.1 C.2.1 dMo_list_5 rfl hl (by decide) rfl (fun ls hl => ?_)
  refine lv_iconst (v := zI (-1)) C.1 C.2.1 dMo_list_6 (by decide) ?_
  refine lv_istore (lv' := [(4, .int (zI (-1))), (3, .int (zI 0)), (0, .ref m0), (1, .int (zI k)), (2, .int (zI wh))]) C.1 C.2.1 dMo_list_7 hl (by decide) rfl (fun ls hl => ?_)
  refine lv_lconst (v := zL 0) C.1 C.2.1 dMo_list_9 (by decide) ?_
  refine lv_lstore (lv' := [(5, .long (zL 0)), (4, .int (zI (-1))), (3, .int (zI 0)), (0, .ref m0), (1, .int (zI k)), (2, .int (zI wh))]) C.1 C.2.1 dMo_list_10 hl (by decide) rfl (fun ls hl => ?_)
  refine lv_iconst (v := zI 0) C.1 C.2.1 dMo_list_12 (by decide) ?_
  refine lv_istore (lv' := [(7, .int (zI 0)), (5, .long (zL 0)), (4, .int (zI (-1))), (3, .int (zI 0)), (0, .ref m0), (1, .int (zI k)), (2, .int (zI wh))]) C.1 C.2.1 dMo_list_13 hl (by decide) rfl (fun ls hl => ?_)
  have L15 : ∀ (N : Nat) (j : Int) (ls_ : Int) (fo : Int) (ma : Int), (bn - j).toNat < N → (0 ≤ j) → (j ≤ bn) → (ls_ = lnsQ Srt21 bn j) → (0 ≤ ls_ ∧ ls_ ≤ 25) → (fo = fndQ Srt21 bn k j) → (-1 ≤ fo ∧ fo < j ∨ fo = -1) → (ma = cntZ (isQ Srt21 bn k) j) → (0 ≤ ma ∧ ma ≤ j) → ∀ (ls : Array Slot) (H : Heap) (locs : List Loc), lv_has ls 9 [(7, .int (zI j)), (5, .long (zL ma)), (4, .int (zI fo)), (3, .int (zI ls_)), (0, .ref m0), (1, .int (zI k)), (2, .int (zI wh))] → zw D zCl A s [(m0, .inr (10, [.int (zI cd), .long (zL wi), .long (zL hi), .int (zI bn), .ref af, .ref at_, .int (zI dr), .int (zI sz), .ref au, .ref ap, .ref ab, .ref ae, .ref ah, .int (zI kp), .int (zI ks), .ref ku, .ref kq, .ref kb, .ref ke, .ref kh, .int (zI als), .ref gf, .ref gt, .int (zI ses), .ref sf, .ref st, .int (zI les), .ref ef, .ref et, .int (zI mes), .ref xa, .ref xf, .ref xt, .ref xr, .ref lb, .int (zI lbs), .ref so])), (af, .inl (cL, 72, .inr (.inl (fL From)))), (at_, .inl (cL, 72, .inr (.inl (fL To)))), (so, .inl (cL, 72, .inr (.inl (fL Srt21))))] H locs → W p l e (zr 2 0 0) s m args below meth c H locs 0 0 Q (F0 m 15 ls []) := by
    intro N
    induction N with
    | zero => intro j ls_ fo ma hm; exact absurd hm (Nat.not_lt_zero _)
    | succ N ih15 =>
      intro j ls_ fo ma hm15 hi0 hi1 hls hlb hfo hfb hma hmb ls H locs hl hW
      refine lv_iload C.1 C.2.1 dMo_list_15 (lv_at hl 0 rfl) ?_
      refine lv_aload_n C.1 C.2.1 dMo_list_17 rfl (lv_at hl 4 rfl) ?_
      refine zget C hW 0 3 rfl rfl inMo (by decide) flMo_105 rfl dMo_list_18 ?_
      refine zicmp_ge (tgt := 85) C (by omega) (by omega) dMo_list_21 (by decide) (fun c21 => ?_) (fun c21 => ?_)
      · refine lv_aload_n C.1 C.2.1 dMo_list_85 rfl (lv_at hl 4 rfl) ?_
        have L114 : ∀ (v : Int), (v = liC ls_ k wh) → (v = 0 ∧ -1 ≤ k ∧ k < ls_ ∧ 0 ≤ wh ∧ wh ≤ 3 ∨ v = 1 ∨ v = 2) → ∀ (ls : Array Slot) (H : Heap) (locs : List Loc), lv_has ls 9 [(7, .int (zI j)), (5, .long (zL ma)), (4, .int (zI fo)), (3, .int (zI ls_)), (0, .ref m0), (1, .int (zI k)), (2, .int (zI wh))] → zw D zCl A s [(m0, .inr (10, [.int (zI cd), .long (zL wi), .long (zL hi), .int (zI bn), .ref af, .ref at_, .int (zI dr), .int (zI sz), .ref au, .ref ap, .ref ab, .ref ae, .ref ah, .int (zI kp), .int (zI ks), .ref ku, .ref kq, .ref kb, .ref ke, .ref kh, .int (zI als), .ref gf, .ref gt, .int (zI ses), .ref sf, .ref st, .int (zI les), .ref ef, .ref et, .int (zI mes), .ref xa, .ref xf, .ref xt, .ref xr, .ref lb, .int (zI lbs), .ref so])), (af, .inl (cL, 72, .inr (.inl (fL From)))), (at_, .inl (cL, 72, .inr (.inl (fL To)))), (so, .inl (cL, 72, .inr (.inl (fL Srt21))))] H locs → W p l e (zr 2 0 0) s m args below meth c H locs 0 0 Q (F0 m 114 ls [.int (zI v), .ref m0]) := by
          intro v hv hv2 ls H locs hl hW
          refine zput C hW 0 0 tyMo tyMo_ok nmMo rfl rfl inMo (by decide) flMo_93 rfl rfl rfl rfl (Nat.le_of_ble_eq_true rfl) dMo_list_114 (fun H locs hW => ?_)
          have hW : zw D zCl A s [(m0, .inr (10, [.int (zI v), .long (zL wi), .long (zL hi), .int (zI bn), .ref af, .ref at_, .int (zI dr), .int (zI sz), .ref au, .ref ap, .ref ab, .ref ae, .ref ah, .int (zI kp), .int (zI ks), .ref ku, .ref kq, .ref kb, .ref ke, .ref kh, .int (zI als), .ref gf, .ref gt, .int (zI ses), .ref sf, .ref st, .int (zI les), .ref ef, .ref et, .int (zI mes), .ref xa, .ref xf, .ref xt, .ref xr, .ref lb, .int (zI lbs), .ref so])), (af, .inl (cL, 72, .inr (.inl (fL From)))), (at_, .inl (cL, 72, .inr (.inl (fL To)))), (so, .inl (cL, 72, .inr (.inl (fL Srt21))))] H locs := hW
          refine lv_aload_n C.1 C.2.1 dMo_list_117 rfl (lv_at hl 4 rfl) ?_
          refine zget C hW 0 0 rfl rfl inMo (by decide) flMo_93 rfl dMo_list_118 ?_
          refine zif_gt (tgt := 129) C (by omega) dMo_list_121 (by decide) (fun c121 => ?_) (fun c121 => ?_)
          · refine lv_aload_n C.1 C.2.1 dMo_list_129 rfl (lv_at hl 4 rfl) ?_
            refine zget C hW 0 0 rfl rfl inMo (by decide) flMo_93 rfl dMo_list_130 ?_
            refine zif_le (tgt := 140) C (by omega) dMo_list_133 (by decide) (fun c133 => ?_) (fun c133 => ?_)
            · refine lv_iload_n C.1 C.2.1 dMo_list_140 rfl (lv_at hl 3 rfl) ?_
              refine zi2l C (by omega) dMo_list_141 ?_
              exact hQ (zL ls_) _ H locs _ _ _ ls hW ⟨_, v, _, hf2, hSP, (by rw [hv, hls, show bn = j by omega]), (fun h _ => by first | (exfalso; omega) | rw [hls, show bn = j by omega]), (fun h h2 => by exfalso; omega), rfl, rfl⟩ (by omega) (by omega) dMo_list_142
            · refine lv_lconst (v := zL 0) C.1 C.2.1 dMo_list_136 (by decide) ?_
              refine lv_goto (tgt := 142) C.1 C.2.1 dMo_list_137 (by decide) ?_
              exact hQ (zL 0) _ H locs _ _ _ ls hW ⟨_, v, _, hf2, hSP, (by rw [hv, hls, show bn = j by omega]), (fun h _ => by first | (exfalso; omega) | rw [hls, show bn = j by omega]), (fun h h2 => by exfalso; omega), rfl, rfl⟩ (by omega) (by omega) dMo_list_142
          · refine lv_iload_n C.1 C.2.1 dMo_list_124 rfl (lv_at hl 5 rfl) ?_
            refine lv_iconst (v := zI (-1)) C.1 C.2.1 dMo_list_125 (by decide) ?_
            refine zicmp_ne (tgt := 143) C (by omega) (by omega) dMo_list_126 (by decide) (fun c126 => ?_) (fun c126 => ?_)
            · refine lv_iload_n C.1 C.2.1 dMo_list_143 rfl (lv_at hl 6 rfl) ?_
              refine lv_iconst (v := zI 3) C.1 C.2.1 dMo_list_144 (by decide) ?_
              refine zicmp_ne (tgt := 153) C (by omega) (by omega) dMo_list_145 (by decide) (fun c145 => ?_) (fun c145 => ?_)
              · have hbj : bn = j := by omega
                have hfq : 0 ≤ fo := by (have h5 := hfd _ hSP (by omega) (show k < lnsQ Srt21 bn bn by (have h6 : ls_ = lnsQ Srt21 bn bn := (by rw [hls, hbj])); omega); rw [hbj] at h5; rw [hfo, hbj]; exact h5)
                refine lv_aload_n C.1 C.2.1 dMo_list_153 rfl (lv_at hl 4 rfl) ?_
                refine zget C hW 0 36 rfl rfl inMo (by decide) flMo_80 rfl dMo_list_154 ?_
                refine lv_iconst (v := zI 3) C.1 C.2.1 dMo_list_157 (by decide) ?_
                refine lv_iload C.1 C.2.1 dMo_list_158 (lv_at hl 2 rfl) ?_
                refine zimul C dMo_list_160 ?_
                refine lv_iload_n C.1 C.2.1 dMo_list_161 rfl (lv_at hl 6 rfl) ?_
                refine ziadd C dMo_list_162 ?_
                refine zlald C hW 3 2 rfl rfl (by omega) (by omega) (by decide) dMo_list_163 ?_
                have hb4 := hf2 ((3 * fo) + wh)
                exact hQ (zL (Srt21 ((3 * fo) + wh))) _ H locs _ _ _ ls hW ⟨_, v, _, hf2, hSP, (by rw [hv, hls, show bn = j by omega]), (fun h h2 => by exfalso; omega), (fun h h2 => by first | (rw [if_pos (by omega), hma, show bn = j by omega]; done) | rw [if_neg (by omega), hfo, show bn = j by omega]), rfl, rfl⟩ (by omega) (by omega) dMo_list_164
              · refine lv_lload C.1 C.2.1 dMo_list_148 (lv_at hl 1 rfl) ?_
                refine lv_goto (tgt := 164) C.1 C.2.1 dMo_list_150 (by decide) ?_
                exact hQ (zL ma) _ H locs _ _ _ ls hW ⟨_, v, _, hf2, hSP, (by rw [hv, hls, show bn = j by omega]), (fun h h2 => by exfalso; omega), (fun h h2 => by first | (rw [if_pos (by omega), hma, show bn = j by omega]; done) | rw [if_neg (by omega), hfo, show bn = j by omega]), rfl, rfl⟩ (by omega) (by omega) dMo_list_164
            · refine lv_aload_n C.1 C.2.1 dMo_list_129 rfl (lv_at hl 4 rfl) ?_
              refine zget C hW 0 0 rfl rfl inMo (by decide) flMo_93 rfl dMo_list_130 ?_
              refine zif_le (tgt := 140) C (by omega) dMo_list_133 (by decide) (fun c133 => ?_) (fun c133 => ?_)
              · refine lv_iload_n C.1 C.2.1 dMo_list_140 rfl (lv_at hl 3 rfl) ?_
                refine zi2l C (by omega) dMo_list_141 ?_
                exact hQ (zL ls_) _ H locs _ _ _ ls hW ⟨_, v, _, hf2, hSP, (by rw [hv, hls, show bn = j by omega]), (fun h _ => by first | (exfalso; omega) | rw [hls, show bn = j by omega]), (fun h h2 => by exfalso; omega), rfl, rfl⟩ (by omega) (by omega) dMo_list_142
              · refine lv_lconst (v := zL 0) C.1 C.2.1 dMo_list_136 (by decide) ?_
                refine lv_goto (tgt := 142) C.1 C.2.1 dMo_list_137 (by decide) ?_
                exact hQ (zL 0) _ H locs _ _ _ ls hW ⟨_, v, _, hf2, hSP, (by rw [hv, hls, show bn = j by omega]), (fun h _ => by first | (exfalso; omega) | rw [hls, show bn = j by omega]), (fun h h2 => by exfalso; omega), rfl, rfl⟩ (by omega) (by omega) dMo_list_142
        refine lv_iload_n C.1 C.2.1 dMo_list_86 rfl (lv_at hl 5 rfl) ?_
        refine lv_iconst (v := zI (-1)) C.1 C.2.1 dMo_list_87 (by decide) ?_
        refine zicmp_lt (tgt := 96) C (by omega) (by omega) dMo_list_88 (by decide) (fun c88 => ?_) (fun c88 => ?_)
        · refine lv_iconst (v := zI 1) C.1 C.2.1 dMo_list_96 (by decide) ?_
          refine lv_goto (tgt := 114) C.1 C.2.1 dMo_list_97 (by decide) ?_
          exact L114 1 (by unfold liC; first | (rw [if_neg (by omega)]; done) | (rw [if_pos (by omega), if_pos (by omega)]; done) | (rw [if_pos (by omega), if_neg (by omega)]; done)) (by omega) ls H locs (lv_sub hl [0, 1, 2, 3, 4, 5, 6] rfl) hW
        · refine lv_iload_n C.1 C.2.1 dMo_list_91 rfl (lv_at hl 5 rfl) ?_
          refine lv_iload_n C.1 C.2.1 dMo_list_92 rfl (lv_at hl 3 rfl) ?_
          refine zicmp_lt (tgt := 100) C (by omega) (by omega) dMo_list_93 (by decide) (fun c93 => ?_) (fun c93 => ?_)
          · refine lv_iload_n C.1 C.2.1 dMo_list_100 rfl (lv_at hl 6 rfl) ?_
            refine zif_lt (tgt := 109) C (by omega) dMo_list_101 (by decide) (fun c101 => ?_) (fun c101 => ?_)
            · refine lv_iconst (v := zI 2) C.1 C.2.1 dMo_list_109 (by decide) ?_
              refine lv_goto (tgt := 114) C.1 C.2.1 dMo_list_110 (by decide) ?_
              exact L114 2 (by unfold liC; first | (rw [if_neg (by omega)]; done) | (rw [if_pos (by omega), if_pos (by omega)]; done) | (rw [if_pos (by omega), if_neg (by omega)]; done)) (by omega) ls H locs (lv_sub hl [0, 1, 2, 3, 4, 5, 6] rfl) hW
            · refine lv_iload_n C.1 C.2.1 dMo_list_104 rfl (lv_at hl 6 rfl) ?_
              refine lv_iconst (v := zI 3) C.1 C.2.1 dMo_list_105 (by decide) ?_
              refine zicmp_le (tgt := 113) C (by omega) (by omega) dMo_list_106 (by decide) (fun c106 => ?_) (fun c106 => ?_)
              · refine lv_iconst (v := zI 0) C.1 C.2.1 dMo_list_113 (by decide) ?_
                exact L114 0 (by unfold liC; first | (rw [if_neg (by omega)]; done) | (rw [if_pos (by omega), if_pos (by omega)]; done) | (rw [if_pos (by omega), if_neg (by omega)]; done)) (by omega) ls H locs (lv_sub hl [0, 1, 2, 3, 4, 5, 6] rfl) hW
              · refine lv_iconst (v := zI 2) C.1 C.2.1 dMo_list_109 (by decide) ?_
                refine lv_goto (tgt := 114) C.1 C.2.1 dMo_list_110 (by decide) ?_
                exact L114 2 (by unfold liC; first | (rw [if_neg (by omega)]; done) | (rw [if_pos (by omega), if_pos (by omega)]; done) | (rw [if_pos (by omega), if_neg (by omega)]; done)) (by omega) ls H locs (lv_sub hl [0, 1, 2, 3, 4, 5, 6] rfl) hW
          · refine lv_iconst (v := zI 1) C.1 C.2.1 dMo_list_96 (by decide) ?_
            refine lv_goto (tgt := 114) C.1 C.2.1 dMo_list_97 (by decide) ?_
            exact L114 1 (by unfold liC; first | (rw [if_neg (by omega)]; done) | (rw [if_pos (by omega), if_pos (by omega)]; done) | (rw [if_pos (by omega), if_neg (by omega)]; done)) (by omega) ls H locs (lv_sub hl [0, 1, 2, 3, 4, 5, 6] rfl) hW
      · refine lv_aload_n C.1 C.2.1 dMo_list_24 rfl (lv_at hl 4 rfl) ?_
        refine lv_iload C.1 C.2.1 dMo_list_25 (lv_at hl 0 rfl) ?_
        refine zcalli (wr := [(af, .inl (cL, 72, .inr (.inl (fL From)))), (at_, .inl (cL, 72, .inr (.inl (fL To))))]) C hW [0, 3] [1, 2] rfl rfl (by decide) (by decide) (zRunV (k := 1) (As := [.int (zI j)]) (rest := []) C hW (m_lineOf l D cI cG cL cB m0 cd wi hi bn af at_ dr sz au ap ab ae ah kp ks ku kq kb ke kh als gf gt ses sf st les ef et mes xa xf xt xr lb lbs so Srt21 j hf2 (by omega) (by omega) (by omega) H.size) [0, 3] rfl (by decide) kMo_220 (by decide +kernel) ⟨by decide, by decide⟩ 0 rfl rfl rfl hl.1 (Nat.le_of_ble_eq_true rfl) dMo_list_27 ⟨by first | decide | omega, by first | decide | omega⟩) (fun x w H locs hq hW => ?_)
        obtain ⟨rfl, rfl⟩ := hq
        have hW : zw D zCl A s [(af, .inl (cL, 72, .inr (.inl (fL From)))), (at_, .inl (cL, 72, .inr (.inl (fL To)))), (m0, .inr (10, [.int (zI cd), .long (zL wi), .long (zL hi), .int (zI bn), .ref af, .ref at_, .int (zI dr), .int (zI sz), .ref au, .ref ap, .ref ab, .ref ae, .ref ah, .int (zI kp), .int (zI ks), .ref ku, .ref kq, .ref kb, .ref ke, .ref kh, .int (zI als), .ref gf, .ref gt, .int (zI ses), .ref sf, .ref st, .int (zI les), .ref ef, .ref et, .int (zI mes), .ref xa, .ref xf, .ref xt, .ref xr, .ref lb, .int (zI lbs), .ref so])), (so, .inl (cL, 72, .inr (.inl (fL Srt21))))] H locs := hW
        have hr5 := lnQ_in Srt21 (bn := bn) j hbn0
        refine lv_istore (lv' := [(8, .int (zI (lnQ Srt21 bn j))), (7, .int (zI j)), (5, .long (zL ma)), (4, .int (zI fo)), (3, .int (zI ls_)), (0, .ref m0), (1, .int (zI k)), (2, .int (zI wh))]) C.1 C.2.1 dMo_list_30 hl (by decide) rfl (fun ls hl => ?_)
        have L46 : ∀ (l1_ : Int), (l1_ = if ls_ ≤ lnQ Srt21 bn j then lnQ Srt21 bn j + 1 else ls_) → (0 ≤ l1_ ∧ l1_ ≤ 25) → ∀ (ls : Array Slot) (H : Heap) (locs : List Loc), lv_has ls 9 [(8, .int (zI (lnQ Srt21 bn j))), (7, .int (zI j)), (5, .long (zL ma)), (4, .int (zI fo)), (3, .int (zI ls_)), (0, .ref m0), (1, .int (zI k)), (2, .int (zI wh))] → zw D zCl A s [(af, .inl (cL, 72, .inr (.inl (fL From)))), (at_, .inl (cL, 72, .inr (.inl (fL To)))), (m0, .inr (10, [.int (zI cd), .long (zL wi), .long (zL hi), .int (zI bn), .ref af, .ref at_, .int (zI dr), .int (zI sz), .ref au, .ref ap, .ref ab, .ref ae, .ref ah, .int (zI kp), .int (zI ks), .ref ku, .ref kq, .ref kb, .ref ke, .ref kh, .int (zI als), .ref gf, .ref gt, .int (zI ses), .ref sf, .ref st, .int (zI les), .ref ef, .ref et, .int (zI mes), .ref xa, .ref xf, .ref xt, .ref xr, .ref lb, .int (zI lbs), .ref so])), (so, .inl (cL, 72, .inr (.inl (fL Srt21))))] H locs → W p l e (zr 2 0 0) s m args below meth c H locs 0 0 Q (F0 m 46 ls [.int (zI l1_)]) := by
          intro l1_ hl1 hl1b ls H locs hl hW
          refine lv_istore_n (lv' := [(3, .int (zI l1_)), (8, .int (zI (lnQ Srt21 bn j))), (7, .int (zI j)), (5, .long (zL ma)), (4, .int (zI fo)), (0, .ref m0), (1, .int (zI k)), (2, .int (zI wh))]) C.1 C.2.1 dMo_list_46 rfl hl (by decide) rfl (fun ls hl => ?_)
          have L60 : ∀ (f1 : Int), (f1 = if lnQ Srt21 bn j = k then j else fo) → (f1 = j ∨ f1 = fo) → ∀ (ls : Array Slot) (H : Heap) (locs : List Loc), lv_has ls 9 [(3, .int (zI l1_)), (8, .int (zI (lnQ Srt21 bn j))), (7, .int (zI j)), (5, .long (zL ma)), (4, .int (zI fo)), (0, .ref m0), (1, .int (zI k)), (2, .int (zI wh))] → zw D zCl A s [(af, .inl (cL, 72, .inr (.inl (fL From)))), (at_, .inl (cL, 72, .inr (.inl (fL To)))), (m0, .inr (10, [.int (zI cd), .long (zL wi), .long (zL hi), .int (zI bn), .ref af, .ref at_, .int (zI dr), .int (zI sz), .ref au, .ref ap, .ref ab, .ref ae, .ref ah, .int (zI kp), .int (zI ks), .ref ku, .ref kq, .ref kb, .ref ke, .ref kh, .int (zI als), .ref gf, .ref gt, .int (zI ses), .ref sf, .ref st, .int (zI les), .ref ef, .ref et, .int (zI mes), .ref xa, .ref xf, .ref xt, .ref xr, .ref lb, .int (zI lbs), .ref so])), (so, .inl (cL, 72, .inr (.inl (fL Srt21))))] H locs → W p l e (zr 2 0 0) s m args below meth c H locs 0 0 Q (F0 m 60 ls [.int (zI f1)]) := by
            intro f1 hf1 hf1b ls H locs hl hW
            refine lv_istore (lv' := [(4, .int (zI f1)), (3, .int (zI l1_)), (8, .int (zI (lnQ Srt21 bn j))), (7, .int (zI j)), (5, .long (zL ma)), (0, .ref m0), (1, .int (zI k)), (2, .int (zI wh))]) C.1 C.2.1 dMo_list_60 hl (by decide) rfl (fun ls hl => ?_)
            have L77 : ∀ (g1 : Int), (g1 = ma + bz (isQ Srt21 bn k j)) → (g1 = ma ∨ g1 = ma + 1) → ∀ (ls : Array Slot) (H : Heap) (locs : List Loc), lv_has ls 9 [(4, .int (zI f1)), (3, .int (zI l1_)), (8, .int (zI (lnQ Srt21 bn j))), (7, .int (zI j)), (5, .long (zL ma)), (0, .ref m0), (1, .int (zI k)), (2, .int (zI wh))] → zw D zCl A s [(af, .inl (cL, 72, .inr (.inl (fL From)))), (at_, .inl (cL, 72, .inr (.inl (fL To)))), (m0, .inr (10, [.int (zI cd), .long (zL wi), .long (zL hi), .int (zI bn), .ref af, .ref at_, .int (zI dr), .int (zI sz), .ref au, .ref ap, .ref ab, .ref ae, .ref ah, .int (zI kp), .int (zI ks), .ref ku, .ref kq, .ref kb, .ref ke, .ref kh, .int (zI als), .ref gf, .ref gt, .int (zI ses), .ref sf, .ref st, .int (zI les), .ref ef, .ref et, .int (zI mes), .ref xa, .ref xf, .ref xt, .ref xr, .ref lb, .int (zI lbs), .ref so])), (so, .inl (cL, 72, .inr (.inl (fL Srt21))))] H locs → W p l e (zr 2 0 0) s m args below meth c H locs 0 0 Q (F0 m 77 ls [.long (zL g1)]) := by
              intro g1 hg1 hg1b ls H locs hl hW
              refine lv_lstore (lv' := [(5, .long (zL g1)), (4, .int (zI f1)), (3, .int (zI l1_)), (8, .int (zI (lnQ Srt21 bn j))), (7, .int (zI j)), (0, .ref m0), (1, .int (zI k)), (2, .int (zI wh))]) C.1 C.2.1 dMo_list_77 hl (by decide) rfl (fun ls hl => ?_)
              refine lv_iinc (v := zI (j + 1)) (lv' := [(7, .int (zI (j + 1))), (5, .long (zL g1)), (4, .int (zI f1)), (3, .int (zI l1_)), (8, .int (zI (lnQ Srt21 bn j))), (0, .ref m0), (1, .int (zI k)), (2, .int (zI wh))]) C.1 C.2.1 dMo_list_79 hl (k := 4) rfl (zI_add j 1) (by decide) rfl (fun ls hl => ?_)
              refine lv_goto (tgt := 15) C.1 C.2.1 dMo_list_82 (by decide) ?_
              exact ih15 (j + 1) l1_ f1 g1 (by omega) (by omega) (by omega) (by rw [lnsQ_s _ _ hi0, ← hls]; exact hl1) (by omega) (by rw [fndQ_s _ _ _ hi0, ← hfo]; exact hf1) (by omega) (by rw [cntZ_s _ hi0, ← hma]; exact hg1) (by omega) ls H locs (lv_sub hl [0, 1, 2, 3, 5, 6, 7] rfl) (zwp hW [2, 0, 1, 3] rfl (by decide))
            refine lv_iload C.1 C.2.1 dMo_list_62 (lv_at hl 2 rfl) ?_
            refine lv_iload_n C.1 C.2.1 dMo_list_64 rfl (lv_at hl 6 rfl) ?_
            refine zicmp_ne (tgt := 75) C (by omega) (by omega) dMo_list_65 (by decide) (fun c65 => ?_) (fun c65 => ?_)
            · refine lv_lload C.1 C.2.1 dMo_list_75 (lv_at hl 4 rfl) ?_
              exact L77 ma (by unfold isQ; first | (rw [decide_eq_true (by omega)]; rfl) | (rw [decide_eq_false (by omega)]; show ma = ma + 0; omega)) (by omega) ls H locs (lv_sub hl [0, 1, 2, 3, 4, 5, 6, 7] rfl) hW
            · refine lv_lload C.1 C.2.1 dMo_list_68 (lv_at hl 4 rfl) ?_
              refine lv_lconst (v := zL 1) C.1 C.2.1 dMo_list_70 (by decide) ?_
              refine zladd C dMo_list_71 ?_
              refine lv_goto (tgt := 77) C.1 C.2.1 dMo_list_72 (by decide) ?_
              exact L77 (ma + 1) (by unfold isQ; first | (rw [decide_eq_true (by omega)]; rfl) | (rw [decide_eq_false (by omega)]; show ma = ma + 0; omega)) (by omega) ls H locs (lv_sub hl [0, 1, 2, 3, 4, 5, 6, 7] rfl) hW
          refine lv_iload C.1 C.2.1 dMo_list_47 (lv_at hl 1 rfl) ?_
          refine lv_iload_n C.1 C.2.1 dMo_list_49 rfl (lv_at hl 6 rfl) ?_
          refine zicmp_ne (tgt := 58) C (by omega) (by omega) dMo_list_50 (by decide) (fun c50 => ?_) (fun c50 => ?_)
          · refine lv_iload C.1 C.2.1 dMo_list_58 (lv_at hl 4 rfl) ?_
            exact L60 fo (by first | rw [if_pos (by omega)] | rw [if_neg (by omega)]) (by omega) ls H locs (lv_sub hl [0, 1, 2, 3, 4, 5, 6, 7] rfl) hW
          · refine lv_iload C.1 C.2.1 dMo_list_53 (lv_at hl 2 rfl) ?_
            refine lv_goto (tgt := 60) C.1 C.2.1 dMo_list_55 (by decide) ?_
            exact L60 j (by first | rw [if_pos (by omega)] | rw [if_neg (by omega)]) (by omega) ls H locs (lv_sub hl [0, 1, 2, 3, 4, 5, 6, 7] rfl) hW
        refine lv_iload C.1 C.2.1 dMo_list_32 (lv_at hl 0 rfl) ?_
        refine lv_iload_n C.1 C.2.1 dMo_list_34 rfl (lv_at hl 4 rfl) ?_
        refine zicmp_lt (tgt := 45) C (by omega) (by omega) dMo_list_35 (by decide) (fun c35 => ?_) (fun c35 => ?_)
        · refine lv_iload_n C.1 C.2.1 dMo_list_45 rfl (lv_at hl 4 rfl) ?_
          exact L46 ls_ (by first | rw [if_pos (by omega)] | rw [if_neg (by omega)]) (by omega) ls H locs (lv_sub hl [0, 1, 2, 3, 4, 5, 6, 7] rfl) hW
        · refine lv_iload C.1 C.2.1 dMo_list_38 (lv_at hl 0 rfl) ?_
          refine lv_iconst (v := zI 1) C.1 C.2.1 dMo_list_40 (by decide) ?_
          refine ziadd C dMo_list_41 ?_
          refine lv_goto (tgt := 46) C.1 C.2.1 dMo_list_42 (by decide) ?_
          exact L46 (lnQ Srt21 bn j + 1) (by first | rw [if_pos (by omega)] | rw [if_neg (by omega)]) (by omega) ls H locs (lv_sub hl [0, 1, 2, 3, 4, 5, 6, 7] rfl) hW
  exact L15 _ 0 0 (-1) 0 (Nat.lt_succ_self _) (by omega) (by omega) rfl (by omega) rfl (by omega) rfl (by omega) ls H locs (lv_sub hl [0, 1, 2, 3, 4, 5, 6] rfl) hW
set_option maxHeartbeats 4000000 in
set_option maxRecDepth 100000 in
theorem m_edge (l : Launch) (D : va_G) (cI cG cL cB : ClassId) (m0 : Nat) (cd : Int) (wi : Int) (hi : Int) (bn : Int) (af : Nat) (at_ : Nat) (dr : Int) (sz : Int) (au : Nat) (ap : Nat) (ab : Nat) (ae : Nat) (ah : Nat) (kp : Int) (ks : Int) (ku : Nat) (kq : Nat) (kb : Nat) (ke : Nat) (kh : Nat) (als : Int) (gf : Nat) (gt : Nat) (ses : Int) (sf : Nat) (st : Nat) (les : Int) (ef : Nat) (et : Nat) (mes : Int) (xa : Nat) (xf : Nat) (xt : Nat) (xr : Nat) (lb : Nat) (lbs : Int) (so : Nat) (Ups : Int → Int) (Pla : Int → Int) (Beg : Int → Int) (Ens : Int → Int) (Hid : Int → Int) (up : Int) (gr : Int) (bUps : ∀ j : Int, I32 (Ups j)) (bPla : ∀ j : Int, I64 (Pla j)) (bBeg : ∀ j : Int, I64 (Beg j)) (bEns : ∀ j : Int, I64 (Ens j)) (hsz : 0 ≤ sz ∧ sz ≤ 6000) (hMS : moS sz Ups Pla Beg Ens Hid) (hIup : I32 up) (hgr : gr = 0 ∨ gr = 1) : Cl l yMo_edge cMo_edge 10 (some .long) 0 0 0 D zCl (zT cI cG cL cB) [.ref m0, .int (zI up), .int (zI gr)] [(m0, .inr (10, [.int (zI cd), .long (zL wi), .long (zL hi), .int (zI bn), .ref af, .ref at_, .int (zI dr), .int (zI sz), .ref au, .ref ap, .ref ab, .ref ae, .ref ah, .int (zI kp), .int (zI ks), .ref ku, .ref kq, .ref kb, .ref ke, .ref kh, .int (zI als), .ref gf, .ref gt, .int (zI ses), .ref sf, .ref st, .int (zI les), .ref ef, .ref et, .int (zI mes), .ref xa, .ref xf, .ref xt, .ref xr, .ref lb, .int (zI lbs), .ref so])), (au, .inl (cI, 6000, .inl (fI Ups))), (ap, .inl (cL, 6000, .inr (.inl (fL Pla)))), (ab, .inl (cL, 6000, .inr (.inl (fL Beg)))), (ae, .inl (cL, 6000, .inr (.inl (fL Ens))))] (fun x w => x = zL (edM Ups Pla Beg Ens up gr sz) ∧ w = [(m0, .inr (10, [.int (zI cd), .long (zL wi), .long (zL hi), .int (zI bn), .ref af, .ref at_, .int (zI dr), .int (zI sz), .ref au, .ref ap, .ref ab, .ref ae, .ref ah, .int (zI kp), .int (zI ks), .ref ku, .ref kq, .ref kb, .ref ke, .ref kh, .int (zI als), .ref gf, .ref gt, .int (zI ses), .ref sf, .ref st, .int (zI les), .ref ef, .ref et, .int (zI mes), .ref xa, .ref xf, .ref xt, .ref xr, .ref lb, .int (zI lbs), .ref so])), (au, .inl (cI, 6000, .inl (fI Ups))), (ap, .inl (cL, 6000, .inr (.inl (fL Pla)))), (ab, .inl (cL, 6000, .inr (.inl (fL Beg)))), (ae, .inl (cL, 6000, .inr (.inl (fL Ens))))]) := by
  refine zBl (by decide) (Nat.le_of_ble_eq_true rfl) ?_
  intro p e s m args below meth c ls A H locs Q C hin hl hW hQ
  have hl : lv_has ls 10 [(0, .ref m0), (1, .int (zI up)), (2, .int (zI gr))] := hl
  refine lv_iconst (v := zI 0) C.1 C.2.1 dMo_edge_0 (by decide) ?_
  refine lv_istore_n (lv' := [(3, .int (zI 0)), (0, .ref m0), (1, .int (zI up)), (2, .int (zI gr))]) C.1 C.2.1 dMo_edge_1 rfl hl (by decide) rfl (fun ls hl => ?_)
  refine lv_lconst (v := zL 0) C.1 C.2.1 dMo_edge_2 (by decide) ?_
  refine lv_lstore (lv' := [(4, .long (zL 0)), (3, .int (zI 0)), (0, .ref m0), (1, .int (zI up)), (2, .int (zI gr))]) C.1 C.2.1 dMo_edge_3 hl (by decide) rfl (fun ls hl => ?_)
  refine lv_iconst (v := zI 0) C.1 C.2.1 dMo_edge_5 (by decide) ?_
  refine lv_istore (lv' := [(6, .int (zI 0)), (4, .long (zL 0)), (3, .int (zI 0)), (0, .ref m0), (1, .int (zI up)), (2, .int (zI gr))]) C.1 C.2.1 dMo_edge_6 hl (by decide) rfl (fun ls hl => ?_)
  have L8 : ∀ (N : Nat) (j : Int) (so_ : Int) (y_ : Int), (sz - j).toNat < N → (0 ≤ j) → (j ≤ sz) → (j = 0 ∧ so_ = 0 ∨ 0 < j ∧ so_ = 1) → (y_ = edM Ups Pla Beg Ens up gr j) → (B2 y_) → ∀ (ls : Array Slot) (H : Heap) (locs : List Loc), lv_has ls 10 [(6, .int (zI j)), (4, .long (zL y_)), (3, .int (zI so_)), (0, .ref m0), (1, .int (zI up)), (2, .int (zI gr))] → zw D zCl A s [(m0, .inr (10, [.int (zI cd), .long (zL wi), .long (zL hi), .int (zI bn), .ref af, .ref at_, .int (zI dr), .int (zI sz), .ref au, .ref ap, .ref ab, .ref ae, .ref ah, .int (zI kp), .int (zI ks), .ref ku, .ref kq, .ref kb, .ref ke, .ref kh, .int (zI als), .ref gf, .ref gt, .int (zI ses), .ref sf, .ref st, .int (zI les), .ref ef, .ref et, .int (zI mes), .ref xa, .ref xf, .ref xt, .ref xr, .ref lb, .int (zI lbs), .ref so])), (au, .inl (cI, 6000, .inl (fI Ups))), (ap, .inl (cL, 6000, .inr (.inl (fL Pla)))), (ab, .inl (cL, 6000, .inr (.inl (fL Beg)))), (ae, .inl (cL, 6000, .inr (.inl (fL Ens))))] H locs → W p l e (zr 0 0 0) s m args below meth c H locs 0 0 Q (F0 m 8 ls []) := by
    intro N
    induction N with
    | zero => intro j so_ y_ hm; exact absurd hm (Nat.not_lt_zero _)
    | succ N ih8 =>
      intro j so_ y_ hm8 hi0 hi1 hso hy hyb ls H locs hl hW
      refine lv_iload C.1 C.2.1 dMo_edge_8 (lv_at hl 0 rfl) ?_
      refine lv_aload_n C.1 C.2.1 dMo_edge_10 rfl (lv_at hl 3 rfl) ?_
      refine zget C hW 0 7 rfl rfl inMo (by decide) flMo_145 rfl dMo_edge_11 ?_
      refine zicmp_ge (tgt := 122) C (by omega) (by omega) dMo_edge_14 (by decide) (fun c14 => ?_) (fun c14 => ?_)
      · refine lv_lload C.1 C.2.1 dMo_edge_122 (lv_at hl 1 rfl) ?_
        exact hQ (zL y_) _ H locs _ _ _ ls hW ⟨congrArg zL (by rw [hy, show sz = j by omega]), rfl⟩ (by omega) (by omega) dMo_edge_124
      · have L59 : ∀ (a_ : Int), (a_ = edA Ups Pla Beg Ens up gr j) → (B2 a_) → ∀ (ls : Array Slot) (H : Heap) (locs : List Loc), lv_has ls 10 [(6, .int (zI j)), (4, .long (zL y_)), (3, .int (zI so_)), (0, .ref m0), (1, .int (zI up)), (2, .int (zI gr))] → zw D zCl A s [(m0, .inr (10, [.int (zI cd), .long (zL wi), .long (zL hi), .int (zI bn), .ref af, .ref at_, .int (zI dr), .int (zI sz), .ref au, .ref ap, .ref ab, .ref ae, .ref ah, .int (zI kp), .int (zI ks), .ref ku, .ref kq, .ref kb, .ref ke, .ref kh, .int (zI als), .ref gf, .ref gt, .int (zI ses), .ref sf, .ref st, .int (zI les), .ref ef, .ref et, .int (zI mes), .ref xa, .ref xf, .ref xt, .ref xr, .ref lb, .int (zI lbs), .ref so])), (au, .inl (cI, 6000, .inl (fI Ups))), (ap, .inl (cL, 6000, .inr (.inl (fL Pla)))), (ab, .inl (cL, 6000, .inr (.inl (fL Beg)))), (ae, .inl (cL, 6000, .inr (.inl (fL Ens))))] H locs → W p l e (zr 0 0 0) s m args below meth c H locs 0 0 Q (F0 m 59 ls [.long (zL a_)]) := by
          intro a_ ha_ hab ls H locs hl hW
          refine lv_lstore (lv' := [(7, .long (zL a_)), (6, .int (zI j)), (4, .long (zL y_)), (3, .int (zI so_)), (0, .ref m0), (1, .int (zI up)), (2, .int (zI gr))]) C.1 C.2.1 dMo_edge_59 hl (by decide) rfl (fun ls hl => ?_)
          have L94 : ∀ (b_ : Int), (b_ = edB gr a_ y_) → (b_ = 0 ∨ b_ = 1) → ∀ (ls : Array Slot) (H : Heap) (locs : List Loc), lv_has ls 10 [(7, .long (zL a_)), (6, .int (zI j)), (4, .long (zL y_)), (3, .int (zI so_)), (0, .ref m0), (1, .int (zI up)), (2, .int (zI gr))] → zw D zCl A s [(m0, .inr (10, [.int (zI cd), .long (zL wi), .long (zL hi), .int (zI bn), .ref af, .ref at_, .int (zI dr), .int (zI sz), .ref au, .ref ap, .ref ab, .ref ae, .ref ah, .int (zI kp), .int (zI ks), .ref ku, .ref kq, .ref kb, .ref ke, .ref kh, .int (zI als), .ref gf, .ref gt, .int (zI ses), .ref sf, .ref st, .int (zI les), .ref ef, .ref et, .int (zI mes), .ref xa, .ref xf, .ref xt, .ref xr, .ref lb, .int (zI lbs), .ref so])), (au, .inl (cI, 6000, .inl (fI Ups))), (ap, .inl (cL, 6000, .inr (.inl (fL Pla)))), (ab, .inl (cL, 6000, .inr (.inl (fL Beg)))), (ae, .inl (cL, 6000, .inr (.inl (fL Ens))))] H locs → W p l e (zr 0 0 0) s m args below meth c H locs 0 0 Q (F0 m 94 ls [.int (zI b_)]) := by
            intro b_ hb_ hb2 ls H locs hl hW
            refine lv_istore (lv' := [(9, .int (zI b_)), (7, .long (zL a_)), (6, .int (zI j)), (4, .long (zL y_)), (3, .int (zI so_)), (0, .ref m0), (1, .int (zI up)), (2, .int (zI gr))]) C.1 C.2.1 dMo_edge_94 hl (by decide) rfl (fun ls hl => ?_)
            have L112 : ∀ (z_ : Int), (z_ = if j = 0 ∨ edB gr a_ y_ = 1 then a_ else y_) → (B2 z_) → ∀ (ls : Array Slot) (H : Heap) (locs : List Loc), lv_has ls 10 [(9, .int (zI b_)), (7, .long (zL a_)), (6, .int (zI j)), (4, .long (zL y_)), (3, .int (zI so_)), (0, .ref m0), (1, .int (zI up)), (2, .int (zI gr))] → zw D zCl A s [(m0, .inr (10, [.int (zI cd), .long (zL wi), .long (zL hi), .int (zI bn), .ref af, .ref at_, .int (zI dr), .int (zI sz), .ref au, .ref ap, .ref ab, .ref ae, .ref ah, .int (zI kp), .int (zI ks), .ref ku, .ref kq, .ref kb, .ref ke, .ref kh, .int (zI als), .ref gf, .ref gt, .int (zI ses), .ref sf, .ref st, .int (zI les), .ref ef, .ref et, .int (zI mes), .ref xa, .ref xf, .ref xt, .ref xr, .ref lb, .int (zI lbs), .ref so])), (au, .inl (cI, 6000, .inl (fI Ups))), (ap, .inl (cL, 6000, .inr (.inl (fL Pla)))), (ab, .inl (cL, 6000, .inr (.inl (fL Beg)))), (ae, .inl (cL, 6000, .inr (.inl (fL Ens))))] H locs → W p l e (zr 0 0 0) s m args below meth c H locs 0 0 Q (F0 m 112 ls [.long (zL z_)]) := by
              intro z_ hz hzb ls H locs hl hW
              refine lv_lstore (lv' := [(4, .long (zL z_)), (9, .int (zI b_)), (7, .long (zL a_)), (6, .int (zI j)), (3, .int (zI so_)), (0, .ref m0), (1, .int (zI up)), (2, .int (zI gr))]) C.1 C.2.1 dMo_edge_112 hl (by decide) rfl (fun ls hl => ?_)
              refine lv_iconst (v := zI 1) C.1 C.2.1 dMo_edge_114 (by decide) ?_
              refine lv_istore_n (lv' := [(3, .int (zI 1)), (4, .long (zL z_)), (9, .int (zI b_)), (7, .long (zL a_)), (6, .int (zI j)), (0, .ref m0), (1, .int (zI up)), (2, .int (zI gr))]) C.1 C.2.1 dMo_edge_115 rfl hl (by decide) rfl (fun ls hl => ?_)
              refine lv_iinc (v := zI (j + 1)) (lv' := [(6, .int (zI (j + 1))), (3, .int (zI 1)), (4, .long (zL z_)), (9, .int (zI b_)), (7, .long (zL a_)), (0, .ref m0), (1, .int (zI up)), (2, .int (zI gr))]) C.1 C.2.1 dMo_edge_116 hl (k := 4) rfl (zI_add j 1) (by decide) rfl (fun ls hl => ?_)
              refine lv_goto (tgt := 8) C.1 C.2.1 dMo_edge_119 (by decide) ?_
              exact ih8 (j + 1) 1 z_ (by omega) (by omega) (by omega) (by omega) (by rw [edM_s _ _ _ _ _ _ hi0, ← hy, ← ha_]; exact hz) hzb ls H locs (lv_sub hl [0, 2, 1, 5, 6, 7] rfl) hW
            refine lv_iload_n C.1 C.2.1 dMo_edge_96 rfl (lv_at hl 4 rfl) ?_
            refine zif_eq (tgt := 105) C (by omega) dMo_edge_97 (by decide) (fun c97 => ?_) (fun c97 => ?_)
            · refine lv_lload C.1 C.2.1 dMo_edge_105 (lv_at hl 1 rfl) ?_
              refine lv_goto (tgt := 112) C.1 C.2.1 dMo_edge_107 (by decide) ?_
              exact L112 a_ (by rw [← hb_]; first | (rw [if_pos (by omega)]; done) | (rw [if_neg (by omega)]; done)) (by omega) ls H locs (lv_sub hl [0, 1, 2, 3, 4, 5, 6, 7] rfl) hW
            · refine lv_iload C.1 C.2.1 dMo_edge_100 (lv_at hl 0 rfl) ?_
              refine zif_eq (tgt := 110) C (by omega) dMo_edge_102 (by decide) (fun c102 => ?_) (fun c102 => ?_)
              · refine lv_lload C.1 C.2.1 dMo_edge_110 (lv_at hl 3 rfl) ?_
                exact L112 y_ (by rw [← hb_]; first | (rw [if_pos (by omega)]; done) | (rw [if_neg (by omega)]; done)) (by omega) ls H locs (lv_sub hl [0, 1, 2, 3, 4, 5, 6, 7] rfl) hW
              · refine lv_lload C.1 C.2.1 dMo_edge_105 (lv_at hl 1 rfl) ?_
                refine lv_goto (tgt := 112) C.1 C.2.1 dMo_edge_107 (by decide) ?_
                exact L112 a_ (by rw [← hb_]; first | (rw [if_pos (by omega)]; done) | (rw [if_neg (by omega)]; done)) (by omega) ls H locs (lv_sub hl [0, 1, 2, 3, 4, 5, 6, 7] rfl) hW
          refine lv_iload_n C.1 C.2.1 dMo_edge_61 rfl (lv_at hl 6 rfl) ?_
          refine zif_eq (tgt := 81) C (by omega) dMo_edge_62 (by decide) (fun c62 => ?_) (fun c62 => ?_)
          · refine lv_lload C.1 C.2.1 dMo_edge_81 (lv_at hl 0 rfl) ?_
            refine lv_lload C.1 C.2.1 dMo_edge_83 (lv_at hl 2 rfl) ?_
            refine zlcmp_ge (tgt := 93) C (by omega) (by omega) dMo_edge_85 dMo_edge_86 (by decide) (fun c85 => ?_) (fun c85 => ?_)
            · refine lv_iconst (v := zI 0) C.1 C.2.1 dMo_edge_93 (by decide) ?_
              exact L94 0 (by unfold edB; first | (rw [if_pos (by omega), if_pos (by omega)]; done) | (rw [if_pos (by omega), if_neg (by omega)]; done) | (rw [if_neg (by omega), if_pos (by omega)]; done) | (rw [if_neg (by omega), if_neg (by omega)]; done)) (by omega) ls H locs (lv_sub hl [0, 1, 2, 3, 4, 5, 6] rfl) hW
            · refine lv_iconst (v := zI 1) C.1 C.2.1 dMo_edge_89 (by decide) ?_
              refine lv_goto (tgt := 94) C.1 C.2.1 dMo_edge_90 (by decide) ?_
              exact L94 1 (by unfold edB; first | (rw [if_pos (by omega), if_pos (by omega)]; done) | (rw [if_pos (by omega), if_neg (by omega)]; done) | (rw [if_neg (by omega), if_pos (by omega)]; done) | (rw [if_neg (by omega), if_neg (by omega)]; done)) (by omega) ls H locs (lv_sub hl [0, 1, 2, 3, 4, 5, 6] rfl) hW
          · refine lv_lload C.1 C.2.1 dMo_edge_65 (lv_at hl 0 rfl) ?_
            refine lv_lload C.1 C.2.1 dMo_edge_67 (lv_at hl 2 rfl) ?_
            refine zlcmp_le (tgt := 77) C (by omega) (by omega) dMo_edge_69 dMo_edge_70 (by decide) (fun c69 => ?_) (fun c69 => ?_)
            · refine lv_iconst (v := zI 0) C.1 C.2.1 dMo_edge_77 (by decide) ?_
              refine lv_goto (tgt := 94) C.1 C.2.1 dMo_edge_78 (by decide) ?_
              exact L94 0 (by unfold edB; first | (rw [if_pos (by omega), if_pos (by omega)]; done) | (rw [if_pos (by omega), if_neg (by omega)]; done) | (rw [if_neg (by omega), if_pos (by omega)]; done) | (rw [if_neg (by omega), if_neg (by omega)]; done)) (by omega) ls H locs (lv_sub hl [0, 1, 2, 3, 4, 5, 6] rfl) hW
            · refine lv_iconst (v := zI 1) C.1 C.2.1 dMo_edge_73 (by decide) ?_
              refine lv_goto (tgt := 94) C.1 C.2.1 dMo_edge_74 (by decide) ?_
              exact L94 1 (by unfold edB; first | (rw [if_pos (by omega), if_pos (by omega)]; done) | (rw [if_pos (by omega), if_neg (by omega)]; done) | (rw [if_neg (by omega), if_pos (by omega)]; done) | (rw [if_neg (by omega), if_neg (by omega)]; done)) (by omega) ls H locs (lv_sub hl [0, 1, 2, 3, 4, 5, 6] rfl) hW
        have hea := edA_in hMS up gr hi0 (show j < sz by omega)
        refine lv_aload_n C.1 C.2.1 dMo_edge_17 rfl (lv_at hl 3 rfl) ?_
        refine zget C hW 0 8 rfl rfl inMo (by decide) flMo_16 rfl dMo_edge_18 ?_
        refine lv_iload C.1 C.2.1 dMo_edge_21 (lv_at hl 0 rfl) ?_
        refine ziald C hW 1 0 rfl rfl (by omega) (by omega) (by decide) dMo_edge_23 ?_
        have hb1 := bUps j
        refine lv_iload_n C.1 C.2.1 dMo_edge_24 rfl (lv_at hl 4 rfl) ?_
        refine zicmp_ne (tgt := 52) C (by omega) (by omega) dMo_edge_25 (by decide) (fun c25 => ?_) (fun c25 => ?_)
        · refine lv_aload_n C.1 C.2.1 dMo_edge_52 rfl (lv_at hl 3 rfl) ?_
          refine zget C hW 0 9 rfl rfl inMo (by decide) flMo_20 rfl dMo_edge_53 ?_
          refine lv_iload C.1 C.2.1 dMo_edge_56 (lv_at hl 0 rfl) ?_
          refine zlald C hW 2 2 rfl rfl (by omega) (by omega) (by decide) dMo_edge_58 ?_
          have hb2 := bPla j
          exact L59 (Pla j) (by unfold edA; first | (rw [if_neg (by omega)]; done) | (rw [if_pos (by omega), if_pos (by omega)]; done) | (rw [if_pos (by omega), if_neg (by omega)]; done)) (by have := hMS j hi0 (by omega); omega) ls H locs (lv_sub hl [0, 1, 2, 3, 4, 5] rfl) hW
        · refine lv_iload_n C.1 C.2.1 dMo_edge_28 rfl (lv_at hl 5 rfl) ?_
          refine zif_eq (tgt := 42) C (by omega) dMo_edge_29 (by decide) (fun c29 => ?_) (fun c29 => ?_)
          · refine lv_aload_n C.1 C.2.1 dMo_edge_42 rfl (lv_at hl 3 rfl) ?_
            refine zget C hW 0 10 rfl rfl inMo (by decide) flMo_23 rfl dMo_edge_43 ?_
            refine lv_iload C.1 C.2.1 dMo_edge_46 (lv_at hl 0 rfl) ?_
            refine zlald C hW 3 2 rfl rfl (by omega) (by omega) (by decide) dMo_edge_48 ?_
            have hb3 := bBeg j
            refine lv_goto (tgt := 59) C.1 C.2.1 dMo_edge_49 (by decide) ?_
            exact L59 (Beg j) (by unfold edA; first | (rw [if_neg (by omega)]; done) | (rw [if_pos (by omega), if_pos (by omega)]; done) | (rw [if_pos (by omega), if_neg (by omega)]; done)) (by have := hMS j hi0 (by omega); omega) ls H locs (lv_sub hl [0, 1, 2, 3, 4, 5] rfl) hW
          · refine lv_aload_n C.1 C.2.1 dMo_edge_32 rfl (lv_at hl 3 rfl) ?_
            refine zget C hW 0 11 rfl rfl inMo (by decide) flMo_26 rfl dMo_edge_33 ?_
            refine lv_iload C.1 C.2.1 dMo_edge_36 (lv_at hl 0 rfl) ?_
            refine zlald C hW 4 2 rfl rfl (by omega) (by omega) (by decide) dMo_edge_38 ?_
            have hb4 := bEns j
            refine lv_goto (tgt := 59) C.1 C.2.1 dMo_edge_39 (by decide) ?_
            exact L59 (Ens j) (by unfold edA; first | (rw [if_neg (by omega)]; done) | (rw [if_pos (by omega), if_pos (by omega)]; done) | (rw [if_pos (by omega), if_neg (by omega)]; done)) (by have := hMS j hi0 (by omega); omega) ls H locs (lv_sub hl [0, 1, 2, 3, 4, 5] rfl) hW
  exact L8 _ 0 0 0 (Nat.lt_succ_self _) (by omega) (by omega) (by omega) rfl (by omega) ls H locs (lv_sub hl [0, 1, 2, 3, 4, 5] rfl) hW
set_option maxHeartbeats 4000000 in
set_option maxRecDepth 100000 in
theorem m_isOn (l : Launch) (D : va_G) (cI cG cL cB : ClassId) (m0 : Nat) (cd : Int) (wi : Int) (hi : Int) (bn : Int) (af : Nat) (at_ : Nat) (dr : Int) (sz : Int) (au : Nat) (ap : Nat) (ab : Nat) (ae : Nat) (ah : Nat) (kp : Int) (ks : Int) (ku : Nat) (kq : Nat) (kb : Nat) (ke : Nat) (kh : Nat) (als : Int) (gf : Nat) (gt : Nat) (ses : Int) (sf : Nat) (st : Nat) (les : Int) (ef : Nat) (et : Nat) (mes : Int) (xa : Nat) (xf : Nat) (xt : Nat) (xr : Nat) (lb : Nat) (lbs : Int) (so : Nat) (Ups : Int → Int) (Pla : Int → Int) (Beg : Int → Int) (Ens : Int → Int) (k : Int) (xx : Int) (yy : Int) (bUps : ∀ j : Int, I32 (Ups j)) (bPla : ∀ j : Int, I64 (Pla j)) (bBeg : ∀ j : Int, I64 (Beg j)) (bEns : ∀ j : Int, I64 (Ens j)) (hk0 : 0 ≤ k) (hk1 : k < 6000) (hwi : 1 ≤ wi ∧ wi ≤ 65536) (hhi : 1 ≤ hi ∧ hi ≤ 65536) (hx : -1000000000000000 ≤ xx ∧ xx ≤ 1000000000000000) (hy : -1000000000000000 ≤ yy ∧ yy ≤ 1000000000000000) : Ci l yMo_isOn cMo_isOn 14 (some .boolean) 0 0 0 D zCl (zT cI cG cL cB) [.ref m0, .int (zI k), .long (zL xx), .long (zL yy)] [(m0, .inr (10, [.int (zI cd), .long (zL wi), .long (zL hi), .int (zI bn), .ref af, .ref at_, .int (zI dr), .int (zI sz), .ref au, .ref ap, .ref ab, .ref ae, .ref ah, .int (zI kp), .int (zI ks), .ref ku, .ref kq, .ref kb, .ref ke, .ref kh, .int (zI als), .ref gf, .ref gt, .int (zI ses), .ref sf, .ref st, .int (zI les), .ref ef, .ref et, .int (zI mes), .ref xa, .ref xf, .ref xt, .ref xr, .ref lb, .int (zI lbs), .ref so])), (au, .inl (cI, 6000, .inl (fI Ups))), (ap, .inl (cL, 6000, .inr (.inl (fL Pla)))), (ab, .inl (cL, 6000, .inr (.inl (fL Beg)))), (ae, .inl (cL, 6000, .inr (.inl (fL Ens))))] (fun x w => x = zI (bz (onM Ups Pla Beg Ens wi hi xx yy k)) ∧ w = [(m0, .inr (10, [.int (zI cd), .long (zL wi), .long (zL hi), .int (zI bn), .ref af, .ref at_, .int (zI dr), .int (zI sz), .ref au, .ref ap, .ref ab, .ref ae, .ref ah, .int (zI kp), .int (zI ks), .ref ku, .ref kq, .ref kb, .ref ke, .ref kh, .int (zI als), .ref gf, .ref gt, .int (zI ses), .ref sf, .ref st, .int (zI les), .ref ef, .ref et, .int (zI mes), .ref xa, .ref xf, .ref xt, .ref xr, .ref lb, .int (zI lbs), .ref so])), (au, .inl (cI, 6000, .inl (fI Ups))), (ap, .inl (cL, 6000, .inr (.inl (fL Pla)))), (ab, .inl (cL, 6000, .inr (.inl (fL Beg)))), (ae, .inl (cL, 6000, .inr (.inl (fL Ens))))]) := by
  refine zBz (by decide) (Nat.le_of_ble_eq_true rfl) ?_
  intro p e s m args below meth c ls A H locs Q C hin hl hW hQ
  have hl : lv_has ls 14 [(0, .ref m0), (1, .int (zI k)), (2, .long (zL xx)), (4, .long (zL yy))] := hl
  have L15 : ∀ (l_ : Int), (Ups k = 0 ∧ l_ = yy ∨ Ups k ≠ 0 ∧ l_ = xx) → ∀ (ls : Array Slot) (H : Heap) (locs : List Loc), lv_has ls 14 [(0, .ref m0), (1, .int (zI k)), (2, .long (zL xx)), (4, .long (zL yy))] → zw D zCl A s [(m0, .inr (10, [.int (zI cd), .long (zL wi), .long (zL hi), .int (zI bn), .ref af, .ref at_, .int (zI dr), .int (zI sz), .ref au, .ref ap, .ref ab, .ref ae, .ref ah, .int (zI kp), .int (zI ks), .ref ku, .ref kq, .ref kb, .ref ke, .ref kh, .int (zI als), .ref gf, .ref gt, .int (zI ses), .ref sf, .ref st, .int (zI les), .ref ef, .ref et, .int (zI mes), .ref xa, .ref xf, .ref xt, .ref xr, .ref lb, .int (zI lbs), .ref so])), (au, .inl (cI, 6000, .inl (fI Ups))), (ap, .inl (cL, 6000, .inr (.inl (fL Pla)))), (ab, .inl (cL, 6000, .inr (.inl (fL Beg)))), (ae, .inl (cL, 6000, .inr (.inl (fL Ens))))] H locs → W p l e (zr 0 0 0) s m args below meth c H locs 0 0 Q (F0 m 15 ls [.long (zL l_)]) := by
    intro l_ hl_ ls H locs hl hW
    refine lv_lstore (lv' := [(6, .long (zL l_)), (0, .ref m0), (1, .int (zI k)), (2, .long (zL xx)), (4, .long (zL yy))]) C.1 C.2.1 dMo_isOn_15 hl (by decide) rfl (fun ls hl => ?_)
    have L37 : ∀ (ro_ : Int), (Ups k = 0 ∧ ro_ = hi ∨ Ups k ≠ 0 ∧ ro_ = wi) → ∀ (ls : Array Slot) (H : Heap) (locs : List Loc), lv_has ls 14 [(6, .long (zL l_)), (0, .ref m0), (1, .int (zI k)), (2, .long (zL xx)), (4, .long (zL yy))] → zw D zCl A s [(m0, .inr (10, [.int (zI cd), .long (zL wi), .long (zL hi), .int (zI bn), .ref af, .ref at_, .int (zI dr), .int (zI sz), .ref au, .ref ap, .ref ab, .ref ae, .ref ah, .int (zI kp), .int (zI ks), .ref ku, .ref kq, .ref kb, .ref ke, .ref kh, .int (zI als), .ref gf, .ref gt, .int (zI ses), .ref sf, .ref st, .int (zI les), .ref ef, .ref et, .int (zI mes), .ref xa, .ref xf, .ref xt, .ref xr, .ref lb, .int (zI lbs), .ref so])), (au, .inl (cI, 6000, .inl (fI Ups))), (ap, .inl (cL, 6000, .inr (.inl (fL Pla)))), (ab, .inl (cL, 6000, .inr (.inl (fL Beg)))), (ae, .inl (cL, 6000, .inr (.inl (fL Ens))))] H locs → W p l e (zr 0 0 0) s m args below meth c H locs 0 0 Q (F0 m 37 ls [.long (zL ro_)]) := by
      intro ro_ hr_ ls H locs hl hW
      refine lv_lstore (lv' := [(8, .long (zL ro_)), (6, .long (zL l_)), (0, .ref m0), (1, .int (zI k)), (2, .long (zL xx)), (4, .long (zL yy))]) C.1 C.2.1 dMo_isOn_37 hl (by decide) rfl (fun ls hl => ?_)
      have L54 : ∀ (al_ : Int), (Ups k = 0 ∧ al_ = xx ∨ Ups k ≠ 0 ∧ al_ = yy) → ∀ (ls : Array Slot) (H : Heap) (locs : List Loc), lv_has ls 14 [(8, .long (zL ro_)), (6, .long (zL l_)), (0, .ref m0), (1, .int (zI k)), (2, .long (zL xx)), (4, .long (zL yy))] → zw D zCl A s [(m0, .inr (10, [.int (zI cd), .long (zL wi), .long (zL hi), .int (zI bn), .ref af, .ref at_, .int (zI dr), .int (zI sz), .ref au, .ref ap, .ref ab, .ref ae, .ref ah, .int (zI kp), .int (zI ks), .ref ku, .ref kq, .ref kb, .ref ke, .ref kh, .int (zI als), .ref gf, .ref gt, .int (zI ses), .ref sf, .ref st, .int (zI les), .ref ef, .ref et, .int (zI mes), .ref xa, .ref xf, .ref xt, .ref xr, .ref lb, .int (zI lbs), .ref so])), (au, .inl (cI, 6000, .inl (fI Ups))), (ap, .inl (cL, 6000, .inr (.inl (fL Pla)))), (ab, .inl (cL, 6000, .inr (.inl (fL Beg)))), (ae, .inl (cL, 6000, .inr (.inl (fL Ens))))] H locs → W p l e (zr 0 0 0) s m args below meth c H locs 0 0 Q (F0 m 54 ls [.long (zL al_)]) := by
        intro al_ ha_ ls H locs hl hW
        refine lv_lstore (lv' := [(10, .long (zL al_)), (8, .long (zL ro_)), (6, .long (zL l_)), (0, .ref m0), (1, .int (zI k)), (2, .long (zL xx)), (4, .long (zL yy))]) C.1 C.2.1 dMo_isOn_54 hl (by decide) rfl (fun ls hl => ?_)
        have L76 : ∀ (ot_ : Int), (Ups k = 0 ∧ ot_ = wi ∨ Ups k ≠ 0 ∧ ot_ = hi) → ∀ (ls : Array Slot) (H : Heap) (locs : List Loc), lv_has ls 14 [(10, .long (zL al_)), (8, .long (zL ro_)), (6, .long (zL l_)), (0, .ref m0), (1, .int (zI k)), (2, .long (zL xx)), (4, .long (zL yy))] → zw D zCl A s [(m0, .inr (10, [.int (zI cd), .long (zL wi), .long (zL hi), .int (zI bn), .ref af, .ref at_, .int (zI dr), .int (zI sz), .ref au, .ref ap, .ref ab, .ref ae, .ref ah, .int (zI kp), .int (zI ks), .ref ku, .ref kq, .ref kb, .ref ke, .ref kh, .int (zI als), .ref gf, .ref gt, .int (zI ses), .ref sf, .ref st, .int (zI les), .ref ef, .ref et, .int (zI mes), .ref xa, .ref xf, .ref xt, .ref xr, .ref lb, .int (zI lbs), .ref so])), (au, .inl (cI, 6000, .inl (fI Ups))), (ap, .inl (cL, 6000, .inr (.inl (fL Pla)))), (ab, .inl (cL, 6000, .inr (.inl (fL Beg)))), (ae, .inl (cL, 6000, .inr (.inl (fL Ens))))] H locs → W p l e (zr 0 0 0) s m args below meth c H locs 0 0 Q (F0 m 76 ls [.long (zL ot_)]) := by
          intro ot_ ho_ ls H locs hl hW
          refine lv_lstore (lv' := [(12, .long (zL ot_)), (10, .long (zL al_)), (8, .long (zL ro_)), (6, .long (zL l_)), (0, .ref m0), (1, .int (zI k)), (2, .long (zL xx)), (4, .long (zL yy))]) C.1 C.2.1 dMo_isOn_76 hl (by decide) rfl (fun ls hl => ?_)
          refine lv_aload_n C.1 C.2.1 dMo_isOn_78 rfl (lv_at hl 4 rfl) ?_
          refine zget C hW 0 9 rfl rfl inMo (by decide) flMo_20 rfl dMo_isOn_79 ?_
          refine lv_iload_n C.1 C.2.1 dMo_isOn_82 rfl (lv_at hl 5 rfl) ?_
          refine zlald C hW 2 2 rfl rfl (by omega) (by omega) (by decide) dMo_isOn_83 ?_
          have hb1 := bPla k
          refine lv_lload C.1 C.2.1 dMo_isOn_84 (lv_at hl 3 rfl) ?_
          refine zlcmp_lt (tgt := 136) C (by omega) (by omega) dMo_isOn_86 dMo_isOn_87 (by decide) (fun c86 => ?_) (fun c86 => ?_)
          · refine lv_iconst (v := zI 0) C.1 C.2.1 dMo_isOn_136 (by decide) ?_
            exact hQ (zI 0) _ H locs _ _ _ ls hW (by decide) ⟨congrArg zI (by unfold onM; split <;> exact bzd (fun h => by omega) (fun h => by omega)), rfl⟩ (by omega) (by omega) dMo_isOn_137
          · refine lv_aload_n C.1 C.2.1 dMo_isOn_90 rfl (lv_at hl 4 rfl) ?_
            refine zget C hW 0 9 rfl rfl inMo (by decide) flMo_20 rfl dMo_isOn_91 ?_
            refine lv_iload_n C.1 C.2.1 dMo_isOn_94 rfl (lv_at hl 5 rfl) ?_
            refine zlald C hW 2 2 rfl rfl (by omega) (by omega) (by decide) dMo_isOn_95 ?_
            have hb2 := bPla k
            refine lv_lload C.1 C.2.1 dMo_isOn_96 (lv_at hl 3 rfl) ?_
            refine lv_lload C.1 C.2.1 dMo_isOn_98 (lv_at hl 2 rfl) ?_
            refine zladd C dMo_isOn_100 ?_
            refine zlcmp_gt (tgt := 136) C (by omega) (by omega) dMo_isOn_101 dMo_isOn_102 (by decide) (fun c101 => ?_) (fun c101 => ?_)
            · refine lv_iconst (v := zI 0) C.1 C.2.1 dMo_isOn_136 (by decide) ?_
              exact hQ (zI 0) _ H locs _ _ _ ls hW (by decide) ⟨congrArg zI (by unfold onM; split <;> exact bzd (fun h => by omega) (fun h => by omega)), rfl⟩ (by omega) (by omega) dMo_isOn_137
            · refine lv_aload_n C.1 C.2.1 dMo_isOn_105 rfl (lv_at hl 4 rfl) ?_
              refine zget C hW 0 10 rfl rfl inMo (by decide) flMo_23 rfl dMo_isOn_106 ?_
              refine lv_iload_n C.1 C.2.1 dMo_isOn_109 rfl (lv_at hl 5 rfl) ?_
              refine zlald C hW 3 2 rfl rfl (by omega) (by omega) (by decide) dMo_isOn_110 ?_
              have hb3 := bBeg k
              refine lv_lload C.1 C.2.1 dMo_isOn_111 (lv_at hl 1 rfl) ?_
              refine lv_lload C.1 C.2.1 dMo_isOn_113 (lv_at hl 0 rfl) ?_
              refine zladd C dMo_isOn_115 ?_
              refine zlcmp_ge (tgt := 136) C (by omega) (by omega) dMo_isOn_116 dMo_isOn_117 (by decide) (fun c116 => ?_) (fun c116 => ?_)
              · refine lv_iconst (v := zI 0) C.1 C.2.1 dMo_isOn_136 (by decide) ?_
                exact hQ (zI 0) _ H locs _ _ _ ls hW (by decide) ⟨congrArg zI (by unfold onM; split <;> exact bzd (fun h => by omega) (fun h => by omega)), rfl⟩ (by omega) (by omega) dMo_isOn_137
              · refine lv_aload_n C.1 C.2.1 dMo_isOn_120 rfl (lv_at hl 4 rfl) ?_
                refine zget C hW 0 11 rfl rfl inMo (by decide) flMo_26 rfl dMo_isOn_121 ?_
                refine lv_iload_n C.1 C.2.1 dMo_isOn_124 rfl (lv_at hl 5 rfl) ?_
                refine zlald C hW 4 2 rfl rfl (by omega) (by omega) (by decide) dMo_isOn_125 ?_
                have hb4 := bEns k
                refine lv_lload C.1 C.2.1 dMo_isOn_126 (lv_at hl 1 rfl) ?_
                refine zlcmp_le (tgt := 136) C (by omega) (by omega) dMo_isOn_128 dMo_isOn_129 (by decide) (fun c128 => ?_) (fun c128 => ?_)
                · refine lv_iconst (v := zI 0) C.1 C.2.1 dMo_isOn_136 (by decide) ?_
                  exact hQ (zI 0) _ H locs _ _ _ ls hW (by decide) ⟨congrArg zI (by unfold onM; split <;> exact bzd (fun h => by omega) (fun h => by omega)), rfl⟩ (by omega) (by omega) dMo_isOn_137
                · refine lv_iconst (v := zI 1) C.1 C.2.1 dMo_isOn_132 (by decide) ?_
                  refine lv_goto (tgt := 137) C.1 C.2.1 dMo_isOn_133 (by decide) ?_
                  exact hQ (zI 1) _ H locs _ _ _ ls hW (by decide) ⟨congrArg zI (by unfold onM; split <;> exact bzd (fun h => by omega) (fun h => by omega)), rfl⟩ (by omega) (by omega) dMo_isOn_137
        refine lv_aload_n C.1 C.2.1 dMo_isOn_56 rfl (lv_at hl 3 rfl) ?_
        refine zget C hW 0 8 rfl rfl inMo (by decide) flMo_16 rfl dMo_isOn_57 ?_
        refine lv_iload_n C.1 C.2.1 dMo_isOn_60 rfl (lv_at hl 4 rfl) ?_
        refine ziald C hW 1 0 rfl rfl (by omega) (by omega) (by decide) dMo_isOn_61 ?_
        have hb5 := bUps k
        refine zif_ne (tgt := 72) C (by omega) dMo_isOn_62 (by decide) (fun c62 => ?_) (fun c62 => ?_)
        · refine lv_aload_n C.1 C.2.1 dMo_isOn_72 rfl (lv_at hl 3 rfl) ?_
          refine zget C hW 0 2 rfl rfl inMo (by decide) flMo_90 rfl dMo_isOn_73 ?_
          exact L76 hi (by omega) ls H locs (lv_sub hl [0, 1, 2, 3, 4, 5, 6] rfl) hW
        · refine lv_aload_n C.1 C.2.1 dMo_isOn_65 rfl (lv_at hl 3 rfl) ?_
          refine zget C hW 0 1 rfl rfl inMo (by decide) flMo_86 rfl dMo_isOn_66 ?_
          refine lv_goto (tgt := 76) C.1 C.2.1 dMo_isOn_69 (by decide) ?_
          exact L76 wi (by omega) ls H locs (lv_sub hl [0, 1, 2, 3, 4, 5, 6] rfl) hW
      refine lv_aload_n C.1 C.2.1 dMo_isOn_39 rfl (lv_at hl 2 rfl) ?_
      refine zget C hW 0 8 rfl rfl inMo (by decide) flMo_16 rfl dMo_isOn_40 ?_
      refine lv_iload_n C.1 C.2.1 dMo_isOn_43 rfl (lv_at hl 3 rfl) ?_
      refine ziald C hW 1 0 rfl rfl (by omega) (by omega) (by decide) dMo_isOn_44 ?_
      have hb6 := bUps k
      refine zif_ne (tgt := 52) C (by omega) dMo_isOn_45 (by decide) (fun c45 => ?_) (fun c45 => ?_)
      · refine lv_lload C.1 C.2.1 dMo_isOn_52 (lv_at hl 5 rfl) ?_
        exact L54 yy (by omega) ls H locs (lv_sub hl [0, 1, 2, 3, 4, 5] rfl) hW
      · refine lv_lload_n C.1 C.2.1 dMo_isOn_48 rfl (lv_at hl 4 rfl) ?_
        refine lv_goto (tgt := 54) C.1 C.2.1 dMo_isOn_49 (by decide) ?_
        exact L54 xx (by omega) ls H locs (lv_sub hl [0, 1, 2, 3, 4, 5] rfl) hW
    refine lv_aload_n C.1 C.2.1 dMo_isOn_17 rfl (lv_at hl 1 rfl) ?_
    refine zget C hW 0 8 rfl rfl inMo (by decide) flMo_16 rfl dMo_isOn_18 ?_
    refine lv_iload_n C.1 C.2.1 dMo_isOn_21 rfl (lv_at hl 2 rfl) ?_
    refine ziald C hW 1 0 rfl rfl (by omega) (by omega) (by decide) dMo_isOn_22 ?_
    have hb7 := bUps k
    refine zif_ne (tgt := 33) C (by omega) dMo_isOn_23 (by decide) (fun c23 => ?_) (fun c23 => ?_)
    · refine lv_aload_n C.1 C.2.1 dMo_isOn_33 rfl (lv_at hl 1 rfl) ?_
      refine zget C hW 0 1 rfl rfl inMo (by decide) flMo_86 rfl dMo_isOn_34 ?_
      exact L37 wi (by omega) ls H locs (lv_sub hl [0, 1, 2, 3, 4] rfl) hW
    · refine lv_aload_n C.1 C.2.1 dMo_isOn_26 rfl (lv_at hl 1 rfl) ?_
      refine zget C hW 0 2 rfl rfl inMo (by decide) flMo_90 rfl dMo_isOn_27 ?_
      refine lv_goto (tgt := 37) C.1 C.2.1 dMo_isOn_30 (by decide) ?_
      exact L37 hi (by omega) ls H locs (lv_sub hl [0, 1, 2, 3, 4] rfl) hW
  refine lv_aload_n C.1 C.2.1 dMo_isOn_0 rfl (lv_at hl 0 rfl) ?_
  refine zget C hW 0 8 rfl rfl inMo (by decide) flMo_16 rfl dMo_isOn_1 ?_
  refine lv_iload_n C.1 C.2.1 dMo_isOn_4 rfl (lv_at hl 1 rfl) ?_
  refine ziald C hW 1 0 rfl rfl (by omega) (by omega) (by decide) dMo_isOn_5 ?_
  have hb8 := bUps k
  refine zif_ne (tgt := 14) C (by omega) dMo_isOn_6 (by decide) (fun c6 => ?_) (fun c6 => ?_)
  · refine lv_lload_n C.1 C.2.1 dMo_isOn_14 rfl (lv_at hl 2 rfl) ?_
    exact L15 xx (by omega) ls H locs (lv_sub hl [0, 1, 2, 3] rfl) hW
  · refine lv_lload C.1 C.2.1 dMo_isOn_9 (lv_at hl 3 rfl) ?_
    refine lv_goto (tgt := 15) C.1 C.2.1 dMo_isOn_11 (by decide) ?_
    exact L15 yy (by omega) ls H locs (lv_sub hl [0, 1, 2, 3] rfl) hW
