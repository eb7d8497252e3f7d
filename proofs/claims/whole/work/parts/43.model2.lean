theorem dMo_box_0 : decode cMo_box 0 = .ok (.lload_n 1, 1) := by decide +kernel
theorem dMo_box_1 : decode cMo_box 1 = .ok (.ldc2_w 97, 3) := by decide +kernel
theorem dMo_box_4 : decode cMo_box 4 = .ok (.ldc2_w 99, 3) := by decide +kernel
theorem dMo_box_7 : decode cMo_box 7 = .ok (.invokestatic 101, 3) := by decide +kernel
theorem dMo_box_10 : decode cMo_box 10 = .ok (.ifCond .eq 58, 3) := by decide +kernel
theorem dMo_box_13 : decode cMo_box 13 = .ok (.lload_n 3, 1) := by decide +kernel
theorem dMo_box_14 : decode cMo_box 14 = .ok (.ldc2_w 97, 3) := by decide +kernel
theorem dMo_box_17 : decode cMo_box 17 = .ok (.ldc2_w 99, 3) := by decide +kernel
theorem dMo_box_20 : decode cMo_box 20 = .ok (.invokestatic 101, 3) := by decide +kernel
theorem dMo_box_23 : decode cMo_box 23 = .ok (.ifCond .eq 45, 3) := by decide +kernel
theorem dMo_box_26 : decode cMo_box 26 = .ok (.lload 5, 2) := by decide +kernel
theorem dMo_box_28 : decode cMo_box 28 = .ok (.ldc2_w 97, 3) := by decide +kernel
theorem dMo_box_31 : decode cMo_box 31 = .ok (.ldc2_w 99, 3) := by decide +kernel
theorem dMo_box_34 : decode cMo_box 34 = .ok (.invokestatic 101, 3) := by decide +kernel
theorem dMo_box_37 : decode cMo_box 37 = .ok (.ifCond .eq 31, 3) := by decide +kernel
theorem dMo_box_40 : decode cMo_box 40 = .ok (.lload 7, 2) := by decide +kernel
theorem dMo_box_42 : decode cMo_box 42 = .ok (.lconst 1, 1) := by decide +kernel
theorem dMo_box_43 : decode cMo_box 43 = .ok (.ldc2_w 99, 3) := by decide +kernel
theorem dMo_box_46 : decode cMo_box 46 = .ok (.invokestatic 101, 3) := by decide +kernel
theorem dMo_box_49 : decode cMo_box 49 = .ok (.ifCond .eq 19, 3) := by decide +kernel
theorem dMo_box_52 : decode cMo_box 52 = .ok (.lload 9, 2) := by decide +kernel
theorem dMo_box_54 : decode cMo_box 54 = .ok (.lconst 1, 1) := by decide +kernel
theorem dMo_box_55 : decode cMo_box 55 = .ok (.ldc2_w 99, 3) := by decide +kernel
theorem dMo_box_58 : decode cMo_box 58 = .ok (.invokestatic 101, 3) := by decide +kernel
theorem dMo_box_61 : decode cMo_box 61 = .ok (.ifCond .eq 7, 3) := by decide +kernel
theorem dMo_box_64 : decode cMo_box 64 = .ok (.iconst 1, 1) := by decide +kernel
theorem dMo_box_65 : decode cMo_box 65 = .ok (.goto 4, 3) := by decide +kernel
theorem dMo_box_68 : decode cMo_box 68 = .ok (.iconst 0, 1) := by decide +kernel
theorem dMo_box_69 : decode cMo_box 69 = .ok (.istore 11, 2) := by decide +kernel
theorem dMo_box_71 : decode cMo_box 71 = .ok (.aload_n 0, 1) := by decide +kernel
theorem dMo_box_72 : decode cMo_box 72 = .ok (.aload_n 0, 1) := by decide +kernel
theorem dMo_box_73 : decode cMo_box 73 = .ok (.getfield 105, 3) := by decide +kernel
theorem dMo_box_76 : decode cMo_box 76 = .ok (.bipush 24, 2) := by decide +kernel
theorem dMo_box_78 : decode cMo_box 78 = .ok (.if_icmp .ne 7, 3) := by decide +kernel
theorem dMo_box_81 : decode cMo_box 81 = .ok (.iconst 1, 1) := by decide +kernel
theorem dMo_box_82 : decode cMo_box 82 = .ok (.goto 13, 3) := by decide +kernel
theorem dMo_box_85 : decode cMo_box 85 = .ok (.iload 11, 2) := by decide +kernel
theorem dMo_box_87 : decode cMo_box 87 = .ok (.ifCond .eq 7, 3) := by decide +kernel
theorem dMo_box_90 : decode cMo_box 90 = .ok (.iconst 0, 1) := by decide +kernel
theorem dMo_box_91 : decode cMo_box 91 = .ok (.goto 4, 3) := by decide +kernel
theorem dMo_box_94 : decode cMo_box 94 = .ok (.iconst 2, 1) := by decide +kernel
theorem dMo_box_95 : decode cMo_box 95 = .ok (.putfield 93, 3) := by decide +kernel
theorem dMo_box_98 : decode cMo_box 98 = .ok (.aload_n 0, 1) := by decide +kernel
theorem dMo_box_99 : decode cMo_box 99 = .ok (.getfield 93, 3) := by decide +kernel
theorem dMo_box_102 : decode cMo_box 102 = .ok (.ifCond .le 5, 3) := by decide +kernel
theorem dMo_box_105 : decode cMo_box 105 = .ok (.iconst 0, 1) := by decide +kernel
theorem dMo_box_106 : decode cMo_box 106 = .ok (.ireturn, 1) := by decide +kernel
theorem dMo_box_107 : decode cMo_box 107 = .ok (.iconst 3, 1) := by decide +kernel
theorem dMo_box_108 : decode cMo_box 108 = .ok (.aload_n 0, 1) := by decide +kernel
theorem dMo_box_109 : decode cMo_box 109 = .ok (.getfield 105, 3) := by decide +kernel
theorem dMo_box_112 : decode cMo_box 112 = .ok (.imul, 1) := by decide +kernel
theorem dMo_box_113 : decode cMo_box 113 = .ok (.istore 12, 2) := by decide +kernel
theorem dMo_box_115 : decode cMo_box 115 = .ok (.aload_n 0, 1) := by decide +kernel
theorem dMo_box_116 : decode cMo_box 116 = .ok (.getfield 7, 3) := by decide +kernel
theorem dMo_box_119 : decode cMo_box 119 = .ok (.iload 12, 2) := by decide +kernel
theorem dMo_box_121 : decode cMo_box 121 = .ok (.lload_n 1, 1) := by decide +kernel
theorem dMo_box_122 : decode cMo_box 122 = .ok (.lastore, 1) := by decide +kernel
theorem dMo_box_123 : decode cMo_box 123 = .ok (.aload_n 0, 1) := by decide +kernel
theorem dMo_box_124 : decode cMo_box 124 = .ok (.getfield 7, 3) := by decide +kernel
theorem dMo_box_127 : decode cMo_box 127 = .ok (.iload 12, 2) := by decide +kernel
theorem dMo_box_129 : decode cMo_box 129 = .ok (.iconst 1, 1) := by decide +kernel
theorem dMo_box_130 : decode cMo_box 130 = .ok (.iadd, 1) := by decide +kernel
theorem dMo_box_131 : decode cMo_box 131 = .ok (.lload_n 3, 1) := by decide +kernel
theorem dMo_box_132 : decode cMo_box 132 = .ok (.lastore, 1) := by decide +kernel
theorem dMo_box_133 : decode cMo_box 133 = .ok (.aload_n 0, 1) := by decide +kernel
theorem dMo_box_134 : decode cMo_box 134 = .ok (.getfield 7, 3) := by decide +kernel
theorem dMo_box_137 : decode cMo_box 137 = .ok (.iload 12, 2) := by decide +kernel
theorem dMo_box_139 : decode cMo_box 139 = .ok (.iconst 2, 1) := by decide +kernel
theorem dMo_box_140 : decode cMo_box 140 = .ok (.iadd, 1) := by decide +kernel
theorem dMo_box_141 : decode cMo_box 141 = .ok (.lload 5, 2) := by decide +kernel
theorem dMo_box_143 : decode cMo_box 143 = .ok (.lastore, 1) := by decide +kernel
theorem dMo_box_144 : decode cMo_box 144 = .ok (.aload_n 0, 1) := by decide +kernel
theorem dMo_box_145 : decode cMo_box 145 = .ok (.getfield 13, 3) := by decide +kernel
theorem dMo_box_148 : decode cMo_box 148 = .ok (.iload 12, 2) := by decide +kernel
theorem dMo_box_150 : decode cMo_box 150 = .ok (.lload_n 1, 1) := by decide +kernel
theorem dMo_box_151 : decode cMo_box 151 = .ok (.lload 7, 2) := by decide +kernel
theorem dMo_box_153 : decode cMo_box 153 = .ok (.ladd, 1) := by decide +kernel
theorem dMo_box_154 : decode cMo_box 154 = .ok (.lastore, 1) := by decide +kernel
theorem dMo_box_155 : decode cMo_box 155 = .ok (.aload_n 0, 1) := by decide +kernel
theorem dMo_box_156 : decode cMo_box 156 = .ok (.getfield 13, 3) := by decide +kernel
theorem dMo_box_159 : decode cMo_box 159 = .ok (.iload 12, 2) := by decide +kernel
theorem dMo_box_161 : decode cMo_box 161 = .ok (.iconst 1, 1) := by decide +kernel
theorem dMo_box_162 : decode cMo_box 162 = .ok (.iadd, 1) := by decide +kernel
theorem dMo_box_163 : decode cMo_box 163 = .ok (.lload_n 3, 1) := by decide +kernel
theorem dMo_box_164 : decode cMo_box 164 = .ok (.lload 9, 2) := by decide +kernel
theorem dMo_box_166 : decode cMo_box 166 = .ok (.ladd, 1) := by decide +kernel
theorem dMo_box_167 : decode cMo_box 167 = .ok (.lastore, 1) := by decide +kernel
theorem dMo_box_168 : decode cMo_box 168 = .ok (.aload_n 0, 1) := by decide +kernel
theorem dMo_box_169 : decode cMo_box 169 = .ok (.getfield 13, 3) := by decide +kernel
theorem dMo_box_172 : decode cMo_box 172 = .ok (.iload 12, 2) := by decide +kernel
theorem dMo_box_174 : decode cMo_box 174 = .ok (.iconst 2, 1) := by decide +kernel
theorem dMo_box_175 : decode cMo_box 175 = .ok (.iadd, 1) := by decide +kernel
theorem dMo_box_176 : decode cMo_box 176 = .ok (.lload 5, 2) := by decide +kernel
theorem dMo_box_178 : decode cMo_box 178 = .ok (.lconst 1, 1) := by decide +kernel
theorem dMo_box_179 : decode cMo_box 179 = .ok (.ladd, 1) := by decide +kernel
theorem dMo_box_180 : decode cMo_box 180 = .ok (.lastore, 1) := by decide +kernel
theorem dMo_box_181 : decode cMo_box 181 = .ok (.aload_n 0, 1) := by decide +kernel
theorem dMo_box_182 : decode cMo_box 182 = .ok (.dup, 1) := by decide +kernel
theorem dMo_box_183 : decode cMo_box 183 = .ok (.getfield 105, 3) := by decide +kernel
theorem dMo_box_186 : decode cMo_box 186 = .ok (.iconst 1, 1) := by decide +kernel
theorem dMo_box_187 : decode cMo_box 187 = .ok (.iadd, 1) := by decide +kernel
theorem dMo_box_188 : decode cMo_box 188 = .ok (.putfield 105, 3) := by decide +kernel
theorem dMo_box_191 : decode cMo_box 191 = .ok (.aload_n 0, 1) := by decide +kernel
theorem dMo_box_192 : decode cMo_box 192 = .ok (.iconst 0, 1) := by decide +kernel
theorem dMo_box_193 : decode cMo_box 193 = .ok (.putfield 108, 3) := by decide +kernel
theorem dMo_box_196 : decode cMo_box 196 = .ok (.aload_n 0, 1) := by decide +kernel
theorem dMo_box_197 : decode cMo_box 197 = .ok (.getfield 105, 3) := by decide +kernel
theorem dMo_box_200 : decode cMo_box 200 = .ok (.iconst 1, 1) := by decide +kernel
theorem dMo_box_201 : decode cMo_box 201 = .ok (.isub, 1) := by decide +kernel
theorem dMo_box_202 : decode cMo_box 202 = .ok (.ireturn, 1) := by decide +kernel
theorem dMo_deep_0 : decode cMo_deep 0 = .ok (.aload_n 0, 1) := by decide +kernel
theorem dMo_deep_1 : decode cMo_deep 1 = .ok (.iload_n 1, 1) := by decide +kernel
theorem dMo_deep_2 : decode cMo_deep 2 = .ok (.invokevirtual 112, 3) := by decide +kernel
theorem dMo_deep_5 : decode cMo_deep 5 = .ok (.ifCond .eq 5, 3) := by decide +kernel
theorem dMo_deep_8 : decode cMo_deep 8 = .ok (.iconst 0, 1) := by decide +kernel
theorem dMo_deep_9 : decode cMo_deep 9 = .ok (.ireturn, 1) := by decide +kernel
theorem dMo_deep_10 : decode cMo_deep 10 = .ok (.aload_n 0, 1) := by decide +kernel
theorem dMo_deep_11 : decode cMo_deep 11 = .ok (.lload_n 2, 1) := by decide +kernel
theorem dMo_deep_12 : decode cMo_deep 12 = .ok (.lconst 1, 1) := by decide +kernel
theorem dMo_deep_13 : decode cMo_deep 13 = .ok (.ldc2_w 99, 3) := by decide +kernel
theorem dMo_deep_16 : decode cMo_deep 16 = .ok (.invokestatic 101, 3) := by decide +kernel
theorem dMo_deep_19 : decode cMo_deep 19 = .ok (.ifCond .eq 7, 3) := by decide +kernel
theorem dMo_deep_22 : decode cMo_deep 22 = .ok (.iconst 0, 1) := by decide +kernel
theorem dMo_deep_23 : decode cMo_deep 23 = .ok (.goto 4, 3) := by decide +kernel
theorem dMo_deep_26 : decode cMo_deep 26 = .ok (.iconst 2, 1) := by decide +kernel
theorem dMo_deep_27 : decode cMo_deep 27 = .ok (.putfield 93, 3) := by decide +kernel
theorem dMo_deep_30 : decode cMo_deep 30 = .ok (.iconst 3, 1) := by decide +kernel
theorem dMo_deep_31 : decode cMo_deep 31 = .ok (.iload_n 1, 1) := by decide +kernel
theorem dMo_deep_32 : decode cMo_deep 32 = .ok (.imul, 1) := by decide +kernel
theorem dMo_deep_33 : decode cMo_deep 33 = .ok (.iconst 2, 1) := by decide +kernel
theorem dMo_deep_34 : decode cMo_deep 34 = .ok (.iadd, 1) := by decide +kernel
theorem dMo_deep_35 : decode cMo_deep 35 = .ok (.istore 4, 2) := by decide +kernel
theorem dMo_deep_37 : decode cMo_deep 37 = .ok (.aload_n 0, 1) := by decide +kernel
theorem dMo_deep_38 : decode cMo_deep 38 = .ok (.getfield 93, 3) := by decide +kernel
theorem dMo_deep_41 : decode cMo_deep 41 = .ok (.ifCond .gt 23, 3) := by decide +kernel
theorem dMo_deep_44 : decode cMo_deep 44 = .ok (.aload_n 0, 1) := by decide +kernel
theorem dMo_deep_45 : decode cMo_deep 45 = .ok (.getfield 13, 3) := by decide +kernel
theorem dMo_deep_48 : decode cMo_deep 48 = .ok (.iload 4, 2) := by decide +kernel
theorem dMo_deep_50 : decode cMo_deep 50 = .ok (.laload, 1) := by decide +kernel
theorem dMo_deep_51 : decode cMo_deep 51 = .ok (.aload_n 0, 1) := by decide +kernel
theorem dMo_deep_52 : decode cMo_deep 52 = .ok (.getfield 7, 3) := by decide +kernel
theorem dMo_deep_55 : decode cMo_deep 55 = .ok (.iload 4, 2) := by decide +kernel
theorem dMo_deep_57 : decode cMo_deep 57 = .ok (.laload, 1) := by decide +kernel
theorem dMo_deep_58 : decode cMo_deep 58 = .ok (.lload_n 2, 1) := by decide +kernel
theorem dMo_deep_59 : decode cMo_deep 59 = .ok (.ladd, 1) := by decide +kernel
theorem dMo_deep_60 : decode cMo_deep 60 = .ok (.lcmp, 1) := by decide +kernel
theorem dMo_deep_61 : decode cMo_deep 61 = .ok (.ifCond .ne 5, 3) := by decide +kernel
theorem dMo_deep_64 : decode cMo_deep 64 = .ok (.iconst 0, 1) := by decide +kernel
theorem dMo_deep_65 : decode cMo_deep 65 = .ok (.ireturn, 1) := by decide +kernel
theorem dMo_deep_66 : decode cMo_deep 66 = .ok (.aload_n 0, 1) := by decide +kernel
theorem dMo_deep_67 : decode cMo_deep 67 = .ok (.getfield 13, 3) := by decide +kernel
theorem dMo_deep_70 : decode cMo_deep 70 = .ok (.iload 4, 2) := by decide +kernel
theorem dMo_deep_72 : decode cMo_deep 72 = .ok (.aload_n 0, 1) := by decide +kernel
theorem dMo_deep_73 : decode cMo_deep 73 = .ok (.getfield 7, 3) := by decide +kernel
theorem dMo_deep_76 : decode cMo_deep 76 = .ok (.iload 4, 2) := by decide +kernel
theorem dMo_deep_78 : decode cMo_deep 78 = .ok (.laload, 1) := by decide +kernel
theorem dMo_deep_79 : decode cMo_deep 79 = .ok (.lload_n 2, 1) := by decide +kernel
theorem dMo_deep_80 : decode cMo_deep 80 = .ok (.ladd, 1) := by decide +kernel
theorem dMo_deep_81 : decode cMo_deep 81 = .ok (.lastore, 1) := by decide +kernel
theorem dMo_deep_82 : decode cMo_deep 82 = .ok (.aload_n 0, 1) := by decide +kernel
theorem dMo_deep_83 : decode cMo_deep 83 = .ok (.iconst 0, 1) := by decide +kernel
theorem dMo_deep_84 : decode cMo_deep 84 = .ok (.putfield 108, 3) := by decide +kernel
theorem dMo_deep_87 : decode cMo_deep 87 = .ok (.iconst 1, 1) := by decide +kernel
theorem dMo_deep_88 : decode cMo_deep 88 = .ok (.ireturn, 1) := by decide +kernel
theorem dMo_command_0 : decode cMo_command 0 = .ok (.aload_n 0, 1) := by decide +kernel
theorem dMo_command_1 : decode cMo_command 1 = .ok (.invokevirtual 195, 3) := by decide +kernel
theorem dMo_command_4 : decode cMo_command 4 = .ok (.ifCond .eq 5, 3) := by decide +kernel
theorem dMo_command_7 : decode cMo_command 7 = .ok (.lconst 0, 1) := by decide +kernel
theorem dMo_command_8 : decode cMo_command 8 = .ok (.lreturn, 1) := by decide +kernel
theorem dMo_command_9 : decode cMo_command 9 = .ok (.aload_n 0, 1) := by decide +kernel
theorem dMo_command_10 : decode cMo_command 10 = .ok (.iload_n 1, 1) := by decide +kernel
theorem dMo_command_11 : decode cMo_command 11 = .ok (.ifCond .lt 20, 3) := by decide +kernel
theorem dMo_command_14 : decode cMo_command 14 = .ok (.iload_n 1, 1) := by decide +kernel
theorem dMo_command_15 : decode cMo_command 15 = .ok (.aload_n 0, 1) := by decide +kernel
theorem dMo_command_16 : decode cMo_command 16 = .ok (.getfield 145, 3) := by decide +kernel
theorem dMo_command_19 : decode cMo_command 19 = .ok (.if_icmp .ge 12, 3) := by decide +kernel
theorem dMo_command_22 : decode cMo_command 22 = .ok (.iload_n 2, 1) := by decide +kernel
theorem dMo_command_23 : decode cMo_command 23 = .ok (.ifCond .lt 8, 3) := by decide +kernel
theorem dMo_command_26 : decode cMo_command 26 = .ok (.iload_n 2, 1) := by decide +kernel
theorem dMo_command_27 : decode cMo_command 27 = .ok (.iconst 4, 1) := by decide +kernel
theorem dMo_command_28 : decode cMo_command 28 = .ok (.if_icmp .le 7, 3) := by decide +kernel
theorem dMo_command_31 : decode cMo_command 31 = .ok (.iconst 2, 1) := by decide +kernel
theorem dMo_command_32 : decode cMo_command 32 = .ok (.goto 4, 3) := by decide +kernel
theorem dMo_command_35 : decode cMo_command 35 = .ok (.iconst 0, 1) := by decide +kernel
theorem dMo_command_36 : decode cMo_command 36 = .ok (.putfield 93, 3) := by decide +kernel
theorem dMo_command_39 : decode cMo_command 39 = .ok (.aload_n 0, 1) := by decide +kernel
theorem dMo_command_40 : decode cMo_command 40 = .ok (.getfield 93, 3) := by decide +kernel
theorem dMo_command_43 : decode cMo_command 43 = .ok (.ifCond .le 5, 3) := by decide +kernel
theorem dMo_command_46 : decode cMo_command 46 = .ok (.lconst 0, 1) := by decide +kernel
theorem dMo_command_47 : decode cMo_command 47 = .ok (.lreturn, 1) := by decide +kernel
theorem dMo_command_48 : decode cMo_command 48 = .ok (.iload_n 2, 1) := by decide +kernel
theorem dMo_command_49 : decode cMo_command 49 = .ok (.ifCond .ne 13, 3) := by decide +kernel
theorem dMo_command_52 : decode cMo_command 52 = .ok (.aload_n 0, 1) := by decide +kernel
theorem dMo_command_53 : decode cMo_command 53 = .ok (.getfield 16, 3) := by decide +kernel
theorem dMo_command_56 : decode cMo_command 56 = .ok (.iload_n 1, 1) := by decide +kernel
theorem dMo_command_57 : decode cMo_command 57 = .ok (.iaload, 1) := by decide +kernel
theorem dMo_command_58 : decode cMo_command 58 = .ok (.i2l, 1) := by decide +kernel
theorem dMo_command_59 : decode cMo_command 59 = .ok (.goto 52, 3) := by decide +kernel
theorem dMo_command_62 : decode cMo_command 62 = .ok (.iload_n 2, 1) := by decide +kernel
theorem dMo_command_63 : decode cMo_command 63 = .ok (.iconst 1, 1) := by decide +kernel
theorem dMo_command_64 : decode cMo_command 64 = .ok (.if_icmp .ne 12, 3) := by decide +kernel
theorem dMo_command_67 : decode cMo_command 67 = .ok (.aload_n 0, 1) := by decide +kernel
theorem dMo_command_68 : decode cMo_command 68 = .ok (.getfield 20, 3) := by decide +kernel
theorem dMo_command_71 : decode cMo_command 71 = .ok (.iload_n 1, 1) := by decide +kernel
theorem dMo_command_72 : decode cMo_command 72 = .ok (.laload, 1) := by decide +kernel
theorem dMo_command_73 : decode cMo_command 73 = .ok (.goto 38, 3) := by decide +kernel
theorem dMo_command_76 : decode cMo_command 76 = .ok (.iload_n 2, 1) := by decide +kernel
theorem dMo_command_77 : decode cMo_command 77 = .ok (.iconst 2, 1) := by decide +kernel
theorem dMo_command_78 : decode cMo_command 78 = .ok (.if_icmp .ne 12, 3) := by decide +kernel
theorem dMo_command_81 : decode cMo_command 81 = .ok (.aload_n 0, 1) := by decide +kernel
theorem dMo_command_82 : decode cMo_command 82 = .ok (.getfield 23, 3) := by decide +kernel
theorem dMo_command_85 : decode cMo_command 85 = .ok (.iload_n 1, 1) := by decide +kernel
theorem dMo_command_86 : decode cMo_command 86 = .ok (.laload, 1) := by decide +kernel
theorem dMo_command_87 : decode cMo_command 87 = .ok (.goto 24, 3) := by decide +kernel
theorem dMo_command_90 : decode cMo_command 90 = .ok (.iload_n 2, 1) := by decide +kernel
theorem dMo_command_91 : decode cMo_command 91 = .ok (.iconst 3, 1) := by decide +kernel
theorem dMo_command_92 : decode cMo_command 92 = .ok (.if_icmp .ne 12, 3) := by decide +kernel
theorem dMo_command_95 : decode cMo_command 95 = .ok (.aload_n 0, 1) := by decide +kernel
theorem dMo_command_96 : decode cMo_command 96 = .ok (.getfield 26, 3) := by decide +kernel
theorem dMo_command_99 : decode cMo_command 99 = .ok (.iload_n 1, 1) := by decide +kernel
theorem dMo_command_100 : decode cMo_command 100 = .ok (.laload, 1) := by decide +kernel
theorem dMo_command_101 : decode cMo_command 101 = .ok (.goto 10, 3) := by decide +kernel
theorem dMo_command_104 : decode cMo_command 104 = .ok (.aload_n 0, 1) := by decide +kernel
theorem dMo_command_105 : decode cMo_command 105 = .ok (.getfield 29, 3) := by decide +kernel
theorem dMo_command_108 : decode cMo_command 108 = .ok (.iload_n 1, 1) := by decide +kernel
theorem dMo_command_109 : decode cMo_command 109 = .ok (.iaload, 1) := by decide +kernel
theorem dMo_command_110 : decode cMo_command 110 = .ok (.i2l, 1) := by decide +kernel
theorem dMo_command_111 : decode cMo_command 111 = .ok (.lreturn, 1) := by decide +kernel
theorem dMo_on_0 : decode cMo_on 0 = .ok (.aload_n 0, 1) := by decide +kernel
theorem dMo_on_1 : decode cMo_on 1 = .ok (.invokevirtual 195, 3) := by decide +kernel
theorem dMo_on_4 : decode cMo_on 4 = .ok (.ifCond .eq 5, 3) := by decide +kernel
theorem dMo_on_7 : decode cMo_on 7 = .ok (.iconst 0, 1) := by decide +kernel
theorem dMo_on_8 : decode cMo_on 8 = .ok (.ireturn, 1) := by decide +kernel
theorem dMo_on_9 : decode cMo_on 9 = .ok (.iconst 2, 1) := by decide +kernel
theorem dMo_on_10 : decode cMo_on 10 = .ok (.istore 6, 2) := by decide +kernel
theorem dMo_on_12 : decode cMo_on 12 = .ok (.iconst 0, 1) := by decide +kernel
theorem dMo_on_13 : decode cMo_on 13 = .ok (.istore 7, 2) := by decide +kernel
theorem dMo_on_15 : decode cMo_on 15 = .ok (.iload 7, 2) := by decide +kernel
theorem dMo_on_17 : decode cMo_on 17 = .ok (.aload_n 0, 1) := by decide +kernel
theorem dMo_on_18 : decode cMo_on 18 = .ok (.getfield 145, 3) := by decide +kernel
theorem dMo_on_21 : decode cMo_on 21 = .ok (.if_icmp .ge 143, 3) := by decide +kernel
theorem dMo_on_24 : decode cMo_on 24 = .ok (.iload 5, 2) := by decide +kernel
theorem dMo_on_26 : decode cMo_on 26 = .ok (.ifCond .eq 34, 3) := by decide +kernel
theorem dMo_on_29 : decode cMo_on 29 = .ok (.aload_n 0, 1) := by decide +kernel
theorem dMo_on_30 : decode cMo_on 30 = .ok (.getfield 16, 3) := by decide +kernel
theorem dMo_on_33 : decode cMo_on 33 = .ok (.iload 7, 2) := by decide +kernel
theorem dMo_on_35 : decode cMo_on 35 = .ok (.iaload, 1) := by decide +kernel
theorem dMo_on_36 : decode cMo_on 36 = .ok (.iconst 1, 1) := by decide +kernel
theorem dMo_on_37 : decode cMo_on 37 = .ok (.if_icmp .ne 19, 3) := by decide +kernel
theorem dMo_on_40 : decode cMo_on 40 = .ok (.aload_n 0, 1) := by decide +kernel
theorem dMo_on_41 : decode cMo_on 41 = .ok (.getfield 20, 3) := by decide +kernel
theorem dMo_on_44 : decode cMo_on 44 = .ok (.iload 7, 2) := by decide +kernel
theorem dMo_on_46 : decode cMo_on 46 = .ok (.laload, 1) := by decide +kernel
theorem dMo_on_47 : decode cMo_on 47 = .ok (.lload_n 1, 1) := by decide +kernel
theorem dMo_on_48 : decode cMo_on 48 = .ok (.lcmp, 1) := by decide +kernel
theorem dMo_on_49 : decode cMo_on 49 = .ok (.ifCond .ne 7, 3) := by decide +kernel
theorem dMo_on_52 : decode cMo_on 52 = .ok (.iconst 1, 1) := by decide +kernel
theorem dMo_on_53 : decode cMo_on 53 = .ok (.goto 34, 3) := by decide +kernel
theorem dMo_on_56 : decode cMo_on 56 = .ok (.iconst 0, 1) := by decide +kernel
theorem dMo_on_57 : decode cMo_on 57 = .ok (.goto 30, 3) := by decide +kernel
theorem dMo_on_60 : decode cMo_on 60 = .ok (.aload_n 0, 1) := by decide +kernel
theorem dMo_on_61 : decode cMo_on 61 = .ok (.getfield 16, 3) := by decide +kernel
theorem dMo_on_64 : decode cMo_on 64 = .ok (.iload 7, 2) := by decide +kernel
theorem dMo_on_66 : decode cMo_on 66 = .ok (.iaload, 1) := by decide +kernel
theorem dMo_on_67 : decode cMo_on 67 = .ok (.ifCond .ne 19, 3) := by decide +kernel
theorem dMo_on_70 : decode cMo_on 70 = .ok (.aload_n 0, 1) := by decide +kernel
theorem dMo_on_71 : decode cMo_on 71 = .ok (.getfield 20, 3) := by decide +kernel
theorem dMo_on_74 : decode cMo_on 74 = .ok (.iload 7, 2) := by decide +kernel
theorem dMo_on_76 : decode cMo_on 76 = .ok (.laload, 1) := by decide +kernel
theorem dMo_on_77 : decode cMo_on 77 = .ok (.lload_n 3, 1) := by decide +kernel
theorem dMo_on_78 : decode cMo_on 78 = .ok (.lcmp, 1) := by decide +kernel
theorem dMo_on_79 : decode cMo_on 79 = .ok (.ifCond .ne 7, 3) := by decide +kernel
theorem dMo_on_82 : decode cMo_on 82 = .ok (.iconst 1, 1) := by decide +kernel
theorem dMo_on_83 : decode cMo_on 83 = .ok (.goto 4, 3) := by decide +kernel
theorem dMo_on_86 : decode cMo_on 86 = .ok (.iconst 0, 1) := by decide +kernel
theorem dMo_on_87 : decode cMo_on 87 = .ok (.istore 8, 2) := by decide +kernel
theorem dMo_on_89 : decode cMo_on 89 = .ok (.iload 5, 2) := by decide +kernel
theorem dMo_on_91 : decode cMo_on 91 = .ok (.ifCond .eq 7, 3) := by decide +kernel
theorem dMo_on_94 : decode cMo_on 94 = .ok (.lload_n 3, 1) := by decide +kernel
theorem dMo_on_95 : decode cMo_on 95 = .ok (.goto 4, 3) := by decide +kernel
theorem dMo_on_98 : decode cMo_on 98 = .ok (.lload_n 1, 1) := by decide +kernel
theorem dMo_on_99 : decode cMo_on 99 = .ok (.lstore 9, 2) := by decide +kernel
theorem dMo_on_101 : decode cMo_on 101 = .ok (.iload 8, 2) := by decide +kernel
theorem dMo_on_103 : decode cMo_on 103 = .ok (.ifCond .eq 55, 3) := by decide +kernel
theorem dMo_on_106 : decode cMo_on 106 = .ok (.aload_n 0, 1) := by decide +kernel
theorem dMo_on_107 : decode cMo_on 107 = .ok (.getfield 23, 3) := by decide +kernel
theorem dMo_on_110 : decode cMo_on 110 = .ok (.iload 7, 2) := by decide +kernel
theorem dMo_on_112 : decode cMo_on 112 = .ok (.laload, 1) := by decide +kernel
theorem dMo_on_113 : decode cMo_on 113 = .ok (.lload 9, 2) := by decide +kernel
theorem dMo_on_115 : decode cMo_on 115 = .ok (.lcmp, 1) := by decide +kernel
theorem dMo_on_116 : decode cMo_on 116 = .ok (.ifCond .gt 42, 3) := by decide +kernel
theorem dMo_on_119 : decode cMo_on 119 = .ok (.aload_n 0, 1) := by decide +kernel
theorem dMo_on_120 : decode cMo_on 120 = .ok (.getfield 26, 3) := by decide +kernel
theorem dMo_on_123 : decode cMo_on 123 = .ok (.iload 7, 2) := by decide +kernel
theorem dMo_on_125 : decode cMo_on 125 = .ok (.laload, 1) := by decide +kernel
theorem dMo_on_126 : decode cMo_on 126 = .ok (.lload 9, 2) := by decide +kernel
theorem dMo_on_128 : decode cMo_on 128 = .ok (.lcmp, 1) := by decide +kernel
theorem dMo_on_129 : decode cMo_on 129 = .ok (.ifCond .lt 29, 3) := by decide +kernel
theorem dMo_on_132 : decode cMo_on 132 = .ok (.aload_n 0, 1) := by decide +kernel
theorem dMo_on_133 : decode cMo_on 133 = .ok (.getfield 29, 3) := by decide +kernel
theorem dMo_on_136 : decode cMo_on 136 = .ok (.iload 7, 2) := by decide +kernel
theorem dMo_on_138 : decode cMo_on 138 = .ok (.iaload, 1) := by decide +kernel
theorem dMo_on_139 : decode cMo_on 139 = .ok (.iload 6, 2) := by decide +kernel
theorem dMo_on_141 : decode cMo_on 141 = .ok (.if_icmp .ge 13, 3) := by decide +kernel
theorem dMo_on_144 : decode cMo_on 144 = .ok (.aload_n 0, 1) := by decide +kernel
theorem dMo_on_145 : decode cMo_on 145 = .ok (.getfield 29, 3) := by decide +kernel
theorem dMo_on_148 : decode cMo_on 148 = .ok (.iload 7, 2) := by decide +kernel
theorem dMo_on_150 : decode cMo_on 150 = .ok (.iaload, 1) := by decide +kernel
theorem dMo_on_151 : decode cMo_on 151 = .ok (.goto 5, 3) := by decide +kernel
theorem dMo_on_154 : decode cMo_on 154 = .ok (.iload 6, 2) := by decide +kernel
theorem dMo_on_156 : decode cMo_on 156 = .ok (.istore 6, 2) := by decide +kernel
theorem dMo_on_158 : decode cMo_on 158 = .ok (.iinc 7 1, 3) := by decide +kernel
theorem dMo_on_161 : decode cMo_on 161 = .ok (.goto (-146), 3) := by decide +kernel
theorem dMo_on_164 : decode cMo_on 164 = .ok (.iload 6, 2) := by decide +kernel
theorem dMo_on_166 : decode cMo_on 166 = .ok (.ireturn, 1) := by decide +kernel
theorem dMo_ink_0 : decode cMo_ink 0 = .ok (.aload_n 0, 1) := by decide +kernel
theorem dMo_ink_1 : decode cMo_ink 1 = .ok (.invokevirtual 195, 3) := by decide +kernel
theorem dMo_ink_4 : decode cMo_ink 4 = .ok (.ifCond .eq 5, 3) := by decide +kernel
theorem dMo_ink_7 : decode cMo_ink 7 = .ok (.lconst 0, 1) := by decide +kernel
theorem dMo_ink_8 : decode cMo_ink 8 = .ok (.lreturn, 1) := by decide +kernel
theorem dMo_ink_9 : decode cMo_ink 9 = .ok (.lconst 0, 1) := by decide +kernel
theorem dMo_ink_10 : decode cMo_ink 10 = .ok (.lstore_n 2, 1) := by decide +kernel
theorem dMo_ink_11 : decode cMo_ink 11 = .ok (.iconst 0, 1) := by decide +kernel
theorem dMo_ink_12 : decode cMo_ink 12 = .ok (.istore 4, 2) := by decide +kernel
theorem dMo_ink_14 : decode cMo_ink 14 = .ok (.iload 4, 2) := by decide +kernel
theorem dMo_ink_16 : decode cMo_ink 16 = .ok (.aload_n 0, 1) := by decide +kernel
theorem dMo_ink_17 : decode cMo_ink 17 = .ok (.getfield 145, 3) := by decide +kernel
theorem dMo_ink_20 : decode cMo_ink 20 = .ok (.if_icmp .ge 51, 3) := by decide +kernel
theorem dMo_ink_23 : decode cMo_ink 23 = .ok (.aload_n 0, 1) := by decide +kernel
theorem dMo_ink_24 : decode cMo_ink 24 = .ok (.getfield 29, 3) := by decide +kernel
theorem dMo_ink_27 : decode cMo_ink 27 = .ok (.iload 4, 2) := by decide +kernel
theorem dMo_ink_29 : decode cMo_ink 29 = .ok (.iaload, 1) := by decide +kernel
theorem dMo_ink_30 : decode cMo_ink 30 = .ok (.iconst 1, 1) := by decide +kernel
theorem dMo_ink_31 : decode cMo_ink 31 = .ok (.if_icmp .ne 7, 3) := by decide +kernel
theorem dMo_ink_34 : decode cMo_ink 34 = .ok (.iconst 1, 1) := by decide +kernel
theorem dMo_ink_35 : decode cMo_ink 35 = .ok (.goto 4, 3) := by decide +kernel
theorem dMo_ink_38 : decode cMo_ink 38 = .ok (.iconst 0, 1) := by decide +kernel
theorem dMo_ink_39 : decode cMo_ink 39 = .ok (.iload_n 1, 1) := by decide +kernel
theorem dMo_ink_40 : decode cMo_ink 40 = .ok (.if_icmp .ne 23, 3) := by decide +kernel
theorem dMo_ink_43 : decode cMo_ink 43 = .ok (.lload_n 2, 1) := by decide +kernel
theorem dMo_ink_44 : decode cMo_ink 44 = .ok (.aload_n 0, 1) := by decide +kernel
theorem dMo_ink_45 : decode cMo_ink 45 = .ok (.getfield 26, 3) := by decide +kernel
theorem dMo_ink_48 : decode cMo_ink 48 = .ok (.iload 4, 2) := by decide +kernel
theorem dMo_ink_50 : decode cMo_ink 50 = .ok (.laload, 1) := by decide +kernel
theorem dMo_ink_51 : decode cMo_ink 51 = .ok (.ladd, 1) := by decide +kernel
theorem dMo_ink_52 : decode cMo_ink 52 = .ok (.aload_n 0, 1) := by decide +kernel
theorem dMo_ink_53 : decode cMo_ink 53 = .ok (.getfield 23, 3) := by decide +kernel
theorem dMo_ink_56 : decode cMo_ink 56 = .ok (.iload 4, 2) := by decide +kernel
theorem dMo_ink_58 : decode cMo_ink 58 = .ok (.laload, 1) := by decide +kernel
theorem dMo_ink_59 : decode cMo_ink 59 = .ok (.lsub, 1) := by decide +kernel
theorem dMo_ink_60 : decode cMo_ink 60 = .ok (.goto 4, 3) := by decide +kernel
theorem dMo_ink_63 : decode cMo_ink 63 = .ok (.lload_n 2, 1) := by decide +kernel
theorem dMo_ink_64 : decode cMo_ink 64 = .ok (.lstore_n 2, 1) := by decide +kernel
theorem dMo_ink_65 : decode cMo_ink 65 = .ok (.iinc 4 1, 3) := by decide +kernel
theorem dMo_ink_68 : decode cMo_ink 68 = .ok (.goto (-54), 3) := by decide +kernel
theorem dMo_ink_71 : decode cMo_ink 71 = .ok (.lload_n 2, 1) := by decide +kernel
theorem dMo_ink_72 : decode cMo_ink 72 = .ok (.lreturn, 1) := by decide +kernel
set_option maxRecDepth 100000 in
theorem kMo_112 : inT (kV "PartDrawingsModel" 112 yMo_noBox cMo_noBox 2 (some .boolean)) := gW_l [1336, 1338, 20, 61, 1339] rfl (by decide +kernel)
set_option maxRecDepth 100000 in
theorem kMo_195 : inT (kV "PartDrawingsModel" 195 yMo_none cMo_none 1 (some .boolean)) := gW_l [1417, 1419, 34, 61, 1420] rfl (by decide +kernel)
set_option maxRecDepth 100000 in
theorem flMo_145 : Cond.fieldLink "PartDrawingsModel" 145 (TMo 7).1 (TMo 7).2.1 (TMo 7).2.2.1 ∈ gW := gW_1 1213 rfl rfl
set_option maxRecDepth 100000 in
theorem flMo_29 : Cond.fieldLink "PartDrawingsModel" 29 (TMo 12).1 (TMo 12).2.1 (TMo 12).2.2.1 ∈ gW := gW_1 1218 rfl rfl
set_option maxRecDepth 100000 in
theorem flMo_26 : Cond.fieldLink "PartDrawingsModel" 26 (TMo 11).1 (TMo 11).2.1 (TMo 11).2.2.1 ∈ gW := gW_1 1217 rfl rfl
set_option maxRecDepth 100000 in
theorem flMo_23 : Cond.fieldLink "PartDrawingsModel" 23 (TMo 10).1 (TMo 10).2.1 (TMo 10).2.2.1 ∈ gW := gW_1 1216 rfl rfl
set_option maxRecDepth 100000 in
theorem flMo_20 : Cond.fieldLink "PartDrawingsModel" 20 (TMo 9).1 (TMo 9).2.1 (TMo 9).2.2.1 ∈ gW := gW_1 1215 rfl rfl
set_option maxRecDepth 100000 in
theorem flMo_16 : Cond.fieldLink "PartDrawingsModel" 16 (TMo 8).1 (TMo 8).2.1 (TMo 8).2.2.1 ∈ gW := gW_1 1214 rfl rfl
set_option maxHeartbeats 4000000 in
set_option maxRecDepth 100000 in
theorem m_box (l : Launch) (D : va_G) (cI cG cL cB : ClassId) (m0 : Nat) (cd : Int) (wi : Int) (hi : Int) (bn : Int) (af : Nat) (at_ : Nat) (dr : Int) (sz : Int) (au : Nat) (ap : Nat) (ab : Nat) (ae : Nat) (ah : Nat) (kp : Int) (ks : Int) (ku : Nat) (kq : Nat) (kb : Nat) (ke : Nat) (kh : Nat) (als : Int) (gf : Nat) (gt : Nat) (ses : Int) (sf : Nat) (st : Nat) (les : Int) (ef : Nat) (et : Nat) (mes : Int) (xa : Nat) (xf : Nat) (xt : Nat) (xr : Nat) (lb : Nat) (lbs : Int) (so : Nat) (From : Int → Int) (To : Int → Int) (px : Int) (py : Int) (pz : Int) (pw : Int) (ph : Int) (bFrom : ∀ j : Int, I64 (From j)) (bTo : ∀ j : Int, I64 (To j)) (hbn0 : 0 ≤ bn) (hbn1 : bn ≤ 24) (hMB : moB bn From To) (hJpx : I64 px) (hJpy : I64 py) (hJpz : I64 pz) (hJpw : I64 pw) (hJph : I64 ph) : Ci l yMo_box cMo_box 13 (some .int) 1 0 0 D zCl (zT cI cG cL cB) [.ref m0, .long (zL px), .long (zL py), .long (zL pz), .long (zL pw), .long (zL ph)] [(m0, .inr (10, [.int (zI cd), .long (zL wi), .long (zL hi), .int (zI bn), .ref af, .ref at_, .int (zI dr), .int (zI sz), .ref au, .ref ap, .ref ab, .ref ae, .ref ah, .int (zI kp), .int (zI ks), .ref ku, .ref kq, .ref kb, .ref ke, .ref kh, .int (zI als), .ref gf, .ref gt, .int (zI ses), .ref sf, .ref st, .int (zI les), .ref ef, .ref et, .int (zI mes), .ref xa, .ref xf, .ref xt, .ref xr, .ref lb, .int (zI lbs), .ref so])), (af, .inl (cL, 72, .inr (.inl (fL From)))), (at_, .inl (cL, 72, .inr (.inl (fL To))))] (fun x w => ∃ cd2 : Int, ∃ r2 : Int, ∃ bn2 : Int, ∃ dr2 : Int, ∃ From2 : Int → Int, ∃ To2 : Int → Int, (∀ j : Int, I64 (From2 j)) ∧ (∀ j : Int, I64 (To2 j)) ∧ (cd2 = boxC bn (gdX px py pz pw ph)) ∧ (cd2 = 0 → r2 = bn ∧ bn2 = bn + 1 ∧ dr2 = 0 ∧ From2 = upz (upz (upz From (3 * bn) px) (3 * bn + 1) py) (3 * bn + 2) pz ∧ To2 = upz (upz (upz To (3 * bn) (px + pw)) (3 * bn + 1) (py + ph)) (3 * bn + 2) (pz + 1)) ∧ (cd2 ≠ 0 → bn2 = bn ∧ dr2 = dr ∧ From2 = From ∧ To2 = To) ∧ x = zI r2 ∧ w = [(m0, .inr (10, [.int (zI cd2), .long (zL wi), .long (zL hi), .int (zI bn2), .ref af, .ref at_, .int (zI dr2), .int (zI sz), .ref au, .ref ap, .ref ab, .ref ae, .ref ah, .int (zI kp), .int (zI ks), .ref ku, .ref kq, .ref kb, .ref ke, .ref kh, .int (zI als), .ref gf, .ref gt, .int (zI ses), .ref sf, .ref st, .int (zI les), .ref ef, .ref et, .int (zI mes), .ref xa, .ref xf, .ref xt, .ref xr, .ref lb, .int (zI lbs), .ref so])), (af, .inl (cL, 72, .inr (.inl (fL From2)))), (at_, .inl (cL, 72, .inr (.inl (fL To2))))]) := by
  refine zBi (by decide) (Nat.le_of_ble_eq_true rfl) ?_
  intro p e s m args below meth c ls A H locs Q C hin hl hW hQ
  have hl : lv_has ls 13 [(0, .ref m0), (1, .long (zL px)), (3, .long (zL py)), (5, .long (zL pz)), (7, .long (zL pw)), (9, .long (zL ph))] := hl
  refine lv_lload_n C.1 C.2.1 dMo_box_0 rfl (lv_at hl 1 rfl) ?_
  refine zldc2 C kcMo_97 dMo_box_1 ?_
  refine zldc2 C kcMo_99 dMo_box_4 ?_
  refine zcalli (wr := [(m0, .inr (10, [.int (zI cd), .long (zL wi), .long (zL hi), .int (zI bn), .ref af, .ref at_, .int (zI dr), .int (zI sz), .ref au, .ref ap, .ref ab, .ref ae, .ref ah, .int (zI kp), .int (zI ks), .ref ku, .ref kq, .ref kb, .ref ke, .ref kh, .int (zI als), .ref gf, .ref gt, .int (zI ses), .ref sf, .ref st, .int (zI les), .ref ef, .ref et, .int (zI mes), .ref xa, .ref xf, .ref xt, .ref xr, .ref lb, .int (zI lbs), .ref so])), (af, .inl (cL, 72, .inr (.inl (fL From)))), (at_, .inl (cL, 72, .inr (.inl (fL To))))]) C hW [] [0, 1, 2] rfl rfl (by decide) (by decide) (zRunS (k := 3) (As := [.long (zL px), .long (zL (-1000000)), .long (zL 1000000)]) (rest := []) C hW (m_isIn l D cI cG cL cB px (-1000000) 1000000 (by omega) (by omega) (by omega) H.size) [] rfl (by decide) kMo_101 (by decide +kernel) ⟨by decide, by decide⟩ rfl hl.1 (Nat.le_of_ble_eq_true rfl) dMo_box_7 ⟨by first | decide | omega, by first | decide | omega⟩) (fun x w H locs hq hW => ?_)
  obtain ⟨rfl, rfl⟩ := hq
  have hW : zw D zCl A s [(m0, .inr (10, [.int (zI cd), .long (zL wi), .long (zL hi), .int (zI bn), .ref af, .ref at_, .int (zI dr), .int (zI sz), .ref au, .ref ap, .ref ab, .ref ae, .ref ah, .int (zI kp), .int (zI ks), .ref ku, .ref kq, .ref kb, .ref ke, .ref kh, .int (zI als), .ref gf, .ref gt, .int (zI ses), .ref sf, .ref st, .int (zI les), .ref ef, .ref et, .int (zI mes), .ref xa, .ref xf, .ref xt, .ref xr, .ref lb, .int (zI lbs), .ref so])), (af, .inl (cL, 72, .inr (.inl (fL From)))), (at_, .inl (cL, 72, .inr (.inl (fL To))))] H locs := hW
  have hr1 := bz_01 (inR px (-1000000) 1000000)
  have L69 : ∀ (v : Int), (v = bz (gdX px py pz pw ph)) → (v = 0 ∨ v = 1) → ∀ (ls : Array Slot) (H : Heap) (locs : List Loc), lv_has ls 13 [(0, .ref m0), (1, .long (zL px)), (3, .long (zL py)), (5, .long (zL pz)), (7, .long (zL pw)), (9, .long (zL ph))] → zw D zCl A s [(m0, .inr (10, [.int (zI cd), .long (zL wi), .long (zL hi), .int (zI bn), .ref af, .ref at_, .int (zI dr), .int (zI sz), .ref au, .ref ap, .ref ab, .ref ae, .ref ah, .int (zI kp), .int (zI ks), .ref ku, .ref kq, .ref kb, .ref ke, .ref kh, .int (zI als), .ref gf, .ref gt, .int (zI ses), .ref sf, .ref st, .int (zI les), .ref ef, .ref et, .int (zI mes), .ref xa, .ref xf, .ref xt, .ref xr, .ref lb, .int (zI lbs), .ref so])), (af, .inl (cL, 72, .inr (.inl (fL From)))), (at_, .inl (cL, 72, .inr (.inl (fL To))))] H locs → W p l e (zr 1 0 0) s m args below meth c H locs 0 0 Q (F0 m 69 ls [.int (zI v)]) := by
    intro v hv hv2 ls H locs hl hW
    refine lv_istore (lv' := [(11, .int (zI v)), (0, .ref m0), (1, .long (zL px)), (3, .long (zL py)), (5, .long (zL pz)), (7, .long (zL pw)), (9, .long (zL ph))]) C.1 C.2.1 dMo_box_69 hl (by decide) rfl (fun ls hl => ?_)
    refine lv_aload_n C.1 C.2.1 dMo_box_71 rfl (lv_at hl 1 rfl) ?_
    refine lv_aload_n C.1 C.2.1 dMo_box_72 rfl (lv_at hl 1 rfl) ?_
    refine zget C hW 0 3 rfl rfl inMo (by decide) flMo_105 rfl dMo_box_73 ?_
    refine lv_bipush (v := zI 24) C.1 C.2.1 dMo_box_76 (by decide) ?_
    refine zicmp_ne (tgt := 85) C (by omega) (by omega) dMo_box_78 (by decide) (fun c78 => ?_) (fun c78 => ?_)
    · refine lv_iload C.1 C.2.1 dMo_box_85 (lv_at hl 0 rfl) ?_
      refine zif_eq (tgt := 94) C (by omega) dMo_box_87 (by decide) (fun c87 => ?_) (fun c87 => ?_)
      · refine lv_iconst (v := zI 2) C.1 C.2.1 dMo_box_94 (by decide) ?_
        refine zput C hW 0 0 tyMo tyMo_ok nmMo rfl rfl inMo (by decide) flMo_93 rfl rfl rfl rfl (Nat.le_of_ble_eq_true rfl) dMo_box_95 (fun H locs hW => ?_)
        have hW : zw D zCl A s [(m0, .inr (10, [.int (zI 2), .long (zL wi), .long (zL hi), .int (zI bn), .ref af, .ref at_, .int (zI dr), .int (zI sz), .ref au, .ref ap, .ref ab, .ref ae, .ref ah, .int (zI kp), .int (zI ks), .ref ku, .ref kq, .ref kb, .ref ke, .ref kh, .int (zI als), .ref gf, .ref gt, .int (zI ses), .ref sf, .ref st, .int (zI les), .ref ef, .ref et, .int (zI mes), .ref xa, .ref xf, .ref xt, .ref xr, .ref lb, .int (zI lbs), .ref so])), (af, .inl (cL, 72, .inr (.inl (fL From)))), (at_, .inl (cL, 72, .inr (.inl (fL To))))] H locs := hW
        refine lv_aload_n C.1 C.2.1 dMo_box_98 rfl (lv_at hl 1 rfl) ?_
        refine zget C hW 0 0 rfl rfl inMo (by decide) flMo_93 rfl dMo_box_99 ?_
        refine zif_le (tgt := 107) C (by omega) dMo_box_102 (by decide) (fun c102 => ?_) (fun c102 => ?_)
        · exact absurd c102 (by decide)
        · refine lv_iconst (v := zI 0) C.1 C.2.1 dMo_box_105 (by decide) ?_
          exact hQ (zI 0) _ H locs _ _ _ ls hW ⟨_, 0, bn, dr, From, To, bFrom, bTo, (boxC_2 (by omega) (by omega)), (fun h => absurd h (by decide)), (fun _ => ⟨rfl, rfl, rfl, rfl⟩), rfl, rfl⟩ (by omega) (by omega) dMo_box_106
      · refine lv_iconst (v := zI 0) C.1 C.2.1 dMo_box_90 (by decide) ?_
        refine lv_goto (tgt := 95) C.1 C.2.1 dMo_box_91 (by decide) ?_
        refine zput C hW 0 0 tyMo tyMo_ok nmMo rfl rfl inMo (by decide) flMo_93 rfl rfl rfl rfl (Nat.le_of_ble_eq_true rfl) dMo_box_95 (fun H locs hW => ?_)
        have hW : zw D zCl A s [(m0, .inr (10, [.int (zI 0), .long (zL wi), .long (zL hi), .int (zI bn), .ref af, .ref at_, .int (zI dr), .int (zI sz), .ref au, .ref ap, .ref ab, .ref ae, .ref ah, .int (zI kp), .int (zI ks), .ref ku, .ref kq, .ref kb, .ref ke, .ref kh, .int (zI als), .ref gf, .ref gt, .int (zI ses), .ref sf, .ref st, .int (zI les), .ref ef, .ref et, .int (zI mes), .ref xa, .ref xf, .ref xt, .ref xr, .ref lb, .int (zI lbs), .ref so])), (af, .inl (cL, 72, .inr (.inl (fL From)))), (at_, .inl (cL, 72, .inr (.inl (fL To))))] H locs := hW
        refine lv_aload_n C.1 C.2.1 dMo_box_98 rfl (lv_at hl 1 rfl) ?_
        refine zget C hW 0 0 rfl rfl inMo (by decide) flMo_93 rfl dMo_box_99 ?_
        refine zif_le (tgt := 107) C (by omega) dMo_box_102 (by decide) (fun c102 => ?_) (fun c102 => ?_)
        · have hgd := gdX_s ((bz_eq1 _).mpr (show bz (gdX px py pz pw ph) ≠ 0 by omega))
          refine lv_iconst (v := zI 3) C.1 C.2.1 dMo_box_107 (by decide) ?_
          refine lv_aload_n C.1 C.2.1 dMo_box_108 rfl (lv_at hl 1 rfl) ?_
          refine zget C hW 0 3 rfl rfl inMo (by decide) flMo_105 rfl dMo_box_109 ?_
          refine zimul C dMo_box_112 ?_
          refine lv_istore (lv' := [(12, .int (zI (3 * bn))), (11, .int (zI v)), (0, .ref m0), (1, .long (zL px)), (3, .long (zL py)), (5, .long (zL pz)), (7, .long (zL pw)), (9, .long (zL ph))]) C.1 C.2.1 dMo_box_113 hl (by decide) rfl (fun ls hl => ?_)
          refine lv_aload_n C.1 C.2.1 dMo_box_115 rfl (lv_at hl 2 rfl) ?_
          refine zget C hW 0 4 rfl rfl inMo (by decide) flMo_7 rfl dMo_box_116 ?_
          refine lv_iload C.1 C.2.1 dMo_box_119 (lv_at hl 0 rfl) ?_
          refine lv_lload_n C.1 C.2.1 dMo_box_121 rfl (lv_at hl 3 rfl) ?_
          refine zlast C hW 1 2 rfl rfl (by omega) (by omega) (by decide) dMo_box_122 (fun H locs hW => ?_)
          have hB2 : ∀ jj : Int, I64 ((upz From (3 * bn) px) jj) := upz_bL bFrom (by omega)
          have hW : zw D zCl A s [(m0, .inr (10, [.int (zI 0), .long (zL wi), .long (zL hi), .int (zI bn), .ref af, .ref at_, .int (zI dr), .int (zI sz), .ref au, .ref ap, .ref ab, .ref ae, .ref ah, .int (zI kp), .int (zI ks), .ref ku, .ref kq, .ref kb, .ref ke, .ref kh, .int (zI als), .ref gf, .ref gt, .int (zI ses), .ref sf, .ref st, .int (zI les), .ref ef, .ref et, .int (zI mes), .ref xa, .ref xf, .ref xt, .ref xr, .ref lb, .int (zI lbs), .ref so])), (af, .inl (cL, 72, .inr (.inl (fL (upz From (3 * bn) px))))), (at_, .inl (cL, 72, .inr (.inl (fL To))))] H locs := hW
          refine lv_aload_n C.1 C.2.1 dMo_box_123 rfl (lv_at hl 2 rfl) ?_
          refine zget C hW 0 4 rfl rfl inMo (by decide) flMo_7 rfl dMo_box_124 ?_
          refine lv_iload C.1 C.2.1 dMo_box_127 (lv_at hl 0 rfl) ?_
          refine lv_iconst (v := zI 1) C.1 C.2.1 dMo_box_129 (by decide) ?_
          refine ziadd C dMo_box_130 ?_
          refine lv_lload_n C.1 C.2.1 dMo_box_131 rfl (lv_at hl 4 rfl) ?_
          refine zlast C hW 1 2 rfl rfl (by omega) (by omega) (by decide) dMo_box_132 (fun H locs hW => ?_)
          have hB3 : ∀ jj : Int, I64 ((upz (upz From (3 * bn) px) ((3 * bn) + 1) py) jj) := upz_bL hB2 (by omega)
          have hW : zw D zCl A s [(m0, .inr (10, [.int (zI 0), .long (zL wi), .long (zL hi), .int (zI bn), .ref af, .ref at_, .int (zI dr), .int (zI sz), .ref au, .ref ap, .ref ab, .ref ae, .ref ah, .int (zI kp), .int (zI ks), .ref ku, .ref kq, .ref kb, .ref ke, .ref kh, .int (zI als), .ref gf, .ref gt, .int (zI ses), .ref sf, .ref st, .int (zI les), .ref ef, .ref et, .int (zI mes), .ref xa, .ref xf, .ref xt, .ref xr, .ref lb, .int (zI lbs), .ref so])), (af, .inl (cL, 72, .inr (.inl (fL (upz (upz From (3 * bn) px) ((3 * bn) + 1) py))))), (at_, .inl (cL, 72, .inr (.inl (fL To))))] H locs := hW
          refine lv_aload_n C.1 C.2.1 dMo_box_133 rfl (lv_at hl 2 rfl) ?_
          refine zget C hW 0 4 rfl rfl inMo (by decide) flMo_7 rfl dMo_box_134 ?_
          refine lv_iload C.1 C.2.1 dMo_box_137 (lv_at hl 0 rfl) ?_
          refine lv_iconst (v := zI 2) C.1 C.2.1 dMo_box_139 (by decide) ?_
          refine ziadd C dMo_box_140 ?_
          refine lv_lload C.1 C.2.1 dMo_box_141 (lv_at hl 5 rfl) ?_
          refine zlast C hW 1 2 rfl rfl (by omega) (by omega) (by decide) dMo_box_143 (fun H locs hW => ?_)
          have hB4 : ∀ jj : Int, I64 ((upz (upz (upz From (3 * bn) px) ((3 * bn) + 1) py) ((3 * bn) + 2) pz) jj) := upz_bL hB3 (by omega)
          have hW : zw D zCl A s [(m0, .inr (10, [.int (zI 0), .long (zL wi), .long (zL hi), .int (zI bn), .ref af, .ref at_, .int (zI dr), .int (zI sz), .ref au, .ref ap, .ref ab, .ref ae, .ref ah, .int (zI kp), .int (zI ks), .ref ku, .ref kq, .ref kb, .ref ke, .ref kh, .int (zI als), .ref gf, .ref gt, .int (zI ses), .ref sf, .ref st, .int (zI les), .ref ef, .ref et, .int (zI mes), .ref xa, .ref xf, .ref xt, .ref xr, .ref lb, .int (zI lbs), .ref so])), (af, .inl (cL, 72, .inr (.inl (fL (upz (upz (upz From (3 * bn) px) ((3 * bn) + 1) py) ((3 * bn) + 2) pz))))), (at_, .inl (cL, 72, .inr (.inl (fL To))))] H locs := hW
          refine lv_aload_n C.1 C.2.1 dMo_box_144 rfl (lv_at hl 2 rfl) ?_
          refine zget C hW 0 5 rfl rfl inMo (by decide) flMo_13 rfl dMo_box_145 ?_
          refine lv_iload C.1 C.2.1 dMo_box_148 (lv_at hl 0 rfl) ?_
          refine lv_lload_n C.1 C.2.1 dMo_box_150 rfl (lv_at hl 3 rfl) ?_
          refine lv_lload C.1 C.2.1 dMo_box_151 (lv_at hl 6 rfl) ?_
          refine zladd C dMo_box_153 ?_
          refine zlast C hW 2 2 rfl rfl (by omega) (by omega) (by decide) dMo_box_154 (fun H locs hW => ?_)
          have hB5 : ∀ jj : Int, I64 ((upz To (3 * bn) (px + pw)) jj) := upz_bL bTo (by omega)
          have hW : zw D zCl A s [(m0, .inr (10, [.int (zI 0), .long (zL wi), .long (zL hi), .int (zI bn), .ref af, .ref at_, .int (zI dr), .int (zI sz), .ref au, .ref ap, .ref ab, .ref ae, .ref ah, .int (zI kp), .int (zI ks), .ref ku, .ref kq, .ref kb, .ref ke, .ref kh, .int (zI als), .ref gf, .ref gt, .int (zI ses), .ref sf, .ref st, .int (zI les), .ref ef, .ref et, .int (zI mes), .ref xa, .ref xf, .ref xt, .ref xr, .ref lb, .int (zI lbs), .ref so])), (af, .inl (cL, 72, .inr (.inl (fL (upz (upz (upz From (3 * bn) px) ((3 * bn) + 1) py) ((3 * bn) + 2) pz))))), (at_, .inl (cL, 72, .inr (.inl (fL (upz To (3 * bn) (px + pw))))))] H locs := hW
          refine lv_aload_n C.1 C.2.1 dMo_box_155 rfl (lv_at hl 2 rfl) ?_
          refine zget C hW 0 5 rfl rfl inMo (by decide) flMo_13 rfl dMo_box_156 ?_
          refine lv_iload C.1 C.2.1 dMo_box_159 (lv_at hl 0 rfl) ?_
          refine lv_iconst (v := zI 1) C.1 C.2.1 dMo_box_161 (by decide) ?_
          refine ziadd C dMo_box_162 ?_
          refine lv_lload_n C.1 C.2.1 dMo_box_163 rfl (lv_at hl 4 rfl) ?_
          refine lv_lload C.1 C.2.1 dMo_box_164 (lv_at hl 7 rfl) ?_
          refine zladd C dMo_box_166 ?_
          refine zlast C hW 2 2 rfl rfl (by omega) (by omega) (by decide) dMo_box_167 (fun H locs hW => ?_)
          have hB6 : ∀ jj : Int, I64 ((upz (upz To (3 * bn) (px + pw)) ((3 * bn) + 1) (py + ph)) jj) := upz_bL hB5 (by omega)
          have hW : zw D zCl A s [(m0, .inr (10, [.int (zI 0), .long (zL wi), .long (zL hi), .int (zI bn), .ref af, .ref at_, .int (zI dr), .int (zI sz), .ref au, .ref ap, .ref ab, .ref ae, .ref ah, .int (zI kp), .int (zI ks), .ref ku, .ref kq, .ref kb, .ref ke, .ref kh, .int (zI als), .ref gf, .ref gt, .int (zI ses), .ref sf, .ref st, .int (zI les), .ref ef, .ref et, .int (zI mes), .ref xa, .ref xf, .ref xt, .ref xr, .ref lb, .int (zI lbs), .ref so])), (af, .inl (cL, 72, .inr (.inl (fL (upz (upz (upz From (3 * bn) px) ((3 * bn) + 1) py) ((3 * bn) + 2) pz))))), (at_, .inl (cL, 72, .inr (.inl (fL (upz (upz To (3 * bn) (px + pw)) ((3 * bn) + 1) (py + ph))))))] H locs := hW
          refine lv_aload_n C.1 C.2.1 dMo_box_168 rfl (lv_at hl 2 rfl) ?_
          refine zget C hW 0 5 rfl rfl inMo (by decide) flMo_13 rfl dMo_box_169 ?_
          refine lv_iload C.1 C.2.1 dMo_box_172 (lv_at hl 0 rfl) ?_
          refine lv_iconst (v := zI 2) C.1 C.2.1 dMo_box_174 (by decide) ?_
          refine ziadd C dMo_box_175 ?_
          refine lv_lload C.1 C.2.1 dMo_box_176 (lv_at hl 5 rfl) ?_
          refine lv_lconst (v := zL 1) C.1 C.2.1 dMo_box_178 (by decide) ?_
          refine zladd C dMo_box_179 ?_
          refine zlast C hW 2 2 rfl rfl (by omega) (by omega) (by decide) dMo_box_180 (fun H locs hW => ?_)
          have hB7 : ∀ jj : Int, I64 ((upz (upz (upz To (3 * bn) (px + pw)) ((3 * bn) + 1) (py + ph)) ((3 * bn) + 2) (pz + 1)) jj) := upz_bL hB6 (by omega)
          have hW : zw D zCl A s [(m0, .inr (10, [.int (zI 0), .long (zL wi), .long (zL hi), .int (zI bn), .ref af, .ref at_, .int (zI dr), .int (zI sz), .ref au, .ref ap, .ref ab, .ref ae, .ref ah, .int (zI kp), .int (zI ks), .ref ku, .ref kq, .ref kb, .ref ke, .ref kh, .int (zI als), .ref gf, .ref gt, .int (zI ses), .ref sf, .ref st, .int (zI les), .ref ef, .ref et, .int (zI mes), .ref xa, .ref xf, .ref xt, .ref xr, .ref lb, .int (zI lbs), .ref so])), (af, .inl (cL, 72, .inr (.inl (fL (upz (upz (upz From (3 * bn) px) ((3 * bn) + 1) py) ((3 * bn) + 2) pz))))), (at_, .inl (cL, 72, .inr (.inl (fL (upz (upz (upz To (3 * bn) (px + pw)) ((3 * bn) + 1) (py + ph)) ((3 * bn) + 2) (pz + 1))))))] H locs := hW
          refine lv_aload_n C.1 C.2.1 dMo_box_181 rfl (lv_at hl 2 rfl) ?_
          refine lv_dup C.1 C.2.1 dMo_box_182 rfl ?_
          refine zget C hW 0 3 rfl rfl inMo (by decide) flMo_105 rfl dMo_box_183 ?_
          refine lv_iconst (v := zI 1) C.1 C.2.1 dMo_box_186 (by decide) ?_
          refine ziadd C dMo_box_187 ?_
          refine zput C hW 0 3 tyMo tyMo_ok nmMo rfl rfl inMo (by decide) flMo_105 rfl rfl rfl rfl (Nat.le_of_ble_eq_true rfl) dMo_box_188 (fun H locs hW => ?_)
          have hW : zw D zCl A s [(m0, .inr (10, [.int (zI 0), .long (zL wi), .long (zL hi), .int (zI (bn + 1)), .ref af, .ref at_, .int (zI dr), .int (zI sz), .ref au, .ref ap, .ref ab, .ref ae, .ref ah, .int (zI kp), .int (zI ks), .ref ku, .ref kq, .ref kb, .ref ke, .ref kh, .int (zI als), .ref gf, .ref gt, .int (zI ses), .ref sf, .ref st, .int (zI les), .ref ef, .ref et, .int (zI mes), .ref xa, .ref xf, .ref xt, .ref xr, .ref lb, .int (zI lbs), .ref so])), (af, .inl (cL, 72, .inr (.inl (fL (upz (upz (upz From (3 * bn) px) ((3 * bn) + 1) py) ((3 * bn) + 2) pz))))), (at_, .inl (cL, 72, .inr (.inl (fL (upz (upz (upz To (3 * bn) (px + pw)) ((3 * bn) + 1) (py + ph)) ((3 * bn) + 2) (pz + 1))))))] H locs := hW
          refine lv_aload_n C.1 C.2.1 dMo_box_191 rfl (lv_at hl 2 rfl) ?_
          refine lv_iconst (v := zI 0) C.1 C.2.1 dMo_box_192 (by decide) ?_
          refine zput C hW 0 6 tyMo tyMo_ok nmMo rfl rfl inMo (by decide) flMo_108 rfl rfl (by decide) (by decide) (Nat.le_of_ble_eq_true rfl) dMo_box_193 (fun H locs hW => ?_)
          have hW : zw D zCl A s [(m0, .inr (10, [.int (zI 0), .long (zL wi), .long (zL hi), .int (zI (bn + 1)), .ref af, .ref at_, .int (zI 0), .int (zI sz), .ref au, .ref ap, .ref ab, .ref ae, .ref ah, .int (zI kp), .int (zI ks), .ref ku, .ref kq, .ref kb, .ref ke, .ref kh, .int (zI als), .ref gf, .ref gt, .int (zI ses), .ref sf, .ref st, .int (zI les), .ref ef, .ref et, .int (zI mes), .ref xa, .ref xf, .ref xt, .ref xr, .ref lb, .int (zI lbs), .ref so])), (af, .inl (cL, 72, .inr (.inl (fL (upz (upz (upz From (3 * bn) px) ((3 * bn) + 1) py) ((3 * bn) + 2) pz))))), (at_, .inl (cL, 72, .inr (.inl (fL (upz (upz (upz To (3 * bn) (px + pw)) ((3 * bn) + 1) (py + ph)) ((3 * bn) + 2) (pz + 1))))))] H locs := hW
          refine lv_aload_n C.1 C.2.1 dMo_box_196 rfl (lv_at hl 2 rfl) ?_
          refine zget C hW 0 3 rfl rfl inMo (by decide) flMo_105 rfl dMo_box_197 ?_
          refine lv_iconst (v := zI 1) C.1 C.2.1 dMo_box_200 (by decide) ?_
          refine zisub C dMo_box_201 ?_
          exact hQ (zI ((bn + 1) - 1)) _ H locs _ _ _ ls hW ⟨_, _, _, _, _, _, hB4, hB7, (boxC_0 (by omega) (by omega)), (fun _ => ⟨by omega, rfl, rfl, rfl, rfl⟩), (fun h => absurd rfl h), rfl, rfl⟩ (by omega) (by omega) dMo_box_202
        · exact absurd c102 (by decide)
    · refine lv_iconst (v := zI 1) C.1 C.2.1 dMo_box_81 (by decide) ?_
      refine lv_goto (tgt := 95) C.1 C.2.1 dMo_box_82 (by decide) ?_
      refine zput C hW 0 0 tyMo tyMo_ok nmMo rfl rfl inMo (by decide) flMo_93 rfl rfl rfl rfl (Nat.le_of_ble_eq_true rfl) dMo_box_95 (fun H locs hW => ?_)
      have hW : zw D zCl A s [(m0, .inr (10, [.int (zI 1), .long (zL wi), .long (zL hi), .int (zI bn), .ref af, .ref at_, .int (zI dr), .int (zI sz), .ref au, .ref ap, .ref ab, .ref ae, .ref ah, .int (zI kp), .int (zI ks), .ref ku, .ref kq, .ref kb, .ref ke, .ref kh, .int (zI als), .ref gf, .ref gt, .int (zI ses), .ref sf, .ref st, .int (zI les), .ref ef, .ref et, .int (zI mes), .ref xa, .ref xf, .ref xt, .ref xr, .ref lb, .int (zI lbs), .ref so])), (af, .inl (cL, 72, .inr (.inl (fL From)))), (at_, .inl (cL, 72, .inr (.inl (fL To))))] H locs := hW
      refine lv_aload_n C.1 C.2.1 dMo_box_98 rfl (lv_at hl 1 rfl) ?_
      refine zget C hW 0 0 rfl rfl inMo (by decide) flMo_93 rfl dMo_box_99 ?_
      refine zif_le (tgt := 107) C (by omega) dMo_box_102 (by decide) (fun c102 => ?_) (fun c102 => ?_)
      · exact absurd c102 (by decide)
      · refine lv_iconst (v := zI 0) C.1 C.2.1 dMo_box_105 (by decide) ?_
        exact hQ (zI 0) _ H locs _ _ _ ls hW ⟨_, 0, bn, dr, From, To, bFrom, bTo, (boxC_1 (by omega)), (fun h => absurd h (by decide)), (fun _ => ⟨rfl, rfl, rfl, rfl⟩), rfl, rfl⟩ (by omega) (by omega) dMo_box_106
  refine zif_eq (tgt := 68) C (by omega) dMo_box_10 (by decide) (fun c10 => ?_) (fun c10 => ?_)
  · refine lv_iconst (v := zI 0) C.1 C.2.1 dMo_box_68 (by decide) ?_
    exact L69 0 (by first | (rw [gdX, (bz_eq1 _).mpr c10, (bz_eq1 _).mpr c23, (bz_eq1 _).mpr c37, (bz_eq1 _).mpr c49, (bz_eq1 _).mpr c61]; rfl) | (rw [gdX, (bz_eq0 _).mpr c61]; simp [bz]) | (rw [gdX, (bz_eq0 _).mpr c49]; simp [bz]) | (rw [gdX, (bz_eq0 _).mpr c37]; simp [bz]) | (rw [gdX, (bz_eq0 _).mpr c23]; simp [bz]) | (rw [gdX, (bz_eq0 _).mpr c10]; simp [bz])) (by omega) ls H locs (lv_sub hl [0, 1, 2, 3, 4, 5] rfl) hW
  · refine lv_lload_n C.1 C.2.1 dMo_box_13 rfl (lv_at hl 2 rfl) ?_
    refine zldc2 C kcMo_97 dMo_box_14 ?_
    refine zldc2 C kcMo_99 dMo_box_17 ?_
    refine zcalli (wr := [(m0, .inr (10, [.int (zI cd), .long (zL wi), .long (zL hi), .int (zI bn), .ref af, .ref at_, .int (zI dr), .int (zI sz), .ref au, .ref ap, .ref ab, .ref ae, .ref ah, .int (zI kp), .int (zI ks), .ref ku, .ref kq, .ref kb, .ref ke, .ref kh, .int (zI als), .ref gf, .ref gt, .int (zI ses), .ref sf, .ref st, .int (zI les), .ref ef, .ref et, .int (zI mes), .ref xa, .ref xf, .ref xt, .ref xr, .ref lb, .int (zI lbs), .ref so])), (af, .inl (cL, 72, .inr (.inl (fL From)))), (at_, .inl (cL, 72, .inr (.inl (fL To))))]) C hW [] [0, 1, 2] rfl rfl (by decide) (by decide) (zRunS (k := 3) (As := [.long (zL py), .long (zL (-1000000)), .long (zL 1000000)]) (rest := []) C hW (m_isIn l D cI cG cL cB py (-1000000) 1000000 (by omega) (by omega) (by omega) H.size) [] rfl (by decide) kMo_101 (by decide +kernel) ⟨by decide, by decide⟩ rfl hl.1 (Nat.le_of_ble_eq_true rfl) dMo_box_20 ⟨by first | decide | omega, by first | decide | omega⟩) (fun x w H locs hq hW => ?_)
    obtain ⟨rfl, rfl⟩ := hq
    have hW : zw D zCl A s [(m0, .inr (10, [.int (zI cd), .long (zL wi), .long (zL hi), .int (zI bn), .ref af, .ref at_, .int (zI dr), .int (zI sz), .ref au, .ref ap, .ref ab, .ref ae, .ref ah, .int (zI kp), .int (zI ks), .ref ku, .ref kq, .ref kb, .ref ke, .ref kh, .int (zI als), .ref gf, .ref gt, .int (zI ses), .ref sf, .ref st, .int (zI les), .ref ef, .ref et, .int (zI mes), .ref xa, .ref xf, .ref xt, .ref xr, .ref lb, .int (zI lbs), .ref so])), (af, .inl (cL, 72, .inr (.inl (fL From)))), (at_, .inl (cL, 72, .inr (.inl (fL To))))] H locs := hW
    have hr8 := bz_01 (inR py (-1000000) 1000000)
    refine zif_eq (tgt := 68) C (by omega) dMo_box_23 (by decide) (fun c23 => ?_) (fun c23 => ?_)
    · refine lv_iconst (v := zI 0) C.1 C.2.1 dMo_box_68 (by decide) ?_
      exact L69 0 (by first | (rw [gdX, (bz_eq1 _).mpr c10, (bz_eq1 _).mpr c23, (bz_eq1 _).mpr c37, (bz_eq1 _).mpr c49, (bz_eq1 _).mpr c61]; rfl) | (rw [gdX, (bz_eq0 _).mpr c61]; simp [bz]) | (rw [gdX, (bz_eq0 _).mpr c49]; simp [bz]) | (rw [gdX, (bz_eq0 _).mpr c37]; simp [bz]) | (rw [gdX, (bz_eq0 _).mpr c23]; simp [bz]) | (rw [gdX, (bz_eq0 _).mpr c10]; simp [bz])) (by omega) ls H locs (lv_sub hl [0, 1, 2, 3, 4, 5] rfl) hW
    · refine lv_lload C.1 C.2.1 dMo_box_26 (lv_at hl 3 rfl) ?_
      refine zldc2 C kcMo_97 dMo_box_28 ?_
      refine zldc2 C kcMo_99 dMo_box_31 ?_
      refine zcalli (wr := [(m0, .inr (10, [.int (zI cd), .long (zL wi), .long (zL hi), .int (zI bn), .ref af, .ref at_, .int (zI dr), .int (zI sz), .ref au, .ref ap, .ref ab, .ref ae, .ref ah, .int (zI kp), .int (zI ks), .ref ku, .ref kq, .ref kb, .ref ke, .ref kh, .int (zI als), .ref gf, .ref gt, .int (zI ses), .ref sf, .ref st, .int (zI les), .ref ef, .ref et, .int (zI mes), .ref xa, .ref xf, .ref xt, .ref xr, .ref lb, .int (zI lbs), .ref so])), (af, .inl (cL, 72, .inr (.inl (fL From)))), (at_, .inl (cL, 72, .inr (.inl (fL To))))]) C hW [] [0, 1, 2] rfl rfl (by decide) (by decide) (zRunS (k := 3) (As := [.long (zL pz), .long (zL (-1000000)), .long (zL 1000000)]) (rest := []) C hW (m_isIn l D cI cG cL cB pz (-1000000) 1000000 (by omega) (by omega) (by omega) H.size) [] rfl (by decide) kMo_101 (by decide +kernel) ⟨by decide, by decide⟩ rfl hl.1 (Nat.le_of_ble_eq_true rfl) dMo_box_34 ⟨by first | decide | omega, by first | decide | omega⟩) (fun x w H locs hq hW => ?_)
      obtain ⟨rfl, rfl⟩ := hq
      have hW : zw D zCl A s [(m0, .inr (10, [.int (zI cd), .long (zL wi), .long (zL hi), .int (zI bn), .ref af, .ref at_, .int (zI dr), .int (zI sz), .ref au, .ref ap, .ref ab, .ref ae, .ref ah, .int (zI kp), .int (zI ks), .ref ku, .ref kq, .ref kb, .ref ke, .ref kh, .int (zI als), .ref gf, .ref gt, .int (zI ses), .ref sf, .ref st, .int (zI les), .ref ef, .ref et, .int (zI mes), .ref xa, .ref xf, .ref xt, .ref xr, .ref lb, .int (zI lbs), .ref so])), (af, .inl (cL, 72, .inr (.inl (fL From)))), (at_, .inl (cL, 72, .inr (.inl (fL To))))] H locs := hW
      have hr9 := bz_01 (inR pz (-1000000) 1000000)
      refine zif_eq (tgt := 68) C (by omega) dMo_box_37 (by decide) (fun c37 => ?_) (fun c37 => ?_)
      · refine lv_iconst (v := zI 0) C.1 C.2.1 dMo_box_68 (by decide) ?_
        exact L69 0 (by first | (rw [gdX, (bz_eq1 _).mpr c10, (bz_eq1 _).mpr c23, (bz_eq1 _).mpr c37, (bz_eq1 _).mpr c49, (bz_eq1 _).mpr c61]; rfl) | (rw [gdX, (bz_eq0 _).mpr c61]; simp [bz]) | (rw [gdX, (bz_eq0 _).mpr c49]; simp [bz]) | (rw [gdX, (bz_eq0 _).mpr c37]; simp [bz]) | (rw [gdX, (bz_eq0 _).mpr c23]; simp [bz]) | (rw [gdX, (bz_eq0 _).mpr c10]; simp [bz])) (by omega) ls H locs (lv_sub hl [0, 1, 2, 3, 4, 5] rfl) hW
      · refine lv_lload C.1 C.2.1 dMo_box_40 (lv_at hl 4 rfl) ?_
        refine lv_lconst (v := zL 1) C.1 C.2.1 dMo_box_42 (by decide) ?_
        refine zldc2 C kcMo_99 dMo_box_43 ?_
        refine zcalli (wr := [(m0, .inr (10, [.int (zI cd), .long (zL wi), .long (zL hi), .int (zI bn), .ref af, .ref at_, .int (zI dr), .int (zI sz), .ref au, .ref ap, .ref ab, .ref ae, .ref ah, .int (zI kp), .int (zI ks), .ref ku, .ref kq, .ref kb, .ref ke, .ref kh, .int (zI als), .ref gf, .ref gt, .int (zI ses), .ref sf, .ref st, .int (zI les), .ref ef, .ref et, .int (zI mes), .ref xa, .ref xf, .ref xt, .ref xr, .ref lb, .int (zI lbs), .ref so])), (af, .inl (cL, 72, .inr (.inl (fL From)))), (at_, .inl (cL, 72, .inr (.inl (fL To))))]) C hW [] [0, 1, 2] rfl rfl (by decide) (by decide) (zRunS (k := 3) (As := [.long (zL pw), .long (zL 1), .long (zL 1000000)]) (rest := []) C hW (m_isIn l D cI cG cL cB pw 1 1000000 (by omega) (by omega) (by omega) H.size) [] rfl (by decide) kMo_101 (by decide +kernel) ⟨by decide, by decide⟩ rfl hl.1 (Nat.le_of_ble_eq_true rfl) dMo_box_46 ⟨by first | decide | omega, by first | decide | omega⟩) (fun x w H locs hq hW => ?_)
        obtain ⟨rfl, rfl⟩ := hq
        have hW : zw D zCl A s [(m0, .inr (10, [.int (zI cd), .long (zL wi), .long (zL hi), .int (zI bn), .ref af, .ref at_, .int (zI dr), .int (zI sz), .ref au, .ref ap, .ref ab, .ref ae, .ref ah, .int (zI kp), .int (zI ks), .ref ku, .ref kq, .ref kb, .ref ke, .ref kh, .int (zI als), .ref gf, .ref gt, .int (zI ses), .ref sf, .ref st, .int (zI les), .ref ef, .ref et, .int (zI mes), .ref xa, .ref xf, .ref xt, .ref xr, .ref lb, .int (zI lbs), .ref so])), (af, .inl (cL, 72, .inr (.inl (fL From)))), (at_, .inl (cL, 72, .inr (.inl (fL To))))] H locs := hW
        have hr10 := bz_01 (inR pw 1 1000000)
        refine zif_eq (tgt := 68) C (by omega) dMo_box_49 (by decide) (fun c49 => ?_) (fun c49 => ?_)
        · refine lv_iconst (v := zI 0) C.1 C.2.1 dMo_box_68 (by decide) ?_
          exact L69 0 (by first | (rw [gdX, (bz_eq1 _).mpr c10, (bz_eq1 _).mpr c23, (bz_eq1 _).mpr c37, (bz_eq1 _).mpr c49, (bz_eq1 _).mpr c61]; rfl) | (rw [gdX, (bz_eq0 _).mpr c61]; simp [bz]) | (rw [gdX, (bz_eq0 _).mpr c49]; simp [bz]) | (rw [gdX, (bz_eq0 _).mpr c37]; simp [bz]) | (rw [gdX, (bz_eq0 _).mpr c23]; simp [bz]) | (rw [gdX, (bz_eq0 _).mpr c10]; simp [bz])) (by omega) ls H locs (lv_sub hl [0, 1, 2, 3, 4, 5] rfl) hW
        · refine lv_lload C.1 C.2.1 dMo_box_52 (lv_at hl 5 rfl) ?_
          refine lv_lconst (v := zL 1) C.1 C.2.1 dMo_box_54 (by decide) ?_
          refine zldc2 C kcMo_99 dMo_box_55 ?_
          refine zcalli (wr := [(m0, .inr (10, [.int (zI cd), .long (zL wi), .long (zL hi), .int (zI bn), .ref af, .ref at_, .int (zI dr), .int (zI sz), .ref au, .ref ap, .ref ab, .ref ae, .ref ah, .int (zI kp), .int (zI ks), .ref ku, .ref kq, .ref kb, .ref ke, .ref kh, .int (zI als), .ref gf, .ref gt, .int (zI ses), .ref sf, .ref st, .int (zI les), .ref ef, .ref et, .int (zI mes), .ref xa, .ref xf, .ref xt, .ref xr, .ref lb, .int (zI lbs), .ref so])), (af, .inl (cL, 72, .inr (.inl (fL From)))), (at_, .inl (cL, 72, .inr (.inl (fL To))))]) C hW [] [0, 1, 2] rfl rfl (by decide) (by decide) (zRunS (k := 3) (As := [.long (zL ph), .long (zL 1), .long (zL 1000000)]) (rest := []) C hW (m_isIn l D cI cG cL cB ph 1 1000000 (by omega) (by omega) (by omega) H.size) [] rfl (by decide) kMo_101 (by decide +kernel) ⟨by decide, by decide⟩ rfl hl.1 (Nat.le_of_ble_eq_true rfl) dMo_box_58 ⟨by first | decide | omega, by first | decide | omega⟩) (fun x w H locs hq hW => ?_)
          obtain ⟨rfl, rfl⟩ := hq
          have hW : zw D zCl A s [(m0, .inr (10, [.int (zI cd), .long (zL wi), .long (zL hi), .int (zI bn), .ref af, .ref at_, .int (zI dr), .int (zI sz), .ref au, .ref ap, .ref ab, .ref ae, .ref ah, .int (zI kp), .int (zI ks), .ref ku, .ref kq, .ref kb, .ref ke, .ref kh, .int (zI als), .ref gf, .ref gt, .int (zI ses), .ref sf, .ref st, .int (zI les), .ref ef, .ref et, .int (zI mes), .ref xa, .ref xf, .ref xt, .ref xr, .ref lb, .int (zI lbs), .ref so])), (af, .inl (cL, 72, .inr (.inl (fL From)))), (at_, .inl (cL, 72, .inr (.inl (fL To))))] H locs := hW
          have hr11 := bz_01 (inR ph 1 1000000)
          refine zif_eq (tgt := 68) C (by omega) dMo_box_61 (by decide) (fun c61 => ?_) (fun c61 => ?_)
          · refine lv_iconst (v := zI 0) C.1 C.2.1 dMo_box_68 (by decide) ?_
            exact L69 0 (by first | (rw [gdX, (bz_eq1 _).mpr c10, (bz_eq1 _).mpr c23, (bz_eq1 _).mpr c37, (bz_eq1 _).mpr c49, (bz_eq1 _).mpr c61]; rfl) | (rw [gdX, (bz_eq0 _).mpr c61]; simp [bz]) | (rw [gdX, (bz_eq0 _).mpr c49]; simp [bz]) | (rw [gdX, (bz_eq0 _).mpr c37]; simp [bz]) | (rw [gdX, (bz_eq0 _).mpr c23]; simp [bz]) | (rw [gdX, (bz_eq0 _).mpr c10]; simp [bz])) (by omega) ls H locs (lv_sub hl [0, 1, 2, 3, 4, 5] rfl) hW
          · refine lv_iconst (v := zI 1) C.1 C.2.1 dMo_box_64 (by decide) ?_
            refine lv_goto (tgt := 69) C.1 C.2.1 dMo_box_65 (by decide) ?_
            exact L69 1 (by first | (rw [gdX, (bz_eq1 _).mpr c10, (bz_eq1 _).mpr c23, (bz_eq1 _).mpr c37, (bz_eq1 _).mpr c49, (bz_eq1 _).mpr c61]; rfl) | (rw [gdX, (bz_eq0 _).mpr c61]; simp [bz]) | (rw [gdX, (bz_eq0 _).mpr c49]; simp [bz]) | (rw [gdX, (bz_eq0 _).mpr c37]; simp [bz]) | (rw [gdX, (bz_eq0 _).mpr c23]; simp [bz]) | (rw [gdX, (bz_eq0 _).mpr c10]; simp [bz])) (by omega) ls H locs (lv_sub hl [0, 1, 2, 3, 4, 5] rfl) hW
set_option maxHeartbeats 4000000 in
set_option maxRecDepth 100000 in
theorem m_deep (l : Launch) (D : va_G) (cI cG cL cB : ClassId) (m0 : Nat) (cd : Int) (wi : Int) (hi : Int) (bn : Int) (af : Nat) (at_ : Nat) (dr : Int) (sz : Int) (au : Nat) (ap : Nat) (ab : Nat) (ae : Nat) (ah : Nat) (kp : Int) (ks : Int) (ku : Nat) (kq : Nat) (kb : Nat) (ke : Nat) (kh : Nat) (als : Int) (gf : Nat) (gt : Nat) (ses : Int) (sf : Nat) (st : Nat) (les : Int) (ef : Nat) (et : Nat) (mes : Int) (xa : Nat) (xf : Nat) (xt : Nat) (xr : Nat) (lb : Nat) (lbs : Int) (so : Nat) (From : Int → Int) (To : Int → Int) (bx : Int) (d_ : Int) (bFrom : ∀ j : Int, I64 (From j)) (bTo : ∀ j : Int, I64 (To j)) (hbn0 : 0 ≤ bn) (hbn1 : bn ≤ 24) (hMB : moB bn From To) (hIbx : I32 bx) (hJd_ : I64 d_) : Ci l yMo_deep cMo_deep 5 (some .boolean) 1 0 0 D zCl (zT cI cG cL cB) [.ref m0, .int (zI bx), .long (zL d_)] [(m0, .inr (10, [.int (zI cd), .long (zL wi), .long (zL hi), .int (zI bn), .ref af, .ref at_, .int (zI dr), .int (zI sz), .ref au, .ref ap, .ref ab, .ref ae, .ref ah, .int (zI kp), .int (zI ks), .ref ku, .ref kq, .ref kb, .ref ke, .ref kh, .int (zI als), .ref gf, .ref gt, .int (zI ses), .ref sf, .ref st, .int (zI les), .ref ef, .ref et, .int (zI mes), .ref xa, .ref xf, .ref xt, .ref xr, .ref lb, .int (zI lbs), .ref so])), (af, .inl (cL, 72, .inr (.inl (fL From)))), (at_, .inl (cL, 72, .inr (.inl (fL To))))] (fun x w => ∃ cd2 : Int, ∃ r2 : Int, ∃ dr2 : Int, ∃ To2 : Int → Int, (∀ j : Int, I64 (To2 j)) ∧ (cd2 = deC bn bx (inR d_ 1 1000000)) ∧ (r2 = 0 ∨ r2 = 1) ∧ (r2 = 1 → cd2 = 0 ∧ To (3 * bx + 2) ≠ From (3 * bx + 2) + d_ ∧ To2 = upz To (3 * bx + 2) (From (3 * bx + 2) + d_) ∧ dr2 = 0) ∧ (r2 = 0 → To2 = To ∧ dr2 = dr ∧ (cd2 = 0 → To (3 * bx + 2) = From (3 * bx + 2) + d_)) ∧ x = zI r2 ∧ w = [(m0, .inr (10, [.int (zI cd2), .long (zL wi), .long (zL hi), .int (zI bn), .ref af, .ref at_, .int (zI dr2), .int (zI sz), .ref au, .ref ap, .ref ab, .ref ae, .ref ah, .int (zI kp), .int (zI ks), .ref ku, .ref kq, .ref kb, .ref ke, .ref kh, .int (zI als), .ref gf, .ref gt, .int (zI ses), .ref sf, .ref st, .int (zI les), .ref ef, .ref et, .int (zI mes), .ref xa, .ref xf, .ref xt, .ref xr, .ref lb, .int (zI lbs), .ref so])), (af, .inl (cL, 72, .inr (.inl (fL From)))), (at_, .inl (cL, 72, .inr (.inl (fL To2))))]) := by
  refine zBz (by decide) (Nat.le_of_ble_eq_true rfl) ?_
  intro p e s m args below meth c ls A H locs Q C hin hl hW hQ
  have hl : lv_has ls 5 [(0, .ref m0), (1, .int (zI bx)), (2, .long (zL d_))] := hl
  refine lv_aload_n C.1 C.2.1 dMo_deep_0 rfl (lv_at hl 0 rfl) ?_
  refine lv_iload_n C.1 C.2.1 dMo_deep_1 rfl (lv_at hl 1 rfl) ?_
  refine zcalli (wr := [(af, .inl (cL, 72, .inr (.inl (fL From)))), (at_, .inl (cL, 72, .inr (.inl (fL To))))]) C hW [0] [1, 2] rfl rfl (by decide) (by decide) (zRunV (k := 1) (As := [.int (zI bx)]) (rest := []) C hW (m_noBox l D cI cG cL cB m0 cd wi hi bn af at_ dr sz au ap ab ae ah kp ks ku kq kb ke kh als gf gt ses sf st les ef et mes xa xf xt xr lb lbs so bx (by omega) (by omega) H.size) [0] rfl (by decide) kMo_112 (by decide +kernel) ⟨by decide, by decide⟩ 0 rfl rfl rfl hl.1 (Nat.le_of_ble_eq_true rfl) dMo_deep_2 ⟨by first | decide | omega, by first | decide | omega⟩) (fun x w H locs hq hW => ?_)
  obtain ⟨rfl, rfl⟩ := hq
  have hW : zw D zCl A s [(af, .inl (cL, 72, .inr (.inl (fL From)))), (at_, .inl (cL, 72, .inr (.inl (fL To)))), (m0, .inr (10, [.int (zI (noB bn bx)), .long (zL wi), .long (zL hi), .int (zI bn), .ref af, .ref at_, .int (zI dr), .int (zI sz), .ref au, .ref ap, .ref ab, .ref ae, .ref ah, .int (zI kp), .int (zI ks), .ref ku, .ref kq, .ref kb, .ref ke, .ref kh, .int (zI als), .ref gf, .ref gt, .int (zI ses), .ref sf, .ref st, .int (zI les), .ref ef, .ref et, .int (zI mes), .ref xa, .ref xf, .ref xt, .ref xr, .ref lb, .int (zI lbs), .ref so]))] H locs := hW
  have hnbi := noB_in bn bx
  refine zif_eq (tgt := 10) C (by omega) dMo_deep_5 (by decide) (fun c5 => ?_) (fun c5 => ?_)
  · have hnb : 0 ≤ bx ∧ bx < bn := noB_0 (by omega)
    refine lv_aload_n C.1 C.2.1 dMo_deep_10 rfl (lv_at hl 0 rfl) ?_
    refine lv_lload_n C.1 C.2.1 dMo_deep_11 rfl (lv_at hl 2 rfl) ?_
    refine lv_lconst (v := zL 1) C.1 C.2.1 dMo_deep_12 (by decide) ?_
    refine zldc2 C kcMo_99 dMo_deep_13 ?_
    refine zcalli (wr := [(af, .inl (cL, 72, .inr (.inl (fL From)))), (at_, .inl (cL, 72, .inr (.inl (fL To)))), (m0, .inr (10, [.int (zI (noB bn bx)), .long (zL wi), .long (zL hi), .int (zI bn), .ref af, .ref at_, .int (zI dr), .int (zI sz), .ref au, .ref ap, .ref ab, .ref ae, .ref ah, .int (zI kp), .int (zI ks), .ref ku, .ref kq, .ref kb, .ref ke, .ref kh, .int (zI als), .ref gf, .ref gt, .int (zI ses), .ref sf, .ref st, .int (zI les), .ref ef, .ref et, .int (zI mes), .ref xa, .ref xf, .ref xt, .ref xr, .ref lb, .int (zI lbs), .ref so]))]) C hW [] [0, 1, 2] rfl rfl (by decide) (by decide) (zRunS (k := 3) (As := [.long (zL d_), .long (zL 1), .long (zL 1000000)]) (rest := [.ref m0]) C hW (m_isIn l D cI cG cL cB d_ 1 1000000 (by omega) (by omega) (by omega) H.size) [] rfl (by decide) kMo_101 (by decide +kernel) ⟨by decide, by decide⟩ rfl hl.1 (Nat.le_of_ble_eq_true rfl) dMo_deep_16 ⟨by first | decide | omega, by first | decide | omega⟩) (fun x w H locs hq hW => ?_)
    obtain ⟨rfl, rfl⟩ := hq
    have hW : zw D zCl A s [(af, .inl (cL, 72, .inr (.inl (fL From)))), (at_, .inl (cL, 72, .inr (.inl (fL To)))), (m0, .inr (10, [.int (zI (noB bn bx)), .long (zL wi), .long (zL hi), .int (zI bn), .ref af, .ref at_, .int (zI dr), .int (zI sz), .ref au, .ref ap, .ref ab, .ref ae, .ref ah, .int (zI kp), .int (zI ks), .ref ku, .ref kq, .ref kb, .ref ke, .ref kh, .int (zI als), .ref gf, .ref gt, .int (zI ses), .ref sf, .ref st, .int (zI les), .ref ef, .ref et, .int (zI mes), .ref xa, .ref xf, .ref xt, .ref xr, .ref lb, .int (zI lbs), .ref so]))] H locs := hW
    have hr1 := bz_01 (inR d_ 1 1000000)
    refine zif_eq (tgt := 26) C (by omega) dMo_deep_19 (by decide) (fun c19 => ?_) (fun c19 => ?_)
    · refine lv_iconst (v := zI 2) C.1 C.2.1 dMo_deep_26 (by decide) ?_
      refine zput C hW 2 0 tyMo tyMo_ok nmMo rfl rfl inMo (by decide) flMo_93 rfl rfl rfl rfl (Nat.le_of_ble_eq_true rfl) dMo_deep_27 (fun H locs hW => ?_)
      have hW : zw D zCl A s [(af, .inl (cL, 72, .inr (.inl (fL From)))), (at_, .inl (cL, 72, .inr (.inl (fL To)))), (m0, .inr (10, [.int (zI 2), .long (zL wi), .long (zL hi), .int (zI bn), .ref af, .ref at_, .int (zI dr), .int (zI sz), .ref au, .ref ap, .ref ab, .ref ae, .ref ah, .int (zI kp), .int (zI ks), .ref ku, .ref kq, .ref kb, .ref ke, .ref kh, .int (zI als), .ref gf, .ref gt, .int (zI ses), .ref sf, .ref st, .int (zI les), .ref ef, .ref et, .int (zI mes), .ref xa, .ref xf, .ref xt, .ref xr, .ref lb, .int (zI lbs), .ref so]))] H locs := hW
      refine lv_iconst (v := zI 3) C.1 C.2.1 dMo_deep_30 (by decide) ?_
      refine lv_iload_n C.1 C.2.1 dMo_deep_31 rfl (lv_at hl 1 rfl) ?_
      refine zimul C dMo_deep_32 ?_
      refine lv_iconst (v := zI 2) C.1 C.2.1 dMo_deep_33 (by decide) ?_
      refine ziadd C dMo_deep_34 ?_
      refine lv_istore (lv' := [(4, .int (zI ((3 * bx) + 2))), (0, .ref m0), (1, .int (zI bx)), (2, .long (zL d_))]) C.1 C.2.1 dMo_deep_35 hl (by decide) rfl (fun ls hl => ?_)
      refine lv_aload_n C.1 C.2.1 dMo_deep_37 rfl (lv_at hl 1 rfl) ?_
      refine zget C hW 2 0 rfl rfl inMo (by decide) flMo_93 rfl dMo_deep_38 ?_
      refine zif_gt (tgt := 64) C (by omega) dMo_deep_41 (by decide) (fun c41 => ?_) (fun c41 => ?_)
      · refine lv_iconst (v := zI 0) C.1 C.2.1 dMo_deep_64 (by decide) ?_
        have hW : zw D zCl A s [(m0, .inr (10, [.int (zI 2), .long (zL wi), .long (zL hi), .int (zI bn), .ref af, .ref at_, .int (zI dr), .int (zI sz), .ref au, .ref ap, .ref ab, .ref ae, .ref ah, .int (zI kp), .int (zI ks), .ref ku, .ref kq, .ref kb, .ref ke, .ref kh, .int (zI als), .ref gf, .ref gt, .int (zI ses), .ref sf, .ref st, .int (zI les), .ref ef, .ref et, .int (zI mes), .ref xa, .ref xf, .ref xt, .ref xr, .ref lb, .int (zI lbs), .ref so])), (af, .inl (cL, 72, .inr (.inl (fL From)))), (at_, .inl (cL, 72, .inr (.inl (fL To))))] H locs := zwp hW [2, 0, 1] rfl (by decide)
        exact hQ (zI 0) _ H locs _ _ _ ls hW (by decide) ⟨_, 0, dr, To, bTo, deC_2 hnb (by omega), Or.inl rfl, (fun h => absurd h (by decide)), (fun _ => ⟨rfl, rfl, fun h => absurd h (by decide)⟩), rfl, rfl⟩ (by omega) (by omega) dMo_deep_65
      · exact absurd c41 (by decide)
    · refine lv_iconst (v := zI 0) C.1 C.2.1 dMo_deep_22 (by decide) ?_
      refine lv_goto (tgt := 27) C.1 C.2.1 dMo_deep_23 (by decide) ?_
      refine zput C hW 2 0 tyMo tyMo_ok nmMo rfl rfl inMo (by decide) flMo_93 rfl rfl rfl rfl (Nat.le_of_ble_eq_true rfl) dMo_deep_27 (fun H locs hW => ?_)
      have hW : zw D zCl A s [(af, .inl (cL, 72, .inr (.inl (fL From)))), (at_, .inl (cL, 72, .inr (.inl (fL To)))), (m0, .inr (10, [.int (zI 0), .long (zL wi), .long (zL hi), .int (zI bn), .ref af, .ref at_, .int (zI dr), .int (zI sz), .ref au, .ref ap, .ref ab, .ref ae, .ref ah, .int (zI kp), .int (zI ks), .ref ku, .ref kq, .ref kb, .ref ke, .ref kh, .int (zI als), .ref gf, .ref gt, .int (zI ses), .ref sf, .ref st, .int (zI les), .ref ef, .ref et, .int (zI mes), .ref xa, .ref xf, .ref xt, .ref xr, .ref lb, .int (zI lbs), .ref so]))] H locs := hW
      refine lv_iconst (v := zI 3) C.1 C.2.1 dMo_deep_30 (by decide) ?_
      refine lv_iload_n C.1 C.2.1 dMo_deep_31 rfl (lv_at hl 1 rfl) ?_
      refine zimul C dMo_deep_32 ?_
      refine lv_iconst (v := zI 2) C.1 C.2.1 dMo_deep_33 (by decide) ?_
      refine ziadd C dMo_deep_34 ?_
      refine lv_istore (lv' := [(4, .int (zI ((3 * bx) + 2))), (0, .ref m0), (1, .int (zI bx)), (2, .long (zL d_))]) C.1 C.2.1 dMo_deep_35 hl (by decide) rfl (fun ls hl => ?_)
      refine lv_aload_n C.1 C.2.1 dMo_deep_37 rfl (lv_at hl 1 rfl) ?_
      refine zget C hW 2 0 rfl rfl inMo (by decide) flMo_93 rfl dMo_deep_38 ?_
      refine zif_gt (tgt := 64) C (by omega) dMo_deep_41 (by decide) (fun c41 => ?_) (fun c41 => ?_)
      · exact absurd c41 (by decide)
      · have hdr_ := of_decide_eq_true ((bz_eq1 _).mpr c19)
        have hmb := hMB (3 * bx + 2) (by omega) (by omega)
        refine lv_aload_n C.1 C.2.1 dMo_deep_44 rfl (lv_at hl 1 rfl) ?_
        refine zget C hW 2 5 rfl rfl inMo (by decide) flMo_13 rfl dMo_deep_45 ?_
        refine lv_iload C.1 C.2.1 dMo_deep_48 (lv_at hl 0 rfl) ?_
        refine zlald C hW 1 2 rfl rfl (by omega) (by omega) (by decide) dMo_deep_50 ?_
        have hb2 := bTo ((3 * bx) + 2)
        refine lv_aload_n C.1 C.2.1 dMo_deep_51 rfl (lv_at hl 1 rfl) ?_
        refine zget C hW 2 4 rfl rfl inMo (by decide) flMo_7 rfl dMo_deep_52 ?_
        refine lv_iload C.1 C.2.1 dMo_deep_55 (lv_at hl 0 rfl) ?_
        refine zlald C hW 0 2 rfl rfl (by omega) (by omega) (by decide) dMo_deep_57 ?_
        have hb3 := bFrom ((3 * bx) + 2)
        refine lv_lload_n C.1 C.2.1 dMo_deep_58 rfl (lv_at hl 3 rfl) ?_
        refine zladd C dMo_deep_59 ?_
        refine zlcmp_ne (tgt := 66) C (by omega) (by omega) dMo_deep_60 dMo_deep_61 (by decide) (fun c60 => ?_) (fun c60 => ?_)
        · refine lv_aload_n C.1 C.2.1 dMo_deep_66 rfl (lv_at hl 1 rfl) ?_
          refine zget C hW 2 5 rfl rfl inMo (by decide) flMo_13 rfl dMo_deep_67 ?_
          refine lv_iload C.1 C.2.1 dMo_deep_70 (lv_at hl 0 rfl) ?_
          refine lv_aload_n C.1 C.2.1 dMo_deep_72 rfl (lv_at hl 1 rfl) ?_
          refine zget C hW 2 4 rfl rfl inMo (by decide) flMo_7 rfl dMo_deep_73 ?_
          refine lv_iload C.1 C.2.1 dMo_deep_76 (lv_at hl 0 rfl) ?_
          refine zlald C hW 0 2 rfl rfl (by omega) (by omega) (by decide) dMo_deep_78 ?_
          have hb4 := bFrom ((3 * bx) + 2)
          refine lv_lload_n C.1 C.2.1 dMo_deep_79 rfl (lv_at hl 3 rfl) ?_
          refine zladd C dMo_deep_80 ?_
          refine zlast C hW 1 2 rfl rfl (by omega) (by omega) (by decide) dMo_deep_81 (fun H locs hW => ?_)
          have hB5 : ∀ jj : Int, I64 ((upz To ((3 * bx) + 2) ((From ((3 * bx) + 2)) + d_)) jj) := upz_bL bTo (by omega)
          have hW : zw D zCl A s [(af, .inl (cL, 72, .inr (.inl (fL From)))), (at_, .inl (cL, 72, .inr (.inl (fL (upz To ((3 * bx) + 2) ((From ((3 * bx) + 2)) + d_)))))), (m0, .inr (10, [.int (zI 0), .long (zL wi), .long (zL hi), .int (zI bn), .ref af, .ref at_, .int (zI dr), .int (zI sz), .ref au, .ref ap, .ref ab, .ref ae, .ref ah, .int (zI kp), .int (zI ks), .ref ku, .ref kq, .ref kb, .ref ke, .ref kh, .int (zI als), .ref gf, .ref gt, .int (zI ses), .ref sf, .ref st, .int (zI les), .ref ef, .ref et, .int (zI mes), .ref xa, .ref xf, .ref xt, .ref xr, .ref lb, .int (zI lbs), .ref so]))] H locs := hW
          refine lv_aload_n C.1 C.2.1 dMo_deep_82 rfl (lv_at hl 1 rfl) ?_
          refine lv_iconst (v := zI 0) C.1 C.2.1 dMo_deep_83 (by decide) ?_
          refine zput C hW 2 6 tyMo tyMo_ok nmMo rfl rfl inMo (by decide) flMo_108 rfl rfl (by decide) (by decide) (Nat.le_of_ble_eq_true rfl) dMo_deep_84 (fun H locs hW => ?_)
          have hW : zw D zCl A s [(af, .inl (cL, 72, .inr (.inl (fL From)))), (at_, .inl (cL, 72, .inr (.inl (fL (upz To ((3 * bx) + 2) ((From ((3 * bx) + 2)) + d_)))))), (m0, .inr (10, [.int (zI 0), .long (zL wi), .long (zL hi), .int (zI bn), .ref af, .ref at_, .int (zI 0), .int (zI sz), .ref au, .ref ap, .ref ab, .ref ae, .ref ah, .int (zI kp), .int (zI ks), .ref ku, .ref kq, .ref kb, .ref ke, .ref kh, .int (zI als), .ref gf, .ref gt, .int (zI ses), .ref sf, .ref st, .int (zI les), .ref ef, .ref et, .int (zI mes), .ref xa, .ref xf, .ref xt, .ref xr, .ref lb, .int (zI lbs), .ref so]))] H locs := hW
          refine lv_iconst (v := zI 1) C.1 C.2.1 dMo_deep_87 (by decide) ?_
          have hW : zw D zCl A s [(m0, .inr (10, [.int (zI 0), .long (zL wi), .long (zL hi), .int (zI bn), .ref af, .ref at_, .int (zI 0), .int (zI sz), .ref au, .ref ap, .ref ab, .ref ae, .ref ah, .int (zI kp), .int (zI ks), .ref ku, .ref kq, .ref kb, .ref ke, .ref kh, .int (zI als), .ref gf, .ref gt, .int (zI ses), .ref sf, .ref st, .int (zI les), .ref ef, .ref et, .int (zI mes), .ref xa, .ref xf, .ref xt, .ref xr, .ref lb, .int (zI lbs), .ref so])), (af, .inl (cL, 72, .inr (.inl (fL From)))), (at_, .inl (cL, 72, .inr (.inl (fL (upz To ((3 * bx) + 2) ((From ((3 * bx) + 2)) + d_))))))] H locs := zwp hW [2, 0, 1] rfl (by decide)
          exact hQ (zI 1) _ H locs _ _ _ ls hW (by decide) ⟨_, 1, _, _, hB5, deC_0 hnb (by omega), Or.inr rfl, (fun _ => ⟨rfl, by omega, rfl, rfl⟩), (fun h => absurd h (by decide)), rfl, rfl⟩ (by omega) (by omega) dMo_deep_88
        · refine lv_iconst (v := zI 0) C.1 C.2.1 dMo_deep_64 (by decide) ?_
          have hW : zw D zCl A s [(m0, .inr (10, [.int (zI 0), .long (zL wi), .long (zL hi), .int (zI bn), .ref af, .ref at_, .int (zI dr), .int (zI sz), .ref au, .ref ap, .ref ab, .ref ae, .ref ah, .int (zI kp), .int (zI ks), .ref ku, .ref kq, .ref kb, .ref ke, .ref kh, .int (zI als), .ref gf, .ref gt, .int (zI ses), .ref sf, .ref st, .int (zI les), .ref ef, .ref et, .int (zI mes), .ref xa, .ref xf, .ref xt, .ref xr, .ref lb, .int (zI lbs), .ref so])), (af, .inl (cL, 72, .inr (.inl (fL From)))), (at_, .inl (cL, 72, .inr (.inl (fL To))))] H locs := zwp hW [2, 0, 1] rfl (by decide)
          exact hQ (zI 0) _ H locs _ _ _ ls hW (by decide) ⟨_, 0, dr, To, bTo, deC_0 hnb (by omega), Or.inl rfl, (fun h => absurd h (by decide)), (fun _ => ⟨rfl, rfl, fun _ => by omega⟩), rfl, rfl⟩ (by omega) (by omega) dMo_deep_65
  · refine lv_iconst (v := zI 0) C.1 C.2.1 dMo_deep_8 (by decide) ?_
    have hW : zw D zCl A s [(m0, .inr (10, [.int (zI (noB bn bx)), .long (zL wi), .long (zL hi), .int (zI bn), .ref af, .ref at_, .int (zI dr), .int (zI sz), .ref au, .ref ap, .ref ab, .ref ae, .ref ah, .int (zI kp), .int (zI ks), .ref ku, .ref kq, .ref kb, .ref ke, .ref kh, .int (zI als), .ref gf, .ref gt, .int (zI ses), .ref sf, .ref st, .int (zI les), .ref ef, .ref et, .int (zI mes), .ref xa, .ref xf, .ref xt, .ref xr, .ref lb, .int (zI lbs), .ref so])), (af, .inl (cL, 72, .inr (.inl (fL From)))), (at_, .inl (cL, 72, .inr (.inl (fL To))))] H locs := zwp hW [2, 0, 1] rfl (by decide)
    exact hQ (zI 0) _ H locs _ _ _ ls hW (by decide) ⟨_, 0, dr, To, bTo, deC_1 (by omega), Or.inl rfl, (fun h => absurd h (by decide)), (fun _ => ⟨rfl, rfl, fun h => by omega⟩), rfl, rfl⟩ (by omega) (by omega) dMo_deep_9
set_option maxHeartbeats 4000000 in
set_option maxRecDepth 100000 in
theorem m_command (l : Launch) (D : va_G) (cI cG cL cB : ClassId) (m0 : Nat) (cd : Int) (wi : Int) (hi : Int) (bn : Int) (af : Nat) (at_ : Nat) (dr : Int) (sz : Int) (au : Nat) (ap : Nat) (ab : Nat) (ae : Nat) (ah : Nat) (kp : Int) (ks : Int) (ku : Nat) (kq : Nat) (kb : Nat) (ke : Nat) (kh : Nat) (als : Int) (gf : Nat) (gt : Nat) (ses : Int) (sf : Nat) (st : Nat) (les : Int) (ef : Nat) (et : Nat) (mes : Int) (xa : Nat) (xf : Nat) (xt : Nat) (xr : Nat) (lb : Nat) (lbs : Int) (so : Nat) (Ups : Int → Int) (Pla : Int → Int) (Beg : Int → Int) (Ens : Int → Int) (Hid : Int → Int) (k : Int) (i : Int) (bUps : ∀ j : Int, I32 (Ups j)) (bPla : ∀ j : Int, I64 (Pla j)) (bBeg : ∀ j : Int, I64 (Beg j)) (bEns : ∀ j : Int, I64 (Ens j)) (bHid : ∀ j : Int, I32 (Hid j)) (hdr : dr = 0 ∨ dr = 1) (hsz : 0 ≤ sz ∧ sz ≤ 6000) (hIk : I32 k) (hIi : I32 i) : Cl l yMo_command cMo_command 3 (some .long) 1 0 0 D zCl (zT cI cG cL cB) [.ref m0, .int (zI k), .int (zI i)] [(m0, .inr (10, [.int (zI cd), .long (zL wi), .long (zL hi), .int (zI bn), .ref af, .ref at_, .int (zI dr), .int (zI sz), .ref au, .ref ap, .ref ab, .ref ae, .ref ah, .int (zI kp), .int (zI ks), .ref ku, .ref kq, .ref kb, .ref ke, .ref kh, .int (zI als), .ref gf, .ref gt, .int (zI ses), .ref sf, .ref st, .int (zI les), .ref ef, .ref et, .int (zI mes), .ref xa, .ref xf, .ref xt, .ref xr, .ref lb, .int (zI lbs), .ref so])), (au, .inl (cI, 6000, .inl (fI Ups))), (ap, .inl (cL, 6000, .inr (.inl (fL Pla)))), (ab, .inl (cL, 6000, .inr (.inl (fL Beg)))), (ae, .inl (cL, 6000, .inr (.inl (fL Ens)))), (ah, .inl (cI, 6000, .inl (fI Hid)))] (fun x w => ∃ cd2 : Int, ∃ r2 : Int, (cd2 = if dr = 0 then 1 else if 0 ≤ k ∧ k < sz ∧ 0 ≤ i ∧ i ≤ 4 then 0 else 2) ∧ (cd2 = 0 → r2 = numM Ups Pla Beg Ens Hid k i) ∧ x = zL r2 ∧ w = [(m0, .inr (10, [.int (zI cd2), .long (zL wi), .long (zL hi), .int (zI bn), .ref af, .ref at_, .int (zI dr), .int (zI sz), .ref au, .ref ap, .ref ab, .ref ae, .ref ah, .int (zI kp), .int (zI ks), .ref ku, .ref kq, .ref kb, .ref ke, .ref kh, .int (zI als), .ref gf, .ref gt, .int (zI ses), .ref sf, .ref st, .int (zI les), .ref ef, .ref et, .int (zI mes), .ref xa, .ref xf, .ref xt, .ref xr, .ref lb, .int (zI lbs), .ref so])), (au, .inl (cI, 6000, .inl (fI Ups))), (ap, .inl (cL, 6000, .inr (.inl (fL Pla)))), (ab, .inl (cL, 6000, .inr (.inl (fL Beg)))), (ae, .inl (cL, 6000, .inr (.inl (fL Ens)))), (ah, .inl (cI, 6000, .inl (fI Hid)))]) := by
  refine zBl (by decide) (Nat.le_of_ble_eq_true rfl) ?_
  intro p e s m args below meth c ls A H locs Q C hin hl hW hQ
  have hl : lv_has ls 3 [(0, .ref m0), (1, .int (zI k)), (2, .int (zI i))] := hl
  refine lv_aload_n C.1 C.2.1 dMo_command_0 rfl (lv_at hl 0 rfl) ?_
  refine zcalli (wr := [(au, .inl (cI, 6000, .inl (fI Ups))), (ap, .inl (cL, 6000, .inr (.inl (fL Pla)))), (ab, .inl (cL, 6000, .inr (.inl (fL Beg)))), (ae, .inl (cL, 6000, .inr (.inl (fL Ens)))), (ah, .inl (cI, 6000, .inl (fI Hid)))]) C hW [0] [1, 2, 3, 4, 5] rfl rfl (by decide) (by decide) (zRunV (k := 0) (As := []) (rest := []) C hW (m_none l D cI cG cL cB m0 cd wi hi bn af at_ dr sz au ap ab ae ah kp ks ku kq kb ke kh als gf gt ses sf st les ef et mes xa xf xt xr lb lbs so (by omega) H.size) [0] rfl (by decide) kMo_195 (by decide +kernel) ⟨by decide, by decide⟩ 0 rfl rfl rfl hl.1 (Nat.le_of_ble_eq_true rfl) dMo_command_1 ⟨by first | decide | omega, by first | decide | omega⟩) (fun x w H locs hq hW => ?_)
  obtain ⟨rfl, rfl⟩ := hq
  have hW : zw D zCl A s [(au, .inl (cI, 6000, .inl (fI Ups))), (ap, .inl (cL, 6000, .inr (.inl (fL Pla)))), (ab, .inl (cL, 6000, .inr (.inl (fL Beg)))), (ae, .inl (cL, 6000, .inr (.inl (fL Ens)))), (ah, .inl (cI, 6000, .inl (fI Hid))), (m0, .inr (10, [.int (zI (1 - dr)), .long (zL wi), .long (zL hi), .int (zI bn), .ref af, .ref at_, .int (zI dr), .int (zI sz), .ref au, .ref ap, .ref ab, .ref ae, .ref ah, .int (zI kp), .int (zI ks), .ref ku, .ref kq, .ref kb, .ref ke, .ref kh, .int (zI als), .ref gf, .ref gt, .int (zI ses), .ref sf, .ref st, .int (zI les), .ref ef, .ref et, .int (zI mes), .ref xa, .ref xf, .ref xt, .ref xr, .ref lb, .int (zI lbs), .ref so]))] H locs := hW
  refine zif_eq (tgt := 9) C (by omega) dMo_command_4 (by decide) (fun c4 => ?_) (fun c4 => ?_)
  · refine lv_aload_n C.1 C.2.1 dMo_command_9 rfl (lv_at hl 0 rfl) ?_
    refine lv_iload_n C.1 C.2.1 dMo_command_10 rfl (lv_at hl 1 rfl) ?_
    refine zif_lt (tgt := 31) C (by omega) dMo_command_11 (by decide) (fun c11 => ?_) (fun c11 => ?_)
    · refine lv_iconst (v := zI 2) C.1 C.2.1 dMo_command_31 (by decide) ?_
      refine lv_goto (tgt := 36) C.1 C.2.1 dMo_command_32 (by decide) ?_
      refine zput C hW 5 0 tyMo tyMo_ok nmMo rfl rfl inMo (by decide) flMo_93 rfl rfl rfl rfl (Nat.le_of_ble_eq_true rfl) dMo_command_36 (fun H locs hW => ?_)
      have hW : zw D zCl A s [(au, .inl (cI, 6000, .inl (fI Ups))), (ap, .inl (cL, 6000, .inr (.inl (fL Pla)))), (ab, .inl (cL, 6000, .inr (.inl (fL Beg)))), (ae, .inl (cL, 6000, .inr (.inl (fL Ens)))), (ah, .inl (cI, 6000, .inl (fI Hid))), (m0, .inr (10, [.int (zI 2), .long (zL wi), .long (zL hi), .int (zI bn), .ref af, .ref at_, .int (zI dr), .int (zI sz), .ref au, .ref ap, .ref ab, .ref ae, .ref ah, .int (zI kp), .int (zI ks), .ref ku, .ref kq, .ref kb, .ref ke, .ref kh, .int (zI als), .ref gf, .ref gt, .int (zI ses), .ref sf, .ref st, .int (zI les), .ref ef, .ref et, .int (zI mes), .ref xa, .ref xf, .ref xt, .ref xr, .ref lb, .int (zI lbs), .ref so]))] H locs := hW
      refine lv_aload_n C.1 C.2.1 dMo_command_39 rfl (lv_at hl 0 rfl) ?_
      refine zget C hW 5 0 rfl rfl inMo (by decide) flMo_93 rfl dMo_command_40 ?_
      refine zif_le (tgt := 48) C (by omega) dMo_command_43 (by decide) (fun c43 => ?_) (fun c43 => ?_)
      · exact absurd c43 (by decide)
      · refine lv_lconst (v := zL 0) C.1 C.2.1 dMo_command_46 (by decide) ?_
        have hW : zw D zCl A s [(m0, .inr (10, [.int (zI 2), .long (zL wi), .long (zL hi), .int (zI bn), .ref af, .ref at_, .int (zI dr), .int (zI sz), .ref au, .ref ap, .ref ab, .ref ae, .ref ah, .int (zI kp), .int (zI ks), .ref ku, .ref kq, .ref kb, .ref ke, .ref kh, .int (zI als), .ref gf, .ref gt, .int (zI ses), .ref sf, .ref st, .int (zI les), .ref ef, .ref et, .int (zI mes), .ref xa, .ref xf, .ref xt, .ref xr, .ref lb, .int (zI lbs), .ref so])), (au, .inl (cI, 6000, .inl (fI Ups))), (ap, .inl (cL, 6000, .inr (.inl (fL Pla)))), (ab, .inl (cL, 6000, .inr (.inl (fL Beg)))), (ae, .inl (cL, 6000, .inr (.inl (fL Ens)))), (ah, .inl (cI, 6000, .inl (fI Hid)))] H locs := zwp hW [5, 0, 1, 2, 3, 4] rfl (by decide)
        exact hQ (zL 0) _ H locs _ _ _ ls hW ⟨_, 0, (by rw [if_neg (show ¬ dr = 0 by omega), if_neg (by omega)]), (fun h => absurd h (by decide)), rfl, rfl⟩ (by omega) (by omega) dMo_command_47
    · refine lv_iload_n C.1 C.2.1 dMo_command_14 rfl (lv_at hl 1 rfl) ?_
      refine lv_aload_n C.1 C.2.1 dMo_command_15 rfl (lv_at hl 0 rfl) ?_
      refine zget C hW 5 7 rfl rfl inMo (by decide) flMo_145 rfl dMo_command_16 ?_
      refine zicmp_ge (tgt := 31) C (by omega) (by omega) dMo_command_19 (by decide) (fun c19 => ?_) (fun c19 => ?_)
      · refine lv_iconst (v := zI 2) C.1 C.2.1 dMo_command_31 (by decide) ?_
        refine lv_goto (tgt := 36) C.1 C.2.1 dMo_command_32 (by decide) ?_
        refine zput C hW 5 0 tyMo tyMo_ok nmMo rfl rfl inMo (by decide) flMo_93 rfl rfl rfl rfl (Nat.le_of_ble_eq_true rfl) dMo_command_36 (fun H locs hW => ?_)
        have hW : zw D zCl A s [(au, .inl (cI, 6000, .inl (fI Ups))), (ap, .inl (cL, 6000, .inr (.inl (fL Pla)))), (ab, .inl (cL, 6000, .inr (.inl (fL Beg)))), (ae, .inl (cL, 6000, .inr (.inl (fL Ens)))), (ah, .inl (cI, 6000, .inl (fI Hid))), (m0, .inr (10, [.int (zI 2), .long (zL wi), .long (zL hi), .int (zI bn), .ref af, .ref at_, .int (zI dr), .int (zI sz), .ref au, .ref ap, .ref ab, .ref ae, .ref ah, .int (zI kp), .int (zI ks), .ref ku, .ref kq, .ref kb, .ref ke, .ref kh, .int (zI als), .ref gf, .ref gt, .int (zI ses), .ref sf, .ref st, .int (zI les), .ref ef, .ref et, .int (zI mes), .ref xa, .ref xf, .ref xt, .ref xr, .ref lb, .int (zI lbs), .ref so]))] H locs := hW
        refine lv_aload_n C.1 C.2.1 dMo_command_39 rfl (lv_at hl 0 rfl) ?_
        refine zget C hW 5 0 rfl rfl inMo (by decide) flMo_93 rfl dMo_command_40 ?_
        refine zif_le (tgt := 48) C (by omega) dMo_command_43 (by decide) (fun c43 => ?_) (fun c43 => ?_)
        · exact absurd c43 (by decide)
        · refine lv_lconst (v := zL 0) C.1 C.2.1 dMo_command_46 (by decide) ?_
          have hW : zw D zCl A s [(m0, .inr (10, [.int (zI 2), .long (zL wi), .long (zL hi), .int (zI bn), .ref af, .ref at_, .int (zI dr), .int (zI sz), .ref au, .ref ap, .ref ab, .ref ae, .ref ah, .int (zI kp), .int (zI ks), .ref ku, .ref kq, .ref kb, .ref ke, .ref kh, .int (zI als), .ref gf, .ref gt, .int (zI ses), .ref sf, .ref st, .int (zI les), .ref ef, .ref et, .int (zI mes), .ref xa, .ref xf, .ref xt, .ref xr, .ref lb, .int (zI lbs), .ref so])), (au, .inl (cI, 6000, .inl (fI Ups))), (ap, .inl (cL, 6000, .inr (.inl (fL Pla)))), (ab, .inl (cL, 6000, .inr (.inl (fL Beg)))), (ae, .inl (cL, 6000, .inr (.inl (fL Ens)))), (ah, .inl (cI, 6000, .inl (fI Hid)))] H locs := zwp hW [5, 0, 1, 2, 3, 4] rfl (by decide)
          exact hQ (zL 0) _ H locs _ _ _ ls hW ⟨_, 0, (by rw [if_neg (show ¬ dr = 0 by omega), if_neg (by omega)]), (fun h => absurd h (by decide)), rfl, rfl⟩ (by omega) (by omega) dMo_command_47
      · refine lv_iload_n C.1 C.2.1 dMo_command_22 rfl (lv_at hl 2 rfl) ?_
        refine zif_lt (tgt := 31) C (by omega) dMo_command_23 (by decide) (fun c23 => ?_) (fun c23 => ?_)
        · refine lv_iconst (v := zI 2) C.1 C.2.1 dMo_command_31 (by decide) ?_
          refine lv_goto (tgt := 36) C.1 C.2.1 dMo_command_32 (by decide) ?_
          refine zput C hW 5 0 tyMo tyMo_ok nmMo rfl rfl inMo (by decide) flMo_93 rfl rfl rfl rfl (Nat.le_of_ble_eq_true rfl) dMo_command_36 (fun H locs hW => ?_)
          have hW : zw D zCl A s [(au, .inl (cI, 6000, .inl (fI Ups))), (ap, .inl (cL, 6000, .inr (.inl (fL Pla)))), (ab, .inl (cL, 6000, .inr (.inl (fL Beg)))), (ae, .inl (cL, 6000, .inr (.inl (fL Ens)))), (ah, .inl (cI, 6000, .inl (fI Hid))), (m0, .inr (10, [.int (zI 2), .long (zL wi), .long (zL hi), .int (zI bn), .ref af, .ref at_, .int (zI dr), .int (zI sz), .ref au, .ref ap, .ref ab, .ref ae, .ref ah, .int (zI kp), .int (zI ks), .ref ku, .ref kq, .ref kb, .ref ke, .ref kh, .int (zI als), .ref gf, .ref gt, .int (zI ses), .ref sf, .ref st, .int (zI les), .ref ef, .ref et, .int (zI mes), .ref xa, .ref xf, .ref xt, .ref xr, .ref lb, .int (zI lbs), .ref so]))] H locs := hW
          refine lv_aload_n C.1 C.2.1 dMo_command_39 rfl (lv_at hl 0 rfl) ?_
          refine zget C hW 5 0 rfl rfl inMo (by decide) flMo_93 rfl dMo_command_40 ?_
          refine zif_le (tgt := 48) C (by omega) dMo_command_43 (by decide) (fun c43 => ?_) (fun c43 => ?_)
          · exact absurd c43 (by decide)
          · refine lv_lconst (v := zL 0) C.1 C.2.1 dMo_command_46 (by decide) ?_
            have hW : zw D zCl A s [(m0, .inr (10, [.int (zI 2), .long (zL wi), .long (zL hi), .int (zI bn), .ref af, .ref at_, .int (zI dr), .int (zI sz), .ref au, .ref ap, .ref ab, .ref ae, .ref ah, .int (zI kp), .int (zI ks), .ref ku, .ref kq, .ref kb, .ref ke, .ref kh, .int (zI als), .ref gf, .ref gt, .int (zI ses), .ref sf, .ref st, .int (zI les), .ref ef, .ref et, .int (zI mes), .ref xa, .ref xf, .ref xt, .ref xr, .ref lb, .int (zI lbs), .ref so])), (au, .inl (cI, 6000, .inl (fI Ups))), (ap, .inl (cL, 6000, .inr (.inl (fL Pla)))), (ab, .inl (cL, 6000, .inr (.inl (fL Beg)))), (ae, .inl (cL, 6000, .inr (.inl (fL Ens)))), (ah, .inl (cI, 6000, .inl (fI Hid)))] H locs := zwp hW [5, 0, 1, 2, 3, 4] rfl (by decide)
            exact hQ (zL 0) _ H locs _ _ _ ls hW ⟨_, 0, (by rw [if_neg (show ¬ dr = 0 by omega), if_neg (by omega)]), (fun h => absurd h (by decide)), rfl, rfl⟩ (by omega) (by omega) dMo_command_47
        · refine lv_iload_n C.1 C.2.1 dMo_command_26 rfl (lv_at hl 2 rfl) ?_
          refine lv_iconst (v := zI 4) C.1 C.2.1 dMo_command_27 (by decide) ?_
          refine zicmp_le (tgt := 35) C (by omega) (by omega) dMo_command_28 (by decide) (fun c28 => ?_) (fun c28 => ?_)
          · refine lv_iconst (v := zI 0) C.1 C.2.1 dMo_command_35 (by decide) ?_
            refine zput C hW 5 0 tyMo tyMo_ok nmMo rfl rfl inMo (by decide) flMo_93 rfl rfl rfl rfl (Nat.le_of_ble_eq_true rfl) dMo_command_36 (fun H locs hW => ?_)
            have hW : zw D zCl A s [(au, .inl (cI, 6000, .inl (fI Ups))), (ap, .inl (cL, 6000, .inr (.inl (fL Pla)))), (ab, .inl (cL, 6000, .inr (.inl (fL Beg)))), (ae, .inl (cL, 6000, .inr (.inl (fL Ens)))), (ah, .inl (cI, 6000, .inl (fI Hid))), (m0, .inr (10, [.int (zI 0), .long (zL wi), .long (zL hi), .int (zI bn), .ref af, .ref at_, .int (zI dr), .int (zI sz), .ref au, .ref ap, .ref ab, .ref ae, .ref ah, .int (zI kp), .int (zI ks), .ref ku, .ref kq, .ref kb, .ref ke, .ref kh, .int (zI als), .ref gf, .ref gt, .int (zI ses), .ref sf, .ref st, .int (zI les), .ref ef, .ref et, .int (zI mes), .ref xa, .ref xf, .ref xt, .ref xr, .ref lb, .int (zI lbs), .ref so]))] H locs := hW
            refine lv_aload_n C.1 C.2.1 dMo_command_39 rfl (lv_at hl 0 rfl) ?_
            refine zget C hW 5 0 rfl rfl inMo (by decide) flMo_93 rfl dMo_command_40 ?_
            refine zif_le (tgt := 48) C (by omega) dMo_command_43 (by decide) (fun c43 => ?_) (fun c43 => ?_)
            · refine lv_iload_n C.1 C.2.1 dMo_command_48 rfl (lv_at hl 2 rfl) ?_
              refine zif_ne (tgt := 62) C (by omega) dMo_command_49 (by decide) (fun c49 => ?_) (fun c49 => ?_)
              · refine lv_iload_n C.1 C.2.1 dMo_command_62 rfl (lv_at hl 2 rfl) ?_
                refine lv_iconst (v := zI 1) C.1 C.2.1 dMo_command_63 (by decide) ?_
                refine zicmp_ne (tgt := 76) C (by omega) (by omega) dMo_command_64 (by decide) (fun c64 => ?_) (fun c64 => ?_)
                · refine lv_iload_n C.1 C.2.1 dMo_command_76 rfl (lv_at hl 2 rfl) ?_
                  refine lv_iconst (v := zI 2) C.1 C.2.1 dMo_command_77 (by decide) ?_
                  refine zicmp_ne (tgt := 90) C (by omega) (by omega) dMo_command_78 (by decide) (fun c78 => ?_) (fun c78 => ?_)
                  · refine lv_iload_n C.1 C.2.1 dMo_command_90 rfl (lv_at hl 2 rfl) ?_
                    refine lv_iconst (v := zI 3) C.1 C.2.1 dMo_command_91 (by decide) ?_
                    refine zicmp_ne (tgt := 104) C (by omega) (by omega) dMo_command_92 (by decide) (fun c92 => ?_) (fun c92 => ?_)
                    · refine lv_aload_n C.1 C.2.1 dMo_command_104 rfl (lv_at hl 0 rfl) ?_
                      refine zget C hW 5 12 rfl rfl inMo (by decide) flMo_29 rfl dMo_command_105 ?_
                      refine lv_iload_n C.1 C.2.1 dMo_command_108 rfl (lv_at hl 1 rfl) ?_
                      refine ziald C hW 4 0 rfl rfl (by omega) (by omega) (by decide) dMo_command_109 ?_
                      have hb1 := bHid k
                      refine zi2l C (by omega) dMo_command_110 ?_
                      have hW : zw D zCl A s [(m0, .inr (10, [.int (zI 0), .long (zL wi), .long (zL hi), .int (zI bn), .ref af, .ref at_, .int (zI dr), .int (zI sz), .ref au, .ref ap, .ref ab, .ref ae, .ref ah, .int (zI kp), .int (zI ks), .ref ku, .ref kq, .ref kb, .ref ke, .ref kh, .int (zI als), .ref gf, .ref gt, .int (zI ses), .ref sf, .ref st, .int (zI les), .ref ef, .ref et, .int (zI mes), .ref xa, .ref xf, .ref xt, .ref xr, .ref lb, .int (zI lbs), .ref so])), (au, .inl (cI, 6000, .inl (fI Ups))), (ap, .inl (cL, 6000, .inr (.inl (fL Pla)))), (ab, .inl (cL, 6000, .inr (.inl (fL Beg)))), (ae, .inl (cL, 6000, .inr (.inl (fL Ens)))), (ah, .inl (cI, 6000, .inl (fI Hid)))] H locs := zwp hW [5, 0, 1, 2, 3, 4] rfl (by decide)
                      exact hQ (zL (Hid k)) _ H locs _ _ _ ls hW ⟨_, _, (by rw [if_neg (show ¬ dr = 0 by omega), if_pos (by omega)]), (fun _ => by unfold numM; simp [*]), rfl, rfl⟩ (by omega) (by omega) dMo_command_111
                    · refine lv_aload_n C.1 C.2.1 dMo_command_95 rfl (lv_at hl 0 rfl) ?_
                      refine zget C hW 5 11 rfl rfl inMo (by decide) flMo_26 rfl dMo_command_96 ?_
                      refine lv_iload_n C.1 C.2.1 dMo_command_99 rfl (lv_at hl 1 rfl) ?_
                      refine zlald C hW 3 2 rfl rfl (by omega) (by omega) (by decide) dMo_command_100 ?_
                      have hb2 := bEns k
                      refine lv_goto (tgt := 111) C.1 C.2.1 dMo_command_101 (by decide) ?_
                      have hW : zw D zCl A s [(m0, .inr (10, [.int (zI 0), .long (zL wi), .long (zL hi), .int (zI bn), .ref af, .ref at_, .int (zI dr), .int (zI sz), .ref au, .ref ap, .ref ab, .ref ae, .ref ah, .int (zI kp), .int (zI ks), .ref ku, .ref kq, .ref kb, .ref ke, .ref kh, .int (zI als), .ref gf, .ref gt, .int (zI ses), .ref sf, .ref st, .int (zI les), .ref ef, .ref et, .int (zI mes), .ref xa, .ref xf, .ref xt, .ref xr, .ref lb, .int (zI lbs), .ref so])), (au, .inl (cI, 6000, .inl (fI Ups))), (ap, .inl (cL, 6000, .inr (.inl (fL Pla)))), (ab, .inl (cL, 6000, .inr (.inl (fL Beg)))), (ae, .inl (cL, 6000, .inr (.inl (fL Ens)))), (ah, .inl (cI, 6000, .inl (fI Hid)))] H locs := zwp hW [5, 0, 1, 2, 3, 4] rfl (by decide)
                      exact hQ (zL (Ens k)) _ H locs _ _ _ ls hW ⟨_, _, (by rw [if_neg (show ¬ dr = 0 by omega), if_pos (by omega)]), (fun _ => by unfold numM; simp [*]), rfl, rfl⟩ (by omega) (by omega) dMo_command_111
                  · refine lv_aload_n C.1 C.2.1 dMo_command_81 rfl (lv_at hl 0 rfl) ?_
                    refine zget C hW 5 10 rfl rfl inMo (by decide) flMo_23 rfl dMo_command_82 ?_
                    refine lv_iload_n C.1 C.2.1 dMo_command_85 rfl (lv_at hl 1 rfl) ?_
                    refine zlald C hW 2 2 rfl rfl (by omega) (by omega) (by decide) dMo_command_86 ?_
                    have hb3 := bBeg k
                    refine lv_goto (tgt := 111) C.1 C.2.1 dMo_command_87 (by decide) ?_
                    have hW : zw D zCl A s [(m0, .inr (10, [.int (zI 0), .long (zL wi), .long (zL hi), .int (zI bn), .ref af, .ref at_, .int (zI dr), .int (zI sz), .ref au, .ref ap, .ref ab, .ref ae, .ref ah, .int (zI kp), .int (zI ks), .ref ku, .ref kq, .ref kb, .ref ke, .ref kh, .int (zI als), .ref gf, .ref gt, .int (zI ses), .ref sf, .ref st, .int (zI les), .ref ef, .ref et, .int (zI mes), .ref xa, .ref xf, .ref xt, .ref xr, .ref lb, .int (zI lbs), .ref so])), (au, .inl (cI, 6000, .inl (fI Ups))), (ap, .inl (cL, 6000, .inr (.inl (fL Pla)))), (ab, .inl (cL, 6000, .inr (.inl (fL Beg)))), (ae, .inl (cL, 6000, .inr (.inl (fL Ens)))), (ah, .inl (cI, 6000, .inl (fI Hid)))] H locs := zwp hW [5, 0, 1, 2, 3, 4] rfl (by decide)
                    exact hQ (zL (Beg k)) _ H locs _ _ _ ls hW ⟨_, _, (by rw [if_neg (show ¬ dr = 0 by omega), if_pos (by omega)]), (fun _ => by unfold numM; simp [*]), rfl, rfl⟩ (by omega) (by omega) dMo_command_111
                · refine lv_aload_n C.1 C.2.1 dMo_command_67 rfl (lv_at hl 0 rfl) ?_
                  refine zget C hW 5 9 rfl rfl inMo (by decide) flMo_20 rfl dMo_command_68 ?_
                  refine lv_iload_n C.1 C.2.1 dMo_command_71 rfl (lv_at hl 1 rfl) ?_
                  refine zlald C hW 1 2 rfl rfl (by omega) (by omega) (by decide) dMo_command_72 ?_
                  have hb4 := bPla k
                  refine lv_goto (tgt := 111) C.1 C.2.1 dMo_command_73 (by decide) ?_
                  have hW : zw D zCl A s [(m0, .inr (10, [.int (zI 0), .long (zL wi), .long (zL hi), .int (zI bn), .ref af, .ref at_, .int (zI dr), .int (zI sz), .ref au, .ref ap, .ref ab, .ref ae, .ref ah, .int (zI kp), .int (zI ks), .ref ku, .ref kq, .ref kb, .ref ke, .ref kh, .int (zI als), .ref gf, .ref gt, .int (zI ses), .ref sf, .ref st, .int (zI les), .ref ef, .ref et, .int (zI mes), .ref xa, .ref xf, .ref xt, .ref xr, .ref lb, .int (zI lbs), .ref so])), (au, .inl (cI, 6000, .inl (fI Ups))), (ap, .inl (cL, 6000, .inr (.inl (fL Pla)))), (ab, .inl (cL, 6000, .inr (.inl (fL Beg)))), (ae, .inl (cL, 6000, .inr (.inl (fL Ens)))), (ah, .inl (cI, 6000, .inl (fI Hid)))] H locs := zwp hW [5, 0, 1, 2, 3, 4] rfl (by decide)
                  exact hQ (zL (Pla k)) _ H locs _ _ _ ls hW ⟨_, _, (by rw [if_neg (show ¬ dr = 0 by omega), if_pos (by omega)]), (fun _ => by unfold numM; simp [*]), rfl, rfl⟩ (by omega) (by omega) dMo_command_111
              · refine lv_aload_n C.1 C.2.1 dMo_command_52 rfl (lv_at hl 0 rfl) ?_
                refine zget C hW 5 8 rfl rfl inMo (by decide) flMo_16 rfl dMo_command_53 ?_
                refine lv_iload_n C.1 C.2.1 dMo_command_56 rfl (lv_at hl 1 rfl) ?_
                refine ziald C hW 0 0 rfl rfl (by omega) (by omega) (by decide) dMo_command_57 ?_
                have hb5 := bUps k
                refine zi2l C (by omega) dMo_command_58 ?_
                refine lv_goto (tgt := 111) C.1 C.2.1 dMo_command_59 (by decide) ?_
                have hW : zw D zCl A s [(m0, .inr (10, [.int (zI 0), .long (zL wi), .long (zL hi), .int (zI bn), .ref af, .ref at_, .int (zI dr), .int (zI sz), .ref au, .ref ap, .ref ab, .ref ae, .ref ah, .int (zI kp), .int (zI ks), .ref ku, .ref kq, .ref kb, .ref ke, .ref kh, .int (zI als), .ref gf, .ref gt, .int (zI ses), .ref sf, .ref st, .int (zI les), .ref ef, .ref et, .int (zI mes), .ref xa, .ref xf, .ref xt, .ref xr, .ref lb, .int (zI lbs), .ref so])), (au, .inl (cI, 6000, .inl (fI Ups))), (ap, .inl (cL, 6000, .inr (.inl (fL Pla)))), (ab, .inl (cL, 6000, .inr (.inl (fL Beg)))), (ae, .inl (cL, 6000, .inr (.inl (fL Ens)))), (ah, .inl (cI, 6000, .inl (fI Hid)))] H locs := zwp hW [5, 0, 1, 2, 3, 4] rfl (by decide)
                exact hQ (zL (Ups k)) _ H locs _ _ _ ls hW ⟨_, _, (by rw [if_neg (show ¬ dr = 0 by omega), if_pos (by omega)]), (fun _ => by unfold numM; simp [*]), rfl, rfl⟩ (by omega) (by omega) dMo_command_111
            · exact absurd c43 (by decide)
          · refine lv_iconst (v := zI 2) C.1 C.2.1 dMo_command_31 (by decide) ?_
            refine lv_goto (tgt := 36) C.1 C.2.1 dMo_command_32 (by decide) ?_
            refine zput C hW 5 0 tyMo tyMo_ok nmMo rfl rfl inMo (by decide) flMo_93 rfl rfl rfl rfl (Nat.le_of_ble_eq_true rfl) dMo_command_36 (fun H locs hW => ?_)
            have hW : zw D zCl A s [(au, .inl (cI, 6000, .inl (fI Ups))), (ap, .inl (cL, 6000, .inr (.inl (fL Pla)))), (ab, .inl (cL, 6000, .inr (.inl (fL Beg)))), (ae, .inl (cL, 6000, .inr (.inl (fL Ens)))), (ah, .inl (cI, 6000, .inl (fI Hid))), (m0, .inr (10, [.int (zI 2), .long (zL wi), .long (zL hi), .int (zI bn), .ref af, .ref at_, .int (zI dr), .int (zI sz), .ref au, .ref ap, .ref ab, .ref ae, .ref ah, .int (zI kp), .int (zI ks), .ref ku, .ref kq, .ref kb, .ref ke, .ref kh, .int (zI als), .ref gf, .ref gt, .int (zI ses), .ref sf, .ref st, .int (zI les), .ref ef, .ref et, .int (zI mes), .ref xa, .ref xf, .ref xt, .ref xr, .ref lb, .int (zI lbs), .ref so]))] H locs := hW
            refine lv_aload_n C.1 C.2.1 dMo_command_39 rfl (lv_at hl 0 rfl) ?_
            refine zget C hW 5 0 rfl rfl inMo (by decide) flMo_93 rfl dMo_command_40 ?_
            refine zif_le (tgt := 48) C (by omega) dMo_command_43 (by decide) (fun c43 => ?_) (fun c43 => ?_)
            · exact absurd c43 (by decide)
            · refine lv_lconst (v := zL 0) C.1 C.2.1 dMo_command_46 (by decide) ?_
              have hW : zw D zCl A s [(m0, .inr (10, [.int (zI 2), .long (zL wi), .long (zL hi), .int (zI bn), .ref af, .ref at_, .int (zI dr), .int (zI sz), .ref au, .ref ap, .ref ab, .ref ae, .ref ah, .int (zI kp), .int (zI ks), .ref ku, .ref kq, .ref kb, .ref ke, .ref kh, .int (zI als), .ref gf, .ref gt, .int (zI ses), .ref sf, .ref st, .int (zI les), .ref ef, .ref et, .int (zI mes), .ref xa, .ref xf, .ref xt, .ref xr, .ref lb, .int (zI lbs), .ref so])), (au, .inl (cI, 6000, .inl (fI Ups))), (ap, .inl (cL, 6000, .inr (.inl (fL Pla)))), (ab, .inl (cL, 6000, .inr (.inl (fL Beg)))), (ae, .inl (cL, 6000, .inr (.inl (fL Ens)))), (ah, .inl (cI, 6000, .inl (fI Hid)))] H locs := zwp hW [5, 0, 1, 2, 3, 4] rfl (by decide)
              exact hQ (zL 0) _ H locs _ _ _ ls hW ⟨_, 0, (by rw [if_neg (show ¬ dr = 0 by omega), if_neg (by omega)]), (fun h => absurd h (by decide)), rfl, rfl⟩ (by omega) (by omega) dMo_command_47
  · refine lv_lconst (v := zL 0) C.1 C.2.1 dMo_command_7 (by decide) ?_
    have hW : zw D zCl A s [(m0, .inr (10, [.int (zI (1 - dr)), .long (zL wi), .long (zL hi), .int (zI bn), .ref af, .ref at_, .int (zI dr), .int (zI sz), .ref au, .ref ap, .ref ab, .ref ae, .ref ah, .int (zI kp), .int (zI ks), .ref ku, .ref kq, .ref kb, .ref ke, .ref kh, .int (zI als), .ref gf, .ref gt, .int (zI ses), .ref sf, .ref st, .int (zI les), .ref ef, .ref et, .int (zI mes), .ref xa, .ref xf, .ref xt, .ref xr, .ref lb, .int (zI lbs), .ref so])), (au, .inl (cI, 6000, .inl (fI Ups))), (ap, .inl (cL, 6000, .inr (.inl (fL Pla)))), (ab, .inl (cL, 6000, .inr (.inl (fL Beg)))), (ae, .inl (cL, 6000, .inr (.inl (fL Ens)))), (ah, .inl (cI, 6000, .inl (fI Hid)))] H locs := zwp hW [5, 0, 1, 2, 3, 4] rfl (by decide)
    exact hQ (zL 0) _ H locs _ _ _ ls hW ⟨_, 0, (by rw [if_pos (show dr = 0 by omega)]; omega), (fun h => by omega), rfl, rfl⟩ (by omega) (by omega) dMo_command_8
set_option maxHeartbeats 4000000 in
set_option maxRecDepth 100000 in
theorem m_on (l : Launch) (D : va_G) (cI cG cL cB : ClassId) (m0 : Nat) (cd : Int) (wi : Int) (hi : Int) (bn : Int) (af : Nat) (at_ : Nat) (dr : Int) (sz : Int) (au : Nat) (ap : Nat) (ab : Nat) (ae : Nat) (ah : Nat) (kp : Int) (ks : Int) (ku : Nat) (kq : Nat) (kb : Nat) (ke : Nat) (kh : Nat) (als : Int) (gf : Nat) (gt : Nat) (ses : Int) (sf : Nat) (st : Nat) (les : Int) (ef : Nat) (et : Nat) (mes : Int) (xa : Nat) (xf : Nat) (xt : Nat) (xr : Nat) (lb : Nat) (lbs : Int) (so : Nat) (Ups : Int → Int) (Pla : Int → Int) (Beg : Int → Int) (Ens : Int → Int) (Hid : Int → Int) (ac : Int) (pl : Int) (ub : Int) (bUps : ∀ j : Int, I32 (Ups j)) (bPla : ∀ j : Int, I64 (Pla j)) (bBeg : ∀ j : Int, I64 (Beg j)) (bEns : ∀ j : Int, I64 (Ens j)) (bHid : ∀ j : Int, I32 (Hid j)) (hdr : dr = 0 ∨ dr = 1) (hsz : 0 ≤ sz ∧ sz ≤ 6000) (hub : ub = 0 ∨ ub = 1) (hJac : I64 ac) (hJpl : I64 pl) : Ci l yMo_on cMo_on 11 (some .int) 1 0 0 D zCl (zT cI cG cL cB) [.ref m0, .long (zL ac), .long (zL pl), .int (zI ub)] [(m0, .inr (10, [.int (zI cd), .long (zL wi), .long (zL hi), .int (zI bn), .ref af, .ref at_, .int (zI dr), .int (zI sz), .ref au, .ref ap, .ref ab, .ref ae, .ref ah, .int (zI kp), .int (zI ks), .ref ku, .ref kq, .ref kb, .ref ke, .ref kh, .int (zI als), .ref gf, .ref gt, .int (zI ses), .ref sf, .ref st, .int (zI les), .ref ef, .ref et, .int (zI mes), .ref xa, .ref xf, .ref xt, .ref xr, .ref lb, .int (zI lbs), .ref so])), (au, .inl (cI, 6000, .inl (fI Ups))), (ap, .inl (cL, 6000, .inr (.inl (fL Pla)))), (ab, .inl (cL, 6000, .inr (.inl (fL Beg)))), (ae, .inl (cL, 6000, .inr (.inl (fL Ens)))), (ah, .inl (cI, 6000, .inl (fI Hid)))] (fun x w => ∃ r2 : Int, (dr = 1 → r2 = foldZ (onF Ups Pla Beg Ens Hid ub ac pl) 2 sz) ∧ x = zI r2 ∧ w = [(m0, .inr (10, [.int (zI (1 - dr)), .long (zL wi), .long (zL hi), .int (zI bn), .ref af, .ref at_, .int (zI dr), .int (zI sz), .ref au, .ref ap, .ref ab, .ref ae, .ref ah, .int (zI kp), .int (zI ks), .ref ku, .ref kq, .ref kb, .ref ke, .ref kh, .int (zI als), .ref gf, .ref gt, .int (zI ses), .ref sf, .ref st, .int (zI les), .ref ef, .ref et, .int (zI mes), .ref xa, .ref xf, .ref xt, .ref xr, .ref lb, .int (zI lbs), .ref so])), (au, .inl (cI, 6000, .inl (fI Ups))), (ap, .inl (cL, 6000, .inr (.inl (fL Pla)))), (ab, .inl (cL, 6000, .inr (.inl (fL Beg)))), (ae, .inl (cL, 6000, .inr (.inl (fL Ens)))), (ah, .inl (cI, 6000, .inl (fI Hid)))]) := by
  refine zBi (by decide) (Nat.le_of_ble_eq_true rfl) ?_
  intro p e s m args below meth c ls A H locs Q C hin hl hW hQ
  have hl : lv_has ls 11 [(0, .ref m0), (1, .long (zL ac)), (3, .long (zL pl)), (5, .int (zI ub))] := hl
  refine lv_aload_n C.1 C.2.1 dMo_on_0 rfl (lv_at hl 0 rfl) ?_
  refine zcalli (wr := [(au, .inl (cI, 6000, .inl (fI Ups))), (ap, .inl (cL, 6000, .inr (.inl (fL Pla)))), (ab, .inl (cL, 6000, .inr (.inl (fL Beg)))), (ae, .inl (cL, 6000, .inr (.inl (fL Ens)))), (ah, .inl (cI, 6000, .inl (fI Hid)))]) C hW [0] [1, 2, 3, 4, 5] rfl rfl (by decide) (by decide) (zRunV (k := 0) (As := []) (rest := []) C hW (m_none l D cI cG cL cB m0 cd wi hi bn af at_ dr sz au ap ab ae ah kp ks ku kq kb ke kh als gf gt ses sf st les ef et mes xa xf xt xr lb lbs so (by omega) H.size) [0] rfl (by decide) kMo_195 (by decide +kernel) ⟨by decide, by decide⟩ 0 rfl rfl rfl hl.1 (Nat.le_of_ble_eq_true rfl) dMo_on_1 ⟨by first | decide | omega, by first | decide | omega⟩) (fun x w H locs hq hW => ?_)
  obtain ⟨rfl, rfl⟩ := hq
  have hW : zw D zCl A s [(au, .inl (cI, 6000, .inl (fI Ups))), (ap, .inl (cL, 6000, .inr (.inl (fL Pla)))), (ab, .inl (cL, 6000, .inr (.inl (fL Beg)))), (ae, .inl (cL, 6000, .inr (.inl (fL Ens)))), (ah, .inl (cI, 6000, .inl (fI Hid))), (m0, .inr (10, [.int (zI (1 - dr)), .long (zL wi), .long (zL hi), .int (zI bn), .ref af, .ref at_, .int (zI dr), .int (zI sz), .ref au, .ref ap, .ref ab, .ref ae, .ref ah, .int (zI kp), .int (zI ks), .ref ku, .ref kq, .ref kb, .ref ke, .ref kh, .int (zI als), .ref gf, .ref gt, .int (zI ses), .ref sf, .ref st, .int (zI les), .ref ef, .ref et, .int (zI mes), .ref xa, .ref xf, .ref xt, .ref xr, .ref lb, .int (zI lbs), .ref so]))] H locs := hW
  refine zif_eq (tgt := 9) C (by omega) dMo_on_4 (by decide) (fun c4 => ?_) (fun c4 => ?_)
  · refine lv_iconst (v := zI 2) C.1 C.2.1 dMo_on_9 (by decide) ?_
    refine lv_istore (lv' := [(6, .int (zI 2)), (0, .ref m0), (1, .long (zL ac)), (3, .long (zL pl)), (5, .int (zI ub))]) C.1 C.2.1 dMo_on_10 hl (by decide) rfl (fun ls hl => ?_)
    refine lv_iconst (v := zI 0) C.1 C.2.1 dMo_on_12 (by decide) ?_
    refine lv_istore (lv' := [(7, .int (zI 0)), (6, .int (zI 2)), (0, .ref m0), (1, .long (zL ac)), (3, .long (zL pl)), (5, .int (zI ub))]) C.1 C.2.1 dMo_on_13 hl (by decide) rfl (fun ls hl => ?_)
    have L15 : ∀ (N : Nat) (j : Int) (x_ : Int), (sz - j).toNat < N → (0 ≤ j) → (j ≤ sz) → (x_ = foldZ (onF Ups Pla Beg Ens Hid ub ac pl) 2 j) → (I32 x_) → ∀ (ls : Array Slot) (H : Heap) (locs : List Loc), lv_has ls 11 [(7, .int (zI j)), (6, .int (zI x_)), (0, .ref m0), (1, .long (zL ac)), (3, .long (zL pl)), (5, .int (zI ub))] → zw D zCl A s [(au, .inl (cI, 6000, .inl (fI Ups))), (ap, .inl (cL, 6000, .inr (.inl (fL Pla)))), (ab, .inl (cL, 6000, .inr (.inl (fL Beg)))), (ae, .inl (cL, 6000, .inr (.inl (fL Ens)))), (ah, .inl (cI, 6000, .inl (fI Hid))), (m0, .inr (10, [.int (zI (1 - dr)), .long (zL wi), .long (zL hi), .int (zI bn), .ref af, .ref at_, .int (zI dr), .int (zI sz), .ref au, .ref ap, .ref ab, .ref ae, .ref ah, .int (zI kp), .int (zI ks), .ref ku, .ref kq, .ref kb, .ref ke, .ref kh, .int (zI als), .ref gf, .ref gt, .int (zI ses), .ref sf, .ref st, .int (zI les), .ref ef, .ref et, .int (zI mes), .ref xa, .ref xf, .ref xt, .ref xr, .ref lb, .int (zI lbs), .ref so]))] H locs → W p l e (zr 1 0 0) s m args below meth c H locs 0 0 Q (F0 m 15 ls []) := by
      intro N
      induction N with
      | zero => intro j x_ hm; exact absurd hm (Nat.not_lt_zero _)
      | succ N ih15 =>
        intro j x_ hm15 hi0 hi1 hx_ hxb ls H locs hl hW
        refine lv_iload C.1 C.2.1 dMo_on_15 (lv_at hl 0 rfl) ?_
        refine lv_aload_n C.1 C.2.1 dMo_on_17 rfl (lv_at hl 2 rfl) ?_
        refine zget C hW 5 7 rfl rfl inMo (by decide) flMo_145 rfl dMo_on_18 ?_
        refine zicmp_ge (tgt := 164) C (by omega) (by omega) dMo_on_21 (by decide) (fun c21 => ?_) (fun c21 => ?_)
        · refine lv_iload C.1 C.2.1 dMo_on_164 (lv_at hl 1 rfl) ?_
          have hW : zw D zCl A s [(m0, .inr (10, [.int (zI (1 - dr)), .long (zL wi), .long (zL hi), .int (zI bn), .ref af, .ref at_, .int (zI dr), .int (zI sz), .ref au, .ref ap, .ref ab, .ref ae, .ref ah, .int (zI kp), .int (zI ks), .ref ku, .ref kq, .ref kb, .ref ke, .ref kh, .int (zI als), .ref gf, .ref gt, .int (zI ses), .ref sf, .ref st, .int (zI les), .ref ef, .ref et, .int (zI mes), .ref xa, .ref xf, .ref xt, .ref xr, .ref lb, .int (zI lbs), .ref so])), (au, .inl (cI, 6000, .inl (fI Ups))), (ap, .inl (cL, 6000, .inr (.inl (fL Pla)))), (ab, .inl (cL, 6000, .inr (.inl (fL Beg)))), (ae, .inl (cL, 6000, .inr (.inl (fL Ens)))), (ah, .inl (cI, 6000, .inl (fI Hid)))] H locs := zwp hW [5, 0, 1, 2, 3, 4] rfl (by decide)
          exact hQ (zI x_) _ H locs _ _ _ ls hW ⟨x_, (fun _ => by rw [hx_, show sz = j by omega]), rfl, rfl⟩ (by omega) (by omega) dMo_on_166
        · refine lv_iload C.1 C.2.1 dMo_on_24 (lv_at hl 5 rfl) ?_
          have L87 : ∀ (v : Int), (v = bz (lnM_ Ups Pla ub ac pl j)) → (v = 0 ∨ v = 1) → ∀ (ls : Array Slot) (H : Heap) (locs : List Loc), lv_has ls 11 [(7, .int (zI j)), (6, .int (zI x_)), (0, .ref m0), (1, .long (zL ac)), (3, .long (zL pl)), (5, .int (zI ub))] → zw D zCl A s [(au, .inl (cI, 6000, .inl (fI Ups))), (ap, .inl (cL, 6000, .inr (.inl (fL Pla)))), (ab, .inl (cL, 6000, .inr (.inl (fL Beg)))), (ae, .inl (cL, 6000, .inr (.inl (fL Ens)))), (ah, .inl (cI, 6000, .inl (fI Hid))), (m0, .inr (10, [.int (zI (1 - dr)), .long (zL wi), .long (zL hi), .int (zI bn), .ref af, .ref at_, .int (zI dr), .int (zI sz), .ref au, .ref ap, .ref ab, .ref ae, .ref ah, .int (zI kp), .int (zI ks), .ref ku, .ref kq, .ref kb, .ref ke, .ref kh, .int (zI als), .ref gf, .ref gt, .int (zI ses), .ref sf, .ref st, .int (zI les), .ref ef, .ref et, .int (zI mes), .ref xa, .ref xf, .ref xt, .ref xr, .ref lb, .int (zI lbs), .ref so]))] H locs → W p l e (zr 1 0 0) s m args below meth c H locs 0 0 Q (F0 m 87 ls [.int (zI v)]) := by
            intro v hv hv2 ls H locs hl hW
            refine lv_istore (lv' := [(8, .int (zI v)), (7, .int (zI j)), (6, .int (zI x_)), (0, .ref m0), (1, .long (zL ac)), (3, .long (zL pl)), (5, .int (zI ub))]) C.1 C.2.1 dMo_on_87 hl (by decide) rfl (fun ls hl => ?_)
            refine lv_iload C.1 C.2.1 dMo_on_89 (lv_at hl 6 rfl) ?_
            have L99 : ∀ (q_ : Int), (q_ = if ub = 0 then ac else pl) → (I64 q_) → ∀ (ls : Array Slot) (H : Heap) (locs : List Loc), lv_has ls 11 [(8, .int (zI v)), (7, .int (zI j)), (6, .int (zI x_)), (0, .ref m0), (1, .long (zL ac)), (3, .long (zL pl)), (5, .int (zI ub))] → zw D zCl A s [(au, .inl (cI, 6000, .inl (fI Ups))), (ap, .inl (cL, 6000, .inr (.inl (fL Pla)))), (ab, .inl (cL, 6000, .inr (.inl (fL Beg)))), (ae, .inl (cL, 6000, .inr (.inl (fL Ens)))), (ah, .inl (cI, 6000, .inl (fI Hid))), (m0, .inr (10, [.int (zI (1 - dr)), .long (zL wi), .long (zL hi), .int (zI bn), .ref af, .ref at_, .int (zI dr), .int (zI sz), .ref au, .ref ap, .ref ab, .ref ae, .ref ah, .int (zI kp), .int (zI ks), .ref ku, .ref kq, .ref kb, .ref ke, .ref kh, .int (zI als), .ref gf, .ref gt, .int (zI ses), .ref sf, .ref st, .int (zI les), .ref ef, .ref et, .int (zI mes), .ref xa, .ref xf, .ref xt, .ref xr, .ref lb, .int (zI lbs), .ref so]))] H locs → W p l e (zr 1 0 0) s m args below meth c H locs 0 0 Q (F0 m 99 ls [.long (zL q_)]) := by
              intro q_ hat hqb ls H locs hl hW
              refine lv_lstore (lv' := [(9, .long (zL q_)), (8, .int (zI v)), (7, .int (zI j)), (6, .int (zI x_)), (0, .ref m0), (1, .long (zL ac)), (3, .long (zL pl)), (5, .int (zI ub))]) C.1 C.2.1 dMo_on_99 hl (by decide) rfl (fun ls hl => ?_)
              refine lv_iload C.1 C.2.1 dMo_on_101 (lv_at hl 1 rfl) ?_
              refine zif_eq (tgt := 158) C (by omega) dMo_on_103 (by decide) (fun c103 => ?_) (fun c103 => ?_)
              · refine lv_iinc (v := zI (j + 1)) (lv' := [(7, .int (zI (j + 1))), (9, .long (zL q_)), (8, .int (zI v)), (6, .int (zI x_)), (0, .ref m0), (1, .long (zL ac)), (3, .long (zL pl)), (5, .int (zI ub))]) C.1 C.2.1 dMo_on_158 hl (k := 2) rfl (zI_add j 1) (by decide) rfl (fun ls hl => ?_)
                refine lv_goto (tgt := 15) C.1 C.2.1 dMo_on_161 (by decide) ?_
                exact ih15 (j + 1) x_ (by omega) (by omega) (by omega) (by rw [foldZ_s _ _ hi0, ← hx_]; unfold onF; have h8 := bz_eq1 (lnM_ Ups Pla ub ac pl j); have h7 := bz_eq0 (lnM_ Ups Pla ub ac pl j); rw [if_neg (fun h => by obtain ⟨h1, h2, h3⟩ := h; rw [h8] at h1; rw [← hat] at h2 h3; omega)]) (by omega) ls H locs (lv_sub hl [0, 3, 4, 5, 6, 7] rfl) hW
              · refine lv_aload_n C.1 C.2.1 dMo_on_106 rfl (lv_at hl 4 rfl) ?_
                refine zget C hW 5 10 rfl rfl inMo (by decide) flMo_23 rfl dMo_on_107 ?_
                refine lv_iload C.1 C.2.1 dMo_on_110 (lv_at hl 2 rfl) ?_
                refine zlald C hW 2 2 rfl rfl (by omega) (by omega) (by decide) dMo_on_112 ?_
                have hb1 := bBeg j
                refine lv_lload C.1 C.2.1 dMo_on_113 (lv_at hl 0 rfl) ?_
                refine zlcmp_gt (tgt := 158) C (by omega) (by omega) dMo_on_115 dMo_on_116 (by decide) (fun c115 => ?_) (fun c115 => ?_)
                · refine lv_iinc (v := zI (j + 1)) (lv' := [(7, .int (zI (j + 1))), (9, .long (zL q_)), (8, .int (zI v)), (6, .int (zI x_)), (0, .ref m0), (1, .long (zL ac)), (3, .long (zL pl)), (5, .int (zI ub))]) C.1 C.2.1 dMo_on_158 hl (k := 2) rfl (zI_add j 1) (by decide) rfl (fun ls hl => ?_)
                  refine lv_goto (tgt := 15) C.1 C.2.1 dMo_on_161 (by decide) ?_
                  exact ih15 (j + 1) x_ (by omega) (by omega) (by omega) (by rw [foldZ_s _ _ hi0, ← hx_]; unfold onF; have h8 := bz_eq1 (lnM_ Ups Pla ub ac pl j); have h7 := bz_eq0 (lnM_ Ups Pla ub ac pl j); rw [if_neg (fun h => by obtain ⟨h1, h2, h3⟩ := h; rw [h8] at h1; rw [← hat] at h2 h3; omega)]) (by omega) ls H locs (lv_sub hl [0, 3, 4, 5, 6, 7] rfl) hW
                · refine lv_aload_n C.1 C.2.1 dMo_on_119 rfl (lv_at hl 4 rfl) ?_
                  refine zget C hW 5 11 rfl rfl inMo (by decide) flMo_26 rfl dMo_on_120 ?_
                  refine lv_iload C.1 C.2.1 dMo_on_123 (lv_at hl 2 rfl) ?_
                  refine zlald C hW 3 2 rfl rfl (by omega) (by omega) (by decide) dMo_on_125 ?_
                  have hb2 := bEns j
                  refine lv_lload C.1 C.2.1 dMo_on_126 (lv_at hl 0 rfl) ?_
                  refine zlcmp_lt (tgt := 158) C (by omega) (by omega) dMo_on_128 dMo_on_129 (by decide) (fun c128 => ?_) (fun c128 => ?_)
                  · refine lv_iinc (v := zI (j + 1)) (lv' := [(7, .int (zI (j + 1))), (9, .long (zL q_)), (8, .int (zI v)), (6, .int (zI x_)), (0, .ref m0), (1, .long (zL ac)), (3, .long (zL pl)), (5, .int (zI ub))]) C.1 C.2.1 dMo_on_158 hl (k := 2) rfl (zI_add j 1) (by decide) rfl (fun ls hl => ?_)
                    refine lv_goto (tgt := 15) C.1 C.2.1 dMo_on_161 (by decide) ?_
                    exact ih15 (j + 1) x_ (by omega) (by omega) (by omega) (by rw [foldZ_s _ _ hi0, ← hx_]; unfold onF; have h8 := bz_eq1 (lnM_ Ups Pla ub ac pl j); have h7 := bz_eq0 (lnM_ Ups Pla ub ac pl j); rw [if_neg (fun h => by obtain ⟨h1, h2, h3⟩ := h; rw [h8] at h1; rw [← hat] at h2 h3; omega)]) (by omega) ls H locs (lv_sub hl [0, 3, 4, 5, 6, 7] rfl) hW
                  · refine lv_aload_n C.1 C.2.1 dMo_on_132 rfl (lv_at hl 4 rfl) ?_
                    refine zget C hW 5 12 rfl rfl inMo (by decide) flMo_29 rfl dMo_on_133 ?_
                    refine lv_iload C.1 C.2.1 dMo_on_136 (lv_at hl 2 rfl) ?_
                    refine ziald C hW 4 0 rfl rfl (by omega) (by omega) (by decide) dMo_on_138 ?_
                    have hb3 := bHid j
                    refine lv_iload C.1 C.2.1 dMo_on_139 (lv_at hl 3 rfl) ?_
                    have L156 : ∀ (y_ : Int), (y_ = if Hid j < x_ then Hid j else x_) → (I32 y_) → ∀ (ls : Array Slot) (H : Heap) (locs : List Loc), lv_has ls 11 [(9, .long (zL q_)), (8, .int (zI v)), (7, .int (zI j)), (6, .int (zI x_)), (0, .ref m0), (1, .long (zL ac)), (3, .long (zL pl)), (5, .int (zI ub))] → zw D zCl A s [(au, .inl (cI, 6000, .inl (fI Ups))), (ap, .inl (cL, 6000, .inr (.inl (fL Pla)))), (ab, .inl (cL, 6000, .inr (.inl (fL Beg)))), (ae, .inl (cL, 6000, .inr (.inl (fL Ens)))), (ah, .inl (cI, 6000, .inl (fI Hid))), (m0, .inr (10, [.int (zI (1 - dr)), .long (zL wi), .long (zL hi), .int (zI bn), .ref af, .ref at_, .int (zI dr), .int (zI sz), .ref au, .ref ap, .ref ab, .ref ae, .ref ah, .int (zI kp), .int (zI ks), .ref ku, .ref kq, .ref kb, .ref ke, .ref kh, .int (zI als), .ref gf, .ref gt, .int (zI ses), .ref sf, .ref st, .int (zI les), .ref ef, .ref et, .int (zI mes), .ref xa, .ref xf, .ref xt, .ref xr, .ref lb, .int (zI lbs), .ref so]))] H locs → W p l e (zr 1 0 0) s m args below meth c H locs 0 0 Q (F0 m 156 ls [.int (zI y_)]) := by
                      intro y_ hxx hyb ls H locs hl hW
                      refine lv_istore (lv' := [(6, .int (zI y_)), (9, .long (zL q_)), (8, .int (zI v)), (7, .int (zI j)), (0, .ref m0), (1, .long (zL ac)), (3, .long (zL pl)), (5, .int (zI ub))]) C.1 C.2.1 dMo_on_156 hl (by decide) rfl (fun ls hl => ?_)
                      refine lv_iinc (v := zI (j + 1)) (lv' := [(7, .int (zI (j + 1))), (6, .int (zI y_)), (9, .long (zL q_)), (8, .int (zI v)), (0, .ref m0), (1, .long (zL ac)), (3, .long (zL pl)), (5, .int (zI ub))]) C.1 C.2.1 dMo_on_158 hl (k := 3) rfl (zI_add j 1) (by decide) rfl (fun ls hl => ?_)
                      refine lv_goto (tgt := 15) C.1 C.2.1 dMo_on_161 (by decide) ?_
                      exact ih15 (j + 1) y_ (by omega) (by omega) (by omega) (by rw [foldZ_s _ _ hi0, ← hx_]; unfold onF; have h8 := bz_eq1 (lnM_ Ups Pla ub ac pl j); have h7 := bz_eq0 (lnM_ Ups Pla ub ac pl j); rw [if_pos ⟨h8.mpr (by omega), by rw [← hat]; omega, by rw [← hat]; omega⟩]; exact hxx) (by omega) ls H locs (lv_sub hl [0, 1, 4, 5, 6, 7] rfl) hW
                    refine zicmp_ge (tgt := 154) C (by omega) (by omega) dMo_on_141 (by decide) (fun c141 => ?_) (fun c141 => ?_)
                    · refine lv_iload C.1 C.2.1 dMo_on_154 (lv_at hl 3 rfl) ?_
                      exact L156 x_ (by first | rw [if_pos (by omega)] | rw [if_neg (by omega)]) (by omega) ls H locs (lv_sub hl [0, 1, 2, 3, 4, 5, 6, 7] rfl) hW
                    · refine lv_aload_n C.1 C.2.1 dMo_on_144 rfl (lv_at hl 4 rfl) ?_
                      refine zget C hW 5 12 rfl rfl inMo (by decide) flMo_29 rfl dMo_on_145 ?_
                      refine lv_iload C.1 C.2.1 dMo_on_148 (lv_at hl 2 rfl) ?_
                      refine ziald C hW 4 0 rfl rfl (by omega) (by omega) (by decide) dMo_on_150 ?_
                      have hb4 := bHid j
                      refine lv_goto (tgt := 156) C.1 C.2.1 dMo_on_151 (by decide) ?_
                      exact L156 (Hid j) (by first | rw [if_pos (by omega)] | rw [if_neg (by omega)]) (by omega) ls H locs (lv_sub hl [0, 1, 2, 3, 4, 5, 6, 7] rfl) hW
            refine zif_eq (tgt := 98) C (by omega) dMo_on_91 (by decide) (fun c91 => ?_) (fun c91 => ?_)
            · refine lv_lload_n C.1 C.2.1 dMo_on_98 rfl (lv_at hl 4 rfl) ?_
              exact L99 ac (by first | rw [if_pos (by omega)] | rw [if_neg (by omega)]) (by omega) ls H locs (lv_sub hl [0, 1, 2, 3, 4, 5, 6] rfl) hW
            · refine lv_lload_n C.1 C.2.1 dMo_on_94 rfl (lv_at hl 5 rfl) ?_
              refine lv_goto (tgt := 99) C.1 C.2.1 dMo_on_95 (by decide) ?_
              exact L99 pl (by first | rw [if_pos (by omega)] | rw [if_neg (by omega)]) (by omega) ls H locs (lv_sub hl [0, 1, 2, 3, 4, 5, 6] rfl) hW
          refine zif_eq (tgt := 60) C (by omega) dMo_on_26 (by decide) (fun c26 => ?_) (fun c26 => ?_)
          · refine lv_aload_n C.1 C.2.1 dMo_on_60 rfl (lv_at hl 2 rfl) ?_
            refine zget C hW 5 8 rfl rfl inMo (by decide) flMo_16 rfl dMo_on_61 ?_
            refine lv_iload C.1 C.2.1 dMo_on_64 (lv_at hl 0 rfl) ?_
            refine ziald C hW 0 0 rfl rfl (by omega) (by omega) (by decide) dMo_on_66 ?_
            have hb5 := bUps j
            refine zif_ne (tgt := 86) C (by omega) dMo_on_67 (by decide) (fun c67 => ?_) (fun c67 => ?_)
            · refine lv_iconst (v := zI 0) C.1 C.2.1 dMo_on_86 (by decide) ?_
              exact L87 0 (by unfold lnM_; first | (rw [if_pos (by omega)]; exact bzd (fun h => by omega) (fun h => by omega)) | (rw [if_neg (by omega)]; exact bzd (fun h => by omega) (fun h => by omega))) (by omega) ls H locs (lv_sub hl [0, 1, 2, 3, 4, 5] rfl) hW
            · refine lv_aload_n C.1 C.2.1 dMo_on_70 rfl (lv_at hl 2 rfl) ?_
              refine zget C hW 5 9 rfl rfl inMo (by decide) flMo_20 rfl dMo_on_71 ?_
              refine lv_iload C.1 C.2.1 dMo_on_74 (lv_at hl 0 rfl) ?_
              refine zlald C hW 1 2 rfl rfl (by omega) (by omega) (by decide) dMo_on_76 ?_
              have hb6 := bPla j
              refine lv_lload_n C.1 C.2.1 dMo_on_77 rfl (lv_at hl 4 rfl) ?_
              refine zlcmp_ne (tgt := 86) C (by omega) (by omega) dMo_on_78 dMo_on_79 (by decide) (fun c78 => ?_) (fun c78 => ?_)
              · refine lv_iconst (v := zI 0) C.1 C.2.1 dMo_on_86 (by decide) ?_
                exact L87 0 (by unfold lnM_; first | (rw [if_pos (by omega)]; exact bzd (fun h => by omega) (fun h => by omega)) | (rw [if_neg (by omega)]; exact bzd (fun h => by omega) (fun h => by omega))) (by omega) ls H locs (lv_sub hl [0, 1, 2, 3, 4, 5] rfl) hW
              · refine lv_iconst (v := zI 1) C.1 C.2.1 dMo_on_82 (by decide) ?_
                refine lv_goto (tgt := 87) C.1 C.2.1 dMo_on_83 (by decide) ?_
                exact L87 1 (by unfold lnM_; first | (rw [if_pos (by omega)]; exact bzd (fun h => by omega) (fun h => by omega)) | (rw [if_neg (by omega)]; exact bzd (fun h => by omega) (fun h => by omega))) (by omega) ls H locs (lv_sub hl [0, 1, 2, 3, 4, 5] rfl) hW
          · refine lv_aload_n C.1 C.2.1 dMo_on_29 rfl (lv_at hl 2 rfl) ?_
            refine zget C hW 5 8 rfl rfl inMo (by decide) flMo_16 rfl dMo_on_30 ?_
            refine lv_iload C.1 C.2.1 dMo_on_33 (lv_at hl 0 rfl) ?_
            refine ziald C hW 0 0 rfl rfl (by omega) (by omega) (by decide) dMo_on_35 ?_
            have hb7 := bUps j
            refine lv_iconst (v := zI 1) C.1 C.2.1 dMo_on_36 (by decide) ?_
            refine zicmp_ne (tgt := 56) C (by omega) (by omega) dMo_on_37 (by decide) (fun c37 => ?_) (fun c37 => ?_)
            · refine lv_iconst (v := zI 0) C.1 C.2.1 dMo_on_56 (by decide) ?_
              refine lv_goto (tgt := 87) C.1 C.2.1 dMo_on_57 (by decide) ?_
              exact L87 0 (by unfold lnM_; first | (rw [if_pos (by omega)]; exact bzd (fun h => by omega) (fun h => by omega)) | (rw [if_neg (by omega)]; exact bzd (fun h => by omega) (fun h => by omega))) (by omega) ls H locs (lv_sub hl [0, 1, 2, 3, 4, 5] rfl) hW
            · refine lv_aload_n C.1 C.2.1 dMo_on_40 rfl (lv_at hl 2 rfl) ?_
              refine zget C hW 5 9 rfl rfl inMo (by decide) flMo_20 rfl dMo_on_41 ?_
              refine lv_iload C.1 C.2.1 dMo_on_44 (lv_at hl 0 rfl) ?_
              refine zlald C hW 1 2 rfl rfl (by omega) (by omega) (by decide) dMo_on_46 ?_
              have hb8 := bPla j
              refine lv_lload_n C.1 C.2.1 dMo_on_47 rfl (lv_at hl 3 rfl) ?_
              refine zlcmp_ne (tgt := 56) C (by omega) (by omega) dMo_on_48 dMo_on_49 (by decide) (fun c48 => ?_) (fun c48 => ?_)
              · refine lv_iconst (v := zI 0) C.1 C.2.1 dMo_on_56 (by decide) ?_
                refine lv_goto (tgt := 87) C.1 C.2.1 dMo_on_57 (by decide) ?_
                exact L87 0 (by unfold lnM_; first | (rw [if_pos (by omega)]; exact bzd (fun h => by omega) (fun h => by omega)) | (rw [if_neg (by omega)]; exact bzd (fun h => by omega) (fun h => by omega))) (by omega) ls H locs (lv_sub hl [0, 1, 2, 3, 4, 5] rfl) hW
              · refine lv_iconst (v := zI 1) C.1 C.2.1 dMo_on_52 (by decide) ?_
                refine lv_goto (tgt := 87) C.1 C.2.1 dMo_on_53 (by decide) ?_
                exact L87 1 (by unfold lnM_; first | (rw [if_pos (by omega)]; exact bzd (fun h => by omega) (fun h => by omega)) | (rw [if_neg (by omega)]; exact bzd (fun h => by omega) (fun h => by omega))) (by omega) ls H locs (lv_sub hl [0, 1, 2, 3, 4, 5] rfl) hW
    exact L15 _ 0 2 (Nat.lt_succ_self _) (by omega) (by omega) rfl (by omega) ls H locs (lv_sub hl [0, 1, 2, 3, 4, 5] rfl) hW
  · refine lv_iconst (v := zI 0) C.1 C.2.1 dMo_on_7 (by decide) ?_
    have hW : zw D zCl A s [(m0, .inr (10, [.int (zI (1 - dr)), .long (zL wi), .long (zL hi), .int (zI bn), .ref af, .ref at_, .int (zI dr), .int (zI sz), .ref au, .ref ap, .ref ab, .ref ae, .ref ah, .int (zI kp), .int (zI ks), .ref ku, .ref kq, .ref kb, .ref ke, .ref kh, .int (zI als), .ref gf, .ref gt, .int (zI ses), .ref sf, .ref st, .int (zI les), .ref ef, .ref et, .int (zI mes), .ref xa, .ref xf, .ref xt, .ref xr, .ref lb, .int (zI lbs), .ref so])), (au, .inl (cI, 6000, .inl (fI Ups))), (ap, .inl (cL, 6000, .inr (.inl (fL Pla)))), (ab, .inl (cL, 6000, .inr (.inl (fL Beg)))), (ae, .inl (cL, 6000, .inr (.inl (fL Ens)))), (ah, .inl (cI, 6000, .inl (fI Hid)))] H locs := zwp hW [5, 0, 1, 2, 3, 4] rfl (by decide)
    exact hQ (zI 0) _ H locs _ _ _ ls hW ⟨0, (fun h => by omega), rfl, rfl⟩ (by omega) (by omega) dMo_on_8
set_option maxHeartbeats 4000000 in
set_option maxRecDepth 100000 in
theorem m_ink (l : Launch) (D : va_G) (cI cG cL cB : ClassId) (m0 : Nat) (cd : Int) (wi : Int) (hi : Int) (bn : Int) (af : Nat) (at_ : Nat) (dr : Int) (sz : Int) (au : Nat) (ap : Nat) (ab : Nat) (ae : Nat) (ah : Nat) (kp : Int) (ks : Int) (ku : Nat) (kq : Nat) (kb : Nat) (ke : Nat) (kh : Nat) (als : Int) (gf : Nat) (gt : Nat) (ses : Int) (sf : Nat) (st : Nat) (les : Int) (ef : Nat) (et : Nat) (mes : Int) (xa : Nat) (xf : Nat) (xt : Nat) (xr : Nat) (lb : Nat) (lbs : Int) (so : Nat) (Ups : Int → Int) (Pla : Int → Int) (Beg : Int → Int) (Ens : Int → Int) (Hid : Int → Int) (hd : Int) (bUps : ∀ j : Int, I32 (Ups j)) (bPla : ∀ j : Int, I64 (Pla j)) (bBeg : ∀ j : Int, I64 (Beg j)) (bEns : ∀ j : Int, I64 (Ens j)) (bHid : ∀ j : Int, I32 (Hid j)) (hdr : dr = 0 ∨ dr = 1) (hsz : 0 ≤ sz ∧ sz ≤ 6000) (hhd : hd = 0 ∨ hd = 1) : Cl l yMo_ink cMo_ink 5 (some .long) 1 0 0 D zCl (zT cI cG cL cB) [.ref m0, .int (zI hd)] [(m0, .inr (10, [.int (zI cd), .long (zL wi), .long (zL hi), .int (zI bn), .ref af, .ref at_, .int (zI dr), .int (zI sz), .ref au, .ref ap, .ref ab, .ref ae, .ref ah, .int (zI kp), .int (zI ks), .ref ku, .ref kq, .ref kb, .ref ke, .ref kh, .int (zI als), .ref gf, .ref gt, .int (zI ses), .ref sf, .ref st, .int (zI les), .ref ef, .ref et, .int (zI mes), .ref xa, .ref xf, .ref xt, .ref xr, .ref lb, .int (zI lbs), .ref so])), (au, .inl (cI, 6000, .inl (fI Ups))), (ap, .inl (cL, 6000, .inr (.inl (fL Pla)))), (ab, .inl (cL, 6000, .inr (.inl (fL Beg)))), (ae, .inl (cL, 6000, .inr (.inl (fL Ens)))), (ah, .inl (cI, 6000, .inl (fI Hid)))] (fun x w => ∃ r2 : Int, (dr = 1 → r2 = sumZ (inkF Beg Ens Hid hd) sz) ∧ x = zL r2 ∧ w = [(m0, .inr (10, [.int (zI (1 - dr)), .long (zL wi), .long (zL hi), .int (zI bn), .ref af, .ref at_, .int (zI dr), .int (zI sz), .ref au, .ref ap, .ref ab, .ref ae, .ref ah, .int (zI kp), .int (zI ks), .ref ku, .ref kq, .ref kb, .ref ke, .ref kh, .int (zI als), .ref gf, .ref gt, .int (zI ses), .ref sf, .ref st, .int (zI les), .ref ef, .ref et, .int (zI mes), .ref xa, .ref xf, .ref xt, .ref xr, .ref lb, .int (zI lbs), .ref so])), (au, .inl (cI, 6000, .inl (fI Ups))), (ap, .inl (cL, 6000, .inr (.inl (fL Pla)))), (ab, .inl (cL, 6000, .inr (.inl (fL Beg)))), (ae, .inl (cL, 6000, .inr (.inl (fL Ens)))), (ah, .inl (cI, 6000, .inl (fI Hid)))]) := by
  refine zBl (by decide) (Nat.le_of_ble_eq_true rfl) ?_
  intro p e s m args below meth c ls A H locs Q C hin hl hW hQ
  have hl : lv_has ls 5 [(0, .ref m0), (1, .int (zI hd))] := hl
  refine lv_aload_n C.1 C.2.1 dMo_ink_0 rfl (lv_at hl 0 rfl) ?_
  refine zcalli (wr := [(au, .inl (cI, 6000, .inl (fI Ups))), (ap, .inl (cL, 6000, .inr (.inl (fL Pla)))), (ab, .inl (cL, 6000, .inr (.inl (fL Beg)))), (ae, .inl (cL, 6000, .inr (.inl (fL Ens)))), (ah, .inl (cI, 6000, .inl (fI Hid)))]) C hW [0] [1, 2, 3, 4, 5] rfl rfl (by decide) (by decide) (zRunV (k := 0) (As := []) (rest := []) C hW (m_none l D cI cG cL cB m0 cd wi hi bn af at_ dr sz au ap ab ae ah kp ks ku kq kb ke kh als gf gt ses sf st les ef et mes xa xf xt xr lb lbs so (by omega) H.size) [0] rfl (by decide) kMo_195 (by decide +kernel) ⟨by decide, by decide⟩ 0 rfl rfl rfl hl.1 (Nat.le_of_ble_eq_true rfl) dMo_ink_1 ⟨by first | decide | omega, by first | decide | omega⟩) (fun x w H locs hq hW => ?_)
  obtain ⟨rfl, rfl⟩ := hq
  have hW : zw D zCl A s [(au, .inl (cI, 6000, .inl (fI Ups))), (ap, .inl (cL, 6000, .inr (.inl (fL Pla)))), (ab, .inl (cL, 6000, .inr (.inl (fL Beg)))), (ae, .inl (cL, 6000, .inr (.inl (fL Ens)))), (ah, .inl (cI, 6000, .inl (fI Hid))), (m0, .inr (10, [.int (zI (1 - dr)), .long (zL wi), .long (zL hi), .int (zI bn), .ref af, .ref at_, .int (zI dr), .int (zI sz), .ref au, .ref ap, .ref ab, .ref ae, .ref ah, .int (zI kp), .int (zI ks), .ref ku, .ref kq, .ref kb, .ref ke, .ref kh, .int (zI als), .ref gf, .ref gt, .int (zI ses), .ref sf, .ref st, .int (zI les), .ref ef, .ref et, .int (zI mes), .ref xa, .ref xf, .ref xt, .ref xr, .ref lb, .int (zI lbs), .ref so]))] H locs := hW
  refine zif_eq (tgt := 9) C (by omega) dMo_ink_4 (by decide) (fun c4 => ?_) (fun c4 => ?_)
  · refine lv_lconst (v := zL 0) C.1 C.2.1 dMo_ink_9 (by decide) ?_
    refine lv_lstore_n (lv' := [(2, .long (zL 0)), (0, .ref m0), (1, .int (zI hd))]) C.1 C.2.1 dMo_ink_10 rfl hl (by decide) rfl (fun ls hl => ?_)
    refine lv_iconst (v := zI 0) C.1 C.2.1 dMo_ink_11 (by decide) ?_
    refine lv_istore (lv' := [(4, .int (zI 0)), (2, .long (zL 0)), (0, .ref m0), (1, .int (zI hd))]) C.1 C.2.1 dMo_ink_12 hl (by decide) rfl (fun ls hl => ?_)
    have L14 : ∀ (N : Nat) (j : Int) (x_ : Int), (sz - j).toNat < N → (0 ≤ j) → (j ≤ sz) → (x_ = sumZ (inkF Beg Ens Hid hd) j) → ∀ (ls : Array Slot) (H : Heap) (locs : List Loc), lv_has ls 5 [(4, .int (zI j)), (2, .long (zL x_)), (0, .ref m0), (1, .int (zI hd))] → zw D zCl A s [(au, .inl (cI, 6000, .inl (fI Ups))), (ap, .inl (cL, 6000, .inr (.inl (fL Pla)))), (ab, .inl (cL, 6000, .inr (.inl (fL Beg)))), (ae, .inl (cL, 6000, .inr (.inl (fL Ens)))), (ah, .inl (cI, 6000, .inl (fI Hid))), (m0, .inr (10, [.int (zI (1 - dr)), .long (zL wi), .long (zL hi), .int (zI bn), .ref af, .ref at_, .int (zI dr), .int (zI sz), .ref au, .ref ap, .ref ab, .ref ae, .ref ah, .int (zI kp), .int (zI ks), .ref ku, .ref kq, .ref kb, .ref ke, .ref kh, .int (zI als), .ref gf, .ref gt, .int (zI ses), .ref sf, .ref st, .int (zI les), .ref ef, .ref et, .int (zI mes), .ref xa, .ref xf, .ref xt, .ref xr, .ref lb, .int (zI lbs), .ref so]))] H locs → W p l e (zr 1 0 0) s m args below meth c H locs 0 0 Q (F0 m 14 ls []) := by
      intro N
      induction N with
      | zero => intro j x_ hm; exact absurd hm (Nat.not_lt_zero _)
      | succ N ih14 =>
        intro j x_ hm14 hi0 hi1 hx_ ls H locs hl hW
        refine lv_iload C.1 C.2.1 dMo_ink_14 (lv_at hl 0 rfl) ?_
        refine lv_aload_n C.1 C.2.1 dMo_ink_16 rfl (lv_at hl 2 rfl) ?_
        refine zget C hW 5 7 rfl rfl inMo (by decide) flMo_145 rfl dMo_ink_17 ?_
        refine zicmp_ge (tgt := 71) C (by omega) (by omega) dMo_ink_20 (by decide) (fun c20 => ?_) (fun c20 => ?_)
        · refine lv_lload_n C.1 C.2.1 dMo_ink_71 rfl (lv_at hl 1 rfl) ?_
          have hW : zw D zCl A s [(m0, .inr (10, [.int (zI (1 - dr)), .long (zL wi), .long (zL hi), .int (zI bn), .ref af, .ref at_, .int (zI dr), .int (zI sz), .ref au, .ref ap, .ref ab, .ref ae, .ref ah, .int (zI kp), .int (zI ks), .ref ku, .ref kq, .ref kb, .ref ke, .ref kh, .int (zI als), .ref gf, .ref gt, .int (zI ses), .ref sf, .ref st, .int (zI les), .ref ef, .ref et, .int (zI mes), .ref xa, .ref xf, .ref xt, .ref xr, .ref lb, .int (zI lbs), .ref so])), (au, .inl (cI, 6000, .inl (fI Ups))), (ap, .inl (cL, 6000, .inr (.inl (fL Pla)))), (ab, .inl (cL, 6000, .inr (.inl (fL Beg)))), (ae, .inl (cL, 6000, .inr (.inl (fL Ens)))), (ah, .inl (cI, 6000, .inl (fI Hid)))] H locs := zwp hW [5, 0, 1, 2, 3, 4] rfl (by decide)
          exact hQ (zL x_) _ H locs _ _ _ ls hW ⟨x_, (fun _ => by rw [hx_, show sz = j by omega]), rfl, rfl⟩ (by omega) (by omega) dMo_ink_72
        · refine lv_aload_n C.1 C.2.1 dMo_ink_23 rfl (lv_at hl 2 rfl) ?_
          refine zget C hW 5 12 rfl rfl inMo (by decide) flMo_29 rfl dMo_ink_24 ?_
          refine lv_iload C.1 C.2.1 dMo_ink_27 (lv_at hl 0 rfl) ?_
          refine ziald C hW 4 0 rfl rfl (by omega) (by omega) (by decide) dMo_ink_29 ?_
          have hb1 := bHid j
          refine lv_iconst (v := zI 1) C.1 C.2.1 dMo_ink_30 (by decide) ?_
          have L39 : ∀ (v : Int), (v = if Hid j = 1 then 1 else 0) → (v = 0 ∨ v = 1) → ∀ (ls : Array Slot) (H : Heap) (locs : List Loc), lv_has ls 5 [(4, .int (zI j)), (2, .long (zL x_)), (0, .ref m0), (1, .int (zI hd))] → zw D zCl A s [(au, .inl (cI, 6000, .inl (fI Ups))), (ap, .inl (cL, 6000, .inr (.inl (fL Pla)))), (ab, .inl (cL, 6000, .inr (.inl (fL Beg)))), (ae, .inl (cL, 6000, .inr (.inl (fL Ens)))), (ah, .inl (cI, 6000, .inl (fI Hid))), (m0, .inr (10, [.int (zI (1 - dr)), .long (zL wi), .long (zL hi), .int (zI bn), .ref af, .ref at_, .int (zI dr), .int (zI sz), .ref au, .ref ap, .ref ab, .ref ae, .ref ah, .int (zI kp), .int (zI ks), .ref ku, .ref kq, .ref kb, .ref ke, .ref kh, .int (zI als), .ref gf, .ref gt, .int (zI ses), .ref sf, .ref st, .int (zI les), .ref ef, .ref et, .int (zI mes), .ref xa, .ref xf, .ref xt, .ref xr, .ref lb, .int (zI lbs), .ref so]))] H locs → W p l e (zr 1 0 0) s m args below meth c H locs 0 0 Q (F0 m 39 ls [.int (zI v)]) := by
            intro v hv hv2 ls H locs hl hW
            refine lv_iload_n C.1 C.2.1 dMo_ink_39 rfl (lv_at hl 3 rfl) ?_
            have L64 : ∀ (y_ : Int), (y_ = x_ + (inkF Beg Ens Hid hd) j) → ∀ (ls : Array Slot) (H : Heap) (locs : List Loc), lv_has ls 5 [(4, .int (zI j)), (2, .long (zL x_)), (0, .ref m0), (1, .int (zI hd))] → zw D zCl A s [(au, .inl (cI, 6000, .inl (fI Ups))), (ap, .inl (cL, 6000, .inr (.inl (fL Pla)))), (ab, .inl (cL, 6000, .inr (.inl (fL Beg)))), (ae, .inl (cL, 6000, .inr (.inl (fL Ens)))), (ah, .inl (cI, 6000, .inl (fI Hid))), (m0, .inr (10, [.int (zI (1 - dr)), .long (zL wi), .long (zL hi), .int (zI bn), .ref af, .ref at_, .int (zI dr), .int (zI sz), .ref au, .ref ap, .ref ab, .ref ae, .ref ah, .int (zI kp), .int (zI ks), .ref ku, .ref kq, .ref kb, .ref ke, .ref kh, .int (zI als), .ref gf, .ref gt, .int (zI ses), .ref sf, .ref st, .int (zI les), .ref ef, .ref et, .int (zI mes), .ref xa, .ref xf, .ref xt, .ref xr, .ref lb, .int (zI lbs), .ref so]))] H locs → W p l e (zr 1 0 0) s m args below meth c H locs 0 0 Q (F0 m 64 ls [.long (zL y_)]) := by
              intro y_ hy_ ls H locs hl hW
              refine lv_lstore_n (lv' := [(2, .long (zL y_)), (4, .int (zI j)), (0, .ref m0), (1, .int (zI hd))]) C.1 C.2.1 dMo_ink_64 rfl hl (by decide) rfl (fun ls hl => ?_)
              refine lv_iinc (v := zI (j + 1)) (lv' := [(4, .int (zI (j + 1))), (2, .long (zL y_)), (0, .ref m0), (1, .int (zI hd))]) C.1 C.2.1 dMo_ink_65 hl (k := 1) rfl (zI_add j 1) (by decide) rfl (fun ls hl => ?_)
              refine lv_goto (tgt := 14) C.1 C.2.1 dMo_ink_68 (by decide) ?_
              exact ih14 (j + 1) y_ (by omega) (by omega) (by omega) (by rw [sumZ_s _ hi0, ← hx_]; exact hy_) ls H locs (lv_sub hl [0, 1, 2, 3] rfl) hW
            refine zicmp_ne (tgt := 63) C (by omega) (by omega) dMo_ink_40 (by decide) (fun c40 => ?_) (fun c40 => ?_)
            · refine lv_lload_n C.1 C.2.1 dMo_ink_63 rfl (lv_at hl 1 rfl) ?_
              exact L64 x_ (by unfold inkF; first | (rw [if_pos (by omega)]; omega) | (rw [if_neg (by omega)]; omega)) ls H locs (lv_sub hl [0, 1, 2, 3] rfl) hW
            · refine lv_lload_n C.1 C.2.1 dMo_ink_43 rfl (lv_at hl 1 rfl) ?_
              refine lv_aload_n C.1 C.2.1 dMo_ink_44 rfl (lv_at hl 2 rfl) ?_
              refine zget C hW 5 11 rfl rfl inMo (by decide) flMo_26 rfl dMo_ink_45 ?_
              refine lv_iload C.1 C.2.1 dMo_ink_48 (lv_at hl 0 rfl) ?_
              refine zlald C hW 3 2 rfl rfl (by omega) (by omega) (by decide) dMo_ink_50 ?_
              have hb2 := bEns j
              refine zladd C dMo_ink_51 ?_
              refine lv_aload_n C.1 C.2.1 dMo_ink_52 rfl (lv_at hl 2 rfl) ?_
              refine zget C hW 5 10 rfl rfl inMo (by decide) flMo_23 rfl dMo_ink_53 ?_
              refine lv_iload C.1 C.2.1 dMo_ink_56 (lv_at hl 0 rfl) ?_
              refine zlald C hW 2 2 rfl rfl (by omega) (by omega) (by decide) dMo_ink_58 ?_
              have hb3 := bBeg j
              refine zlsub C dMo_ink_59 ?_
              refine lv_goto (tgt := 64) C.1 C.2.1 dMo_ink_60 (by decide) ?_
              exact L64 ((x_ + (Ens j)) - (Beg j)) (by unfold inkF; first | (rw [if_pos (by omega)]; omega) | (rw [if_neg (by omega)]; omega)) ls H locs (lv_sub hl [0, 1, 2, 3] rfl) hW
          refine zicmp_ne (tgt := 38) C (by omega) (by omega) dMo_ink_31 (by decide) (fun c31 => ?_) (fun c31 => ?_)
          · refine lv_iconst (v := zI 0) C.1 C.2.1 dMo_ink_38 (by decide) ?_
            exact L39 0 (by first | rw [if_pos (by omega)] | rw [if_neg (by omega)]) (by omega) ls H locs (lv_sub hl [0, 1, 2, 3] rfl) hW
          · refine lv_iconst (v := zI 1) C.1 C.2.1 dMo_ink_34 (by decide) ?_
            refine lv_goto (tgt := 39) C.1 C.2.1 dMo_ink_35 (by decide) ?_
            exact L39 1 (by first | rw [if_pos (by omega)] | rw [if_neg (by omega)]) (by omega) ls H locs (lv_sub hl [0, 1, 2, 3] rfl) hW
    exact L14 _ 0 0 (Nat.lt_succ_self _) (by omega) (by omega) rfl ls H locs (lv_sub hl [0, 1, 2, 3] rfl) hW
  · refine lv_lconst (v := zL 0) C.1 C.2.1 dMo_ink_7 (by decide) ?_
    have hW : zw D zCl A s [(m0, .inr (10, [.int (zI (1 - dr)), .long (zL wi), .long (zL hi), .int (zI bn), .ref af, .ref at_, .int (zI dr), .int (zI sz), .ref au, .ref ap, .ref ab, .ref ae, .ref ah, .int (zI kp), .int (zI ks), .ref ku, .ref kq, .ref kb, .ref ke, .ref kh, .int (zI als), .ref gf, .ref gt, .int (zI ses), .ref sf, .ref st, .int (zI les), .ref ef, .ref et, .int (zI mes), .ref xa, .ref xf, .ref xt, .ref xr, .ref lb, .int (zI lbs), .ref so])), (au, .inl (cI, 6000, .inl (fI Ups))), (ap, .inl (cL, 6000, .inr (.inl (fL Pla)))), (ab, .inl (cL, 6000, .inr (.inl (fL Beg)))), (ae, .inl (cL, 6000, .inr (.inl (fL Ens)))), (ah, .inl (cI, 6000, .inl (fI Hid)))] H locs := zwp hW [5, 0, 1, 2, 3, 4] rfl (by decide)
    exact hQ (zL 0) _ H locs _ _ _ ls hW ⟨0, (fun h => by omega), rfl, rfl⟩ (by omega) (by omega) dMo_ink_8
