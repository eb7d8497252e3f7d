theorem dMo_section_0 : decode cMo_section 0 = .ok (.aload_n 0, 1) := by decide +kernel
theorem dMo_section_1 : decode cMo_section 1 = .ok (.iload_n 1, 1) := by decide +kernel
theorem dMo_section_2 : decode cMo_section 2 = .ok (.ifCond .lt 19, 3) := by decide +kernel
theorem dMo_section_5 : decode cMo_section 5 = .ok (.iload_n 1, 1) := by decide +kernel
theorem dMo_section_6 : decode cMo_section 6 = .ok (.iconst 5, 1) := by decide +kernel
theorem dMo_section_7 : decode cMo_section 7 = .ok (.if_icmp .gt 14, 3) := by decide +kernel
theorem dMo_section_10 : decode cMo_section 10 = .ok (.iload 4, 2) := by decide +kernel
theorem dMo_section_12 : decode cMo_section 12 = .ok (.ifCond .lt 9, 3) := by decide +kernel
theorem dMo_section_15 : decode cMo_section 15 = .ok (.iload 4, 2) := by decide +kernel
theorem dMo_section_17 : decode cMo_section 17 = .ok (.iconst 1, 1) := by decide +kernel
theorem dMo_section_18 : decode cMo_section 18 = .ok (.if_icmp .le 7, 3) := by decide +kernel
theorem dMo_section_21 : decode cMo_section 21 = .ok (.iconst 1, 1) := by decide +kernel
theorem dMo_section_22 : decode cMo_section 22 = .ok (.goto 4, 3) := by decide +kernel
theorem dMo_section_25 : decode cMo_section 25 = .ok (.iconst 0, 1) := by decide +kernel
theorem dMo_section_26 : decode cMo_section 26 = .ok (.putfield 93, 3) := by decide +kernel
theorem dMo_section_29 : decode cMo_section 29 = .ok (.aload_n 0, 1) := by decide +kernel
theorem dMo_section_30 : decode cMo_section 30 = .ok (.getfield 93, 3) := by decide +kernel
theorem dMo_section_33 : decode cMo_section 33 = .ok (.ifCond .le 5, 3) := by decide +kernel
theorem dMo_section_36 : decode cMo_section 36 = .ok (.lconst 0, 1) := by decide +kernel
theorem dMo_section_37 : decode cMo_section 37 = .ok (.lreturn, 1) := by decide +kernel
theorem dMo_section_38 : decode cMo_section 38 = .ok (.lconst 0, 1) := by decide +kernel
theorem dMo_section_39 : decode cMo_section 39 = .ok (.lstore 5, 2) := by decide +kernel
theorem dMo_section_41 : decode cMo_section 41 = .ok (.iconst 0, 1) := by decide +kernel
theorem dMo_section_42 : decode cMo_section 42 = .ok (.istore 7, 2) := by decide +kernel
theorem dMo_section_44 : decode cMo_section 44 = .ok (.iload 7, 2) := by decide +kernel
theorem dMo_section_46 : decode cMo_section 46 = .ok (.aload_n 0, 1) := by decide +kernel
theorem dMo_section_47 : decode cMo_section 47 = .ok (.getfield 105, 3) := by decide +kernel
theorem dMo_section_50 : decode cMo_section 50 = .ok (.if_icmp .ge 31, 3) := by decide +kernel
theorem dMo_section_53 : decode cMo_section 53 = .ok (.aload_n 0, 1) := by decide +kernel
theorem dMo_section_54 : decode cMo_section 54 = .ok (.iload_n 1, 1) := by decide +kernel
theorem dMo_section_55 : decode cMo_section 55 = .ok (.lload_n 2, 1) := by decide +kernel
theorem dMo_section_56 : decode cMo_section 56 = .ok (.iload 7, 2) := by decide +kernel
theorem dMo_section_58 : decode cMo_section 58 = .ok (.invokevirtual 202, 3) := by decide +kernel
theorem dMo_section_61 : decode cMo_section 61 = .ok (.ifCond .eq 10, 3) := by decide +kernel
theorem dMo_section_64 : decode cMo_section 64 = .ok (.lload 5, 2) := by decide +kernel
theorem dMo_section_66 : decode cMo_section 66 = .ok (.lconst 1, 1) := by decide +kernel
theorem dMo_section_67 : decode cMo_section 67 = .ok (.ladd, 1) := by decide +kernel
theorem dMo_section_68 : decode cMo_section 68 = .ok (.goto 5, 3) := by decide +kernel
theorem dMo_section_71 : decode cMo_section 71 = .ok (.lload 5, 2) := by decide +kernel
theorem dMo_section_73 : decode cMo_section 73 = .ok (.lstore 5, 2) := by decide +kernel
theorem dMo_section_75 : decode cMo_section 75 = .ok (.iinc 7 1, 3) := by decide +kernel
theorem dMo_section_78 : decode cMo_section 78 = .ok (.goto (-34), 3) := by decide +kernel
theorem dMo_section_81 : decode cMo_section 81 = .ok (.iload 4, 2) := by decide +kernel
theorem dMo_section_83 : decode cMo_section 83 = .ok (.ifCond .ne 6, 3) := by decide +kernel
theorem dMo_section_86 : decode cMo_section 86 = .ok (.lload 5, 2) := by decide +kernel
theorem dMo_section_88 : decode cMo_section 88 = .ok (.lreturn, 1) := by decide +kernel
theorem dMo_section_89 : decode cMo_section 89 = .ok (.lconst 0, 1) := by decide +kernel
theorem dMo_section_90 : decode cMo_section 90 = .ok (.lstore 7, 2) := by decide +kernel
theorem dMo_section_92 : decode cMo_section 92 = .ok (.aload_n 0, 1) := by decide +kernel
theorem dMo_section_93 : decode cMo_section 93 = .ok (.iload_n 1, 1) := by decide +kernel
theorem dMo_section_94 : decode cMo_section 94 = .ok (.invokestatic 170, 3) := by decide +kernel
theorem dMo_section_97 : decode cMo_section 97 = .ok (.ldc2_w 150, 3) := by decide +kernel
theorem dMo_section_100 : decode cMo_section 100 = .ok (.invokevirtual 187, 3) := by decide +kernel
theorem dMo_section_103 : decode cMo_section 103 = .ok (.lstore 9, 2) := by decide +kernel
theorem dMo_section_105 : decode cMo_section 105 = .ok (.lload 9, 2) := by decide +kernel
theorem dMo_section_107 : decode cMo_section 107 = .ok (.ldc2_w 148, 3) := by decide +kernel
theorem dMo_section_110 : decode cMo_section 110 = .ok (.lcmp, 1) := by decide +kernel
theorem dMo_section_111 : decode cMo_section 111 = .ok (.ifCond .ge 55, 3) := by decide +kernel
theorem dMo_section_114 : decode cMo_section 114 = .ok (.aload_n 0, 1) := by decide +kernel
theorem dMo_section_115 : decode cMo_section 115 = .ok (.iload_n 1, 1) := by decide +kernel
theorem dMo_section_116 : decode cMo_section 116 = .ok (.invokestatic 170, 3) := by decide +kernel
theorem dMo_section_119 : decode cMo_section 119 = .ok (.lload 9, 2) := by decide +kernel
theorem dMo_section_121 : decode cMo_section 121 = .ok (.invokevirtual 187, 3) := by decide +kernel
theorem dMo_section_124 : decode cMo_section 124 = .ok (.lstore 11, 2) := by decide +kernel
theorem dMo_section_126 : decode cMo_section 126 = .ok (.lload 11, 2) := by decide +kernel
theorem dMo_section_128 : decode cMo_section 128 = .ok (.ldc2_w 148, 3) := by decide +kernel
theorem dMo_section_131 : decode cMo_section 131 = .ok (.lcmp, 1) := by decide +kernel
theorem dMo_section_132 : decode cMo_section 132 = .ok (.ifCond .ge 23, 3) := by decide +kernel
theorem dMo_section_135 : decode cMo_section 135 = .ok (.lload 7, 2) := by decide +kernel
theorem dMo_section_137 : decode cMo_section 137 = .ok (.lload 11, 2) := by decide +kernel
theorem dMo_section_139 : decode cMo_section 139 = .ok (.lload 9, 2) := by decide +kernel
theorem dMo_section_141 : decode cMo_section 141 = .ok (.lsub, 1) := by decide +kernel
theorem dMo_section_142 : decode cMo_section 142 = .ok (.aload_n 0, 1) := by decide +kernel
theorem dMo_section_143 : decode cMo_section 143 = .ok (.iload_n 1, 1) := by decide +kernel
theorem dMo_section_144 : decode cMo_section 144 = .ok (.lload_n 2, 1) := by decide +kernel
theorem dMo_section_145 : decode cMo_section 145 = .ok (.lload 9, 2) := by decide +kernel
theorem dMo_section_147 : decode cMo_section 147 = .ok (.invokevirtual 206, 3) := by decide +kernel
theorem dMo_section_150 : decode cMo_section 150 = .ok (.lmul, 1) := by decide +kernel
theorem dMo_section_151 : decode cMo_section 151 = .ok (.ladd, 1) := by decide +kernel
theorem dMo_section_152 : decode cMo_section 152 = .ok (.goto 5, 3) := by decide +kernel
theorem dMo_section_155 : decode cMo_section 155 = .ok (.lload 7, 2) := by decide +kernel
theorem dMo_section_157 : decode cMo_section 157 = .ok (.lstore 7, 2) := by decide +kernel
theorem dMo_section_159 : decode cMo_section 159 = .ok (.lload 11, 2) := by decide +kernel
theorem dMo_section_161 : decode cMo_section 161 = .ok (.lstore 9, 2) := by decide +kernel
theorem dMo_section_163 : decode cMo_section 163 = .ok (.goto (-58), 3) := by decide +kernel
theorem dMo_section_166 : decode cMo_section 166 = .ok (.lload 7, 2) := by decide +kernel
theorem dMo_section_168 : decode cMo_section 168 = .ok (.lreturn, 1) := by decide +kernel
theorem dMo_coveredUp_0 : decode cMo_coveredUp 0 = .ok (.aload_n 0, 1) := by decide +kernel
theorem dMo_coveredUp_1 : decode cMo_coveredUp 1 = .ok (.iconst 0, 1) := by decide +kernel
theorem dMo_coveredUp_2 : decode cMo_coveredUp 2 = .ok (.putfield 131, 3) := by decide +kernel
theorem dMo_coveredUp_5 : decode cMo_coveredUp 5 = .ok (.iconst 0, 1) := by decide +kernel
theorem dMo_coveredUp_6 : decode cMo_coveredUp 6 = .ok (.istore 6, 2) := by decide +kernel
theorem dMo_coveredUp_8 : decode cMo_coveredUp 8 = .ok (.iload 6, 2) := by decide +kernel
theorem dMo_coveredUp_10 : decode cMo_coveredUp 10 = .ok (.aload_n 0, 1) := by decide +kernel
theorem dMo_coveredUp_11 : decode cMo_coveredUp 11 = .ok (.getfield 105, 3) := by decide +kernel
theorem dMo_coveredUp_14 : decode cMo_coveredUp 14 = .ok (.if_icmp .ge 113, 3) := by decide +kernel
theorem dMo_coveredUp_17 : decode cMo_coveredUp 17 = .ok (.iconst 3, 1) := by decide +kernel
theorem dMo_coveredUp_18 : decode cMo_coveredUp 18 = .ok (.iload 6, 2) := by decide +kernel
theorem dMo_coveredUp_20 : decode cMo_coveredUp 20 = .ok (.imul, 1) := by decide +kernel
theorem dMo_coveredUp_21 : decode cMo_coveredUp 21 = .ok (.iload_n 1, 1) := by decide +kernel
theorem dMo_coveredUp_22 : decode cMo_coveredUp 22 = .ok (.invokestatic 170, 3) := by decide +kernel
theorem dMo_coveredUp_25 : decode cMo_coveredUp 25 = .ok (.iadd, 1) := by decide +kernel
theorem dMo_coveredUp_26 : decode cMo_coveredUp 26 = .ok (.istore 7, 2) := by decide +kernel
theorem dMo_coveredUp_28 : decode cMo_coveredUp 28 = .ok (.aload_n 0, 1) := by decide +kernel
theorem dMo_coveredUp_29 : decode cMo_coveredUp 29 = .ok (.iload_n 1, 1) := by decide +kernel
theorem dMo_coveredUp_30 : decode cMo_coveredUp 30 = .ok (.lload_n 2, 1) := by decide +kernel
theorem dMo_coveredUp_31 : decode cMo_coveredUp 31 = .ok (.iload 6, 2) := by decide +kernel
theorem dMo_coveredUp_33 : decode cMo_coveredUp 33 = .ok (.invokevirtual 202, 3) := by decide +kernel
theorem dMo_coveredUp_36 : decode cMo_coveredUp 36 = .ok (.ifCond .eq 85, 3) := by decide +kernel
theorem dMo_coveredUp_39 : decode cMo_coveredUp 39 = .ok (.aload_n 0, 1) := by decide +kernel
theorem dMo_coveredUp_40 : decode cMo_coveredUp 40 = .ok (.getfield 7, 3) := by decide +kernel
theorem dMo_coveredUp_43 : decode cMo_coveredUp 43 = .ok (.iload 7, 2) := by decide +kernel
theorem dMo_coveredUp_45 : decode cMo_coveredUp 45 = .ok (.laload, 1) := by decide +kernel
theorem dMo_coveredUp_46 : decode cMo_coveredUp 46 = .ok (.lload 4, 2) := by decide +kernel
theorem dMo_coveredUp_48 : decode cMo_coveredUp 48 = .ok (.lcmp, 1) := by decide +kernel
theorem dMo_coveredUp_49 : decode cMo_coveredUp 49 = .ok (.ifCond .gt 72, 3) := by decide +kernel
theorem dMo_coveredUp_52 : decode cMo_coveredUp 52 = .ok (.aload_n 0, 1) := by decide +kernel
theorem dMo_coveredUp_53 : decode cMo_coveredUp 53 = .ok (.getfield 13, 3) := by decide +kernel
theorem dMo_coveredUp_56 : decode cMo_coveredUp 56 = .ok (.iload 7, 2) := by decide +kernel
theorem dMo_coveredUp_58 : decode cMo_coveredUp 58 = .ok (.laload, 1) := by decide +kernel
theorem dMo_coveredUp_59 : decode cMo_coveredUp 59 = .ok (.lload 4, 2) := by decide +kernel
theorem dMo_coveredUp_61 : decode cMo_coveredUp 61 = .ok (.lcmp, 1) := by decide +kernel
theorem dMo_coveredUp_62 : decode cMo_coveredUp 62 = .ok (.ifCond .le 59, 3) := by decide +kernel
theorem dMo_coveredUp_65 : decode cMo_coveredUp 65 = .ok (.aload_n 0, 1) := by decide +kernel
theorem dMo_coveredUp_66 : decode cMo_coveredUp 66 = .ok (.getfield 47, 3) := by decide +kernel
theorem dMo_coveredUp_69 : decode cMo_coveredUp 69 = .ok (.aload_n 0, 1) := by decide +kernel
theorem dMo_coveredUp_70 : decode cMo_coveredUp 70 = .ok (.getfield 131, 3) := by decide +kernel
theorem dMo_coveredUp_73 : decode cMo_coveredUp 73 = .ok (.aload_n 0, 1) := by decide +kernel
theorem dMo_coveredUp_74 : decode cMo_coveredUp 74 = .ok (.getfield 7, 3) := by decide +kernel
theorem dMo_coveredUp_77 : decode cMo_coveredUp 77 = .ok (.iconst 3, 1) := by decide +kernel
theorem dMo_coveredUp_78 : decode cMo_coveredUp 78 = .ok (.iload 6, 2) := by decide +kernel
theorem dMo_coveredUp_80 : decode cMo_coveredUp 80 = .ok (.imul, 1) := by decide +kernel
theorem dMo_coveredUp_81 : decode cMo_coveredUp 81 = .ok (.iload_n 1, 1) := by decide +kernel
theorem dMo_coveredUp_82 : decode cMo_coveredUp 82 = .ok (.invokestatic 173, 3) := by decide +kernel
theorem dMo_coveredUp_85 : decode cMo_coveredUp 85 = .ok (.iadd, 1) := by decide +kernel
theorem dMo_coveredUp_86 : decode cMo_coveredUp 86 = .ok (.laload, 1) := by decide +kernel
theorem dMo_coveredUp_87 : decode cMo_coveredUp 87 = .ok (.lastore, 1) := by decide +kernel
theorem dMo_coveredUp_88 : decode cMo_coveredUp 88 = .ok (.aload_n 0, 1) := by decide +kernel
theorem dMo_coveredUp_89 : decode cMo_coveredUp 89 = .ok (.getfield 50, 3) := by decide +kernel
theorem dMo_coveredUp_92 : decode cMo_coveredUp 92 = .ok (.aload_n 0, 1) := by decide +kernel
theorem dMo_coveredUp_93 : decode cMo_coveredUp 93 = .ok (.getfield 131, 3) := by decide +kernel
theorem dMo_coveredUp_96 : decode cMo_coveredUp 96 = .ok (.aload_n 0, 1) := by decide +kernel
theorem dMo_coveredUp_97 : decode cMo_coveredUp 97 = .ok (.getfield 13, 3) := by decide +kernel
theorem dMo_coveredUp_100 : decode cMo_coveredUp 100 = .ok (.iconst 3, 1) := by decide +kernel
theorem dMo_coveredUp_101 : decode cMo_coveredUp 101 = .ok (.iload 6, 2) := by decide +kernel
theorem dMo_coveredUp_103 : decode cMo_coveredUp 103 = .ok (.imul, 1) := by decide +kernel
theorem dMo_coveredUp_104 : decode cMo_coveredUp 104 = .ok (.iload_n 1, 1) := by decide +kernel
theorem dMo_coveredUp_105 : decode cMo_coveredUp 105 = .ok (.invokestatic 173, 3) := by decide +kernel
theorem dMo_coveredUp_108 : decode cMo_coveredUp 108 = .ok (.iadd, 1) := by decide +kernel
theorem dMo_coveredUp_109 : decode cMo_coveredUp 109 = .ok (.laload, 1) := by decide +kernel
theorem dMo_coveredUp_110 : decode cMo_coveredUp 110 = .ok (.lastore, 1) := by decide +kernel
theorem dMo_coveredUp_111 : decode cMo_coveredUp 111 = .ok (.aload_n 0, 1) := by decide +kernel
theorem dMo_coveredUp_112 : decode cMo_coveredUp 112 = .ok (.dup, 1) := by decide +kernel
theorem dMo_coveredUp_113 : decode cMo_coveredUp 113 = .ok (.getfield 131, 3) := by decide +kernel
theorem dMo_coveredUp_116 : decode cMo_coveredUp 116 = .ok (.iconst 1, 1) := by decide +kernel
theorem dMo_coveredUp_117 : decode cMo_coveredUp 117 = .ok (.iadd, 1) := by decide +kernel
theorem dMo_coveredUp_118 : decode cMo_coveredUp 118 = .ok (.putfield 131, 3) := by decide +kernel
theorem dMo_coveredUp_121 : decode cMo_coveredUp 121 = .ok (.iinc 6 1, 3) := by decide +kernel
theorem dMo_coveredUp_124 : decode cMo_coveredUp 124 = .ok (.goto (-116), 3) := by decide +kernel
theorem dMo_coveredUp_127 : decode cMo_coveredUp 127 = .ok (.lconst 0, 1) := by decide +kernel
theorem dMo_coveredUp_128 : decode cMo_coveredUp 128 = .ok (.lstore 6, 2) := by decide +kernel
theorem dMo_coveredUp_130 : decode cMo_coveredUp 130 = .ok (.aload_n 0, 1) := by decide +kernel
theorem dMo_coveredUp_131 : decode cMo_coveredUp 131 = .ok (.ldc2_w 150, 3) := by decide +kernel
theorem dMo_coveredUp_134 : decode cMo_coveredUp 134 = .ok (.invokevirtual 152, 3) := by decide +kernel
theorem dMo_coveredUp_137 : decode cMo_coveredUp 137 = .ok (.lstore 8, 2) := by decide +kernel
theorem dMo_coveredUp_139 : decode cMo_coveredUp 139 = .ok (.lload 8, 2) := by decide +kernel
theorem dMo_coveredUp_141 : decode cMo_coveredUp 141 = .ok (.ldc2_w 148, 3) := by decide +kernel
theorem dMo_coveredUp_144 : decode cMo_coveredUp 144 = .ok (.lcmp, 1) := by decide +kernel
theorem dMo_coveredUp_145 : decode cMo_coveredUp 145 = .ok (.ifCond .ge 32, 3) := by decide +kernel
theorem dMo_coveredUp_148 : decode cMo_coveredUp 148 = .ok (.aload_n 0, 1) := by decide +kernel
theorem dMo_coveredUp_149 : decode cMo_coveredUp 149 = .ok (.lload 8, 2) := by decide +kernel
theorem dMo_coveredUp_151 : decode cMo_coveredUp 151 = .ok (.invokevirtual 156, 3) := by decide +kernel
theorem dMo_coveredUp_154 : decode cMo_coveredUp 154 = .ok (.lstore 10, 2) := by decide +kernel
theorem dMo_coveredUp_156 : decode cMo_coveredUp 156 = .ok (.lload 6, 2) := by decide +kernel
theorem dMo_coveredUp_158 : decode cMo_coveredUp 158 = .ok (.lload 10, 2) := by decide +kernel
theorem dMo_coveredUp_160 : decode cMo_coveredUp 160 = .ok (.lload 8, 2) := by decide +kernel
theorem dMo_coveredUp_162 : decode cMo_coveredUp 162 = .ok (.lsub, 1) := by decide +kernel
theorem dMo_coveredUp_163 : decode cMo_coveredUp 163 = .ok (.ladd, 1) := by decide +kernel
theorem dMo_coveredUp_164 : decode cMo_coveredUp 164 = .ok (.lstore 6, 2) := by decide +kernel
theorem dMo_coveredUp_166 : decode cMo_coveredUp 166 = .ok (.aload_n 0, 1) := by decide +kernel
theorem dMo_coveredUp_167 : decode cMo_coveredUp 167 = .ok (.lload 10, 2) := by decide +kernel
theorem dMo_coveredUp_169 : decode cMo_coveredUp 169 = .ok (.invokevirtual 152, 3) := by decide +kernel
theorem dMo_coveredUp_172 : decode cMo_coveredUp 172 = .ok (.lstore 8, 2) := by decide +kernel
theorem dMo_coveredUp_174 : decode cMo_coveredUp 174 = .ok (.goto (-35), 3) := by decide +kernel
theorem dMo_coveredUp_177 : decode cMo_coveredUp 177 = .ok (.lload 6, 2) := by decide +kernel
theorem dMo_coveredUp_179 : decode cMo_coveredUp 179 = .ok (.lreturn, 1) := by decide +kernel
set_option maxRecDepth 100000 in
theorem kMo_202 : inT (kV "PartDrawingsModel" 202 yMo_isCut cMo_isCut 6 (some .boolean)) := gW_l [1445, 1447, 35, 61, 1448] rfl (by decide +kernel)
set_option maxRecDepth 100000 in
theorem kMo_206 : inT (kV "PartDrawingsModel" 206 yMo_coveredUp cMo_coveredUp 12 (some .long)) := gW_l [1449, 1451, 36, 61, 1452] rfl (by decide +kernel)
set_option maxHeartbeats 4000000 in
set_option maxRecDepth 100000 in
theorem m_coveredUp (l : Launch) (D : va_G) (cI cG cL cB : ClassId) (m0 : Nat) (cd : Int) (wi : Int) (hi : Int) (bn : Int) (af : Nat) (at_ : Nat) (dr : Int) (sz : Int) (au : Nat) (ap : Nat) (ab : Nat) (ae : Nat) (ah : Nat) (kp : Int) (ks : Int) (ku : Nat) (kq : Nat) (kb : Nat) (ke : Nat) (kh : Nat) (als : Int) (gf : Nat) (gt : Nat) (ses : Int) (sf : Nat) (st : Nat) (les : Int) (ef : Nat) (et : Nat) (mes : Int) (xa : Nat) (xf : Nat) (xt : Nat) (xr : Nat) (lb : Nat) (lbs : Int) (so : Nat) (From : Int → Int) (To : Int → Int) (AFr : Int → Int) (ATo : Int → Int) (vw : Int) (q : Int) (sp : Int) (bFrom : ∀ j : Int, I64 (From j)) (bTo : ∀ j : Int, I64 (To j)) (bAFr : ∀ j : Int, I64 (AFr j)) (bATo : ∀ j : Int, I64 (ATo j)) (hbn0 : 0 ≤ bn) (hbn1 : bn ≤ 24) (hMB : moB bn From To) (hv0 : 0 ≤ vw) (hv1 : vw < 6) (hJq : I64 q) (hJsp : I64 sp) : Cl l yMo_coveredUp cMo_coveredUp 12 (some .long) 2 0 0 D zCl (zT cI cG cL cB) [.ref m0, .int (zI vw), .long (zL q), .long (zL sp)] [(m0, .inr (10, [.int (zI cd), .long (zL wi), .long (zL hi), .int (zI bn), .ref af, .ref at_, .int (zI dr), .int (zI sz), .ref au, .ref ap, .ref ab, .ref ae, .ref ah, .int (zI kp), .int (zI ks), .ref ku, .ref kq, .ref kb, .ref ke, .ref kh, .int (zI als), .ref gf, .ref gt, .int (zI ses), .ref sf, .ref st, .int (zI les), .ref ef, .ref et, .int (zI mes), .ref xa, .ref xf, .ref xt, .ref xr, .ref lb, .int (zI lbs), .ref so])), (af, .inl (cL, 72, .inr (.inl (fL From)))), (at_, .inl (cL, 72, .inr (.inl (fL To)))), (gf, .inl (cL, 200, .inr (.inl (fL AFr)))), (gt, .inl (cL, 200, .inr (.inl (fL ATo))))] (fun x w => ∃ r2 : Int, ∃ als2 : Int, ∃ AFr2 : Int → Int, ∃ ATo2 : Int → Int, (∀ j : Int, I64 (AFr2 j)) ∧ (∀ j : Int, I64 (ATo2 j)) ∧ (r2 = colU From To vw q bn sp) ∧ x = zL r2 ∧ w = [(m0, .inr (10, [.int (zI cd), .long (zL wi), .long (zL hi), .int (zI bn), .ref af, .ref at_, .int (zI dr), .int (zI sz), .ref au, .ref ap, .ref ab, .ref ae, .ref ah, .int (zI kp), .int (zI ks), .ref ku, .ref kq, .ref kb, .ref ke, .ref kh, .int (zI als2), .ref gf, .ref gt, .int (zI ses), .ref sf, .ref st, .int (zI les), .ref ef, .ref et, .int (zI mes), .ref xa, .ref xf, .ref xt, .ref xr, .ref lb, .int (zI lbs), .ref so])), (af, .inl (cL, 72, .inr (.inl (fL From)))), (at_, .inl (cL, 72, .inr (.inl (fL To)))), (gf, .inl (cL, 200, .inr (.inl (fL AFr2)))), (gt, .inl (cL, 200, .inr (.inl (fL ATo2))))]) := by
  refine zBl (by decide) (Nat.le_of_ble_eq_true rfl) ?_
  intro p e s m args below meth c ls A H locs Q C hin hl hW hQ
  have hl : lv_has ls 12 [(0, .ref m0), (1, .int (zI vw)), (2, .long (zL q)), (4, .long (zL sp))] := hl
  have hax := acx_in (dax vw)
  have hux := upx_in (dax vw)
  refine lv_aload_n C.1 C.2.1 dMo_coveredUp_0 rfl (lv_at hl 0 rfl) ?_
  refine lv_iconst (v := zI 0) C.1 C.2.1 dMo_coveredUp_1 (by decide) ?_
  refine zput C hW 0 20 tyMo tyMo_ok nmMo rfl rfl inMo (by decide) flMo_131 rfl rfl rfl rfl (Nat.le_of_ble_eq_true rfl) dMo_coveredUp_2 (fun H locs hW => ?_)
  have hW : zw D zCl A s [(m0, .inr (10, [.int (zI cd), .long (zL wi), .long (zL hi), .int (zI bn), .ref af, .ref at_, .int (zI dr), .int (zI sz), .ref au, .ref ap, .ref ab, .ref ae, .ref ah, .int (zI kp), .int (zI ks), .ref ku, .ref kq, .ref kb, .ref ke, .ref kh, .int (zI 0), .ref gf, .ref gt, .int (zI ses), .ref sf, .ref st, .int (zI les), .ref ef, .ref et, .int (zI mes), .ref xa, .ref xf, .ref xt, .ref xr, .ref lb, .int (zI lbs), .ref so])), (af, .inl (cL, 72, .inr (.inl (fL From)))), (at_, .inl (cL, 72, .inr (.inl (fL To)))), (gf, .inl (cL, 200, .inr (.inl (fL AFr)))), (gt, .inl (cL, 200, .inr (.inl (fL ATo))))] H locs := hW
  refine lv_iconst (v := zI 0) C.1 C.2.1 dMo_coveredUp_5 (by decide) ?_
  refine lv_istore (lv' := [(6, .int (zI 0)), (0, .ref m0), (1, .int (zI vw)), (2, .long (zL q)), (4, .long (zL sp))]) C.1 C.2.1 dMo_coveredUp_6 hl (by decide) rfl (fun ls hl => ?_)
  have L8 : ∀ (N : Nat) (b : Int) (az : Int) (Ax : Int → Int) (Cx : Int → Int), (bn - b).toNat < N → (0 ≤ b) → (b ≤ bn) → (0 ≤ az ∧ az ≤ b) → (∀ j : Int, I64 (Ax j)) → (∀ j : Int, I64 (Cx j)) → (neS Ax Cx az) → (inB Ax Cx az) → (∀ t : Int, LC Ax Cx az t ↔ cvU From To vw q sp b t) → ∀ (ls : Array Slot) (H : Heap) (locs : List Loc), lv_has ls 12 [(6, .int (zI b)), (0, .ref m0), (1, .int (zI vw)), (2, .long (zL q)), (4, .long (zL sp))] → zw D zCl A s [(m0, .inr (10, [.int (zI cd), .long (zL wi), .long (zL hi), .int (zI bn), .ref af, .ref at_, .int (zI dr), .int (zI sz), .ref au, .ref ap, .ref ab, .ref ae, .ref ah, .int (zI kp), .int (zI ks), .ref ku, .ref kq, .ref kb, .ref ke, .ref kh, .int (zI az), .ref gf, .ref gt, .int (zI ses), .ref sf, .ref st, .int (zI les), .ref ef, .ref et, .int (zI mes), .ref xa, .ref xf, .ref xt, .ref xr, .ref lb, .int (zI lbs), .ref so])), (af, .inl (cL, 72, .inr (.inl (fL From)))), (at_, .inl (cL, 72, .inr (.inl (fL To)))), (gf, .inl (cL, 200, .inr (.inl (fL Ax)))), (gt, .inl (cL, 200, .inr (.inl (fL Cx))))] H locs → W p l e (zr 2 0 0) s m args below meth c H locs 0 0 Q (F0 m 8 ls []) := by
    intro N
    induction N with
    | zero => intro b az Ax Cx hm; exact absurd hm (Nat.not_lt_zero _)
    | succ N ih8 =>
      intro b az Ax Cx hm8 hb0 hb1 haz hAb hCb hneA hiA hE ls H locs hl hW
      refine lv_iload C.1 C.2.1 dMo_coveredUp_8 (lv_at hl 0 rfl) ?_
      refine lv_aload_n C.1 C.2.1 dMo_coveredUp_10 rfl (lv_at hl 1 rfl) ?_
      refine zget C hW 0 3 rfl rfl inMo (by decide) flMo_105 rfl dMo_coveredUp_11 ?_
      refine zicmp_ge (tgt := 127) C (by omega) (by omega) dMo_coveredUp_14 (by decide) (fun c14 => ?_) (fun c14 => ?_)
      · have hBA : ∀ k : Int, 0 ≤ k → k < az → Cx k ≤ 10000000 := fun k h0 h1 => (by have := hiA k h0 h1; omega)
        refine lv_lconst (v := zL 0) C.1 C.2.1 dMo_coveredUp_127 (by decide) ?_
        refine lv_lstore (lv' := [(6, .long (zL 0)), (0, .ref m0), (1, .int (zI vw)), (2, .long (zL q)), (4, .long (zL sp))]) C.1 C.2.1 dMo_coveredUp_128 hl (by decide) rfl (fun ls hl => ?_)
        refine lv_aload_n C.1 C.2.1 dMo_coveredUp_130 rfl (lv_at hl 1 rfl) ?_
        refine zldc2 C kcMo_150 dMo_coveredUp_131 ?_
        refine zcalll (wr := [(af, .inl (cL, 72, .inr (.inl (fL From)))), (at_, .inl (cL, 72, .inr (.inl (fL To)))), (gt, .inl (cL, 200, .inr (.inl (fL Cx))))]) C hW [0, 3] [1, 2, 4] rfl rfl (by decide) (by decide) (zRunV (k := 1) (As := [.long (zL (-10000000))]) (rest := []) C hW (m_nextEdge l D cI cG cL cB m0 cd wi hi bn af at_ dr sz au ap ab ae ah kp ks ku kq kb ke kh az gf gt ses sf st les ef et mes xa xf xt xr lb lbs so Ax (-10000000) hAb (by omega) (by omega) (by omega) H.size) [0, 3] rfl (by decide) kMo_152 (by decide +kernel) ⟨by decide, by decide⟩ 0 rfl rfl rfl hl.1 (Nat.le_of_ble_eq_true rfl) dMo_coveredUp_134 ⟨by first | decide | omega, by first | decide | omega⟩) (fun x w H locs hq hW => ?_)
        obtain ⟨rfl, rfl⟩ := hq
        have hW : zw D zCl A s [(af, .inl (cL, 72, .inr (.inl (fL From)))), (at_, .inl (cL, 72, .inr (.inl (fL To)))), (gt, .inl (cL, 200, .inr (.inl (fL Cx)))), (m0, .inr (10, [.int (zI cd), .long (zL wi), .long (zL hi), .int (zI bn), .ref af, .ref at_, .int (zI dr), .int (zI sz), .ref au, .ref ap, .ref ab, .ref ae, .ref ah, .int (zI kp), .int (zI ks), .ref ku, .ref kq, .ref kb, .ref ke, .ref kh, .int (zI az), .ref gf, .ref gt, .int (zI ses), .ref sf, .ref st, .int (zI les), .ref ef, .ref et, .int (zI mes), .ref xa, .ref xf, .ref xt, .ref xr, .ref lb, .int (zI lbs), .ref so])), (gf, .inl (cL, 200, .inr (.inl (fL Ax))))] H locs := hW
        have hsA := suA (r := nxZ Ax az (-10000000) 10000000) haz.1 hneA hiA rfl
        refine lv_lstore (lv' := [(8, .long (zL (nxZ Ax az (-10000000) 10000000))), (6, .long (zL 0)), (0, .ref m0), (1, .int (zI vw)), (2, .long (zL q)), (4, .long (zL sp))]) C.1 C.2.1 dMo_coveredUp_137 hl (by decide) rfl (fun ls hl => ?_)
        have L139 : ∀ (N : Nat) (q1 : Int) (sm : Int), (10000000 - q1).toNat < N → (-10000000 < q1 ∧ q1 ≤ 10000000) → (sm = sumR (ind (LC Ax Cx az)) (-10000000) q1) → ∀ (ls : Array Slot) (H : Heap) (locs : List Loc), lv_has ls 12 [(8, .long (zL q1)), (6, .long (zL sm)), (0, .ref m0), (1, .int (zI vw)), (2, .long (zL q)), (4, .long (zL sp))] → zw D zCl A s [(af, .inl (cL, 72, .inr (.inl (fL From)))), (at_, .inl (cL, 72, .inr (.inl (fL To)))), (gt, .inl (cL, 200, .inr (.inl (fL Cx)))), (m0, .inr (10, [.int (zI cd), .long (zL wi), .long (zL hi), .int (zI bn), .ref af, .ref at_, .int (zI dr), .int (zI sz), .ref au, .ref ap, .ref ab, .ref ae, .ref ah, .int (zI kp), .int (zI ks), .ref ku, .ref kq, .ref kb, .ref ke, .ref kh, .int (zI az), .ref gf, .ref gt, .int (zI ses), .ref sf, .ref st, .int (zI les), .ref ef, .ref et, .int (zI mes), .ref xa, .ref xf, .ref xt, .ref xr, .ref lb, .int (zI lbs), .ref so])), (gf, .inl (cL, 200, .inr (.inl (fL Ax))))] H locs → W p l e (zr 2 0 0) s m args below meth c H locs 0 0 Q (F0 m 139 ls []) := by
          intro N
          induction N with
          | zero => intro q1 sm hm; exact absurd hm (Nat.not_lt_zero _)
          | succ N ih139 =>
            intro q1 sm hm139 hq hsm ls H locs hl hW
            refine lv_lload C.1 C.2.1 dMo_coveredUp_139 (lv_at hl 0 rfl) ?_
            refine zldc2 C kcMo_148 dMo_coveredUp_141 ?_
            refine zlcmp_ge (tgt := 177) C (by omega) (by omega) dMo_coveredUp_144 dMo_coveredUp_145 (by decide) (fun c144 => ?_) (fun c144 => ?_)
            · refine lv_lload C.1 C.2.1 dMo_coveredUp_177 (lv_at hl 1 rfl) ?_
              have hW : zw D zCl A s [(m0, .inr (10, [.int (zI cd), .long (zL wi), .long (zL hi), .int (zI bn), .ref af, .ref at_, .int (zI dr), .int (zI sz), .ref au, .ref ap, .ref ab, .ref ae, .ref ah, .int (zI kp), .int (zI ks), .ref ku, .ref kq, .ref kb, .ref ke, .ref kh, .int (zI az), .ref gf, .ref gt, .int (zI ses), .ref sf, .ref st, .int (zI les), .ref ef, .ref et, .int (zI mes), .ref xa, .ref xf, .ref xt, .ref xr, .ref lb, .int (zI lbs), .ref so])), (af, .inl (cL, 72, .inr (.inl (fL From)))), (at_, .inl (cL, 72, .inr (.inl (fL To)))), (gf, .inl (cL, 200, .inr (.inl (fL Ax)))), (gt, .inl (cL, 200, .inr (.inl (fL Cx))))] H locs := zwp hW [3, 0, 1, 4, 2] rfl (by decide)
              exact hQ (zL sm) _ H locs _ _ _ ls hW ⟨sm, az, Ax, Cx, hAb, hCb, (by rw [hsm, show q1 = 10000000 by omega]; exact sumR_e (fun t => ind_e (by rw [hE t, show b = bn by omega])) _ _), rfl, rfl⟩ (by omega) (by omega) dMo_coveredUp_179
            · refine lv_aload_n C.1 C.2.1 dMo_coveredUp_148 rfl (lv_at hl 2 rfl) ?_
              refine lv_lload C.1 C.2.1 dMo_coveredUp_149 (lv_at hl 0 rfl) ?_
              refine zcalll (wr := [(af, .inl (cL, 72, .inr (.inl (fL From)))), (at_, .inl (cL, 72, .inr (.inl (fL To))))]) C hW [3, 4, 2] [0, 1] rfl rfl (by decide) (by decide) (zRunV (k := 1) (As := [.long (zL q1)]) (rest := []) C hW (m_edgesUntil l D cI cG cL cB m0 cd wi hi bn af at_ dr sz au ap ab ae ah kp ks ku kq kb ke kh az gf gt ses sf st les ef et mes xa xf xt xr lb lbs so Ax Cx q1 hAb hCb (by omega) (by omega) hBA (by omega) H.size) [3, 4, 2] rfl (by decide) kMo_156 (by decide +kernel) ⟨by decide, by decide⟩ 3 rfl rfl rfl hl.1 (Nat.le_of_ble_eq_true rfl) dMo_coveredUp_151 ⟨by first | decide | omega, by first | decide | omega⟩) (fun x w H locs hq hW => ?_)
              obtain ⟨r21, hf2, rfl, rfl⟩ := hq
              have hW : zw D zCl A s [(af, .inl (cL, 72, .inr (.inl (fL From)))), (at_, .inl (cL, 72, .inr (.inl (fL To)))), (m0, .inr (10, [.int (zI cd), .long (zL wi), .long (zL hi), .int (zI bn), .ref af, .ref at_, .int (zI dr), .int (zI sz), .ref au, .ref ap, .ref ab, .ref ae, .ref ah, .int (zI kp), .int (zI ks), .ref ku, .ref kq, .ref kb, .ref ke, .ref kh, .int (zI az), .ref gf, .ref gt, .int (zI ses), .ref sf, .ref st, .int (zI les), .ref ef, .ref et, .int (zI mes), .ref xa, .ref xf, .ref xt, .ref xr, .ref lb, .int (zI lbs), .ref so])), (gf, .inl (cL, 200, .inr (.inl (fL Ax)))), (gt, .inl (cL, 200, .inr (.inl (fL Cx))))] H locs := hW
              have L154 : ∀ (fa : Int), (untP Ax Cx az q1 fa) → ∀ (ls : Array Slot) (H : Heap) (locs : List Loc), lv_has ls 12 [(8, .long (zL q1)), (6, .long (zL sm)), (0, .ref m0), (1, .int (zI vw)), (2, .long (zL q)), (4, .long (zL sp))] → zw D zCl A s [(af, .inl (cL, 72, .inr (.inl (fL From)))), (at_, .inl (cL, 72, .inr (.inl (fL To)))), (m0, .inr (10, [.int (zI cd), .long (zL wi), .long (zL hi), .int (zI bn), .ref af, .ref at_, .int (zI dr), .int (zI sz), .ref au, .ref ap, .ref ab, .ref ae, .ref ah, .int (zI kp), .int (zI ks), .ref ku, .ref kq, .ref kb, .ref ke, .ref kh, .int (zI az), .ref gf, .ref gt, .int (zI ses), .ref sf, .ref st, .int (zI les), .ref ef, .ref et, .int (zI mes), .ref xa, .ref xf, .ref xt, .ref xr, .ref lb, .int (zI lbs), .ref so])), (gf, .inl (cL, 200, .inr (.inl (fL Ax)))), (gt, .inl (cL, 200, .inr (.inl (fL Cx))))] H locs → W p l e (zr 2 0 0) s m args below meth c H locs 0 0 Q (F0 m 154 ls [.long (zL fa)]) := by
                intro fa hfu ls H locs hl hW
                refine lv_lstore (lv' := [(10, .long (zL fa)), (8, .long (zL q1)), (6, .long (zL sm)), (0, .ref m0), (1, .int (zI vw)), (2, .long (zL q)), (4, .long (zL sp))]) C.1 C.2.1 dMo_coveredUp_154 hl (by decide) rfl (fun ls hl => ?_)
                refine lv_lload C.1 C.2.1 dMo_coveredUp_156 (lv_at hl 2 rfl) ?_
                refine lv_lload C.1 C.2.1 dMo_coveredUp_158 (lv_at hl 0 rfl) ?_
                refine lv_lload C.1 C.2.1 dMo_coveredUp_160 (lv_at hl 1 rfl) ?_
                refine zlsub C dMo_coveredUp_162 ?_
                refine zladd C dMo_coveredUp_163 ?_
                refine lv_lstore (lv' := [(6, .long (zL (sm + (fa - q1)))), (10, .long (zL fa)), (8, .long (zL q1)), (0, .ref m0), (1, .int (zI vw)), (2, .long (zL q)), (4, .long (zL sp))]) C.1 C.2.1 dMo_coveredUp_164 hl (by decide) rfl (fun ls hl => ?_)
                have hfb := unt_b hfu hiA
                have hfl := hfu.1
                refine lv_aload_n C.1 C.2.1 dMo_coveredUp_166 rfl (lv_at hl 3 rfl) ?_
                refine lv_lload C.1 C.2.1 dMo_coveredUp_167 (lv_at hl 1 rfl) ?_
                refine zcalll (wr := [(af, .inl (cL, 72, .inr (.inl (fL From)))), (at_, .inl (cL, 72, .inr (.inl (fL To)))), (gt, .inl (cL, 200, .inr (.inl (fL Cx))))]) C hW [2, 3] [0, 1, 4] rfl rfl (by decide) (by decide) (zRunV (k := 1) (As := [.long (zL fa)]) (rest := []) C hW (m_nextEdge l D cI cG cL cB m0 cd wi hi bn af at_ dr sz au ap ab ae ah kp ks ku kq kb ke kh az gf gt ses sf st les ef et mes xa xf xt xr lb lbs so Ax fa hAb (by omega) (by omega) (by omega) H.size) [2, 3] rfl (by decide) kMo_152 (by decide +kernel) ⟨by decide, by decide⟩ 2 rfl rfl rfl hl.1 (Nat.le_of_ble_eq_true rfl) dMo_coveredUp_169 ⟨by first | decide | omega, by first | decide | omega⟩) (fun x w H locs hq hW => ?_)
                obtain ⟨rfl, rfl⟩ := hq
                have hW : zw D zCl A s [(af, .inl (cL, 72, .inr (.inl (fL From)))), (at_, .inl (cL, 72, .inr (.inl (fL To)))), (gt, .inl (cL, 200, .inr (.inl (fL Cx)))), (m0, .inr (10, [.int (zI cd), .long (zL wi), .long (zL hi), .int (zI bn), .ref af, .ref at_, .int (zI dr), .int (zI sz), .ref au, .ref ap, .ref ab, .ref ae, .ref ah, .int (zI kp), .int (zI ks), .ref ku, .ref kq, .ref kb, .ref ke, .ref kh, .int (zI az), .ref gf, .ref gt, .int (zI ses), .ref sf, .ref st, .int (zI les), .ref ef, .ref et, .int (zI mes), .ref xa, .ref xf, .ref xt, .ref xr, .ref lb, .int (zI lbs), .ref so])), (gf, .inl (cL, 200, .inr (.inl (fL Ax))))] H locs := hW
                have hsB := suB (r := nxZ Ax az fa 10000000) haz.1 hneA hiA (by omega) (by omega) hfu rfl hsm
                refine lv_lstore (lv' := [(8, .long (zL (nxZ Ax az fa 10000000))), (6, .long (zL (sm + (fa - q1)))), (10, .long (zL fa)), (0, .ref m0), (1, .int (zI vw)), (2, .long (zL q)), (4, .long (zL sp))]) C.1 C.2.1 dMo_coveredUp_172 hl (by decide) rfl (fun ls hl => ?_)
                refine lv_goto (tgt := 139) C.1 C.2.1 dMo_coveredUp_174 (by decide) ?_
                exact ih139 (nxZ Ax az fa 10000000) (sm + (fa - q1)) (by have := hsB.2.1; omega) ⟨by have := hsB.2.1; omega, hsB.2.2.2.1⟩ hsB.2.2.2.2 ls H locs (lv_sub hl [0, 1, 3, 4, 5, 6] rfl) hW
              exact L154 r21 hf2 ls H locs (lv_sub hl [0, 1, 2, 3, 4, 5] rfl) hW
        exact L139 _ (nxZ Ax az (-10000000) 10000000) 0 (Nat.lt_succ_self _) ⟨hsA.1, hsA.2.1⟩ hsA.2.2.symm ls H locs (lv_sub hl [0, 1, 2, 3, 4, 5] rfl) hW
      · have hm1 := hMB (3 * b + acx (dax vw)) (by omega) (by omega)
        have hm2 := hMB (3 * b + upx (dax vw)) (by omega) (by omega)
        refine lv_iconst (v := zI 3) C.1 C.2.1 dMo_coveredUp_17 (by decide) ?_
        refine lv_iload C.1 C.2.1 dMo_coveredUp_18 (lv_at hl 0 rfl) ?_
        refine zimul C dMo_coveredUp_20 ?_
        refine lv_iload_n C.1 C.2.1 dMo_coveredUp_21 rfl (lv_at hl 2 rfl) ?_
        refine zcalli (wr := [(m0, .inr (10, [.int (zI cd), .long (zL wi), .long (zL hi), .int (zI bn), .ref af, .ref at_, .int (zI dr), .int (zI sz), .ref au, .ref ap, .ref ab, .ref ae, .ref ah, .int (zI kp), .int (zI ks), .ref ku, .ref kq, .ref kb, .ref ke, .ref kh, .int (zI az), .ref gf, .ref gt, .int (zI ses), .ref sf, .ref st, .int (zI les), .ref ef, .ref et, .int (zI mes), .ref xa, .ref xf, .ref xt, .ref xr, .ref lb, .int (zI lbs), .ref so])), (af, .inl (cL, 72, .inr (.inl (fL From)))), (at_, .inl (cL, 72, .inr (.inl (fL To)))), (gf, .inl (cL, 200, .inr (.inl (fL Ax)))), (gt, .inl (cL, 200, .inr (.inl (fL Cx))))]) C hW [] [0, 1, 2, 3, 4] rfl rfl (by decide) (by decide) (zRunS (k := 1) (As := [.int (zI vw)]) (rest := [.int (zI (3 * b))]) C hW (m_acrossOf l D cI cG cL cB vw (by omega) H.size) [] rfl (by decide) kMo_170 (by decide +kernel) ⟨by decide, by decide⟩ rfl hl.1 (Nat.le_of_ble_eq_true rfl) dMo_coveredUp_22 ⟨by first | decide | omega, by first | decide | omega⟩) (fun x w H locs hq hW => ?_)
        obtain ⟨rfl, rfl⟩ := hq
        have hW : zw D zCl A s [(m0, .inr (10, [.int (zI cd), .long (zL wi), .long (zL hi), .int (zI bn), .ref af, .ref at_, .int (zI dr), .int (zI sz), .ref au, .ref ap, .ref ab, .ref ae, .ref ah, .int (zI kp), .int (zI ks), .ref ku, .ref kq, .ref kb, .ref ke, .ref kh, .int (zI az), .ref gf, .ref gt, .int (zI ses), .ref sf, .ref st, .int (zI les), .ref ef, .ref et, .int (zI mes), .ref xa, .ref xf, .ref xt, .ref xr, .ref lb, .int (zI lbs), .ref so])), (af, .inl (cL, 72, .inr (.inl (fL From)))), (at_, .inl (cL, 72, .inr (.inl (fL To)))), (gf, .inl (cL, 200, .inr (.inl (fL Ax)))), (gt, .inl (cL, 200, .inr (.inl (fL Cx))))] H locs := hW
        have hr3 := acx_in (dax vw)
        refine ziadd C dMo_coveredUp_25 ?_
        refine lv_istore (lv' := [(7, .int (zI ((3 * b) + acx (dax vw)))), (6, .int (zI b)), (0, .ref m0), (1, .int (zI vw)), (2, .long (zL q)), (4, .long (zL sp))]) C.1 C.2.1 dMo_coveredUp_26 hl (by decide) rfl (fun ls hl => ?_)
        refine lv_aload_n C.1 C.2.1 dMo_coveredUp_28 rfl (lv_at hl 2 rfl) ?_
        refine lv_iload_n C.1 C.2.1 dMo_coveredUp_29 rfl (lv_at hl 3 rfl) ?_
        refine lv_lload_n C.1 C.2.1 dMo_coveredUp_30 rfl (lv_at hl 4 rfl) ?_
        refine lv_iload C.1 C.2.1 dMo_coveredUp_31 (lv_at hl 1 rfl) ?_
        refine zcalli (wr := [(gf, .inl (cL, 200, .inr (.inl (fL Ax)))), (gt, .inl (cL, 200, .inr (.inl (fL Cx))))]) C hW [0, 1, 2] [3, 4] rfl rfl (by decide) (by decide) (zRunV (k := 3) (As := [.int (zI vw), .long (zL q), .int (zI b)]) (rest := []) C hW (m_isCut l D cI cG cL cB m0 cd wi hi bn af at_ dr sz au ap ab ae ah kp ks ku kq kb ke kh az gf gt ses sf st les ef et mes xa xf xt xr lb lbs so From To vw q b bFrom bTo (by omega) (by omega) (by omega) (by omega) (by omega) (by omega) (by omega) (by omega) H.size) [0, 1, 2] rfl (by decide) kMo_202 (by decide +kernel) ⟨by decide, by decide⟩ 0 rfl rfl rfl hl.1 (Nat.le_of_ble_eq_true rfl) dMo_coveredUp_33 ⟨by first | decide | omega, by first | decide | omega⟩) (fun x w H locs hq hW => ?_)
        obtain ⟨rfl, rfl⟩ := hq
        have hW : zw D zCl A s [(gf, .inl (cL, 200, .inr (.inl (fL Ax)))), (gt, .inl (cL, 200, .inr (.inl (fL Cx)))), (m0, .inr (10, [.int (zI cd), .long (zL wi), .long (zL hi), .int (zI bn), .ref af, .ref at_, .int (zI dr), .int (zI sz), .ref au, .ref ap, .ref ab, .ref ae, .ref ah, .int (zI kp), .int (zI ks), .ref ku, .ref kq, .ref kb, .ref ke, .ref kh, .int (zI az), .ref gf, .ref gt, .int (zI ses), .ref sf, .ref st, .int (zI les), .ref ef, .ref et, .int (zI mes), .ref xa, .ref xf, .ref xt, .ref xr, .ref lb, .int (zI lbs), .ref so])), (af, .inl (cL, 72, .inr (.inl (fL From)))), (at_, .inl (cL, 72, .inr (.inl (fL To))))] H locs := hW
        have hr4 := bz_01 (mCut From To vw q b)
        refine zif_eq (tgt := 121) C (by omega) dMo_coveredUp_36 (by decide) (fun c36 => ?_) (fun c36 => ?_)
        · refine lv_iinc (v := zI (b + 1)) (lv' := [(6, .int (zI (b + 1))), (7, .int (zI ((3 * b) + acx (dax vw)))), (0, .ref m0), (1, .int (zI vw)), (2, .long (zL q)), (4, .long (zL sp))]) C.1 C.2.1 dMo_coveredUp_121 hl (k := 1) rfl (zI_add b 1) (by decide) rfl (fun ls hl => ?_)
          refine lv_goto (tgt := 8) C.1 C.2.1 dMo_coveredUp_124 (by decide) ?_
          exact ih8 (b + 1) az Ax Cx (by omega) (by omega) (by omega) (by omega) hAb hCb hneA hiA (fun t => by rw [hE t, cvU_n (fun h => by rw [bz_eq1] at h; omega)]) ls H locs (lv_sub hl [0, 2, 3, 4, 5] rfl) (zwp hW [2, 3, 4, 0, 1] rfl (by decide))
        · refine lv_aload_n C.1 C.2.1 dMo_coveredUp_39 rfl (lv_at hl 2 rfl) ?_
          refine zget C hW 2 4 rfl rfl inMo (by decide) flMo_7 rfl dMo_coveredUp_40 ?_
          refine lv_iload C.1 C.2.1 dMo_coveredUp_43 (lv_at hl 0 rfl) ?_
          refine zlald C hW 3 2 rfl rfl (by omega) (by omega) (by decide) dMo_coveredUp_45 ?_
          have hb5 := bFrom ((3 * b) + acx (dax vw))
          refine lv_lload C.1 C.2.1 dMo_coveredUp_46 (lv_at hl 5 rfl) ?_
          refine zlcmp_gt (tgt := 121) C (by omega) (by omega) dMo_coveredUp_48 dMo_coveredUp_49 (by decide) (fun c48 => ?_) (fun c48 => ?_)
          · refine lv_iinc (v := zI (b + 1)) (lv' := [(6, .int (zI (b + 1))), (7, .int (zI ((3 * b) + acx (dax vw)))), (0, .ref m0), (1, .int (zI vw)), (2, .long (zL q)), (4, .long (zL sp))]) C.1 C.2.1 dMo_coveredUp_121 hl (k := 1) rfl (zI_add b 1) (by decide) rfl (fun ls hl => ?_)
            refine lv_goto (tgt := 8) C.1 C.2.1 dMo_coveredUp_124 (by decide) ?_
            exact ih8 (b + 1) az Ax Cx (by omega) (by omega) (by omega) (by omega) hAb hCb hneA hiA (fun t => by rw [hE t, cvU_n (fun h => by rw [bz_eq1] at h; omega)]) ls H locs (lv_sub hl [0, 2, 3, 4, 5] rfl) (zwp hW [2, 3, 4, 0, 1] rfl (by decide))
          · refine lv_aload_n C.1 C.2.1 dMo_coveredUp_52 rfl (lv_at hl 2 rfl) ?_
            refine zget C hW 2 5 rfl rfl inMo (by decide) flMo_13 rfl dMo_coveredUp_53 ?_
            refine lv_iload C.1 C.2.1 dMo_coveredUp_56 (lv_at hl 0 rfl) ?_
            refine zlald C hW 4 2 rfl rfl (by omega) (by omega) (by decide) dMo_coveredUp_58 ?_
            have hb6 := bTo ((3 * b) + acx (dax vw))
            refine lv_lload C.1 C.2.1 dMo_coveredUp_59 (lv_at hl 5 rfl) ?_
            refine zlcmp_le (tgt := 121) C (by omega) (by omega) dMo_coveredUp_61 dMo_coveredUp_62 (by decide) (fun c61 => ?_) (fun c61 => ?_)
            · refine lv_iinc (v := zI (b + 1)) (lv' := [(6, .int (zI (b + 1))), (7, .int (zI ((3 * b) + acx (dax vw)))), (0, .ref m0), (1, .int (zI vw)), (2, .long (zL q)), (4, .long (zL sp))]) C.1 C.2.1 dMo_coveredUp_121 hl (k := 1) rfl (zI_add b 1) (by decide) rfl (fun ls hl => ?_)
              refine lv_goto (tgt := 8) C.1 C.2.1 dMo_coveredUp_124 (by decide) ?_
              exact ih8 (b + 1) az Ax Cx (by omega) (by omega) (by omega) (by omega) hAb hCb hneA hiA (fun t => by rw [hE t, cvU_n (fun h => by rw [bz_eq1] at h; omega)]) ls H locs (lv_sub hl [0, 2, 3, 4, 5] rfl) (zwp hW [2, 3, 4, 0, 1] rfl (by decide))
            · refine lv_aload_n C.1 C.2.1 dMo_coveredUp_65 rfl (lv_at hl 2 rfl) ?_
              refine zget C hW 2 21 rfl rfl inMo (by decide) flMo_47 rfl dMo_coveredUp_66 ?_
              refine lv_aload_n C.1 C.2.1 dMo_coveredUp_69 rfl (lv_at hl 2 rfl) ?_
              refine zget C hW 2 20 rfl rfl inMo (by decide) flMo_131 rfl dMo_coveredUp_70 ?_
              refine lv_aload_n C.1 C.2.1 dMo_coveredUp_73 rfl (lv_at hl 2 rfl) ?_
              refine zget C hW 2 4 rfl rfl inMo (by decide) flMo_7 rfl dMo_coveredUp_74 ?_
              refine lv_iconst (v := zI 3) C.1 C.2.1 dMo_coveredUp_77 (by decide) ?_
              refine lv_iload C.1 C.2.1 dMo_coveredUp_78 (lv_at hl 1 rfl) ?_
              refine zimul C dMo_coveredUp_80 ?_
              refine lv_iload_n C.1 C.2.1 dMo_coveredUp_81 rfl (lv_at hl 3 rfl) ?_
              refine zcalli (wr := [(gf, .inl (cL, 200, .inr (.inl (fL Ax)))), (gt, .inl (cL, 200, .inr (.inl (fL Cx)))), (m0, .inr (10, [.int (zI cd), .long (zL wi), .long (zL hi), .int (zI bn), .ref af, .ref at_, .int (zI dr), .int (zI sz), .ref au, .ref ap, .ref ab, .ref ae, .ref ah, .int (zI kp), .int (zI ks), .ref ku, .ref kq, .ref kb, .ref ke, .ref kh, .int (zI az), .ref gf, .ref gt, .int (zI ses), .ref sf, .ref st, .int (zI les), .ref ef, .ref et, .int (zI mes), .ref xa, .ref xf, .ref xt, .ref xr, .ref lb, .int (zI lbs), .ref so])), (af, .inl (cL, 72, .inr (.inl (fL From)))), (at_, .inl (cL, 72, .inr (.inl (fL To))))]) C hW [] [0, 1, 2, 3, 4] rfl rfl (by decide) (by decide) (zRunS (k := 1) (As := [.int (zI vw)]) (rest := [.int (zI (3 * b)), .ref af, .int (zI az), .ref gf]) C hW (m_upOf l D cI cG cL cB vw (by omega) H.size) [] rfl (by decide) kMo_173 (by decide +kernel) ⟨by decide, by decide⟩ rfl hl.1 (Nat.le_of_ble_eq_true rfl) dMo_coveredUp_82 ⟨by first | decide | omega, by first | decide | omega⟩) (fun x w H locs hq hW => ?_)
              obtain ⟨rfl, rfl⟩ := hq
              have hW : zw D zCl A s [(gf, .inl (cL, 200, .inr (.inl (fL Ax)))), (gt, .inl (cL, 200, .inr (.inl (fL Cx)))), (m0, .inr (10, [.int (zI cd), .long (zL wi), .long (zL hi), .int (zI bn), .ref af, .ref at_, .int (zI dr), .int (zI sz), .ref au, .ref ap, .ref ab, .ref ae, .ref ah, .int (zI kp), .int (zI ks), .ref ku, .ref kq, .ref kb, .ref ke, .ref kh, .int (zI az), .ref gf, .ref gt, .int (zI ses), .ref sf, .ref st, .int (zI les), .ref ef, .ref et, .int (zI mes), .ref xa, .ref xf, .ref xt, .ref xr, .ref lb, .int (zI lbs), .ref so])), (af, .inl (cL, 72, .inr (.inl (fL From)))), (at_, .inl (cL, 72, .inr (.inl (fL To))))] H locs := hW
              have hr7 := upx_in (dax vw)
              refine ziadd C dMo_coveredUp_85 ?_
              refine zlald C hW 3 2 rfl rfl (by omega) (by omega) (by decide) dMo_coveredUp_86 ?_
              have hb8 := bFrom ((3 * b) + upx (dax vw))
              refine zlast C hW 0 2 rfl rfl (by omega) (by omega) (by decide) dMo_coveredUp_87 (fun H locs hW => ?_)
              have hB9 : ∀ jj : Int, I64 ((upz Ax az (From ((3 * b) + upx (dax vw)))) jj) := upz_bL hAb (by omega)
              have hW : zw D zCl A s [(gf, .inl (cL, 200, .inr (.inl (fL (upz Ax az (From ((3 * b) + upx (dax vw)))))))), (gt, .inl (cL, 200, .inr (.inl (fL Cx)))), (m0, .inr (10, [.int (zI cd), .long (zL wi), .long (zL hi), .int (zI bn), .ref af, .ref at_, .int (zI dr), .int (zI sz), .ref au, .ref ap, .ref ab, .ref ae, .ref ah, .int (zI kp), .int (zI ks), .ref ku, .ref kq, .ref kb, .ref ke, .ref kh, .int (zI az), .ref gf, .ref gt, .int (zI ses), .ref sf, .ref st, .int (zI les), .ref ef, .ref et, .int (zI mes), .ref xa, .ref xf, .ref xt, .ref xr, .ref lb, .int (zI lbs), .ref so])), (af, .inl (cL, 72, .inr (.inl (fL From)))), (at_, .inl (cL, 72, .inr (.inl (fL To))))] H locs := hW
              refine lv_aload_n C.1 C.2.1 dMo_coveredUp_88 rfl (lv_at hl 2 rfl) ?_
              refine zget C hW 2 22 rfl rfl inMo (by decide) flMo_50 rfl dMo_coveredUp_89 ?_
              refine lv_aload_n C.1 C.2.1 dMo_coveredUp_92 rfl (lv_at hl 2 rfl) ?_
              refine zget C hW 2 20 rfl rfl inMo (by decide) flMo_131 rfl dMo_coveredUp_93 ?_
              refine lv_aload_n C.1 C.2.1 dMo_coveredUp_96 rfl (lv_at hl 2 rfl) ?_
              refine zget C hW 2 5 rfl rfl inMo (by decide) flMo_13 rfl dMo_coveredUp_97 ?_
              refine lv_iconst (v := zI 3) C.1 C.2.1 dMo_coveredUp_100 (by decide) ?_
              refine lv_iload C.1 C.2.1 dMo_coveredUp_101 (lv_at hl 1 rfl) ?_
              refine zimul C dMo_coveredUp_103 ?_
              refine lv_iload_n C.1 C.2.1 dMo_coveredUp_104 rfl (lv_at hl 3 rfl) ?_
              refine zcalli (wr := [(gf, .inl (cL, 200, .inr (.inl (fL (upz Ax az (From ((3 * b) + upx (dax vw)))))))), (gt, .inl (cL, 200, .inr (.inl (fL Cx)))), (m0, .inr (10, [.int (zI cd), .long (zL wi), .long (zL hi), .int (zI bn), .ref af, .ref at_, .int (zI dr), .int (zI sz), .ref au, .ref ap, .ref ab, .ref ae, .ref ah, .int (zI kp), .int (zI ks), .ref ku, .ref kq, .ref kb, .ref ke, .ref kh, .int (zI az), .ref gf, .ref gt, .int (zI ses), .ref sf, .ref st, .int (zI les), .ref ef, .ref et, .int (zI mes), .ref xa, .ref xf, .ref xt, .ref xr, .ref lb, .int (zI lbs), .ref so])), (af, .inl (cL, 72, .inr (.inl (fL From)))), (at_, .inl (cL, 72, .inr (.inl (fL To))))]) C hW [] [0, 1, 2, 3, 4] rfl rfl (by decide) (by decide) (zRunS (k := 1) (As := [.int (zI vw)]) (rest := [.int (zI (3 * b)), .ref at_, .int (zI az), .ref gt]) C hW (m_upOf l D cI cG cL cB vw (by omega) H.size) [] rfl (by decide) kMo_173 (by decide +kernel) ⟨by decide, by decide⟩ rfl hl.1 (Nat.le_of_ble_eq_true rfl) dMo_coveredUp_105 ⟨by first | decide | omega, by first | decide | omega⟩) (fun x w H locs hq hW => ?_)
              obtain ⟨rfl, rfl⟩ := hq
              have hW : zw D zCl A s [(gf, .inl (cL, 200, .inr (.inl (fL (upz Ax az (From ((3 * b) + upx (dax vw)))))))), (gt, .inl (cL, 200, .inr (.inl (fL Cx)))), (m0, .inr (10, [.int (zI cd), .long (zL wi), .long (zL hi), .int (zI bn), .ref af, .ref at_, .int (zI dr), .int (zI sz), .ref au, .ref ap, .ref ab, .ref ae, .ref ah, .int (zI kp), .int (zI ks), .ref ku, .ref kq, .ref kb, .ref ke, .ref kh, .int (zI az), .ref gf, .ref gt, .int (zI ses), .ref sf, .ref st, .int (zI les), .ref ef, .ref et, .int (zI mes), .ref xa, .ref xf, .ref xt, .ref xr, .ref lb, .int (zI lbs), .ref so])), (af, .inl (cL, 72, .inr (.inl (fL From)))), (at_, .inl (cL, 72, .inr (.inl (fL To))))] H locs := hW
              have hr10 := upx_in (dax vw)
              refine ziadd C dMo_coveredUp_108 ?_
              refine zlald C hW 4 2 rfl rfl (by omega) (by omega) (by decide) dMo_coveredUp_109 ?_
              have hb11 := bTo ((3 * b) + upx (dax vw))
              refine zlast C hW 1 2 rfl rfl (by omega) (by omega) (by decide) dMo_coveredUp_110 (fun H locs hW => ?_)
              have hB12 : ∀ jj : Int, I64 ((upz Cx az (To ((3 * b) + upx (dax vw)))) jj) := upz_bL hCb (by omega)
              have hW : zw D zCl A s [(gf, .inl (cL, 200, .inr (.inl (fL (upz Ax az (From ((3 * b) + upx (dax vw)))))))), (gt, .inl (cL, 200, .inr (.inl (fL (upz Cx az (To ((3 * b) + upx (dax vw)))))))), (m0, .inr (10, [.int (zI cd), .long (zL wi), .long (zL hi), .int (zI bn), .ref af, .ref at_, .int (zI dr), .int (zI sz), .ref au, .ref ap, .ref ab, .ref ae, .ref ah, .int (zI kp), .int (zI ks), .ref ku, .ref kq, .ref kb, .ref ke, .ref kh, .int (zI az), .ref gf, .ref gt, .int (zI ses), .ref sf, .ref st, .int (zI les), .ref ef, .ref et, .int (zI mes), .ref xa, .ref xf, .ref xt, .ref xr, .ref lb, .int (zI lbs), .ref so])), (af, .inl (cL, 72, .inr (.inl (fL From)))), (at_, .inl (cL, 72, .inr (.inl (fL To))))] H locs := hW
              refine lv_aload_n C.1 C.2.1 dMo_coveredUp_111 rfl (lv_at hl 2 rfl) ?_
              refine lv_dup C.1 C.2.1 dMo_coveredUp_112 rfl ?_
              refine zget C hW 2 20 rfl rfl inMo (by decide) flMo_131 rfl dMo_coveredUp_113 ?_
              refine lv_iconst (v := zI 1) C.1 C.2.1 dMo_coveredUp_116 (by decide) ?_
              refine ziadd C dMo_coveredUp_117 ?_
              refine zput C hW 2 20 tyMo tyMo_ok nmMo rfl rfl inMo (by decide) flMo_131 rfl rfl rfl rfl (Nat.le_of_ble_eq_true rfl) dMo_coveredUp_118 (fun H locs hW => ?_)
              have hW : zw D zCl A s [(gf, .inl (cL, 200, .inr (.inl (fL (upz Ax az (From ((3 * b) + upx (dax vw)))))))), (gt, .inl (cL, 200, .inr (.inl (fL (upz Cx az (To ((3 * b) + upx (dax vw)))))))), (m0, .inr (10, [.int (zI cd), .long (zL wi), .long (zL hi), .int (zI bn), .ref af, .ref at_, .int (zI dr), .int (zI sz), .ref au, .ref ap, .ref ab, .ref ae, .ref ah, .int (zI kp), .int (zI ks), .ref ku, .ref kq, .ref kb, .ref ke, .ref kh, .int (zI (az + 1)), .ref gf, .ref gt, .int (zI ses), .ref sf, .ref st, .int (zI les), .ref ef, .ref et, .int (zI mes), .ref xa, .ref xf, .ref xt, .ref xr, .ref lb, .int (zI lbs), .ref so])), (af, .inl (cL, 72, .inr (.inl (fL From)))), (at_, .inl (cL, 72, .inr (.inl (fL To))))] H locs := hW
              refine lv_iinc (v := zI (b + 1)) (lv' := [(6, .int (zI (b + 1))), (7, .int (zI ((3 * b) + acx (dax vw)))), (0, .ref m0), (1, .int (zI vw)), (2, .long (zL q)), (4, .long (zL sp))]) C.1 C.2.1 dMo_coveredUp_121 hl (k := 1) rfl (zI_add b 1) (by decide) rfl (fun ls hl => ?_)
              refine lv_goto (tgt := 8) C.1 C.2.1 dMo_coveredUp_124 (by decide) ?_
              exact ih8 (b + 1) (az + 1) (upz Ax az (From ((3 * b) + upx (dax vw)))) (upz Cx az (To ((3 * b) + upx (dax vw)))) (by omega) (by omega) (by omega) (by omega) hB9 hB12 (neS_app hneA (by omega)) (inB_app hiA (by omega) (by omega)) (fun t => by rw [LC_app (by omega), hE t, cvU_c hb0 ⟨(bz_eq1 _).mpr (by omega), by omega, by omega⟩]) ls H locs (lv_sub hl [0, 2, 3, 4, 5] rfl) (zwp hW [2, 3, 4, 0, 1] rfl (by decide))
  exact L8 _ 0 0 AFr ATo (Nat.lt_succ_self _) (by omega) (by omega) (by omega) bAFr bATo (fun k h0 h1 => absurd h1 (by omega)) (fun k h0 h1 => absurd h1 (by omega)) (fun t => ⟨fun h => absurd h LC_z, fun h => absurd h cvU_z⟩) ls H locs (lv_sub hl [0, 1, 2, 3, 4] rfl) hW
set_option maxHeartbeats 4000000 in
set_option maxRecDepth 100000 in
theorem m_section (l : Launch) (D : va_G) (cI cG cL cB : ClassId) (m0 : Nat) (cd : Int) (wi : Int) (hi : Int) (bn : Int) (af : Nat) (at_ : Nat) (dr : Int) (sz : Int) (au : Nat) (ap : Nat) (ab : Nat) (ae : Nat) (ah : Nat) (kp : Int) (ks : Int) (ku : Nat) (kq : Nat) (kb : Nat) (ke : Nat) (kh : Nat) (als : Int) (gf : Nat) (gt : Nat) (ses : Int) (sf : Nat) (st : Nat) (les : Int) (ef : Nat) (et : Nat) (mes : Int) (xa : Nat) (xf : Nat) (xt : Nat) (xr : Nat) (lb : Nat) (lbs : Int) (so : Nat) (From : Int → Int) (To : Int → Int) (AFr : Int → Int) (ATo : Int → Int) (vw : Int) (q : Int) (wh : Int) (bFrom : ∀ j : Int, I64 (From j)) (bTo : ∀ j : Int, I64 (To j)) (bAFr : ∀ j : Int, I64 (AFr j)) (bATo : ∀ j : Int, I64 (ATo j)) (hbn0 : 0 ≤ bn) (hbn1 : bn ≤ 24) (hMB : moB bn From To) (hIvw : I32 vw) (hIwh : I32 wh) (hJq : I64 q) : Cl l yMo_section cMo_section 13 (some .long) 3 0 0 D zCl (zT cI cG cL cB) [.ref m0, .int (zI vw), .long (zL q), .int (zI wh)] [(m0, .inr (10, [.int (zI cd), .long (zL wi), .long (zL hi), .int (zI bn), .ref af, .ref at_, .int (zI dr), .int (zI sz), .ref au, .ref ap, .ref ab, .ref ae, .ref ah, .int (zI kp), .int (zI ks), .ref ku, .ref kq, .ref kb, .ref ke, .ref kh, .int (zI als), .ref gf, .ref gt, .int (zI ses), .ref sf, .ref st, .int (zI les), .ref ef, .ref et, .int (zI mes), .ref xa, .ref xf, .ref xt, .ref xr, .ref lb, .int (zI lbs), .ref so])), (af, .inl (cL, 72, .inr (.inl (fL From)))), (at_, .inl (cL, 72, .inr (.inl (fL To)))), (gf, .inl (cL, 200, .inr (.inl (fL AFr)))), (gt, .inl (cL, 200, .inr (.inl (fL ATo))))] (fun x w => ∃ cd2 : Int, ∃ r2 : Int, ∃ als2 : Int, ∃ AFr2 : Int → Int, ∃ ATo2 : Int → Int, (∀ j : Int, I64 (AFr2 j)) ∧ (∀ j : Int, I64 (ATo2 j)) ∧ (cd2 = if 0 ≤ vw ∧ vw < 6 ∧ 0 ≤ wh ∧ wh ≤ 1 then 0 else 1) ∧ (cd2 = 0 → r2 = if wh = 0 then cntZ (mCut From To vw q) bn else sumR (colU From To vw q bn) (-10000000) 10000000) ∧ x = zL r2 ∧ w = [(m0, .inr (10, [.int (zI cd2), .long (zL wi), .long (zL hi), .int (zI bn), .ref af, .ref at_, .int (zI dr), .int (zI sz), .ref au, .ref ap, .ref ab, .ref ae, .ref ah, .int (zI kp), .int (zI ks), .ref ku, .ref kq, .ref kb, .ref ke, .ref kh, .int (zI als2), .ref gf, .ref gt, .int (zI ses), .ref sf, .ref st, .int (zI les), .ref ef, .ref et, .int (zI mes), .ref xa, .ref xf, .ref xt, .ref xr, .ref lb, .int (zI lbs), .ref so])), (af, .inl (cL, 72, .inr (.inl (fL From)))), (at_, .inl (cL, 72, .inr (.inl (fL To)))), (gf, .inl (cL, 200, .inr (.inl (fL AFr2)))), (gt, .inl (cL, 200, .inr (.inl (fL ATo2))))]) := by
  refine zBl (by decide) (Nat.le_of_ble_eq_true rfl) ?_
  intro p e s m args below meth c ls A H locs Q C hin hl hW hQ
  have hl : lv_has ls 13 [(0, .ref m0), (1, .int (zI vw)), (2, .long (zL q)), (4, .int (zI wh))] := hl
  have hax := acx_in (dax vw)
  refine lv_aload_n C.1 C.2.1 dMo_section_0 rfl (lv_at hl 0 rfl) ?_
  have L26 : ∀ (v : Int), ((v = 0 ∧ 0 ≤ vw ∧ vw < 6 ∧ 0 ≤ wh ∧ wh ≤ 1) ∨ (v = 1 ∧ ¬ (0 ≤ vw ∧ vw < 6 ∧ 0 ≤ wh ∧ wh ≤ 1))) → ∀ (ls : Array Slot) (H : Heap) (locs : List Loc), lv_has ls 13 [(0, .ref m0), (1, .int (zI vw)), (2, .long (zL q)), (4, .int (zI wh))] → zw D zCl A s [(m0, .inr (10, [.int (zI cd), .long (zL wi), .long (zL hi), .int (zI bn), .ref af, .ref at_, .int (zI dr), .int (zI sz), .ref au, .ref ap, .ref ab, .ref ae, .ref ah, .int (zI kp), .int (zI ks), .ref ku, .ref kq, .ref kb, .ref ke, .ref kh, .int (zI als), .ref gf, .ref gt, .int (zI ses), .ref sf, .ref st, .int (zI les), .ref ef, .ref et, .int (zI mes), .ref xa, .ref xf, .ref xt, .ref xr, .ref lb, .int (zI lbs), .ref so])), (af, .inl (cL, 72, .inr (.inl (fL From)))), (at_, .inl (cL, 72, .inr (.inl (fL To)))), (gf, .inl (cL, 200, .inr (.inl (fL AFr)))), (gt, .inl (cL, 200, .inr (.inl (fL ATo))))] H locs → W p l e (zr 3 0 0) s m args below meth c H locs 0 0 Q (F0 m 26 ls [.int (zI v), .ref m0]) := by
    intro v hv ls H locs hl hW
    refine zput C hW 0 0 tyMo tyMo_ok nmMo rfl rfl inMo (by decide) flMo_93 rfl rfl rfl rfl (Nat.le_of_ble_eq_true rfl) dMo_section_26 (fun H locs hW => ?_)
    have hW : zw D zCl A s [(m0, .inr (10, [.int (zI v), .long (zL wi), .long (zL hi), .int (zI bn), .ref af, .ref at_, .int (zI dr), .int (zI sz), .ref au, .ref ap, .ref ab, .ref ae, .ref ah, .int (zI kp), .int (zI ks), .ref ku, .ref kq, .ref kb, .ref ke, .ref kh, .int (zI als), .ref gf, .ref gt, .int (zI ses), .ref sf, .ref st, .int (zI les), .ref ef, .ref et, .int (zI mes), .ref xa, .ref xf, .ref xt, .ref xr, .ref lb, .int (zI lbs), .ref so])), (af, .inl (cL, 72, .inr (.inl (fL From)))), (at_, .inl (cL, 72, .inr (.inl (fL To)))), (gf, .inl (cL, 200, .inr (.inl (fL AFr)))), (gt, .inl (cL, 200, .inr (.inl (fL ATo))))] H locs := hW
    refine lv_aload_n C.1 C.2.1 dMo_section_29 rfl (lv_at hl 0 rfl) ?_
    refine zget C hW 0 0 rfl rfl inMo (by decide) flMo_93 rfl dMo_section_30 ?_
    refine zif_le (tgt := 38) C (by omega) dMo_section_33 (by decide) (fun c33 => ?_) (fun c33 => ?_)
    · refine lv_lconst (v := zL 0) C.1 C.2.1 dMo_section_38 (by decide) ?_
      refine lv_lstore (lv' := [(5, .long (zL 0)), (0, .ref m0), (1, .int (zI vw)), (2, .long (zL q)), (4, .int (zI wh))]) C.1 C.2.1 dMo_section_39 hl (by decide) rfl (fun ls hl => ?_)
      refine lv_iconst (v := zI 0) C.1 C.2.1 dMo_section_41 (by decide) ?_
      refine lv_istore (lv' := [(7, .int (zI 0)), (5, .long (zL 0)), (0, .ref m0), (1, .int (zI vw)), (2, .long (zL q)), (4, .int (zI wh))]) C.1 C.2.1 dMo_section_42 hl (by decide) rfl (fun ls hl => ?_)
      have L44 : ∀ (N : Nat) (j : Int) (n_ : Int), (bn - j).toNat < N → (0 ≤ j) → (j ≤ bn) → (n_ = cntZ (mCut From To vw q) j) → ∀ (ls : Array Slot) (H : Heap) (locs : List Loc), lv_has ls 13 [(7, .int (zI j)), (5, .long (zL n_)), (0, .ref m0), (1, .int (zI vw)), (2, .long (zL q)), (4, .int (zI wh))] → zw D zCl A s [(m0, .inr (10, [.int (zI v), .long (zL wi), .long (zL hi), .int (zI bn), .ref af, .ref at_, .int (zI dr), .int (zI sz), .ref au, .ref ap, .ref ab, .ref ae, .ref ah, .int (zI kp), .int (zI ks), .ref ku, .ref kq, .ref kb, .ref ke, .ref kh, .int (zI als), .ref gf, .ref gt, .int (zI ses), .ref sf, .ref st, .int (zI les), .ref ef, .ref et, .int (zI mes), .ref xa, .ref xf, .ref xt, .ref xr, .ref lb, .int (zI lbs), .ref so])), (af, .inl (cL, 72, .inr (.inl (fL From)))), (at_, .inl (cL, 72, .inr (.inl (fL To)))), (gf, .inl (cL, 200, .inr (.inl (fL AFr)))), (gt, .inl (cL, 200, .inr (.inl (fL ATo))))] H locs → W p l e (zr 3 0 0) s m args below meth c H locs 0 0 Q (F0 m 44 ls []) := by
        intro N
        induction N with
        | zero => intro j n_ hm; exact absurd hm (Nat.not_lt_zero _)
        | succ N ih44 =>
          intro j n_ hm44 hi0 hi1 hn_ ls H locs hl hW
          refine lv_iload C.1 C.2.1 dMo_section_44 (lv_at hl 0 rfl) ?_
          refine lv_aload_n C.1 C.2.1 dMo_section_46 rfl (lv_at hl 2 rfl) ?_
          refine zget C hW 0 3 rfl rfl inMo (by decide) flMo_105 rfl dMo_section_47 ?_
          refine zicmp_ge (tgt := 81) C (by omega) (by omega) dMo_section_50 (by decide) (fun c50 => ?_) (fun c50 => ?_)
          · refine lv_iload C.1 C.2.1 dMo_section_81 (lv_at hl 5 rfl) ?_
            refine zif_ne (tgt := 89) C (by omega) dMo_section_83 (by decide) (fun c83 => ?_) (fun c83 => ?_)
            · refine lv_lconst (v := zL 0) C.1 C.2.1 dMo_section_89 (by decide) ?_
              refine lv_lstore (lv' := [(7, .long (zL 0)), (5, .long (zL n_)), (0, .ref m0), (1, .int (zI vw)), (2, .long (zL q)), (4, .int (zI wh))]) C.1 C.2.1 dMo_section_90 hl (by decide) rfl (fun ls hl => ?_)
              refine lv_aload_n C.1 C.2.1 dMo_section_92 rfl (lv_at hl 2 rfl) ?_
              refine lv_iload_n C.1 C.2.1 dMo_section_93 rfl (lv_at hl 3 rfl) ?_
              refine zcalli (wr := [(m0, .inr (10, [.int (zI v), .long (zL wi), .long (zL hi), .int (zI bn), .ref af, .ref at_, .int (zI dr), .int (zI sz), .ref au, .ref ap, .ref ab, .ref ae, .ref ah, .int (zI kp), .int (zI ks), .ref ku, .ref kq, .ref kb, .ref ke, .ref kh, .int (zI als), .ref gf, .ref gt, .int (zI ses), .ref sf, .ref st, .int (zI les), .ref ef, .ref et, .int (zI mes), .ref xa, .ref xf, .ref xt, .ref xr, .ref lb, .int (zI lbs), .ref so])), (af, .inl (cL, 72, .inr (.inl (fL From)))), (at_, .inl (cL, 72, .inr (.inl (fL To)))), (gf, .inl (cL, 200, .inr (.inl (fL AFr)))), (gt, .inl (cL, 200, .inr (.inl (fL ATo))))]) C hW [] [0, 1, 2, 3, 4] rfl rfl (by decide) (by decide) (zRunS (k := 1) (As := [.int (zI vw)]) (rest := [.ref m0]) C hW (m_acrossOf l D cI cG cL cB vw (by omega) H.size) [] rfl (by decide) kMo_170 (by decide +kernel) ⟨by decide, by decide⟩ rfl hl.1 (Nat.le_of_ble_eq_true rfl) dMo_section_94 ⟨by first | decide | omega, by first | decide | omega⟩) (fun x w H locs hq hW => ?_)
              obtain ⟨rfl, rfl⟩ := hq
              have hW : zw D zCl A s [(m0, .inr (10, [.int (zI v), .long (zL wi), .long (zL hi), .int (zI bn), .ref af, .ref at_, .int (zI dr), .int (zI sz), .ref au, .ref ap, .ref ab, .ref ae, .ref ah, .int (zI kp), .int (zI ks), .ref ku, .ref kq, .ref kb, .ref ke, .ref kh, .int (zI als), .ref gf, .ref gt, .int (zI ses), .ref sf, .ref st, .int (zI les), .ref ef, .ref et, .int (zI mes), .ref xa, .ref xf, .ref xt, .ref xr, .ref lb, .int (zI lbs), .ref so])), (af, .inl (cL, 72, .inr (.inl (fL From)))), (at_, .inl (cL, 72, .inr (.inl (fL To)))), (gf, .inl (cL, 200, .inr (.inl (fL AFr)))), (gt, .inl (cL, 200, .inr (.inl (fL ATo))))] H locs := hW
              have hr1 := acx_in (dax vw)
              refine zldc2 C kcMo_150 dMo_section_97 ?_
              refine zcalll (wr := [(gf, .inl (cL, 200, .inr (.inl (fL AFr)))), (gt, .inl (cL, 200, .inr (.inl (fL ATo))))]) C hW [0, 1, 2] [3, 4] rfl rfl (by decide) (by decide) (zRunV (k := 2) (As := [.int (zI (acx (dax vw))), .long (zL (-10000000))]) (rest := []) C hW (m_nextLine l D cI cG cL cB m0 v wi hi bn af at_ dr sz au ap ab ae ah kp ks ku kq kb ke kh als gf gt ses sf st les ef et mes xa xf xt xr lb lbs so From To (acx (dax vw)) (-10000000) bFrom bTo (by omega) (by omega) (by omega) (by omega) (by omega) H.size) [0, 1, 2] rfl (by decide) kMo_187 (by decide +kernel) ⟨by decide, by decide⟩ 0 rfl rfl rfl hl.1 (Nat.le_of_ble_eq_true rfl) dMo_section_100 ⟨by first | decide | omega, by first | decide | omega⟩) (fun x w H locs hq hW => ?_)
              obtain ⟨rfl, rfl⟩ := hq
              have hW : zw D zCl A s [(gf, .inl (cL, 200, .inr (.inl (fL AFr)))), (gt, .inl (cL, 200, .inr (.inl (fL ATo)))), (m0, .inr (10, [.int (zI v), .long (zL wi), .long (zL hi), .int (zI bn), .ref af, .ref at_, .int (zI dr), .int (zI sz), .ref au, .ref ap, .ref ab, .ref ae, .ref ah, .int (zI kp), .int (zI ks), .ref ku, .ref kq, .ref kb, .ref ke, .ref kh, .int (zI als), .ref gf, .ref gt, .int (zI ses), .ref sf, .ref st, .int (zI les), .ref ef, .ref et, .int (zI mes), .ref xa, .ref xf, .ref xt, .ref xr, .ref lb, .int (zI lbs), .ref so])), (af, .inl (cL, 72, .inr (.inl (fL From)))), (at_, .inl (cL, 72, .inr (.inl (fL To))))] H locs := hW
              have hrA := arA (vw := vw) (q := q) (r := nxL From To (acx (dax vw)) bn (-10000000)) hbn0 hMB rfl
              refine lv_lstore (lv' := [(9, .long (zL (nxL From To (acx (dax vw)) bn (-10000000)))), (7, .long (zL 0)), (5, .long (zL n_)), (0, .ref m0), (1, .int (zI vw)), (2, .long (zL q)), (4, .int (zI wh))]) C.1 C.2.1 dMo_section_103 hl (by decide) rfl (fun ls hl => ?_)
              have L105 : ∀ (N : Nat) (s1 : Int) (ar : Int) (az : Int) (Ax : Int → Int) (Cx : Int → Int), (10000000 - s1).toNat < N → (-10000000 < s1 ∧ s1 ≤ 10000000) → (ar = sumR (colU From To vw q bn) (-10000000) s1) → (∀ j : Int, I64 (Ax j)) → (∀ j : Int, I64 (Cx j)) → ∀ (ls : Array Slot) (H : Heap) (locs : List Loc), lv_has ls 13 [(9, .long (zL s1)), (7, .long (zL ar)), (5, .long (zL n_)), (0, .ref m0), (1, .int (zI vw)), (2, .long (zL q)), (4, .int (zI wh))] → zw D zCl A s [(gf, .inl (cL, 200, .inr (.inl (fL Ax)))), (gt, .inl (cL, 200, .inr (.inl (fL Cx)))), (m0, .inr (10, [.int (zI v), .long (zL wi), .long (zL hi), .int (zI bn), .ref af, .ref at_, .int (zI dr), .int (zI sz), .ref au, .ref ap, .ref ab, .ref ae, .ref ah, .int (zI kp), .int (zI ks), .ref ku, .ref kq, .ref kb, .ref ke, .ref kh, .int (zI az), .ref gf, .ref gt, .int (zI ses), .ref sf, .ref st, .int (zI les), .ref ef, .ref et, .int (zI mes), .ref xa, .ref xf, .ref xt, .ref xr, .ref lb, .int (zI lbs), .ref so])), (af, .inl (cL, 72, .inr (.inl (fL From)))), (at_, .inl (cL, 72, .inr (.inl (fL To))))] H locs → W p l e (zr 3 0 0) s m args below meth c H locs 0 0 Q (F0 m 105 ls []) := by
                intro N
                induction N with
                | zero => intro s1 ar az Ax Cx hm; exact absurd hm (Nat.not_lt_zero _)
                | succ N ih105 =>
                  intro s1 ar az Ax Cx hm105 hs1 har hAb hCb ls H locs hl hW
                  refine lv_lload C.1 C.2.1 dMo_section_105 (lv_at hl 0 rfl) ?_
                  refine zldc2 C kcMo_148 dMo_section_107 ?_
                  refine zlcmp_ge (tgt := 166) C (by omega) (by omega) dMo_section_110 dMo_section_111 (by decide) (fun c110 => ?_) (fun c110 => ?_)
                  · refine lv_lload C.1 C.2.1 dMo_section_166 (lv_at hl 1 rfl) ?_
                    have hW : zw D zCl A s [(m0, .inr (10, [.int (zI v), .long (zL wi), .long (zL hi), .int (zI bn), .ref af, .ref at_, .int (zI dr), .int (zI sz), .ref au, .ref ap, .ref ab, .ref ae, .ref ah, .int (zI kp), .int (zI ks), .ref ku, .ref kq, .ref kb, .ref ke, .ref kh, .int (zI az), .ref gf, .ref gt, .int (zI ses), .ref sf, .ref st, .int (zI les), .ref ef, .ref et, .int (zI mes), .ref xa, .ref xf, .ref xt, .ref xr, .ref lb, .int (zI lbs), .ref so])), (af, .inl (cL, 72, .inr (.inl (fL From)))), (at_, .inl (cL, 72, .inr (.inl (fL To)))), (gf, .inl (cL, 200, .inr (.inl (fL Ax)))), (gt, .inl (cL, 200, .inr (.inl (fL Cx))))] H locs := zwp hW [2, 3, 4, 0, 1] rfl (by decide)
                    exact hQ (zL ar) _ H locs _ _ _ ls hW ⟨_, ar, az, Ax, Cx, hAb, hCb, (by rw [if_pos (by omega)]; omega), (fun _ => by rw [if_neg (by omega), har, show s1 = 10000000 by omega]), rfl, rfl⟩ (by omega) (by omega) dMo_section_168
                  · refine lv_aload_n C.1 C.2.1 dMo_section_114 rfl (lv_at hl 3 rfl) ?_
                    refine lv_iload_n C.1 C.2.1 dMo_section_115 rfl (lv_at hl 4 rfl) ?_
                    refine zcalli (wr := [(gf, .inl (cL, 200, .inr (.inl (fL Ax)))), (gt, .inl (cL, 200, .inr (.inl (fL Cx)))), (m0, .inr (10, [.int (zI v), .long (zL wi), .long (zL hi), .int (zI bn), .ref af, .ref at_, .int (zI dr), .int (zI sz), .ref au, .ref ap, .ref ab, .ref ae, .ref ah, .int (zI kp), .int (zI ks), .ref ku, .ref kq, .ref kb, .ref ke, .ref kh, .int (zI az), .ref gf, .ref gt, .int (zI ses), .ref sf, .ref st, .int (zI les), .ref ef, .ref et, .int (zI mes), .ref xa, .ref xf, .ref xt, .ref xr, .ref lb, .int (zI lbs), .ref so])), (af, .inl (cL, 72, .inr (.inl (fL From)))), (at_, .inl (cL, 72, .inr (.inl (fL To))))]) C hW [] [0, 1, 2, 3, 4] rfl rfl (by decide) (by decide) (zRunS (k := 1) (As := [.int (zI vw)]) (rest := [.ref m0]) C hW (m_acrossOf l D cI cG cL cB vw (by omega) H.size) [] rfl (by decide) kMo_170 (by decide +kernel) ⟨by decide, by decide⟩ rfl hl.1 (Nat.le_of_ble_eq_true rfl) dMo_section_116 ⟨by first | decide | omega, by first | decide | omega⟩) (fun x w H locs hq hW => ?_)
                    obtain ⟨rfl, rfl⟩ := hq
                    have hW : zw D zCl A s [(gf, .inl (cL, 200, .inr (.inl (fL Ax)))), (gt, .inl (cL, 200, .inr (.inl (fL Cx)))), (m0, .inr (10, [.int (zI v), .long (zL wi), .long (zL hi), .int (zI bn), .ref af, .ref at_, .int (zI dr), .int (zI sz), .ref au, .ref ap, .ref ab, .ref ae, .ref ah, .int (zI kp), .int (zI ks), .ref ku, .ref kq, .ref kb, .ref ke, .ref kh, .int (zI az), .ref gf, .ref gt, .int (zI ses), .ref sf, .ref st, .int (zI les), .ref ef, .ref et, .int (zI mes), .ref xa, .ref xf, .ref xt, .ref xr, .ref lb, .int (zI lbs), .ref so])), (af, .inl (cL, 72, .inr (.inl (fL From)))), (at_, .inl (cL, 72, .inr (.inl (fL To))))] H locs := hW
                    have hr2 := acx_in (dax vw)
                    refine lv_lload C.1 C.2.1 dMo_section_119 (lv_at hl 0 rfl) ?_
                    refine zcalll (wr := [(gf, .inl (cL, 200, .inr (.inl (fL Ax)))), (gt, .inl (cL, 200, .inr (.inl (fL Cx))))]) C hW [2, 3, 4] [0, 1] rfl rfl (by decide) (by decide) (zRunV (k := 2) (As := [.int (zI (acx (dax vw))), .long (zL s1)]) (rest := []) C hW (m_nextLine l D cI cG cL cB m0 v wi hi bn af at_ dr sz au ap ab ae ah kp ks ku kq kb ke kh az gf gt ses sf st les ef et mes xa xf xt xr lb lbs so From To (acx (dax vw)) s1 bFrom bTo (by omega) (by omega) (by omega) (by omega) (by omega) H.size) [2, 3, 4] rfl (by decide) kMo_187 (by decide +kernel) ⟨by decide, by decide⟩ 2 rfl rfl rfl hl.1 (Nat.le_of_ble_eq_true rfl) dMo_section_121 ⟨by first | decide | omega, by first | decide | omega⟩) (fun x w H locs hq hW => ?_)
                    obtain ⟨rfl, rfl⟩ := hq
                    have hW : zw D zCl A s [(gf, .inl (cL, 200, .inr (.inl (fL Ax)))), (gt, .inl (cL, 200, .inr (.inl (fL Cx)))), (m0, .inr (10, [.int (zI v), .long (zL wi), .long (zL hi), .int (zI bn), .ref af, .ref at_, .int (zI dr), .int (zI sz), .ref au, .ref ap, .ref ab, .ref ae, .ref ah, .int (zI kp), .int (zI ks), .ref ku, .ref kq, .ref kb, .ref ke, .ref kh, .int (zI az), .ref gf, .ref gt, .int (zI ses), .ref sf, .ref st, .int (zI les), .ref ef, .ref et, .int (zI mes), .ref xa, .ref xf, .ref xt, .ref xr, .ref lb, .int (zI lbs), .ref so])), (af, .inl (cL, 72, .inr (.inl (fL From)))), (at_, .inl (cL, 72, .inr (.inl (fL To))))] H locs := hW
                    have hrB := arB (vw := vw) (q := q) (sp := s1) (r := nxL From To (acx (dax vw)) bn s1) hbn0 hMB (by omega) (by omega) rfl har
                    refine lv_lstore (lv' := [(11, .long (zL (nxL From To (acx (dax vw)) bn s1))), (9, .long (zL s1)), (7, .long (zL ar)), (5, .long (zL n_)), (0, .ref m0), (1, .int (zI vw)), (2, .long (zL q)), (4, .int (zI wh))]) C.1 C.2.1 dMo_section_124 hl (by decide) rfl (fun ls hl => ?_)
                    have L157 : ∀ (y_ : Int) (zz : Int) (Ay : Int → Int) (Cy : Int → Int), (y_ = sumR (colU From To vw q bn) (-10000000) (nxL From To (acx (dax vw)) bn s1)) → (∀ j : Int, I64 (Ay j)) → (∀ j : Int, I64 (Cy j)) → ∀ (ls : Array Slot) (H : Heap) (locs : List Loc), lv_has ls 13 [(11, .long (zL (nxL From To (acx (dax vw)) bn s1))), (9, .long (zL s1)), (7, .long (zL ar)), (5, .long (zL n_)), (0, .ref m0), (1, .int (zI vw)), (2, .long (zL q)), (4, .int (zI wh))] → zw D zCl A s [(gf, .inl (cL, 200, .inr (.inl (fL Ay)))), (gt, .inl (cL, 200, .inr (.inl (fL Cy)))), (m0, .inr (10, [.int (zI v), .long (zL wi), .long (zL hi), .int (zI bn), .ref af, .ref at_, .int (zI dr), .int (zI sz), .ref au, .ref ap, .ref ab, .ref ae, .ref ah, .int (zI kp), .int (zI ks), .ref ku, .ref kq, .ref kb, .ref ke, .ref kh, .int (zI zz), .ref gf, .ref gt, .int (zI ses), .ref sf, .ref st, .int (zI les), .ref ef, .ref et, .int (zI mes), .ref xa, .ref xf, .ref xt, .ref xr, .ref lb, .int (zI lbs), .ref so])), (af, .inl (cL, 72, .inr (.inl (fL From)))), (at_, .inl (cL, 72, .inr (.inl (fL To))))] H locs → W p l e (zr 3 0 0) s m args below meth c H locs 0 0 Q (F0 m 157 ls [.long (zL y_)]) := by
                      intro y_ zz Ay Cy hy hAy hCy ls H locs hl hW
                      refine lv_lstore (lv' := [(7, .long (zL y_)), (11, .long (zL (nxL From To (acx (dax vw)) bn s1))), (9, .long (zL s1)), (5, .long (zL n_)), (0, .ref m0), (1, .int (zI vw)), (2, .long (zL q)), (4, .int (zI wh))]) C.1 C.2.1 dMo_section_157 hl (by decide) rfl (fun ls hl => ?_)
                      refine lv_lload C.1 C.2.1 dMo_section_159 (lv_at hl 1 rfl) ?_
                      refine lv_lstore (lv' := [(9, .long (zL (nxL From To (acx (dax vw)) bn s1))), (7, .long (zL y_)), (11, .long (zL (nxL From To (acx (dax vw)) bn s1))), (5, .long (zL n_)), (0, .ref m0), (1, .int (zI vw)), (2, .long (zL q)), (4, .int (zI wh))]) C.1 C.2.1 dMo_section_161 hl (by decide) rfl (fun ls hl => ?_)
                      refine lv_goto (tgt := 105) C.1 C.2.1 dMo_section_163 (by decide) ?_
                      exact ih105 (nxL From To (acx (dax vw)) bn s1) y_ zz Ay Cy (by have := hrB.1; omega) ⟨by have := hrB.1; omega, hrB.2.1⟩ hy hAy hCy ls H locs (lv_sub hl [0, 1, 3, 4, 5, 6, 7] rfl) hW
                    refine lv_lload C.1 C.2.1 dMo_section_126 (lv_at hl 0 rfl) ?_
                    refine zldc2 C kcMo_148 dMo_section_128 ?_
                    refine zlcmp_ge (tgt := 155) C (by omega) (by omega) dMo_section_131 dMo_section_132 (by decide) (fun c131 => ?_) (fun c131 => ?_)
                    · refine lv_lload C.1 C.2.1 dMo_section_155 (lv_at hl 2 rfl) ?_
                      exact L157 ar az Ax Cx (hrB.2.2.2 (by omega)) hAb hCb ls H locs (lv_sub hl [0, 1, 2, 3, 4, 5, 6, 7] rfl) hW
                    · refine lv_lload C.1 C.2.1 dMo_section_135 (lv_at hl 2 rfl) ?_
                      refine lv_lload C.1 C.2.1 dMo_section_137 (lv_at hl 0 rfl) ?_
                      refine lv_lload C.1 C.2.1 dMo_section_139 (lv_at hl 1 rfl) ?_
                      refine zlsub C dMo_section_141 ?_
                      refine lv_aload_n C.1 C.2.1 dMo_section_142 rfl (lv_at hl 4 rfl) ?_
                      refine lv_iload_n C.1 C.2.1 dMo_section_143 rfl (lv_at hl 5 rfl) ?_
                      refine lv_lload_n C.1 C.2.1 dMo_section_144 rfl (lv_at hl 6 rfl) ?_
                      refine lv_lload C.1 C.2.1 dMo_section_145 (lv_at hl 1 rfl) ?_
                      refine zcalll (wr := []) C hW [2, 3, 4, 0, 1] [] rfl rfl (by decide) (by decide) (zRunV (k := 3) (As := [.int (zI vw), .long (zL q), .long (zL s1)]) (rest := [.long (zL (nxL From To (acx (dax vw)) bn s1 - s1)), .long (zL ar)]) C hW (m_coveredUp l D cI cG cL cB m0 v wi hi bn af at_ dr sz au ap ab ae ah kp ks ku kq kb ke kh az gf gt ses sf st les ef et mes xa xf xt xr lb lbs so From To Ax Cx vw q s1 bFrom bTo hAb hCb (by omega) (by omega) (by omega) (by omega) (by omega) (by omega) (by omega) H.size) [2, 3, 4, 0, 1] rfl (by decide) kMo_206 (by decide +kernel) ⟨by decide, by decide⟩ 2 rfl rfl rfl hl.1 (Nat.le_of_ble_eq_true rfl) dMo_section_147 ⟨by first | decide | omega, by first | decide | omega⟩) (fun x w H locs hq hW => ?_)
                      obtain ⟨r23, als24, AFr25, ATo26, hf7, hf8, hf9, rfl, rfl⟩ := hq
                      have hW : zw D zCl A s [(m0, .inr (10, [.int (zI v), .long (zL wi), .long (zL hi), .int (zI bn), .ref af, .ref at_, .int (zI dr), .int (zI sz), .ref au, .ref ap, .ref ab, .ref ae, .ref ah, .int (zI kp), .int (zI ks), .ref ku, .ref kq, .ref kb, .ref ke, .ref kh, .int (zI als24), .ref gf, .ref gt, .int (zI ses), .ref sf, .ref st, .int (zI les), .ref ef, .ref et, .int (zI mes), .ref xa, .ref xf, .ref xt, .ref xr, .ref lb, .int (zI lbs), .ref so])), (af, .inl (cL, 72, .inr (.inl (fL From)))), (at_, .inl (cL, 72, .inr (.inl (fL To)))), (gf, .inl (cL, 200, .inr (.inl (fL AFr25)))), (gt, .inl (cL, 200, .inr (.inl (fL ATo26))))] H locs := hW
                      refine zlmul C dMo_section_150 ?_
                      refine zladd C dMo_section_151 ?_
                      refine lv_goto (tgt := 157) C.1 C.2.1 dMo_section_152 (by decide) ?_
                      exact L157 (ar + ((nxL From To (acx (dax vw)) bn s1 - s1) * r23)) als24 AFr25 ATo26 (by rw [hf9]; exact hrB.2.2.1 (by omega)) hf7 hf8 ls H locs (lv_sub hl [0, 1, 2, 3, 4, 5, 6, 7] rfl) (zwp hW [3, 4, 0, 1, 2] rfl (by decide))
              exact L105 _ (nxL From To (acx (dax vw)) bn (-10000000)) 0 als AFr ATo (Nat.lt_succ_self _) ⟨hrA.1, hrA.2.1⟩ hrA.2.2.symm bAFr bATo ls H locs (lv_sub hl [0, 1, 2, 3, 4, 5, 6] rfl) hW
            · refine lv_lload C.1 C.2.1 dMo_section_86 (lv_at hl 1 rfl) ?_
              exact hQ (zL n_) _ H locs _ _ _ ls hW ⟨_, n_, als, AFr, ATo, bAFr, bATo, (by rw [if_pos (by omega)]; omega), (fun _ => by rw [if_pos (by omega), hn_, show j = bn by omega]), rfl, rfl⟩ (by omega) (by omega) dMo_section_88
          · have L73 : ∀ (z_ : Int), (z_ = n_ + bz (mCut From To vw q j)) → ∀ (ls : Array Slot) (H : Heap) (locs : List Loc), lv_has ls 13 [(7, .int (zI j)), (5, .long (zL n_)), (0, .ref m0), (1, .int (zI vw)), (2, .long (zL q)), (4, .int (zI wh))] → zw D zCl A s [(m0, .inr (10, [.int (zI v), .long (zL wi), .long (zL hi), .int (zI bn), .ref af, .ref at_, .int (zI dr), .int (zI sz), .ref au, .ref ap, .ref ab, .ref ae, .ref ah, .int (zI kp), .int (zI ks), .ref ku, .ref kq, .ref kb, .ref ke, .ref kh, .int (zI als), .ref gf, .ref gt, .int (zI ses), .ref sf, .ref st, .int (zI les), .ref ef, .ref et, .int (zI mes), .ref xa, .ref xf, .ref xt, .ref xr, .ref lb, .int (zI lbs), .ref so])), (af, .inl (cL, 72, .inr (.inl (fL From)))), (at_, .inl (cL, 72, .inr (.inl (fL To)))), (gf, .inl (cL, 200, .inr (.inl (fL AFr)))), (gt, .inl (cL, 200, .inr (.inl (fL ATo))))] H locs → W p l e (zr 3 0 0) s m args below meth c H locs 0 0 Q (F0 m 73 ls [.long (zL z_)]) := by
              intro z_ hz ls H locs hl hW
              refine lv_lstore (lv' := [(5, .long (zL z_)), (7, .int (zI j)), (0, .ref m0), (1, .int (zI vw)), (2, .long (zL q)), (4, .int (zI wh))]) C.1 C.2.1 dMo_section_73 hl (by decide) rfl (fun ls hl => ?_)
              refine lv_iinc (v := zI (j + 1)) (lv' := [(7, .int (zI (j + 1))), (5, .long (zL z_)), (0, .ref m0), (1, .int (zI vw)), (2, .long (zL q)), (4, .int (zI wh))]) C.1 C.2.1 dMo_section_75 hl (k := 1) rfl (zI_add j 1) (by decide) rfl (fun ls hl => ?_)
              refine lv_goto (tgt := 44) C.1 C.2.1 dMo_section_78 (by decide) ?_
              exact ih44 (j + 1) z_ (by omega) (by omega) (by omega) (by rw [cntZ_s _ hi0, ← hn_]; exact hz) ls H locs (lv_sub hl [0, 1, 2, 3, 4, 5] rfl) hW
            refine lv_aload_n C.1 C.2.1 dMo_section_53 rfl (lv_at hl 2 rfl) ?_
            refine lv_iload_n C.1 C.2.1 dMo_section_54 rfl (lv_at hl 3 rfl) ?_
            refine lv_lload_n C.1 C.2.1 dMo_section_55 rfl (lv_at hl 4 rfl) ?_
            refine lv_iload C.1 C.2.1 dMo_section_56 (lv_at hl 0 rfl) ?_
            refine zcalli (wr := [(gf, .inl (cL, 200, .inr (.inl (fL AFr)))), (gt, .inl (cL, 200, .inr (.inl (fL ATo))))]) C hW [0, 1, 2] [3, 4] rfl rfl (by decide) (by decide) (zRunV (k := 3) (As := [.int (zI vw), .long (zL q), .int (zI j)]) (rest := []) C hW (m_isCut l D cI cG cL cB m0 v wi hi bn af at_ dr sz au ap ab ae ah kp ks ku kq kb ke kh als gf gt ses sf st les ef et mes xa xf xt xr lb lbs so From To vw q j bFrom bTo (by omega) (by omega) (by omega) (by omega) (by omega) (by omega) (by omega) (by omega) H.size) [0, 1, 2] rfl (by decide) kMo_202 (by decide +kernel) ⟨by decide, by decide⟩ 0 rfl rfl rfl hl.1 (Nat.le_of_ble_eq_true rfl) dMo_section_58 ⟨by first | decide | omega, by first | decide | omega⟩) (fun x w H locs hq hW => ?_)
            obtain ⟨rfl, rfl⟩ := hq
            have hW : zw D zCl A s [(gf, .inl (cL, 200, .inr (.inl (fL AFr)))), (gt, .inl (cL, 200, .inr (.inl (fL ATo)))), (m0, .inr (10, [.int (zI v), .long (zL wi), .long (zL hi), .int (zI bn), .ref af, .ref at_, .int (zI dr), .int (zI sz), .ref au, .ref ap, .ref ab, .ref ae, .ref ah, .int (zI kp), .int (zI ks), .ref ku, .ref kq, .ref kb, .ref ke, .ref kh, .int (zI als), .ref gf, .ref gt, .int (zI ses), .ref sf, .ref st, .int (zI les), .ref ef, .ref et, .int (zI mes), .ref xa, .ref xf, .ref xt, .ref xr, .ref lb, .int (zI lbs), .ref so])), (af, .inl (cL, 72, .inr (.inl (fL From)))), (at_, .inl (cL, 72, .inr (.inl (fL To))))] H locs := hW
            have hr10 := bz_01 (mCut From To vw q j)
            refine zif_eq (tgt := 71) C (by omega) dMo_section_61 (by decide) (fun c61 => ?_) (fun c61 => ?_)
            · refine lv_lload C.1 C.2.1 dMo_section_71 (lv_at hl 1 rfl) ?_
              exact L73 n_ (by omega) ls H locs (lv_sub hl [0, 1, 2, 3, 4, 5] rfl) (zwp hW [2, 3, 4, 0, 1] rfl (by decide))
            · refine lv_lload C.1 C.2.1 dMo_section_64 (lv_at hl 1 rfl) ?_
              refine lv_lconst (v := zL 1) C.1 C.2.1 dMo_section_66 (by decide) ?_
              refine zladd C dMo_section_67 ?_
              refine lv_goto (tgt := 73) C.1 C.2.1 dMo_section_68 (by decide) ?_
              exact L73 (n_ + 1) (by omega) ls H locs (lv_sub hl [0, 1, 2, 3, 4, 5] rfl) (zwp hW [2, 3, 4, 0, 1] rfl (by decide))
      exact L44 _ 0 0 (Nat.lt_succ_self _) (by omega) (by omega) rfl ls H locs (lv_sub hl [0, 1, 2, 3, 4, 5] rfl) hW
    · refine lv_lconst (v := zL 0) C.1 C.2.1 dMo_section_36 (by decide) ?_
      exact hQ (zL 0) _ H locs _ _ _ ls hW ⟨_, 0, als, AFr, ATo, bAFr, bATo, (by rw [if_neg (by omega)]; omega), (fun h => by omega), rfl, rfl⟩ (by omega) (by omega) dMo_section_37
  refine lv_iload_n C.1 C.2.1 dMo_section_1 rfl (lv_at hl 1 rfl) ?_
  refine zif_lt (tgt := 21) C (by omega) dMo_section_2 (by decide) (fun c2 => ?_) (fun c2 => ?_)
  · refine lv_iconst (v := zI 1) C.1 C.2.1 dMo_section_21 (by decide) ?_
    refine lv_goto (tgt := 26) C.1 C.2.1 dMo_section_22 (by decide) ?_
    exact L26 1 (by omega) ls H locs (lv_sub hl [0, 1, 2, 3] rfl) hW
  · refine lv_iload_n C.1 C.2.1 dMo_section_5 rfl (lv_at hl 1 rfl) ?_
    refine lv_iconst (v := zI 5) C.1 C.2.1 dMo_section_6 (by decide) ?_
    refine zicmp_gt (tgt := 21) C (by omega) (by omega) dMo_section_7 (by decide) (fun c7 => ?_) (fun c7 => ?_)
    · refine lv_iconst (v := zI 1) C.1 C.2.1 dMo_section_21 (by decide) ?_
      refine lv_goto (tgt := 26) C.1 C.2.1 dMo_section_22 (by decide) ?_
      exact L26 1 (by omega) ls H locs (lv_sub hl [0, 1, 2, 3] rfl) hW
    · refine lv_iload C.1 C.2.1 dMo_section_10 (lv_at hl 3 rfl) ?_
      refine zif_lt (tgt := 21) C (by omega) dMo_section_12 (by decide) (fun c12 => ?_) (fun c12 => ?_)
      · refine lv_iconst (v := zI 1) C.1 C.2.1 dMo_section_21 (by decide) ?_
        refine lv_goto (tgt := 26) C.1 C.2.1 dMo_section_22 (by decide) ?_
        exact L26 1 (by omega) ls H locs (lv_sub hl [0, 1, 2, 3] rfl) hW
      · refine lv_iload C.1 C.2.1 dMo_section_15 (lv_at hl 3 rfl) ?_
        refine lv_iconst (v := zI 1) C.1 C.2.1 dMo_section_17 (by decide) ?_
        refine zicmp_le (tgt := 25) C (by omega) (by omega) dMo_section_18 (by decide) (fun c18 => ?_) (fun c18 => ?_)
        · refine lv_iconst (v := zI 0) C.1 C.2.1 dMo_section_25 (by decide) ?_
          exact L26 0 (by omega) ls H locs (lv_sub hl [0, 1, 2, 3] rfl) hW
        · refine lv_iconst (v := zI 1) C.1 C.2.1 dMo_section_21 (by decide) ?_
          refine lv_goto (tgt := 26) C.1 C.2.1 dMo_section_22 (by decide) ?_
          exact L26 1 (by omega) ls H locs (lv_sub hl [0, 1, 2, 3] rfl) hW
