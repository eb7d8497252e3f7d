theorem dMo_addEdge_0 : decode cMo_addEdge 0 = .ok (.aload_n 0, 1) := by decide +kernel
theorem dMo_addEdge_1 : decode cMo_addEdge 1 = .ok (.getfield 47, 3) := by decide +kernel
theorem dMo_addEdge_4 : decode cMo_addEdge 4 = .ok (.aload_n 0, 1) := by decide +kernel
theorem dMo_addEdge_5 : decode cMo_addEdge 5 = .ok (.getfield 131, 3) := by decide +kernel
theorem dMo_addEdge_8 : decode cMo_addEdge 8 = .ok (.aload_n 0, 1) := by decide +kernel
theorem dMo_addEdge_9 : decode cMo_addEdge 9 = .ok (.getfield 7, 3) := by decide +kernel
theorem dMo_addEdge_12 : decode cMo_addEdge 12 = .ok (.iconst 3, 1) := by decide +kernel
theorem dMo_addEdge_13 : decode cMo_addEdge 13 = .ok (.iload 8, 2) := by decide +kernel
theorem dMo_addEdge_15 : decode cMo_addEdge 15 = .ok (.imul, 1) := by decide +kernel
theorem dMo_addEdge_16 : decode cMo_addEdge 16 = .ok (.iload_n 2, 1) := by decide +kernel
theorem dMo_addEdge_17 : decode cMo_addEdge 17 = .ok (.iadd, 1) := by decide +kernel
theorem dMo_addEdge_18 : decode cMo_addEdge 18 = .ok (.laload, 1) := by decide +kernel
theorem dMo_addEdge_19 : decode cMo_addEdge 19 = .ok (.lastore, 1) := by decide +kernel
theorem dMo_addEdge_20 : decode cMo_addEdge 20 = .ok (.aload_n 0, 1) := by decide +kernel
theorem dMo_addEdge_21 : decode cMo_addEdge 21 = .ok (.getfield 50, 3) := by decide +kernel
theorem dMo_addEdge_24 : decode cMo_addEdge 24 = .ok (.aload_n 0, 1) := by decide +kernel
theorem dMo_addEdge_25 : decode cMo_addEdge 25 = .ok (.getfield 131, 3) := by decide +kernel
theorem dMo_addEdge_28 : decode cMo_addEdge 28 = .ok (.aload_n 0, 1) := by decide +kernel
theorem dMo_addEdge_29 : decode cMo_addEdge 29 = .ok (.getfield 13, 3) := by decide +kernel
theorem dMo_addEdge_32 : decode cMo_addEdge 32 = .ok (.iconst 3, 1) := by decide +kernel
theorem dMo_addEdge_33 : decode cMo_addEdge 33 = .ok (.iload 8, 2) := by decide +kernel
theorem dMo_addEdge_35 : decode cMo_addEdge 35 = .ok (.imul, 1) := by decide +kernel
theorem dMo_addEdge_36 : decode cMo_addEdge 36 = .ok (.iload_n 2, 1) := by decide +kernel
theorem dMo_addEdge_37 : decode cMo_addEdge 37 = .ok (.iadd, 1) := by decide +kernel
theorem dMo_addEdge_38 : decode cMo_addEdge 38 = .ok (.laload, 1) := by decide +kernel
theorem dMo_addEdge_39 : decode cMo_addEdge 39 = .ok (.lastore, 1) := by decide +kernel
theorem dMo_addEdge_40 : decode cMo_addEdge 40 = .ok (.aload_n 0, 1) := by decide +kernel
theorem dMo_addEdge_41 : decode cMo_addEdge 41 = .ok (.dup, 1) := by decide +kernel
theorem dMo_addEdge_42 : decode cMo_addEdge 42 = .ok (.getfield 131, 3) := by decide +kernel
theorem dMo_addEdge_45 : decode cMo_addEdge 45 = .ok (.iconst 1, 1) := by decide +kernel
theorem dMo_addEdge_46 : decode cMo_addEdge 46 = .ok (.iadd, 1) := by decide +kernel
theorem dMo_addEdge_47 : decode cMo_addEdge 47 = .ok (.putfield 131, 3) := by decide +kernel
theorem dMo_addEdge_50 : decode cMo_addEdge 50 = .ok (.aload_n 0, 1) := by decide +kernel
theorem dMo_addEdge_51 : decode cMo_addEdge 51 = .ok (.iconst 1, 1) := by decide +kernel
theorem dMo_addEdge_52 : decode cMo_addEdge 52 = .ok (.putfield 128, 3) := by decide +kernel
theorem dMo_addEdge_55 : decode cMo_addEdge 55 = .ok (.aload_n 0, 1) := by decide +kernel
theorem dMo_addEdge_56 : decode cMo_addEdge 56 = .ok (.getfield 59, 3) := by decide +kernel
theorem dMo_addEdge_59 : decode cMo_addEdge 59 = .ok (.iconst 0, 1) := by decide +kernel
theorem dMo_addEdge_60 : decode cMo_addEdge 60 = .ok (.aload_n 0, 1) := by decide +kernel
theorem dMo_addEdge_61 : decode cMo_addEdge 61 = .ok (.getfield 7, 3) := by decide +kernel
theorem dMo_addEdge_64 : decode cMo_addEdge 64 = .ok (.iconst 3, 1) := by decide +kernel
theorem dMo_addEdge_65 : decode cMo_addEdge 65 = .ok (.iload 8, 2) := by decide +kernel
theorem dMo_addEdge_67 : decode cMo_addEdge 67 = .ok (.imul, 1) := by decide +kernel
theorem dMo_addEdge_68 : decode cMo_addEdge 68 = .ok (.iload_n 2, 1) := by decide +kernel
theorem dMo_addEdge_69 : decode cMo_addEdge 69 = .ok (.iadd, 1) := by decide +kernel
theorem dMo_addEdge_70 : decode cMo_addEdge 70 = .ok (.laload, 1) := by decide +kernel
theorem dMo_addEdge_71 : decode cMo_addEdge 71 = .ok (.lastore, 1) := by decide +kernel
theorem dMo_addEdge_72 : decode cMo_addEdge 72 = .ok (.aload_n 0, 1) := by decide +kernel
theorem dMo_addEdge_73 : decode cMo_addEdge 73 = .ok (.getfield 62, 3) := by decide +kernel
theorem dMo_addEdge_76 : decode cMo_addEdge 76 = .ok (.iconst 0, 1) := by decide +kernel
theorem dMo_addEdge_77 : decode cMo_addEdge 77 = .ok (.aload_n 0, 1) := by decide +kernel
theorem dMo_addEdge_78 : decode cMo_addEdge 78 = .ok (.getfield 13, 3) := by decide +kernel
theorem dMo_addEdge_81 : decode cMo_addEdge 81 = .ok (.iconst 3, 1) := by decide +kernel
theorem dMo_addEdge_82 : decode cMo_addEdge 82 = .ok (.iload 8, 2) := by decide +kernel
theorem dMo_addEdge_84 : decode cMo_addEdge 84 = .ok (.imul, 1) := by decide +kernel
theorem dMo_addEdge_85 : decode cMo_addEdge 85 = .ok (.iload_n 2, 1) := by decide +kernel
theorem dMo_addEdge_86 : decode cMo_addEdge 86 = .ok (.iadd, 1) := by decide +kernel
theorem dMo_addEdge_87 : decode cMo_addEdge 87 = .ok (.laload, 1) := by decide +kernel
theorem dMo_addEdge_88 : decode cMo_addEdge 88 = .ok (.lastore, 1) := by decide +kernel
theorem dMo_addEdge_89 : decode cMo_addEdge 89 = .ok (.iconst 0, 1) := by decide +kernel
theorem dMo_addEdge_90 : decode cMo_addEdge 90 = .ok (.istore 9, 2) := by decide +kernel
theorem dMo_addEdge_92 : decode cMo_addEdge 92 = .ok (.iload 9, 2) := by decide +kernel
theorem dMo_addEdge_94 : decode cMo_addEdge 94 = .ok (.aload_n 0, 1) := by decide +kernel
theorem dMo_addEdge_95 : decode cMo_addEdge 95 = .ok (.getfield 105, 3) := by decide +kernel
theorem dMo_addEdge_98 : decode cMo_addEdge 98 = .ok (.if_icmp .ge 82, 3) := by decide +kernel
theorem dMo_addEdge_101 : decode cMo_addEdge 101 = .ok (.aload_n 0, 1) := by decide +kernel
theorem dMo_addEdge_102 : decode cMo_addEdge 102 = .ok (.getfield 7, 3) := by decide +kernel
theorem dMo_addEdge_105 : decode cMo_addEdge 105 = .ok (.iconst 3, 1) := by decide +kernel
theorem dMo_addEdge_106 : decode cMo_addEdge 106 = .ok (.iload 9, 2) := by decide +kernel
theorem dMo_addEdge_108 : decode cMo_addEdge 108 = .ok (.imul, 1) := by decide +kernel
theorem dMo_addEdge_109 : decode cMo_addEdge 109 = .ok (.iload_n 3, 1) := by decide +kernel
theorem dMo_addEdge_110 : decode cMo_addEdge 110 = .ok (.iadd, 1) := by decide +kernel
theorem dMo_addEdge_111 : decode cMo_addEdge 111 = .ok (.laload, 1) := by decide +kernel
theorem dMo_addEdge_112 : decode cMo_addEdge 112 = .ok (.lload 4, 2) := by decide +kernel
theorem dMo_addEdge_114 : decode cMo_addEdge 114 = .ok (.lcmp, 1) := by decide +kernel
theorem dMo_addEdge_115 : decode cMo_addEdge 115 = .ok (.ifCond .ge 59, 3) := by decide +kernel
theorem dMo_addEdge_118 : decode cMo_addEdge 118 = .ok (.aload_n 0, 1) := by decide +kernel
theorem dMo_addEdge_119 : decode cMo_addEdge 119 = .ok (.getfield 13, 3) := by decide +kernel
theorem dMo_addEdge_122 : decode cMo_addEdge 122 = .ok (.iconst 3, 1) := by decide +kernel
theorem dMo_addEdge_123 : decode cMo_addEdge 123 = .ok (.iload 9, 2) := by decide +kernel
theorem dMo_addEdge_125 : decode cMo_addEdge 125 = .ok (.imul, 1) := by decide +kernel
theorem dMo_addEdge_126 : decode cMo_addEdge 126 = .ok (.iload_n 3, 1) := by decide +kernel
theorem dMo_addEdge_127 : decode cMo_addEdge 127 = .ok (.iadd, 1) := by decide +kernel
theorem dMo_addEdge_128 : decode cMo_addEdge 128 = .ok (.laload, 1) := by decide +kernel
theorem dMo_addEdge_129 : decode cMo_addEdge 129 = .ok (.lload 4, 2) := by decide +kernel
theorem dMo_addEdge_131 : decode cMo_addEdge 131 = .ok (.lcmp, 1) := by decide +kernel
theorem dMo_addEdge_132 : decode cMo_addEdge 132 = .ok (.ifCond .le 42, 3) := by decide +kernel
theorem dMo_addEdge_135 : decode cMo_addEdge 135 = .ok (.aload_n 0, 1) := by decide +kernel
theorem dMo_addEdge_136 : decode cMo_addEdge 136 = .ok (.iload_n 1, 1) := by decide +kernel
theorem dMo_addEdge_137 : decode cMo_addEdge 137 = .ok (.iload 9, 2) := by decide +kernel
theorem dMo_addEdge_139 : decode cMo_addEdge 139 = .ok (.invokevirtual 134, 3) := by decide +kernel
theorem dMo_addEdge_142 : decode cMo_addEdge 142 = .ok (.lload 6, 2) := by decide +kernel
theorem dMo_addEdge_144 : decode cMo_addEdge 144 = .ok (.lcmp, 1) := by decide +kernel
theorem dMo_addEdge_145 : decode cMo_addEdge 145 = .ok (.ifCond .ge 29, 3) := by decide +kernel
theorem dMo_addEdge_148 : decode cMo_addEdge 148 = .ok (.aload_n 0, 1) := by decide +kernel
theorem dMo_addEdge_149 : decode cMo_addEdge 149 = .ok (.aload_n 0, 1) := by decide +kernel
theorem dMo_addEdge_150 : decode cMo_addEdge 150 = .ok (.getfield 7, 3) := by decide +kernel
theorem dMo_addEdge_153 : decode cMo_addEdge 153 = .ok (.iconst 3, 1) := by decide +kernel
theorem dMo_addEdge_154 : decode cMo_addEdge 154 = .ok (.iload 9, 2) := by decide +kernel
theorem dMo_addEdge_156 : decode cMo_addEdge 156 = .ok (.imul, 1) := by decide +kernel
theorem dMo_addEdge_157 : decode cMo_addEdge 157 = .ok (.iload_n 2, 1) := by decide +kernel
theorem dMo_addEdge_158 : decode cMo_addEdge 158 = .ok (.iadd, 1) := by decide +kernel
theorem dMo_addEdge_159 : decode cMo_addEdge 159 = .ok (.laload, 1) := by decide +kernel
theorem dMo_addEdge_160 : decode cMo_addEdge 160 = .ok (.aload_n 0, 1) := by decide +kernel
theorem dMo_addEdge_161 : decode cMo_addEdge 161 = .ok (.getfield 13, 3) := by decide +kernel
theorem dMo_addEdge_164 : decode cMo_addEdge 164 = .ok (.iconst 3, 1) := by decide +kernel
theorem dMo_addEdge_165 : decode cMo_addEdge 165 = .ok (.iload 9, 2) := by decide +kernel
theorem dMo_addEdge_167 : decode cMo_addEdge 167 = .ok (.imul, 1) := by decide +kernel
theorem dMo_addEdge_168 : decode cMo_addEdge 168 = .ok (.iload_n 2, 1) := by decide +kernel
theorem dMo_addEdge_169 : decode cMo_addEdge 169 = .ok (.iadd, 1) := by decide +kernel
theorem dMo_addEdge_170 : decode cMo_addEdge 170 = .ok (.laload, 1) := by decide +kernel
theorem dMo_addEdge_171 : decode cMo_addEdge 171 = .ok (.invokevirtual 138, 3) := by decide +kernel
theorem dMo_addEdge_174 : decode cMo_addEdge 174 = .ok (.iinc 9 1, 3) := by decide +kernel
theorem dMo_addEdge_177 : decode cMo_addEdge 177 = .ok (.goto (-85), 3) := by decide +kernel
theorem dMo_addEdge_180 : decode cMo_addEdge 180 = .ok (.iconst 0, 1) := by decide +kernel
theorem dMo_addEdge_181 : decode cMo_addEdge 181 = .ok (.istore 9, 2) := by decide +kernel
theorem dMo_addEdge_183 : decode cMo_addEdge 183 = .ok (.iload 9, 2) := by decide +kernel
theorem dMo_addEdge_185 : decode cMo_addEdge 185 = .ok (.aload_n 0, 1) := by decide +kernel
theorem dMo_addEdge_186 : decode cMo_addEdge 186 = .ok (.getfield 128, 3) := by decide +kernel
theorem dMo_addEdge_189 : decode cMo_addEdge 189 = .ok (.if_icmp .ge 69, 3) := by decide +kernel
theorem dMo_addEdge_192 : decode cMo_addEdge 192 = .ok (.aload_n 0, 1) := by decide +kernel
theorem dMo_addEdge_193 : decode cMo_addEdge 193 = .ok (.getfield 59, 3) := by decide +kernel
theorem dMo_addEdge_196 : decode cMo_addEdge 196 = .ok (.iload 9, 2) := by decide +kernel
theorem dMo_addEdge_198 : decode cMo_addEdge 198 = .ok (.laload, 1) := by decide +kernel
theorem dMo_addEdge_199 : decode cMo_addEdge 199 = .ok (.aload_n 0, 1) := by decide +kernel
theorem dMo_addEdge_200 : decode cMo_addEdge 200 = .ok (.getfield 62, 3) := by decide +kernel
theorem dMo_addEdge_203 : decode cMo_addEdge 203 = .ok (.iload 9, 2) := by decide +kernel
theorem dMo_addEdge_205 : decode cMo_addEdge 205 = .ok (.laload, 1) := by decide +kernel
theorem dMo_addEdge_206 : decode cMo_addEdge 206 = .ok (.lcmp, 1) := by decide +kernel
theorem dMo_addEdge_207 : decode cMo_addEdge 207 = .ok (.ifCond .ge 45, 3) := by decide +kernel
theorem dMo_addEdge_210 : decode cMo_addEdge 210 = .ok (.aload_n 0, 1) := by decide +kernel
theorem dMo_addEdge_211 : decode cMo_addEdge 211 = .ok (.getfield 53, 3) := by decide +kernel
theorem dMo_addEdge_214 : decode cMo_addEdge 214 = .ok (.aload_n 0, 1) := by decide +kernel
theorem dMo_addEdge_215 : decode cMo_addEdge 215 = .ok (.getfield 142, 3) := by decide +kernel
theorem dMo_addEdge_218 : decode cMo_addEdge 218 = .ok (.aload_n 0, 1) := by decide +kernel
theorem dMo_addEdge_219 : decode cMo_addEdge 219 = .ok (.getfield 59, 3) := by decide +kernel
theorem dMo_addEdge_222 : decode cMo_addEdge 222 = .ok (.iload 9, 2) := by decide +kernel
theorem dMo_addEdge_224 : decode cMo_addEdge 224 = .ok (.laload, 1) := by decide +kernel
theorem dMo_addEdge_225 : decode cMo_addEdge 225 = .ok (.lastore, 1) := by decide +kernel
theorem dMo_addEdge_226 : decode cMo_addEdge 226 = .ok (.aload_n 0, 1) := by decide +kernel
theorem dMo_addEdge_227 : decode cMo_addEdge 227 = .ok (.getfield 56, 3) := by decide +kernel
theorem dMo_addEdge_230 : decode cMo_addEdge 230 = .ok (.aload_n 0, 1) := by decide +kernel
theorem dMo_addEdge_231 : decode cMo_addEdge 231 = .ok (.getfield 142, 3) := by decide +kernel
theorem dMo_addEdge_234 : decode cMo_addEdge 234 = .ok (.aload_n 0, 1) := by decide +kernel
theorem dMo_addEdge_235 : decode cMo_addEdge 235 = .ok (.getfield 62, 3) := by decide +kernel
theorem dMo_addEdge_238 : decode cMo_addEdge 238 = .ok (.iload 9, 2) := by decide +kernel
theorem dMo_addEdge_240 : decode cMo_addEdge 240 = .ok (.laload, 1) := by decide +kernel
theorem dMo_addEdge_241 : decode cMo_addEdge 241 = .ok (.lastore, 1) := by decide +kernel
theorem dMo_addEdge_242 : decode cMo_addEdge 242 = .ok (.aload_n 0, 1) := by decide +kernel
theorem dMo_addEdge_243 : decode cMo_addEdge 243 = .ok (.dup, 1) := by decide +kernel
theorem dMo_addEdge_244 : decode cMo_addEdge 244 = .ok (.getfield 142, 3) := by decide +kernel
theorem dMo_addEdge_247 : decode cMo_addEdge 247 = .ok (.iconst 1, 1) := by decide +kernel
theorem dMo_addEdge_248 : decode cMo_addEdge 248 = .ok (.iadd, 1) := by decide +kernel
theorem dMo_addEdge_249 : decode cMo_addEdge 249 = .ok (.putfield 142, 3) := by decide +kernel
theorem dMo_addEdge_252 : decode cMo_addEdge 252 = .ok (.iinc 9 1, 3) := by decide +kernel
theorem dMo_addEdge_255 : decode cMo_addEdge 255 = .ok (.goto (-72), 3) := by decide +kernel
theorem dMo_addEdge_258 : decode cMo_addEdge 258 = .ok (.return_, 1) := by decide +kernel
set_option maxRecDepth 100000 in
theorem kMo_134 : inT (kV "PartDrawingsModel" 134 yMo_front cMo_front 4 (some .long)) := gW_l [1370, 1372, 24, 61, 1373] rfl (by decide +kernel)
set_option maxRecDepth 100000 in
theorem kMo_138 : inT (kV "PartDrawingsModel" 138 yMo_takeOff cMo_takeOff 11 none) := gW_l [1381, 1383, 26, 61, 1384] rfl (by decide +kernel)
set_option maxHeartbeats 4000000 in
set_option maxRecDepth 100000 in
theorem m_addEdge (l : Launch) (D : va_G) (cI cG cL cB : ClassId) (m0 : Nat) (cd : Int) (wi : Int) (hi : Int) (bn : Int) (af : Nat) (at_ : Nat) (dr : Int) (sz : Int) (au : Nat) (ap : Nat) (ab : Nat) (ae : Nat) (ah : Nat) (kp : Int) (ks : Int) (ku : Nat) (kq : Nat) (kb : Nat) (ke : Nat) (kh : Nat) (als : Int) (gf : Nat) (gt : Nat) (ses : Int) (sf : Nat) (st : Nat) (les : Int) (ef : Nat) (et : Nat) (mes : Int) (xa : Nat) (xf : Nat) (xt : Nat) (xr : Nat) (lb : Nat) (lbs : Int) (so : Nat) (From : Int → Int) (To : Int → Int) (AFr : Int → Int) (ATo : Int → Int) (LFr : Int → Int) (LTo : Int → Int) (SFr : Int → Int) (STo : Int → Int) (vw : Int) (al : Int) (be_ : Int) (pl : Int) (dp : Int) (bx : Int) (bFrom : ∀ j : Int, I64 (From j)) (bTo : ∀ j : Int, I64 (To j)) (bAFr : ∀ j : Int, I64 (AFr j)) (bATo : ∀ j : Int, I64 (ATo j)) (bLFr : ∀ j : Int, I64 (LFr j)) (bLTo : ∀ j : Int, I64 (LTo j)) (bSFr : ∀ j : Int, I64 (SFr j)) (bSTo : ∀ j : Int, I64 (STo j)) (hbn0 : 0 ≤ bn) (hbn1 : bn ≤ 24) (hMB : moB bn From To) (hv0 : 0 ≤ vw) (hv1 : vw < 6) (hal : 0 ≤ al ∧ al ≤ 2) (hbe : 0 ≤ be_ ∧ be_ ≤ 2) (hJpl : I64 pl) (hJdp : I64 dp) (hx0 : 0 ≤ bx) (hx1 : bx < bn) (has0 : 0 ≤ als) (has1 : als < 200) (hss0 : 0 ≤ ses) (hss1 : ses ≤ 5975) (hne0 : neS SFr STo ses) (hiB0 : inB SFr STo ses) : Cv l yMo_addEdge cMo_addEdge 10 none 2 0 0 D zCl (zT cI cG cL cB) [.ref m0, .int (zI vw), .int (zI al), .int (zI be_), .long (zL pl), .long (zL dp), .int (zI bx)] [(m0, .inr (10, [.int (zI cd), .long (zL wi), .long (zL hi), .int (zI bn), .ref af, .ref at_, .int (zI dr), .int (zI sz), .ref au, .ref ap, .ref ab, .ref ae, .ref ah, .int (zI kp), .int (zI ks), .ref ku, .ref kq, .ref kb, .ref ke, .ref kh, .int (zI als), .ref gf, .ref gt, .int (zI ses), .ref sf, .ref st, .int (zI les), .ref ef, .ref et, .int (zI mes), .ref xa, .ref xf, .ref xt, .ref xr, .ref lb, .int (zI lbs), .ref so])), (af, .inl (cL, 72, .inr (.inl (fL From)))), (at_, .inl (cL, 72, .inr (.inl (fL To)))), (gf, .inl (cL, 200, .inr (.inl (fL AFr)))), (gt, .inl (cL, 200, .inr (.inl (fL ATo)))), (ef, .inl (cL, 64, .inr (.inl (fL LFr)))), (et, .inl (cL, 64, .inr (.inl (fL LTo)))), (sf, .inl (cL, 6000, .inr (.inl (fL SFr)))), (st, .inl (cL, 6000, .inr (.inl (fL STo))))] (fun w => ∃ les2 : Int, ∃ LFr2 : Int → Int, ∃ LTo2 : Int → Int, ∃ ses2 : Int, ∃ SFr2 : Int → Int, ∃ STo2 : Int → Int, (∀ j : Int, I64 (LFr2 j)) ∧ (∀ j : Int, I64 (LTo2 j)) ∧ (∀ j : Int, I64 (SFr2 j)) ∧ (∀ j : Int, I64 (STo2 j)) ∧ (ses ≤ ses2 ∧ ses2 ≤ ses + 25) ∧ (neS SFr2 STo2 ses2) ∧ (inB SFr2 STo2 ses2) ∧ (∀ t : Int, LC SFr2 STo2 ses2 t ↔ LC SFr STo ses t ∨ ((From (3 * bx + al) ≤ t ∧ t < To (3 * bx + al)) ∧ ¬ covB From To vw al be_ pl dp bn t)) ∧ w = [(m0, .inr (10, [.int (zI cd), .long (zL wi), .long (zL hi), .int (zI bn), .ref af, .ref at_, .int (zI dr), .int (zI sz), .ref au, .ref ap, .ref ab, .ref ae, .ref ah, .int (zI kp), .int (zI ks), .ref ku, .ref kq, .ref kb, .ref ke, .ref kh, .int (zI (als + 1)), .ref gf, .ref gt, .int (zI ses2), .ref sf, .ref st, .int (zI les2), .ref ef, .ref et, .int (zI mes), .ref xa, .ref xf, .ref xt, .ref xr, .ref lb, .int (zI lbs), .ref so])), (af, .inl (cL, 72, .inr (.inl (fL From)))), (at_, .inl (cL, 72, .inr (.inl (fL To)))), (gf, .inl (cL, 200, .inr (.inl (fL (upz AFr als (From (3 * bx + al))))))), (gt, .inl (cL, 200, .inr (.inl (fL (upz ATo als (To (3 * bx + al))))))), (ef, .inl (cL, 64, .inr (.inl (fL LFr2)))), (et, .inl (cL, 64, .inr (.inl (fL LTo2)))), (sf, .inl (cL, 6000, .inr (.inl (fL SFr2)))), (st, .inl (cL, 6000, .inr (.inl (fL STo2))))]) := by
  refine zBv (by decide) (Nat.le_of_ble_eq_true rfl) ?_
  intro p e s m args below meth c ls A H locs Q C hin hl hW hQ
  have hl : lv_has ls 10 [(0, .ref m0), (1, .int (zI vw)), (2, .int (zI al)), (3, .int (zI be_)), (4, .long (zL pl)), (6, .long (zL dp)), (8, .int (zI bx))] := hl
  have hmx := hMB (3 * bx + al) (by omega) (by omega)
  refine lv_aload_n C.1 C.2.1 dMo_addEdge_0 rfl (lv_at hl 0 rfl) ?_
  refine zget C hW 0 21 rfl rfl inMo (by decide) flMo_47 rfl dMo_addEdge_1 ?_
  refine lv_aload_n C.1 C.2.1 dMo_addEdge_4 rfl (lv_at hl 0 rfl) ?_
  refine zget C hW 0 20 rfl rfl inMo (by decide) flMo_131 rfl dMo_addEdge_5 ?_
  refine lv_aload_n C.1 C.2.1 dMo_addEdge_8 rfl (lv_at hl 0 rfl) ?_
  refine zget C hW 0 4 rfl rfl inMo (by decide) flMo_7 rfl dMo_addEdge_9 ?_
  refine lv_iconst (v := zI 3) C.1 C.2.1 dMo_addEdge_12 (by decide) ?_
  refine lv_iload C.1 C.2.1 dMo_addEdge_13 (lv_at hl 6 rfl) ?_
  refine zimul C dMo_addEdge_15 ?_
  refine lv_iload_n C.1 C.2.1 dMo_addEdge_16 rfl (lv_at hl 2 rfl) ?_
  refine ziadd C dMo_addEdge_17 ?_
  refine zlald C hW 1 2 rfl rfl (by omega) (by omega) (by decide) dMo_addEdge_18 ?_
  have hb1 := bFrom ((3 * bx) + al)
  refine zlast C hW 3 2 rfl rfl (by omega) (by omega) (by decide) dMo_addEdge_19 (fun H locs hW => ?_)
  have hB2 : ∀ jj : Int, I64 ((upz AFr als (From ((3 * bx) + al))) jj) := upz_bL bAFr (by omega)
  have hW : zw D zCl A s [(m0, .inr (10, [.int (zI cd), .long (zL wi), .long (zL hi), .int (zI bn), .ref af, .ref at_, .int (zI dr), .int (zI sz), .ref au, .ref ap, .ref ab, .ref ae, .ref ah, .int (zI kp), .int (zI ks), .ref ku, .ref kq, .ref kb, .ref ke, .ref kh, .int (zI als), .ref gf, .ref gt, .int (zI ses), .ref sf, .ref st, .int (zI les), .ref ef, .ref et, .int (zI mes), .ref xa, .ref xf, .ref xt, .ref xr, .ref lb, .int (zI lbs), .ref so])), (af, .inl (cL, 72, .inr (.inl (fL From)))), (at_, .inl (cL, 72, .inr (.inl (fL To)))), (gf, .inl (cL, 200, .inr (.inl (fL (upz AFr als (From ((3 * bx) + al))))))), (gt, .inl (cL, 200, .inr (.inl (fL ATo)))), (ef, .inl (cL, 64, .inr (.inl (fL LFr)))), (et, .inl (cL, 64, .inr (.inl (fL LTo)))), (sf, .inl (cL, 6000, .inr (.inl (fL SFr)))), (st, .inl (cL, 6000, .inr (.inl (fL STo))))] H locs := hW
  refine lv_aload_n C.1 C.2.1 dMo_addEdge_20 rfl (lv_at hl 0 rfl) ?_
  refine zget C hW 0 22 rfl rfl inMo (by decide) flMo_50 rfl dMo_addEdge_21 ?_
  refine lv_aload_n C.1 C.2.1 dMo_addEdge_24 rfl (lv_at hl 0 rfl) ?_
  refine zget C hW 0 20 rfl rfl inMo (by decide) flMo_131 rfl dMo_addEdge_25 ?_
  refine lv_aload_n C.1 C.2.1 dMo_addEdge_28 rfl (lv_at hl 0 rfl) ?_
  refine zget C hW 0 5 rfl rfl inMo (by decide) flMo_13 rfl dMo_addEdge_29 ?_
  refine lv_iconst (v := zI 3) C.1 C.2.1 dMo_addEdge_32 (by decide) ?_
  refine lv_iload C.1 C.2.1 dMo_addEdge_33 (lv_at hl 6 rfl) ?_
  refine zimul C dMo_addEdge_35 ?_
  refine lv_iload_n C.1 C.2.1 dMo_addEdge_36 rfl (lv_at hl 2 rfl) ?_
  refine ziadd C dMo_addEdge_37 ?_
  refine zlald C hW 2 2 rfl rfl (by omega) (by omega) (by decide) dMo_addEdge_38 ?_
  have hb3 := bTo ((3 * bx) + al)
  refine zlast C hW 4 2 rfl rfl (by omega) (by omega) (by decide) dMo_addEdge_39 (fun H locs hW => ?_)
  have hB4 : ∀ jj : Int, I64 ((upz ATo als (To ((3 * bx) + al))) jj) := upz_bL bATo (by omega)
  have hW : zw D zCl A s [(m0, .inr (10, [.int (zI cd), .long (zL wi), .long (zL hi), .int (zI bn), .ref af, .ref at_, .int (zI dr), .int (zI sz), .ref au, .ref ap, .ref ab, .ref ae, .ref ah, .int (zI kp), .int (zI ks), .ref ku, .ref kq, .ref kb, .ref ke, .ref kh, .int (zI als), .ref gf, .ref gt, .int (zI ses), .ref sf, .ref st, .int (zI les), .ref ef, .ref et, .int (zI mes), .ref xa, .ref xf, .ref xt, .ref xr, .ref lb, .int (zI lbs), .ref so])), (af, .inl (cL, 72, .inr (.inl (fL From)))), (at_, .inl (cL, 72, .inr (.inl (fL To)))), (gf, .inl (cL, 200, .inr (.inl (fL (upz AFr als (From ((3 * bx) + al))))))), (gt, .inl (cL, 200, .inr (.inl (fL (upz ATo als (To ((3 * bx) + al))))))), (ef, .inl (cL, 64, .inr (.inl (fL LFr)))), (et, .inl (cL, 64, .inr (.inl (fL LTo)))), (sf, .inl (cL, 6000, .inr (.inl (fL SFr)))), (st, .inl (cL, 6000, .inr (.inl (fL STo))))] H locs := hW
  refine lv_aload_n C.1 C.2.1 dMo_addEdge_40 rfl (lv_at hl 0 rfl) ?_
  refine lv_dup C.1 C.2.1 dMo_addEdge_41 rfl ?_
  refine zget C hW 0 20 rfl rfl inMo (by decide) flMo_131 rfl dMo_addEdge_42 ?_
  refine lv_iconst (v := zI 1) C.1 C.2.1 dMo_addEdge_45 (by decide) ?_
  refine ziadd C dMo_addEdge_46 ?_
  refine zput C hW 0 20 tyMo tyMo_ok nmMo rfl rfl inMo (by decide) flMo_131 rfl rfl rfl rfl (Nat.le_of_ble_eq_true rfl) dMo_addEdge_47 (fun H locs hW => ?_)
  have hW : zw D zCl A s [(m0, .inr (10, [.int (zI cd), .long (zL wi), .long (zL hi), .int (zI bn), .ref af, .ref at_, .int (zI dr), .int (zI sz), .ref au, .ref ap, .ref ab, .ref ae, .ref ah, .int (zI kp), .int (zI ks), .ref ku, .ref kq, .ref kb, .ref ke, .ref kh, .int (zI (als + 1)), .ref gf, .ref gt, .int (zI ses), .ref sf, .ref st, .int (zI les), .ref ef, .ref et, .int (zI mes), .ref xa, .ref xf, .ref xt, .ref xr, .ref lb, .int (zI lbs), .ref so])), (af, .inl (cL, 72, .inr (.inl (fL From)))), (at_, .inl (cL, 72, .inr (.inl (fL To)))), (gf, .inl (cL, 200, .inr (.inl (fL (upz AFr als (From ((3 * bx) + al))))))), (gt, .inl (cL, 200, .inr (.inl (fL (upz ATo als (To ((3 * bx) + al))))))), (ef, .inl (cL, 64, .inr (.inl (fL LFr)))), (et, .inl (cL, 64, .inr (.inl (fL LTo)))), (sf, .inl (cL, 6000, .inr (.inl (fL SFr)))), (st, .inl (cL, 6000, .inr (.inl (fL STo))))] H locs := hW
  refine lv_aload_n C.1 C.2.1 dMo_addEdge_50 rfl (lv_at hl 0 rfl) ?_
  refine lv_iconst (v := zI 1) C.1 C.2.1 dMo_addEdge_51 (by decide) ?_
  refine zput C hW 0 26 tyMo tyMo_ok nmMo rfl rfl inMo (by decide) flMo_128 rfl rfl rfl rfl (Nat.le_of_ble_eq_true rfl) dMo_addEdge_52 (fun H locs hW => ?_)
  have hW : zw D zCl A s [(m0, .inr (10, [.int (zI cd), .long (zL wi), .long (zL hi), .int (zI bn), .ref af, .ref at_, .int (zI dr), .int (zI sz), .ref au, .ref ap, .ref ab, .ref ae, .ref ah, .int (zI kp), .int (zI ks), .ref ku, .ref kq, .ref kb, .ref ke, .ref kh, .int (zI (als + 1)), .ref gf, .ref gt, .int (zI ses), .ref sf, .ref st, .int (zI 1), .ref ef, .ref et, .int (zI mes), .ref xa, .ref xf, .ref xt, .ref xr, .ref lb, .int (zI lbs), .ref so])), (af, .inl (cL, 72, .inr (.inl (fL From)))), (at_, .inl (cL, 72, .inr (.inl (fL To)))), (gf, .inl (cL, 200, .inr (.inl (fL (upz AFr als (From ((3 * bx) + al))))))), (gt, .inl (cL, 200, .inr (.inl (fL (upz ATo als (To ((3 * bx) + al))))))), (ef, .inl (cL, 64, .inr (.inl (fL LFr)))), (et, .inl (cL, 64, .inr (.inl (fL LTo)))), (sf, .inl (cL, 6000, .inr (.inl (fL SFr)))), (st, .inl (cL, 6000, .inr (.inl (fL STo))))] H locs := hW
  refine lv_aload_n C.1 C.2.1 dMo_addEdge_55 rfl (lv_at hl 0 rfl) ?_
  refine zget C hW 0 27 rfl rfl inMo (by decide) flMo_59 rfl dMo_addEdge_56 ?_
  refine lv_iconst (v := zI 0) C.1 C.2.1 dMo_addEdge_59 (by decide) ?_
  refine lv_aload_n C.1 C.2.1 dMo_addEdge_60 rfl (lv_at hl 0 rfl) ?_
  refine zget C hW 0 4 rfl rfl inMo (by decide) flMo_7 rfl dMo_addEdge_61 ?_
  refine lv_iconst (v := zI 3) C.1 C.2.1 dMo_addEdge_64 (by decide) ?_
  refine lv_iload C.1 C.2.1 dMo_addEdge_65 (lv_at hl 6 rfl) ?_
  refine zimul C dMo_addEdge_67 ?_
  refine lv_iload_n C.1 C.2.1 dMo_addEdge_68 rfl (lv_at hl 2 rfl) ?_
  refine ziadd C dMo_addEdge_69 ?_
  refine zlald C hW 1 2 rfl rfl (by omega) (by omega) (by decide) dMo_addEdge_70 ?_
  have hb5 := bFrom ((3 * bx) + al)
  refine zlast C hW 5 2 rfl rfl (by omega) (by omega) (by decide) dMo_addEdge_71 (fun H locs hW => ?_)
  have hB6 : ∀ jj : Int, I64 ((upz LFr 0 (From ((3 * bx) + al))) jj) := upz_bL bLFr (by omega)
  have hW : zw D zCl A s [(m0, .inr (10, [.int (zI cd), .long (zL wi), .long (zL hi), .int (zI bn), .ref af, .ref at_, .int (zI dr), .int (zI sz), .ref au, .ref ap, .ref ab, .ref ae, .ref ah, .int (zI kp), .int (zI ks), .ref ku, .ref kq, .ref kb, .ref ke, .ref kh, .int (zI (als + 1)), .ref gf, .ref gt, .int (zI ses), .ref sf, .ref st, .int (zI 1), .ref ef, .ref et, .int (zI mes), .ref xa, .ref xf, .ref xt, .ref xr, .ref lb, .int (zI lbs), .ref so])), (af, .inl (cL, 72, .inr (.inl (fL From)))), (at_, .inl (cL, 72, .inr (.inl (fL To)))), (gf, .inl (cL, 200, .inr (.inl (fL (upz AFr als (From ((3 * bx) + al))))))), (gt, .inl (cL, 200, .inr (.inl (fL (upz ATo als (To ((3 * bx) + al))))))), (ef, .inl (cL, 64, .inr (.inl (fL (upz LFr 0 (From ((3 * bx) + al))))))), (et, .inl (cL, 64, .inr (.inl (fL LTo)))), (sf, .inl (cL, 6000, .inr (.inl (fL SFr)))), (st, .inl (cL, 6000, .inr (.inl (fL STo))))] H locs := hW
  refine lv_aload_n C.1 C.2.1 dMo_addEdge_72 rfl (lv_at hl 0 rfl) ?_
  refine zget C hW 0 28 rfl rfl inMo (by decide) flMo_62 rfl dMo_addEdge_73 ?_
  refine lv_iconst (v := zI 0) C.1 C.2.1 dMo_addEdge_76 (by decide) ?_
  refine lv_aload_n C.1 C.2.1 dMo_addEdge_77 rfl (lv_at hl 0 rfl) ?_
  refine zget C hW 0 5 rfl rfl inMo (by decide) flMo_13 rfl dMo_addEdge_78 ?_
  refine lv_iconst (v := zI 3) C.1 C.2.1 dMo_addEdge_81 (by decide) ?_
  refine lv_iload C.1 C.2.1 dMo_addEdge_82 (lv_at hl 6 rfl) ?_
  refine zimul C dMo_addEdge_84 ?_
  refine lv_iload_n C.1 C.2.1 dMo_addEdge_85 rfl (lv_at hl 2 rfl) ?_
  refine ziadd C dMo_addEdge_86 ?_
  refine zlald C hW 2 2 rfl rfl (by omega) (by omega) (by decide) dMo_addEdge_87 ?_
  have hb7 := bTo ((3 * bx) + al)
  refine zlast C hW 6 2 rfl rfl (by omega) (by omega) (by decide) dMo_addEdge_88 (fun H locs hW => ?_)
  have hB8 : ∀ jj : Int, I64 ((upz LTo 0 (To ((3 * bx) + al))) jj) := upz_bL bLTo (by omega)
  have hW : zw D zCl A s [(m0, .inr (10, [.int (zI cd), .long (zL wi), .long (zL hi), .int (zI bn), .ref af, .ref at_, .int (zI dr), .int (zI sz), .ref au, .ref ap, .ref ab, .ref ae, .ref ah, .int (zI kp), .int (zI ks), .ref ku, .ref kq, .ref kb, .ref ke, .ref kh, .int (zI (als + 1)), .ref gf, .ref gt, .int (zI ses), .ref sf, .ref st, .int (zI 1), .ref ef, .ref et, .int (zI mes), .ref xa, .ref xf, .ref xt, .ref xr, .ref lb, .int (zI lbs), .ref so])), (af, .inl (cL, 72, .inr (.inl (fL From)))), (at_, .inl (cL, 72, .inr (.inl (fL To)))), (gf, .inl (cL, 200, .inr (.inl (fL (upz AFr als (From ((3 * bx) + al))))))), (gt, .inl (cL, 200, .inr (.inl (fL (upz ATo als (To ((3 * bx) + al))))))), (ef, .inl (cL, 64, .inr (.inl (fL (upz LFr 0 (From ((3 * bx) + al))))))), (et, .inl (cL, 64, .inr (.inl (fL (upz LTo 0 (To ((3 * bx) + al))))))), (sf, .inl (cL, 6000, .inr (.inl (fL SFr)))), (st, .inl (cL, 6000, .inr (.inl (fL STo))))] H locs := hW
  refine lv_iconst (v := zI 0) C.1 C.2.1 dMo_addEdge_89 (by decide) ?_
  refine lv_istore (lv' := [(9, .int (zI 0)), (0, .ref m0), (1, .int (zI vw)), (2, .int (zI al)), (3, .int (zI be_)), (4, .long (zL pl)), (6, .long (zL dp)), (8, .int (zI bx))]) C.1 C.2.1 dMo_addEdge_90 hl (by decide) rfl (fun ls hl => ?_)
  have L92 : ∀ (N : Nat) (b : Int) (lz : Int) (Lx : Int → Int) (Ly : Int → Int), (bn - b).toNat < N → (0 ≤ b) → (b ≤ bn) → (1 ≤ lz ∧ lz ≤ 1 + b) → (∀ j : Int, I64 (Lx j)) → (∀ j : Int, I64 (Ly j)) → (dsj Lx Ly lz) → (inB Lx Ly lz) → (∀ t : Int, LC Lx Ly lz t ↔ (From (3 * bx + al) ≤ t ∧ t < To (3 * bx + al)) ∧ ¬ covB From To vw al be_ pl dp b t) → ∀ (ls : Array Slot) (H : Heap) (locs : List Loc), lv_has ls 10 [(9, .int (zI b)), (0, .ref m0), (1, .int (zI vw)), (2, .int (zI al)), (3, .int (zI be_)), (4, .long (zL pl)), (6, .long (zL dp)), (8, .int (zI bx))] → zw D zCl A s [(m0, .inr (10, [.int (zI cd), .long (zL wi), .long (zL hi), .int (zI bn), .ref af, .ref at_, .int (zI dr), .int (zI sz), .ref au, .ref ap, .ref ab, .ref ae, .ref ah, .int (zI kp), .int (zI ks), .ref ku, .ref kq, .ref kb, .ref ke, .ref kh, .int (zI (als + 1)), .ref gf, .ref gt, .int (zI ses), .ref sf, .ref st, .int (zI lz), .ref ef, .ref et, .int (zI mes), .ref xa, .ref xf, .ref xt, .ref xr, .ref lb, .int (zI lbs), .ref so])), (af, .inl (cL, 72, .inr (.inl (fL From)))), (at_, .inl (cL, 72, .inr (.inl (fL To)))), (gf, .inl (cL, 200, .inr (.inl (fL (upz AFr als (From ((3 * bx) + al))))))), (gt, .inl (cL, 200, .inr (.inl (fL (upz ATo als (To ((3 * bx) + al))))))), (ef, .inl (cL, 64, .inr (.inl (fL Lx)))), (et, .inl (cL, 64, .inr (.inl (fL Ly)))), (sf, .inl (cL, 6000, .inr (.inl (fL SFr)))), (st, .inl (cL, 6000, .inr (.inl (fL STo))))] H locs → W p l e (zr 2 0 0) s m args below meth c H locs 0 0 Q (F0 m 92 ls []) := by
    intro N
    induction N with
    | zero => intro b lz Lx Ly hm; exact absurd hm (Nat.not_lt_zero _)
    | succ N ih92 =>
      intro b lz Lx Ly hm92 hb0 hb1 hlz hLb hMb hD hB_ hL ls H locs hl hW
      refine lv_iload C.1 C.2.1 dMo_addEdge_92 (lv_at hl 0 rfl) ?_
      refine lv_aload_n C.1 C.2.1 dMo_addEdge_94 rfl (lv_at hl 1 rfl) ?_
      refine zget C hW 0 3 rfl rfl inMo (by decide) flMo_105 rfl dMo_addEdge_95 ?_
      refine zicmp_ge (tgt := 180) C (by omega) (by omega) dMo_addEdge_98 (by decide) (fun c98 => ?_) (fun c98 => ?_)
      · refine lv_iconst (v := zI 0) C.1 C.2.1 dMo_addEdge_180 (by decide) ?_
        refine lv_istore (lv' := [(9, .int (zI 0)), (0, .ref m0), (1, .int (zI vw)), (2, .int (zI al)), (3, .int (zI be_)), (4, .long (zL pl)), (6, .long (zL dp)), (8, .int (zI bx))]) C.1 C.2.1 dMo_addEdge_181 hl (by decide) rfl (fun ls hl => ?_)
        have L183 : ∀ (N : Nat) (j : Int) (sz_ : Int) (Sx : Int → Int) (Sy : Int → Int), (lz - j).toNat < N → (0 ≤ j) → (j ≤ lz) → (ses ≤ sz_ ∧ sz_ ≤ ses + j) → (∀ j : Int, I64 (Sx j)) → (∀ j : Int, I64 (Sy j)) → (neS Sx Sy sz_) → (inB Sx Sy sz_) → (∀ t : Int, LC Sx Sy sz_ t ↔ LC SFr STo ses t ∨ LC Lx Ly j t) → ∀ (ls : Array Slot) (H : Heap) (locs : List Loc), lv_has ls 10 [(9, .int (zI j)), (0, .ref m0), (1, .int (zI vw)), (2, .int (zI al)), (3, .int (zI be_)), (4, .long (zL pl)), (6, .long (zL dp)), (8, .int (zI bx))] → zw D zCl A s [(m0, .inr (10, [.int (zI cd), .long (zL wi), .long (zL hi), .int (zI bn), .ref af, .ref at_, .int (zI dr), .int (zI sz), .ref au, .ref ap, .ref ab, .ref ae, .ref ah, .int (zI kp), .int (zI ks), .ref ku, .ref kq, .ref kb, .ref ke, .ref kh, .int (zI (als + 1)), .ref gf, .ref gt, .int (zI sz_), .ref sf, .ref st, .int (zI lz), .ref ef, .ref et, .int (zI mes), .ref xa, .ref xf, .ref xt, .ref xr, .ref lb, .int (zI lbs), .ref so])), (af, .inl (cL, 72, .inr (.inl (fL From)))), (at_, .inl (cL, 72, .inr (.inl (fL To)))), (gf, .inl (cL, 200, .inr (.inl (fL (upz AFr als (From ((3 * bx) + al))))))), (gt, .inl (cL, 200, .inr (.inl (fL (upz ATo als (To ((3 * bx) + al))))))), (ef, .inl (cL, 64, .inr (.inl (fL Lx)))), (et, .inl (cL, 64, .inr (.inl (fL Ly)))), (sf, .inl (cL, 6000, .inr (.inl (fL Sx)))), (st, .inl (cL, 6000, .inr (.inl (fL Sy))))] H locs → W p l e (zr 2 0 0) s m args below meth c H locs 0 0 Q (F0 m 183 ls []) := by
          intro N
          induction N with
          | zero => intro j sz_ Sx Sy hm; exact absurd hm (Nat.not_lt_zero _)
          | succ N ih183 =>
            intro j sz_ Sx Sy hm183 hj0 hj1 hsz_ hSb hTb hne hiB2 hS ls H locs hl hW
            refine lv_iload C.1 C.2.1 dMo_addEdge_183 (lv_at hl 0 rfl) ?_
            refine lv_aload_n C.1 C.2.1 dMo_addEdge_185 rfl (lv_at hl 1 rfl) ?_
            refine zget C hW 0 26 rfl rfl inMo (by decide) flMo_128 rfl dMo_addEdge_186 ?_
            refine zicmp_ge (tgt := 258) C (by omega) (by omega) dMo_addEdge_189 (by decide) (fun c189 => ?_) (fun c189 => ?_)
            · exact hQ _ H locs _ _ _ ls hW ⟨lz, Lx, Ly, sz_, Sx, Sy, hLb, hMb, hSb, hTb, (by omega), hne, hiB2, (fun t => by rw [hS t, show j = lz by omega, hL t, show b = bn by omega]), rfl⟩ (by omega) (by omega) dMo_addEdge_258
            · refine lv_aload_n C.1 C.2.1 dMo_addEdge_192 rfl (lv_at hl 1 rfl) ?_
              refine zget C hW 0 27 rfl rfl inMo (by decide) flMo_59 rfl dMo_addEdge_193 ?_
              refine lv_iload C.1 C.2.1 dMo_addEdge_196 (lv_at hl 0 rfl) ?_
              refine zlald C hW 5 2 rfl rfl (by omega) (by omega) (by decide) dMo_addEdge_198 ?_
              have hb9 := hLb j
              refine lv_aload_n C.1 C.2.1 dMo_addEdge_199 rfl (lv_at hl 1 rfl) ?_
              refine zget C hW 0 28 rfl rfl inMo (by decide) flMo_62 rfl dMo_addEdge_200 ?_
              refine lv_iload C.1 C.2.1 dMo_addEdge_203 (lv_at hl 0 rfl) ?_
              refine zlald C hW 6 2 rfl rfl (by omega) (by omega) (by decide) dMo_addEdge_205 ?_
              have hb10 := hMb j
              refine zlcmp_ge (tgt := 252) C (by omega) (by omega) dMo_addEdge_206 dMo_addEdge_207 (by decide) (fun c206 => ?_) (fun c206 => ?_)
              · refine lv_iinc (v := zI (j + 1)) (lv' := [(9, .int (zI (j + 1))), (0, .ref m0), (1, .int (zI vw)), (2, .int (zI al)), (3, .int (zI be_)), (4, .long (zL pl)), (6, .long (zL dp)), (8, .int (zI bx))]) C.1 C.2.1 dMo_addEdge_252 hl (k := 0) rfl (zI_add j 1) (by decide) rfl (fun ls hl => ?_)
                refine lv_goto (tgt := 183) C.1 C.2.1 dMo_addEdge_255 (by decide) ?_
                exact ih183 (j + 1) sz_ Sx Sy (by omega) (by omega) (by omega) (by omega) hSb hTb hne hiB2 (fun t => by rw [hS t, LC_s hj0]; exact ⟨fun h => h.elim Or.inl (fun q => Or.inr (Or.inl q)), fun h => h.elim Or.inl (fun q => q.elim Or.inr (fun q => by omega))⟩) ls H locs (lv_sub hl [0, 1, 2, 3, 4, 5, 6, 7] rfl) hW
              · refine lv_aload_n C.1 C.2.1 dMo_addEdge_210 rfl (lv_at hl 1 rfl) ?_
                refine zget C hW 0 24 rfl rfl inMo (by decide) flMo_53 rfl dMo_addEdge_211 ?_
                refine lv_aload_n C.1 C.2.1 dMo_addEdge_214 rfl (lv_at hl 1 rfl) ?_
                refine zget C hW 0 23 rfl rfl inMo (by decide) flMo_142 rfl dMo_addEdge_215 ?_
                refine lv_aload_n C.1 C.2.1 dMo_addEdge_218 rfl (lv_at hl 1 rfl) ?_
                refine zget C hW 0 27 rfl rfl inMo (by decide) flMo_59 rfl dMo_addEdge_219 ?_
                refine lv_iload C.1 C.2.1 dMo_addEdge_222 (lv_at hl 0 rfl) ?_
                refine zlald C hW 5 2 rfl rfl (by omega) (by omega) (by decide) dMo_addEdge_224 ?_
                have hb11 := hLb j
                refine zlast C hW 7 2 rfl rfl (by omega) (by omega) (by decide) dMo_addEdge_225 (fun H locs hW => ?_)
                have hB12 : ∀ jj : Int, I64 ((upz Sx sz_ (Lx j)) jj) := upz_bL hSb (by omega)
                have hW : zw D zCl A s [(m0, .inr (10, [.int (zI cd), .long (zL wi), .long (zL hi), .int (zI bn), .ref af, .ref at_, .int (zI dr), .int (zI sz), .ref au, .ref ap, .ref ab, .ref ae, .ref ah, .int (zI kp), .int (zI ks), .ref ku, .ref kq, .ref kb, .ref ke, .ref kh, .int (zI (als + 1)), .ref gf, .ref gt, .int (zI sz_), .ref sf, .ref st, .int (zI lz), .ref ef, .ref et, .int (zI mes), .ref xa, .ref xf, .ref xt, .ref xr, .ref lb, .int (zI lbs), .ref so])), (af, .inl (cL, 72, .inr (.inl (fL From)))), (at_, .inl (cL, 72, .inr (.inl (fL To)))), (gf, .inl (cL, 200, .inr (.inl (fL (upz AFr als (From ((3 * bx) + al))))))), (gt, .inl (cL, 200, .inr (.inl (fL (upz ATo als (To ((3 * bx) + al))))))), (ef, .inl (cL, 64, .inr (.inl (fL Lx)))), (et, .inl (cL, 64, .inr (.inl (fL Ly)))), (sf, .inl (cL, 6000, .inr (.inl (fL (upz Sx sz_ (Lx j)))))), (st, .inl (cL, 6000, .inr (.inl (fL Sy))))] H locs := hW
                refine lv_aload_n C.1 C.2.1 dMo_addEdge_226 rfl (lv_at hl 1 rfl) ?_
                refine zget C hW 0 25 rfl rfl inMo (by decide) flMo_56 rfl dMo_addEdge_227 ?_
                refine lv_aload_n C.1 C.2.1 dMo_addEdge_230 rfl (lv_at hl 1 rfl) ?_
                refine zget C hW 0 23 rfl rfl inMo (by decide) flMo_142 rfl dMo_addEdge_231 ?_
                refine lv_aload_n C.1 C.2.1 dMo_addEdge_234 rfl (lv_at hl 1 rfl) ?_
                refine zget C hW 0 28 rfl rfl inMo (by decide) flMo_62 rfl dMo_addEdge_235 ?_
                refine lv_iload C.1 C.2.1 dMo_addEdge_238 (lv_at hl 0 rfl) ?_
                refine zlald C hW 6 2 rfl rfl (by omega) (by omega) (by decide) dMo_addEdge_240 ?_
                have hb13 := hMb j
                refine zlast C hW 8 2 rfl rfl (by omega) (by omega) (by decide) dMo_addEdge_241 (fun H locs hW => ?_)
                have hB14 : ∀ jj : Int, I64 ((upz Sy sz_ (Ly j)) jj) := upz_bL hTb (by omega)
                have hW : zw D zCl A s [(m0, .inr (10, [.int (zI cd), .long (zL wi), .long (zL hi), .int (zI bn), .ref af, .ref at_, .int (zI dr), .int (zI sz), .ref au, .ref ap, .ref ab, .ref ae, .ref ah, .int (zI kp), .int (zI ks), .ref ku, .ref kq, .ref kb, .ref ke, .ref kh, .int (zI (als + 1)), .ref gf, .ref gt, .int (zI sz_), .ref sf, .ref st, .int (zI lz), .ref ef, .ref et, .int (zI mes), .ref xa, .ref xf, .ref xt, .ref xr, .ref lb, .int (zI lbs), .ref so])), (af, .inl (cL, 72, .inr (.inl (fL From)))), (at_, .inl (cL, 72, .inr (.inl (fL To)))), (gf, .inl (cL, 200, .inr (.inl (fL (upz AFr als (From ((3 * bx) + al))))))), (gt, .inl (cL, 200, .inr (.inl (fL (upz ATo als (To ((3 * bx) + al))))))), (ef, .inl (cL, 64, .inr (.inl (fL Lx)))), (et, .inl (cL, 64, .inr (.inl (fL Ly)))), (sf, .inl (cL, 6000, .inr (.inl (fL (upz Sx sz_ (Lx j)))))), (st, .inl (cL, 6000, .inr (.inl (fL (upz Sy sz_ (Ly j))))))] H locs := hW
                refine lv_aload_n C.1 C.2.1 dMo_addEdge_242 rfl (lv_at hl 1 rfl) ?_
                refine lv_dup C.1 C.2.1 dMo_addEdge_243 rfl ?_
                refine zget C hW 0 23 rfl rfl inMo (by decide) flMo_142 rfl dMo_addEdge_244 ?_
                refine lv_iconst (v := zI 1) C.1 C.2.1 dMo_addEdge_247 (by decide) ?_
                refine ziadd C dMo_addEdge_248 ?_
                refine zput C hW 0 23 tyMo tyMo_ok nmMo rfl rfl inMo (by decide) flMo_142 rfl rfl rfl rfl (Nat.le_of_ble_eq_true rfl) dMo_addEdge_249 (fun H locs hW => ?_)
                have hW : zw D zCl A s [(m0, .inr (10, [.int (zI cd), .long (zL wi), .long (zL hi), .int (zI bn), .ref af, .ref at_, .int (zI dr), .int (zI sz), .ref au, .ref ap, .ref ab, .ref ae, .ref ah, .int (zI kp), .int (zI ks), .ref ku, .ref kq, .ref kb, .ref ke, .ref kh, .int (zI (als + 1)), .ref gf, .ref gt, .int (zI (sz_ + 1)), .ref sf, .ref st, .int (zI lz), .ref ef, .ref et, .int (zI mes), .ref xa, .ref xf, .ref xt, .ref xr, .ref lb, .int (zI lbs), .ref so])), (af, .inl (cL, 72, .inr (.inl (fL From)))), (at_, .inl (cL, 72, .inr (.inl (fL To)))), (gf, .inl (cL, 200, .inr (.inl (fL (upz AFr als (From ((3 * bx) + al))))))), (gt, .inl (cL, 200, .inr (.inl (fL (upz ATo als (To ((3 * bx) + al))))))), (ef, .inl (cL, 64, .inr (.inl (fL Lx)))), (et, .inl (cL, 64, .inr (.inl (fL Ly)))), (sf, .inl (cL, 6000, .inr (.inl (fL (upz Sx sz_ (Lx j)))))), (st, .inl (cL, 6000, .inr (.inl (fL (upz Sy sz_ (Ly j))))))] H locs := hW
                refine lv_iinc (v := zI (j + 1)) (lv' := [(9, .int (zI (j + 1))), (0, .ref m0), (1, .int (zI vw)), (2, .int (zI al)), (3, .int (zI be_)), (4, .long (zL pl)), (6, .long (zL dp)), (8, .int (zI bx))]) C.1 C.2.1 dMo_addEdge_252 hl (k := 0) rfl (zI_add j 1) (by decide) rfl (fun ls hl => ?_)
                refine lv_goto (tgt := 183) C.1 C.2.1 dMo_addEdge_255 (by decide) ?_
                exact ih183 (j + 1) (sz_ + 1) (upz Sx sz_ (Lx j)) (upz Sy sz_ (Ly j)) (by omega) (by omega) (by omega) (by omega) hB12 hB14 (neS_app hne (by omega)) (inB_app hiB2 (hB_ j hj0 (by omega)).1 (hB_ j hj0 (by omega)).2) (fun t => by rw [LC_app (by omega), hS t, LC_s hj0, or_assoc]) ls H locs (lv_sub hl [0, 1, 2, 3, 4, 5, 6, 7] rfl) hW
        exact L183 _ 0 ses SFr STo (Nat.lt_succ_self _) (by omega) (by omega) (by omega) bSFr bSTo hne0 hiB0 (fun t => ⟨Or.inl, fun h => h.elim id (fun q => absurd q LC_z)⟩) ls H locs (lv_sub hl [0, 1, 2, 3, 4, 5, 6, 7] rfl) hW
      · have hmb1 := hMB (3 * b + al) (by omega) (by omega)
        have hmb2 := hMB (3 * b + be_) (by omega) (by omega)
        have hmb3 : -2000000 ≤ mFt From To vw b ∧ mFt From To vw b ≤ 2000000 := mFt_in hMB hb0 (by omega)
        refine lv_aload_n C.1 C.2.1 dMo_addEdge_101 rfl (lv_at hl 1 rfl) ?_
        refine zget C hW 0 4 rfl rfl inMo (by decide) flMo_7 rfl dMo_addEdge_102 ?_
        refine lv_iconst (v := zI 3) C.1 C.2.1 dMo_addEdge_105 (by decide) ?_
        refine lv_iload C.1 C.2.1 dMo_addEdge_106 (lv_at hl 0 rfl) ?_
        refine zimul C dMo_addEdge_108 ?_
        refine lv_iload_n C.1 C.2.1 dMo_addEdge_109 rfl (lv_at hl 4 rfl) ?_
        refine ziadd C dMo_addEdge_110 ?_
        refine zlald C hW 1 2 rfl rfl (by omega) (by omega) (by decide) dMo_addEdge_111 ?_
        have hb15 := bFrom ((3 * b) + be_)
        refine lv_lload C.1 C.2.1 dMo_addEdge_112 (lv_at hl 5 rfl) ?_
        refine zlcmp_ge (tgt := 174) C (by omega) (by omega) dMo_addEdge_114 dMo_addEdge_115 (by decide) (fun c114 => ?_) (fun c114 => ?_)
        · refine lv_iinc (v := zI (b + 1)) (lv' := [(9, .int (zI (b + 1))), (0, .ref m0), (1, .int (zI vw)), (2, .int (zI al)), (3, .int (zI be_)), (4, .long (zL pl)), (6, .long (zL dp)), (8, .int (zI bx))]) C.1 C.2.1 dMo_addEdge_174 hl (k := 0) rfl (zI_add b 1) (by decide) rfl (fun ls hl => ?_)
          refine lv_goto (tgt := 92) C.1 C.2.1 dMo_addEdge_177 (by decide) ?_
          exact ih92 (b + 1) lz Lx Ly (by omega) (by omega) (by omega) (by omega) hLb hMb hD hB_ (fun t => by rw [hL t, covB_n (fun h => by unfold cvC at h; omega)]) ls H locs (lv_sub hl [0, 1, 2, 3, 4, 5, 6, 7] rfl) hW
        · refine lv_aload_n C.1 C.2.1 dMo_addEdge_118 rfl (lv_at hl 1 rfl) ?_
          refine zget C hW 0 5 rfl rfl inMo (by decide) flMo_13 rfl dMo_addEdge_119 ?_
          refine lv_iconst (v := zI 3) C.1 C.2.1 dMo_addEdge_122 (by decide) ?_
          refine lv_iload C.1 C.2.1 dMo_addEdge_123 (lv_at hl 0 rfl) ?_
          refine zimul C dMo_addEdge_125 ?_
          refine lv_iload_n C.1 C.2.1 dMo_addEdge_126 rfl (lv_at hl 4 rfl) ?_
          refine ziadd C dMo_addEdge_127 ?_
          refine zlald C hW 2 2 rfl rfl (by omega) (by omega) (by decide) dMo_addEdge_128 ?_
          have hb16 := bTo ((3 * b) + be_)
          refine lv_lload C.1 C.2.1 dMo_addEdge_129 (lv_at hl 5 rfl) ?_
          refine zlcmp_le (tgt := 174) C (by omega) (by omega) dMo_addEdge_131 dMo_addEdge_132 (by decide) (fun c131 => ?_) (fun c131 => ?_)
          · refine lv_iinc (v := zI (b + 1)) (lv' := [(9, .int (zI (b + 1))), (0, .ref m0), (1, .int (zI vw)), (2, .int (zI al)), (3, .int (zI be_)), (4, .long (zL pl)), (6, .long (zL dp)), (8, .int (zI bx))]) C.1 C.2.1 dMo_addEdge_174 hl (k := 0) rfl (zI_add b 1) (by decide) rfl (fun ls hl => ?_)
            refine lv_goto (tgt := 92) C.1 C.2.1 dMo_addEdge_177 (by decide) ?_
            exact ih92 (b + 1) lz Lx Ly (by omega) (by omega) (by omega) (by omega) hLb hMb hD hB_ (fun t => by rw [hL t, covB_n (fun h => by unfold cvC at h; omega)]) ls H locs (lv_sub hl [0, 1, 2, 3, 4, 5, 6, 7] rfl) hW
          · refine lv_aload_n C.1 C.2.1 dMo_addEdge_135 rfl (lv_at hl 1 rfl) ?_
            refine lv_iload_n C.1 C.2.1 dMo_addEdge_136 rfl (lv_at hl 2 rfl) ?_
            refine lv_iload C.1 C.2.1 dMo_addEdge_137 (lv_at hl 0 rfl) ?_
            refine zcalll (wr := [(gf, .inl (cL, 200, .inr (.inl (fL (upz AFr als (From ((3 * bx) + al))))))), (gt, .inl (cL, 200, .inr (.inl (fL (upz ATo als (To ((3 * bx) + al))))))), (ef, .inl (cL, 64, .inr (.inl (fL Lx)))), (et, .inl (cL, 64, .inr (.inl (fL Ly)))), (sf, .inl (cL, 6000, .inr (.inl (fL SFr)))), (st, .inl (cL, 6000, .inr (.inl (fL STo))))]) C hW [0, 1, 2] [3, 4, 5, 6, 7, 8] rfl rfl (by decide) (by decide) (zRunV (k := 2) (As := [.int (zI vw), .int (zI b)]) (rest := []) C hW (m_front l D cI cG cL cB m0 cd wi hi bn af at_ dr sz au ap ab ae ah kp ks ku kq kb ke kh (als + 1) gf gt ses sf st lz ef et mes xa xf xt xr lb lbs so From To vw b bFrom bTo (by omega) (by omega) (by omega) (by omega) (by omega) (by omega) (by omega) H.size) [0, 1, 2] rfl (by decide) kMo_134 (by decide +kernel) ⟨by decide, by decide⟩ 0 rfl rfl rfl hl.1 (Nat.le_of_ble_eq_true rfl) dMo_addEdge_139 ⟨by first | decide | omega, by first | decide | omega⟩) (fun x w H locs hq hW => ?_)
            obtain ⟨rfl, rfl⟩ := hq
            have hW : zw D zCl A s [(gf, .inl (cL, 200, .inr (.inl (fL (upz AFr als (From ((3 * bx) + al))))))), (gt, .inl (cL, 200, .inr (.inl (fL (upz ATo als (To ((3 * bx) + al))))))), (ef, .inl (cL, 64, .inr (.inl (fL Lx)))), (et, .inl (cL, 64, .inr (.inl (fL Ly)))), (sf, .inl (cL, 6000, .inr (.inl (fL SFr)))), (st, .inl (cL, 6000, .inr (.inl (fL STo)))), (m0, .inr (10, [.int (zI cd), .long (zL wi), .long (zL hi), .int (zI bn), .ref af, .ref at_, .int (zI dr), .int (zI sz), .ref au, .ref ap, .ref ab, .ref ae, .ref ah, .int (zI kp), .int (zI ks), .ref ku, .ref kq, .ref kb, .ref ke, .ref kh, .int (zI (als + 1)), .ref gf, .ref gt, .int (zI ses), .ref sf, .ref st, .int (zI lz), .ref ef, .ref et, .int (zI mes), .ref xa, .ref xf, .ref xt, .ref xr, .ref lb, .int (zI lbs), .ref so])), (af, .inl (cL, 72, .inr (.inl (fL From)))), (at_, .inl (cL, 72, .inr (.inl (fL To))))] H locs := hW
            refine lv_lload C.1 C.2.1 dMo_addEdge_142 (lv_at hl 6 rfl) ?_
            refine zlcmp_ge (tgt := 174) C (by omega) (by omega) dMo_addEdge_144 dMo_addEdge_145 (by decide) (fun c144 => ?_) (fun c144 => ?_)
            · refine lv_iinc (v := zI (b + 1)) (lv' := [(9, .int (zI (b + 1))), (0, .ref m0), (1, .int (zI vw)), (2, .int (zI al)), (3, .int (zI be_)), (4, .long (zL pl)), (6, .long (zL dp)), (8, .int (zI bx))]) C.1 C.2.1 dMo_addEdge_174 hl (k := 0) rfl (zI_add b 1) (by decide) rfl (fun ls hl => ?_)
              refine lv_goto (tgt := 92) C.1 C.2.1 dMo_addEdge_177 (by decide) ?_
              exact ih92 (b + 1) lz Lx Ly (by omega) (by omega) (by omega) (by omega) hLb hMb hD hB_ (fun t => by rw [hL t, covB_n (fun h => by unfold cvC at h; omega)]) ls H locs (lv_sub hl [0, 1, 2, 3, 4, 5, 6, 7] rfl) (zwp hW [6, 7, 8, 0, 1, 2, 3, 4, 5] rfl (by decide))
            · refine lv_aload_n C.1 C.2.1 dMo_addEdge_148 rfl (lv_at hl 1 rfl) ?_
              refine lv_aload_n C.1 C.2.1 dMo_addEdge_149 rfl (lv_at hl 1 rfl) ?_
              refine zget C hW 6 4 rfl rfl inMo (by decide) flMo_7 rfl dMo_addEdge_150 ?_
              refine lv_iconst (v := zI 3) C.1 C.2.1 dMo_addEdge_153 (by decide) ?_
              refine lv_iload C.1 C.2.1 dMo_addEdge_154 (lv_at hl 0 rfl) ?_
              refine zimul C dMo_addEdge_156 ?_
              refine lv_iload_n C.1 C.2.1 dMo_addEdge_157 rfl (lv_at hl 3 rfl) ?_
              refine ziadd C dMo_addEdge_158 ?_
              refine zlald C hW 7 2 rfl rfl (by omega) (by omega) (by decide) dMo_addEdge_159 ?_
              have hb17 := bFrom ((3 * b) + al)
              refine lv_aload_n C.1 C.2.1 dMo_addEdge_160 rfl (lv_at hl 1 rfl) ?_
              refine zget C hW 6 5 rfl rfl inMo (by decide) flMo_13 rfl dMo_addEdge_161 ?_
              refine lv_iconst (v := zI 3) C.1 C.2.1 dMo_addEdge_164 (by decide) ?_
              refine lv_iload C.1 C.2.1 dMo_addEdge_165 (lv_at hl 0 rfl) ?_
              refine zimul C dMo_addEdge_167 ?_
              refine lv_iload_n C.1 C.2.1 dMo_addEdge_168 rfl (lv_at hl 3 rfl) ?_
              refine ziadd C dMo_addEdge_169 ?_
              refine zlald C hW 8 2 rfl rfl (by omega) (by omega) (by decide) dMo_addEdge_170 ?_
              have hb18 := bTo ((3 * b) + al)
              refine zcallv (wr := [(gf, .inl (cL, 200, .inr (.inl (fL (upz AFr als (From ((3 * bx) + al))))))), (gt, .inl (cL, 200, .inr (.inl (fL (upz ATo als (To ((3 * bx) + al))))))), (sf, .inl (cL, 6000, .inr (.inl (fL SFr)))), (st, .inl (cL, 6000, .inr (.inl (fL STo)))), (af, .inl (cL, 72, .inr (.inl (fL From)))), (at_, .inl (cL, 72, .inr (.inl (fL To))))]) C hW [6, 2, 3] [0, 1, 4, 5, 7, 8] rfl rfl (by decide) (by decide) (zRunV (k := 2) (As := [.long (zL (From ((3 * b) + al))), .long (zL (To ((3 * b) + al)))]) (rest := []) C hW (m_takeOff l D cI cG cL cB m0 cd wi hi bn af at_ dr sz au ap ab ae ah kp ks ku kq kb ke kh (als + 1) gf gt ses sf st lz ef et mes xa xf xt xr lb lbs so Lx Ly (From ((3 * b) + al)) (To ((3 * b) + al)) hLb hMb (by omega) (by omega) hD hB_ (by omega) (by omega) (by omega) H.size) [6, 2, 3] rfl (by decide) kMo_138 (by decide +kernel) ⟨by decide, by decide⟩ 6 rfl rfl rfl hl.1 (Nat.le_of_ble_eq_true rfl) dMo_addEdge_171 ⟨by first | decide | omega, by first | decide | omega⟩) (fun w H locs hq hW => ?_)
              obtain ⟨les219, LFr220, LTo221, hf22, hf23, hf24, hf25, hf26, hf27, rfl⟩ := hq
              have hW : zw D zCl A s [(gf, .inl (cL, 200, .inr (.inl (fL (upz AFr als (From ((3 * bx) + al))))))), (gt, .inl (cL, 200, .inr (.inl (fL (upz ATo als (To ((3 * bx) + al))))))), (sf, .inl (cL, 6000, .inr (.inl (fL SFr)))), (st, .inl (cL, 6000, .inr (.inl (fL STo)))), (af, .inl (cL, 72, .inr (.inl (fL From)))), (at_, .inl (cL, 72, .inr (.inl (fL To)))), (m0, .inr (10, [.int (zI cd), .long (zL wi), .long (zL hi), .int (zI bn), .ref af, .ref at_, .int (zI dr), .int (zI sz), .ref au, .ref ap, .ref ab, .ref ae, .ref ah, .int (zI kp), .int (zI ks), .ref ku, .ref kq, .ref kb, .ref ke, .ref kh, .int (zI (als + 1)), .ref gf, .ref gt, .int (zI ses), .ref sf, .ref st, .int (zI les219), .ref ef, .ref et, .int (zI mes), .ref xa, .ref xf, .ref xt, .ref xr, .ref lb, .int (zI lbs), .ref so])), (ef, .inl (cL, 64, .inr (.inl (fL LFr220)))), (et, .inl (cL, 64, .inr (.inl (fL LTo221))))] H locs := hW
              refine lv_iinc (v := zI (b + 1)) (lv' := [(9, .int (zI (b + 1))), (0, .ref m0), (1, .int (zI vw)), (2, .int (zI al)), (3, .int (zI be_)), (4, .long (zL pl)), (6, .long (zL dp)), (8, .int (zI bx))]) C.1 C.2.1 dMo_addEdge_174 hl (k := 0) rfl (zI_add b 1) (by decide) rfl (fun ls hl => ?_)
              refine lv_goto (tgt := 92) C.1 C.2.1 dMo_addEdge_177 (by decide) ?_
              exact ih92 (b + 1) les219 LFr220 LTo221 (by omega) (by omega) (by omega) (by have := hf24; omega) hf22 hf23 hf25 hf26 (fun t => by rw [hf27 t, hL t, covB_c hb0 (by unfold cvC; omega)]; exact ⟨fun h => ⟨h.1.1, fun q => q.elim h.1.2 h.2⟩, fun h => ⟨⟨h.1, fun q => h.2 (Or.inl q)⟩, fun q => h.2 (Or.inr q)⟩⟩) ls H locs (lv_sub hl [0, 1, 2, 3, 4, 5, 6, 7] rfl) (zwp hW [6, 4, 5, 0, 1, 7, 8, 2, 3] rfl (by decide))
  exact L92 _ 0 1 (upz LFr 0 (From ((3 * bx) + al))) (upz LTo 0 (To ((3 * bx) + al))) (Nat.lt_succ_self _) (by omega) (by omega) (by omega) hB6 hB8 lft_0.1 (fun k h0 h1 => by have e : k = 0 := (by omega); subst e; rw [upz_s, upz_s]; omega) (fun t => by rw [lft_0.2 t]; exact ⟨fun h => ⟨h, covB_z⟩, fun h => h.1⟩) ls H locs (lv_sub hl [0, 1, 2, 3, 4, 5, 6, 7] rfl) hW
