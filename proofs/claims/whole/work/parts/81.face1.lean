theorem dPD_box_0 : decode cPD_box 0 = .ok (.aload_n 0, 1) := by decide +kernel
theorem dPD_box_1 : decode cPD_box 1 = .ok (.getfield 12, 3) := by decide +kernel
theorem dPD_box_4 : decode cPD_box 4 = .ok (.getfield 70, 3) := by decide +kernel
theorem dPD_box_7 : decode cPD_box 7 = .ok (.bipush 24, 2) := by decide +kernel
theorem dPD_box_9 : decode cPD_box 9 = .ok (.if_icmp .lt 13, 3) := by decide +kernel
theorem dPD_box_12 : decode cPD_box 12 = .ok (.new 74, 3) := by decide +kernel
theorem dPD_box_15 : decode cPD_box 15 = .ok (.dup, 1) := by decide +kernel
theorem dPD_box_16 : decode cPD_box 16 = .ok (.ldc 76, 2) := by decide +kernel
theorem dPD_box_18 : decode cPD_box 18 = .ok (.invokespecial 78, 3) := by decide +kernel
theorem dPD_box_21 : decode cPD_box 21 = .ok (.athrow, 1) := by decide +kernel
theorem dPD_box_22 : decode cPD_box 22 = .ok (.lload_n 1, 1) := by decide +kernel
theorem dPD_box_23 : decode cPD_box 23 = .ok (.invokestatic 81, 3) := by decide +kernel
theorem dPD_box_26 : decode cPD_box 26 = .ok (.ifCond .eq 18, 3) := by decide +kernel
theorem dPD_box_29 : decode cPD_box 29 = .ok (.lload_n 3, 1) := by decide +kernel
theorem dPD_box_30 : decode cPD_box 30 = .ok (.invokestatic 81, 3) := by decide +kernel
theorem dPD_box_33 : decode cPD_box 33 = .ok (.ifCond .eq 11, 3) := by decide +kernel
theorem dPD_box_36 : decode cPD_box 36 = .ok (.lload 5, 2) := by decide +kernel
theorem dPD_box_38 : decode cPD_box 38 = .ok (.invokestatic 81, 3) := by decide +kernel
theorem dPD_box_41 : decode cPD_box 41 = .ok (.ifCond .ne 13, 3) := by decide +kernel
theorem dPD_box_44 : decode cPD_box 44 = .ok (.new 85, 3) := by decide +kernel
theorem dPD_box_47 : decode cPD_box 47 = .ok (.dup, 1) := by decide +kernel
theorem dPD_box_48 : decode cPD_box 48 = .ok (.ldc 87, 2) := by decide +kernel
theorem dPD_box_50 : decode cPD_box 50 = .ok (.invokespecial 89, 3) := by decide +kernel
theorem dPD_box_53 : decode cPD_box 53 = .ok (.athrow, 1) := by decide +kernel
theorem dPD_box_54 : decode cPD_box 54 = .ok (.lload 7, 2) := by decide +kernel
theorem dPD_box_56 : decode cPD_box 56 = .ok (.invokestatic 90, 3) := by decide +kernel
theorem dPD_box_59 : decode cPD_box 59 = .ok (.ifCond .eq 11, 3) := by decide +kernel
theorem dPD_box_62 : decode cPD_box 62 = .ok (.lload 9, 2) := by decide +kernel
theorem dPD_box_64 : decode cPD_box 64 = .ok (.invokestatic 90, 3) := by decide +kernel
theorem dPD_box_67 : decode cPD_box 67 = .ok (.ifCond .ne 13, 3) := by decide +kernel
theorem dPD_box_70 : decode cPD_box 70 = .ok (.new 85, 3) := by decide +kernel
theorem dPD_box_73 : decode cPD_box 73 = .ok (.dup, 1) := by decide +kernel
theorem dPD_box_74 : decode cPD_box 74 = .ok (.ldc 93, 2) := by decide +kernel
theorem dPD_box_76 : decode cPD_box 76 = .ok (.invokespecial 89, 3) := by decide +kernel
theorem dPD_box_79 : decode cPD_box 79 = .ok (.athrow, 1) := by decide +kernel
theorem dPD_box_80 : decode cPD_box 80 = .ok (.aload_n 0, 1) := by decide +kernel
theorem dPD_box_81 : decode cPD_box 81 = .ok (.getfield 12, 3) := by decide +kernel
theorem dPD_box_84 : decode cPD_box 84 = .ok (.getfield 70, 3) := by decide +kernel
theorem dPD_box_87 : decode cPD_box 87 = .ok (.istore 11, 2) := by decide +kernel
theorem dPD_box_89 : decode cPD_box 89 = .ok (.aload_n 0, 1) := by decide +kernel
theorem dPD_box_90 : decode cPD_box 90 = .ok (.getfield 12, 3) := by decide +kernel
theorem dPD_box_93 : decode cPD_box 93 = .ok (.dup, 1) := by decide +kernel
theorem dPD_box_94 : decode cPD_box 94 = .ok (.getfield 70, 3) := by decide +kernel
theorem dPD_box_97 : decode cPD_box 97 = .ok (.iconst 1, 1) := by decide +kernel
theorem dPD_box_98 : decode cPD_box 98 = .ok (.iadd, 1) := by decide +kernel
theorem dPD_box_99 : decode cPD_box 99 = .ok (.putfield 70, 3) := by decide +kernel
theorem dPD_box_102 : decode cPD_box 102 = .ok (.aload_n 0, 1) := by decide +kernel
theorem dPD_box_103 : decode cPD_box 103 = .ok (.getfield 12, 3) := by decide +kernel
theorem dPD_box_106 : decode cPD_box 106 = .ok (.iload 11, 2) := by decide +kernel
theorem dPD_box_108 : decode cPD_box 108 = .ok (.lload_n 1, 1) := by decide +kernel
theorem dPD_box_109 : decode cPD_box 109 = .ok (.l2i, 1) := by decide +kernel
theorem dPD_box_110 : decode cPD_box 110 = .ok (.lload_n 3, 1) := by decide +kernel
theorem dPD_box_111 : decode cPD_box 111 = .ok (.l2i, 1) := by decide +kernel
theorem dPD_box_112 : decode cPD_box 112 = .ok (.lload 5, 2) := by decide +kernel
theorem dPD_box_114 : decode cPD_box 114 = .ok (.l2i, 1) := by decide +kernel
theorem dPD_box_115 : decode cPD_box 115 = .ok (.invokevirtual 95, 3) := by decide +kernel
theorem dPD_box_118 : decode cPD_box 118 = .ok (.aload_n 0, 1) := by decide +kernel
theorem dPD_box_119 : decode cPD_box 119 = .ok (.getfield 12, 3) := by decide +kernel
theorem dPD_box_122 : decode cPD_box 122 = .ok (.iload 11, 2) := by decide +kernel
theorem dPD_box_124 : decode cPD_box 124 = .ok (.lload 7, 2) := by decide +kernel
theorem dPD_box_126 : decode cPD_box 126 = .ok (.l2i, 1) := by decide +kernel
theorem dPD_box_127 : decode cPD_box 127 = .ok (.lload 9, 2) := by decide +kernel
theorem dPD_box_129 : decode cPD_box 129 = .ok (.l2i, 1) := by decide +kernel
theorem dPD_box_130 : decode cPD_box 130 = .ok (.iconst 1, 1) := by decide +kernel
theorem dPD_box_131 : decode cPD_box 131 = .ok (.invokevirtual 99, 3) := by decide +kernel
theorem dPD_box_134 : decode cPD_box 134 = .ok (.aload_n 0, 1) := by decide +kernel
theorem dPD_box_135 : decode cPD_box 135 = .ok (.getfield 33, 3) := by decide +kernel
theorem dPD_box_138 : decode cPD_box 138 = .ok (.iconst 0, 1) := by decide +kernel
theorem dPD_box_139 : decode cPD_box 139 = .ok (.putfield 102, 3) := by decide +kernel
theorem dPD_box_142 : decode cPD_box 142 = .ok (.iload 11, 2) := by decide +kernel
theorem dPD_box_144 : decode cPD_box 144 = .ok (.ireturn, 1) := by decide +kernel
theorem dPD_deep_0 : decode cPD_deep 0 = .ok (.aload_n 0, 1) := by decide +kernel
theorem dPD_deep_1 : decode cPD_deep 1 = .ok (.iload_n 1, 1) := by decide +kernel
theorem dPD_deep_2 : decode cPD_deep 2 = .ok (.invokevirtual 106, 3) := by decide +kernel
theorem dPD_deep_5 : decode cPD_deep 5 = .ok (.lload_n 2, 1) := by decide +kernel
theorem dPD_deep_6 : decode cPD_deep 6 = .ok (.invokestatic 90, 3) := by decide +kernel
theorem dPD_deep_9 : decode cPD_deep 9 = .ok (.ifCond .ne 13, 3) := by decide +kernel
theorem dPD_deep_12 : decode cPD_deep 12 = .ok (.new 85, 3) := by decide +kernel
theorem dPD_deep_15 : decode cPD_deep 15 = .ok (.dup, 1) := by decide +kernel
theorem dPD_deep_16 : decode cPD_deep 16 = .ok (.ldc 93, 2) := by decide +kernel
theorem dPD_deep_18 : decode cPD_deep 18 = .ok (.invokespecial 89, 3) := by decide +kernel
theorem dPD_deep_21 : decode cPD_deep 21 = .ok (.athrow, 1) := by decide +kernel
theorem dPD_deep_22 : decode cPD_deep 22 = .ok (.aload_n 0, 1) := by decide +kernel
theorem dPD_deep_23 : decode cPD_deep 23 = .ok (.getfield 12, 3) := by decide +kernel
theorem dPD_deep_26 : decode cPD_deep 26 = .ok (.getfield 110, 3) := by decide +kernel
theorem dPD_deep_29 : decode cPD_deep 29 = .ok (.iconst 2, 1) := by decide +kernel
theorem dPD_deep_30 : decode cPD_deep 30 = .ok (.aaload, 1) := by decide +kernel
theorem dPD_deep_31 : decode cPD_deep 31 = .ok (.iload_n 1, 1) := by decide +kernel
theorem dPD_deep_32 : decode cPD_deep 32 = .ok (.iaload, 1) := by decide +kernel
theorem dPD_deep_33 : decode cPD_deep 33 = .ok (.i2l, 1) := by decide +kernel
theorem dPD_deep_34 : decode cPD_deep 34 = .ok (.lload_n 2, 1) := by decide +kernel
theorem dPD_deep_35 : decode cPD_deep 35 = .ok (.lcmp, 1) := by decide +kernel
theorem dPD_deep_36 : decode cPD_deep 36 = .ok (.ifCond .ne 5, 3) := by decide +kernel
theorem dPD_deep_39 : decode cPD_deep 39 = .ok (.iconst 0, 1) := by decide +kernel
theorem dPD_deep_40 : decode cPD_deep 40 = .ok (.ireturn, 1) := by decide +kernel
theorem dPD_deep_41 : decode cPD_deep 41 = .ok (.aload_n 0, 1) := by decide +kernel
theorem dPD_deep_42 : decode cPD_deep 42 = .ok (.getfield 12, 3) := by decide +kernel
theorem dPD_deep_45 : decode cPD_deep 45 = .ok (.getfield 110, 3) := by decide +kernel
theorem dPD_deep_48 : decode cPD_deep 48 = .ok (.iconst 2, 1) := by decide +kernel
theorem dPD_deep_49 : decode cPD_deep 49 = .ok (.aaload, 1) := by decide +kernel
theorem dPD_deep_50 : decode cPD_deep 50 = .ok (.iload_n 1, 1) := by decide +kernel
theorem dPD_deep_51 : decode cPD_deep 51 = .ok (.lload_n 2, 1) := by decide +kernel
theorem dPD_deep_52 : decode cPD_deep 52 = .ok (.l2i, 1) := by decide +kernel
theorem dPD_deep_53 : decode cPD_deep 53 = .ok (.iastore, 1) := by decide +kernel
theorem dPD_deep_54 : decode cPD_deep 54 = .ok (.aload_n 0, 1) := by decide +kernel
theorem dPD_deep_55 : decode cPD_deep 55 = .ok (.getfield 33, 3) := by decide +kernel
theorem dPD_deep_58 : decode cPD_deep 58 = .ok (.iconst 0, 1) := by decide +kernel
theorem dPD_deep_59 : decode cPD_deep 59 = .ok (.putfield 102, 3) := by decide +kernel
theorem dPD_deep_62 : decode cPD_deep 62 = .ok (.iconst 1, 1) := by decide +kernel
theorem dPD_deep_63 : decode cPD_deep 63 = .ok (.ireturn, 1) := by decide +kernel
theorem dPD_explode_0 : decode cPD_explode 0 = .ok (.aload_n 0, 1) := by decide +kernel
theorem dPD_explode_1 : decode cPD_explode 1 = .ok (.iload_n 1, 1) := by decide +kernel
theorem dPD_explode_2 : decode cPD_explode 2 = .ok (.invokevirtual 106, 3) := by decide +kernel
theorem dPD_explode_5 : decode cPD_explode 5 = .ok (.aload_n 0, 1) := by decide +kernel
theorem dPD_explode_6 : decode cPD_explode 6 = .ok (.getfield 12, 3) := by decide +kernel
theorem dPD_explode_9 : decode cPD_explode 9 = .ok (.iload_n 1, 1) := by decide +kernel
theorem dPD_explode_10 : decode cPD_explode 10 = .ok (.iconst 0, 1) := by decide +kernel
theorem dPD_explode_11 : decode cPD_explode 11 = .ok (.lload_n 2, 1) := by decide +kernel
theorem dPD_explode_12 : decode cPD_explode 12 = .ok (.invokevirtual 114, 3) := by decide +kernel
theorem dPD_explode_15 : decode cPD_explode 15 = .ok (.ifCond .eq 31, 3) := by decide +kernel
theorem dPD_explode_18 : decode cPD_explode 18 = .ok (.aload_n 0, 1) := by decide +kernel
theorem dPD_explode_19 : decode cPD_explode 19 = .ok (.getfield 12, 3) := by decide +kernel
theorem dPD_explode_22 : decode cPD_explode 22 = .ok (.iload_n 1, 1) := by decide +kernel
theorem dPD_explode_23 : decode cPD_explode 23 = .ok (.iconst 1, 1) := by decide +kernel
theorem dPD_explode_24 : decode cPD_explode 24 = .ok (.lload 4, 2) := by decide +kernel
theorem dPD_explode_26 : decode cPD_explode 26 = .ok (.invokevirtual 114, 3) := by decide +kernel
theorem dPD_explode_29 : decode cPD_explode 29 = .ok (.ifCond .eq 17, 3) := by decide +kernel
theorem dPD_explode_32 : decode cPD_explode 32 = .ok (.aload_n 0, 1) := by decide +kernel
theorem dPD_explode_33 : decode cPD_explode 33 = .ok (.getfield 12, 3) := by decide +kernel
theorem dPD_explode_36 : decode cPD_explode 36 = .ok (.iload_n 1, 1) := by decide +kernel
theorem dPD_explode_37 : decode cPD_explode 37 = .ok (.iconst 2, 1) := by decide +kernel
theorem dPD_explode_38 : decode cPD_explode 38 = .ok (.lload 6, 2) := by decide +kernel
theorem dPD_explode_40 : decode cPD_explode 40 = .ok (.invokevirtual 114, 3) := by decide +kernel
theorem dPD_explode_43 : decode cPD_explode 43 = .ok (.ifCond .ne 13, 3) := by decide +kernel
theorem dPD_explode_46 : decode cPD_explode 46 = .ok (.new 85, 3) := by decide +kernel
theorem dPD_explode_49 : decode cPD_explode 49 = .ok (.dup, 1) := by decide +kernel
theorem dPD_explode_50 : decode cPD_explode 50 = .ok (.ldc 118, 2) := by decide +kernel
theorem dPD_explode_52 : decode cPD_explode 52 = .ok (.invokespecial 89, 3) := by decide +kernel
theorem dPD_explode_55 : decode cPD_explode 55 = .ok (.athrow, 1) := by decide +kernel
theorem dPD_explode_56 : decode cPD_explode 56 = .ok (.aload_n 0, 1) := by decide +kernel
theorem dPD_explode_57 : decode cPD_explode 57 = .ok (.getfield 12, 3) := by decide +kernel
theorem dPD_explode_60 : decode cPD_explode 60 = .ok (.getfield 120, 3) := by decide +kernel
theorem dPD_explode_63 : decode cPD_explode 63 = .ok (.iconst 0, 1) := by decide +kernel
theorem dPD_explode_64 : decode cPD_explode 64 = .ok (.aaload, 1) := by decide +kernel
theorem dPD_explode_65 : decode cPD_explode 65 = .ok (.iload_n 1, 1) := by decide +kernel
theorem dPD_explode_66 : decode cPD_explode 66 = .ok (.dup2, 1) := by decide +kernel
theorem dPD_explode_67 : decode cPD_explode 67 = .ok (.iaload, 1) := by decide +kernel
theorem dPD_explode_68 : decode cPD_explode 68 = .ok (.lload_n 2, 1) := by decide +kernel
theorem dPD_explode_69 : decode cPD_explode 69 = .ok (.l2i, 1) := by decide +kernel
theorem dPD_explode_70 : decode cPD_explode 70 = .ok (.iadd, 1) := by decide +kernel
theorem dPD_explode_71 : decode cPD_explode 71 = .ok (.iastore, 1) := by decide +kernel
theorem dPD_explode_72 : decode cPD_explode 72 = .ok (.aload_n 0, 1) := by decide +kernel
theorem dPD_explode_73 : decode cPD_explode 73 = .ok (.getfield 12, 3) := by decide +kernel
theorem dPD_explode_76 : decode cPD_explode 76 = .ok (.getfield 120, 3) := by decide +kernel
theorem dPD_explode_79 : decode cPD_explode 79 = .ok (.iconst 1, 1) := by decide +kernel
theorem dPD_explode_80 : decode cPD_explode 80 = .ok (.aaload, 1) := by decide +kernel
theorem dPD_explode_81 : decode cPD_explode 81 = .ok (.iload_n 1, 1) := by decide +kernel
theorem dPD_explode_82 : decode cPD_explode 82 = .ok (.dup2, 1) := by decide +kernel
theorem dPD_explode_83 : decode cPD_explode 83 = .ok (.iaload, 1) := by decide +kernel
theorem dPD_explode_84 : decode cPD_explode 84 = .ok (.lload 4, 2) := by decide +kernel
theorem dPD_explode_86 : decode cPD_explode 86 = .ok (.l2i, 1) := by decide +kernel
theorem dPD_explode_87 : decode cPD_explode 87 = .ok (.iadd, 1) := by decide +kernel
theorem dPD_explode_88 : decode cPD_explode 88 = .ok (.iastore, 1) := by decide +kernel
theorem dPD_explode_89 : decode cPD_explode 89 = .ok (.aload_n 0, 1) := by decide +kernel
theorem dPD_explode_90 : decode cPD_explode 90 = .ok (.getfield 12, 3) := by decide +kernel
theorem dPD_explode_93 : decode cPD_explode 93 = .ok (.getfield 120, 3) := by decide +kernel
theorem dPD_explode_96 : decode cPD_explode 96 = .ok (.iconst 2, 1) := by decide +kernel
theorem dPD_explode_97 : decode cPD_explode 97 = .ok (.aaload, 1) := by decide +kernel
theorem dPD_explode_98 : decode cPD_explode 98 = .ok (.iload_n 1, 1) := by decide +kernel
theorem dPD_explode_99 : decode cPD_explode 99 = .ok (.dup2, 1) := by decide +kernel
theorem dPD_explode_100 : decode cPD_explode 100 = .ok (.iaload, 1) := by decide +kernel
theorem dPD_explode_101 : decode cPD_explode 101 = .ok (.lload 6, 2) := by decide +kernel
theorem dPD_explode_103 : decode cPD_explode 103 = .ok (.l2i, 1) := by decide +kernel
theorem dPD_explode_104 : decode cPD_explode 104 = .ok (.iadd, 1) := by decide +kernel
theorem dPD_explode_105 : decode cPD_explode 105 = .ok (.iastore, 1) := by decide +kernel
theorem dPD_explode_106 : decode cPD_explode 106 = .ok (.aload_n 0, 1) := by decide +kernel
theorem dPD_explode_107 : decode cPD_explode 107 = .ok (.getfield 33, 3) := by decide +kernel
theorem dPD_explode_110 : decode cPD_explode 110 = .ok (.iconst 0, 1) := by decide +kernel
theorem dPD_explode_111 : decode cPD_explode 111 = .ok (.putfield 102, 3) := by decide +kernel
theorem dPD_explode_114 : decode cPD_explode 114 = .ok (.return_, 1) := by decide +kernel
set_option maxRecDepth 100000 in
theorem kPD_81 : inT (kS "PartDrawings" 81 yPD_isPlace cPD_isPlace 2 (some .boolean)) := gW_l [462, 463, 46, 464] rfl (by decide +kernel)
set_option maxRecDepth 100000 in
theorem kPD_90 : inT (kS "PartDrawings" 90 yPD_isSize cPD_isSize 2 (some .boolean)) := gW_l [483, 484, 46, 485] rfl (by decide +kernel)
set_option maxRecDepth 100000 in
theorem kPD_95 : inT (kV "PartDrawings" 95 yBx_setPlaces cBx_setPlaces 5 none) := gW_l [487, 488, 489, 47, 490] rfl (by decide +kernel)
set_option maxRecDepth 100000 in
theorem kPD_99 : inT (kV "PartDrawings" 99 yBx_setSizes cBx_setSizes 5 none) := gW_l [491, 492, 493, 47, 494] rfl (by decide +kernel)
set_option maxRecDepth 100000 in
theorem ktPD_74_76_78c : inT [.classLink "PartDrawings" 74 "java/lang/IllegalStateException", .instantiable "java/lang/IllegalStateException" 6, .initialized "java/lang/IllegalStateException"] := gW_l [393, 394, 65] rfl (by decide +kernel)
set_option maxRecDepth 100000 in
theorem ktPD_74_76_78s : Cond.stringRef "PartDrawings" 76 "there are 24 boxes" ∈ lw_tbl := List.mem_of_getElem? (i := 436) rfl
set_option maxRecDepth 100000 in
theorem ktPD_85_87_89c : inT [.classLink "PartDrawings" 85 "java/lang/IllegalArgumentException", .instantiable "java/lang/IllegalArgumentException" 6, .initialized "java/lang/IllegalArgumentException"] := gW_l [467, 468, 66] rfl (by decide +kernel)
set_option maxRecDepth 100000 in
theorem ktPD_85_87_89s : Cond.stringRef "PartDrawings" 87 "a place is not -1000000 .. 1000000" ∈ lw_tbl := List.mem_of_getElem? (i := 476) rfl
set_option maxRecDepth 100000 in
theorem ktPD_85_93_89c : inT [.classLink "PartDrawings" 85 "java/lang/IllegalArgumentException", .instantiable "java/lang/IllegalArgumentException" 6, .initialized "java/lang/IllegalArgumentException"] := gW_l [467, 468, 66] rfl (by decide +kernel)
set_option maxRecDepth 100000 in
theorem ktPD_85_93_89s : Cond.stringRef "PartDrawings" 93 "a size is not 1 .. 1000000" ∈ lw_tbl := List.mem_of_getElem? (i := 486) rfl
set_option maxRecDepth 100000 in
theorem kPD_106 : inT (kV "PartDrawings" 106 yPD_needBox cPD_needBox 2 none) := gW_l [503, 505, 1, 46, 506] rfl (by decide +kernel)
set_option maxRecDepth 100000 in
theorem flPD_110 : Cond.fieldLink "PartDrawings" 110 (TBx 1).1 (TBx 1).2.1 (TBx 1).2.2.1 ∈ gW := gW_1 96 rfl rfl
set_option maxRecDepth 100000 in
theorem kPD_114 : inT (kV "PartDrawings" 114 yBx_canGo cBx_canGo 5 (some .boolean)) := gW_l [530, 531, 532, 47, 533] rfl (by decide +kernel)
set_option maxRecDepth 100000 in
theorem flPD_120 : Cond.fieldLink "PartDrawings" 120 (TBx 0).1 (TBx 0).2.1 (TBx 0).2.2.1 ∈ gW := gW_1 93 rfl rfl
set_option maxRecDepth 100000 in
theorem ktPD_85_118_89c : inT [.classLink "PartDrawings" 85 "java/lang/IllegalArgumentException", .instantiable "java/lang/IllegalArgumentException" 6, .initialized "java/lang/IllegalArgumentException"] := gW_l [467, 468, 66] rfl (by decide +kernel)
set_option maxRecDepth 100000 in
theorem ktPD_85_118_89s : Cond.stringRef "PartDrawings" 118 "a place would not be -1000000 .. 1000000" ∈ lw_tbl := List.mem_of_getElem? (i := 536) rfl
set_option maxHeartbeats 4000000 in
set_option maxRecDepth 100000 in
theorem c_PartDrawings_box (l : Launch) (D : va_G) (cI cG cL cB : ClassId) (x0 : Nat) (b0 : Nat) (r0 : Nat) (tr0 : Nat) (dh : Nat) (kh : Nat) (me0 : Nat) (cl0 : Nat) (pg0 : Nat) (la0 : Nat) (hp : Nat) (hs : Nat) (p0 : Nat) (p1 : Nat) (p2 : Nat) (s0 : Nat) (s1 : Nat) (s2 : Nat) (bn : Int) (P0 : Int → Int) (P1 : Int → Int) (P2 : Int → Int) (S0 : Int → Int) (S1 : Int → Int) (S2 : Int → Int) (d1 : Nat) (d2 : Nat) (d3 : Nat) (d4 : Nat) (dth : Int) (dn : Int) (dac : Int) (px : Int) (py : Int) (pz : Int) (pw : Int) (ph : Int) (bP0 : ∀ j : Int, I32 (P0 j)) (bP1 : ∀ j : Int, I32 (P1 j)) (bP2 : ∀ j : Int, I32 (P2 j)) (bS0 : ∀ j : Int, I32 (S0 j)) (bS1 : ∀ j : Int, I32 (S1 j)) (bS2 : ∀ j : Int, I32 (S2 j)) (hBB : boxB bn P0 P1 P2 S0 S1 S2) (hbn0 : 0 ≤ bn) (hbn1 : bn ≤ 24) (hJpx : I64 px) (hJpy : I64 py) (hJpz : I64 pz) (hJpw : I64 pw) (hJph : I64 ph) (hb : bn < 24) (hg : gdX px py pz pw ph = true) : Ci l yPD_box cPD_box 12 (some .int) 2 0 0 D zCl (zT cI cG cL cB) [.ref x0, .long (zL px), .long (zL py), .long (zL pz), .long (zL pw), .long (zL ph)] [(x0, .inr (9, [.ref b0, .ref r0, .ref tr0, .ref dh, .ref kh, .ref me0, .ref cl0, .ref pg0, .ref la0])), (b0, .inr (0, [.ref hp, .ref hs, .int (zI bn)])), (hp, .inl (cG, 3, .inr (.inr (.inr (.inr (g3 p0 p1 p2)))))), (hs, .inl (cG, 3, .inr (.inr (.inr (.inr (g3 s0 s1 s2)))))), (p0, .inl (cI, 24, .inl (fI P0))), (p1, .inl (cI, 24, .inl (fI P1))), (p2, .inl (cI, 24, .inl (fI P2))), (s0, .inl (cI, 24, .inl (fI S0))), (s1, .inl (cI, 24, .inl (fI S1))), (s2, .inl (cI, 24, .inl (fI S2))), (dh, .inr (7, [.int (zI dth), .int (zI dn), .int (zI dac), .ref d1, .ref d2, .ref d3, .ref d4]))] (fun x w => x = zI bn ∧ w = [(x0, .inr (9, [.ref b0, .ref r0, .ref tr0, .ref dh, .ref kh, .ref me0, .ref cl0, .ref pg0, .ref la0])), (b0, .inr (0, [.ref hp, .ref hs, .int (zI (bn + 1))])), (hp, .inl (cG, 3, .inr (.inr (.inr (.inr (g3 p0 p1 p2)))))), (hs, .inl (cG, 3, .inr (.inr (.inr (.inr (g3 s0 s1 s2)))))), (p0, .inl (cI, 24, .inl (fI (upz P0 bn px)))), (p1, .inl (cI, 24, .inl (fI (upz P1 bn py)))), (p2, .inl (cI, 24, .inl (fI (upz P2 bn pz)))), (s0, .inl (cI, 24, .inl (fI (upz S0 bn pw)))), (s1, .inl (cI, 24, .inl (fI (upz S1 bn ph)))), (s2, .inl (cI, 24, .inl (fI (upz S2 bn 1)))), (dh, .inr (7, [.int (zI 0), .int (zI dn), .int (zI dac), .ref d1, .ref d2, .ref d3, .ref d4]))]) := by
  refine zBi (by decide) (Nat.le_of_ble_eq_true rfl) ?_
  intro p e s m args below meth c ls A H locs Q C hin hl hW hQ
  have hl : lv_has ls 12 [(0, .ref x0), (1, .long (zL px)), (3, .long (zL py)), (5, .long (zL pz)), (7, .long (zL pw)), (9, .long (zL ph))] := hl
  have hgd := gdX_s hg
  have h_px : bz (inR px (-1000000) 1000000) = 1 := inR_1 (by omega)
  have h_py : bz (inR py (-1000000) 1000000) = 1 := inR_1 (by omega)
  have h_pz : bz (inR pz (-1000000) 1000000) = 1 := inR_1 (by omega)
  have h_pw : bz (inR pw 1 1000000) = 1 := inR_1 (by omega)
  have h_ph : bz (inR ph 1 1000000) = 1 := inR_1 (by omega)
  refine lv_aload_n C.1 C.2.1 dPD_box_0 rfl (lv_at hl 0 rfl) ?_
  refine zget C hW 0 0 rfl rfl inPD (by decide) flPD_12 rfl dPD_box_1 ?_
  refine zget C hW 1 2 rfl rfl inBx (by decide) flPD_70 rfl dPD_box_4 ?_
  refine lv_bipush (v := zI 24) C.1 C.2.1 dPD_box_7 (by decide) ?_
  refine zicmp_lt (tgt := 22) C (by omega) (by omega) dPD_box_9 (by decide) (fun c9 => ?_) (fun c9 => ?_)
  · refine lv_lload_n C.1 C.2.1 dPD_box_22 rfl (lv_at hl 1 rfl) ?_
    refine zcalli (wr := [(x0, .inr (9, [.ref b0, .ref r0, .ref tr0, .ref dh, .ref kh, .ref me0, .ref cl0, .ref pg0, .ref la0])), (b0, .inr (0, [.ref hp, .ref hs, .int (zI bn)])), (hp, .inl (cG, 3, .inr (.inr (.inr (.inr (g3 p0 p1 p2)))))), (hs, .inl (cG, 3, .inr (.inr (.inr (.inr (g3 s0 s1 s2)))))), (p0, .inl (cI, 24, .inl (fI P0))), (p1, .inl (cI, 24, .inl (fI P1))), (p2, .inl (cI, 24, .inl (fI P2))), (s0, .inl (cI, 24, .inl (fI S0))), (s1, .inl (cI, 24, .inl (fI S1))), (s2, .inl (cI, 24, .inl (fI S2))), (dh, .inr (7, [.int (zI dth), .int (zI dn), .int (zI dac), .ref d1, .ref d2, .ref d3, .ref d4]))]) C hW [] [0, 1, 2, 3, 4, 5, 6, 7, 8, 9, 10] rfl rfl (by decide) (by decide) (zRunS (k := 1) (As := [.long (zL px)]) (rest := []) C hW (c_PartDrawings_isPlace l D cI cG cL cB px (by omega) H.size) [] rfl (by decide) kPD_81 (by decide +kernel) ⟨by decide, by decide⟩ rfl hl.1 (Nat.le_of_ble_eq_true rfl) dPD_box_23 ⟨by first | decide | omega, by first | decide | omega⟩) (fun x w H locs hq hW => ?_)
    obtain ⟨rfl, rfl⟩ := hq
    have hW : zw D zCl A s [(x0, .inr (9, [.ref b0, .ref r0, .ref tr0, .ref dh, .ref kh, .ref me0, .ref cl0, .ref pg0, .ref la0])), (b0, .inr (0, [.ref hp, .ref hs, .int (zI bn)])), (hp, .inl (cG, 3, .inr (.inr (.inr (.inr (g3 p0 p1 p2)))))), (hs, .inl (cG, 3, .inr (.inr (.inr (.inr (g3 s0 s1 s2)))))), (p0, .inl (cI, 24, .inl (fI P0))), (p1, .inl (cI, 24, .inl (fI P1))), (p2, .inl (cI, 24, .inl (fI P2))), (s0, .inl (cI, 24, .inl (fI S0))), (s1, .inl (cI, 24, .inl (fI S1))), (s2, .inl (cI, 24, .inl (fI S2))), (dh, .inr (7, [.int (zI dth), .int (zI dn), .int (zI dac), .ref d1, .ref d2, .ref d3, .ref d4]))] H locs := hW
    have hr1 := bz_01 (inR px (-1000000) 1000000)
    refine zif_eq (tgt := 44) C (by omega) dPD_box_26 (by decide) (fun c26 => ?_) (fun c26 => ?_)
    · exact False.elim (by omega)
    · refine lv_lload_n C.1 C.2.1 dPD_box_29 rfl (lv_at hl 2 rfl) ?_
      refine zcalli (wr := [(x0, .inr (9, [.ref b0, .ref r0, .ref tr0, .ref dh, .ref kh, .ref me0, .ref cl0, .ref pg0, .ref la0])), (b0, .inr (0, [.ref hp, .ref hs, .int (zI bn)])), (hp, .inl (cG, 3, .inr (.inr (.inr (.inr (g3 p0 p1 p2)))))), (hs, .inl (cG, 3, .inr (.inr (.inr (.inr (g3 s0 s1 s2)))))), (p0, .inl (cI, 24, .inl (fI P0))), (p1, .inl (cI, 24, .inl (fI P1))), (p2, .inl (cI, 24, .inl (fI P2))), (s0, .inl (cI, 24, .inl (fI S0))), (s1, .inl (cI, 24, .inl (fI S1))), (s2, .inl (cI, 24, .inl (fI S2))), (dh, .inr (7, [.int (zI dth), .int (zI dn), .int (zI dac), .ref d1, .ref d2, .ref d3, .ref d4]))]) C hW [] [0, 1, 2, 3, 4, 5, 6, 7, 8, 9, 10] rfl rfl (by decide) (by decide) (zRunS (k := 1) (As := [.long (zL py)]) (rest := []) C hW (c_PartDrawings_isPlace l D cI cG cL cB py (by omega) H.size) [] rfl (by decide) kPD_81 (by decide +kernel) ⟨by decide, by decide⟩ rfl hl.1 (Nat.le_of_ble_eq_true rfl) dPD_box_30 ⟨by first | decide | omega, by first | decide | omega⟩) (fun x w H locs hq hW => ?_)
      obtain ⟨rfl, rfl⟩ := hq
      have hW : zw D zCl A s [(x0, .inr (9, [.ref b0, .ref r0, .ref tr0, .ref dh, .ref kh, .ref me0, .ref cl0, .ref pg0, .ref la0])), (b0, .inr (0, [.ref hp, .ref hs, .int (zI bn)])), (hp, .inl (cG, 3, .inr (.inr (.inr (.inr (g3 p0 p1 p2)))))), (hs, .inl (cG, 3, .inr (.inr (.inr (.inr (g3 s0 s1 s2)))))), (p0, .inl (cI, 24, .inl (fI P0))), (p1, .inl (cI, 24, .inl (fI P1))), (p2, .inl (cI, 24, .inl (fI P2))), (s0, .inl (cI, 24, .inl (fI S0))), (s1, .inl (cI, 24, .inl (fI S1))), (s2, .inl (cI, 24, .inl (fI S2))), (dh, .inr (7, [.int (zI dth), .int (zI dn), .int (zI dac), .ref d1, .ref d2, .ref d3, .ref d4]))] H locs := hW
      have hr2 := bz_01 (inR py (-1000000) 1000000)
      refine zif_eq (tgt := 44) C (by omega) dPD_box_33 (by decide) (fun c33 => ?_) (fun c33 => ?_)
      · exact False.elim (by omega)
      · refine lv_lload C.1 C.2.1 dPD_box_36 (lv_at hl 3 rfl) ?_
        refine zcalli (wr := [(x0, .inr (9, [.ref b0, .ref r0, .ref tr0, .ref dh, .ref kh, .ref me0, .ref cl0, .ref pg0, .ref la0])), (b0, .inr (0, [.ref hp, .ref hs, .int (zI bn)])), (hp, .inl (cG, 3, .inr (.inr (.inr (.inr (g3 p0 p1 p2)))))), (hs, .inl (cG, 3, .inr (.inr (.inr (.inr (g3 s0 s1 s2)))))), (p0, .inl (cI, 24, .inl (fI P0))), (p1, .inl (cI, 24, .inl (fI P1))), (p2, .inl (cI, 24, .inl (fI P2))), (s0, .inl (cI, 24, .inl (fI S0))), (s1, .inl (cI, 24, .inl (fI S1))), (s2, .inl (cI, 24, .inl (fI S2))), (dh, .inr (7, [.int (zI dth), .int (zI dn), .int (zI dac), .ref d1, .ref d2, .ref d3, .ref d4]))]) C hW [] [0, 1, 2, 3, 4, 5, 6, 7, 8, 9, 10] rfl rfl (by decide) (by decide) (zRunS (k := 1) (As := [.long (zL pz)]) (rest := []) C hW (c_PartDrawings_isPlace l D cI cG cL cB pz (by omega) H.size) [] rfl (by decide) kPD_81 (by decide +kernel) ⟨by decide, by decide⟩ rfl hl.1 (Nat.le_of_ble_eq_true rfl) dPD_box_38 ⟨by first | decide | omega, by first | decide | omega⟩) (fun x w H locs hq hW => ?_)
        obtain ⟨rfl, rfl⟩ := hq
        have hW : zw D zCl A s [(x0, .inr (9, [.ref b0, .ref r0, .ref tr0, .ref dh, .ref kh, .ref me0, .ref cl0, .ref pg0, .ref la0])), (b0, .inr (0, [.ref hp, .ref hs, .int (zI bn)])), (hp, .inl (cG, 3, .inr (.inr (.inr (.inr (g3 p0 p1 p2)))))), (hs, .inl (cG, 3, .inr (.inr (.inr (.inr (g3 s0 s1 s2)))))), (p0, .inl (cI, 24, .inl (fI P0))), (p1, .inl (cI, 24, .inl (fI P1))), (p2, .inl (cI, 24, .inl (fI P2))), (s0, .inl (cI, 24, .inl (fI S0))), (s1, .inl (cI, 24, .inl (fI S1))), (s2, .inl (cI, 24, .inl (fI S2))), (dh, .inr (7, [.int (zI dth), .int (zI dn), .int (zI dac), .ref d1, .ref d2, .ref d3, .ref d4]))] H locs := hW
        have hr3 := bz_01 (inR pz (-1000000) 1000000)
        refine zif_ne (tgt := 54) C (by omega) dPD_box_41 (by decide) (fun c41 => ?_) (fun c41 => ?_)
        · refine lv_lload C.1 C.2.1 dPD_box_54 (lv_at hl 4 rfl) ?_
          refine zcalli (wr := [(x0, .inr (9, [.ref b0, .ref r0, .ref tr0, .ref dh, .ref kh, .ref me0, .ref cl0, .ref pg0, .ref la0])), (b0, .inr (0, [.ref hp, .ref hs, .int (zI bn)])), (hp, .inl (cG, 3, .inr (.inr (.inr (.inr (g3 p0 p1 p2)))))), (hs, .inl (cG, 3, .inr (.inr (.inr (.inr (g3 s0 s1 s2)))))), (p0, .inl (cI, 24, .inl (fI P0))), (p1, .inl (cI, 24, .inl (fI P1))), (p2, .inl (cI, 24, .inl (fI P2))), (s0, .inl (cI, 24, .inl (fI S0))), (s1, .inl (cI, 24, .inl (fI S1))), (s2, .inl (cI, 24, .inl (fI S2))), (dh, .inr (7, [.int (zI dth), .int (zI dn), .int (zI dac), .ref d1, .ref d2, .ref d3, .ref d4]))]) C hW [] [0, 1, 2, 3, 4, 5, 6, 7, 8, 9, 10] rfl rfl (by decide) (by decide) (zRunS (k := 1) (As := [.long (zL pw)]) (rest := []) C hW (c_PartDrawings_isSize l D cI cG cL cB pw (by omega) H.size) [] rfl (by decide) kPD_90 (by decide +kernel) ⟨by decide, by decide⟩ rfl hl.1 (Nat.le_of_ble_eq_true rfl) dPD_box_56 ⟨by first | decide | omega, by first | decide | omega⟩) (fun x w H locs hq hW => ?_)
          obtain ⟨rfl, rfl⟩ := hq
          have hW : zw D zCl A s [(x0, .inr (9, [.ref b0, .ref r0, .ref tr0, .ref dh, .ref kh, .ref me0, .ref cl0, .ref pg0, .ref la0])), (b0, .inr (0, [.ref hp, .ref hs, .int (zI bn)])), (hp, .inl (cG, 3, .inr (.inr (.inr (.inr (g3 p0 p1 p2)))))), (hs, .inl (cG, 3, .inr (.inr (.inr (.inr (g3 s0 s1 s2)))))), (p0, .inl (cI, 24, .inl (fI P0))), (p1, .inl (cI, 24, .inl (fI P1))), (p2, .inl (cI, 24, .inl (fI P2))), (s0, .inl (cI, 24, .inl (fI S0))), (s1, .inl (cI, 24, .inl (fI S1))), (s2, .inl (cI, 24, .inl (fI S2))), (dh, .inr (7, [.int (zI dth), .int (zI dn), .int (zI dac), .ref d1, .ref d2, .ref d3, .ref d4]))] H locs := hW
          have hr4 := bz_01 (inR pw 1 1000000)
          refine zif_eq (tgt := 70) C (by omega) dPD_box_59 (by decide) (fun c59 => ?_) (fun c59 => ?_)
          · exact False.elim (by omega)
          · refine lv_lload C.1 C.2.1 dPD_box_62 (lv_at hl 5 rfl) ?_
            refine zcalli (wr := [(x0, .inr (9, [.ref b0, .ref r0, .ref tr0, .ref dh, .ref kh, .ref me0, .ref cl0, .ref pg0, .ref la0])), (b0, .inr (0, [.ref hp, .ref hs, .int (zI bn)])), (hp, .inl (cG, 3, .inr (.inr (.inr (.inr (g3 p0 p1 p2)))))), (hs, .inl (cG, 3, .inr (.inr (.inr (.inr (g3 s0 s1 s2)))))), (p0, .inl (cI, 24, .inl (fI P0))), (p1, .inl (cI, 24, .inl (fI P1))), (p2, .inl (cI, 24, .inl (fI P2))), (s0, .inl (cI, 24, .inl (fI S0))), (s1, .inl (cI, 24, .inl (fI S1))), (s2, .inl (cI, 24, .inl (fI S2))), (dh, .inr (7, [.int (zI dth), .int (zI dn), .int (zI dac), .ref d1, .ref d2, .ref d3, .ref d4]))]) C hW [] [0, 1, 2, 3, 4, 5, 6, 7, 8, 9, 10] rfl rfl (by decide) (by decide) (zRunS (k := 1) (As := [.long (zL ph)]) (rest := []) C hW (c_PartDrawings_isSize l D cI cG cL cB ph (by omega) H.size) [] rfl (by decide) kPD_90 (by decide +kernel) ⟨by decide, by decide⟩ rfl hl.1 (Nat.le_of_ble_eq_true rfl) dPD_box_64 ⟨by first | decide | omega, by first | decide | omega⟩) (fun x w H locs hq hW => ?_)
            obtain ⟨rfl, rfl⟩ := hq
            have hW : zw D zCl A s [(x0, .inr (9, [.ref b0, .ref r0, .ref tr0, .ref dh, .ref kh, .ref me0, .ref cl0, .ref pg0, .ref la0])), (b0, .inr (0, [.ref hp, .ref hs, .int (zI bn)])), (hp, .inl (cG, 3, .inr (.inr (.inr (.inr (g3 p0 p1 p2)))))), (hs, .inl (cG, 3, .inr (.inr (.inr (.inr (g3 s0 s1 s2)))))), (p0, .inl (cI, 24, .inl (fI P0))), (p1, .inl (cI, 24, .inl (fI P1))), (p2, .inl (cI, 24, .inl (fI P2))), (s0, .inl (cI, 24, .inl (fI S0))), (s1, .inl (cI, 24, .inl (fI S1))), (s2, .inl (cI, 24, .inl (fI S2))), (dh, .inr (7, [.int (zI dth), .int (zI dn), .int (zI dac), .ref d1, .ref d2, .ref d3, .ref d4]))] H locs := hW
            have hr5 := bz_01 (inR ph 1 1000000)
            refine zif_ne (tgt := 80) C (by omega) dPD_box_67 (by decide) (fun c67 => ?_) (fun c67 => ?_)
            · refine lv_aload_n C.1 C.2.1 dPD_box_80 rfl (lv_at hl 0 rfl) ?_
              refine zget C hW 0 0 rfl rfl inPD (by decide) flPD_12 rfl dPD_box_81 ?_
              refine zget C hW 1 2 rfl rfl inBx (by decide) flPD_70 rfl dPD_box_84 ?_
              refine lv_istore (lv' := [(11, .int (zI bn)), (0, .ref x0), (1, .long (zL px)), (3, .long (zL py)), (5, .long (zL pz)), (7, .long (zL pw)), (9, .long (zL ph))]) C.1 C.2.1 dPD_box_87 hl (by decide) rfl (fun ls hl => ?_)
              refine lv_aload_n C.1 C.2.1 dPD_box_89 rfl (lv_at hl 1 rfl) ?_
              refine zget C hW 0 0 rfl rfl inPD (by decide) flPD_12 rfl dPD_box_90 ?_
              refine lv_dup C.1 C.2.1 dPD_box_93 rfl ?_
              refine zget C hW 1 2 rfl rfl inBx (by decide) flPD_70 rfl dPD_box_94 ?_
              refine lv_iconst (v := zI 1) C.1 C.2.1 dPD_box_97 (by decide) ?_
              refine ziadd C dPD_box_98 ?_
              refine zput C hW 1 2 tyBx tyBx_ok nmBx rfl rfl inBx (by decide) flPD_70 rfl rfl rfl rfl (Nat.le_of_ble_eq_true rfl) dPD_box_99 (fun H locs hW => ?_)
              have hW : zw D zCl A s [(x0, .inr (9, [.ref b0, .ref r0, .ref tr0, .ref dh, .ref kh, .ref me0, .ref cl0, .ref pg0, .ref la0])), (b0, .inr (0, [.ref hp, .ref hs, .int (zI (bn + 1))])), (hp, .inl (cG, 3, .inr (.inr (.inr (.inr (g3 p0 p1 p2)))))), (hs, .inl (cG, 3, .inr (.inr (.inr (.inr (g3 s0 s1 s2)))))), (p0, .inl (cI, 24, .inl (fI P0))), (p1, .inl (cI, 24, .inl (fI P1))), (p2, .inl (cI, 24, .inl (fI P2))), (s0, .inl (cI, 24, .inl (fI S0))), (s1, .inl (cI, 24, .inl (fI S1))), (s2, .inl (cI, 24, .inl (fI S2))), (dh, .inr (7, [.int (zI dth), .int (zI dn), .int (zI dac), .ref d1, .ref d2, .ref d3, .ref d4]))] H locs := hW
              refine lv_aload_n C.1 C.2.1 dPD_box_102 rfl (lv_at hl 1 rfl) ?_
              refine zget C hW 0 0 rfl rfl inPD (by decide) flPD_12 rfl dPD_box_103 ?_
              refine lv_iload C.1 C.2.1 dPD_box_106 (lv_at hl 0 rfl) ?_
              refine lv_lload_n C.1 C.2.1 dPD_box_108 rfl (lv_at hl 2 rfl) ?_
              refine zl2i C dPD_box_109 ?_
              refine lv_lload_n C.1 C.2.1 dPD_box_110 rfl (lv_at hl 3 rfl) ?_
              refine zl2i C dPD_box_111 ?_
              refine lv_lload C.1 C.2.1 dPD_box_112 (lv_at hl 4 rfl) ?_
              refine zl2i C dPD_box_114 ?_
              refine zcallv (wr := [(x0, .inr (9, [.ref b0, .ref r0, .ref tr0, .ref dh, .ref kh, .ref me0, .ref cl0, .ref pg0, .ref la0])), (dh, .inr (7, [.int (zI dth), .int (zI dn), .int (zI dac), .ref d1, .ref d2, .ref d3, .ref d4]))]) C hW [1, 2, 3, 4, 5, 6, 7, 8, 9] [0, 10] rfl rfl (by decide) (by decide) (zRunV (k := 4) (As := [.int (zI bn), .int (zI px), .int (zI py), .int (zI pz)]) (rest := []) C hW (c_Boxes_setPlaces l D cI cG cL cB b0 hp hs p0 p1 p2 s0 s1 s2 (bn + 1) P0 P1 P2 S0 S1 S2 bn px py pz bP0 bP1 bP2 bS0 bS1 bS2 (by omega) (by omega) (by omega) (by omega) (by omega) H.size) [1, 2, 3, 4, 5, 6, 7, 8, 9] rfl (by decide) kPD_95 (by decide +kernel) ⟨by decide, by decide⟩ 1 rfl rfl rfl hl.1 (Nat.le_of_ble_eq_true rfl) dPD_box_115 ⟨by first | decide | omega, by first | decide | omega⟩) (fun w H locs hq hW => ?_)
              subst hq
              have hW : zw D zCl A s [(x0, .inr (9, [.ref b0, .ref r0, .ref tr0, .ref dh, .ref kh, .ref me0, .ref cl0, .ref pg0, .ref la0])), (dh, .inr (7, [.int (zI dth), .int (zI dn), .int (zI dac), .ref d1, .ref d2, .ref d3, .ref d4])), (b0, .inr (0, [.ref hp, .ref hs, .int (zI (bn + 1))])), (hp, .inl (cG, 3, .inr (.inr (.inr (.inr (g3 p0 p1 p2)))))), (hs, .inl (cG, 3, .inr (.inr (.inr (.inr (g3 s0 s1 s2)))))), (p0, .inl (cI, 24, .inl (fI (upz P0 bn px)))), (p1, .inl (cI, 24, .inl (fI (upz P1 bn py)))), (p2, .inl (cI, 24, .inl (fI (upz P2 bn pz)))), (s0, .inl (cI, 24, .inl (fI S0))), (s1, .inl (cI, 24, .inl (fI S1))), (s2, .inl (cI, 24, .inl (fI S2)))] H locs := hW
              refine lv_aload_n C.1 C.2.1 dPD_box_118 rfl (lv_at hl 1 rfl) ?_
              refine zget C hW 0 0 rfl rfl inPD (by decide) flPD_12 rfl dPD_box_119 ?_
              refine lv_iload C.1 C.2.1 dPD_box_122 (lv_at hl 0 rfl) ?_
              refine lv_lload C.1 C.2.1 dPD_box_124 (lv_at hl 5 rfl) ?_
              refine zl2i C dPD_box_126 ?_
              refine lv_lload C.1 C.2.1 dPD_box_127 (lv_at hl 6 rfl) ?_
              refine zl2i C dPD_box_129 ?_
              refine lv_iconst (v := zI 1) C.1 C.2.1 dPD_box_130 (by decide) ?_
              refine zcallv (wr := [(x0, .inr (9, [.ref b0, .ref r0, .ref tr0, .ref dh, .ref kh, .ref me0, .ref cl0, .ref pg0, .ref la0])), (dh, .inr (7, [.int (zI dth), .int (zI dn), .int (zI dac), .ref d1, .ref d2, .ref d3, .ref d4]))]) C hW [2, 3, 4, 5, 6, 7, 8, 9, 10] [0, 1] rfl rfl (by decide) (by decide) (zRunV (k := 4) (As := [.int (zI bn), .int (zI pw), .int (zI ph), .int (zI 1)]) (rest := []) C hW (c_Boxes_setSizes l D cI cG cL cB b0 hp hs p0 p1 p2 s0 s1 s2 (bn + 1) (upz P0 bn px) (upz P1 bn py) (upz P2 bn pz) S0 S1 S2 bn pw ph 1 (upz_b bP0 (by omega)) (upz_b bP1 (by omega)) (upz_b bP2 (by omega)) bS0 bS1 bS2 (by omega) (by omega) (by omega) (by omega) (by omega) H.size) [2, 3, 4, 5, 6, 7, 8, 9, 10] rfl (by decide) kPD_99 (by decide +kernel) ⟨by decide, by decide⟩ 2 rfl rfl rfl hl.1 (Nat.le_of_ble_eq_true rfl) dPD_box_131 ⟨by first | decide | omega, by first | decide | omega⟩) (fun w H locs hq hW => ?_)
              subst hq
              have hW : zw D zCl A s [(x0, .inr (9, [.ref b0, .ref r0, .ref tr0, .ref dh, .ref kh, .ref me0, .ref cl0, .ref pg0, .ref la0])), (dh, .inr (7, [.int (zI dth), .int (zI dn), .int (zI dac), .ref d1, .ref d2, .ref d3, .ref d4])), (b0, .inr (0, [.ref hp, .ref hs, .int (zI (bn + 1))])), (hp, .inl (cG, 3, .inr (.inr (.inr (.inr (g3 p0 p1 p2)))))), (hs, .inl (cG, 3, .inr (.inr (.inr (.inr (g3 s0 s1 s2)))))), (p0, .inl (cI, 24, .inl (fI (upz P0 bn px)))), (p1, .inl (cI, 24, .inl (fI (upz P1 bn py)))), (p2, .inl (cI, 24, .inl (fI (upz P2 bn pz)))), (s0, .inl (cI, 24, .inl (fI (upz S0 bn pw)))), (s1, .inl (cI, 24, .inl (fI (upz S1 bn ph)))), (s2, .inl (cI, 24, .inl (fI (upz S2 bn 1))))] H locs := hW
              refine lv_aload_n C.1 C.2.1 dPD_box_134 rfl (lv_at hl 1 rfl) ?_
              refine zget C hW 0 3 rfl rfl inPD (by decide) flPD_33 rfl dPD_box_135 ?_
              refine lv_iconst (v := zI 0) C.1 C.2.1 dPD_box_138 (by decide) ?_
              refine zput C hW 1 0 tySk tySk_ok nmSk rfl rfl inSk (by decide) flPD_102 rfl rfl (by decide) (by decide) (Nat.le_of_ble_eq_true rfl) dPD_box_139 (fun H locs hW => ?_)
              have hW : zw D zCl A s [(x0, .inr (9, [.ref b0, .ref r0, .ref tr0, .ref dh, .ref kh, .ref me0, .ref cl0, .ref pg0, .ref la0])), (dh, .inr (7, [.int (zI 0), .int (zI dn), .int (zI dac), .ref d1, .ref d2, .ref d3, .ref d4])), (b0, .inr (0, [.ref hp, .ref hs, .int (zI (bn + 1))])), (hp, .inl (cG, 3, .inr (.inr (.inr (.inr (g3 p0 p1 p2)))))), (hs, .inl (cG, 3, .inr (.inr (.inr (.inr (g3 s0 s1 s2)))))), (p0, .inl (cI, 24, .inl (fI (upz P0 bn px)))), (p1, .inl (cI, 24, .inl (fI (upz P1 bn py)))), (p2, .inl (cI, 24, .inl (fI (upz P2 bn pz)))), (s0, .inl (cI, 24, .inl (fI (upz S0 bn pw)))), (s1, .inl (cI, 24, .inl (fI (upz S1 bn ph)))), (s2, .inl (cI, 24, .inl (fI (upz S2 bn 1))))] H locs := hW
              refine lv_iload C.1 C.2.1 dPD_box_142 (lv_at hl 0 rfl) ?_
              have hW : zw D zCl A s [(x0, .inr (9, [.ref b0, .ref r0, .ref tr0, .ref dh, .ref kh, .ref me0, .ref cl0, .ref pg0, .ref la0])), (b0, .inr (0, [.ref hp, .ref hs, .int (zI (bn + 1))])), (hp, .inl (cG, 3, .inr (.inr (.inr (.inr (g3 p0 p1 p2)))))), (hs, .inl (cG, 3, .inr (.inr (.inr (.inr (g3 s0 s1 s2)))))), (p0, .inl (cI, 24, .inl (fI (upz P0 bn px)))), (p1, .inl (cI, 24, .inl (fI (upz P1 bn py)))), (p2, .inl (cI, 24, .inl (fI (upz P2 bn pz)))), (s0, .inl (cI, 24, .inl (fI (upz S0 bn pw)))), (s1, .inl (cI, 24, .inl (fI (upz S1 bn ph)))), (s2, .inl (cI, 24, .inl (fI (upz S2 bn 1)))), (dh, .inr (7, [.int (zI 0), .int (zI dn), .int (zI dac), .ref d1, .ref d2, .ref d3, .ref d4]))] H locs := zwp hW [0, 2, 3, 4, 5, 6, 7, 8, 9, 10, 1] rfl (by decide)
              exact hQ (zI bn) _ H locs _ _ _ ls hW ⟨rfl, rfl⟩ (by omega) (by omega) dPD_box_144
            · exact False.elim (by omega)
        · exact False.elim (by omega)
  · exact False.elim (by omega)
set_option maxHeartbeats 4000000 in
set_option maxRecDepth 100000 in
theorem c_PartDrawings_box_T1 (l : Launch) (D : va_G) (cI cG cL cB : ClassId) (x0 : Nat) (b0 : Nat) (r0 : Nat) (tr0 : Nat) (dh : Nat) (kh : Nat) (me0 : Nat) (cl0 : Nat) (pg0 : Nat) (la0 : Nat) (hp : Nat) (hs : Nat) (p0 : Nat) (p1 : Nat) (p2 : Nat) (s0 : Nat) (s1 : Nat) (s2 : Nat) (bn : Int) (P0 : Int → Int) (P1 : Int → Int) (P2 : Int → Int) (S0 : Int → Int) (S1 : Int → Int) (S2 : Int → Int) (d1 : Nat) (d2 : Nat) (d3 : Nat) (d4 : Nat) (dth : Int) (dn : Int) (dac : Int) (px : Int) (py : Int) (pz : Int) (pw : Int) (ph : Int) (hlt : l.stackTraces = false) (bP0 : ∀ j : Int, I32 (P0 j)) (bP1 : ∀ j : Int, I32 (P1 j)) (bP2 : ∀ j : Int, I32 (P2 j)) (bS0 : ∀ j : Int, I32 (S0 j)) (bS1 : ∀ j : Int, I32 (S1 j)) (bS2 : ∀ j : Int, I32 (S2 j)) (hBB : boxB bn P0 P1 P2 S0 S1 S2) (hbn0 : 0 ≤ bn) (hbn1 : bn ≤ 24) (hJpx : I64 px) (hJpy : I64 py) (hJpz : I64 pz) (hJpw : I64 pw) (hJph : I64 ph) (hb : bn = 24) : Ct l yPD_box cPD_box 12 (some .int) 6 1 6 D zCl (zT cI cG cL cB) [.ref x0, .long (zL px), .long (zL py), .long (zL pz), .long (zL pw), .long (zL ph)] [(x0, .inr (9, [.ref b0, .ref r0, .ref tr0, .ref dh, .ref kh, .ref me0, .ref cl0, .ref pg0, .ref la0])), (b0, .inr (0, [.ref hp, .ref hs, .int (zI bn)])), (hp, .inl (cG, 3, .inr (.inr (.inr (.inr (g3 p0 p1 p2)))))), (hs, .inl (cG, 3, .inr (.inr (.inr (.inr (g3 s0 s1 s2)))))), (p0, .inl (cI, 24, .inl (fI P0))), (p1, .inl (cI, 24, .inl (fI P1))), (p2, .inl (cI, 24, .inl (fI P2))), (s0, .inl (cI, 24, .inl (fI S0))), (s1, .inl (cI, 24, .inl (fI S1))), (s2, .inl (cI, 24, .inl (fI S2))), (dh, .inr (7, [.int (zI dth), .int (zI dn), .int (zI dac), .ref d1, .ref d2, .ref d3, .ref d4]))] "java/lang/IllegalStateException" (fun w => w = [(x0, .inr (9, [.ref b0, .ref r0, .ref tr0, .ref dh, .ref kh, .ref me0, .ref cl0, .ref pg0, .ref la0])), (b0, .inr (0, [.ref hp, .ref hs, .int (zI bn)])), (hp, .inl (cG, 3, .inr (.inr (.inr (.inr (g3 p0 p1 p2)))))), (hs, .inl (cG, 3, .inr (.inr (.inr (.inr (g3 s0 s1 s2)))))), (p0, .inl (cI, 24, .inl (fI P0))), (p1, .inl (cI, 24, .inl (fI P1))), (p2, .inl (cI, 24, .inl (fI P2))), (s0, .inl (cI, 24, .inl (fI S0))), (s1, .inl (cI, 24, .inl (fI S1))), (s2, .inl (cI, 24, .inl (fI S2))), (dh, .inr (7, [.int (zI dth), .int (zI dn), .int (zI dac), .ref d1, .ref d2, .ref d3, .ref d4]))]) := by
  refine zBt (by decide) (Nat.le_of_ble_eq_true rfl) ?_
  intro p e s m args below meth c ls A H locs Q C hx hl hW hQ
  have hl : lv_has ls 12 [(0, .ref x0), (1, .long (zL px)), (3, .long (zL py)), (5, .long (zL pz)), (7, .long (zL pw)), (9, .long (zL ph))] := hl
  refine lv_aload_n C.1 C.2.1 dPD_box_0 rfl (lv_at hl 0 rfl) ?_
  refine zget C hW 0 0 rfl rfl inPD (by decide) flPD_12 rfl dPD_box_1 ?_
  refine zget C hW 1 2 rfl rfl inBx (by decide) flPD_70 rfl dPD_box_4 ?_
  refine lv_bipush (v := zI 24) C.1 C.2.1 dPD_box_7 (by decide) ?_
  refine zicmp_lt (tgt := 22) C (by omega) (by omega) dPD_box_9 (by decide) (fun c9 => ?_) (fun c9 => ?_)
  · exact False.elim (by omega)
  · exact zthrow C hW hx hlt hl.1 (by decide +kernel) (by decide +kernel) ktPD_74_76_78c kxPD_78 ktPD_74_76_78s hQ rfl (by omega) (by omega) (by decide) (by decide) (by decide) (Nat.le_of_ble_eq_true rfl) dPD_box_12 dPD_box_15 dPD_box_16 dPD_box_18 dPD_box_21
set_option maxHeartbeats 4000000 in
set_option maxRecDepth 100000 in
theorem c_PartDrawings_box_T2 (l : Launch) (D : va_G) (cI cG cL cB : ClassId) (x0 : Nat) (b0 : Nat) (r0 : Nat) (tr0 : Nat) (dh : Nat) (kh : Nat) (me0 : Nat) (cl0 : Nat) (pg0 : Nat) (la0 : Nat) (hp : Nat) (hs : Nat) (p0 : Nat) (p1 : Nat) (p2 : Nat) (s0 : Nat) (s1 : Nat) (s2 : Nat) (bn : Int) (P0 : Int → Int) (P1 : Int → Int) (P2 : Int → Int) (S0 : Int → Int) (S1 : Int → Int) (S2 : Int → Int) (d1 : Nat) (d2 : Nat) (d3 : Nat) (d4 : Nat) (dth : Int) (dn : Int) (dac : Int) (px : Int) (py : Int) (pz : Int) (pw : Int) (ph : Int) (hlt : l.stackTraces = false) (bP0 : ∀ j : Int, I32 (P0 j)) (bP1 : ∀ j : Int, I32 (P1 j)) (bP2 : ∀ j : Int, I32 (P2 j)) (bS0 : ∀ j : Int, I32 (S0 j)) (bS1 : ∀ j : Int, I32 (S1 j)) (bS2 : ∀ j : Int, I32 (S2 j)) (hBB : boxB bn P0 P1 P2 S0 S1 S2) (hbn0 : 0 ≤ bn) (hbn1 : bn ≤ 24) (hJpx : I64 px) (hJpy : I64 py) (hJpz : I64 pz) (hJpw : I64 pw) (hJph : I64 ph) (hb : bn < 24) (hg : gdX px py pz pw ph = false) : Ct l yPD_box cPD_box 12 (some .int) 6 1 6 D zCl (zT cI cG cL cB) [.ref x0, .long (zL px), .long (zL py), .long (zL pz), .long (zL pw), .long (zL ph)] [(x0, .inr (9, [.ref b0, .ref r0, .ref tr0, .ref dh, .ref kh, .ref me0, .ref cl0, .ref pg0, .ref la0])), (b0, .inr (0, [.ref hp, .ref hs, .int (zI bn)])), (hp, .inl (cG, 3, .inr (.inr (.inr (.inr (g3 p0 p1 p2)))))), (hs, .inl (cG, 3, .inr (.inr (.inr (.inr (g3 s0 s1 s2)))))), (p0, .inl (cI, 24, .inl (fI P0))), (p1, .inl (cI, 24, .inl (fI P1))), (p2, .inl (cI, 24, .inl (fI P2))), (s0, .inl (cI, 24, .inl (fI S0))), (s1, .inl (cI, 24, .inl (fI S1))), (s2, .inl (cI, 24, .inl (fI S2))), (dh, .inr (7, [.int (zI dth), .int (zI dn), .int (zI dac), .ref d1, .ref d2, .ref d3, .ref d4]))] "java/lang/IllegalArgumentException" (fun w => w = [(x0, .inr (9, [.ref b0, .ref r0, .ref tr0, .ref dh, .ref kh, .ref me0, .ref cl0, .ref pg0, .ref la0])), (b0, .inr (0, [.ref hp, .ref hs, .int (zI bn)])), (hp, .inl (cG, 3, .inr (.inr (.inr (.inr (g3 p0 p1 p2)))))), (hs, .inl (cG, 3, .inr (.inr (.inr (.inr (g3 s0 s1 s2)))))), (p0, .inl (cI, 24, .inl (fI P0))), (p1, .inl (cI, 24, .inl (fI P1))), (p2, .inl (cI, 24, .inl (fI P2))), (s0, .inl (cI, 24, .inl (fI S0))), (s1, .inl (cI, 24, .inl (fI S1))), (s2, .inl (cI, 24, .inl (fI S2))), (dh, .inr (7, [.int (zI dth), .int (zI dn), .int (zI dac), .ref d1, .ref d2, .ref d3, .ref d4]))]) := by
  refine zBt (by decide) (Nat.le_of_ble_eq_true rfl) ?_
  intro p e s m args below meth c ls A H locs Q C hx hl hW hQ
  have hl : lv_has ls 12 [(0, .ref x0), (1, .long (zL px)), (3, .long (zL py)), (5, .long (zL pz)), (7, .long (zL pw)), (9, .long (zL ph))] := hl
  refine lv_aload_n C.1 C.2.1 dPD_box_0 rfl (lv_at hl 0 rfl) ?_
  refine zget C hW 0 0 rfl rfl inPD (by decide) flPD_12 rfl dPD_box_1 ?_
  refine zget C hW 1 2 rfl rfl inBx (by decide) flPD_70 rfl dPD_box_4 ?_
  refine lv_bipush (v := zI 24) C.1 C.2.1 dPD_box_7 (by decide) ?_
  refine zicmp_lt (tgt := 22) C (by omega) (by omega) dPD_box_9 (by decide) (fun c9 => ?_) (fun c9 => ?_)
  · refine lv_lload_n C.1 C.2.1 dPD_box_22 rfl (lv_at hl 1 rfl) ?_
    refine zcalli (wr := [(x0, .inr (9, [.ref b0, .ref r0, .ref tr0, .ref dh, .ref kh, .ref me0, .ref cl0, .ref pg0, .ref la0])), (b0, .inr (0, [.ref hp, .ref hs, .int (zI bn)])), (hp, .inl (cG, 3, .inr (.inr (.inr (.inr (g3 p0 p1 p2)))))), (hs, .inl (cG, 3, .inr (.inr (.inr (.inr (g3 s0 s1 s2)))))), (p0, .inl (cI, 24, .inl (fI P0))), (p1, .inl (cI, 24, .inl (fI P1))), (p2, .inl (cI, 24, .inl (fI P2))), (s0, .inl (cI, 24, .inl (fI S0))), (s1, .inl (cI, 24, .inl (fI S1))), (s2, .inl (cI, 24, .inl (fI S2))), (dh, .inr (7, [.int (zI dth), .int (zI dn), .int (zI dac), .ref d1, .ref d2, .ref d3, .ref d4]))]) C hW [] [0, 1, 2, 3, 4, 5, 6, 7, 8, 9, 10] rfl rfl (by decide) (by decide) (zRunS (k := 1) (As := [.long (zL px)]) (rest := []) C hW (c_PartDrawings_isPlace l D cI cG cL cB px (by omega) H.size) [] rfl (by decide) kPD_81 (by decide +kernel) ⟨by decide, by decide⟩ rfl hl.1 (Nat.le_of_ble_eq_true rfl) dPD_box_23 ⟨by first | decide | omega, by first | decide | omega⟩) (fun x w H locs hq hW => ?_)
    obtain ⟨rfl, rfl⟩ := hq
    have hW : zw D zCl A s [(x0, .inr (9, [.ref b0, .ref r0, .ref tr0, .ref dh, .ref kh, .ref me0, .ref cl0, .ref pg0, .ref la0])), (b0, .inr (0, [.ref hp, .ref hs, .int (zI bn)])), (hp, .inl (cG, 3, .inr (.inr (.inr (.inr (g3 p0 p1 p2)))))), (hs, .inl (cG, 3, .inr (.inr (.inr (.inr (g3 s0 s1 s2)))))), (p0, .inl (cI, 24, .inl (fI P0))), (p1, .inl (cI, 24, .inl (fI P1))), (p2, .inl (cI, 24, .inl (fI P2))), (s0, .inl (cI, 24, .inl (fI S0))), (s1, .inl (cI, 24, .inl (fI S1))), (s2, .inl (cI, 24, .inl (fI S2))), (dh, .inr (7, [.int (zI dth), .int (zI dn), .int (zI dac), .ref d1, .ref d2, .ref d3, .ref d4]))] H locs := hW
    have hr1 := bz_01 (inR px (-1000000) 1000000)
    refine zif_eq (tgt := 44) C (by omega) dPD_box_26 (by decide) (fun c26 => ?_) (fun c26 => ?_)
    · exact zthrow C hW hx hlt hl.1 (by decide +kernel) (by decide +kernel) ktPD_85_87_89c kxPD_89 ktPD_85_87_89s hQ rfl (by omega) (by omega) (by decide) (by decide) (by decide) (Nat.le_of_ble_eq_true rfl) dPD_box_44 dPD_box_47 dPD_box_48 dPD_box_50 dPD_box_53
    · refine lv_lload_n C.1 C.2.1 dPD_box_29 rfl (lv_at hl 2 rfl) ?_
      refine zcalli (wr := [(x0, .inr (9, [.ref b0, .ref r0, .ref tr0, .ref dh, .ref kh, .ref me0, .ref cl0, .ref pg0, .ref la0])), (b0, .inr (0, [.ref hp, .ref hs, .int (zI bn)])), (hp, .inl (cG, 3, .inr (.inr (.inr (.inr (g3 p0 p1 p2)))))), (hs, .inl (cG, 3, .inr (.inr (.inr (.inr (g3 s0 s1 s2)))))), (p0, .inl (cI, 24, .inl (fI P0))), (p1, .inl (cI, 24, .inl (fI P1))), (p2, .inl (cI, 24, .inl (fI P2))), (s0, .inl (cI, 24, .inl (fI S0))), (s1, .inl (cI, 24, .inl (fI S1))), (s2, .inl (cI, 24, .inl (fI S2))), (dh, .inr (7, [.int (zI dth), .int (zI dn), .int (zI dac), .ref d1, .ref d2, .ref d3, .ref d4]))]) C hW [] [0, 1, 2, 3, 4, 5, 6, 7, 8, 9, 10] rfl rfl (by decide) (by decide) (zRunS (k := 1) (As := [.long (zL py)]) (rest := []) C hW (c_PartDrawings_isPlace l D cI cG cL cB py (by omega) H.size) [] rfl (by decide) kPD_81 (by decide +kernel) ⟨by decide, by decide⟩ rfl hl.1 (Nat.le_of_ble_eq_true rfl) dPD_box_30 ⟨by first | decide | omega, by first | decide | omega⟩) (fun x w H locs hq hW => ?_)
      obtain ⟨rfl, rfl⟩ := hq
      have hW : zw D zCl A s [(x0, .inr (9, [.ref b0, .ref r0, .ref tr0, .ref dh, .ref kh, .ref me0, .ref cl0, .ref pg0, .ref la0])), (b0, .inr (0, [.ref hp, .ref hs, .int (zI bn)])), (hp, .inl (cG, 3, .inr (.inr (.inr (.inr (g3 p0 p1 p2)))))), (hs, .inl (cG, 3, .inr (.inr (.inr (.inr (g3 s0 s1 s2)))))), (p0, .inl (cI, 24, .inl (fI P0))), (p1, .inl (cI, 24, .inl (fI P1))), (p2, .inl (cI, 24, .inl (fI P2))), (s0, .inl (cI, 24, .inl (fI S0))), (s1, .inl (cI, 24, .inl (fI S1))), (s2, .inl (cI, 24, .inl (fI S2))), (dh, .inr (7, [.int (zI dth), .int (zI dn), .int (zI dac), .ref d1, .ref d2, .ref d3, .ref d4]))] H locs := hW
      have hr2 := bz_01 (inR py (-1000000) 1000000)
      refine zif_eq (tgt := 44) C (by omega) dPD_box_33 (by decide) (fun c33 => ?_) (fun c33 => ?_)
      · exact zthrow C hW hx hlt hl.1 (by decide +kernel) (by decide +kernel) ktPD_85_87_89c kxPD_89 ktPD_85_87_89s hQ rfl (by omega) (by omega) (by decide) (by decide) (by decide) (Nat.le_of_ble_eq_true rfl) dPD_box_44 dPD_box_47 dPD_box_48 dPD_box_50 dPD_box_53
      · refine lv_lload C.1 C.2.1 dPD_box_36 (lv_at hl 3 rfl) ?_
        refine zcalli (wr := [(x0, .inr (9, [.ref b0, .ref r0, .ref tr0, .ref dh, .ref kh, .ref me0, .ref cl0, .ref pg0, .ref la0])), (b0, .inr (0, [.ref hp, .ref hs, .int (zI bn)])), (hp, .inl (cG, 3, .inr (.inr (.inr (.inr (g3 p0 p1 p2)))))), (hs, .inl (cG, 3, .inr (.inr (.inr (.inr (g3 s0 s1 s2)))))), (p0, .inl (cI, 24, .inl (fI P0))), (p1, .inl (cI, 24, .inl (fI P1))), (p2, .inl (cI, 24, .inl (fI P2))), (s0, .inl (cI, 24, .inl (fI S0))), (s1, .inl (cI, 24, .inl (fI S1))), (s2, .inl (cI, 24, .inl (fI S2))), (dh, .inr (7, [.int (zI dth), .int (zI dn), .int (zI dac), .ref d1, .ref d2, .ref d3, .ref d4]))]) C hW [] [0, 1, 2, 3, 4, 5, 6, 7, 8, 9, 10] rfl rfl (by decide) (by decide) (zRunS (k := 1) (As := [.long (zL pz)]) (rest := []) C hW (c_PartDrawings_isPlace l D cI cG cL cB pz (by omega) H.size) [] rfl (by decide) kPD_81 (by decide +kernel) ⟨by decide, by decide⟩ rfl hl.1 (Nat.le_of_ble_eq_true rfl) dPD_box_38 ⟨by first | decide | omega, by first | decide | omega⟩) (fun x w H locs hq hW => ?_)
        obtain ⟨rfl, rfl⟩ := hq
        have hW : zw D zCl A s [(x0, .inr (9, [.ref b0, .ref r0, .ref tr0, .ref dh, .ref kh, .ref me0, .ref cl0, .ref pg0, .ref la0])), (b0, .inr (0, [.ref hp, .ref hs, .int (zI bn)])), (hp, .inl (cG, 3, .inr (.inr (.inr (.inr (g3 p0 p1 p2)))))), (hs, .inl (cG, 3, .inr (.inr (.inr (.inr (g3 s0 s1 s2)))))), (p0, .inl (cI, 24, .inl (fI P0))), (p1, .inl (cI, 24, .inl (fI P1))), (p2, .inl (cI, 24, .inl (fI P2))), (s0, .inl (cI, 24, .inl (fI S0))), (s1, .inl (cI, 24, .inl (fI S1))), (s2, .inl (cI, 24, .inl (fI S2))), (dh, .inr (7, [.int (zI dth), .int (zI dn), .int (zI dac), .ref d1, .ref d2, .ref d3, .ref d4]))] H locs := hW
        have hr3 := bz_01 (inR pz (-1000000) 1000000)
        refine zif_ne (tgt := 54) C (by omega) dPD_box_41 (by decide) (fun c41 => ?_) (fun c41 => ?_)
        · refine lv_lload C.1 C.2.1 dPD_box_54 (lv_at hl 4 rfl) ?_
          refine zcalli (wr := [(x0, .inr (9, [.ref b0, .ref r0, .ref tr0, .ref dh, .ref kh, .ref me0, .ref cl0, .ref pg0, .ref la0])), (b0, .inr (0, [.ref hp, .ref hs, .int (zI bn)])), (hp, .inl (cG, 3, .inr (.inr (.inr (.inr (g3 p0 p1 p2)))))), (hs, .inl (cG, 3, .inr (.inr (.inr (.inr (g3 s0 s1 s2)))))), (p0, .inl (cI, 24, .inl (fI P0))), (p1, .inl (cI, 24, .inl (fI P1))), (p2, .inl (cI, 24, .inl (fI P2))), (s0, .inl (cI, 24, .inl (fI S0))), (s1, .inl (cI, 24, .inl (fI S1))), (s2, .inl (cI, 24, .inl (fI S2))), (dh, .inr (7, [.int (zI dth), .int (zI dn), .int (zI dac), .ref d1, .ref d2, .ref d3, .ref d4]))]) C hW [] [0, 1, 2, 3, 4, 5, 6, 7, 8, 9, 10] rfl rfl (by decide) (by decide) (zRunS (k := 1) (As := [.long (zL pw)]) (rest := []) C hW (c_PartDrawings_isSize l D cI cG cL cB pw (by omega) H.size) [] rfl (by decide) kPD_90 (by decide +kernel) ⟨by decide, by decide⟩ rfl hl.1 (Nat.le_of_ble_eq_true rfl) dPD_box_56 ⟨by first | decide | omega, by first | decide | omega⟩) (fun x w H locs hq hW => ?_)
          obtain ⟨rfl, rfl⟩ := hq
          have hW : zw D zCl A s [(x0, .inr (9, [.ref b0, .ref r0, .ref tr0, .ref dh, .ref kh, .ref me0, .ref cl0, .ref pg0, .ref la0])), (b0, .inr (0, [.ref hp, .ref hs, .int (zI bn)])), (hp, .inl (cG, 3, .inr (.inr (.inr (.inr (g3 p0 p1 p2)))))), (hs, .inl (cG, 3, .inr (.inr (.inr (.inr (g3 s0 s1 s2)))))), (p0, .inl (cI, 24, .inl (fI P0))), (p1, .inl (cI, 24, .inl (fI P1))), (p2, .inl (cI, 24, .inl (fI P2))), (s0, .inl (cI, 24, .inl (fI S0))), (s1, .inl (cI, 24, .inl (fI S1))), (s2, .inl (cI, 24, .inl (fI S2))), (dh, .inr (7, [.int (zI dth), .int (zI dn), .int (zI dac), .ref d1, .ref d2, .ref d3, .ref d4]))] H locs := hW
          have hr4 := bz_01 (inR pw 1 1000000)
          refine zif_eq (tgt := 70) C (by omega) dPD_box_59 (by decide) (fun c59 => ?_) (fun c59 => ?_)
          · exact zthrow C hW hx hlt hl.1 (by decide +kernel) (by decide +kernel) ktPD_85_93_89c kxPD_89 ktPD_85_93_89s hQ rfl (by omega) (by omega) (by decide) (by decide) (by decide) (Nat.le_of_ble_eq_true rfl) dPD_box_70 dPD_box_73 dPD_box_74 dPD_box_76 dPD_box_79
          · refine lv_lload C.1 C.2.1 dPD_box_62 (lv_at hl 5 rfl) ?_
            refine zcalli (wr := [(x0, .inr (9, [.ref b0, .ref r0, .ref tr0, .ref dh, .ref kh, .ref me0, .ref cl0, .ref pg0, .ref la0])), (b0, .inr (0, [.ref hp, .ref hs, .int (zI bn)])), (hp, .inl (cG, 3, .inr (.inr (.inr (.inr (g3 p0 p1 p2)))))), (hs, .inl (cG, 3, .inr (.inr (.inr (.inr (g3 s0 s1 s2)))))), (p0, .inl (cI, 24, .inl (fI P0))), (p1, .inl (cI, 24, .inl (fI P1))), (p2, .inl (cI, 24, .inl (fI P2))), (s0, .inl (cI, 24, .inl (fI S0))), (s1, .inl (cI, 24, .inl (fI S1))), (s2, .inl (cI, 24, .inl (fI S2))), (dh, .inr (7, [.int (zI dth), .int (zI dn), .int (zI dac), .ref d1, .ref d2, .ref d3, .ref d4]))]) C hW [] [0, 1, 2, 3, 4, 5, 6, 7, 8, 9, 10] rfl rfl (by decide) (by decide) (zRunS (k := 1) (As := [.long (zL ph)]) (rest := []) C hW (c_PartDrawings_isSize l D cI cG cL cB ph (by omega) H.size) [] rfl (by decide) kPD_90 (by decide +kernel) ⟨by decide, by decide⟩ rfl hl.1 (Nat.le_of_ble_eq_true rfl) dPD_box_64 ⟨by first | decide | omega, by first | decide | omega⟩) (fun x w H locs hq hW => ?_)
            obtain ⟨rfl, rfl⟩ := hq
            have hW : zw D zCl A s [(x0, .inr (9, [.ref b0, .ref r0, .ref tr0, .ref dh, .ref kh, .ref me0, .ref cl0, .ref pg0, .ref la0])), (b0, .inr (0, [.ref hp, .ref hs, .int (zI bn)])), (hp, .inl (cG, 3, .inr (.inr (.inr (.inr (g3 p0 p1 p2)))))), (hs, .inl (cG, 3, .inr (.inr (.inr (.inr (g3 s0 s1 s2)))))), (p0, .inl (cI, 24, .inl (fI P0))), (p1, .inl (cI, 24, .inl (fI P1))), (p2, .inl (cI, 24, .inl (fI P2))), (s0, .inl (cI, 24, .inl (fI S0))), (s1, .inl (cI, 24, .inl (fI S1))), (s2, .inl (cI, 24, .inl (fI S2))), (dh, .inr (7, [.int (zI dth), .int (zI dn), .int (zI dac), .ref d1, .ref d2, .ref d3, .ref d4]))] H locs := hW
            have hr5 := bz_01 (inR ph 1 1000000)
            refine zif_ne (tgt := 80) C (by omega) dPD_box_67 (by decide) (fun c67 => ?_) (fun c67 => ?_)
            · exact False.elim (by exact gdX_n hg (by omega) (by omega) (by omega) (by omega) (by omega))
            · exact zthrow C hW hx hlt hl.1 (by decide +kernel) (by decide +kernel) ktPD_85_93_89c kxPD_89 ktPD_85_93_89s hQ rfl (by omega) (by omega) (by decide) (by decide) (by decide) (Nat.le_of_ble_eq_true rfl) dPD_box_70 dPD_box_73 dPD_box_74 dPD_box_76 dPD_box_79
        · exact zthrow C hW hx hlt hl.1 (by decide +kernel) (by decide +kernel) ktPD_85_87_89c kxPD_89 ktPD_85_87_89s hQ rfl (by omega) (by omega) (by decide) (by decide) (by decide) (Nat.le_of_ble_eq_true rfl) dPD_box_44 dPD_box_47 dPD_box_48 dPD_box_50 dPD_box_53
  · exact False.elim (by omega)
set_option maxHeartbeats 4000000 in
set_option maxRecDepth 100000 in
theorem c_PartDrawings_deep (l : Launch) (D : va_G) (cI cG cL cB : ClassId) (x0 : Nat) (b0 : Nat) (r0 : Nat) (tr0 : Nat) (dh : Nat) (kh : Nat) (me0 : Nat) (cl0 : Nat) (pg0 : Nat) (la0 : Nat) (hp : Nat) (hs : Nat) (p0 : Nat) (p1 : Nat) (p2 : Nat) (s0 : Nat) (s1 : Nat) (s2 : Nat) (bn : Int) (P0 : Int → Int) (P1 : Int → Int) (P2 : Int → Int) (S0 : Int → Int) (S1 : Int → Int) (S2 : Int → Int) (d1 : Nat) (d2 : Nat) (d3 : Nat) (d4 : Nat) (dth : Int) (dn : Int) (dac : Int) (k : Int) (dd : Int) (bP0 : ∀ j : Int, I32 (P0 j)) (bP1 : ∀ j : Int, I32 (P1 j)) (bP2 : ∀ j : Int, I32 (P2 j)) (bS0 : ∀ j : Int, I32 (S0 j)) (bS1 : ∀ j : Int, I32 (S1 j)) (bS2 : ∀ j : Int, I32 (S2 j)) (hBB : boxB bn P0 P1 P2 S0 S1 S2) (hbn0 : 0 ≤ bn) (hbn1 : bn ≤ 24) (hIk : I32 k) (hJdd : I64 dd) (hk0 : 0 ≤ k) (hk1 : k < bn) (hd : 1 ≤ dd ∧ dd ≤ 1000000) (hn : S2 k ≠ dd) : Ci l yPD_deep cPD_deep 4 (some .boolean) 1 0 0 D zCl (zT cI cG cL cB) [.ref x0, .int (zI k), .long (zL dd)] [(x0, .inr (9, [.ref b0, .ref r0, .ref tr0, .ref dh, .ref kh, .ref me0, .ref cl0, .ref pg0, .ref la0])), (b0, .inr (0, [.ref hp, .ref hs, .int (zI bn)])), (hp, .inl (cG, 3, .inr (.inr (.inr (.inr (g3 p0 p1 p2)))))), (hs, .inl (cG, 3, .inr (.inr (.inr (.inr (g3 s0 s1 s2)))))), (p0, .inl (cI, 24, .inl (fI P0))), (p1, .inl (cI, 24, .inl (fI P1))), (p2, .inl (cI, 24, .inl (fI P2))), (s0, .inl (cI, 24, .inl (fI S0))), (s1, .inl (cI, 24, .inl (fI S1))), (s2, .inl (cI, 24, .inl (fI S2))), (dh, .inr (7, [.int (zI dth), .int (zI dn), .int (zI dac), .ref d1, .ref d2, .ref d3, .ref d4]))] (fun x w => x = zI 1 ∧ w = [(x0, .inr (9, [.ref b0, .ref r0, .ref tr0, .ref dh, .ref kh, .ref me0, .ref cl0, .ref pg0, .ref la0])), (b0, .inr (0, [.ref hp, .ref hs, .int (zI bn)])), (hp, .inl (cG, 3, .inr (.inr (.inr (.inr (g3 p0 p1 p2)))))), (hs, .inl (cG, 3, .inr (.inr (.inr (.inr (g3 s0 s1 s2)))))), (p0, .inl (cI, 24, .inl (fI P0))), (p1, .inl (cI, 24, .inl (fI P1))), (p2, .inl (cI, 24, .inl (fI P2))), (s0, .inl (cI, 24, .inl (fI S0))), (s1, .inl (cI, 24, .inl (fI S1))), (s2, .inl (cI, 24, .inl (fI (upz S2 k dd)))), (dh, .inr (7, [.int (zI 0), .int (zI dn), .int (zI dac), .ref d1, .ref d2, .ref d3, .ref d4]))]) := by
  refine zBz (by decide) (Nat.le_of_ble_eq_true rfl) ?_
  intro p e s m args below meth c ls A H locs Q C hin hl hW hQ
  have hl : lv_has ls 4 [(0, .ref x0), (1, .int (zI k)), (2, .long (zL dd))] := hl
  have h_d : bz (inR dd 1 1000000) = 1 := inR_1 hd
  have hbb := hBB k hk0 hk1
  refine lv_aload_n C.1 C.2.1 dPD_deep_0 rfl (lv_at hl 0 rfl) ?_
  refine lv_iload_n C.1 C.2.1 dPD_deep_1 rfl (lv_at hl 1 rfl) ?_
  refine zcallv (wr := [(hp, .inl (cG, 3, .inr (.inr (.inr (.inr (g3 p0 p1 p2)))))), (hs, .inl (cG, 3, .inr (.inr (.inr (.inr (g3 s0 s1 s2)))))), (p0, .inl (cI, 24, .inl (fI P0))), (p1, .inl (cI, 24, .inl (fI P1))), (p2, .inl (cI, 24, .inl (fI P2))), (s0, .inl (cI, 24, .inl (fI S0))), (s1, .inl (cI, 24, .inl (fI S1))), (s2, .inl (cI, 24, .inl (fI S2))), (dh, .inr (7, [.int (zI dth), .int (zI dn), .int (zI dac), .ref d1, .ref d2, .ref d3, .ref d4]))]) C hW [0, 1] [2, 3, 4, 5, 6, 7, 8, 9, 10] rfl rfl (by decide) (by decide) (zRunV (k := 1) (As := [.int (zI k)]) (rest := []) C hW (c_PartDrawings_needBox l D cI cG cL cB x0 b0 r0 tr0 dh kh me0 cl0 pg0 la0 hp hs bn k (by omega) (by omega) (by omega) (by omega) H.size) [0, 1] rfl (by decide) kPD_106 (by decide +kernel) ⟨by decide, by decide⟩ 0 rfl rfl rfl hl.1 (Nat.le_of_ble_eq_true rfl) dPD_deep_2 ⟨by first | decide | omega, by first | decide | omega⟩) (fun w H locs hq hW => ?_)
  subst hq
  have hW : zw D zCl A s [(hp, .inl (cG, 3, .inr (.inr (.inr (.inr (g3 p0 p1 p2)))))), (hs, .inl (cG, 3, .inr (.inr (.inr (.inr (g3 s0 s1 s2)))))), (p0, .inl (cI, 24, .inl (fI P0))), (p1, .inl (cI, 24, .inl (fI P1))), (p2, .inl (cI, 24, .inl (fI P2))), (s0, .inl (cI, 24, .inl (fI S0))), (s1, .inl (cI, 24, .inl (fI S1))), (s2, .inl (cI, 24, .inl (fI S2))), (dh, .inr (7, [.int (zI dth), .int (zI dn), .int (zI dac), .ref d1, .ref d2, .ref d3, .ref d4])), (x0, .inr (9, [.ref b0, .ref r0, .ref tr0, .ref dh, .ref kh, .ref me0, .ref cl0, .ref pg0, .ref la0])), (b0, .inr (0, [.ref hp, .ref hs, .int (zI bn)]))] H locs := hW
  refine lv_lload_n C.1 C.2.1 dPD_deep_5 rfl (lv_at hl 2 rfl) ?_
  refine zcalli (wr := [(hp, .inl (cG, 3, .inr (.inr (.inr (.inr (g3 p0 p1 p2)))))), (hs, .inl (cG, 3, .inr (.inr (.inr (.inr (g3 s0 s1 s2)))))), (p0, .inl (cI, 24, .inl (fI P0))), (p1, .inl (cI, 24, .inl (fI P1))), (p2, .inl (cI, 24, .inl (fI P2))), (s0, .inl (cI, 24, .inl (fI S0))), (s1, .inl (cI, 24, .inl (fI S1))), (s2, .inl (cI, 24, .inl (fI S2))), (dh, .inr (7, [.int (zI dth), .int (zI dn), .int (zI dac), .ref d1, .ref d2, .ref d3, .ref d4])), (x0, .inr (9, [.ref b0, .ref r0, .ref tr0, .ref dh, .ref kh, .ref me0, .ref cl0, .ref pg0, .ref la0])), (b0, .inr (0, [.ref hp, .ref hs, .int (zI bn)]))]) C hW [] [0, 1, 2, 3, 4, 5, 6, 7, 8, 9, 10] rfl rfl (by decide) (by decide) (zRunS (k := 1) (As := [.long (zL dd)]) (rest := []) C hW (c_PartDrawings_isSize l D cI cG cL cB dd (by omega) H.size) [] rfl (by decide) kPD_90 (by decide +kernel) ⟨by decide, by decide⟩ rfl hl.1 (Nat.le_of_ble_eq_true rfl) dPD_deep_6 ⟨by first | decide | omega, by first | decide | omega⟩) (fun x w H locs hq hW => ?_)
  obtain ⟨rfl, rfl⟩ := hq
  have hW : zw D zCl A s [(hp, .inl (cG, 3, .inr (.inr (.inr (.inr (g3 p0 p1 p2)))))), (hs, .inl (cG, 3, .inr (.inr (.inr (.inr (g3 s0 s1 s2)))))), (p0, .inl (cI, 24, .inl (fI P0))), (p1, .inl (cI, 24, .inl (fI P1))), (p2, .inl (cI, 24, .inl (fI P2))), (s0, .inl (cI, 24, .inl (fI S0))), (s1, .inl (cI, 24, .inl (fI S1))), (s2, .inl (cI, 24, .inl (fI S2))), (dh, .inr (7, [.int (zI dth), .int (zI dn), .int (zI dac), .ref d1, .ref d2, .ref d3, .ref d4])), (x0, .inr (9, [.ref b0, .ref r0, .ref tr0, .ref dh, .ref kh, .ref me0, .ref cl0, .ref pg0, .ref la0])), (b0, .inr (0, [.ref hp, .ref hs, .int (zI bn)]))] H locs := hW
  have hr1 := bz_01 (inR dd 1 1000000)
  refine zif_ne (tgt := 22) C (by omega) dPD_deep_9 (by decide) (fun c9 => ?_) (fun c9 => ?_)
  · refine lv_aload_n C.1 C.2.1 dPD_deep_22 rfl (lv_at hl 0 rfl) ?_
    refine zget C hW 9 0 rfl rfl inPD (by decide) flPD_12 rfl dPD_deep_23 ?_
    refine zget C hW 10 1 rfl rfl inBx (by decide) flPD_110 rfl dPD_deep_26 ?_
    refine lv_iconst (v := zI 2) C.1 C.2.1 dPD_deep_29 (by decide) ?_
    refine zgald C hW 1 1 (r := s2) rfl rfl rfl (by omega) (by omega) (by decide) rfl dPD_deep_30 ?_
    refine lv_iload_n C.1 C.2.1 dPD_deep_31 rfl (lv_at hl 1 rfl) ?_
    refine ziald C hW 7 0 rfl rfl (by omega) (by omega) (by decide) dPD_deep_32 ?_
    have hb2 := bS2 k
    refine zi2l C (by omega) dPD_deep_33 ?_
    refine lv_lload_n C.1 C.2.1 dPD_deep_34 rfl (lv_at hl 2 rfl) ?_
    refine zlcmp_ne (tgt := 41) C (by omega) (by omega) dPD_deep_35 dPD_deep_36 (by decide) (fun c35 => ?_) (fun c35 => ?_)
    · refine lv_aload_n C.1 C.2.1 dPD_deep_41 rfl (lv_at hl 0 rfl) ?_
      refine zget C hW 9 0 rfl rfl inPD (by decide) flPD_12 rfl dPD_deep_42 ?_
      refine zget C hW 10 1 rfl rfl inBx (by decide) flPD_110 rfl dPD_deep_45 ?_
      refine lv_iconst (v := zI 2) C.1 C.2.1 dPD_deep_48 (by decide) ?_
      refine zgald C hW 1 1 (r := s2) rfl rfl rfl (by omega) (by omega) (by decide) rfl dPD_deep_49 ?_
      refine lv_iload_n C.1 C.2.1 dPD_deep_50 rfl (lv_at hl 1 rfl) ?_
      refine lv_lload_n C.1 C.2.1 dPD_deep_51 rfl (lv_at hl 2 rfl) ?_
      refine zl2i C dPD_deep_52 ?_
      refine ziast C hW 7 0 rfl rfl (by omega) (by omega) (by decide) dPD_deep_53 (fun H locs hW => ?_)
      have hB3 : ∀ jj : Int, I32 ((upz S2 k dd) jj) := upz_b bS2 (by omega)
      have hW : zw D zCl A s [(hp, .inl (cG, 3, .inr (.inr (.inr (.inr (g3 p0 p1 p2)))))), (hs, .inl (cG, 3, .inr (.inr (.inr (.inr (g3 s0 s1 s2)))))), (p0, .inl (cI, 24, .inl (fI P0))), (p1, .inl (cI, 24, .inl (fI P1))), (p2, .inl (cI, 24, .inl (fI P2))), (s0, .inl (cI, 24, .inl (fI S0))), (s1, .inl (cI, 24, .inl (fI S1))), (s2, .inl (cI, 24, .inl (fI (upz S2 k dd)))), (dh, .inr (7, [.int (zI dth), .int (zI dn), .int (zI dac), .ref d1, .ref d2, .ref d3, .ref d4])), (x0, .inr (9, [.ref b0, .ref r0, .ref tr0, .ref dh, .ref kh, .ref me0, .ref cl0, .ref pg0, .ref la0])), (b0, .inr (0, [.ref hp, .ref hs, .int (zI bn)]))] H locs := hW
      refine lv_aload_n C.1 C.2.1 dPD_deep_54 rfl (lv_at hl 0 rfl) ?_
      refine zget C hW 9 3 rfl rfl inPD (by decide) flPD_33 rfl dPD_deep_55 ?_
      refine lv_iconst (v := zI 0) C.1 C.2.1 dPD_deep_58 (by decide) ?_
      refine zput C hW 8 0 tySk tySk_ok nmSk rfl rfl inSk (by decide) flPD_102 rfl rfl (by decide) (by decide) (Nat.le_of_ble_eq_true rfl) dPD_deep_59 (fun H locs hW => ?_)
      have hW : zw D zCl A s [(hp, .inl (cG, 3, .inr (.inr (.inr (.inr (g3 p0 p1 p2)))))), (hs, .inl (cG, 3, .inr (.inr (.inr (.inr (g3 s0 s1 s2)))))), (p0, .inl (cI, 24, .inl (fI P0))), (p1, .inl (cI, 24, .inl (fI P1))), (p2, .inl (cI, 24, .inl (fI P2))), (s0, .inl (cI, 24, .inl (fI S0))), (s1, .inl (cI, 24, .inl (fI S1))), (s2, .inl (cI, 24, .inl (fI (upz S2 k dd)))), (dh, .inr (7, [.int (zI 0), .int (zI dn), .int (zI dac), .ref d1, .ref d2, .ref d3, .ref d4])), (x0, .inr (9, [.ref b0, .ref r0, .ref tr0, .ref dh, .ref kh, .ref me0, .ref cl0, .ref pg0, .ref la0])), (b0, .inr (0, [.ref hp, .ref hs, .int (zI bn)]))] H locs := hW
      refine lv_iconst (v := zI 1) C.1 C.2.1 dPD_deep_62 (by decide) ?_
      have hW : zw D zCl A s [(x0, .inr (9, [.ref b0, .ref r0, .ref tr0, .ref dh, .ref kh, .ref me0, .ref cl0, .ref pg0, .ref la0])), (b0, .inr (0, [.ref hp, .ref hs, .int (zI bn)])), (hp, .inl (cG, 3, .inr (.inr (.inr (.inr (g3 p0 p1 p2)))))), (hs, .inl (cG, 3, .inr (.inr (.inr (.inr (g3 s0 s1 s2)))))), (p0, .inl (cI, 24, .inl (fI P0))), (p1, .inl (cI, 24, .inl (fI P1))), (p2, .inl (cI, 24, .inl (fI P2))), (s0, .inl (cI, 24, .inl (fI S0))), (s1, .inl (cI, 24, .inl (fI S1))), (s2, .inl (cI, 24, .inl (fI (upz S2 k dd)))), (dh, .inr (7, [.int (zI 0), .int (zI dn), .int (zI dac), .ref d1, .ref d2, .ref d3, .ref d4]))] H locs := zwp hW [9, 10, 0, 1, 2, 3, 4, 5, 6, 7, 8] rfl (by decide)
      exact hQ (zI 1) _ H locs _ _ _ ls hW (by decide) ⟨rfl, rfl⟩ (by omega) (by omega) dPD_deep_63
    · exact False.elim (by omega)
  · exact False.elim (by omega)
set_option maxHeartbeats 4000000 in
set_option maxRecDepth 100000 in
theorem c_PartDrawings_deep_S (l : Launch) (D : va_G) (cI cG cL cB : ClassId) (x0 : Nat) (b0 : Nat) (r0 : Nat) (tr0 : Nat) (dh : Nat) (kh : Nat) (me0 : Nat) (cl0 : Nat) (pg0 : Nat) (la0 : Nat) (hp : Nat) (hs : Nat) (p0 : Nat) (p1 : Nat) (p2 : Nat) (s0 : Nat) (s1 : Nat) (s2 : Nat) (bn : Int) (P0 : Int → Int) (P1 : Int → Int) (P2 : Int → Int) (S0 : Int → Int) (S1 : Int → Int) (S2 : Int → Int) (d1 : Nat) (d2 : Nat) (d3 : Nat) (d4 : Nat) (dth : Int) (dn : Int) (dac : Int) (k : Int) (dd : Int) (bP0 : ∀ j : Int, I32 (P0 j)) (bP1 : ∀ j : Int, I32 (P1 j)) (bP2 : ∀ j : Int, I32 (P2 j)) (bS0 : ∀ j : Int, I32 (S0 j)) (bS1 : ∀ j : Int, I32 (S1 j)) (bS2 : ∀ j : Int, I32 (S2 j)) (hBB : boxB bn P0 P1 P2 S0 S1 S2) (hbn0 : 0 ≤ bn) (hbn1 : bn ≤ 24) (hIk : I32 k) (hJdd : I64 dd) (hk0 : 0 ≤ k) (hk1 : k < bn) (hd : 1 ≤ dd ∧ dd ≤ 1000000) (hn : S2 k = dd) : Ci l yPD_deep cPD_deep 4 (some .boolean) 1 0 0 D zCl (zT cI cG cL cB) [.ref x0, .int (zI k), .long (zL dd)] [(x0, .inr (9, [.ref b0, .ref r0, .ref tr0, .ref dh, .ref kh, .ref me0, .ref cl0, .ref pg0, .ref la0])), (b0, .inr (0, [.ref hp, .ref hs, .int (zI bn)])), (hp, .inl (cG, 3, .inr (.inr (.inr (.inr (g3 p0 p1 p2)))))), (hs, .inl (cG, 3, .inr (.inr (.inr (.inr (g3 s0 s1 s2)))))), (p0, .inl (cI, 24, .inl (fI P0))), (p1, .inl (cI, 24, .inl (fI P1))), (p2, .inl (cI, 24, .inl (fI P2))), (s0, .inl (cI, 24, .inl (fI S0))), (s1, .inl (cI, 24, .inl (fI S1))), (s2, .inl (cI, 24, .inl (fI S2))), (dh, .inr (7, [.int (zI dth), .int (zI dn), .int (zI dac), .ref d1, .ref d2, .ref d3, .ref d4]))] (fun x w => x = zI 0 ∧ w = [(x0, .inr (9, [.ref b0, .ref r0, .ref tr0, .ref dh, .ref kh, .ref me0, .ref cl0, .ref pg0, .ref la0])), (b0, .inr (0, [.ref hp, .ref hs, .int (zI bn)])), (hp, .inl (cG, 3, .inr (.inr (.inr (.inr (g3 p0 p1 p2)))))), (hs, .inl (cG, 3, .inr (.inr (.inr (.inr (g3 s0 s1 s2)))))), (p0, .inl (cI, 24, .inl (fI P0))), (p1, .inl (cI, 24, .inl (fI P1))), (p2, .inl (cI, 24, .inl (fI P2))), (s0, .inl (cI, 24, .inl (fI S0))), (s1, .inl (cI, 24, .inl (fI S1))), (s2, .inl (cI, 24, .inl (fI S2))), (dh, .inr (7, [.int (zI dth), .int (zI dn), .int (zI dac), .ref d1, .ref d2, .ref d3, .ref d4]))]) := by
  refine zBz (by decide) (Nat.le_of_ble_eq_true rfl) ?_
  intro p e s m args below meth c ls A H locs Q C hin hl hW hQ
  have hl : lv_has ls 4 [(0, .ref x0), (1, .int (zI k)), (2, .long (zL dd))] := hl
  have h_d : bz (inR dd 1 1000000) = 1 := inR_1 hd
  have hbb := hBB k hk0 hk1
  refine lv_aload_n C.1 C.2.1 dPD_deep_0 rfl (lv_at hl 0 rfl) ?_
  refine lv_iload_n C.1 C.2.1 dPD_deep_1 rfl (lv_at hl 1 rfl) ?_
  refine zcallv (wr := [(hp, .inl (cG, 3, .inr (.inr (.inr (.inr (g3 p0 p1 p2)))))), (hs, .inl (cG, 3, .inr (.inr (.inr (.inr (g3 s0 s1 s2)))))), (p0, .inl (cI, 24, .inl (fI P0))), (p1, .inl (cI, 24, .inl (fI P1))), (p2, .inl (cI, 24, .inl (fI P2))), (s0, .inl (cI, 24, .inl (fI S0))), (s1, .inl (cI, 24, .inl (fI S1))), (s2, .inl (cI, 24, .inl (fI S2))), (dh, .inr (7, [.int (zI dth), .int (zI dn), .int (zI dac), .ref d1, .ref d2, .ref d3, .ref d4]))]) C hW [0, 1] [2, 3, 4, 5, 6, 7, 8, 9, 10] rfl rfl (by decide) (by decide) (zRunV (k := 1) (As := [.int (zI k)]) (rest := []) C hW (c_PartDrawings_needBox l D cI cG cL cB x0 b0 r0 tr0 dh kh me0 cl0 pg0 la0 hp hs bn k (by omega) (by omega) (by omega) (by omega) H.size) [0, 1] rfl (by decide) kPD_106 (by decide +kernel) ⟨by decide, by decide⟩ 0 rfl rfl rfl hl.1 (Nat.le_of_ble_eq_true rfl) dPD_deep_2 ⟨by first | decide | omega, by first | decide | omega⟩) (fun w H locs hq hW => ?_)
  subst hq
  have hW : zw D zCl A s [(hp, .inl (cG, 3, .inr (.inr (.inr (.inr (g3 p0 p1 p2)))))), (hs, .inl (cG, 3, .inr (.inr (.inr (.inr (g3 s0 s1 s2)))))), (p0, .inl (cI, 24, .inl (fI P0))), (p1, .inl (cI, 24, .inl (fI P1))), (p2, .inl (cI, 24, .inl (fI P2))), (s0, .inl (cI, 24, .inl (fI S0))), (s1, .inl (cI, 24, .inl (fI S1))), (s2, .inl (cI, 24, .inl (fI S2))), (dh, .inr (7, [.int (zI dth), .int (zI dn), .int (zI dac), .ref d1, .ref d2, .ref d3, .ref d4])), (x0, .inr (9, [.ref b0, .ref r0, .ref tr0, .ref dh, .ref kh, .ref me0, .ref cl0, .ref pg0, .ref la0])), (b0, .inr (0, [.ref hp, .ref hs, .int (zI bn)]))] H locs := hW
  refine lv_lload_n C.1 C.2.1 dPD_deep_5 rfl (lv_at hl 2 rfl) ?_
  refine zcalli (wr := [(hp, .inl (cG, 3, .inr (.inr (.inr (.inr (g3 p0 p1 p2)))))), (hs, .inl (cG, 3, .inr (.inr (.inr (.inr (g3 s0 s1 s2)))))), (p0, .inl (cI, 24, .inl (fI P0))), (p1, .inl (cI, 24, .inl (fI P1))), (p2, .inl (cI, 24, .inl (fI P2))), (s0, .inl (cI, 24, .inl (fI S0))), (s1, .inl (cI, 24, .inl (fI S1))), (s2, .inl (cI, 24, .inl (fI S2))), (dh, .inr (7, [.int (zI dth), .int (zI dn), .int (zI dac), .ref d1, .ref d2, .ref d3, .ref d4])), (x0, .inr (9, [.ref b0, .ref r0, .ref tr0, .ref dh, .ref kh, .ref me0, .ref cl0, .ref pg0, .ref la0])), (b0, .inr (0, [.ref hp, .ref hs, .int (zI bn)]))]) C hW [] [0, 1, 2, 3, 4, 5, 6, 7, 8, 9, 10] rfl rfl (by decide) (by decide) (zRunS (k := 1) (As := [.long (zL dd)]) (rest := []) C hW (c_PartDrawings_isSize l D cI cG cL cB dd (by omega) H.size) [] rfl (by decide) kPD_90 (by decide +kernel) ⟨by decide, by decide⟩ rfl hl.1 (Nat.le_of_ble_eq_true rfl) dPD_deep_6 ⟨by first | decide | omega, by first | decide | omega⟩) (fun x w H locs hq hW => ?_)
  obtain ⟨rfl, rfl⟩ := hq
  have hW : zw D zCl A s [(hp, .inl (cG, 3, .inr (.inr (.inr (.inr (g3 p0 p1 p2)))))), (hs, .inl (cG, 3, .inr (.inr (.inr (.inr (g3 s0 s1 s2)))))), (p0, .inl (cI, 24, .inl (fI P0))), (p1, .inl (cI, 24, .inl (fI P1))), (p2, .inl (cI, 24, .inl (fI P2))), (s0, .inl (cI, 24, .inl (fI S0))), (s1, .inl (cI, 24, .inl (fI S1))), (s2, .inl (cI, 24, .inl (fI S2))), (dh, .inr (7, [.int (zI dth), .int (zI dn), .int (zI dac), .ref d1, .ref d2, .ref d3, .ref d4])), (x0, .inr (9, [.ref b0, .ref r0, .ref tr0, .ref dh, .ref kh, .ref me0, .ref cl0, .ref pg0, .ref la0])), (b0, .inr (0, [.ref hp, .ref hs, .int (zI bn)]))] H locs := hW
  have hr1 := bz_01 (inR dd 1 1000000)
  refine zif_ne (tgt := 22) C (by omega) dPD_deep_9 (by decide) (fun c9 => ?_) (fun c9 => ?_)
  · refine lv_aload_n C.1 C.2.1 dPD_deep_22 rfl (lv_at hl 0 rfl) ?_
    refine zget C hW 9 0 rfl rfl inPD (by decide) flPD_12 rfl dPD_deep_23 ?_
    refine zget C hW 10 1 rfl rfl inBx (by decide) flPD_110 rfl dPD_deep_26 ?_
    refine lv_iconst (v := zI 2) C.1 C.2.1 dPD_deep_29 (by decide) ?_
    refine zgald C hW 1 1 (r := s2) rfl rfl rfl (by omega) (by omega) (by decide) rfl dPD_deep_30 ?_
    refine lv_iload_n C.1 C.2.1 dPD_deep_31 rfl (lv_at hl 1 rfl) ?_
    refine ziald C hW 7 0 rfl rfl (by omega) (by omega) (by decide) dPD_deep_32 ?_
    have hb2 := bS2 k
    refine zi2l C (by omega) dPD_deep_33 ?_
    refine lv_lload_n C.1 C.2.1 dPD_deep_34 rfl (lv_at hl 2 rfl) ?_
    refine zlcmp_ne (tgt := 41) C (by omega) (by omega) dPD_deep_35 dPD_deep_36 (by decide) (fun c35 => ?_) (fun c35 => ?_)
    · exact False.elim (by omega)
    · refine lv_iconst (v := zI 0) C.1 C.2.1 dPD_deep_39 (by decide) ?_
      have hW : zw D zCl A s [(x0, .inr (9, [.ref b0, .ref r0, .ref tr0, .ref dh, .ref kh, .ref me0, .ref cl0, .ref pg0, .ref la0])), (b0, .inr (0, [.ref hp, .ref hs, .int (zI bn)])), (hp, .inl (cG, 3, .inr (.inr (.inr (.inr (g3 p0 p1 p2)))))), (hs, .inl (cG, 3, .inr (.inr (.inr (.inr (g3 s0 s1 s2)))))), (p0, .inl (cI, 24, .inl (fI P0))), (p1, .inl (cI, 24, .inl (fI P1))), (p2, .inl (cI, 24, .inl (fI P2))), (s0, .inl (cI, 24, .inl (fI S0))), (s1, .inl (cI, 24, .inl (fI S1))), (s2, .inl (cI, 24, .inl (fI S2))), (dh, .inr (7, [.int (zI dth), .int (zI dn), .int (zI dac), .ref d1, .ref d2, .ref d3, .ref d4]))] H locs := zwp hW [9, 10, 0, 1, 2, 3, 4, 5, 6, 7, 8] rfl (by decide)
      exact hQ (zI 0) _ H locs _ _ _ ls hW (by decide) ⟨rfl, rfl⟩ (by omega) (by omega) dPD_deep_40
  · exact False.elim (by omega)
set_option maxHeartbeats 4000000 in
set_option maxRecDepth 100000 in
theorem c_PartDrawings_deep_T1 (l : Launch) (D : va_G) (cI cG cL cB : ClassId) (x0 : Nat) (b0 : Nat) (r0 : Nat) (tr0 : Nat) (dh : Nat) (kh : Nat) (me0 : Nat) (cl0 : Nat) (pg0 : Nat) (la0 : Nat) (hp : Nat) (hs : Nat) (p0 : Nat) (p1 : Nat) (p2 : Nat) (s0 : Nat) (s1 : Nat) (s2 : Nat) (bn : Int) (P0 : Int → Int) (P1 : Int → Int) (P2 : Int → Int) (S0 : Int → Int) (S1 : Int → Int) (S2 : Int → Int) (d1 : Nat) (d2 : Nat) (d3 : Nat) (d4 : Nat) (dth : Int) (dn : Int) (dac : Int) (k : Int) (dd : Int) (hlt : l.stackTraces = false) (bP0 : ∀ j : Int, I32 (P0 j)) (bP1 : ∀ j : Int, I32 (P1 j)) (bP2 : ∀ j : Int, I32 (P2 j)) (bS0 : ∀ j : Int, I32 (S0 j)) (bS1 : ∀ j : Int, I32 (S1 j)) (bS2 : ∀ j : Int, I32 (S2 j)) (hBB : boxB bn P0 P1 P2 S0 S1 S2) (hbn0 : 0 ≤ bn) (hbn1 : bn ≤ 24) (hIk : I32 k) (hJdd : I64 dd) (hk : ¬ (0 ≤ k ∧ k < bn)) : Ct l yPD_deep cPD_deep 4 (some .boolean) 7 1 6 D zCl (zT cI cG cL cB) [.ref x0, .int (zI k), .long (zL dd)] [(x0, .inr (9, [.ref b0, .ref r0, .ref tr0, .ref dh, .ref kh, .ref me0, .ref cl0, .ref pg0, .ref la0])), (b0, .inr (0, [.ref hp, .ref hs, .int (zI bn)])), (hp, .inl (cG, 3, .inr (.inr (.inr (.inr (g3 p0 p1 p2)))))), (hs, .inl (cG, 3, .inr (.inr (.inr (.inr (g3 s0 s1 s2)))))), (p0, .inl (cI, 24, .inl (fI P0))), (p1, .inl (cI, 24, .inl (fI P1))), (p2, .inl (cI, 24, .inl (fI P2))), (s0, .inl (cI, 24, .inl (fI S0))), (s1, .inl (cI, 24, .inl (fI S1))), (s2, .inl (cI, 24, .inl (fI S2))), (dh, .inr (7, [.int (zI dth), .int (zI dn), .int (zI dac), .ref d1, .ref d2, .ref d3, .ref d4]))] "java/lang/IndexOutOfBoundsException" (fun w => w = [(hp, .inl (cG, 3, .inr (.inr (.inr (.inr (g3 p0 p1 p2)))))), (hs, .inl (cG, 3, .inr (.inr (.inr (.inr (g3 s0 s1 s2)))))), (p0, .inl (cI, 24, .inl (fI P0))), (p1, .inl (cI, 24, .inl (fI P1))), (p2, .inl (cI, 24, .inl (fI P2))), (s0, .inl (cI, 24, .inl (fI S0))), (s1, .inl (cI, 24, .inl (fI S1))), (s2, .inl (cI, 24, .inl (fI S2))), (dh, .inr (7, [.int (zI dth), .int (zI dn), .int (zI dac), .ref d1, .ref d2, .ref d3, .ref d4])), (x0, .inr (9, [.ref b0, .ref r0, .ref tr0, .ref dh, .ref kh, .ref me0, .ref cl0, .ref pg0, .ref la0])), (b0, .inr (0, [.ref hp, .ref hs, .int (zI bn)]))]) := by
  refine zBt (by decide) (Nat.le_of_ble_eq_true rfl) ?_
  intro p e s m args below meth c ls A H locs Q C hx hl hW hQ
  have hl : lv_has ls 4 [(0, .ref x0), (1, .int (zI k)), (2, .long (zL dd))] := hl
  refine lv_aload_n C.1 C.2.1 dPD_deep_0 rfl (lv_at hl 0 rfl) ?_
  refine lv_iload_n C.1 C.2.1 dPD_deep_1 rfl (lv_at hl 1 rfl) ?_
  exact zpropT (wr := [(hp, .inl (cG, 3, .inr (.inr (.inr (.inr (g3 p0 p1 p2)))))), (hs, .inl (cG, 3, .inr (.inr (.inr (.inr (g3 s0 s1 s2)))))), (p0, .inl (cI, 24, .inl (fI P0))), (p1, .inl (cI, 24, .inl (fI P1))), (p2, .inl (cI, 24, .inl (fI P2))), (s0, .inl (cI, 24, .inl (fI S0))), (s1, .inl (cI, 24, .inl (fI S1))), (s2, .inl (cI, 24, .inl (fI S2))), (dh, .inr (7, [.int (zI dth), .int (zI dn), .int (zI dac), .ref d1, .ref d2, .ref d3, .ref d4]))]) C hW hx [0, 1] [2, 3, 4, 5, 6, 7, 8, 9, 10] rfl rfl (by decide) (by decide) (zRunVT (k := 1) (As := [.int (zI k)]) (rest := []) C hW (c_PartDrawings_needBox_T l D cI cG cL cB x0 b0 r0 tr0 dh kh me0 cl0 pg0 la0 hp hs bn k (by omega) (by omega) (by omega) (by omega) H.size) [0, 1] rfl (by decide) kPD_106 (by decide +kernel) ⟨by decide, by decide⟩ 0 rfl rfl rfl hl.1 (Nat.le_of_ble_eq_true rfl) dPD_deep_2 ⟨by first | decide | omega, by first | decide | omega⟩) (fun w hq => by obtain rfl := hq; exact rfl) hQ (by omega) (by omega)
set_option maxHeartbeats 4000000 in
set_option maxRecDepth 100000 in
theorem c_PartDrawings_deep_T2 (l : Launch) (D : va_G) (cI cG cL cB : ClassId) (x0 : Nat) (b0 : Nat) (r0 : Nat) (tr0 : Nat) (dh : Nat) (kh : Nat) (me0 : Nat) (cl0 : Nat) (pg0 : Nat) (la0 : Nat) (hp : Nat) (hs : Nat) (p0 : Nat) (p1 : Nat) (p2 : Nat) (s0 : Nat) (s1 : Nat) (s2 : Nat) (bn : Int) (P0 : Int → Int) (P1 : Int → Int) (P2 : Int → Int) (S0 : Int → Int) (S1 : Int → Int) (S2 : Int → Int) (d1 : Nat) (d2 : Nat) (d3 : Nat) (d4 : Nat) (dth : Int) (dn : Int) (dac : Int) (k : Int) (dd : Int) (hlt : l.stackTraces = false) (bP0 : ∀ j : Int, I32 (P0 j)) (bP1 : ∀ j : Int, I32 (P1 j)) (bP2 : ∀ j : Int, I32 (P2 j)) (bS0 : ∀ j : Int, I32 (S0 j)) (bS1 : ∀ j : Int, I32 (S1 j)) (bS2 : ∀ j : Int, I32 (S2 j)) (hBB : boxB bn P0 P1 P2 S0 S1 S2) (hbn0 : 0 ≤ bn) (hbn1 : bn ≤ 24) (hIk : I32 k) (hJdd : I64 dd) (hk0 : 0 ≤ k) (hk1 : k < bn) (hd : ¬ (1 ≤ dd ∧ dd ≤ 1000000)) : Ct l yPD_deep cPD_deep 4 (some .boolean) 7 1 6 D zCl (zT cI cG cL cB) [.ref x0, .int (zI k), .long (zL dd)] [(x0, .inr (9, [.ref b0, .ref r0, .ref tr0, .ref dh, .ref kh, .ref me0, .ref cl0, .ref pg0, .ref la0])), (b0, .inr (0, [.ref hp, .ref hs, .int (zI bn)])), (hp, .inl (cG, 3, .inr (.inr (.inr (.inr (g3 p0 p1 p2)))))), (hs, .inl (cG, 3, .inr (.inr (.inr (.inr (g3 s0 s1 s2)))))), (p0, .inl (cI, 24, .inl (fI P0))), (p1, .inl (cI, 24, .inl (fI P1))), (p2, .inl (cI, 24, .inl (fI P2))), (s0, .inl (cI, 24, .inl (fI S0))), (s1, .inl (cI, 24, .inl (fI S1))), (s2, .inl (cI, 24, .inl (fI S2))), (dh, .inr (7, [.int (zI dth), .int (zI dn), .int (zI dac), .ref d1, .ref d2, .ref d3, .ref d4]))] "java/lang/IllegalArgumentException" (fun w => w = [(x0, .inr (9, [.ref b0, .ref r0, .ref tr0, .ref dh, .ref kh, .ref me0, .ref cl0, .ref pg0, .ref la0])), (b0, .inr (0, [.ref hp, .ref hs, .int (zI bn)])), (hp, .inl (cG, 3, .inr (.inr (.inr (.inr (g3 p0 p1 p2)))))), (hs, .inl (cG, 3, .inr (.inr (.inr (.inr (g3 s0 s1 s2)))))), (p0, .inl (cI, 24, .inl (fI P0))), (p1, .inl (cI, 24, .inl (fI P1))), (p2, .inl (cI, 24, .inl (fI P2))), (s0, .inl (cI, 24, .inl (fI S0))), (s1, .inl (cI, 24, .inl (fI S1))), (s2, .inl (cI, 24, .inl (fI S2))), (dh, .inr (7, [.int (zI dth), .int (zI dn), .int (zI dac), .ref d1, .ref d2, .ref d3, .ref d4]))]) := by
  refine zBt (by decide) (Nat.le_of_ble_eq_true rfl) ?_
  intro p e s m args below meth c ls A H locs Q C hx hl hW hQ
  have hl : lv_has ls 4 [(0, .ref x0), (1, .int (zI k)), (2, .long (zL dd))] := hl
  have h_d : bz (inR dd 1 1000000) = 0 := inR_0 hd
  refine lv_aload_n C.1 C.2.1 dPD_deep_0 rfl (lv_at hl 0 rfl) ?_
  refine lv_iload_n C.1 C.2.1 dPD_deep_1 rfl (lv_at hl 1 rfl) ?_
  refine zcallv (wr := [(hp, .inl (cG, 3, .inr (.inr (.inr (.inr (g3 p0 p1 p2)))))), (hs, .inl (cG, 3, .inr (.inr (.inr (.inr (g3 s0 s1 s2)))))), (p0, .inl (cI, 24, .inl (fI P0))), (p1, .inl (cI, 24, .inl (fI P1))), (p2, .inl (cI, 24, .inl (fI P2))), (s0, .inl (cI, 24, .inl (fI S0))), (s1, .inl (cI, 24, .inl (fI S1))), (s2, .inl (cI, 24, .inl (fI S2))), (dh, .inr (7, [.int (zI dth), .int (zI dn), .int (zI dac), .ref d1, .ref d2, .ref d3, .ref d4]))]) C hW [0, 1] [2, 3, 4, 5, 6, 7, 8, 9, 10] rfl rfl (by decide) (by decide) (zRunV (k := 1) (As := [.int (zI k)]) (rest := []) C hW (c_PartDrawings_needBox l D cI cG cL cB x0 b0 r0 tr0 dh kh me0 cl0 pg0 la0 hp hs bn k (by omega) (by omega) (by omega) (by omega) H.size) [0, 1] rfl (by decide) kPD_106 (by decide +kernel) ⟨by decide, by decide⟩ 0 rfl rfl rfl hl.1 (Nat.le_of_ble_eq_true rfl) dPD_deep_2 ⟨by first | decide | omega, by first | decide | omega⟩) (fun w H locs hq hW => ?_)
  subst hq
  have hW : zw D zCl A s [(hp, .inl (cG, 3, .inr (.inr (.inr (.inr (g3 p0 p1 p2)))))), (hs, .inl (cG, 3, .inr (.inr (.inr (.inr (g3 s0 s1 s2)))))), (p0, .inl (cI, 24, .inl (fI P0))), (p1, .inl (cI, 24, .inl (fI P1))), (p2, .inl (cI, 24, .inl (fI P2))), (s0, .inl (cI, 24, .inl (fI S0))), (s1, .inl (cI, 24, .inl (fI S1))), (s2, .inl (cI, 24, .inl (fI S2))), (dh, .inr (7, [.int (zI dth), .int (zI dn), .int (zI dac), .ref d1, .ref d2, .ref d3, .ref d4])), (x0, .inr (9, [.ref b0, .ref r0, .ref tr0, .ref dh, .ref kh, .ref me0, .ref cl0, .ref pg0, .ref la0])), (b0, .inr (0, [.ref hp, .ref hs, .int (zI bn)]))] H locs := hW
  refine lv_lload_n C.1 C.2.1 dPD_deep_5 rfl (lv_at hl 2 rfl) ?_
  refine zcalli (wr := [(hp, .inl (cG, 3, .inr (.inr (.inr (.inr (g3 p0 p1 p2)))))), (hs, .inl (cG, 3, .inr (.inr (.inr (.inr (g3 s0 s1 s2)))))), (p0, .inl (cI, 24, .inl (fI P0))), (p1, .inl (cI, 24, .inl (fI P1))), (p2, .inl (cI, 24, .inl (fI P2))), (s0, .inl (cI, 24, .inl (fI S0))), (s1, .inl (cI, 24, .inl (fI S1))), (s2, .inl (cI, 24, .inl (fI S2))), (dh, .inr (7, [.int (zI dth), .int (zI dn), .int (zI dac), .ref d1, .ref d2, .ref d3, .ref d4])), (x0, .inr (9, [.ref b0, .ref r0, .ref tr0, .ref dh, .ref kh, .ref me0, .ref cl0, .ref pg0, .ref la0])), (b0, .inr (0, [.ref hp, .ref hs, .int (zI bn)]))]) C hW [] [0, 1, 2, 3, 4, 5, 6, 7, 8, 9, 10] rfl rfl (by decide) (by decide) (zRunS (k := 1) (As := [.long (zL dd)]) (rest := []) C hW (c_PartDrawings_isSize l D cI cG cL cB dd (by omega) H.size) [] rfl (by decide) kPD_90 (by decide +kernel) ⟨by decide, by decide⟩ rfl hl.1 (Nat.le_of_ble_eq_true rfl) dPD_deep_6 ⟨by first | decide | omega, by first | decide | omega⟩) (fun x w H locs hq hW => ?_)
  obtain ⟨rfl, rfl⟩ := hq
  have hW : zw D zCl A s [(hp, .inl (cG, 3, .inr (.inr (.inr (.inr (g3 p0 p1 p2)))))), (hs, .inl (cG, 3, .inr (.inr (.inr (.inr (g3 s0 s1 s2)))))), (p0, .inl (cI, 24, .inl (fI P0))), (p1, .inl (cI, 24, .inl (fI P1))), (p2, .inl (cI, 24, .inl (fI P2))), (s0, .inl (cI, 24, .inl (fI S0))), (s1, .inl (cI, 24, .inl (fI S1))), (s2, .inl (cI, 24, .inl (fI S2))), (dh, .inr (7, [.int (zI dth), .int (zI dn), .int (zI dac), .ref d1, .ref d2, .ref d3, .ref d4])), (x0, .inr (9, [.ref b0, .ref r0, .ref tr0, .ref dh, .ref kh, .ref me0, .ref cl0, .ref pg0, .ref la0])), (b0, .inr (0, [.ref hp, .ref hs, .int (zI bn)]))] H locs := hW
  have hr1 := bz_01 (inR dd 1 1000000)
  refine zif_ne (tgt := 22) C (by omega) dPD_deep_9 (by decide) (fun c9 => ?_) (fun c9 => ?_)
  · exact False.elim (by omega)
  · have hW : zw D zCl A s [(x0, .inr (9, [.ref b0, .ref r0, .ref tr0, .ref dh, .ref kh, .ref me0, .ref cl0, .ref pg0, .ref la0])), (b0, .inr (0, [.ref hp, .ref hs, .int (zI bn)])), (hp, .inl (cG, 3, .inr (.inr (.inr (.inr (g3 p0 p1 p2)))))), (hs, .inl (cG, 3, .inr (.inr (.inr (.inr (g3 s0 s1 s2)))))), (p0, .inl (cI, 24, .inl (fI P0))), (p1, .inl (cI, 24, .inl (fI P1))), (p2, .inl (cI, 24, .inl (fI P2))), (s0, .inl (cI, 24, .inl (fI S0))), (s1, .inl (cI, 24, .inl (fI S1))), (s2, .inl (cI, 24, .inl (fI S2))), (dh, .inr (7, [.int (zI dth), .int (zI dn), .int (zI dac), .ref d1, .ref d2, .ref d3, .ref d4]))] H locs := zwp hW [9, 10, 0, 1, 2, 3, 4, 5, 6, 7, 8] rfl (by decide)
    exact zthrow C hW hx hlt hl.1 (by decide +kernel) (by decide +kernel) ktPD_85_93_89c kxPD_89 ktPD_85_93_89s hQ rfl (by omega) (by omega) (by decide) (by decide) (by decide) (Nat.le_of_ble_eq_true rfl) dPD_deep_12 dPD_deep_15 dPD_deep_16 dPD_deep_18 dPD_deep_21
set_option maxHeartbeats 4000000 in
set_option maxRecDepth 100000 in
theorem c_PartDrawings_explode (l : Launch) (D : va_G) (cI cG cL cB : ClassId) (x0 : Nat) (b0 : Nat) (r0 : Nat) (tr0 : Nat) (dh : Nat) (kh : Nat) (me0 : Nat) (cl0 : Nat) (pg0 : Nat) (la0 : Nat) (hp : Nat) (hs : Nat) (p0 : Nat) (p1 : Nat) (p2 : Nat) (s0 : Nat) (s1 : Nat) (s2 : Nat) (bn : Int) (P0 : Int → Int) (P1 : Int → Int) (P2 : Int → Int) (S0 : Int → Int) (S1 : Int → Int) (S2 : Int → Int) (d1 : Nat) (d2 : Nat) (d3 : Nat) (d4 : Nat) (dth : Int) (dn : Int) (dac : Int) (k : Int) (px : Int) (py : Int) (pz : Int) (bP0 : ∀ j : Int, I32 (P0 j)) (bP1 : ∀ j : Int, I32 (P1 j)) (bP2 : ∀ j : Int, I32 (P2 j)) (bS0 : ∀ j : Int, I32 (S0 j)) (bS1 : ∀ j : Int, I32 (S1 j)) (bS2 : ∀ j : Int, I32 (S2 j)) (hBB : boxB bn P0 P1 P2 S0 S1 S2) (hbn0 : 0 ≤ bn) (hbn1 : bn ≤ 24) (hIk : I32 k) (hJpx : I64 px) (hJpy : I64 py) (hJpz : I64 pz) (hk0 : 0 ≤ k) (hk1 : k < bn) (hgo0 : goA (P0 k) px) (hgo1 : goA (P1 k) py) (hgo2 : goA (P2 k) pz) : Cv l yPD_explode cPD_explode 8 none 2 0 0 D zCl (zT cI cG cL cB) [.ref x0, .int (zI k), .long (zL px), .long (zL py), .long (zL pz)] [(x0, .inr (9, [.ref b0, .ref r0, .ref tr0, .ref dh, .ref kh, .ref me0, .ref cl0, .ref pg0, .ref la0])), (b0, .inr (0, [.ref hp, .ref hs, .int (zI bn)])), (hp, .inl (cG, 3, .inr (.inr (.inr (.inr (g3 p0 p1 p2)))))), (hs, .inl (cG, 3, .inr (.inr (.inr (.inr (g3 s0 s1 s2)))))), (p0, .inl (cI, 24, .inl (fI P0))), (p1, .inl (cI, 24, .inl (fI P1))), (p2, .inl (cI, 24, .inl (fI P2))), (s0, .inl (cI, 24, .inl (fI S0))), (s1, .inl (cI, 24, .inl (fI S1))), (s2, .inl (cI, 24, .inl (fI S2))), (dh, .inr (7, [.int (zI dth), .int (zI dn), .int (zI dac), .ref d1, .ref d2, .ref d3, .ref d4]))] (fun w => w = [(x0, .inr (9, [.ref b0, .ref r0, .ref tr0, .ref dh, .ref kh, .ref me0, .ref cl0, .ref pg0, .ref la0])), (b0, .inr (0, [.ref hp, .ref hs, .int (zI bn)])), (hp, .inl (cG, 3, .inr (.inr (.inr (.inr (g3 p0 p1 p2)))))), (hs, .inl (cG, 3, .inr (.inr (.inr (.inr (g3 s0 s1 s2)))))), (p0, .inl (cI, 24, .inl (fI (upz P0 k (P0 k + px))))), (p1, .inl (cI, 24, .inl (fI (upz P1 k (P1 k + py))))), (p2, .inl (cI, 24, .inl (fI (upz P2 k (P2 k + pz))))), (s0, .inl (cI, 24, .inl (fI S0))), (s1, .inl (cI, 24, .inl (fI S1))), (s2, .inl (cI, 24, .inl (fI S2))), (dh, .inr (7, [.int (zI 0), .int (zI dn), .int (zI dac), .ref d1, .ref d2, .ref d3, .ref d4]))]) := by
  refine zBv (by decide) (Nat.le_of_ble_eq_true rfl) ?_
  intro p e s m args below meth c ls A H locs Q C hin hl hW hQ
  have hl : lv_has ls 8 [(0, .ref x0), (1, .int (zI k)), (2, .long (zL px)), (4, .long (zL py)), (6, .long (zL pz))] := hl
  have hbb := hBB k hk0 hk1
  have hg0 := goB_0 (P0 := P0) (P1 := P1) (P2 := P2) (wa := px) (j := k)
  have hg1 := goB_1 (P0 := P0) (P1 := P1) (P2 := P2) (wa := py) (j := k)
  have hg2 := goB_2 (P0 := P0) (P1 := P1) (P2 := P2) (wa := pz) (j := k)
  rw [if_pos hgo0] at hg0
  rw [if_pos hgo1] at hg1
  rw [if_pos hgo2] at hg2
  refine lv_aload_n C.1 C.2.1 dPD_explode_0 rfl (lv_at hl 0 rfl) ?_
  refine lv_iload_n C.1 C.2.1 dPD_explode_1 rfl (lv_at hl 1 rfl) ?_
  refine zcallv (wr := [(hp, .inl (cG, 3, .inr (.inr (.inr (.inr (g3 p0 p1 p2)))))), (hs, .inl (cG, 3, .inr (.inr (.inr (.inr (g3 s0 s1 s2)))))), (p0, .inl (cI, 24, .inl (fI P0))), (p1, .inl (cI, 24, .inl (fI P1))), (p2, .inl (cI, 24, .inl (fI P2))), (s0, .inl (cI, 24, .inl (fI S0))), (s1, .inl (cI, 24, .inl (fI S1))), (s2, .inl (cI, 24, .inl (fI S2))), (dh, .inr (7, [.int (zI dth), .int (zI dn), .int (zI dac), .ref d1, .ref d2, .ref d3, .ref d4]))]) C hW [0, 1] [2, 3, 4, 5, 6, 7, 8, 9, 10] rfl rfl (by decide) (by decide) (zRunV (k := 1) (As := [.int (zI k)]) (rest := []) C hW (c_PartDrawings_needBox l D cI cG cL cB x0 b0 r0 tr0 dh kh me0 cl0 pg0 la0 hp hs bn k (by omega) (by omega) (by omega) (by omega) H.size) [0, 1] rfl (by decide) kPD_106 (by decide +kernel) ⟨by decide, by decide⟩ 0 rfl rfl rfl hl.1 (Nat.le_of_ble_eq_true rfl) dPD_explode_2 ⟨by first | decide | omega, by first | decide | omega⟩) (fun w H locs hq hW => ?_)
  subst hq
  have hW : zw D zCl A s [(hp, .inl (cG, 3, .inr (.inr (.inr (.inr (g3 p0 p1 p2)))))), (hs, .inl (cG, 3, .inr (.inr (.inr (.inr (g3 s0 s1 s2)))))), (p0, .inl (cI, 24, .inl (fI P0))), (p1, .inl (cI, 24, .inl (fI P1))), (p2, .inl (cI, 24, .inl (fI P2))), (s0, .inl (cI, 24, .inl (fI S0))), (s1, .inl (cI, 24, .inl (fI S1))), (s2, .inl (cI, 24, .inl (fI S2))), (dh, .inr (7, [.int (zI dth), .int (zI dn), .int (zI dac), .ref d1, .ref d2, .ref d3, .ref d4])), (x0, .inr (9, [.ref b0, .ref r0, .ref tr0, .ref dh, .ref kh, .ref me0, .ref cl0, .ref pg0, .ref la0])), (b0, .inr (0, [.ref hp, .ref hs, .int (zI bn)]))] H locs := hW
  refine lv_aload_n C.1 C.2.1 dPD_explode_5 rfl (lv_at hl 0 rfl) ?_
  refine zget C hW 9 0 rfl rfl inPD (by decide) flPD_12 rfl dPD_explode_6 ?_
  refine lv_iload_n C.1 C.2.1 dPD_explode_9 rfl (lv_at hl 1 rfl) ?_
  refine lv_iconst (v := zI 0) C.1 C.2.1 dPD_explode_10 (by decide) ?_
  refine lv_lload_n C.1 C.2.1 dPD_explode_11 rfl (lv_at hl 2 rfl) ?_
  refine zcalli (wr := [(dh, .inr (7, [.int (zI dth), .int (zI dn), .int (zI dac), .ref d1, .ref d2, .ref d3, .ref d4])), (x0, .inr (9, [.ref b0, .ref r0, .ref tr0, .ref dh, .ref kh, .ref me0, .ref cl0, .ref pg0, .ref la0]))]) C hW [10, 0, 1, 2, 3, 4, 5, 6, 7] [8, 9] rfl rfl (by decide) (by decide) (zRunV (k := 3) (As := [.int (zI k), .int (zI 0), .long (zL px)]) (rest := []) C hW (c_Boxes_canGo l D cI cG cL cB b0 hp hs p0 p1 p2 s0 s1 s2 bn P0 P1 P2 S0 S1 S2 k 0 px bP0 bP1 bP2 bS0 bS1 bS2 (by omega) (by omega) (by omega) (by omega) (Or.inl rfl) (by omega) H.size) [10, 0, 1, 2, 3, 4, 5, 6, 7] rfl (by decide) kPD_114 (by decide +kernel) ⟨by decide, by decide⟩ 10 rfl rfl rfl hl.1 (Nat.le_of_ble_eq_true rfl) dPD_explode_12 ⟨by first | decide | omega, by first | decide | omega⟩) (fun x w H locs hq hW => ?_)
  obtain ⟨rfl, rfl⟩ := hq
  have hW : zw D zCl A s [(dh, .inr (7, [.int (zI dth), .int (zI dn), .int (zI dac), .ref d1, .ref d2, .ref d3, .ref d4])), (x0, .inr (9, [.ref b0, .ref r0, .ref tr0, .ref dh, .ref kh, .ref me0, .ref cl0, .ref pg0, .ref la0])), (b0, .inr (0, [.ref hp, .ref hs, .int (zI bn)])), (hp, .inl (cG, 3, .inr (.inr (.inr (.inr (g3 p0 p1 p2)))))), (hs, .inl (cG, 3, .inr (.inr (.inr (.inr (g3 s0 s1 s2)))))), (p0, .inl (cI, 24, .inl (fI P0))), (p1, .inl (cI, 24, .inl (fI P1))), (p2, .inl (cI, 24, .inl (fI P2))), (s0, .inl (cI, 24, .inl (fI S0))), (s1, .inl (cI, 24, .inl (fI S1))), (s2, .inl (cI, 24, .inl (fI S2)))] H locs := hW
  have hr1 := bz_01 (goB P0 P1 P2 0 px k)
  refine zif_eq (tgt := 46) C (by omega) dPD_explode_15 (by decide) (fun c15 => ?_) (fun c15 => ?_)
  · exact False.elim (by omega)
  · refine lv_aload_n C.1 C.2.1 dPD_explode_18 rfl (lv_at hl 0 rfl) ?_
    refine zget C hW 1 0 rfl rfl inPD (by decide) flPD_12 rfl dPD_explode_19 ?_
    refine lv_iload_n C.1 C.2.1 dPD_explode_22 rfl (lv_at hl 1 rfl) ?_
    refine lv_iconst (v := zI 1) C.1 C.2.1 dPD_explode_23 (by decide) ?_
    refine lv_lload C.1 C.2.1 dPD_explode_24 (lv_at hl 3 rfl) ?_
    refine zcalli (wr := [(dh, .inr (7, [.int (zI dth), .int (zI dn), .int (zI dac), .ref d1, .ref d2, .ref d3, .ref d4])), (x0, .inr (9, [.ref b0, .ref r0, .ref tr0, .ref dh, .ref kh, .ref me0, .ref cl0, .ref pg0, .ref la0]))]) C hW [2, 3, 4, 5, 6, 7, 8, 9, 10] [0, 1] rfl rfl (by decide) (by decide) (zRunV (k := 3) (As := [.int (zI k), .int (zI 1), .long (zL py)]) (rest := []) C hW (c_Boxes_canGo l D cI cG cL cB b0 hp hs p0 p1 p2 s0 s1 s2 bn P0 P1 P2 S0 S1 S2 k 1 py bP0 bP1 bP2 bS0 bS1 bS2 (by omega) (by omega) (by omega) (by omega) (Or.inr (Or.inl rfl)) (by omega) H.size) [2, 3, 4, 5, 6, 7, 8, 9, 10] rfl (by decide) kPD_114 (by decide +kernel) ⟨by decide, by decide⟩ 2 rfl rfl rfl hl.1 (Nat.le_of_ble_eq_true rfl) dPD_explode_26 ⟨by first | decide | omega, by first | decide | omega⟩) (fun x w H locs hq hW => ?_)
    obtain ⟨rfl, rfl⟩ := hq
    have hW : zw D zCl A s [(dh, .inr (7, [.int (zI dth), .int (zI dn), .int (zI dac), .ref d1, .ref d2, .ref d3, .ref d4])), (x0, .inr (9, [.ref b0, .ref r0, .ref tr0, .ref dh, .ref kh, .ref me0, .ref cl0, .ref pg0, .ref la0])), (b0, .inr (0, [.ref hp, .ref hs, .int (zI bn)])), (hp, .inl (cG, 3, .inr (.inr (.inr (.inr (g3 p0 p1 p2)))))), (hs, .inl (cG, 3, .inr (.inr (.inr (.inr (g3 s0 s1 s2)))))), (p0, .inl (cI, 24, .inl (fI P0))), (p1, .inl (cI, 24, .inl (fI P1))), (p2, .inl (cI, 24, .inl (fI P2))), (s0, .inl (cI, 24, .inl (fI S0))), (s1, .inl (cI, 24, .inl (fI S1))), (s2, .inl (cI, 24, .inl (fI S2)))] H locs := hW
    have hr2 := bz_01 (goB P0 P1 P2 1 py k)
    refine zif_eq (tgt := 46) C (by omega) dPD_explode_29 (by decide) (fun c29 => ?_) (fun c29 => ?_)
    · exact False.elim (by omega)
    · refine lv_aload_n C.1 C.2.1 dPD_explode_32 rfl (lv_at hl 0 rfl) ?_
      refine zget C hW 1 0 rfl rfl inPD (by decide) flPD_12 rfl dPD_explode_33 ?_
      refine lv_iload_n C.1 C.2.1 dPD_explode_36 rfl (lv_at hl 1 rfl) ?_
      refine lv_iconst (v := zI 2) C.1 C.2.1 dPD_explode_37 (by decide) ?_
      refine lv_lload C.1 C.2.1 dPD_explode_38 (lv_at hl 4 rfl) ?_
      refine zcalli (wr := [(dh, .inr (7, [.int (zI dth), .int (zI dn), .int (zI dac), .ref d1, .ref d2, .ref d3, .ref d4])), (x0, .inr (9, [.ref b0, .ref r0, .ref tr0, .ref dh, .ref kh, .ref me0, .ref cl0, .ref pg0, .ref la0]))]) C hW [2, 3, 4, 5, 6, 7, 8, 9, 10] [0, 1] rfl rfl (by decide) (by decide) (zRunV (k := 3) (As := [.int (zI k), .int (zI 2), .long (zL pz)]) (rest := []) C hW (c_Boxes_canGo l D cI cG cL cB b0 hp hs p0 p1 p2 s0 s1 s2 bn P0 P1 P2 S0 S1 S2 k 2 pz bP0 bP1 bP2 bS0 bS1 bS2 (by omega) (by omega) (by omega) (by omega) (Or.inr (Or.inr rfl)) (by omega) H.size) [2, 3, 4, 5, 6, 7, 8, 9, 10] rfl (by decide) kPD_114 (by decide +kernel) ⟨by decide, by decide⟩ 2 rfl rfl rfl hl.1 (Nat.le_of_ble_eq_true rfl) dPD_explode_40 ⟨by first | decide | omega, by first | decide | omega⟩) (fun x w H locs hq hW => ?_)
      obtain ⟨rfl, rfl⟩ := hq
      have hW : zw D zCl A s [(dh, .inr (7, [.int (zI dth), .int (zI dn), .int (zI dac), .ref d1, .ref d2, .ref d3, .ref d4])), (x0, .inr (9, [.ref b0, .ref r0, .ref tr0, .ref dh, .ref kh, .ref me0, .ref cl0, .ref pg0, .ref la0])), (b0, .inr (0, [.ref hp, .ref hs, .int (zI bn)])), (hp, .inl (cG, 3, .inr (.inr (.inr (.inr (g3 p0 p1 p2)))))), (hs, .inl (cG, 3, .inr (.inr (.inr (.inr (g3 s0 s1 s2)))))), (p0, .inl (cI, 24, .inl (fI P0))), (p1, .inl (cI, 24, .inl (fI P1))), (p2, .inl (cI, 24, .inl (fI P2))), (s0, .inl (cI, 24, .inl (fI S0))), (s1, .inl (cI, 24, .inl (fI S1))), (s2, .inl (cI, 24, .inl (fI S2)))] H locs := hW
      have hr3 := bz_01 (goB P0 P1 P2 2 pz k)
      refine zif_ne (tgt := 56) C (by omega) dPD_explode_43 (by decide) (fun c43 => ?_) (fun c43 => ?_)
      · refine lv_aload_n C.1 C.2.1 dPD_explode_56 rfl (lv_at hl 0 rfl) ?_
        refine zget C hW 1 0 rfl rfl inPD (by decide) flPD_12 rfl dPD_explode_57 ?_
        refine zget C hW 2 0 rfl rfl inBx (by decide) flPD_120 rfl dPD_explode_60 ?_
        refine lv_iconst (v := zI 0) C.1 C.2.1 dPD_explode_63 (by decide) ?_
        refine zgald C hW 3 1 (r := p0) rfl rfl rfl (by omega) (by omega) (by decide) rfl dPD_explode_64 ?_
        refine lv_iload_n C.1 C.2.1 dPD_explode_65 rfl (lv_at hl 1 rfl) ?_
        refine lv_dup2_11 C.1 C.2.1 dPD_explode_66 rfl rfl ?_
        refine ziald C hW 5 0 rfl rfl (by omega) (by omega) (by decide) dPD_explode_67 ?_
        have hb4 := bP0 k
        refine lv_lload_n C.1 C.2.1 dPD_explode_68 rfl (lv_at hl 2 rfl) ?_
        refine zl2i C dPD_explode_69 ?_
        refine ziadd C dPD_explode_70 ?_
        refine ziast C hW 5 0 rfl rfl (by omega) (by omega) (by decide) dPD_explode_71 (fun H locs hW => ?_)
        have hB5 : ∀ jj : Int, I32 ((upz P0 k ((P0 k) + px)) jj) := upz_b bP0 (by omega)
        have hW : zw D zCl A s [(dh, .inr (7, [.int (zI dth), .int (zI dn), .int (zI dac), .ref d1, .ref d2, .ref d3, .ref d4])), (x0, .inr (9, [.ref b0, .ref r0, .ref tr0, .ref dh, .ref kh, .ref me0, .ref cl0, .ref pg0, .ref la0])), (b0, .inr (0, [.ref hp, .ref hs, .int (zI bn)])), (hp, .inl (cG, 3, .inr (.inr (.inr (.inr (g3 p0 p1 p2)))))), (hs, .inl (cG, 3, .inr (.inr (.inr (.inr (g3 s0 s1 s2)))))), (p0, .inl (cI, 24, .inl (fI (upz P0 k ((P0 k) + px))))), (p1, .inl (cI, 24, .inl (fI P1))), (p2, .inl (cI, 24, .inl (fI P2))), (s0, .inl (cI, 24, .inl (fI S0))), (s1, .inl (cI, 24, .inl (fI S1))), (s2, .inl (cI, 24, .inl (fI S2)))] H locs := hW
        refine lv_aload_n C.1 C.2.1 dPD_explode_72 rfl (lv_at hl 0 rfl) ?_
        refine zget C hW 1 0 rfl rfl inPD (by decide) flPD_12 rfl dPD_explode_73 ?_
        refine zget C hW 2 0 rfl rfl inBx (by decide) flPD_120 rfl dPD_explode_76 ?_
        refine lv_iconst (v := zI 1) C.1 C.2.1 dPD_explode_79 (by decide) ?_
        refine zgald C hW 3 1 (r := p1) rfl rfl rfl (by omega) (by omega) (by decide) rfl dPD_explode_80 ?_
        refine lv_iload_n C.1 C.2.1 dPD_explode_81 rfl (lv_at hl 1 rfl) ?_
        refine lv_dup2_11 C.1 C.2.1 dPD_explode_82 rfl rfl ?_
        refine ziald C hW 6 0 rfl rfl (by omega) (by omega) (by decide) dPD_explode_83 ?_
        have hb6 := bP1 k
        refine lv_lload C.1 C.2.1 dPD_explode_84 (lv_at hl 3 rfl) ?_
        refine zl2i C dPD_explode_86 ?_
        refine ziadd C dPD_explode_87 ?_
        refine ziast C hW 6 0 rfl rfl (by omega) (by omega) (by decide) dPD_explode_88 (fun H locs hW => ?_)
        have hB7 : ∀ jj : Int, I32 ((upz P1 k ((P1 k) + py)) jj) := upz_b bP1 (by omega)
        have hW : zw D zCl A s [(dh, .inr (7, [.int (zI dth), .int (zI dn), .int (zI dac), .ref d1, .ref d2, .ref d3, .ref d4])), (x0, .inr (9, [.ref b0, .ref r0, .ref tr0, .ref dh, .ref kh, .ref me0, .ref cl0, .ref pg0, .ref la0])), (b0, .inr (0, [.ref hp, .ref hs, .int (zI bn)])), (hp, .inl (cG, 3, .inr (.inr (.inr (.inr (g3 p0 p1 p2)))))), (hs, .inl (cG, 3, .inr (.inr (.inr (.inr (g3 s0 s1 s2)))))), (p0, .inl (cI, 24, .inl (fI (upz P0 k ((P0 k) + px))))), (p1, .inl (cI, 24, .inl (fI (upz P1 k ((P1 k) + py))))), (p2, .inl (cI, 24, .inl (fI P2))), (s0, .inl (cI, 24, .inl (fI S0))), (s1, .inl (cI, 24, .inl (fI S1))), (s2, .inl (cI, 24, .inl (fI S2)))] H locs := hW
        refine lv_aload_n C.1 C.2.1 dPD_explode_89 rfl (lv_at hl 0 rfl) ?_
        refine zget C hW 1 0 rfl rfl inPD (by decide) flPD_12 rfl dPD_explode_90 ?_
        refine zget C hW 2 0 rfl rfl inBx (by decide) flPD_120 rfl dPD_explode_93 ?_
        refine lv_iconst (v := zI 2) C.1 C.2.1 dPD_explode_96 (by decide) ?_
        refine zgald C hW 3 1 (r := p2) rfl rfl rfl (by omega) (by omega) (by decide) rfl dPD_explode_97 ?_
        refine lv_iload_n C.1 C.2.1 dPD_explode_98 rfl (lv_at hl 1 rfl) ?_
        refine lv_dup2_11 C.1 C.2.1 dPD_explode_99 rfl rfl ?_
        refine ziald C hW 7 0 rfl rfl (by omega) (by omega) (by decide) dPD_explode_100 ?_
        have hb8 := bP2 k
        refine lv_lload C.1 C.2.1 dPD_explode_101 (lv_at hl 4 rfl) ?_
        refine zl2i C dPD_explode_103 ?_
        refine ziadd C dPD_explode_104 ?_
        refine ziast C hW 7 0 rfl rfl (by omega) (by omega) (by decide) dPD_explode_105 (fun H locs hW => ?_)
        have hB9 : ∀ jj : Int, I32 ((upz P2 k ((P2 k) + pz)) jj) := upz_b bP2 (by omega)
        have hW : zw D zCl A s [(dh, .inr (7, [.int (zI dth), .int (zI dn), .int (zI dac), .ref d1, .ref d2, .ref d3, .ref d4])), (x0, .inr (9, [.ref b0, .ref r0, .ref tr0, .ref dh, .ref kh, .ref me0, .ref cl0, .ref pg0, .ref la0])), (b0, .inr (0, [.ref hp, .ref hs, .int (zI bn)])), (hp, .inl (cG, 3, .inr (.inr (.inr (.inr (g3 p0 p1 p2)))))), (hs, .inl (cG, 3, .inr (.inr (.inr (.inr (g3 s0 s1 s2)))))), (p0, .inl (cI, 24, .inl (fI (upz P0 k ((P0 k) + px))))), (p1, .inl (cI, 24, .inl (fI (upz P1 k ((P1 k) + py))))), (p2, .inl (cI, 24, .inl (fI (upz P2 k ((P2 k) + pz))))), (s0, .inl (cI, 24, .inl (fI S0))), (s1, .inl (cI, 24, .inl (fI S1))), (s2, .inl (cI, 24, .inl (fI S2)))] H locs := hW
        refine lv_aload_n C.1 C.2.1 dPD_explode_106 rfl (lv_at hl 0 rfl) ?_
        refine zget C hW 1 3 rfl rfl inPD (by decide) flPD_33 rfl dPD_explode_107 ?_
        refine lv_iconst (v := zI 0) C.1 C.2.1 dPD_explode_110 (by decide) ?_
        refine zput C hW 0 0 tySk tySk_ok nmSk rfl rfl inSk (by decide) flPD_102 rfl rfl (by decide) (by decide) (Nat.le_of_ble_eq_true rfl) dPD_explode_111 (fun H locs hW => ?_)
        have hW : zw D zCl A s [(dh, .inr (7, [.int (zI 0), .int (zI dn), .int (zI dac), .ref d1, .ref d2, .ref d3, .ref d4])), (x0, .inr (9, [.ref b0, .ref r0, .ref tr0, .ref dh, .ref kh, .ref me0, .ref cl0, .ref pg0, .ref la0])), (b0, .inr (0, [.ref hp, .ref hs, .int (zI bn)])), (hp, .inl (cG, 3, .inr (.inr (.inr (.inr (g3 p0 p1 p2)))))), (hs, .inl (cG, 3, .inr (.inr (.inr (.inr (g3 s0 s1 s2)))))), (p0, .inl (cI, 24, .inl (fI (upz P0 k ((P0 k) + px))))), (p1, .inl (cI, 24, .inl (fI (upz P1 k ((P1 k) + py))))), (p2, .inl (cI, 24, .inl (fI (upz P2 k ((P2 k) + pz))))), (s0, .inl (cI, 24, .inl (fI S0))), (s1, .inl (cI, 24, .inl (fI S1))), (s2, .inl (cI, 24, .inl (fI S2)))] H locs := hW
        have hW : zw D zCl A s [(x0, .inr (9, [.ref b0, .ref r0, .ref tr0, .ref dh, .ref kh, .ref me0, .ref cl0, .ref pg0, .ref la0])), (b0, .inr (0, [.ref hp, .ref hs, .int (zI bn)])), (hp, .inl (cG, 3, .inr (.inr (.inr (.inr (g3 p0 p1 p2)))))), (hs, .inl (cG, 3, .inr (.inr (.inr (.inr (g3 s0 s1 s2)))))), (p0, .inl (cI, 24, .inl (fI (upz P0 k ((P0 k) + px))))), (p1, .inl (cI, 24, .inl (fI (upz P1 k ((P1 k) + py))))), (p2, .inl (cI, 24, .inl (fI (upz P2 k ((P2 k) + pz))))), (s0, .inl (cI, 24, .inl (fI S0))), (s1, .inl (cI, 24, .inl (fI S1))), (s2, .inl (cI, 24, .inl (fI S2))), (dh, .inr (7, [.int (zI 0), .int (zI dn), .int (zI dac), .ref d1, .ref d2, .ref d3, .ref d4]))] H locs := zwp hW [1, 2, 3, 4, 5, 6, 7, 8, 9, 10, 0] rfl (by decide)
        exact hQ _ H locs _ _ _ ls hW rfl (by omega) (by omega) dPD_explode_114
      · exact False.elim (by omega)
set_option maxHeartbeats 4000000 in
set_option maxRecDepth 100000 in
theorem c_PartDrawings_explode_T1 (l : Launch) (D : va_G) (cI cG cL cB : ClassId) (x0 : Nat) (b0 : Nat) (r0 : Nat) (tr0 : Nat) (dh : Nat) (kh : Nat) (me0 : Nat) (cl0 : Nat) (pg0 : Nat) (la0 : Nat) (hp : Nat) (hs : Nat) (p0 : Nat) (p1 : Nat) (p2 : Nat) (s0 : Nat) (s1 : Nat) (s2 : Nat) (bn : Int) (P0 : Int → Int) (P1 : Int → Int) (P2 : Int → Int) (S0 : Int → Int) (S1 : Int → Int) (S2 : Int → Int) (d1 : Nat) (d2 : Nat) (d3 : Nat) (d4 : Nat) (dth : Int) (dn : Int) (dac : Int) (k : Int) (px : Int) (py : Int) (pz : Int) (hlt : l.stackTraces = false) (bP0 : ∀ j : Int, I32 (P0 j)) (bP1 : ∀ j : Int, I32 (P1 j)) (bP2 : ∀ j : Int, I32 (P2 j)) (bS0 : ∀ j : Int, I32 (S0 j)) (bS1 : ∀ j : Int, I32 (S1 j)) (bS2 : ∀ j : Int, I32 (S2 j)) (hBB : boxB bn P0 P1 P2 S0 S1 S2) (hbn0 : 0 ≤ bn) (hbn1 : bn ≤ 24) (hIk : I32 k) (hJpx : I64 px) (hJpy : I64 py) (hJpz : I64 pz) (hk : ¬ (0 ≤ k ∧ k < bn)) : Ct l yPD_explode cPD_explode 8 none 7 1 6 D zCl (zT cI cG cL cB) [.ref x0, .int (zI k), .long (zL px), .long (zL py), .long (zL pz)] [(x0, .inr (9, [.ref b0, .ref r0, .ref tr0, .ref dh, .ref kh, .ref me0, .ref cl0, .ref pg0, .ref la0])), (b0, .inr (0, [.ref hp, .ref hs, .int (zI bn)])), (hp, .inl (cG, 3, .inr (.inr (.inr (.inr (g3 p0 p1 p2)))))), (hs, .inl (cG, 3, .inr (.inr (.inr (.inr (g3 s0 s1 s2)))))), (p0, .inl (cI, 24, .inl (fI P0))), (p1, .inl (cI, 24, .inl (fI P1))), (p2, .inl (cI, 24, .inl (fI P2))), (s0, .inl (cI, 24, .inl (fI S0))), (s1, .inl (cI, 24, .inl (fI S1))), (s2, .inl (cI, 24, .inl (fI S2))), (dh, .inr (7, [.int (zI dth), .int (zI dn), .int (zI dac), .ref d1, .ref d2, .ref d3, .ref d4]))] "java/lang/IndexOutOfBoundsException" (fun w => w = [(hp, .inl (cG, 3, .inr (.inr (.inr (.inr (g3 p0 p1 p2)))))), (hs, .inl (cG, 3, .inr (.inr (.inr (.inr (g3 s0 s1 s2)))))), (p0, .inl (cI, 24, .inl (fI P0))), (p1, .inl (cI, 24, .inl (fI P1))), (p2, .inl (cI, 24, .inl (fI P2))), (s0, .inl (cI, 24, .inl (fI S0))), (s1, .inl (cI, 24, .inl (fI S1))), (s2, .inl (cI, 24, .inl (fI S2))), (dh, .inr (7, [.int (zI dth), .int (zI dn), .int (zI dac), .ref d1, .ref d2, .ref d3, .ref d4])), (x0, .inr (9, [.ref b0, .ref r0, .ref tr0, .ref dh, .ref kh, .ref me0, .ref cl0, .ref pg0, .ref la0])), (b0, .inr (0, [.ref hp, .ref hs, .int (zI bn)]))]) := by
  refine zBt (by decide) (Nat.le_of_ble_eq_true rfl) ?_
  intro p e s m args below meth c ls A H locs Q C hx hl hW hQ
  have hl : lv_has ls 8 [(0, .ref x0), (1, .int (zI k)), (2, .long (zL px)), (4, .long (zL py)), (6, .long (zL pz))] := hl
  refine lv_aload_n C.1 C.2.1 dPD_explode_0 rfl (lv_at hl 0 rfl) ?_
  refine lv_iload_n C.1 C.2.1 dPD_explode_1 rfl (lv_at hl 1 rfl) ?_
  exact zpropT (wr := [(hp, .inl (cG, 3, .inr (.inr (.inr (.inr (g3 p0 p1 p2)))))), (hs, .inl (cG, 3, .inr (.inr (.inr (.inr (g3 s0 s1 s2)))))), (p0, .inl (cI, 24, .inl (fI P0))), (p1, .inl (cI, 24, .inl (fI P1))), (p2, .inl (cI, 24, .inl (fI P2))), (s0, .inl (cI, 24, .inl (fI S0))), (s1, .inl (cI, 24, .inl (fI S1))), (s2, .inl (cI, 24, .inl (fI S2))), (dh, .inr (7, [.int (zI dth), .int (zI dn), .int (zI dac), .ref d1, .ref d2, .ref d3, .ref d4]))]) C hW hx [0, 1] [2, 3, 4, 5, 6, 7, 8, 9, 10] rfl rfl (by decide) (by decide) (zRunVT (k := 1) (As := [.int (zI k)]) (rest := []) C hW (c_PartDrawings_needBox_T l D cI cG cL cB x0 b0 r0 tr0 dh kh me0 cl0 pg0 la0 hp hs bn k (by omega) (by omega) (by omega) (by omega) H.size) [0, 1] rfl (by decide) kPD_106 (by decide +kernel) ⟨by decide, by decide⟩ 0 rfl rfl rfl hl.1 (Nat.le_of_ble_eq_true rfl) dPD_explode_2 ⟨by first | decide | omega, by first | decide | omega⟩) (fun w hq => by obtain rfl := hq; exact rfl) hQ (by omega) (by omega)
set_option maxHeartbeats 4000000 in
set_option maxRecDepth 100000 in
theorem c_PartDrawings_explode_T2 (l : Launch) (D : va_G) (cI cG cL cB : ClassId) (x0 : Nat) (b0 : Nat) (r0 : Nat) (tr0 : Nat) (dh : Nat) (kh : Nat) (me0 : Nat) (cl0 : Nat) (pg0 : Nat) (la0 : Nat) (hp : Nat) (hs : Nat) (p0 : Nat) (p1 : Nat) (p2 : Nat) (s0 : Nat) (s1 : Nat) (s2 : Nat) (bn : Int) (P0 : Int → Int) (P1 : Int → Int) (P2 : Int → Int) (S0 : Int → Int) (S1 : Int → Int) (S2 : Int → Int) (d1 : Nat) (d2 : Nat) (d3 : Nat) (d4 : Nat) (dth : Int) (dn : Int) (dac : Int) (k : Int) (px : Int) (py : Int) (pz : Int) (hlt : l.stackTraces = false) (bP0 : ∀ j : Int, I32 (P0 j)) (bP1 : ∀ j : Int, I32 (P1 j)) (bP2 : ∀ j : Int, I32 (P2 j)) (bS0 : ∀ j : Int, I32 (S0 j)) (bS1 : ∀ j : Int, I32 (S1 j)) (bS2 : ∀ j : Int, I32 (S2 j)) (hBB : boxB bn P0 P1 P2 S0 S1 S2) (hbn0 : 0 ≤ bn) (hbn1 : bn ≤ 24) (hIk : I32 k) (hJpx : I64 px) (hJpy : I64 py) (hJpz : I64 pz) (hk0 : 0 ≤ k) (hk1 : k < bn) (hgo : ¬ (goA (P0 k) px ∧ goA (P1 k) py ∧ goA (P2 k) pz)) : Ct l yPD_explode cPD_explode 8 none 7 1 6 D zCl (zT cI cG cL cB) [.ref x0, .int (zI k), .long (zL px), .long (zL py), .long (zL pz)] [(x0, .inr (9, [.ref b0, .ref r0, .ref tr0, .ref dh, .ref kh, .ref me0, .ref cl0, .ref pg0, .ref la0])), (b0, .inr (0, [.ref hp, .ref hs, .int (zI bn)])), (hp, .inl (cG, 3, .inr (.inr (.inr (.inr (g3 p0 p1 p2)))))), (hs, .inl (cG, 3, .inr (.inr (.inr (.inr (g3 s0 s1 s2)))))), (p0, .inl (cI, 24, .inl (fI P0))), (p1, .inl (cI, 24, .inl (fI P1))), (p2, .inl (cI, 24, .inl (fI P2))), (s0, .inl (cI, 24, .inl (fI S0))), (s1, .inl (cI, 24, .inl (fI S1))), (s2, .inl (cI, 24, .inl (fI S2))), (dh, .inr (7, [.int (zI dth), .int (zI dn), .int (zI dac), .ref d1, .ref d2, .ref d3, .ref d4]))] "java/lang/IllegalArgumentException" (fun w => w = [(x0, .inr (9, [.ref b0, .ref r0, .ref tr0, .ref dh, .ref kh, .ref me0, .ref cl0, .ref pg0, .ref la0])), (b0, .inr (0, [.ref hp, .ref hs, .int (zI bn)])), (hp, .inl (cG, 3, .inr (.inr (.inr (.inr (g3 p0 p1 p2)))))), (hs, .inl (cG, 3, .inr (.inr (.inr (.inr (g3 s0 s1 s2)))))), (p0, .inl (cI, 24, .inl (fI P0))), (p1, .inl (cI, 24, .inl (fI P1))), (p2, .inl (cI, 24, .inl (fI P2))), (s0, .inl (cI, 24, .inl (fI S0))), (s1, .inl (cI, 24, .inl (fI S1))), (s2, .inl (cI, 24, .inl (fI S2))), (dh, .inr (7, [.int (zI dth), .int (zI dn), .int (zI dac), .ref d1, .ref d2, .ref d3, .ref d4]))]) := by
  refine zBt (by decide) (Nat.le_of_ble_eq_true rfl) ?_
  intro p e s m args below meth c ls A H locs Q C hx hl hW hQ
  have hl : lv_has ls 8 [(0, .ref x0), (1, .int (zI k)), (2, .long (zL px)), (4, .long (zL py)), (6, .long (zL pz))] := hl
  have hbb := hBB k hk0 hk1
  have hg0 := goB_0 (P0 := P0) (P1 := P1) (P2 := P2) (wa := px) (j := k)
  have hg1 := goB_1 (P0 := P0) (P1 := P1) (P2 := P2) (wa := py) (j := k)
  have hg2 := goB_2 (P0 := P0) (P1 := P1) (P2 := P2) (wa := pz) (j := k)
  refine lv_aload_n C.1 C.2.1 dPD_explode_0 rfl (lv_at hl 0 rfl) ?_
  refine lv_iload_n C.1 C.2.1 dPD_explode_1 rfl (lv_at hl 1 rfl) ?_
  refine zcallv (wr := [(hp, .inl (cG, 3, .inr (.inr (.inr (.inr (g3 p0 p1 p2)))))), (hs, .inl (cG, 3, .inr (.inr (.inr (.inr (g3 s0 s1 s2)))))), (p0, .inl (cI, 24, .inl (fI P0))), (p1, .inl (cI, 24, .inl (fI P1))), (p2, .inl (cI, 24, .inl (fI P2))), (s0, .inl (cI, 24, .inl (fI S0))), (s1, .inl (cI, 24, .inl (fI S1))), (s2, .inl (cI, 24, .inl (fI S2))), (dh, .inr (7, [.int (zI dth), .int (zI dn), .int (zI dac), .ref d1, .ref d2, .ref d3, .ref d4]))]) C hW [0, 1] [2, 3, 4, 5, 6, 7, 8, 9, 10] rfl rfl (by decide) (by decide) (zRunV (k := 1) (As := [.int (zI k)]) (rest := []) C hW (c_PartDrawings_needBox l D cI cG cL cB x0 b0 r0 tr0 dh kh me0 cl0 pg0 la0 hp hs bn k (by omega) (by omega) (by omega) (by omega) H.size) [0, 1] rfl (by decide) kPD_106 (by decide +kernel) ⟨by decide, by decide⟩ 0 rfl rfl rfl hl.1 (Nat.le_of_ble_eq_true rfl) dPD_explode_2 ⟨by first | decide | omega, by first | decide | omega⟩) (fun w H locs hq hW => ?_)
  subst hq
  have hW : zw D zCl A s [(hp, .inl (cG, 3, .inr (.inr (.inr (.inr (g3 p0 p1 p2)))))), (hs, .inl (cG, 3, .inr (.inr (.inr (.inr (g3 s0 s1 s2)))))), (p0, .inl (cI, 24, .inl (fI P0))), (p1, .inl (cI, 24, .inl (fI P1))), (p2, .inl (cI, 24, .inl (fI P2))), (s0, .inl (cI, 24, .inl (fI S0))), (s1, .inl (cI, 24, .inl (fI S1))), (s2, .inl (cI, 24, .inl (fI S2))), (dh, .inr (7, [.int (zI dth), .int (zI dn), .int (zI dac), .ref d1, .ref d2, .ref d3, .ref d4])), (x0, .inr (9, [.ref b0, .ref r0, .ref tr0, .ref dh, .ref kh, .ref me0, .ref cl0, .ref pg0, .ref la0])), (b0, .inr (0, [.ref hp, .ref hs, .int (zI bn)]))] H locs := hW
  refine lv_aload_n C.1 C.2.1 dPD_explode_5 rfl (lv_at hl 0 rfl) ?_
  refine zget C hW 9 0 rfl rfl inPD (by decide) flPD_12 rfl dPD_explode_6 ?_
  refine lv_iload_n C.1 C.2.1 dPD_explode_9 rfl (lv_at hl 1 rfl) ?_
  refine lv_iconst (v := zI 0) C.1 C.2.1 dPD_explode_10 (by decide) ?_
  refine lv_lload_n C.1 C.2.1 dPD_explode_11 rfl (lv_at hl 2 rfl) ?_
  refine zcalli (wr := [(dh, .inr (7, [.int (zI dth), .int (zI dn), .int (zI dac), .ref d1, .ref d2, .ref d3, .ref d4])), (x0, .inr (9, [.ref b0, .ref r0, .ref tr0, .ref dh, .ref kh, .ref me0, .ref cl0, .ref pg0, .ref la0]))]) C hW [10, 0, 1, 2, 3, 4, 5, 6, 7] [8, 9] rfl rfl (by decide) (by decide) (zRunV (k := 3) (As := [.int (zI k), .int (zI 0), .long (zL px)]) (rest := []) C hW (c_Boxes_canGo l D cI cG cL cB b0 hp hs p0 p1 p2 s0 s1 s2 bn P0 P1 P2 S0 S1 S2 k 0 px bP0 bP1 bP2 bS0 bS1 bS2 (by omega) (by omega) (by omega) (by omega) (Or.inl rfl) (by omega) H.size) [10, 0, 1, 2, 3, 4, 5, 6, 7] rfl (by decide) kPD_114 (by decide +kernel) ⟨by decide, by decide⟩ 10 rfl rfl rfl hl.1 (Nat.le_of_ble_eq_true rfl) dPD_explode_12 ⟨by first | decide | omega, by first | decide | omega⟩) (fun x w H locs hq hW => ?_)
  obtain ⟨rfl, rfl⟩ := hq
  have hW : zw D zCl A s [(dh, .inr (7, [.int (zI dth), .int (zI dn), .int (zI dac), .ref d1, .ref d2, .ref d3, .ref d4])), (x0, .inr (9, [.ref b0, .ref r0, .ref tr0, .ref dh, .ref kh, .ref me0, .ref cl0, .ref pg0, .ref la0])), (b0, .inr (0, [.ref hp, .ref hs, .int (zI bn)])), (hp, .inl (cG, 3, .inr (.inr (.inr (.inr (g3 p0 p1 p2)))))), (hs, .inl (cG, 3, .inr (.inr (.inr (.inr (g3 s0 s1 s2)))))), (p0, .inl (cI, 24, .inl (fI P0))), (p1, .inl (cI, 24, .inl (fI P1))), (p2, .inl (cI, 24, .inl (fI P2))), (s0, .inl (cI, 24, .inl (fI S0))), (s1, .inl (cI, 24, .inl (fI S1))), (s2, .inl (cI, 24, .inl (fI S2)))] H locs := hW
  have hr1 := bz_01 (goB P0 P1 P2 0 px k)
  refine zif_eq (tgt := 46) C (by omega) dPD_explode_15 (by decide) (fun c15 => ?_) (fun c15 => ?_)
  · have hW : zw D zCl A s [(x0, .inr (9, [.ref b0, .ref r0, .ref tr0, .ref dh, .ref kh, .ref me0, .ref cl0, .ref pg0, .ref la0])), (b0, .inr (0, [.ref hp, .ref hs, .int (zI bn)])), (hp, .inl (cG, 3, .inr (.inr (.inr (.inr (g3 p0 p1 p2)))))), (hs, .inl (cG, 3, .inr (.inr (.inr (.inr (g3 s0 s1 s2)))))), (p0, .inl (cI, 24, .inl (fI P0))), (p1, .inl (cI, 24, .inl (fI P1))), (p2, .inl (cI, 24, .inl (fI P2))), (s0, .inl (cI, 24, .inl (fI S0))), (s1, .inl (cI, 24, .inl (fI S1))), (s2, .inl (cI, 24, .inl (fI S2))), (dh, .inr (7, [.int (zI dth), .int (zI dn), .int (zI dac), .ref d1, .ref d2, .ref d3, .ref d4]))] H locs := zwp hW [1, 2, 3, 4, 5, 6, 7, 8, 9, 10, 0] rfl (by decide)
    exact zthrow C hW hx hlt hl.1 (by decide +kernel) (by decide +kernel) ktPD_85_118_89c kxPD_89 ktPD_85_118_89s hQ rfl (by omega) (by omega) (by decide) (by decide) (by decide) (Nat.le_of_ble_eq_true rfl) dPD_explode_46 dPD_explode_49 dPD_explode_50 dPD_explode_52 dPD_explode_55
  · refine lv_aload_n C.1 C.2.1 dPD_explode_18 rfl (lv_at hl 0 rfl) ?_
    refine zget C hW 1 0 rfl rfl inPD (by decide) flPD_12 rfl dPD_explode_19 ?_
    refine lv_iload_n C.1 C.2.1 dPD_explode_22 rfl (lv_at hl 1 rfl) ?_
    refine lv_iconst (v := zI 1) C.1 C.2.1 dPD_explode_23 (by decide) ?_
    refine lv_lload C.1 C.2.1 dPD_explode_24 (lv_at hl 3 rfl) ?_
    refine zcalli (wr := [(dh, .inr (7, [.int (zI dth), .int (zI dn), .int (zI dac), .ref d1, .ref d2, .ref d3, .ref d4])), (x0, .inr (9, [.ref b0, .ref r0, .ref tr0, .ref dh, .ref kh, .ref me0, .ref cl0, .ref pg0, .ref la0]))]) C hW [2, 3, 4, 5, 6, 7, 8, 9, 10] [0, 1] rfl rfl (by decide) (by decide) (zRunV (k := 3) (As := [.int (zI k), .int (zI 1), .long (zL py)]) (rest := []) C hW (c_Boxes_canGo l D cI cG cL cB b0 hp hs p0 p1 p2 s0 s1 s2 bn P0 P1 P2 S0 S1 S2 k 1 py bP0 bP1 bP2 bS0 bS1 bS2 (by omega) (by omega) (by omega) (by omega) (Or.inr (Or.inl rfl)) (by omega) H.size) [2, 3, 4, 5, 6, 7, 8, 9, 10] rfl (by decide) kPD_114 (by decide +kernel) ⟨by decide, by decide⟩ 2 rfl rfl rfl hl.1 (Nat.le_of_ble_eq_true rfl) dPD_explode_26 ⟨by first | decide | omega, by first | decide | omega⟩) (fun x w H locs hq hW => ?_)
    obtain ⟨rfl, rfl⟩ := hq
    have hW : zw D zCl A s [(dh, .inr (7, [.int (zI dth), .int (zI dn), .int (zI dac), .ref d1, .ref d2, .ref d3, .ref d4])), (x0, .inr (9, [.ref b0, .ref r0, .ref tr0, .ref dh, .ref kh, .ref me0, .ref cl0, .ref pg0, .ref la0])), (b0, .inr (0, [.ref hp, .ref hs, .int (zI bn)])), (hp, .inl (cG, 3, .inr (.inr (.inr (.inr (g3 p0 p1 p2)))))), (hs, .inl (cG, 3, .inr (.inr (.inr (.inr (g3 s0 s1 s2)))))), (p0, .inl (cI, 24, .inl (fI P0))), (p1, .inl (cI, 24, .inl (fI P1))), (p2, .inl (cI, 24, .inl (fI P2))), (s0, .inl (cI, 24, .inl (fI S0))), (s1, .inl (cI, 24, .inl (fI S1))), (s2, .inl (cI, 24, .inl (fI S2)))] H locs := hW
    have hr2 := bz_01 (goB P0 P1 P2 1 py k)
    refine zif_eq (tgt := 46) C (by omega) dPD_explode_29 (by decide) (fun c29 => ?_) (fun c29 => ?_)
    · have hW : zw D zCl A s [(x0, .inr (9, [.ref b0, .ref r0, .ref tr0, .ref dh, .ref kh, .ref me0, .ref cl0, .ref pg0, .ref la0])), (b0, .inr (0, [.ref hp, .ref hs, .int (zI bn)])), (hp, .inl (cG, 3, .inr (.inr (.inr (.inr (g3 p0 p1 p2)))))), (hs, .inl (cG, 3, .inr (.inr (.inr (.inr (g3 s0 s1 s2)))))), (p0, .inl (cI, 24, .inl (fI P0))), (p1, .inl (cI, 24, .inl (fI P1))), (p2, .inl (cI, 24, .inl (fI P2))), (s0, .inl (cI, 24, .inl (fI S0))), (s1, .inl (cI, 24, .inl (fI S1))), (s2, .inl (cI, 24, .inl (fI S2))), (dh, .inr (7, [.int (zI dth), .int (zI dn), .int (zI dac), .ref d1, .ref d2, .ref d3, .ref d4]))] H locs := zwp hW [1, 2, 3, 4, 5, 6, 7, 8, 9, 10, 0] rfl (by decide)
      exact zthrow C hW hx hlt hl.1 (by decide +kernel) (by decide +kernel) ktPD_85_118_89c kxPD_89 ktPD_85_118_89s hQ rfl (by omega) (by omega) (by decide) (by decide) (by decide) (Nat.le_of_ble_eq_true rfl) dPD_explode_46 dPD_explode_49 dPD_explode_50 dPD_explode_52 dPD_explode_55
    · refine lv_aload_n C.1 C.2.1 dPD_explode_32 rfl (lv_at hl 0 rfl) ?_
      refine zget C hW 1 0 rfl rfl inPD (by decide) flPD_12 rfl dPD_explode_33 ?_
      refine lv_iload_n C.1 C.2.1 dPD_explode_36 rfl (lv_at hl 1 rfl) ?_
      refine lv_iconst (v := zI 2) C.1 C.2.1 dPD_explode_37 (by decide) ?_
      refine lv_lload C.1 C.2.1 dPD_explode_38 (lv_at hl 4 rfl) ?_
      refine zcalli (wr := [(dh, .inr (7, [.int (zI dth), .int (zI dn), .int (zI dac), .ref d1, .ref d2, .ref d3, .ref d4])), (x0, .inr (9, [.ref b0, .ref r0, .ref tr0, .ref dh, .ref kh, .ref me0, .ref cl0, .ref pg0, .ref la0]))]) C hW [2, 3, 4, 5, 6, 7, 8, 9, 10] [0, 1] rfl rfl (by decide) (by decide) (zRunV (k := 3) (As := [.int (zI k), .int (zI 2), .long (zL pz)]) (rest := []) C hW (c_Boxes_canGo l D cI cG cL cB b0 hp hs p0 p1 p2 s0 s1 s2 bn P0 P1 P2 S0 S1 S2 k 2 pz bP0 bP1 bP2 bS0 bS1 bS2 (by omega) (by omega) (by omega) (by omega) (Or.inr (Or.inr rfl)) (by omega) H.size) [2, 3, 4, 5, 6, 7, 8, 9, 10] rfl (by decide) kPD_114 (by decide +kernel) ⟨by decide, by decide⟩ 2 rfl rfl rfl hl.1 (Nat.le_of_ble_eq_true rfl) dPD_explode_40 ⟨by first | decide | omega, by first | decide | omega⟩) (fun x w H locs hq hW => ?_)
      obtain ⟨rfl, rfl⟩ := hq
      have hW : zw D zCl A s [(dh, .inr (7, [.int (zI dth), .int (zI dn), .int (zI dac), .ref d1, .ref d2, .ref d3, .ref d4])), (x0, .inr (9, [.ref b0, .ref r0, .ref tr0, .ref dh, .ref kh, .ref me0, .ref cl0, .ref pg0, .ref la0])), (b0, .inr (0, [.ref hp, .ref hs, .int (zI bn)])), (hp, .inl (cG, 3, .inr (.inr (.inr (.inr (g3 p0 p1 p2)))))), (hs, .inl (cG, 3, .inr (.inr (.inr (.inr (g3 s0 s1 s2)))))), (p0, .inl (cI, 24, .inl (fI P0))), (p1, .inl (cI, 24, .inl (fI P1))), (p2, .inl (cI, 24, .inl (fI P2))), (s0, .inl (cI, 24, .inl (fI S0))), (s1, .inl (cI, 24, .inl (fI S1))), (s2, .inl (cI, 24, .inl (fI S2)))] H locs := hW
      have hr3 := bz_01 (goB P0 P1 P2 2 pz k)
      refine zif_ne (tgt := 56) C (by omega) dPD_explode_43 (by decide) (fun c43 => ?_) (fun c43 => ?_)
      · exact False.elim (by exact hgo ⟨by_contra_if hg0 (by omega), by_contra_if hg1 (by omega), by_contra_if hg2 (by omega)⟩)
      · have hW : zw D zCl A s [(x0, .inr (9, [.ref b0, .ref r0, .ref tr0, .ref dh, .ref kh, .ref me0, .ref cl0, .ref pg0, .ref la0])), (b0, .inr (0, [.ref hp, .ref hs, .int (zI bn)])), (hp, .inl (cG, 3, .inr (.inr (.inr (.inr (g3 p0 p1 p2)))))), (hs, .inl (cG, 3, .inr (.inr (.inr (.inr (g3 s0 s1 s2)))))), (p0, .inl (cI, 24, .inl (fI P0))), (p1, .inl (cI, 24, .inl (fI P1))), (p2, .inl (cI, 24, .inl (fI P2))), (s0, .inl (cI, 24, .inl (fI S0))), (s1, .inl (cI, 24, .inl (fI S1))), (s2, .inl (cI, 24, .inl (fI S2))), (dh, .inr (7, [.int (zI dth), .int (zI dn), .int (zI dac), .ref d1, .ref d2, .ref d3, .ref d4]))] H locs := zwp hW [1, 2, 3, 4, 5, 6, 7, 8, 9, 10, 0] rfl (by decide)
        exact zthrow C hW hx hlt hl.1 (by decide +kernel) (by decide +kernel) ktPD_85_118_89c kxPD_89 ktPD_85_118_89s hQ rfl (by omega) (by omega) (by decide) (by decide) (by decide) (Nat.le_of_ble_eq_true rfl) dPD_explode_46 dPD_explode_49 dPD_explode_50 dPD_explode_52 dPD_explode_55
