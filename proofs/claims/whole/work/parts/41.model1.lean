theorem dMo_thrown_0 : decode cMo_thrown 0 = .ok (.aload_n 0, 1) := by decide +kernel
theorem dMo_thrown_1 : decode cMo_thrown 1 = .ok (.getfield 93, 3) := by decide +kernel
theorem dMo_thrown_4 : decode cMo_thrown 4 = .ok (.ireturn, 1) := by decide +kernel
theorem dMo_isIn_0 : decode cMo_isIn 0 = .ok (.lload_n 0, 1) := by decide +kernel
theorem dMo_isIn_1 : decode cMo_isIn 1 = .ok (.lload_n 2, 1) := by decide +kernel
theorem dMo_isIn_2 : decode cMo_isIn 2 = .ok (.lcmp, 1) := by decide +kernel
theorem dMo_isIn_3 : decode cMo_isIn 3 = .ok (.ifCond .lt 14, 3) := by decide +kernel
theorem dMo_isIn_6 : decode cMo_isIn 6 = .ok (.lload_n 0, 1) := by decide +kernel
theorem dMo_isIn_7 : decode cMo_isIn 7 = .ok (.lload 4, 2) := by decide +kernel
theorem dMo_isIn_9 : decode cMo_isIn 9 = .ok (.lcmp, 1) := by decide +kernel
theorem dMo_isIn_10 : decode cMo_isIn 10 = .ok (.ifCond .gt 7, 3) := by decide +kernel
theorem dMo_isIn_13 : decode cMo_isIn 13 = .ok (.iconst 1, 1) := by decide +kernel
theorem dMo_isIn_14 : decode cMo_isIn 14 = .ok (.goto 4, 3) := by decide +kernel
theorem dMo_isIn_17 : decode cMo_isIn 17 = .ok (.iconst 0, 1) := by decide +kernel
theorem dMo_isIn_18 : decode cMo_isIn 18 = .ok (.ireturn, 1) := by decide +kernel
theorem dMo_noBox_0 : decode cMo_noBox 0 = .ok (.aload_n 0, 1) := by decide +kernel
theorem dMo_noBox_1 : decode cMo_noBox 1 = .ok (.iload_n 1, 1) := by decide +kernel
theorem dMo_noBox_2 : decode cMo_noBox 2 = .ok (.ifCond .lt 11, 3) := by decide +kernel
theorem dMo_noBox_5 : decode cMo_noBox 5 = .ok (.iload_n 1, 1) := by decide +kernel
theorem dMo_noBox_6 : decode cMo_noBox 6 = .ok (.aload_n 0, 1) := by decide +kernel
theorem dMo_noBox_7 : decode cMo_noBox 7 = .ok (.getfield 105, 3) := by decide +kernel
theorem dMo_noBox_10 : decode cMo_noBox 10 = .ok (.if_icmp .lt 7, 3) := by decide +kernel
theorem dMo_noBox_13 : decode cMo_noBox 13 = .ok (.iconst 1, 1) := by decide +kernel
theorem dMo_noBox_14 : decode cMo_noBox 14 = .ok (.goto 4, 3) := by decide +kernel
theorem dMo_noBox_17 : decode cMo_noBox 17 = .ok (.iconst 0, 1) := by decide +kernel
theorem dMo_noBox_18 : decode cMo_noBox 18 = .ok (.putfield 93, 3) := by decide +kernel
theorem dMo_noBox_21 : decode cMo_noBox 21 = .ok (.aload_n 0, 1) := by decide +kernel
theorem dMo_noBox_22 : decode cMo_noBox 22 = .ok (.getfield 93, 3) := by decide +kernel
theorem dMo_noBox_25 : decode cMo_noBox 25 = .ok (.ifCond .le 7, 3) := by decide +kernel
theorem dMo_noBox_28 : decode cMo_noBox 28 = .ok (.iconst 1, 1) := by decide +kernel
theorem dMo_noBox_29 : decode cMo_noBox 29 = .ok (.goto 4, 3) := by decide +kernel
theorem dMo_noBox_32 : decode cMo_noBox 32 = .ok (.iconst 0, 1) := by decide +kernel
theorem dMo_noBox_33 : decode cMo_noBox 33 = .ok (.ireturn, 1) := by decide +kernel
theorem dMo_mayGo_0 : decode cMo_mayGo 0 = .ok (.lload_n 2, 1) := by decide +kernel
theorem dMo_mayGo_1 : decode cMo_mayGo 1 = .ok (.ldc2_w 116, 3) := by decide +kernel
theorem dMo_mayGo_4 : decode cMo_mayGo 4 = .ok (.ldc2_w 118, 3) := by decide +kernel
theorem dMo_mayGo_7 : decode cMo_mayGo 7 = .ok (.invokestatic 101, 3) := by decide +kernel
theorem dMo_mayGo_10 : decode cMo_mayGo 10 = .ok (.ifCond .eq 27, 3) := by decide +kernel
theorem dMo_mayGo_13 : decode cMo_mayGo 13 = .ok (.aload_n 0, 1) := by decide +kernel
theorem dMo_mayGo_14 : decode cMo_mayGo 14 = .ok (.getfield 7, 3) := by decide +kernel
theorem dMo_mayGo_17 : decode cMo_mayGo 17 = .ok (.iload_n 1, 1) := by decide +kernel
theorem dMo_mayGo_18 : decode cMo_mayGo 18 = .ok (.laload, 1) := by decide +kernel
theorem dMo_mayGo_19 : decode cMo_mayGo 19 = .ok (.lload_n 2, 1) := by decide +kernel
theorem dMo_mayGo_20 : decode cMo_mayGo 20 = .ok (.ladd, 1) := by decide +kernel
theorem dMo_mayGo_21 : decode cMo_mayGo 21 = .ok (.ldc2_w 97, 3) := by decide +kernel
theorem dMo_mayGo_24 : decode cMo_mayGo 24 = .ok (.ldc2_w 99, 3) := by decide +kernel
theorem dMo_mayGo_27 : decode cMo_mayGo 27 = .ok (.invokestatic 101, 3) := by decide +kernel
theorem dMo_mayGo_30 : decode cMo_mayGo 30 = .ok (.ifCond .eq 7, 3) := by decide +kernel
theorem dMo_mayGo_33 : decode cMo_mayGo 33 = .ok (.iconst 1, 1) := by decide +kernel
theorem dMo_mayGo_34 : decode cMo_mayGo 34 = .ok (.goto 4, 3) := by decide +kernel
theorem dMo_mayGo_37 : decode cMo_mayGo 37 = .ok (.iconst 0, 1) := by decide +kernel
theorem dMo_mayGo_38 : decode cMo_mayGo 38 = .ok (.ireturn, 1) := by decide +kernel
theorem dMo_upOf_0 : decode cMo_upOf 0 = .ok (.iload_n 0, 1) := by decide +kernel
theorem dMo_upOf_1 : decode cMo_upOf 1 = .ok (.iconst 2, 1) := by decide +kernel
theorem dMo_upOf_2 : decode cMo_upOf 2 = .ok (.if_icmp .ge 7, 3) := by decide +kernel
theorem dMo_upOf_5 : decode cMo_upOf 5 = .ok (.iconst 1, 1) := by decide +kernel
theorem dMo_upOf_6 : decode cMo_upOf 6 = .ok (.goto 4, 3) := by decide +kernel
theorem dMo_upOf_9 : decode cMo_upOf 9 = .ok (.iconst 2, 1) := by decide +kernel
theorem dMo_upOf_10 : decode cMo_upOf 10 = .ok (.ireturn, 1) := by decide +kernel
theorem dMo_acrossOf_0 : decode cMo_acrossOf 0 = .ok (.iload_n 0, 1) := by decide +kernel
theorem dMo_acrossOf_1 : decode cMo_acrossOf 1 = .ok (.iconst 2, 1) := by decide +kernel
theorem dMo_acrossOf_2 : decode cMo_acrossOf 2 = .ok (.if_icmp .lt 12, 3) := by decide +kernel
theorem dMo_acrossOf_5 : decode cMo_acrossOf 5 = .ok (.iload_n 0, 1) := by decide +kernel
theorem dMo_acrossOf_6 : decode cMo_acrossOf 6 = .ok (.iconst 4, 1) := by decide +kernel
theorem dMo_acrossOf_7 : decode cMo_acrossOf 7 = .ok (.if_icmp .ge 7, 3) := by decide +kernel
theorem dMo_acrossOf_10 : decode cMo_acrossOf 10 = .ok (.iconst 1, 1) := by decide +kernel
theorem dMo_acrossOf_11 : decode cMo_acrossOf 11 = .ok (.goto 4, 3) := by decide +kernel
theorem dMo_acrossOf_14 : decode cMo_acrossOf 14 = .ok (.iconst 0, 1) := by decide +kernel
theorem dMo_acrossOf_15 : decode cMo_acrossOf 15 = .ok (.ireturn, 1) := by decide +kernel
theorem dMo_front_0 : decode cMo_front 0 = .ok (.iconst 3, 1) := by decide +kernel
theorem dMo_front_1 : decode cMo_front 1 = .ok (.iload_n 2, 1) := by decide +kernel
theorem dMo_front_2 : decode cMo_front 2 = .ok (.imul, 1) := by decide +kernel
theorem dMo_front_3 : decode cMo_front 3 = .ok (.iload_n 1, 1) := by decide +kernel
theorem dMo_front_4 : decode cMo_front 4 = .ok (.invokestatic 124, 3) := by decide +kernel
theorem dMo_front_7 : decode cMo_front 7 = .ok (.iadd, 1) := by decide +kernel
theorem dMo_front_8 : decode cMo_front 8 = .ok (.istore_n 3, 1) := by decide +kernel
theorem dMo_front_9 : decode cMo_front 9 = .ok (.iload_n 1, 1) := by decide +kernel
theorem dMo_front_10 : decode cMo_front 10 = .ok (.iconst 2, 1) := by decide +kernel
theorem dMo_front_11 : decode cMo_front 11 = .ok (.irem, 1) := by decide +kernel
theorem dMo_front_12 : decode cMo_front 12 = .ok (.ifCond .ne 12, 3) := by decide +kernel
theorem dMo_front_15 : decode cMo_front 15 = .ok (.aload_n 0, 1) := by decide +kernel
theorem dMo_front_16 : decode cMo_front 16 = .ok (.getfield 7, 3) := by decide +kernel
theorem dMo_front_19 : decode cMo_front 19 = .ok (.iload_n 3, 1) := by decide +kernel
theorem dMo_front_20 : decode cMo_front 20 = .ok (.laload, 1) := by decide +kernel
theorem dMo_front_21 : decode cMo_front 21 = .ok (.goto 10, 3) := by decide +kernel
theorem dMo_front_24 : decode cMo_front 24 = .ok (.aload_n 0, 1) := by decide +kernel
theorem dMo_front_25 : decode cMo_front 25 = .ok (.getfield 13, 3) := by decide +kernel
theorem dMo_front_28 : decode cMo_front 28 = .ok (.iload_n 3, 1) := by decide +kernel
theorem dMo_front_29 : decode cMo_front 29 = .ok (.laload, 1) := by decide +kernel
theorem dMo_front_30 : decode cMo_front 30 = .ok (.lneg, 1) := by decide +kernel
theorem dMo_front_31 : decode cMo_front 31 = .ok (.lreturn, 1) := by decide +kernel
theorem dMo_axisOf_0 : decode cMo_axisOf 0 = .ok (.iload_n 0, 1) := by decide +kernel
theorem dMo_axisOf_1 : decode cMo_axisOf 1 = .ok (.iconst 2, 1) := by decide +kernel
theorem dMo_axisOf_2 : decode cMo_axisOf 2 = .ok (.if_icmp .ge 7, 3) := by decide +kernel
theorem dMo_axisOf_5 : decode cMo_axisOf 5 = .ok (.iconst 2, 1) := by decide +kernel
theorem dMo_axisOf_6 : decode cMo_axisOf 6 = .ok (.goto 13, 3) := by decide +kernel
theorem dMo_axisOf_9 : decode cMo_axisOf 9 = .ok (.iload_n 0, 1) := by decide +kernel
theorem dMo_axisOf_10 : decode cMo_axisOf 10 = .ok (.iconst 4, 1) := by decide +kernel
theorem dMo_axisOf_11 : decode cMo_axisOf 11 = .ok (.if_icmp .ge 7, 3) := by decide +kernel
theorem dMo_axisOf_14 : decode cMo_axisOf 14 = .ok (.iconst 0, 1) := by decide +kernel
theorem dMo_axisOf_15 : decode cMo_axisOf 15 = .ok (.goto 4, 3) := by decide +kernel
theorem dMo_axisOf_18 : decode cMo_axisOf 18 = .ok (.iconst 1, 1) := by decide +kernel
theorem dMo_axisOf_19 : decode cMo_axisOf 19 = .ok (.ireturn, 1) := by decide +kernel
theorem dMo_back_0 : decode cMo_back 0 = .ok (.iconst 3, 1) := by decide +kernel
theorem dMo_back_1 : decode cMo_back 1 = .ok (.iload_n 2, 1) := by decide +kernel
theorem dMo_back_2 : decode cMo_back 2 = .ok (.imul, 1) := by decide +kernel
theorem dMo_back_3 : decode cMo_back 3 = .ok (.iload_n 1, 1) := by decide +kernel
theorem dMo_back_4 : decode cMo_back 4 = .ok (.invokestatic 124, 3) := by decide +kernel
theorem dMo_back_7 : decode cMo_back 7 = .ok (.iadd, 1) := by decide +kernel
theorem dMo_back_8 : decode cMo_back 8 = .ok (.istore_n 3, 1) := by decide +kernel
theorem dMo_back_9 : decode cMo_back 9 = .ok (.iload_n 1, 1) := by decide +kernel
theorem dMo_back_10 : decode cMo_back 10 = .ok (.iconst 2, 1) := by decide +kernel
theorem dMo_back_11 : decode cMo_back 11 = .ok (.irem, 1) := by decide +kernel
theorem dMo_back_12 : decode cMo_back 12 = .ok (.ifCond .ne 12, 3) := by decide +kernel
theorem dMo_back_15 : decode cMo_back 15 = .ok (.aload_n 0, 1) := by decide +kernel
theorem dMo_back_16 : decode cMo_back 16 = .ok (.getfield 13, 3) := by decide +kernel
theorem dMo_back_19 : decode cMo_back 19 = .ok (.iload_n 3, 1) := by decide +kernel
theorem dMo_back_20 : decode cMo_back 20 = .ok (.laload, 1) := by decide +kernel
theorem dMo_back_21 : decode cMo_back 21 = .ok (.goto 10, 3) := by decide +kernel
theorem dMo_back_24 : decode cMo_back 24 = .ok (.aload_n 0, 1) := by decide +kernel
theorem dMo_back_25 : decode cMo_back 25 = .ok (.getfield 7, 3) := by decide +kernel
theorem dMo_back_28 : decode cMo_back 28 = .ok (.iload_n 3, 1) := by decide +kernel
theorem dMo_back_29 : decode cMo_back 29 = .ok (.laload, 1) := by decide +kernel
theorem dMo_back_30 : decode cMo_back 30 = .ok (.lneg, 1) := by decide +kernel
theorem dMo_back_31 : decode cMo_back 31 = .ok (.lreturn, 1) := by decide +kernel
theorem dMo_none_0 : decode cMo_none 0 = .ok (.aload_n 0, 1) := by decide +kernel
theorem dMo_none_1 : decode cMo_none 1 = .ok (.aload_n 0, 1) := by decide +kernel
theorem dMo_none_2 : decode cMo_none 2 = .ok (.getfield 108, 3) := by decide +kernel
theorem dMo_none_5 : decode cMo_none 5 = .ok (.ifCond .eq 7, 3) := by decide +kernel
theorem dMo_none_8 : decode cMo_none 8 = .ok (.iconst 0, 1) := by decide +kernel
theorem dMo_none_9 : decode cMo_none 9 = .ok (.goto 4, 3) := by decide +kernel
theorem dMo_none_12 : decode cMo_none 12 = .ok (.iconst 1, 1) := by decide +kernel
theorem dMo_none_13 : decode cMo_none 13 = .ok (.putfield 93, 3) := by decide +kernel
theorem dMo_none_16 : decode cMo_none 16 = .ok (.aload_n 0, 1) := by decide +kernel
theorem dMo_none_17 : decode cMo_none 17 = .ok (.getfield 93, 3) := by decide +kernel
theorem dMo_none_20 : decode cMo_none 20 = .ok (.ifCond .le 7, 3) := by decide +kernel
theorem dMo_none_23 : decode cMo_none 23 = .ok (.iconst 1, 1) := by decide +kernel
theorem dMo_none_24 : decode cMo_none 24 = .ok (.goto 4, 3) := by decide +kernel
theorem dMo_none_27 : decode cMo_none 27 = .ok (.iconst 0, 1) := by decide +kernel
theorem dMo_none_28 : decode cMo_none 28 = .ok (.ireturn, 1) := by decide +kernel
theorem dMo_isCut_0 : decode cMo_isCut 0 = .ok (.iconst 3, 1) := by decide +kernel
theorem dMo_isCut_1 : decode cMo_isCut 1 = .ok (.iload 4, 2) := by decide +kernel
theorem dMo_isCut_3 : decode cMo_isCut 3 = .ok (.imul, 1) := by decide +kernel
theorem dMo_isCut_4 : decode cMo_isCut 4 = .ok (.iload_n 1, 1) := by decide +kernel
theorem dMo_isCut_5 : decode cMo_isCut 5 = .ok (.invokestatic 124, 3) := by decide +kernel
theorem dMo_isCut_8 : decode cMo_isCut 8 = .ok (.iadd, 1) := by decide +kernel
theorem dMo_isCut_9 : decode cMo_isCut 9 = .ok (.istore 5, 2) := by decide +kernel
theorem dMo_isCut_11 : decode cMo_isCut 11 = .ok (.aload_n 0, 1) := by decide +kernel
theorem dMo_isCut_12 : decode cMo_isCut 12 = .ok (.getfield 7, 3) := by decide +kernel
theorem dMo_isCut_15 : decode cMo_isCut 15 = .ok (.iload 5, 2) := by decide +kernel
theorem dMo_isCut_17 : decode cMo_isCut 17 = .ok (.laload, 1) := by decide +kernel
theorem dMo_isCut_18 : decode cMo_isCut 18 = .ok (.lload_n 2, 1) := by decide +kernel
theorem dMo_isCut_19 : decode cMo_isCut 19 = .ok (.lcmp, 1) := by decide +kernel
theorem dMo_isCut_20 : decode cMo_isCut 20 = .ok (.ifCond .ge 19, 3) := by decide +kernel
theorem dMo_isCut_23 : decode cMo_isCut 23 = .ok (.aload_n 0, 1) := by decide +kernel
theorem dMo_isCut_24 : decode cMo_isCut 24 = .ok (.getfield 13, 3) := by decide +kernel
theorem dMo_isCut_27 : decode cMo_isCut 27 = .ok (.iload 5, 2) := by decide +kernel
theorem dMo_isCut_29 : decode cMo_isCut 29 = .ok (.laload, 1) := by decide +kernel
theorem dMo_isCut_30 : decode cMo_isCut 30 = .ok (.lload_n 2, 1) := by decide +kernel
theorem dMo_isCut_31 : decode cMo_isCut 31 = .ok (.lcmp, 1) := by decide +kernel
theorem dMo_isCut_32 : decode cMo_isCut 32 = .ok (.ifCond .le 7, 3) := by decide +kernel
theorem dMo_isCut_35 : decode cMo_isCut 35 = .ok (.iconst 1, 1) := by decide +kernel
theorem dMo_isCut_36 : decode cMo_isCut 36 = .ok (.goto 4, 3) := by decide +kernel
theorem dMo_isCut_39 : decode cMo_isCut 39 = .ok (.iconst 0, 1) := by decide +kernel
theorem dMo_isCut_40 : decode cMo_isCut 40 = .ok (.ireturn, 1) := by decide +kernel
theorem dMo_sizeOf_0 : decode cMo_sizeOf 0 = .ok (.aload_n 0, 1) := by decide +kernel
theorem dMo_sizeOf_1 : decode cMo_sizeOf 1 = .ok (.getfield 13, 3) := by decide +kernel
theorem dMo_sizeOf_4 : decode cMo_sizeOf 4 = .ok (.iconst 3, 1) := by decide +kernel
theorem dMo_sizeOf_5 : decode cMo_sizeOf 5 = .ok (.iload_n 1, 1) := by decide +kernel
theorem dMo_sizeOf_6 : decode cMo_sizeOf 6 = .ok (.imul, 1) := by decide +kernel
theorem dMo_sizeOf_7 : decode cMo_sizeOf 7 = .ok (.iload_n 2, 1) := by decide +kernel
theorem dMo_sizeOf_8 : decode cMo_sizeOf 8 = .ok (.iadd, 1) := by decide +kernel
theorem dMo_sizeOf_9 : decode cMo_sizeOf 9 = .ok (.laload, 1) := by decide +kernel
theorem dMo_sizeOf_10 : decode cMo_sizeOf 10 = .ok (.aload_n 0, 1) := by decide +kernel
theorem dMo_sizeOf_11 : decode cMo_sizeOf 11 = .ok (.getfield 7, 3) := by decide +kernel
theorem dMo_sizeOf_14 : decode cMo_sizeOf 14 = .ok (.iconst 3, 1) := by decide +kernel
theorem dMo_sizeOf_15 : decode cMo_sizeOf 15 = .ok (.iload_n 1, 1) := by decide +kernel
theorem dMo_sizeOf_16 : decode cMo_sizeOf 16 = .ok (.imul, 1) := by decide +kernel
theorem dMo_sizeOf_17 : decode cMo_sizeOf 17 = .ok (.iload_n 2, 1) := by decide +kernel
theorem dMo_sizeOf_18 : decode cMo_sizeOf 18 = .ok (.iadd, 1) := by decide +kernel
theorem dMo_sizeOf_19 : decode cMo_sizeOf 19 = .ok (.laload, 1) := by decide +kernel
theorem dMo_sizeOf_20 : decode cMo_sizeOf 20 = .ok (.lsub, 1) := by decide +kernel
theorem dMo_sizeOf_21 : decode cMo_sizeOf 21 = .ok (.lreturn, 1) := by decide +kernel
theorem dMo_many_0 : decode cMo_many 0 = .ok (.lload_n 0, 1) := by decide +kernel
theorem dMo_many_1 : decode cMo_many 1 = .ok (.lload_n 2, 1) := by decide +kernel
theorem dMo_many_2 : decode cMo_many 2 = .ok (.ladd, 1) := by decide +kernel
theorem dMo_many_3 : decode cMo_many 3 = .ok (.lconst 1, 1) := by decide +kernel
theorem dMo_many_4 : decode cMo_many 4 = .ok (.lsub, 1) := by decide +kernel
theorem dMo_many_5 : decode cMo_many 5 = .ok (.lload_n 2, 1) := by decide +kernel
theorem dMo_many_6 : decode cMo_many 6 = .ok (.ldiv, 1) := by decide +kernel
theorem dMo_many_7 : decode cMo_many 7 = .ok (.lstore 4, 2) := by decide +kernel
theorem dMo_many_9 : decode cMo_many 9 = .ok (.lload 4, 2) := by decide +kernel
theorem dMo_many_11 : decode cMo_many 11 = .ok (.lconst 1, 1) := by decide +kernel
theorem dMo_many_12 : decode cMo_many 12 = .ok (.lcmp, 1) := by decide +kernel
theorem dMo_many_13 : decode cMo_many 13 = .ok (.ifCond .ge 7, 3) := by decide +kernel
theorem dMo_many_16 : decode cMo_many 16 = .ok (.lconst 1, 1) := by decide +kernel
theorem dMo_many_17 : decode cMo_many 17 = .ok (.goto 5, 3) := by decide +kernel
theorem dMo_many_20 : decode cMo_many 20 = .ok (.lload 4, 2) := by decide +kernel
theorem dMo_many_22 : decode cMo_many 22 = .ok (.lreturn, 1) := by decide +kernel
set_option maxRecDepth 100000 in
theorem flMo_93 : Cond.fieldLink "PartDrawingsModel" 93 (TMo 0).1 (TMo 0).2.1 (TMo 0).2.2.1 ∈ gW := gW_1 1206 rfl rfl
set_option maxRecDepth 100000 in
theorem inMo : ∀ w ∈ u_ws RMo TMo 37, w ∈ gW := gW_l [1243, 1245, 1247, 1249, 1251, 1253, 1255, 1257, 1259, 1261, 1263, 1265, 1267, 1269, 1271, 1273, 1275, 1277, 1279, 1281, 1283, 1285, 1287, 1289, 1291, 1293, 1295, 1297, 1299, 1301, 1303, 1305, 1307, 1309, 1311, 1313, 1315] rfl (by decide +kernel)
set_option maxRecDepth 100000 in
theorem flMo_105 : Cond.fieldLink "PartDrawingsModel" 105 (TMo 3).1 (TMo 3).2.1 (TMo 3).2.2.1 ∈ gW := gW_1 1209 rfl rfl
set_option maxRecDepth 100000 in
theorem flMo_108 : Cond.fieldLink "PartDrawingsModel" 108 (TMo 6).1 (TMo 6).2.1 (TMo 6).2.2.1 ∈ gW := gW_1 1212 rfl rfl
set_option maxRecDepth 100000 in
theorem kcMo_116 : Cond.constantLong "PartDrawingsModel" 116 (zL (-2000000)) ∈ gW := by
  have e : zL (-2000000) = (-2000000 : Int64) := by decide
  rw [e]; exact gW_1 1348 rfl rfl
set_option maxRecDepth 100000 in
theorem kcMo_118 : Cond.constantLong "PartDrawingsModel" 118 (zL 2000000) ∈ gW := by
  have e : zL 2000000 = (2000000 : Int64) := by decide
  rw [e]; exact gW_1 1349 rfl rfl
set_option maxRecDepth 100000 in
theorem kMo_101 : inT (kS "PartDrawingsModel" 101 yMo_isIn cMo_isIn 6 (some .boolean)) := gW_l [1329, 1330, 61, 1331] rfl (by decide +kernel)
set_option maxRecDepth 100000 in
theorem flMo_7 : Cond.fieldLink "PartDrawingsModel" 7 (TMo 4).1 (TMo 4).2.1 (TMo 4).2.2.1 ∈ gW := gW_1 1210 rfl rfl
set_option maxRecDepth 100000 in
theorem kcMo_97 : Cond.constantLong "PartDrawingsModel" 97 (zL (-1000000)) ∈ gW := by
  have e : zL (-1000000) = (-1000000 : Int64) := by decide
  rw [e]; exact gW_1 1327 rfl rfl
set_option maxRecDepth 100000 in
theorem kcMo_99 : Cond.constantLong "PartDrawingsModel" 99 (zL 1000000) ∈ gW := by
  have e : zL 1000000 = (1000000 : Int64) := by decide
  rw [e]; exact gW_1 1328 rfl rfl
set_option maxRecDepth 100000 in
theorem kMo_124 : inT (kS "PartDrawingsModel" 124 yMo_axisOf cMo_axisOf 1 (some .int)) := gW_l [1374, 1375, 61, 1376] rfl (by decide +kernel)
set_option maxRecDepth 100000 in
theorem flMo_13 : Cond.fieldLink "PartDrawingsModel" 13 (TMo 5).1 (TMo 5).2.1 (TMo 5).2.2.1 ∈ gW := gW_1 1211 rfl rfl
set_option maxHeartbeats 4000000 in
set_option maxRecDepth 100000 in
theorem m_isIn (l : Launch) (D : va_G) (cI cG cL cB : ClassId) (v : Int) (a : Int) (b : Int) (hJv : I64 v) (hJa : I64 a) (hJb : I64 b) : Ci l yMo_isIn cMo_isIn 6 (some .boolean) 0 0 0 D zCl (zT cI cG cL cB) [.long (zL v), .long (zL a), .long (zL b)] [] (fun x w => x = zI (bz (inR v a b)) ∧ w = []) := by
  refine zBz (by decide) (Nat.le_of_ble_eq_true rfl) ?_
  intro p e s m args below meth c ls A H locs Q C hin hl hW hQ
  have hl : lv_has ls 6 [(0, .long (zL v)), (2, .long (zL a)), (4, .long (zL b))] := hl
  refine lv_lload_n C.1 C.2.1 dMo_isIn_0 rfl (lv_at hl 0 rfl) ?_
  refine lv_lload_n C.1 C.2.1 dMo_isIn_1 rfl (lv_at hl 1 rfl) ?_
  refine zlcmp_lt (tgt := 17) C (by omega) (by omega) dMo_isIn_2 dMo_isIn_3 (by decide) (fun c2 => ?_) (fun c2 => ?_)
  · refine lv_iconst (v := zI 0) C.1 C.2.1 dMo_isIn_17 (by decide) ?_
    exact hQ (zI 0) _ H locs _ _ _ ls hW (by decide) ⟨congrArg zI (by unfold inR; exact bzd (fun h => by omega) (fun h => by omega)), rfl⟩ (by omega) (by omega) dMo_isIn_18
  · refine lv_lload_n C.1 C.2.1 dMo_isIn_6 rfl (lv_at hl 0 rfl) ?_
    refine lv_lload C.1 C.2.1 dMo_isIn_7 (lv_at hl 2 rfl) ?_
    refine zlcmp_gt (tgt := 17) C (by omega) (by omega) dMo_isIn_9 dMo_isIn_10 (by decide) (fun c9 => ?_) (fun c9 => ?_)
    · refine lv_iconst (v := zI 0) C.1 C.2.1 dMo_isIn_17 (by decide) ?_
      exact hQ (zI 0) _ H locs _ _ _ ls hW (by decide) ⟨congrArg zI (by unfold inR; exact bzd (fun h => by omega) (fun h => by omega)), rfl⟩ (by omega) (by omega) dMo_isIn_18
    · refine lv_iconst (v := zI 1) C.1 C.2.1 dMo_isIn_13 (by decide) ?_
      refine lv_goto (tgt := 18) C.1 C.2.1 dMo_isIn_14 (by decide) ?_
      exact hQ (zI 1) _ H locs _ _ _ ls hW (by decide) ⟨congrArg zI (by unfold inR; exact bzd (fun h => by omega) (fun h => by omega)), rfl⟩ (by omega) (by omega) dMo_isIn_18
set_option maxHeartbeats 4000000 in
set_option maxRecDepth 100000 in
theorem m_thrown (l : Launch) (D : va_G) (cI cG cL cB : ClassId) (m0 : Nat) (cd : Int) (wi : Int) (hi : Int) (bn : Int) (af : Nat) (at_ : Nat) (dr : Int) (sz : Int) (au : Nat) (ap : Nat) (ab : Nat) (ae : Nat) (ah : Nat) (kp : Int) (ks : Int) (ku : Nat) (kq : Nat) (kb : Nat) (ke : Nat) (kh : Nat) (als : Int) (gf : Nat) (gt : Nat) (ses : Int) (sf : Nat) (st : Nat) (les : Int) (ef : Nat) (et : Nat) (mes : Int) (xa : Nat) (xf : Nat) (xt : Nat) (xr : Nat) (lb : Nat) (lbs : Int) (so : Nat)  : Ci l yMo_thrown cMo_thrown 1 (some .int) 0 0 0 D zCl (zT cI cG cL cB) [.ref m0] [(m0, .inr (10, [.int (zI cd), .long (zL wi), .long (zL hi), .int (zI bn), .ref af, .ref at_, .int (zI dr), .int (zI sz), .ref au, .ref ap, .ref ab, .ref ae, .ref ah, .int (zI kp), .int (zI ks), .ref ku, .ref kq, .ref kb, .ref ke, .ref kh, .int (zI als), .ref gf, .ref gt, .int (zI ses), .ref sf, .ref st, .int (zI les), .ref ef, .ref et, .int (zI mes), .ref xa, .ref xf, .ref xt, .ref xr, .ref lb, .int (zI lbs), .ref so]))] (fun x w => x = zI cd ∧ w = [(m0, .inr (10, [.int (zI cd), .long (zL wi), .long (zL hi), .int (zI bn), .ref af, .ref at_, .int (zI dr), .int (zI sz), .ref au, .ref ap, .ref ab, .ref ae, .ref ah, .int (zI kp), .int (zI ks), .ref ku, .ref kq, .ref kb, .ref ke, .ref kh, .int (zI als), .ref gf, .ref gt, .int (zI ses), .ref sf, .ref st, .int (zI les), .ref ef, .ref et, .int (zI mes), .ref xa, .ref xf, .ref xt, .ref xr, .ref lb, .int (zI lbs), .ref so]))]) := by
  refine zBi (by decide) (Nat.le_of_ble_eq_true rfl) ?_
  intro p e s m args below meth c ls A H locs Q C hin hl hW hQ
  have hl : lv_has ls 1 [(0, .ref m0)] := hl
  refine lv_aload_n C.1 C.2.1 dMo_thrown_0 rfl (lv_at hl 0 rfl) ?_
  refine zget C hW 0 0 rfl rfl inMo (by decide) flMo_93 rfl dMo_thrown_1 ?_
  exact hQ (zI cd) _ H locs _ _ _ ls hW ⟨rfl, rfl⟩ (by omega) (by omega) dMo_thrown_4
set_option maxHeartbeats 4000000 in
set_option maxRecDepth 100000 in
theorem m_axisOf (l : Launch) (D : va_G) (cI cG cL cB : ClassId) (vw : Int) (hIvw : I32 vw) : Ci l yMo_axisOf cMo_axisOf 1 (some .int) 0 0 0 D zCl (zT cI cG cL cB) [.int (zI vw)] [] (fun x w => x = zI (dax vw) ∧ w = []) := by
  refine zBi (by decide) (Nat.le_of_ble_eq_true rfl) ?_
  intro p e s m args below meth c ls A H locs Q C hin hl hW hQ
  have hl : lv_has ls 1 [(0, .int (zI vw))] := hl
  refine lv_iload_n C.1 C.2.1 dMo_axisOf_0 rfl (lv_at hl 0 rfl) ?_
  refine lv_iconst (v := zI 2) C.1 C.2.1 dMo_axisOf_1 (by decide) ?_
  refine zicmp_ge (tgt := 9) C (by omega) (by omega) dMo_axisOf_2 (by decide) (fun c2 => ?_) (fun c2 => ?_)
  · refine lv_iload_n C.1 C.2.1 dMo_axisOf_9 rfl (lv_at hl 0 rfl) ?_
    refine lv_iconst (v := zI 4) C.1 C.2.1 dMo_axisOf_10 (by decide) ?_
    refine zicmp_ge (tgt := 18) C (by omega) (by omega) dMo_axisOf_11 (by decide) (fun c11 => ?_) (fun c11 => ?_)
    · refine lv_iconst (v := zI 1) C.1 C.2.1 dMo_axisOf_18 (by decide) ?_
      exact hQ (zI 1) _ H locs _ _ _ ls hW ⟨congrArg zI (by unfold dax; first | (rw [if_pos (by omega)]; done) | (rw [if_neg (by omega), if_pos (by omega)]; done) | rw [if_neg (by omega), if_neg (by omega)]), rfl⟩ (by omega) (by omega) dMo_axisOf_19
    · refine lv_iconst (v := zI 0) C.1 C.2.1 dMo_axisOf_14 (by decide) ?_
      refine lv_goto (tgt := 19) C.1 C.2.1 dMo_axisOf_15 (by decide) ?_
      exact hQ (zI 0) _ H locs _ _ _ ls hW ⟨congrArg zI (by unfold dax; first | (rw [if_pos (by omega)]; done) | (rw [if_neg (by omega), if_pos (by omega)]; done) | rw [if_neg (by omega), if_neg (by omega)]), rfl⟩ (by omega) (by omega) dMo_axisOf_19
  · refine lv_iconst (v := zI 2) C.1 C.2.1 dMo_axisOf_5 (by decide) ?_
    refine lv_goto (tgt := 19) C.1 C.2.1 dMo_axisOf_6 (by decide) ?_
    exact hQ (zI 2) _ H locs _ _ _ ls hW ⟨congrArg zI (by unfold dax; first | (rw [if_pos (by omega)]; done) | (rw [if_neg (by omega), if_pos (by omega)]; done) | rw [if_neg (by omega), if_neg (by omega)]), rfl⟩ (by omega) (by omega) dMo_axisOf_19
set_option maxHeartbeats 4000000 in
set_option maxRecDepth 100000 in
theorem m_acrossOf (l : Launch) (D : va_G) (cI cG cL cB : ClassId) (vw : Int) (hIvw : I32 vw) : Ci l yMo_acrossOf cMo_acrossOf 1 (some .int) 0 0 0 D zCl (zT cI cG cL cB) [.int (zI vw)] [] (fun x w => x = zI (acx (dax vw)) ∧ w = []) := by
  refine zBi (by decide) (Nat.le_of_ble_eq_true rfl) ?_
  intro p e s m args below meth c ls A H locs Q C hin hl hW hQ
  have hl : lv_has ls 1 [(0, .int (zI vw))] := hl
  refine lv_iload_n C.1 C.2.1 dMo_acrossOf_0 rfl (lv_at hl 0 rfl) ?_
  refine lv_iconst (v := zI 2) C.1 C.2.1 dMo_acrossOf_1 (by decide) ?_
  refine zicmp_lt (tgt := 14) C (by omega) (by omega) dMo_acrossOf_2 (by decide) (fun c2 => ?_) (fun c2 => ?_)
  · refine lv_iconst (v := zI 0) C.1 C.2.1 dMo_acrossOf_14 (by decide) ?_
    exact hQ (zI 0) _ H locs _ _ _ ls hW ⟨congrArg zI (by rw [acx_dax]; first | rw [if_pos (by omega)] | rw [if_neg (by omega)]), rfl⟩ (by omega) (by omega) dMo_acrossOf_15
  · refine lv_iload_n C.1 C.2.1 dMo_acrossOf_5 rfl (lv_at hl 0 rfl) ?_
    refine lv_iconst (v := zI 4) C.1 C.2.1 dMo_acrossOf_6 (by decide) ?_
    refine zicmp_ge (tgt := 14) C (by omega) (by omega) dMo_acrossOf_7 (by decide) (fun c7 => ?_) (fun c7 => ?_)
    · refine lv_iconst (v := zI 0) C.1 C.2.1 dMo_acrossOf_14 (by decide) ?_
      exact hQ (zI 0) _ H locs _ _ _ ls hW ⟨congrArg zI (by rw [acx_dax]; first | rw [if_pos (by omega)] | rw [if_neg (by omega)]), rfl⟩ (by omega) (by omega) dMo_acrossOf_15
    · refine lv_iconst (v := zI 1) C.1 C.2.1 dMo_acrossOf_10 (by decide) ?_
      refine lv_goto (tgt := 15) C.1 C.2.1 dMo_acrossOf_11 (by decide) ?_
      exact hQ (zI 1) _ H locs _ _ _ ls hW ⟨congrArg zI (by rw [acx_dax]; first | rw [if_pos (by omega)] | rw [if_neg (by omega)]), rfl⟩ (by omega) (by omega) dMo_acrossOf_15
set_option maxHeartbeats 4000000 in
set_option maxRecDepth 100000 in
theorem m_upOf (l : Launch) (D : va_G) (cI cG cL cB : ClassId) (vw : Int) (hIvw : I32 vw) : Ci l yMo_upOf cMo_upOf 1 (some .int) 0 0 0 D zCl (zT cI cG cL cB) [.int (zI vw)] [] (fun x w => x = zI (upx (dax vw)) ∧ w = []) := by
  refine zBi (by decide) (Nat.le_of_ble_eq_true rfl) ?_
  intro p e s m args below meth c ls A H locs Q C hin hl hW hQ
  have hl : lv_has ls 1 [(0, .int (zI vw))] := hl
  refine lv_iload_n C.1 C.2.1 dMo_upOf_0 rfl (lv_at hl 0 rfl) ?_
  refine lv_iconst (v := zI 2) C.1 C.2.1 dMo_upOf_1 (by decide) ?_
  refine zicmp_ge (tgt := 9) C (by omega) (by omega) dMo_upOf_2 (by decide) (fun c2 => ?_) (fun c2 => ?_)
  · refine lv_iconst (v := zI 2) C.1 C.2.1 dMo_upOf_9 (by decide) ?_
    exact hQ (zI 2) _ H locs _ _ _ ls hW ⟨congrArg zI (by rw [upx_dax]; first | rw [if_pos (by omega)] | rw [if_neg (by omega)]), rfl⟩ (by omega) (by omega) dMo_upOf_10
  · refine lv_iconst (v := zI 1) C.1 C.2.1 dMo_upOf_5 (by decide) ?_
    refine lv_goto (tgt := 10) C.1 C.2.1 dMo_upOf_6 (by decide) ?_
    exact hQ (zI 1) _ H locs _ _ _ ls hW ⟨congrArg zI (by rw [upx_dax]; first | rw [if_pos (by omega)] | rw [if_neg (by omega)]), rfl⟩ (by omega) (by omega) dMo_upOf_10
set_option maxHeartbeats 4000000 in
set_option maxRecDepth 100000 in
theorem m_noBox (l : Launch) (D : va_G) (cI cG cL cB : ClassId) (m0 : Nat) (cd : Int) (wi : Int) (hi : Int) (bn : Int) (af : Nat) (at_ : Nat) (dr : Int) (sz : Int) (au : Nat) (ap : Nat) (ab : Nat) (ae : Nat) (ah : Nat) (kp : Int) (ks : Int) (ku : Nat) (kq : Nat) (kb : Nat) (ke : Nat) (kh : Nat) (als : Int) (gf : Nat) (gt : Nat) (ses : Int) (sf : Nat) (st : Nat) (les : Int) (ef : Nat) (et : Nat) (mes : Int) (xa : Nat) (xf : Nat) (xt : Nat) (xr : Nat) (lb : Nat) (lbs : Int) (so : Nat) (b : Int) (hIb : I32 b) (hIbn : I32 bn) : Ci l yMo_noBox cMo_noBox 2 (some .boolean) 0 0 0 D zCl (zT cI cG cL cB) [.ref m0, .int (zI b)] [(m0, .inr (10, [.int (zI cd), .long (zL wi), .long (zL hi), .int (zI bn), .ref af, .ref at_, .int (zI dr), .int (zI sz), .ref au, .ref ap, .ref ab, .ref ae, .ref ah, .int (zI kp), .int (zI ks), .ref ku, .ref kq, .ref kb, .ref ke, .ref kh, .int (zI als), .ref gf, .ref gt, .int (zI ses), .ref sf, .ref st, .int (zI les), .ref ef, .ref et, .int (zI mes), .ref xa, .ref xf, .ref xt, .ref xr, .ref lb, .int (zI lbs), .ref so]))] (fun x w => x = zI (noB bn b) ∧ w = [(m0, .inr (10, [.int (zI (noB bn b)), .long (zL wi), .long (zL hi), .int (zI bn), .ref af, .ref at_, .int (zI dr), .int (zI sz), .ref au, .ref ap, .ref ab, .ref ae, .ref ah, .int (zI kp), .int (zI ks), .ref ku, .ref kq, .ref kb, .ref ke, .ref kh, .int (zI als), .ref gf, .ref gt, .int (zI ses), .ref sf, .ref st, .int (zI les), .ref ef, .ref et, .int (zI mes), .ref xa, .ref xf, .ref xt, .ref xr, .ref lb, .int (zI lbs), .ref so]))]) := by
  refine zBz (by decide) (Nat.le_of_ble_eq_true rfl) ?_
  intro p e s m args below meth c ls A H locs Q C hin hl hW hQ
  have hl : lv_has ls 2 [(0, .ref m0), (1, .int (zI b))] := hl
  refine lv_aload_n C.1 C.2.1 dMo_noBox_0 rfl (lv_at hl 0 rfl) ?_
  refine lv_iload_n C.1 C.2.1 dMo_noBox_1 rfl (lv_at hl 1 rfl) ?_
  refine zif_lt (tgt := 13) C (by omega) dMo_noBox_2 (by decide) (fun c2 => ?_) (fun c2 => ?_)
  · refine lv_iconst (v := zI 1) C.1 C.2.1 dMo_noBox_13 (by decide) ?_
    refine lv_goto (tgt := 18) C.1 C.2.1 dMo_noBox_14 (by decide) ?_
    refine zput C hW 0 0 tyMo tyMo_ok nmMo rfl rfl inMo (by decide) flMo_93 rfl rfl rfl rfl (Nat.le_of_ble_eq_true rfl) dMo_noBox_18 (fun H locs hW => ?_)
    have hW : zw D zCl A s [(m0, .inr (10, [.int (zI 1), .long (zL wi), .long (zL hi), .int (zI bn), .ref af, .ref at_, .int (zI dr), .int (zI sz), .ref au, .ref ap, .ref ab, .ref ae, .ref ah, .int (zI kp), .int (zI ks), .ref ku, .ref kq, .ref kb, .ref ke, .ref kh, .int (zI als), .ref gf, .ref gt, .int (zI ses), .ref sf, .ref st, .int (zI les), .ref ef, .ref et, .int (zI mes), .ref xa, .ref xf, .ref xt, .ref xr, .ref lb, .int (zI lbs), .ref so]))] H locs := hW
    refine lv_aload_n C.1 C.2.1 dMo_noBox_21 rfl (lv_at hl 0 rfl) ?_
    refine zget C hW 0 0 rfl rfl inMo (by decide) flMo_93 rfl dMo_noBox_22 ?_
    refine zif_le (tgt := 32) C (by omega) dMo_noBox_25 (by decide) (fun c25 => ?_) (fun c25 => ?_)
    · exact absurd c25 (by decide)
    · refine lv_iconst (v := zI 1) C.1 C.2.1 dMo_noBox_28 (by decide) ?_
      refine lv_goto (tgt := 33) C.1 C.2.1 dMo_noBox_29 (by decide) ?_
      exact hQ (zI 1) _ H locs _ _ _ ls hW (by decide) (by have e : noB bn b = 0 ∨ noB bn b = 1 := (by unfold noB; split <;> omega); unfold noB; first | (rw [if_pos (by omega)]; exact ⟨rfl, rfl⟩) | (rw [if_neg (by omega)]; exact ⟨rfl, rfl⟩)) (by omega) (by omega) dMo_noBox_33
  · refine lv_iload_n C.1 C.2.1 dMo_noBox_5 rfl (lv_at hl 1 rfl) ?_
    refine lv_aload_n C.1 C.2.1 dMo_noBox_6 rfl (lv_at hl 0 rfl) ?_
    refine zget C hW 0 3 rfl rfl inMo (by decide) flMo_105 rfl dMo_noBox_7 ?_
    refine zicmp_lt (tgt := 17) C (by omega) (by omega) dMo_noBox_10 (by decide) (fun c10 => ?_) (fun c10 => ?_)
    · refine lv_iconst (v := zI 0) C.1 C.2.1 dMo_noBox_17 (by decide) ?_
      refine zput C hW 0 0 tyMo tyMo_ok nmMo rfl rfl inMo (by decide) flMo_93 rfl rfl rfl rfl (Nat.le_of_ble_eq_true rfl) dMo_noBox_18 (fun H locs hW => ?_)
      have hW : zw D zCl A s [(m0, .inr (10, [.int (zI 0), .long (zL wi), .long (zL hi), .int (zI bn), .ref af, .ref at_, .int (zI dr), .int (zI sz), .ref au, .ref ap, .ref ab, .ref ae, .ref ah, .int (zI kp), .int (zI ks), .ref ku, .ref kq, .ref kb, .ref ke, .ref kh, .int (zI als), .ref gf, .ref gt, .int (zI ses), .ref sf, .ref st, .int (zI les), .ref ef, .ref et, .int (zI mes), .ref xa, .ref xf, .ref xt, .ref xr, .ref lb, .int (zI lbs), .ref so]))] H locs := hW
      refine lv_aload_n C.1 C.2.1 dMo_noBox_21 rfl (lv_at hl 0 rfl) ?_
      refine zget C hW 0 0 rfl rfl inMo (by decide) flMo_93 rfl dMo_noBox_22 ?_
      refine zif_le (tgt := 32) C (by omega) dMo_noBox_25 (by decide) (fun c25 => ?_) (fun c25 => ?_)
      · refine lv_iconst (v := zI 0) C.1 C.2.1 dMo_noBox_32 (by decide) ?_
        exact hQ (zI 0) _ H locs _ _ _ ls hW (by decide) (by have e : noB bn b = 0 ∨ noB bn b = 1 := (by unfold noB; split <;> omega); unfold noB; first | (rw [if_pos (by omega)]; exact ⟨rfl, rfl⟩) | (rw [if_neg (by omega)]; exact ⟨rfl, rfl⟩)) (by omega) (by omega) dMo_noBox_33
      · exact absurd c25 (by decide)
    · refine lv_iconst (v := zI 1) C.1 C.2.1 dMo_noBox_13 (by decide) ?_
      refine lv_goto (tgt := 18) C.1 C.2.1 dMo_noBox_14 (by decide) ?_
      refine zput C hW 0 0 tyMo tyMo_ok nmMo rfl rfl inMo (by decide) flMo_93 rfl rfl rfl rfl (Nat.le_of_ble_eq_true rfl) dMo_noBox_18 (fun H locs hW => ?_)
      have hW : zw D zCl A s [(m0, .inr (10, [.int (zI 1), .long (zL wi), .long (zL hi), .int (zI bn), .ref af, .ref at_, .int (zI dr), .int (zI sz), .ref au, .ref ap, .ref ab, .ref ae, .ref ah, .int (zI kp), .int (zI ks), .ref ku, .ref kq, .ref kb, .ref ke, .ref kh, .int (zI als), .ref gf, .ref gt, .int (zI ses), .ref sf, .ref st, .int (zI les), .ref ef, .ref et, .int (zI mes), .ref xa, .ref xf, .ref xt, .ref xr, .ref lb, .int (zI lbs), .ref so]))] H locs := hW
      refine lv_aload_n C.1 C.2.1 dMo_noBox_21 rfl (lv_at hl 0 rfl) ?_
      refine zget C hW 0 0 rfl rfl inMo (by decide) flMo_93 rfl dMo_noBox_22 ?_
      refine zif_le (tgt := 32) C (by omega) dMo_noBox_25 (by decide) (fun c25 => ?_) (fun c25 => ?_)
      · exact absurd c25 (by decide)
      · refine lv_iconst (v := zI 1) C.1 C.2.1 dMo_noBox_28 (by decide) ?_
        refine lv_goto (tgt := 33) C.1 C.2.1 dMo_noBox_29 (by decide) ?_
        exact hQ (zI 1) _ H locs _ _ _ ls hW (by decide) (by have e : noB bn b = 0 ∨ noB bn b = 1 := (by unfold noB; split <;> omega); unfold noB; first | (rw [if_pos (by omega)]; exact ⟨rfl, rfl⟩) | (rw [if_neg (by omega)]; exact ⟨rfl, rfl⟩)) (by omega) (by omega) dMo_noBox_33
set_option maxHeartbeats 4000000 in
set_option maxRecDepth 100000 in
theorem m_none (l : Launch) (D : va_G) (cI cG cL cB : ClassId) (m0 : Nat) (cd : Int) (wi : Int) (hi : Int) (bn : Int) (af : Nat) (at_ : Nat) (dr : Int) (sz : Int) (au : Nat) (ap : Nat) (ab : Nat) (ae : Nat) (ah : Nat) (kp : Int) (ks : Int) (ku : Nat) (kq : Nat) (kb : Nat) (ke : Nat) (kh : Nat) (als : Int) (gf : Nat) (gt : Nat) (ses : Int) (sf : Nat) (st : Nat) (les : Int) (ef : Nat) (et : Nat) (mes : Int) (xa : Nat) (xf : Nat) (xt : Nat) (xr : Nat) (lb : Nat) (lbs : Int) (so : Nat) (hdr : dr = 0 ∨ dr = 1) : Ci l yMo_none cMo_none 1 (some .boolean) 0 0 0 D zCl (zT cI cG cL cB) [.ref m0] [(m0, .inr (10, [.int (zI cd), .long (zL wi), .long (zL hi), .int (zI bn), .ref af, .ref at_, .int (zI dr), .int (zI sz), .ref au, .ref ap, .ref ab, .ref ae, .ref ah, .int (zI kp), .int (zI ks), .ref ku, .ref kq, .ref kb, .ref ke, .ref kh, .int (zI als), .ref gf, .ref gt, .int (zI ses), .ref sf, .ref st, .int (zI les), .ref ef, .ref et, .int (zI mes), .ref xa, .ref xf, .ref xt, .ref xr, .ref lb, .int (zI lbs), .ref so]))] (fun x w => x = zI (1 - dr) ∧ w = [(m0, .inr (10, [.int (zI (1 - dr)), .long (zL wi), .long (zL hi), .int (zI bn), .ref af, .ref at_, .int (zI dr), .int (zI sz), .ref au, .ref ap, .ref ab, .ref ae, .ref ah, .int (zI kp), .int (zI ks), .ref ku, .ref kq, .ref kb, .ref ke, .ref kh, .int (zI als), .ref gf, .ref gt, .int (zI ses), .ref sf, .ref st, .int (zI les), .ref ef, .ref et, .int (zI mes), .ref xa, .ref xf, .ref xt, .ref xr, .ref lb, .int (zI lbs), .ref so]))]) := by
  refine zBz (by decide) (Nat.le_of_ble_eq_true rfl) ?_
  intro p e s m args below meth c ls A H locs Q C hin hl hW hQ
  have hl : lv_has ls 1 [(0, .ref m0)] := hl
  refine lv_aload_n C.1 C.2.1 dMo_none_0 rfl (lv_at hl 0 rfl) ?_
  refine lv_aload_n C.1 C.2.1 dMo_none_1 rfl (lv_at hl 0 rfl) ?_
  refine zget C hW 0 6 rfl rfl inMo (by decide) flMo_108 rfl dMo_none_2 ?_
  refine zif_eq (tgt := 12) C (by omega) dMo_none_5 (by decide) (fun c5 => ?_) (fun c5 => ?_)
  · refine lv_iconst (v := zI 1) C.1 C.2.1 dMo_none_12 (by decide) ?_
    refine zput C hW 0 0 tyMo tyMo_ok nmMo rfl rfl inMo (by decide) flMo_93 rfl rfl rfl rfl (Nat.le_of_ble_eq_true rfl) dMo_none_13 (fun H locs hW => ?_)
    have hW : zw D zCl A s [(m0, .inr (10, [.int (zI 1), .long (zL wi), .long (zL hi), .int (zI bn), .ref af, .ref at_, .int (zI dr), .int (zI sz), .ref au, .ref ap, .ref ab, .ref ae, .ref ah, .int (zI kp), .int (zI ks), .ref ku, .ref kq, .ref kb, .ref ke, .ref kh, .int (zI als), .ref gf, .ref gt, .int (zI ses), .ref sf, .ref st, .int (zI les), .ref ef, .ref et, .int (zI mes), .ref xa, .ref xf, .ref xt, .ref xr, .ref lb, .int (zI lbs), .ref so]))] H locs := hW
    refine lv_aload_n C.1 C.2.1 dMo_none_16 rfl (lv_at hl 0 rfl) ?_
    refine zget C hW 0 0 rfl rfl inMo (by decide) flMo_93 rfl dMo_none_17 ?_
    refine zif_le (tgt := 27) C (by omega) dMo_none_20 (by decide) (fun c20 => ?_) (fun c20 => ?_)
    · exact absurd c20 (by decide)
    · refine lv_iconst (v := zI 1) C.1 C.2.1 dMo_none_23 (by decide) ?_
      refine lv_goto (tgt := 28) C.1 C.2.1 dMo_none_24 (by decide) ?_
      exact hQ (zI 1) _ H locs _ _ _ ls hW (by decide) (by first | (have e : dr = 0 := (by omega)); subst e; exact ⟨rfl, rfl⟩ | (have e : dr = 1 := (by omega)); subst e; exact ⟨rfl, rfl⟩) (by omega) (by omega) dMo_none_28
  · refine lv_iconst (v := zI 0) C.1 C.2.1 dMo_none_8 (by decide) ?_
    refine lv_goto (tgt := 13) C.1 C.2.1 dMo_none_9 (by decide) ?_
    refine zput C hW 0 0 tyMo tyMo_ok nmMo rfl rfl inMo (by decide) flMo_93 rfl rfl rfl rfl (Nat.le_of_ble_eq_true rfl) dMo_none_13 (fun H locs hW => ?_)
    have hW : zw D zCl A s [(m0, .inr (10, [.int (zI 0), .long (zL wi), .long (zL hi), .int (zI bn), .ref af, .ref at_, .int (zI dr), .int (zI sz), .ref au, .ref ap, .ref ab, .ref ae, .ref ah, .int (zI kp), .int (zI ks), .ref ku, .ref kq, .ref kb, .ref ke, .ref kh, .int (zI als), .ref gf, .ref gt, .int (zI ses), .ref sf, .ref st, .int (zI les), .ref ef, .ref et, .int (zI mes), .ref xa, .ref xf, .ref xt, .ref xr, .ref lb, .int (zI lbs), .ref so]))] H locs := hW
    refine lv_aload_n C.1 C.2.1 dMo_none_16 rfl (lv_at hl 0 rfl) ?_
    refine zget C hW 0 0 rfl rfl inMo (by decide) flMo_93 rfl dMo_none_17 ?_
    refine zif_le (tgt := 27) C (by omega) dMo_none_20 (by decide) (fun c20 => ?_) (fun c20 => ?_)
    · refine lv_iconst (v := zI 0) C.1 C.2.1 dMo_none_27 (by decide) ?_
      exact hQ (zI 0) _ H locs _ _ _ ls hW (by decide) (by first | (have e : dr = 0 := (by omega)); subst e; exact ⟨rfl, rfl⟩ | (have e : dr = 1 := (by omega)); subst e; exact ⟨rfl, rfl⟩) (by omega) (by omega) dMo_none_28
    · exact absurd c20 (by decide)
set_option maxHeartbeats 4000000 in
set_option maxRecDepth 100000 in
theorem m_mayGo (l : Launch) (D : va_G) (cI cG cL cB : ClassId) (m0 : Nat) (cd : Int) (wi : Int) (hi : Int) (bn : Int) (af : Nat) (at_ : Nat) (dr : Int) (sz : Int) (au : Nat) (ap : Nat) (ab : Nat) (ae : Nat) (ah : Nat) (kp : Int) (ks : Int) (ku : Nat) (kq : Nat) (kb : Nat) (ke : Nat) (kh : Nat) (als : Int) (gf : Nat) (gt : Nat) (ses : Int) (sf : Nat) (st : Nat) (les : Int) (ef : Nat) (et : Nat) (mes : Int) (xa : Nat) (xf : Nat) (xt : Nat) (xr : Nat) (lb : Nat) (lbs : Int) (so : Nat) (From : Int → Int) (k : Int) (wa : Int) (bFrom : ∀ j : Int, I64 (From j)) (hk0 : 0 ≤ k) (hk1 : k < 72) (hF : -1000000 ≤ From k ∧ From k ≤ 1000000) (hJwa : I64 wa) : Ci l yMo_mayGo cMo_mayGo 4 (some .boolean) 1 0 0 D zCl (zT cI cG cL cB) [.ref m0, .int (zI k), .long (zL wa)] [(m0, .inr (10, [.int (zI cd), .long (zL wi), .long (zL hi), .int (zI bn), .ref af, .ref at_, .int (zI dr), .int (zI sz), .ref au, .ref ap, .ref ab, .ref ae, .ref ah, .int (zI kp), .int (zI ks), .ref ku, .ref kq, .ref kb, .ref ke, .ref kh, .int (zI als), .ref gf, .ref gt, .int (zI ses), .ref sf, .ref st, .int (zI les), .ref ef, .ref et, .int (zI mes), .ref xa, .ref xf, .ref xt, .ref xr, .ref lb, .int (zI lbs), .ref so])), (af, .inl (cL, 72, .inr (.inl (fL From))))] (fun x w => x = zI (bz (mGo From k wa)) ∧ w = [(m0, .inr (10, [.int (zI cd), .long (zL wi), .long (zL hi), .int (zI bn), .ref af, .ref at_, .int (zI dr), .int (zI sz), .ref au, .ref ap, .ref ab, .ref ae, .ref ah, .int (zI kp), .int (zI ks), .ref ku, .ref kq, .ref kb, .ref ke, .ref kh, .int (zI als), .ref gf, .ref gt, .int (zI ses), .ref sf, .ref st, .int (zI les), .ref ef, .ref et, .int (zI mes), .ref xa, .ref xf, .ref xt, .ref xr, .ref lb, .int (zI lbs), .ref so])), (af, .inl (cL, 72, .inr (.inl (fL From))))]) := by
  refine zBz (by decide) (Nat.le_of_ble_eq_true rfl) ?_
  intro p e s m args below meth c ls A H locs Q C hin hl hW hQ
  have hl : lv_has ls 4 [(0, .ref m0), (1, .int (zI k)), (2, .long (zL wa))] := hl
  refine lv_lload_n C.1 C.2.1 dMo_mayGo_0 rfl (lv_at hl 2 rfl) ?_
  refine zldc2 C kcMo_116 dMo_mayGo_1 ?_
  refine zldc2 C kcMo_118 dMo_mayGo_4 ?_
  refine zcalli (wr := [(m0, .inr (10, [.int (zI cd), .long (zL wi), .long (zL hi), .int (zI bn), .ref af, .ref at_, .int (zI dr), .int (zI sz), .ref au, .ref ap, .ref ab, .ref ae, .ref ah, .int (zI kp), .int (zI ks), .ref ku, .ref kq, .ref kb, .ref ke, .ref kh, .int (zI als), .ref gf, .ref gt, .int (zI ses), .ref sf, .ref st, .int (zI les), .ref ef, .ref et, .int (zI mes), .ref xa, .ref xf, .ref xt, .ref xr, .ref lb, .int (zI lbs), .ref so])), (af, .inl (cL, 72, .inr (.inl (fL From))))]) C hW [] [0, 1] rfl rfl (by decide) (by decide) (zRunS (k := 3) (As := [.long (zL wa), .long (zL (-2000000)), .long (zL 2000000)]) (rest := []) C hW (m_isIn l D cI cG cL cB wa (-2000000) 2000000 (by omega) (by omega) (by omega) H.size) [] rfl (by decide) kMo_101 (by decide +kernel) ⟨by decide, by decide⟩ rfl hl.1 (Nat.le_of_ble_eq_true rfl) dMo_mayGo_7 ⟨by first | decide | omega, by first | decide | omega⟩) (fun x w H locs hq hW => ?_)
  obtain ⟨rfl, rfl⟩ := hq
  have hW : zw D zCl A s [(m0, .inr (10, [.int (zI cd), .long (zL wi), .long (zL hi), .int (zI bn), .ref af, .ref at_, .int (zI dr), .int (zI sz), .ref au, .ref ap, .ref ab, .ref ae, .ref ah, .int (zI kp), .int (zI ks), .ref ku, .ref kq, .ref kb, .ref ke, .ref kh, .int (zI als), .ref gf, .ref gt, .int (zI ses), .ref sf, .ref st, .int (zI les), .ref ef, .ref et, .int (zI mes), .ref xa, .ref xf, .ref xt, .ref xr, .ref lb, .int (zI lbs), .ref so])), (af, .inl (cL, 72, .inr (.inl (fL From))))] H locs := hW
  have hr1 := bz_01 (inR wa (-2000000) 2000000)
  refine zif_eq (tgt := 37) C (by omega) dMo_mayGo_10 (by decide) (fun c10 => ?_) (fun c10 => ?_)
  · refine lv_iconst (v := zI 0) C.1 C.2.1 dMo_mayGo_37 (by decide) ?_
    exact hQ (zI 0) _ H locs _ _ _ ls hW (by decide) ⟨congrArg zI (by unfold mGo; first | exact bzA_t (by omega) (by omega) | exact bzA_1 (by omega) | exact bzA_2 (by omega)), rfl⟩ (by omega) (by omega) dMo_mayGo_38
  · have hwr := of_decide_eq_true ((bz_eq1 _).mpr c10)
    refine lv_aload_n C.1 C.2.1 dMo_mayGo_13 rfl (lv_at hl 0 rfl) ?_
    refine zget C hW 0 4 rfl rfl inMo (by decide) flMo_7 rfl dMo_mayGo_14 ?_
    refine lv_iload_n C.1 C.2.1 dMo_mayGo_17 rfl (lv_at hl 1 rfl) ?_
    refine zlald C hW 1 2 rfl rfl (by omega) (by omega) (by decide) dMo_mayGo_18 ?_
    have hb2 := bFrom k
    refine lv_lload_n C.1 C.2.1 dMo_mayGo_19 rfl (lv_at hl 2 rfl) ?_
    refine zladd C dMo_mayGo_20 ?_
    refine zldc2 C kcMo_97 dMo_mayGo_21 ?_
    refine zldc2 C kcMo_99 dMo_mayGo_24 ?_
    refine zcalli (wr := [(m0, .inr (10, [.int (zI cd), .long (zL wi), .long (zL hi), .int (zI bn), .ref af, .ref at_, .int (zI dr), .int (zI sz), .ref au, .ref ap, .ref ab, .ref ae, .ref ah, .int (zI kp), .int (zI ks), .ref ku, .ref kq, .ref kb, .ref ke, .ref kh, .int (zI als), .ref gf, .ref gt, .int (zI ses), .ref sf, .ref st, .int (zI les), .ref ef, .ref et, .int (zI mes), .ref xa, .ref xf, .ref xt, .ref xr, .ref lb, .int (zI lbs), .ref so])), (af, .inl (cL, 72, .inr (.inl (fL From))))]) C hW [] [0, 1] rfl rfl (by decide) (by decide) (zRunS (k := 3) (As := [.long (zL ((From k) + wa)), .long (zL (-1000000)), .long (zL 1000000)]) (rest := []) C hW (m_isIn l D cI cG cL cB ((From k) + wa) (-1000000) 1000000 (by omega) (by omega) (by omega) H.size) [] rfl (by decide) kMo_101 (by decide +kernel) ⟨by decide, by decide⟩ rfl hl.1 (Nat.le_of_ble_eq_true rfl) dMo_mayGo_27 ⟨by first | decide | omega, by first | decide | omega⟩) (fun x w H locs hq hW => ?_)
    obtain ⟨rfl, rfl⟩ := hq
    have hW : zw D zCl A s [(m0, .inr (10, [.int (zI cd), .long (zL wi), .long (zL hi), .int (zI bn), .ref af, .ref at_, .int (zI dr), .int (zI sz), .ref au, .ref ap, .ref ab, .ref ae, .ref ah, .int (zI kp), .int (zI ks), .ref ku, .ref kq, .ref kb, .ref ke, .ref kh, .int (zI als), .ref gf, .ref gt, .int (zI ses), .ref sf, .ref st, .int (zI les), .ref ef, .ref et, .int (zI mes), .ref xa, .ref xf, .ref xt, .ref xr, .ref lb, .int (zI lbs), .ref so])), (af, .inl (cL, 72, .inr (.inl (fL From))))] H locs := hW
    have hr3 := bz_01 (inR ((From k) + wa) (-1000000) 1000000)
    refine zif_eq (tgt := 37) C (by omega) dMo_mayGo_30 (by decide) (fun c30 => ?_) (fun c30 => ?_)
    · refine lv_iconst (v := zI 0) C.1 C.2.1 dMo_mayGo_37 (by decide) ?_
      exact hQ (zI 0) _ H locs _ _ _ ls hW (by decide) ⟨congrArg zI (by unfold mGo; first | exact bzA_t (by omega) (by omega) | exact bzA_1 (by omega) | exact bzA_2 (by omega)), rfl⟩ (by omega) (by omega) dMo_mayGo_38
    · refine lv_iconst (v := zI 1) C.1 C.2.1 dMo_mayGo_33 (by decide) ?_
      refine lv_goto (tgt := 38) C.1 C.2.1 dMo_mayGo_34 (by decide) ?_
      exact hQ (zI 1) _ H locs _ _ _ ls hW (by decide) ⟨congrArg zI (by unfold mGo; first | exact bzA_t (by omega) (by omega) | exact bzA_1 (by omega) | exact bzA_2 (by omega)), rfl⟩ (by omega) (by omega) dMo_mayGo_38
set_option maxHeartbeats 4000000 in
set_option maxRecDepth 100000 in
theorem m_front (l : Launch) (D : va_G) (cI cG cL cB : ClassId) (m0 : Nat) (cd : Int) (wi : Int) (hi : Int) (bn : Int) (af : Nat) (at_ : Nat) (dr : Int) (sz : Int) (au : Nat) (ap : Nat) (ab : Nat) (ae : Nat) (ah : Nat) (kp : Int) (ks : Int) (ku : Nat) (kq : Nat) (kb : Nat) (ke : Nat) (kh : Nat) (als : Int) (gf : Nat) (gt : Nat) (ses : Int) (sf : Nat) (st : Nat) (les : Int) (ef : Nat) (et : Nat) (mes : Int) (xa : Nat) (xf : Nat) (xt : Nat) (xr : Nat) (lb : Nat) (lbs : Int) (so : Nat) (From : Int → Int) (To : Int → Int) (vw : Int) (bx : Int) (bFrom : ∀ j : Int, I64 (From j)) (bTo : ∀ j : Int, I64 (To j)) (hbn0 : 0 ≤ bn) (hbn1 : bn ≤ 24) (hMB : moB bn From To) (hv0 : 0 ≤ vw) (hv1 : vw < 6) (hx0 : 0 ≤ bx) (hx1 : bx < bn) : Cl l yMo_front cMo_front 4 (some .long) 1 0 0 D zCl (zT cI cG cL cB) [.ref m0, .int (zI vw), .int (zI bx)] [(m0, .inr (10, [.int (zI cd), .long (zL wi), .long (zL hi), .int (zI bn), .ref af, .ref at_, .int (zI dr), .int (zI sz), .ref au, .ref ap, .ref ab, .ref ae, .ref ah, .int (zI kp), .int (zI ks), .ref ku, .ref kq, .ref kb, .ref ke, .ref kh, .int (zI als), .ref gf, .ref gt, .int (zI ses), .ref sf, .ref st, .int (zI les), .ref ef, .ref et, .int (zI mes), .ref xa, .ref xf, .ref xt, .ref xr, .ref lb, .int (zI lbs), .ref so])), (af, .inl (cL, 72, .inr (.inl (fL From)))), (at_, .inl (cL, 72, .inr (.inl (fL To))))] (fun x w => x = zL (mFt From To vw bx) ∧ w = [(m0, .inr (10, [.int (zI cd), .long (zL wi), .long (zL hi), .int (zI bn), .ref af, .ref at_, .int (zI dr), .int (zI sz), .ref au, .ref ap, .ref ab, .ref ae, .ref ah, .int (zI kp), .int (zI ks), .ref ku, .ref kq, .ref kb, .ref ke, .ref kh, .int (zI als), .ref gf, .ref gt, .int (zI ses), .ref sf, .ref st, .int (zI les), .ref ef, .ref et, .int (zI mes), .ref xa, .ref xf, .ref xt, .ref xr, .ref lb, .int (zI lbs), .ref so])), (af, .inl (cL, 72, .inr (.inl (fL From)))), (at_, .inl (cL, 72, .inr (.inl (fL To))))]) := by
  refine zBl (by decide) (Nat.le_of_ble_eq_true rfl) ?_
  intro p e s m args below meth c ls A H locs Q C hin hl hW hQ
  have hl : lv_has ls 4 [(0, .ref m0), (1, .int (zI vw)), (2, .int (zI bx))] := hl
  have htm := tmod2 hv0
  have hdx := dax_in vw
  refine lv_iconst (v := zI 3) C.1 C.2.1 dMo_front_0 (by decide) ?_
  refine lv_iload_n C.1 C.2.1 dMo_front_1 rfl (lv_at hl 2 rfl) ?_
  refine zimul C dMo_front_2 ?_
  refine lv_iload_n C.1 C.2.1 dMo_front_3 rfl (lv_at hl 1 rfl) ?_
  refine zcalli (wr := [(m0, .inr (10, [.int (zI cd), .long (zL wi), .long (zL hi), .int (zI bn), .ref af, .ref at_, .int (zI dr), .int (zI sz), .ref au, .ref ap, .ref ab, .ref ae, .ref ah, .int (zI kp), .int (zI ks), .ref ku, .ref kq, .ref kb, .ref ke, .ref kh, .int (zI als), .ref gf, .ref gt, .int (zI ses), .ref sf, .ref st, .int (zI les), .ref ef, .ref et, .int (zI mes), .ref xa, .ref xf, .ref xt, .ref xr, .ref lb, .int (zI lbs), .ref so])), (af, .inl (cL, 72, .inr (.inl (fL From)))), (at_, .inl (cL, 72, .inr (.inl (fL To))))]) C hW [] [0, 1, 2] rfl rfl (by decide) (by decide) (zRunS (k := 1) (As := [.int (zI vw)]) (rest := [.int (zI (3 * bx))]) C hW (m_axisOf l D cI cG cL cB vw (by omega) H.size) [] rfl (by decide) kMo_124 (by decide +kernel) ⟨by decide, by decide⟩ rfl hl.1 (Nat.le_of_ble_eq_true rfl) dMo_front_4 ⟨by first | decide | omega, by first | decide | omega⟩) (fun x w H locs hq hW => ?_)
  obtain ⟨rfl, rfl⟩ := hq
  have hW : zw D zCl A s [(m0, .inr (10, [.int (zI cd), .long (zL wi), .long (zL hi), .int (zI bn), .ref af, .ref at_, .int (zI dr), .int (zI sz), .ref au, .ref ap, .ref ab, .ref ae, .ref ah, .int (zI kp), .int (zI ks), .ref ku, .ref kq, .ref kb, .ref ke, .ref kh, .int (zI als), .ref gf, .ref gt, .int (zI ses), .ref sf, .ref st, .int (zI les), .ref ef, .ref et, .int (zI mes), .ref xa, .ref xf, .ref xt, .ref xr, .ref lb, .int (zI lbs), .ref so])), (af, .inl (cL, 72, .inr (.inl (fL From)))), (at_, .inl (cL, 72, .inr (.inl (fL To))))] H locs := hW
  have hr1 := dax_in vw
  refine ziadd C dMo_front_7 ?_
  refine lv_istore_n (lv' := [(3, .int (zI ((3 * bx) + dax vw))), (0, .ref m0), (1, .int (zI vw)), (2, .int (zI bx))]) C.1 C.2.1 dMo_front_8 rfl hl (by decide) rfl (fun ls hl => ?_)
  refine lv_iload_n C.1 C.2.1 dMo_front_9 rfl (lv_at hl 2 rfl) ?_
  refine lv_iconst (v := zI 2) C.1 C.2.1 dMo_front_10 (by decide) ?_
  refine zirem C (by omega) (by omega) (by omega) dMo_front_11 ?_
  refine zif_ne (tgt := 24) C (by omega) dMo_front_12 (by decide) (fun c12 => ?_) (fun c12 => ?_)
  · refine lv_aload_n C.1 C.2.1 dMo_front_24 rfl (lv_at hl 1 rfl) ?_
    refine zget C hW 0 5 rfl rfl inMo (by decide) flMo_13 rfl dMo_front_25 ?_
    refine lv_iload_n C.1 C.2.1 dMo_front_28 rfl (lv_at hl 0 rfl) ?_
    refine zlald C hW 2 2 rfl rfl (by omega) (by omega) (by decide) dMo_front_29 ?_
    have hb2 := bTo ((3 * bx) + dax vw)
    refine zlneg C dMo_front_30 ?_
    exact hQ (zL (-(To ((3 * bx) + dax vw)))) _ H locs _ _ _ ls hW ⟨congrArg zL (by unfold mFt; first | rw [if_pos (by omega)] | rw [if_neg (by omega)]), rfl⟩ (by omega) (by omega) dMo_front_31
  · refine lv_aload_n C.1 C.2.1 dMo_front_15 rfl (lv_at hl 1 rfl) ?_
    refine zget C hW 0 4 rfl rfl inMo (by decide) flMo_7 rfl dMo_front_16 ?_
    refine lv_iload_n C.1 C.2.1 dMo_front_19 rfl (lv_at hl 0 rfl) ?_
    refine zlald C hW 1 2 rfl rfl (by omega) (by omega) (by decide) dMo_front_20 ?_
    have hb3 := bFrom ((3 * bx) + dax vw)
    refine lv_goto (tgt := 31) C.1 C.2.1 dMo_front_21 (by decide) ?_
    exact hQ (zL (From ((3 * bx) + dax vw))) _ H locs _ _ _ ls hW ⟨congrArg zL (by unfold mFt; first | rw [if_pos (by omega)] | rw [if_neg (by omega)]), rfl⟩ (by omega) (by omega) dMo_front_31
set_option maxHeartbeats 4000000 in
set_option maxRecDepth 100000 in
theorem m_back (l : Launch) (D : va_G) (cI cG cL cB : ClassId) (m0 : Nat) (cd : Int) (wi : Int) (hi : Int) (bn : Int) (af : Nat) (at_ : Nat) (dr : Int) (sz : Int) (au : Nat) (ap : Nat) (ab : Nat) (ae : Nat) (ah : Nat) (kp : Int) (ks : Int) (ku : Nat) (kq : Nat) (kb : Nat) (ke : Nat) (kh : Nat) (als : Int) (gf : Nat) (gt : Nat) (ses : Int) (sf : Nat) (st : Nat) (les : Int) (ef : Nat) (et : Nat) (mes : Int) (xa : Nat) (xf : Nat) (xt : Nat) (xr : Nat) (lb : Nat) (lbs : Int) (so : Nat) (From : Int → Int) (To : Int → Int) (vw : Int) (bx : Int) (bFrom : ∀ j : Int, I64 (From j)) (bTo : ∀ j : Int, I64 (To j)) (hbn0 : 0 ≤ bn) (hbn1 : bn ≤ 24) (hMB : moB bn From To) (hv0 : 0 ≤ vw) (hv1 : vw < 6) (hx0 : 0 ≤ bx) (hx1 : bx < bn) : Cl l yMo_back cMo_back 4 (some .long) 1 0 0 D zCl (zT cI cG cL cB) [.ref m0, .int (zI vw), .int (zI bx)] [(m0, .inr (10, [.int (zI cd), .long (zL wi), .long (zL hi), .int (zI bn), .ref af, .ref at_, .int (zI dr), .int (zI sz), .ref au, .ref ap, .ref ab, .ref ae, .ref ah, .int (zI kp), .int (zI ks), .ref ku, .ref kq, .ref kb, .ref ke, .ref kh, .int (zI als), .ref gf, .ref gt, .int (zI ses), .ref sf, .ref st, .int (zI les), .ref ef, .ref et, .int (zI mes), .ref xa, .ref xf, .ref xt, .ref xr, .ref lb, .int (zI lbs), .ref so])), (af, .inl (cL, 72, .inr (.inl (fL From)))), (at_, .inl (cL, 72, .inr (.inl (fL To))))] (fun x w => x = zL (mBk From To vw bx) ∧ w = [(m0, .inr (10, [.int (zI cd), .long (zL wi), .long (zL hi), .int (zI bn), .ref af, .ref at_, .int (zI dr), .int (zI sz), .ref au, .ref ap, .ref ab, .ref ae, .ref ah, .int (zI kp), .int (zI ks), .ref ku, .ref kq, .ref kb, .ref ke, .ref kh, .int (zI als), .ref gf, .ref gt, .int (zI ses), .ref sf, .ref st, .int (zI les), .ref ef, .ref et, .int (zI mes), .ref xa, .ref xf, .ref xt, .ref xr, .ref lb, .int (zI lbs), .ref so])), (af, .inl (cL, 72, .inr (.inl (fL From)))), (at_, .inl (cL, 72, .inr (.inl (fL To))))]) := by
  refine zBl (by decide) (Nat.le_of_ble_eq_true rfl) ?_
  intro p e s m args below meth c ls A H locs Q C hin hl hW hQ
  have hl : lv_has ls 4 [(0, .ref m0), (1, .int (zI vw)), (2, .int (zI bx))] := hl
  have htm := tmod2 hv0
  have hdx := dax_in vw
  refine lv_iconst (v := zI 3) C.1 C.2.1 dMo_back_0 (by decide) ?_
  refine lv_iload_n C.1 C.2.1 dMo_back_1 rfl (lv_at hl 2 rfl) ?_
  refine zimul C dMo_back_2 ?_
  refine lv_iload_n C.1 C.2.1 dMo_back_3 rfl (lv_at hl 1 rfl) ?_
  refine zcalli (wr := [(m0, .inr (10, [.int (zI cd), .long (zL wi), .long (zL hi), .int (zI bn), .ref af, .ref at_, .int (zI dr), .int (zI sz), .ref au, .ref ap, .ref ab, .ref ae, .ref ah, .int (zI kp), .int (zI ks), .ref ku, .ref kq, .ref kb, .ref ke, .ref kh, .int (zI als), .ref gf, .ref gt, .int (zI ses), .ref sf, .ref st, .int (zI les), .ref ef, .ref et, .int (zI mes), .ref xa, .ref xf, .ref xt, .ref xr, .ref lb, .int (zI lbs), .ref so])), (af, .inl (cL, 72, .inr (.inl (fL From)))), (at_, .inl (cL, 72, .inr (.inl (fL To))))]) C hW [] [0, 1, 2] rfl rfl (by decide) (by decide) (zRunS (k := 1) (As := [.int (zI vw)]) (rest := [.int (zI (3 * bx))]) C hW (m_axisOf l D cI cG cL cB vw (by omega) H.size) [] rfl (by decide) kMo_124 (by decide +kernel) ⟨by decide, by decide⟩ rfl hl.1 (Nat.le_of_ble_eq_true rfl) dMo_back_4 ⟨by first | decide | omega, by first | decide | omega⟩) (fun x w H locs hq hW => ?_)
  obtain ⟨rfl, rfl⟩ := hq
  have hW : zw D zCl A s [(m0, .inr (10, [.int (zI cd), .long (zL wi), .long (zL hi), .int (zI bn), .ref af, .ref at_, .int (zI dr), .int (zI sz), .ref au, .ref ap, .ref ab, .ref ae, .ref ah, .int (zI kp), .int (zI ks), .ref ku, .ref kq, .ref kb, .ref ke, .ref kh, .int (zI als), .ref gf, .ref gt, .int (zI ses), .ref sf, .ref st, .int (zI les), .ref ef, .ref et, .int (zI mes), .ref xa, .ref xf, .ref xt, .ref xr, .ref lb, .int (zI lbs), .ref so])), (af, .inl (cL, 72, .inr (.inl (fL From)))), (at_, .inl (cL, 72, .inr (.inl (fL To))))] H locs := hW
  have hr1 := dax_in vw
  refine ziadd C dMo_back_7 ?_
  refine lv_istore_n (lv' := [(3, .int (zI ((3 * bx) + dax vw))), (0, .ref m0), (1, .int (zI vw)), (2, .int (zI bx))]) C.1 C.2.1 dMo_back_8 rfl hl (by decide) rfl (fun ls hl => ?_)
  refine lv_iload_n C.1 C.2.1 dMo_back_9 rfl (lv_at hl 2 rfl) ?_
  refine lv_iconst (v := zI 2) C.1 C.2.1 dMo_back_10 (by decide) ?_
  refine zirem C (by omega) (by omega) (by omega) dMo_back_11 ?_
  refine zif_ne (tgt := 24) C (by omega) dMo_back_12 (by decide) (fun c12 => ?_) (fun c12 => ?_)
  · refine lv_aload_n C.1 C.2.1 dMo_back_24 rfl (lv_at hl 1 rfl) ?_
    refine zget C hW 0 4 rfl rfl inMo (by decide) flMo_7 rfl dMo_back_25 ?_
    refine lv_iload_n C.1 C.2.1 dMo_back_28 rfl (lv_at hl 0 rfl) ?_
    refine zlald C hW 1 2 rfl rfl (by omega) (by omega) (by decide) dMo_back_29 ?_
    have hb2 := bFrom ((3 * bx) + dax vw)
    refine zlneg C dMo_back_30 ?_
    exact hQ (zL (-(From ((3 * bx) + dax vw)))) _ H locs _ _ _ ls hW ⟨congrArg zL (by unfold mBk; first | rw [if_pos (by omega)] | rw [if_neg (by omega)]), rfl⟩ (by omega) (by omega) dMo_back_31
  · refine lv_aload_n C.1 C.2.1 dMo_back_15 rfl (lv_at hl 1 rfl) ?_
    refine zget C hW 0 5 rfl rfl inMo (by decide) flMo_13 rfl dMo_back_16 ?_
    refine lv_iload_n C.1 C.2.1 dMo_back_19 rfl (lv_at hl 0 rfl) ?_
    refine zlald C hW 2 2 rfl rfl (by omega) (by omega) (by decide) dMo_back_20 ?_
    have hb3 := bTo ((3 * bx) + dax vw)
    refine lv_goto (tgt := 31) C.1 C.2.1 dMo_back_21 (by decide) ?_
    exact hQ (zL (To ((3 * bx) + dax vw))) _ H locs _ _ _ ls hW ⟨congrArg zL (by unfold mBk; first | rw [if_pos (by omega)] | rw [if_neg (by omega)]), rfl⟩ (by omega) (by omega) dMo_back_31
set_option maxHeartbeats 4000000 in
set_option maxRecDepth 100000 in
theorem m_sizeOf (l : Launch) (D : va_G) (cI cG cL cB : ClassId) (m0 : Nat) (cd : Int) (wi : Int) (hi : Int) (bn : Int) (af : Nat) (at_ : Nat) (dr : Int) (sz : Int) (au : Nat) (ap : Nat) (ab : Nat) (ae : Nat) (ah : Nat) (kp : Int) (ks : Int) (ku : Nat) (kq : Nat) (kb : Nat) (ke : Nat) (kh : Nat) (als : Int) (gf : Nat) (gt : Nat) (ses : Int) (sf : Nat) (st : Nat) (les : Int) (ef : Nat) (et : Nat) (mes : Int) (xa : Nat) (xf : Nat) (xt : Nat) (xr : Nat) (lb : Nat) (lbs : Int) (so : Nat) (From : Int → Int) (To : Int → Int) (bx : Int) (k : Int) (bFrom : ∀ j : Int, I64 (From j)) (bTo : ∀ j : Int, I64 (To j)) (hbn0 : 0 ≤ bn) (hbn1 : bn ≤ 24) (hMB : moB bn From To) (hx0 : 0 ≤ bx) (hx1 : bx < bn) (hk0 : 0 ≤ k) (hk1 : k < 3) : Cl l yMo_sizeOf cMo_sizeOf 3 (some .long) 0 0 0 D zCl (zT cI cG cL cB) [.ref m0, .int (zI bx), .int (zI k)] [(m0, .inr (10, [.int (zI cd), .long (zL wi), .long (zL hi), .int (zI bn), .ref af, .ref at_, .int (zI dr), .int (zI sz), .ref au, .ref ap, .ref ab, .ref ae, .ref ah, .int (zI kp), .int (zI ks), .ref ku, .ref kq, .ref kb, .ref ke, .ref kh, .int (zI als), .ref gf, .ref gt, .int (zI ses), .ref sf, .ref st, .int (zI les), .ref ef, .ref et, .int (zI mes), .ref xa, .ref xf, .ref xt, .ref xr, .ref lb, .int (zI lbs), .ref so])), (af, .inl (cL, 72, .inr (.inl (fL From)))), (at_, .inl (cL, 72, .inr (.inl (fL To))))] (fun x w => x = zL (To (3 * bx + k) - From (3 * bx + k)) ∧ w = [(m0, .inr (10, [.int (zI cd), .long (zL wi), .long (zL hi), .int (zI bn), .ref af, .ref at_, .int (zI dr), .int (zI sz), .ref au, .ref ap, .ref ab, .ref ae, .ref ah, .int (zI kp), .int (zI ks), .ref ku, .ref kq, .ref kb, .ref ke, .ref kh, .int (zI als), .ref gf, .ref gt, .int (zI ses), .ref sf, .ref st, .int (zI les), .ref ef, .ref et, .int (zI mes), .ref xa, .ref xf, .ref xt, .ref xr, .ref lb, .int (zI lbs), .ref so])), (af, .inl (cL, 72, .inr (.inl (fL From)))), (at_, .inl (cL, 72, .inr (.inl (fL To))))]) := by
  refine zBl (by decide) (Nat.le_of_ble_eq_true rfl) ?_
  intro p e s m args below meth c ls A H locs Q C hin hl hW hQ
  have hl : lv_has ls 3 [(0, .ref m0), (1, .int (zI bx)), (2, .int (zI k))] := hl
  refine lv_aload_n C.1 C.2.1 dMo_sizeOf_0 rfl (lv_at hl 0 rfl) ?_
  refine zget C hW 0 5 rfl rfl inMo (by decide) flMo_13 rfl dMo_sizeOf_1 ?_
  refine lv_iconst (v := zI 3) C.1 C.2.1 dMo_sizeOf_4 (by decide) ?_
  refine lv_iload_n C.1 C.2.1 dMo_sizeOf_5 rfl (lv_at hl 1 rfl) ?_
  refine zimul C dMo_sizeOf_6 ?_
  refine lv_iload_n C.1 C.2.1 dMo_sizeOf_7 rfl (lv_at hl 2 rfl) ?_
  refine ziadd C dMo_sizeOf_8 ?_
  refine zlald C hW 2 2 rfl rfl (by omega) (by omega) (by decide) dMo_sizeOf_9 ?_
  have hb1 := bTo ((3 * bx) + k)
  refine lv_aload_n C.1 C.2.1 dMo_sizeOf_10 rfl (lv_at hl 0 rfl) ?_
  refine zget C hW 0 4 rfl rfl inMo (by decide) flMo_7 rfl dMo_sizeOf_11 ?_
  refine lv_iconst (v := zI 3) C.1 C.2.1 dMo_sizeOf_14 (by decide) ?_
  refine lv_iload_n C.1 C.2.1 dMo_sizeOf_15 rfl (lv_at hl 1 rfl) ?_
  refine zimul C dMo_sizeOf_16 ?_
  refine lv_iload_n C.1 C.2.1 dMo_sizeOf_17 rfl (lv_at hl 2 rfl) ?_
  refine ziadd C dMo_sizeOf_18 ?_
  refine zlald C hW 1 2 rfl rfl (by omega) (by omega) (by decide) dMo_sizeOf_19 ?_
  have hb2 := bFrom ((3 * bx) + k)
  refine zlsub C dMo_sizeOf_20 ?_
  exact hQ (zL ((To ((3 * bx) + k)) - (From ((3 * bx) + k)))) _ H locs _ _ _ ls hW ⟨rfl, rfl⟩ (by omega) (by omega) dMo_sizeOf_21
set_option maxHeartbeats 4000000 in
set_option maxRecDepth 100000 in
theorem m_isCut (l : Launch) (D : va_G) (cI cG cL cB : ClassId) (m0 : Nat) (cd : Int) (wi : Int) (hi : Int) (bn : Int) (af : Nat) (at_ : Nat) (dr : Int) (sz : Int) (au : Nat) (ap : Nat) (ab : Nat) (ae : Nat) (ah : Nat) (kp : Int) (ks : Int) (ku : Nat) (kq : Nat) (kb : Nat) (ke : Nat) (kh : Nat) (als : Int) (gf : Nat) (gt : Nat) (ses : Int) (sf : Nat) (st : Nat) (les : Int) (ef : Nat) (et : Nat) (mes : Int) (xa : Nat) (xf : Nat) (xt : Nat) (xr : Nat) (lb : Nat) (lbs : Int) (so : Nat) (From : Int → Int) (To : Int → Int) (vw : Int) (q : Int) (bx : Int) (bFrom : ∀ j : Int, I64 (From j)) (bTo : ∀ j : Int, I64 (To j)) (hbn0 : 0 ≤ bn) (hbn1 : bn ≤ 24) (hMB : moB bn From To) (hv0 : 0 ≤ vw) (hv1 : vw < 6) (hx0 : 0 ≤ bx) (hx1 : bx < bn) (hJq : I64 q) : Ci l yMo_isCut cMo_isCut 6 (some .boolean) 1 0 0 D zCl (zT cI cG cL cB) [.ref m0, .int (zI vw), .long (zL q), .int (zI bx)] [(m0, .inr (10, [.int (zI cd), .long (zL wi), .long (zL hi), .int (zI bn), .ref af, .ref at_, .int (zI dr), .int (zI sz), .ref au, .ref ap, .ref ab, .ref ae, .ref ah, .int (zI kp), .int (zI ks), .ref ku, .ref kq, .ref kb, .ref ke, .ref kh, .int (zI als), .ref gf, .ref gt, .int (zI ses), .ref sf, .ref st, .int (zI les), .ref ef, .ref et, .int (zI mes), .ref xa, .ref xf, .ref xt, .ref xr, .ref lb, .int (zI lbs), .ref so])), (af, .inl (cL, 72, .inr (.inl (fL From)))), (at_, .inl (cL, 72, .inr (.inl (fL To))))] (fun x w => x = zI (bz (mCut From To vw q bx)) ∧ w = [(m0, .inr (10, [.int (zI cd), .long (zL wi), .long (zL hi), .int (zI bn), .ref af, .ref at_, .int (zI dr), .int (zI sz), .ref au, .ref ap, .ref ab, .ref ae, .ref ah, .int (zI kp), .int (zI ks), .ref ku, .ref kq, .ref kb, .ref ke, .ref kh, .int (zI als), .ref gf, .ref gt, .int (zI ses), .ref sf, .ref st, .int (zI les), .ref ef, .ref et, .int (zI mes), .ref xa, .ref xf, .ref xt, .ref xr, .ref lb, .int (zI lbs), .ref so])), (af, .inl (cL, 72, .inr (.inl (fL From)))), (at_, .inl (cL, 72, .inr (.inl (fL To))))]) := by
  refine zBz (by decide) (Nat.le_of_ble_eq_true rfl) ?_
  intro p e s m args below meth c ls A H locs Q C hin hl hW hQ
  have hl : lv_has ls 6 [(0, .ref m0), (1, .int (zI vw)), (2, .long (zL q)), (4, .int (zI bx))] := hl
  have hdx := dax_in vw
  refine lv_iconst (v := zI 3) C.1 C.2.1 dMo_isCut_0 (by decide) ?_
  refine lv_iload C.1 C.2.1 dMo_isCut_1 (lv_at hl 3 rfl) ?_
  refine zimul C dMo_isCut_3 ?_
  refine lv_iload_n C.1 C.2.1 dMo_isCut_4 rfl (lv_at hl 1 rfl) ?_
  refine zcalli (wr := [(m0, .inr (10, [.int (zI cd), .long (zL wi), .long (zL hi), .int (zI bn), .ref af, .ref at_, .int (zI dr), .int (zI sz), .ref au, .ref ap, .ref ab, .ref ae, .ref ah, .int (zI kp), .int (zI ks), .ref ku, .ref kq, .ref kb, .ref ke, .ref kh, .int (zI als), .ref gf, .ref gt, .int (zI ses), .ref sf, .ref st, .int (zI les), .ref ef, .ref et, .int (zI mes), .ref xa, .ref xf, .ref xt, .ref xr, .ref lb, .int (zI lbs), .ref so])), (af, .inl (cL, 72, .inr (.inl (fL From)))), (at_, .inl (cL, 72, .inr (.inl (fL To))))]) C hW [] [0, 1, 2] rfl rfl (by decide) (by decide) (zRunS (k := 1) (As := [.int (zI vw)]) (rest := [.int (zI (3 * bx))]) C hW (m_axisOf l D cI cG cL cB vw (by omega) H.size) [] rfl (by decide) kMo_124 (by decide +kernel) ⟨by decide, by decide⟩ rfl hl.1 (Nat.le_of_ble_eq_true rfl) dMo_isCut_5 ⟨by first | decide | omega, by first | decide | omega⟩) (fun x w H locs hq hW => ?_)
  obtain ⟨rfl, rfl⟩ := hq
  have hW : zw D zCl A s [(m0, .inr (10, [.int (zI cd), .long (zL wi), .long (zL hi), .int (zI bn), .ref af, .ref at_, .int (zI dr), .int (zI sz), .ref au, .ref ap, .ref ab, .ref ae, .ref ah, .int (zI kp), .int (zI ks), .ref ku, .ref kq, .ref kb, .ref ke, .ref kh, .int (zI als), .ref gf, .ref gt, .int (zI ses), .ref sf, .ref st, .int (zI les), .ref ef, .ref et, .int (zI mes), .ref xa, .ref xf, .ref xt, .ref xr, .ref lb, .int (zI lbs), .ref so])), (af, .inl (cL, 72, .inr (.inl (fL From)))), (at_, .inl (cL, 72, .inr (.inl (fL To))))] H locs := hW
  have hr1 := dax_in vw
  refine ziadd C dMo_isCut_8 ?_
  refine lv_istore (lv' := [(5, .int (zI ((3 * bx) + dax vw))), (0, .ref m0), (1, .int (zI vw)), (2, .long (zL q)), (4, .int (zI bx))]) C.1 C.2.1 dMo_isCut_9 hl (by decide) rfl (fun ls hl => ?_)
  refine lv_aload_n C.1 C.2.1 dMo_isCut_11 rfl (lv_at hl 1 rfl) ?_
  refine zget C hW 0 4 rfl rfl inMo (by decide) flMo_7 rfl dMo_isCut_12 ?_
  refine lv_iload C.1 C.2.1 dMo_isCut_15 (lv_at hl 0 rfl) ?_
  refine zlald C hW 1 2 rfl rfl (by omega) (by omega) (by decide) dMo_isCut_17 ?_
  have hb2 := bFrom ((3 * bx) + dax vw)
  refine lv_lload_n C.1 C.2.1 dMo_isCut_18 rfl (lv_at hl 3 rfl) ?_
  refine zlcmp_ge (tgt := 39) C (by omega) (by omega) dMo_isCut_19 dMo_isCut_20 (by decide) (fun c19 => ?_) (fun c19 => ?_)
  · refine lv_iconst (v := zI 0) C.1 C.2.1 dMo_isCut_39 (by decide) ?_
    exact hQ (zI 0) _ H locs _ _ _ ls hW (by decide) ⟨congrArg zI (by unfold mCut; exact bzd (fun h => by omega) (fun h => by omega)), rfl⟩ (by omega) (by omega) dMo_isCut_40
  · refine lv_aload_n C.1 C.2.1 dMo_isCut_23 rfl (lv_at hl 1 rfl) ?_
    refine zget C hW 0 5 rfl rfl inMo (by decide) flMo_13 rfl dMo_isCut_24 ?_
    refine lv_iload C.1 C.2.1 dMo_isCut_27 (lv_at hl 0 rfl) ?_
    refine zlald C hW 2 2 rfl rfl (by omega) (by omega) (by decide) dMo_isCut_29 ?_
    have hb3 := bTo ((3 * bx) + dax vw)
    refine lv_lload_n C.1 C.2.1 dMo_isCut_30 rfl (lv_at hl 3 rfl) ?_
    refine zlcmp_le (tgt := 39) C (by omega) (by omega) dMo_isCut_31 dMo_isCut_32 (by decide) (fun c31 => ?_) (fun c31 => ?_)
    · refine lv_iconst (v := zI 0) C.1 C.2.1 dMo_isCut_39 (by decide) ?_
      exact hQ (zI 0) _ H locs _ _ _ ls hW (by decide) ⟨congrArg zI (by unfold mCut; exact bzd (fun h => by omega) (fun h => by omega)), rfl⟩ (by omega) (by omega) dMo_isCut_40
    · refine lv_iconst (v := zI 1) C.1 C.2.1 dMo_isCut_35 (by decide) ?_
      refine lv_goto (tgt := 40) C.1 C.2.1 dMo_isCut_36 (by decide) ?_
      exact hQ (zI 1) _ H locs _ _ _ ls hW (by decide) ⟨congrArg zI (by unfold mCut; exact bzd (fun h => by omega) (fun h => by omega)), rfl⟩ (by omega) (by omega) dMo_isCut_40
set_option maxHeartbeats 4000000 in
set_option maxRecDepth 100000 in
theorem m_many (l : Launch) (D : va_G) (cI cG cL cB : ClassId) (len : Int) (ea : Int) (h0 : -10000000 ≤ len) (h1 : len ≤ 10000000) (h2 : 1 ≤ ea) (h3 : ea ≤ 65536) : Cl l yMo_many cMo_many 6 (some .long) 0 0 0 D zCl (zT cI cG cL cB) [.long (zL len), .long (zL ea)] [] (fun x w => x = zL (pgF len ea) ∧ w = []) := by
  refine zBl (by decide) (Nat.le_of_ble_eq_true rfl) ?_
  intro p e s m args below meth c ls A H locs Q C hin hl hW hQ
  have hl : lv_has ls 6 [(0, .long (zL len)), (2, .long (zL ea))] := hl
  have htd := tdiv_b (a := len + ea - 1) (b := ea) (M := 20000000) (by omega) (by omega) (by omega)
  refine lv_lload_n C.1 C.2.1 dMo_many_0 rfl (lv_at hl 0 rfl) ?_
  refine lv_lload_n C.1 C.2.1 dMo_many_1 rfl (lv_at hl 1 rfl) ?_
  refine zladd C dMo_many_2 ?_
  refine lv_lconst (v := zL 1) C.1 C.2.1 dMo_many_3 (by decide) ?_
  refine zlsub C dMo_many_4 ?_
  refine lv_lload_n C.1 C.2.1 dMo_many_5 rfl (lv_at hl 1 rfl) ?_
  refine zldiv C (by omega) (by omega) (by omega) dMo_many_6 ?_
  refine lv_lstore (lv' := [(4, .long (zL (((len + ea) - 1).tdiv ea))), (0, .long (zL len)), (2, .long (zL ea))]) C.1 C.2.1 dMo_many_7 hl (by decide) rfl (fun ls hl => ?_)
  refine lv_lload C.1 C.2.1 dMo_many_9 (lv_at hl 0 rfl) ?_
  refine lv_lconst (v := zL 1) C.1 C.2.1 dMo_many_11 (by decide) ?_
  refine zlcmp_ge (tgt := 20) C (by omega) (by omega) dMo_many_12 dMo_many_13 (by decide) (fun c12 => ?_) (fun c12 => ?_)
  · refine lv_lload C.1 C.2.1 dMo_many_20 (lv_at hl 0 rfl) ?_
    exact hQ (zL (((len + ea) - 1).tdiv ea)) _ H locs _ _ _ ls hW ⟨congrArg zL (by unfold pgF; omega), rfl⟩ (by omega) (by omega) dMo_many_22
  · refine lv_lconst (v := zL 1) C.1 C.2.1 dMo_many_16 (by decide) ?_
    refine lv_goto (tgt := 22) C.1 C.2.1 dMo_many_17 (by decide) ?_
    exact hQ (zL 1) _ H locs _ _ _ ls hW ⟨congrArg zL (by unfold pgF; omega), rfl⟩ (by omega) (by omega) dMo_many_22
