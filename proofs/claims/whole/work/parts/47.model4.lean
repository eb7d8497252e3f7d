theorem dMo_nextLine_0 : decode cMo_nextLine 0 = .ok (.ldc2_w 148, 3) := by decide +kernel
theorem dMo_nextLine_3 : decode cMo_nextLine 3 = .ok (.lstore 4, 2) := by decide +kernel
theorem dMo_nextLine_5 : decode cMo_nextLine 5 = .ok (.iconst 0, 1) := by decide +kernel
theorem dMo_nextLine_6 : decode cMo_nextLine 6 = .ok (.istore 6, 2) := by decide +kernel
theorem dMo_nextLine_8 : decode cMo_nextLine 8 = .ok (.iload 6, 2) := by decide +kernel
theorem dMo_nextLine_10 : decode cMo_nextLine 10 = .ok (.aload_n 0, 1) := by decide +kernel
theorem dMo_nextLine_11 : decode cMo_nextLine 11 = .ok (.getfield 105, 3) := by decide +kernel
theorem dMo_nextLine_14 : decode cMo_nextLine 14 = .ok (.if_icmp .ge 83, 3) := by decide +kernel
theorem dMo_nextLine_17 : decode cMo_nextLine 17 = .ok (.aload_n 0, 1) := by decide +kernel
theorem dMo_nextLine_18 : decode cMo_nextLine 18 = .ok (.getfield 7, 3) := by decide +kernel
theorem dMo_nextLine_21 : decode cMo_nextLine 21 = .ok (.iconst 3, 1) := by decide +kernel
theorem dMo_nextLine_22 : decode cMo_nextLine 22 = .ok (.iload 6, 2) := by decide +kernel
theorem dMo_nextLine_24 : decode cMo_nextLine 24 = .ok (.imul, 1) := by decide +kernel
theorem dMo_nextLine_25 : decode cMo_nextLine 25 = .ok (.iload_n 1, 1) := by decide +kernel
theorem dMo_nextLine_26 : decode cMo_nextLine 26 = .ok (.iadd, 1) := by decide +kernel
theorem dMo_nextLine_27 : decode cMo_nextLine 27 = .ok (.laload, 1) := by decide +kernel
theorem dMo_nextLine_28 : decode cMo_nextLine 28 = .ok (.lstore 7, 2) := by decide +kernel
theorem dMo_nextLine_30 : decode cMo_nextLine 30 = .ok (.aload_n 0, 1) := by decide +kernel
theorem dMo_nextLine_31 : decode cMo_nextLine 31 = .ok (.getfield 13, 3) := by decide +kernel
theorem dMo_nextLine_34 : decode cMo_nextLine 34 = .ok (.iconst 3, 1) := by decide +kernel
theorem dMo_nextLine_35 : decode cMo_nextLine 35 = .ok (.iload 6, 2) := by decide +kernel
theorem dMo_nextLine_37 : decode cMo_nextLine 37 = .ok (.imul, 1) := by decide +kernel
theorem dMo_nextLine_38 : decode cMo_nextLine 38 = .ok (.iload_n 1, 1) := by decide +kernel
theorem dMo_nextLine_39 : decode cMo_nextLine 39 = .ok (.iadd, 1) := by decide +kernel
theorem dMo_nextLine_40 : decode cMo_nextLine 40 = .ok (.laload, 1) := by decide +kernel
theorem dMo_nextLine_41 : decode cMo_nextLine 41 = .ok (.lstore 9, 2) := by decide +kernel
theorem dMo_nextLine_43 : decode cMo_nextLine 43 = .ok (.lload 7, 2) := by decide +kernel
theorem dMo_nextLine_45 : decode cMo_nextLine 45 = .ok (.lload_n 2, 1) := by decide +kernel
theorem dMo_nextLine_46 : decode cMo_nextLine 46 = .ok (.lcmp, 1) := by decide +kernel
theorem dMo_nextLine_47 : decode cMo_nextLine 47 = .ok (.ifCond .le 16, 3) := by decide +kernel
theorem dMo_nextLine_50 : decode cMo_nextLine 50 = .ok (.lload 7, 2) := by decide +kernel
theorem dMo_nextLine_52 : decode cMo_nextLine 52 = .ok (.lload 4, 2) := by decide +kernel
theorem dMo_nextLine_54 : decode cMo_nextLine 54 = .ok (.lcmp, 1) := by decide +kernel
theorem dMo_nextLine_55 : decode cMo_nextLine 55 = .ok (.ifCond .ge 8, 3) := by decide +kernel
theorem dMo_nextLine_58 : decode cMo_nextLine 58 = .ok (.lload 7, 2) := by decide +kernel
theorem dMo_nextLine_60 : decode cMo_nextLine 60 = .ok (.goto 5, 3) := by decide +kernel
theorem dMo_nextLine_63 : decode cMo_nextLine 63 = .ok (.lload 4, 2) := by decide +kernel
theorem dMo_nextLine_65 : decode cMo_nextLine 65 = .ok (.lstore 4, 2) := by decide +kernel
theorem dMo_nextLine_67 : decode cMo_nextLine 67 = .ok (.lload 9, 2) := by decide +kernel
theorem dMo_nextLine_69 : decode cMo_nextLine 69 = .ok (.lload_n 2, 1) := by decide +kernel
theorem dMo_nextLine_70 : decode cMo_nextLine 70 = .ok (.lcmp, 1) := by decide +kernel
theorem dMo_nextLine_71 : decode cMo_nextLine 71 = .ok (.ifCond .le 16, 3) := by decide +kernel
theorem dMo_nextLine_74 : decode cMo_nextLine 74 = .ok (.lload 9, 2) := by decide +kernel
theorem dMo_nextLine_76 : decode cMo_nextLine 76 = .ok (.lload 4, 2) := by decide +kernel
theorem dMo_nextLine_78 : decode cMo_nextLine 78 = .ok (.lcmp, 1) := by decide +kernel
theorem dMo_nextLine_79 : decode cMo_nextLine 79 = .ok (.ifCond .ge 8, 3) := by decide +kernel
theorem dMo_nextLine_82 : decode cMo_nextLine 82 = .ok (.lload 9, 2) := by decide +kernel
theorem dMo_nextLine_84 : decode cMo_nextLine 84 = .ok (.goto 5, 3) := by decide +kernel
theorem dMo_nextLine_87 : decode cMo_nextLine 87 = .ok (.lload 4, 2) := by decide +kernel
theorem dMo_nextLine_89 : decode cMo_nextLine 89 = .ok (.lstore 4, 2) := by decide +kernel
theorem dMo_nextLine_91 : decode cMo_nextLine 91 = .ok (.iinc 6 1, 3) := by decide +kernel
theorem dMo_nextLine_94 : decode cMo_nextLine 94 = .ok (.goto (-86), 3) := by decide +kernel
theorem dMo_nextLine_97 : decode cMo_nextLine 97 = .ok (.lload 4, 2) := by decide +kernel
theorem dMo_nextLine_99 : decode cMo_nextLine 99 = .ok (.lreturn, 1) := by decide +kernel
theorem dMo_nextEdge_0 : decode cMo_nextEdge 0 = .ok (.ldc2_w 148, 3) := by decide +kernel
theorem dMo_nextEdge_3 : decode cMo_nextEdge 3 = .ok (.lstore_n 3, 1) := by decide +kernel
theorem dMo_nextEdge_4 : decode cMo_nextEdge 4 = .ok (.iconst 0, 1) := by decide +kernel
theorem dMo_nextEdge_5 : decode cMo_nextEdge 5 = .ok (.istore 5, 2) := by decide +kernel
theorem dMo_nextEdge_7 : decode cMo_nextEdge 7 = .ok (.iload 5, 2) := by decide +kernel
theorem dMo_nextEdge_9 : decode cMo_nextEdge 9 = .ok (.aload_n 0, 1) := by decide +kernel
theorem dMo_nextEdge_10 : decode cMo_nextEdge 10 = .ok (.getfield 131, 3) := by decide +kernel
theorem dMo_nextEdge_13 : decode cMo_nextEdge 13 = .ok (.if_icmp .ge 45, 3) := by decide +kernel
theorem dMo_nextEdge_16 : decode cMo_nextEdge 16 = .ok (.aload_n 0, 1) := by decide +kernel
theorem dMo_nextEdge_17 : decode cMo_nextEdge 17 = .ok (.getfield 47, 3) := by decide +kernel
theorem dMo_nextEdge_20 : decode cMo_nextEdge 20 = .ok (.iload 5, 2) := by decide +kernel
theorem dMo_nextEdge_22 : decode cMo_nextEdge 22 = .ok (.laload, 1) := by decide +kernel
theorem dMo_nextEdge_23 : decode cMo_nextEdge 23 = .ok (.lload_n 1, 1) := by decide +kernel
theorem dMo_nextEdge_24 : decode cMo_nextEdge 24 = .ok (.lcmp, 1) := by decide +kernel
theorem dMo_nextEdge_25 : decode cMo_nextEdge 25 = .ok (.ifCond .le 25, 3) := by decide +kernel
theorem dMo_nextEdge_28 : decode cMo_nextEdge 28 = .ok (.aload_n 0, 1) := by decide +kernel
theorem dMo_nextEdge_29 : decode cMo_nextEdge 29 = .ok (.getfield 47, 3) := by decide +kernel
theorem dMo_nextEdge_32 : decode cMo_nextEdge 32 = .ok (.iload 5, 2) := by decide +kernel
theorem dMo_nextEdge_34 : decode cMo_nextEdge 34 = .ok (.laload, 1) := by decide +kernel
theorem dMo_nextEdge_35 : decode cMo_nextEdge 35 = .ok (.lload_n 3, 1) := by decide +kernel
theorem dMo_nextEdge_36 : decode cMo_nextEdge 36 = .ok (.lcmp, 1) := by decide +kernel
theorem dMo_nextEdge_37 : decode cMo_nextEdge 37 = .ok (.ifCond .ge 13, 3) := by decide +kernel
theorem dMo_nextEdge_40 : decode cMo_nextEdge 40 = .ok (.aload_n 0, 1) := by decide +kernel
theorem dMo_nextEdge_41 : decode cMo_nextEdge 41 = .ok (.getfield 47, 3) := by decide +kernel
theorem dMo_nextEdge_44 : decode cMo_nextEdge 44 = .ok (.iload 5, 2) := by decide +kernel
theorem dMo_nextEdge_46 : decode cMo_nextEdge 46 = .ok (.laload, 1) := by decide +kernel
theorem dMo_nextEdge_47 : decode cMo_nextEdge 47 = .ok (.goto 4, 3) := by decide +kernel
theorem dMo_nextEdge_50 : decode cMo_nextEdge 50 = .ok (.lload_n 3, 1) := by decide +kernel
theorem dMo_nextEdge_51 : decode cMo_nextEdge 51 = .ok (.lstore_n 3, 1) := by decide +kernel
theorem dMo_nextEdge_52 : decode cMo_nextEdge 52 = .ok (.iinc 5 1, 3) := by decide +kernel
theorem dMo_nextEdge_55 : decode cMo_nextEdge 55 = .ok (.goto (-48), 3) := by decide +kernel
theorem dMo_nextEdge_58 : decode cMo_nextEdge 58 = .ok (.lload_n 3, 1) := by decide +kernel
theorem dMo_nextEdge_59 : decode cMo_nextEdge 59 = .ok (.lreturn, 1) := by decide +kernel
theorem dMo_edgesUntil_0 : decode cMo_edgesUntil 0 = .ok (.lload_n 1, 1) := by decide +kernel
theorem dMo_edgesUntil_1 : decode cMo_edgesUntil 1 = .ok (.lstore_n 3, 1) := by decide +kernel
theorem dMo_edgesUntil_2 : decode cMo_edgesUntil 2 = .ok (.iconst 1, 1) := by decide +kernel
theorem dMo_edgesUntil_3 : decode cMo_edgesUntil 3 = .ok (.istore 5, 2) := by decide +kernel
theorem dMo_edgesUntil_5 : decode cMo_edgesUntil 5 = .ok (.iload 5, 2) := by decide +kernel
theorem dMo_edgesUntil_7 : decode cMo_edgesUntil 7 = .ok (.ifCond .eq 62, 3) := by decide +kernel
theorem dMo_edgesUntil_10 : decode cMo_edgesUntil 10 = .ok (.iconst 0, 1) := by decide +kernel
theorem dMo_edgesUntil_11 : decode cMo_edgesUntil 11 = .ok (.istore 5, 2) := by decide +kernel
theorem dMo_edgesUntil_13 : decode cMo_edgesUntil 13 = .ok (.iconst 0, 1) := by decide +kernel
theorem dMo_edgesUntil_14 : decode cMo_edgesUntil 14 = .ok (.istore 6, 2) := by decide +kernel
theorem dMo_edgesUntil_16 : decode cMo_edgesUntil 16 = .ok (.iload 6, 2) := by decide +kernel
theorem dMo_edgesUntil_18 : decode cMo_edgesUntil 18 = .ok (.aload_n 0, 1) := by decide +kernel
theorem dMo_edgesUntil_19 : decode cMo_edgesUntil 19 = .ok (.getfield 131, 3) := by decide +kernel
theorem dMo_edgesUntil_22 : decode cMo_edgesUntil 22 = .ok (.if_icmp .ge 44, 3) := by decide +kernel
theorem dMo_edgesUntil_25 : decode cMo_edgesUntil 25 = .ok (.aload_n 0, 1) := by decide +kernel
theorem dMo_edgesUntil_26 : decode cMo_edgesUntil 26 = .ok (.getfield 47, 3) := by decide +kernel
theorem dMo_edgesUntil_29 : decode cMo_edgesUntil 29 = .ok (.iload 6, 2) := by decide +kernel
theorem dMo_edgesUntil_31 : decode cMo_edgesUntil 31 = .ok (.laload, 1) := by decide +kernel
theorem dMo_edgesUntil_32 : decode cMo_edgesUntil 32 = .ok (.lload_n 3, 1) := by decide +kernel
theorem dMo_edgesUntil_33 : decode cMo_edgesUntil 33 = .ok (.lcmp, 1) := by decide +kernel
theorem dMo_edgesUntil_34 : decode cMo_edgesUntil 34 = .ok (.ifCond .gt 26, 3) := by decide +kernel
theorem dMo_edgesUntil_37 : decode cMo_edgesUntil 37 = .ok (.aload_n 0, 1) := by decide +kernel
theorem dMo_edgesUntil_38 : decode cMo_edgesUntil 38 = .ok (.getfield 50, 3) := by decide +kernel
theorem dMo_edgesUntil_41 : decode cMo_edgesUntil 41 = .ok (.iload 6, 2) := by decide +kernel
theorem dMo_edgesUntil_43 : decode cMo_edgesUntil 43 = .ok (.laload, 1) := by decide +kernel
theorem dMo_edgesUntil_44 : decode cMo_edgesUntil 44 = .ok (.lload_n 3, 1) := by decide +kernel
theorem dMo_edgesUntil_45 : decode cMo_edgesUntil 45 = .ok (.lcmp, 1) := by decide +kernel
theorem dMo_edgesUntil_46 : decode cMo_edgesUntil 46 = .ok (.ifCond .le 14, 3) := by decide +kernel
theorem dMo_edgesUntil_49 : decode cMo_edgesUntil 49 = .ok (.aload_n 0, 1) := by decide +kernel
theorem dMo_edgesUntil_50 : decode cMo_edgesUntil 50 = .ok (.getfield 50, 3) := by decide +kernel
theorem dMo_edgesUntil_53 : decode cMo_edgesUntil 53 = .ok (.iload 6, 2) := by decide +kernel
theorem dMo_edgesUntil_55 : decode cMo_edgesUntil 55 = .ok (.laload, 1) := by decide +kernel
theorem dMo_edgesUntil_56 : decode cMo_edgesUntil 56 = .ok (.lstore_n 3, 1) := by decide +kernel
theorem dMo_edgesUntil_57 : decode cMo_edgesUntil 57 = .ok (.iconst 1, 1) := by decide +kernel
theorem dMo_edgesUntil_58 : decode cMo_edgesUntil 58 = .ok (.istore 5, 2) := by decide +kernel
theorem dMo_edgesUntil_60 : decode cMo_edgesUntil 60 = .ok (.iinc 6 1, 3) := by decide +kernel
theorem dMo_edgesUntil_63 : decode cMo_edgesUntil 63 = .ok (.goto (-47), 3) := by decide +kernel
theorem dMo_edgesUntil_66 : decode cMo_edgesUntil 66 = .ok (.goto (-61), 3) := by decide +kernel
theorem dMo_edgesUntil_69 : decode cMo_edgesUntil 69 = .ok (.lload_n 3, 1) := by decide +kernel
theorem dMo_edgesUntil_70 : decode cMo_edgesUntil 70 = .ok (.lreturn, 1) := by decide +kernel
theorem dMo_seenUntil_0 : decode cMo_seenUntil 0 = .ok (.lload_n 1, 1) := by decide +kernel
theorem dMo_seenUntil_1 : decode cMo_seenUntil 1 = .ok (.lstore_n 3, 1) := by decide +kernel
theorem dMo_seenUntil_2 : decode cMo_seenUntil 2 = .ok (.iconst 1, 1) := by decide +kernel
theorem dMo_seenUntil_3 : decode cMo_seenUntil 3 = .ok (.istore 5, 2) := by decide +kernel
theorem dMo_seenUntil_5 : decode cMo_seenUntil 5 = .ok (.iload 5, 2) := by decide +kernel
theorem dMo_seenUntil_7 : decode cMo_seenUntil 7 = .ok (.ifCond .eq 62, 3) := by decide +kernel
theorem dMo_seenUntil_10 : decode cMo_seenUntil 10 = .ok (.iconst 0, 1) := by decide +kernel
theorem dMo_seenUntil_11 : decode cMo_seenUntil 11 = .ok (.istore 5, 2) := by decide +kernel
theorem dMo_seenUntil_13 : decode cMo_seenUntil 13 = .ok (.iconst 0, 1) := by decide +kernel
theorem dMo_seenUntil_14 : decode cMo_seenUntil 14 = .ok (.istore 6, 2) := by decide +kernel
theorem dMo_seenUntil_16 : decode cMo_seenUntil 16 = .ok (.iload 6, 2) := by decide +kernel
theorem dMo_seenUntil_18 : decode cMo_seenUntil 18 = .ok (.aload_n 0, 1) := by decide +kernel
theorem dMo_seenUntil_19 : decode cMo_seenUntil 19 = .ok (.getfield 142, 3) := by decide +kernel
theorem dMo_seenUntil_22 : decode cMo_seenUntil 22 = .ok (.if_icmp .ge 44, 3) := by decide +kernel
theorem dMo_seenUntil_25 : decode cMo_seenUntil 25 = .ok (.aload_n 0, 1) := by decide +kernel
theorem dMo_seenUntil_26 : decode cMo_seenUntil 26 = .ok (.getfield 53, 3) := by decide +kernel
theorem dMo_seenUntil_29 : decode cMo_seenUntil 29 = .ok (.iload 6, 2) := by decide +kernel
theorem dMo_seenUntil_31 : decode cMo_seenUntil 31 = .ok (.laload, 1) := by decide +kernel
theorem dMo_seenUntil_32 : decode cMo_seenUntil 32 = .ok (.lload_n 3, 1) := by decide +kernel
theorem dMo_seenUntil_33 : decode cMo_seenUntil 33 = .ok (.lcmp, 1) := by decide +kernel
theorem dMo_seenUntil_34 : decode cMo_seenUntil 34 = .ok (.ifCond .gt 26, 3) := by decide +kernel
theorem dMo_seenUntil_37 : decode cMo_seenUntil 37 = .ok (.aload_n 0, 1) := by decide +kernel
theorem dMo_seenUntil_38 : decode cMo_seenUntil 38 = .ok (.getfield 56, 3) := by decide +kernel
theorem dMo_seenUntil_41 : decode cMo_seenUntil 41 = .ok (.iload 6, 2) := by decide +kernel
theorem dMo_seenUntil_43 : decode cMo_seenUntil 43 = .ok (.laload, 1) := by decide +kernel
theorem dMo_seenUntil_44 : decode cMo_seenUntil 44 = .ok (.lload_n 3, 1) := by decide +kernel
theorem dMo_seenUntil_45 : decode cMo_seenUntil 45 = .ok (.lcmp, 1) := by decide +kernel
theorem dMo_seenUntil_46 : decode cMo_seenUntil 46 = .ok (.ifCond .le 14, 3) := by decide +kernel
theorem dMo_seenUntil_49 : decode cMo_seenUntil 49 = .ok (.aload_n 0, 1) := by decide +kernel
theorem dMo_seenUntil_50 : decode cMo_seenUntil 50 = .ok (.getfield 56, 3) := by decide +kernel
theorem dMo_seenUntil_53 : decode cMo_seenUntil 53 = .ok (.iload 6, 2) := by decide +kernel
theorem dMo_seenUntil_55 : decode cMo_seenUntil 55 = .ok (.laload, 1) := by decide +kernel
theorem dMo_seenUntil_56 : decode cMo_seenUntil 56 = .ok (.lstore_n 3, 1) := by decide +kernel
theorem dMo_seenUntil_57 : decode cMo_seenUntil 57 = .ok (.iconst 1, 1) := by decide +kernel
theorem dMo_seenUntil_58 : decode cMo_seenUntil 58 = .ok (.istore 5, 2) := by decide +kernel
theorem dMo_seenUntil_60 : decode cMo_seenUntil 60 = .ok (.iinc 6 1, 3) := by decide +kernel
theorem dMo_seenUntil_63 : decode cMo_seenUntil 63 = .ok (.goto (-47), 3) := by decide +kernel
theorem dMo_seenUntil_66 : decode cMo_seenUntil 66 = .ok (.goto (-61), 3) := by decide +kernel
theorem dMo_seenUntil_69 : decode cMo_seenUntil 69 = .ok (.lload_n 3, 1) := by decide +kernel
theorem dMo_seenUntil_70 : decode cMo_seenUntil 70 = .ok (.lreturn, 1) := by decide +kernel
theorem dMo_nextSeen_0 : decode cMo_nextSeen 0 = .ok (.lload_n 3, 1) := by decide +kernel
theorem dMo_nextSeen_1 : decode cMo_nextSeen 1 = .ok (.lstore 5, 2) := by decide +kernel
theorem dMo_nextSeen_3 : decode cMo_nextSeen 3 = .ok (.iconst 0, 1) := by decide +kernel
theorem dMo_nextSeen_4 : decode cMo_nextSeen 4 = .ok (.istore 7, 2) := by decide +kernel
theorem dMo_nextSeen_6 : decode cMo_nextSeen 6 = .ok (.iload 7, 2) := by decide +kernel
theorem dMo_nextSeen_8 : decode cMo_nextSeen 8 = .ok (.aload_n 0, 1) := by decide +kernel
theorem dMo_nextSeen_9 : decode cMo_nextSeen 9 = .ok (.getfield 142, 3) := by decide +kernel
theorem dMo_nextSeen_12 : decode cMo_nextSeen 12 = .ok (.if_icmp .ge 48, 3) := by decide +kernel
theorem dMo_nextSeen_15 : decode cMo_nextSeen 15 = .ok (.aload_n 0, 1) := by decide +kernel
theorem dMo_nextSeen_16 : decode cMo_nextSeen 16 = .ok (.getfield 53, 3) := by decide +kernel
theorem dMo_nextSeen_19 : decode cMo_nextSeen 19 = .ok (.iload 7, 2) := by decide +kernel
theorem dMo_nextSeen_21 : decode cMo_nextSeen 21 = .ok (.laload, 1) := by decide +kernel
theorem dMo_nextSeen_22 : decode cMo_nextSeen 22 = .ok (.lload_n 1, 1) := by decide +kernel
theorem dMo_nextSeen_23 : decode cMo_nextSeen 23 = .ok (.lcmp, 1) := by decide +kernel
theorem dMo_nextSeen_24 : decode cMo_nextSeen 24 = .ok (.ifCond .le 26, 3) := by decide +kernel
theorem dMo_nextSeen_27 : decode cMo_nextSeen 27 = .ok (.aload_n 0, 1) := by decide +kernel
theorem dMo_nextSeen_28 : decode cMo_nextSeen 28 = .ok (.getfield 53, 3) := by decide +kernel
theorem dMo_nextSeen_31 : decode cMo_nextSeen 31 = .ok (.iload 7, 2) := by decide +kernel
theorem dMo_nextSeen_33 : decode cMo_nextSeen 33 = .ok (.laload, 1) := by decide +kernel
theorem dMo_nextSeen_34 : decode cMo_nextSeen 34 = .ok (.lload 5, 2) := by decide +kernel
theorem dMo_nextSeen_36 : decode cMo_nextSeen 36 = .ok (.lcmp, 1) := by decide +kernel
theorem dMo_nextSeen_37 : decode cMo_nextSeen 37 = .ok (.ifCond .ge 13, 3) := by decide +kernel
theorem dMo_nextSeen_40 : decode cMo_nextSeen 40 = .ok (.aload_n 0, 1) := by decide +kernel
theorem dMo_nextSeen_41 : decode cMo_nextSeen 41 = .ok (.getfield 53, 3) := by decide +kernel
theorem dMo_nextSeen_44 : decode cMo_nextSeen 44 = .ok (.iload 7, 2) := by decide +kernel
theorem dMo_nextSeen_46 : decode cMo_nextSeen 46 = .ok (.laload, 1) := by decide +kernel
theorem dMo_nextSeen_47 : decode cMo_nextSeen 47 = .ok (.goto 5, 3) := by decide +kernel
theorem dMo_nextSeen_50 : decode cMo_nextSeen 50 = .ok (.lload 5, 2) := by decide +kernel
theorem dMo_nextSeen_52 : decode cMo_nextSeen 52 = .ok (.lstore 5, 2) := by decide +kernel
theorem dMo_nextSeen_54 : decode cMo_nextSeen 54 = .ok (.iinc 7 1, 3) := by decide +kernel
theorem dMo_nextSeen_57 : decode cMo_nextSeen 57 = .ok (.goto (-51), 3) := by decide +kernel
theorem dMo_nextSeen_60 : decode cMo_nextSeen 60 = .ok (.lload 5, 2) := by decide +kernel
theorem dMo_nextSeen_62 : decode cMo_nextSeen 62 = .ok (.lreturn, 1) := by decide +kernel
theorem dMo_measure_0 : decode cMo_measure 0 = .ok (.iload_n 1, 1) := by decide +kernel
theorem dMo_measure_1 : decode cMo_measure 1 = .ok (.ifCond .lt 27, 3) := by decide +kernel
theorem dMo_measure_4 : decode cMo_measure 4 = .ok (.iload_n 1, 1) := by decide +kernel
theorem dMo_measure_5 : decode cMo_measure 5 = .ok (.aload_n 0, 1) := by decide +kernel
theorem dMo_measure_6 : decode cMo_measure 6 = .ok (.getfield 105, 3) := by decide +kernel
theorem dMo_measure_9 : decode cMo_measure 9 = .ok (.if_icmp .ge 19, 3) := by decide +kernel
theorem dMo_measure_12 : decode cMo_measure 12 = .ok (.iload_n 2, 1) := by decide +kernel
theorem dMo_measure_13 : decode cMo_measure 13 = .ok (.ifCond .lt 15, 3) := by decide +kernel
theorem dMo_measure_16 : decode cMo_measure 16 = .ok (.iload_n 2, 1) := by decide +kernel
theorem dMo_measure_17 : decode cMo_measure 17 = .ok (.aload_n 0, 1) := by decide +kernel
theorem dMo_measure_18 : decode cMo_measure 18 = .ok (.getfield 105, 3) := by decide +kernel
theorem dMo_measure_21 : decode cMo_measure 21 = .ok (.if_icmp .ge 7, 3) := by decide +kernel
theorem dMo_measure_24 : decode cMo_measure 24 = .ok (.iconst 1, 1) := by decide +kernel
theorem dMo_measure_25 : decode cMo_measure 25 = .ok (.goto 4, 3) := by decide +kernel
theorem dMo_measure_28 : decode cMo_measure 28 = .ok (.iconst 0, 1) := by decide +kernel
theorem dMo_measure_29 : decode cMo_measure 29 = .ok (.istore 4, 2) := by decide +kernel
theorem dMo_measure_31 : decode cMo_measure 31 = .ok (.aload_n 0, 1) := by decide +kernel
theorem dMo_measure_32 : decode cMo_measure 32 = .ok (.iload 4, 2) := by decide +kernel
theorem dMo_measure_34 : decode cMo_measure 34 = .ok (.ifCond .ne 7, 3) := by decide +kernel
theorem dMo_measure_37 : decode cMo_measure 37 = .ok (.iconst 1, 1) := by decide +kernel
theorem dMo_measure_38 : decode cMo_measure 38 = .ok (.goto 30, 3) := by decide +kernel
theorem dMo_measure_41 : decode cMo_measure 41 = .ok (.aload_n 0, 1) := by decide +kernel
theorem dMo_measure_42 : decode cMo_measure 42 = .ok (.getfield 199, 3) := by decide +kernel
theorem dMo_measure_45 : decode cMo_measure 45 = .ok (.bipush 30, 2) := by decide +kernel
theorem dMo_measure_47 : decode cMo_measure 47 = .ok (.if_icmp .ne 7, 3) := by decide +kernel
theorem dMo_measure_50 : decode cMo_measure 50 = .ok (.iconst 2, 1) := by decide +kernel
theorem dMo_measure_51 : decode cMo_measure 51 = .ok (.goto 17, 3) := by decide +kernel
theorem dMo_measure_54 : decode cMo_measure 54 = .ok (.iload_n 3, 1) := by decide +kernel
theorem dMo_measure_55 : decode cMo_measure 55 = .ok (.ifCond .lt 8, 3) := by decide +kernel
theorem dMo_measure_58 : decode cMo_measure 58 = .ok (.iload_n 3, 1) := by decide +kernel
theorem dMo_measure_59 : decode cMo_measure 59 = .ok (.iconst 2, 1) := by decide +kernel
theorem dMo_measure_60 : decode cMo_measure 60 = .ok (.if_icmp .le 7, 3) := by decide +kernel
theorem dMo_measure_63 : decode cMo_measure 63 = .ok (.iconst 3, 1) := by decide +kernel
theorem dMo_measure_64 : decode cMo_measure 64 = .ok (.goto 4, 3) := by decide +kernel
theorem dMo_measure_67 : decode cMo_measure 67 = .ok (.iconst 0, 1) := by decide +kernel
theorem dMo_measure_68 : decode cMo_measure 68 = .ok (.putfield 93, 3) := by decide +kernel
theorem dMo_measure_71 : decode cMo_measure 71 = .ok (.aload_n 0, 1) := by decide +kernel
theorem dMo_measure_72 : decode cMo_measure 72 = .ok (.getfield 93, 3) := by decide +kernel
theorem dMo_measure_75 : decode cMo_measure 75 = .ok (.ifCond .le 5, 3) := by decide +kernel
theorem dMo_measure_78 : decode cMo_measure 78 = .ok (.iconst 0, 1) := by decide +kernel
theorem dMo_measure_79 : decode cMo_measure 79 = .ok (.ireturn, 1) := by decide +kernel
theorem dMo_measure_80 : decode cMo_measure 80 = .ok (.aload_n 0, 1) := by decide +kernel
theorem dMo_measure_81 : decode cMo_measure 81 = .ok (.getfield 7, 3) := by decide +kernel
theorem dMo_measure_84 : decode cMo_measure 84 = .ok (.iconst 3, 1) := by decide +kernel
theorem dMo_measure_85 : decode cMo_measure 85 = .ok (.iload_n 1, 1) := by decide +kernel
theorem dMo_measure_86 : decode cMo_measure 86 = .ok (.imul, 1) := by decide +kernel
theorem dMo_measure_87 : decode cMo_measure 87 = .ok (.iload_n 3, 1) := by decide +kernel
theorem dMo_measure_88 : decode cMo_measure 88 = .ok (.iadd, 1) := by decide +kernel
theorem dMo_measure_89 : decode cMo_measure 89 = .ok (.laload, 1) := by decide +kernel
theorem dMo_measure_90 : decode cMo_measure 90 = .ok (.lstore 5, 2) := by decide +kernel
theorem dMo_measure_92 : decode cMo_measure 92 = .ok (.aload_n 0, 1) := by decide +kernel
theorem dMo_measure_93 : decode cMo_measure 93 = .ok (.getfield 7, 3) := by decide +kernel
theorem dMo_measure_96 : decode cMo_measure 96 = .ok (.iconst 3, 1) := by decide +kernel
theorem dMo_measure_97 : decode cMo_measure 97 = .ok (.iload_n 2, 1) := by decide +kernel
theorem dMo_measure_98 : decode cMo_measure 98 = .ok (.imul, 1) := by decide +kernel
theorem dMo_measure_99 : decode cMo_measure 99 = .ok (.iload_n 3, 1) := by decide +kernel
theorem dMo_measure_100 : decode cMo_measure 100 = .ok (.iadd, 1) := by decide +kernel
theorem dMo_measure_101 : decode cMo_measure 101 = .ok (.laload, 1) := by decide +kernel
theorem dMo_measure_102 : decode cMo_measure 102 = .ok (.lstore 7, 2) := by decide +kernel
theorem dMo_measure_104 : decode cMo_measure 104 = .ok (.lload 5, 2) := by decide +kernel
theorem dMo_measure_106 : decode cMo_measure 106 = .ok (.lload 7, 2) := by decide +kernel
theorem dMo_measure_108 : decode cMo_measure 108 = .ok (.lcmp, 1) := by decide +kernel
theorem dMo_measure_109 : decode cMo_measure 109 = .ok (.ifCond .ne 5, 3) := by decide +kernel
theorem dMo_measure_112 : decode cMo_measure 112 = .ok (.iconst (-1), 1) := by decide +kernel
theorem dMo_measure_113 : decode cMo_measure 113 = .ok (.ireturn, 1) := by decide +kernel
theorem dMo_measure_114 : decode cMo_measure 114 = .ok (.lload 5, 2) := by decide +kernel
theorem dMo_measure_116 : decode cMo_measure 116 = .ok (.lload 7, 2) := by decide +kernel
theorem dMo_measure_118 : decode cMo_measure 118 = .ok (.lcmp, 1) := by decide +kernel
theorem dMo_measure_119 : decode cMo_measure 119 = .ok (.ifCond .ge 8, 3) := by decide +kernel
theorem dMo_measure_122 : decode cMo_measure 122 = .ok (.lload 5, 2) := by decide +kernel
theorem dMo_measure_124 : decode cMo_measure 124 = .ok (.goto 5, 3) := by decide +kernel
theorem dMo_measure_127 : decode cMo_measure 127 = .ok (.lload 7, 2) := by decide +kernel
theorem dMo_measure_129 : decode cMo_measure 129 = .ok (.lstore 9, 2) := by decide +kernel
theorem dMo_measure_131 : decode cMo_measure 131 = .ok (.lload 5, 2) := by decide +kernel
theorem dMo_measure_133 : decode cMo_measure 133 = .ok (.lload 7, 2) := by decide +kernel
theorem dMo_measure_135 : decode cMo_measure 135 = .ok (.lcmp, 1) := by decide +kernel
theorem dMo_measure_136 : decode cMo_measure 136 = .ok (.ifCond .ge 8, 3) := by decide +kernel
theorem dMo_measure_139 : decode cMo_measure 139 = .ok (.lload 7, 2) := by decide +kernel
theorem dMo_measure_141 : decode cMo_measure 141 = .ok (.goto 5, 3) := by decide +kernel
theorem dMo_measure_144 : decode cMo_measure 144 = .ok (.lload 5, 2) := by decide +kernel
theorem dMo_measure_146 : decode cMo_measure 146 = .ok (.lstore 11, 2) := by decide +kernel
theorem dMo_measure_148 : decode cMo_measure 148 = .ok (.iconst 0, 1) := by decide +kernel
theorem dMo_measure_149 : decode cMo_measure 149 = .ok (.istore 13, 2) := by decide +kernel
theorem dMo_measure_151 : decode cMo_measure 151 = .ok (.iconst 1, 1) := by decide +kernel
theorem dMo_measure_152 : decode cMo_measure 152 = .ok (.istore 14, 2) := by decide +kernel
theorem dMo_measure_154 : decode cMo_measure 154 = .ok (.iload 14, 2) := by decide +kernel
theorem dMo_measure_156 : decode cMo_measure 156 = .ok (.ifCond .eq 104, 3) := by decide +kernel
theorem dMo_measure_159 : decode cMo_measure 159 = .ok (.iconst 0, 1) := by decide +kernel
theorem dMo_measure_160 : decode cMo_measure 160 = .ok (.istore 14, 2) := by decide +kernel
theorem dMo_measure_162 : decode cMo_measure 162 = .ok (.iconst 0, 1) := by decide +kernel
theorem dMo_measure_163 : decode cMo_measure 163 = .ok (.istore 15, 2) := by decide +kernel
theorem dMo_measure_165 : decode cMo_measure 165 = .ok (.iload 15, 2) := by decide +kernel
theorem dMo_measure_167 : decode cMo_measure 167 = .ok (.aload_n 0, 1) := by decide +kernel
theorem dMo_measure_168 : decode cMo_measure 168 = .ok (.getfield 199, 3) := by decide +kernel
theorem dMo_measure_171 : decode cMo_measure 171 = .ok (.if_icmp .ge 70, 3) := by decide +kernel
theorem dMo_measure_174 : decode cMo_measure 174 = .ok (.iload 14, 2) := by decide +kernel
theorem dMo_measure_176 : decode cMo_measure 176 = .ok (.ifCond .ne 52, 3) := by decide +kernel
theorem dMo_measure_179 : decode cMo_measure 179 = .ok (.aload_n 0, 1) := by decide +kernel
theorem dMo_measure_180 : decode cMo_measure 180 = .ok (.getfield 65, 3) := by decide +kernel
theorem dMo_measure_183 : decode cMo_measure 183 = .ok (.iload 15, 2) := by decide +kernel
theorem dMo_measure_185 : decode cMo_measure 185 = .ok (.iaload, 1) := by decide +kernel
theorem dMo_measure_186 : decode cMo_measure 186 = .ok (.iload_n 3, 1) := by decide +kernel
theorem dMo_measure_187 : decode cMo_measure 187 = .ok (.if_icmp .ne 45, 3) := by decide +kernel
theorem dMo_measure_190 : decode cMo_measure 190 = .ok (.aload_n 0, 1) := by decide +kernel
theorem dMo_measure_191 : decode cMo_measure 191 = .ok (.getfield 74, 3) := by decide +kernel
theorem dMo_measure_194 : decode cMo_measure 194 = .ok (.iload 15, 2) := by decide +kernel
theorem dMo_measure_196 : decode cMo_measure 196 = .ok (.iaload, 1) := by decide +kernel
theorem dMo_measure_197 : decode cMo_measure 197 = .ok (.iload 13, 2) := by decide +kernel
theorem dMo_measure_199 : decode cMo_measure 199 = .ok (.if_icmp .ne 33, 3) := by decide +kernel
theorem dMo_measure_202 : decode cMo_measure 202 = .ok (.aload_n 0, 1) := by decide +kernel
theorem dMo_measure_203 : decode cMo_measure 203 = .ok (.getfield 68, 3) := by decide +kernel
theorem dMo_measure_206 : decode cMo_measure 206 = .ok (.iload 15, 2) := by decide +kernel
theorem dMo_measure_208 : decode cMo_measure 208 = .ok (.laload, 1) := by decide +kernel
theorem dMo_measure_209 : decode cMo_measure 209 = .ok (.lload 11, 2) := by decide +kernel
theorem dMo_measure_211 : decode cMo_measure 211 = .ok (.lcmp, 1) := by decide +kernel
theorem dMo_measure_212 : decode cMo_measure 212 = .ok (.ifCond .ge 20, 3) := by decide +kernel
theorem dMo_measure_215 : decode cMo_measure 215 = .ok (.aload_n 0, 1) := by decide +kernel
theorem dMo_measure_216 : decode cMo_measure 216 = .ok (.getfield 71, 3) := by decide +kernel
theorem dMo_measure_219 : decode cMo_measure 219 = .ok (.iload 15, 2) := by decide +kernel
theorem dMo_measure_221 : decode cMo_measure 221 = .ok (.laload, 1) := by decide +kernel
theorem dMo_measure_222 : decode cMo_measure 222 = .ok (.lload 9, 2) := by decide +kernel
theorem dMo_measure_224 : decode cMo_measure 224 = .ok (.lcmp, 1) := by decide +kernel
theorem dMo_measure_225 : decode cMo_measure 225 = .ok (.ifCond .le 7, 3) := by decide +kernel
theorem dMo_measure_228 : decode cMo_measure 228 = .ok (.iconst 1, 1) := by decide +kernel
theorem dMo_measure_229 : decode cMo_measure 229 = .ok (.goto 4, 3) := by decide +kernel
theorem dMo_measure_232 : decode cMo_measure 232 = .ok (.iconst 0, 1) := by decide +kernel
theorem dMo_measure_233 : decode cMo_measure 233 = .ok (.istore 14, 2) := by decide +kernel
theorem dMo_measure_235 : decode cMo_measure 235 = .ok (.iinc 15 1, 3) := by decide +kernel
theorem dMo_measure_238 : decode cMo_measure 238 = .ok (.goto (-73), 3) := by decide +kernel
theorem dMo_measure_241 : decode cMo_measure 241 = .ok (.iload 14, 2) := by decide +kernel
theorem dMo_measure_243 : decode cMo_measure 243 = .ok (.ifCond .eq 10, 3) := by decide +kernel
theorem dMo_measure_246 : decode cMo_measure 246 = .ok (.iload 13, 2) := by decide +kernel
theorem dMo_measure_248 : decode cMo_measure 248 = .ok (.iconst 1, 1) := by decide +kernel
theorem dMo_measure_249 : decode cMo_measure 249 = .ok (.iadd, 1) := by decide +kernel
theorem dMo_measure_250 : decode cMo_measure 250 = .ok (.goto 5, 3) := by decide +kernel
theorem dMo_measure_253 : decode cMo_measure 253 = .ok (.iload 13, 2) := by decide +kernel
theorem dMo_measure_255 : decode cMo_measure 255 = .ok (.istore 13, 2) := by decide +kernel
theorem dMo_measure_257 : decode cMo_measure 257 = .ok (.goto (-103), 3) := by decide +kernel
theorem dMo_measure_260 : decode cMo_measure 260 = .ok (.aload_n 0, 1) := by decide +kernel
theorem dMo_measure_261 : decode cMo_measure 261 = .ok (.getfield 65, 3) := by decide +kernel
theorem dMo_measure_264 : decode cMo_measure 264 = .ok (.aload_n 0, 1) := by decide +kernel
theorem dMo_measure_265 : decode cMo_measure 265 = .ok (.getfield 199, 3) := by decide +kernel
theorem dMo_measure_268 : decode cMo_measure 268 = .ok (.iload_n 3, 1) := by decide +kernel
theorem dMo_measure_269 : decode cMo_measure 269 = .ok (.iastore, 1) := by decide +kernel
theorem dMo_measure_270 : decode cMo_measure 270 = .ok (.aload_n 0, 1) := by decide +kernel
theorem dMo_measure_271 : decode cMo_measure 271 = .ok (.getfield 68, 3) := by decide +kernel
theorem dMo_measure_274 : decode cMo_measure 274 = .ok (.aload_n 0, 1) := by decide +kernel
theorem dMo_measure_275 : decode cMo_measure 275 = .ok (.getfield 199, 3) := by decide +kernel
theorem dMo_measure_278 : decode cMo_measure 278 = .ok (.lload 9, 2) := by decide +kernel
theorem dMo_measure_280 : decode cMo_measure 280 = .ok (.lastore, 1) := by decide +kernel
theorem dMo_measure_281 : decode cMo_measure 281 = .ok (.aload_n 0, 1) := by decide +kernel
theorem dMo_measure_282 : decode cMo_measure 282 = .ok (.getfield 71, 3) := by decide +kernel
theorem dMo_measure_285 : decode cMo_measure 285 = .ok (.aload_n 0, 1) := by decide +kernel
theorem dMo_measure_286 : decode cMo_measure 286 = .ok (.getfield 199, 3) := by decide +kernel
theorem dMo_measure_289 : decode cMo_measure 289 = .ok (.lload 11, 2) := by decide +kernel
theorem dMo_measure_291 : decode cMo_measure 291 = .ok (.lastore, 1) := by decide +kernel
theorem dMo_measure_292 : decode cMo_measure 292 = .ok (.aload_n 0, 1) := by decide +kernel
theorem dMo_measure_293 : decode cMo_measure 293 = .ok (.getfield 74, 3) := by decide +kernel
theorem dMo_measure_296 : decode cMo_measure 296 = .ok (.aload_n 0, 1) := by decide +kernel
theorem dMo_measure_297 : decode cMo_measure 297 = .ok (.getfield 199, 3) := by decide +kernel
theorem dMo_measure_300 : decode cMo_measure 300 = .ok (.iload 13, 2) := by decide +kernel
theorem dMo_measure_302 : decode cMo_measure 302 = .ok (.iastore, 1) := by decide +kernel
theorem dMo_measure_303 : decode cMo_measure 303 = .ok (.aload_n 0, 1) := by decide +kernel
theorem dMo_measure_304 : decode cMo_measure 304 = .ok (.dup, 1) := by decide +kernel
theorem dMo_measure_305 : decode cMo_measure 305 = .ok (.getfield 199, 3) := by decide +kernel
theorem dMo_measure_308 : decode cMo_measure 308 = .ok (.iconst 1, 1) := by decide +kernel
theorem dMo_measure_309 : decode cMo_measure 309 = .ok (.iadd, 1) := by decide +kernel
theorem dMo_measure_310 : decode cMo_measure 310 = .ok (.putfield 199, 3) := by decide +kernel
theorem dMo_measure_313 : decode cMo_measure 313 = .ok (.aload_n 0, 1) := by decide +kernel
theorem dMo_measure_314 : decode cMo_measure 314 = .ok (.getfield 199, 3) := by decide +kernel
theorem dMo_measure_317 : decode cMo_measure 317 = .ok (.iconst 1, 1) := by decide +kernel
theorem dMo_measure_318 : decode cMo_measure 318 = .ok (.isub, 1) := by decide +kernel
theorem dMo_measure_319 : decode cMo_measure 319 = .ok (.ireturn, 1) := by decide +kernel
theorem dMo_keep_0 : decode cMo_keep 0 = .ok (.aload_n 0, 1) := by decide +kernel
theorem dMo_keep_1 : decode cMo_keep 1 = .ok (.invokevirtual 195, 3) := by decide +kernel
theorem dMo_keep_4 : decode cMo_keep 4 = .ok (.ifCond .eq 5, 3) := by decide +kernel
theorem dMo_keep_7 : decode cMo_keep 7 = .ok (.iconst 0, 1) := by decide +kernel
theorem dMo_keep_8 : decode cMo_keep 8 = .ok (.ireturn, 1) := by decide +kernel
theorem dMo_keep_9 : decode cMo_keep 9 = .ok (.iconst 0, 1) := by decide +kernel
theorem dMo_keep_10 : decode cMo_keep 10 = .ok (.istore_n 1, 1) := by decide +kernel
theorem dMo_keep_11 : decode cMo_keep 11 = .ok (.iload_n 1, 1) := by decide +kernel
theorem dMo_keep_12 : decode cMo_keep 12 = .ok (.aload_n 0, 1) := by decide +kernel
theorem dMo_keep_13 : decode cMo_keep 13 = .ok (.getfield 145, 3) := by decide +kernel
theorem dMo_keep_16 : decode cMo_keep 16 = .ok (.if_icmp .ge 69, 3) := by decide +kernel
theorem dMo_keep_19 : decode cMo_keep 19 = .ok (.aload_n 0, 1) := by decide +kernel
theorem dMo_keep_20 : decode cMo_keep 20 = .ok (.getfield 32, 3) := by decide +kernel
theorem dMo_keep_23 : decode cMo_keep 23 = .ok (.iload_n 1, 1) := by decide +kernel
theorem dMo_keep_24 : decode cMo_keep 24 = .ok (.aload_n 0, 1) := by decide +kernel
theorem dMo_keep_25 : decode cMo_keep 25 = .ok (.getfield 16, 3) := by decide +kernel
theorem dMo_keep_28 : decode cMo_keep 28 = .ok (.iload_n 1, 1) := by decide +kernel
theorem dMo_keep_29 : decode cMo_keep 29 = .ok (.iaload, 1) := by decide +kernel
theorem dMo_keep_30 : decode cMo_keep 30 = .ok (.iastore, 1) := by decide +kernel
theorem dMo_keep_31 : decode cMo_keep 31 = .ok (.aload_n 0, 1) := by decide +kernel
theorem dMo_keep_32 : decode cMo_keep 32 = .ok (.getfield 35, 3) := by decide +kernel
theorem dMo_keep_35 : decode cMo_keep 35 = .ok (.iload_n 1, 1) := by decide +kernel
theorem dMo_keep_36 : decode cMo_keep 36 = .ok (.aload_n 0, 1) := by decide +kernel
theorem dMo_keep_37 : decode cMo_keep 37 = .ok (.getfield 20, 3) := by decide +kernel
theorem dMo_keep_40 : decode cMo_keep 40 = .ok (.iload_n 1, 1) := by decide +kernel
theorem dMo_keep_41 : decode cMo_keep 41 = .ok (.laload, 1) := by decide +kernel
theorem dMo_keep_42 : decode cMo_keep 42 = .ok (.lastore, 1) := by decide +kernel
theorem dMo_keep_43 : decode cMo_keep 43 = .ok (.aload_n 0, 1) := by decide +kernel
theorem dMo_keep_44 : decode cMo_keep 44 = .ok (.getfield 38, 3) := by decide +kernel
theorem dMo_keep_47 : decode cMo_keep 47 = .ok (.iload_n 1, 1) := by decide +kernel
theorem dMo_keep_48 : decode cMo_keep 48 = .ok (.aload_n 0, 1) := by decide +kernel
theorem dMo_keep_49 : decode cMo_keep 49 = .ok (.getfield 23, 3) := by decide +kernel
theorem dMo_keep_52 : decode cMo_keep 52 = .ok (.iload_n 1, 1) := by decide +kernel
theorem dMo_keep_53 : decode cMo_keep 53 = .ok (.laload, 1) := by decide +kernel
theorem dMo_keep_54 : decode cMo_keep 54 = .ok (.lastore, 1) := by decide +kernel
theorem dMo_keep_55 : decode cMo_keep 55 = .ok (.aload_n 0, 1) := by decide +kernel
theorem dMo_keep_56 : decode cMo_keep 56 = .ok (.getfield 41, 3) := by decide +kernel
theorem dMo_keep_59 : decode cMo_keep 59 = .ok (.iload_n 1, 1) := by decide +kernel
theorem dMo_keep_60 : decode cMo_keep 60 = .ok (.aload_n 0, 1) := by decide +kernel
theorem dMo_keep_61 : decode cMo_keep 61 = .ok (.getfield 26, 3) := by decide +kernel
theorem dMo_keep_64 : decode cMo_keep 64 = .ok (.iload_n 1, 1) := by decide +kernel
theorem dMo_keep_65 : decode cMo_keep 65 = .ok (.laload, 1) := by decide +kernel
theorem dMo_keep_66 : decode cMo_keep 66 = .ok (.lastore, 1) := by decide +kernel
theorem dMo_keep_67 : decode cMo_keep 67 = .ok (.aload_n 0, 1) := by decide +kernel
theorem dMo_keep_68 : decode cMo_keep 68 = .ok (.getfield 44, 3) := by decide +kernel
theorem dMo_keep_71 : decode cMo_keep 71 = .ok (.iload_n 1, 1) := by decide +kernel
theorem dMo_keep_72 : decode cMo_keep 72 = .ok (.aload_n 0, 1) := by decide +kernel
theorem dMo_keep_73 : decode cMo_keep 73 = .ok (.getfield 29, 3) := by decide +kernel
theorem dMo_keep_76 : decode cMo_keep 76 = .ok (.iload_n 1, 1) := by decide +kernel
theorem dMo_keep_77 : decode cMo_keep 77 = .ok (.iaload, 1) := by decide +kernel
theorem dMo_keep_78 : decode cMo_keep 78 = .ok (.iastore, 1) := by decide +kernel
theorem dMo_keep_79 : decode cMo_keep 79 = .ok (.iinc 1 1, 3) := by decide +kernel
theorem dMo_keep_82 : decode cMo_keep 82 = .ok (.goto (-71), 3) := by decide +kernel
theorem dMo_keep_85 : decode cMo_keep 85 = .ok (.aload_n 0, 1) := by decide +kernel
theorem dMo_keep_86 : decode cMo_keep 86 = .ok (.aload_n 0, 1) := by decide +kernel
theorem dMo_keep_87 : decode cMo_keep 87 = .ok (.getfield 145, 3) := by decide +kernel
theorem dMo_keep_90 : decode cMo_keep 90 = .ok (.putfield 249, 3) := by decide +kernel
theorem dMo_keep_93 : decode cMo_keep 93 = .ok (.aload_n 0, 1) := by decide +kernel
theorem dMo_keep_94 : decode cMo_keep 94 = .ok (.iconst 1, 1) := by decide +kernel
theorem dMo_keep_95 : decode cMo_keep 95 = .ok (.putfield 252, 3) := by decide +kernel
theorem dMo_keep_98 : decode cMo_keep 98 = .ok (.aload_n 0, 1) := by decide +kernel
theorem dMo_keep_99 : decode cMo_keep 99 = .ok (.getfield 145, 3) := by decide +kernel
theorem dMo_keep_102 : decode cMo_keep 102 = .ok (.ireturn, 1) := by decide +kernel
theorem dMo_changed_0 : decode cMo_changed 0 = .ok (.aload_n 0, 1) := by decide +kernel
theorem dMo_changed_1 : decode cMo_changed 1 = .ok (.aload_n 0, 1) := by decide +kernel
theorem dMo_changed_2 : decode cMo_changed 2 = .ok (.getfield 108, 3) := by decide +kernel
theorem dMo_changed_5 : decode cMo_changed 5 = .ok (.ifCond .eq 10, 3) := by decide +kernel
theorem dMo_changed_8 : decode cMo_changed 8 = .ok (.aload_n 0, 1) := by decide +kernel
theorem dMo_changed_9 : decode cMo_changed 9 = .ok (.getfield 252, 3) := by decide +kernel
theorem dMo_changed_12 : decode cMo_changed 12 = .ok (.ifCond .ne 7, 3) := by decide +kernel
theorem dMo_changed_15 : decode cMo_changed 15 = .ok (.iconst 1, 1) := by decide +kernel
theorem dMo_changed_16 : decode cMo_changed 16 = .ok (.goto 12, 3) := by decide +kernel
theorem dMo_changed_19 : decode cMo_changed 19 = .ok (.iload_n 1, 1) := by decide +kernel
theorem dMo_changed_20 : decode cMo_changed 20 = .ok (.ifCond .ge 7, 3) := by decide +kernel
theorem dMo_changed_23 : decode cMo_changed 23 = .ok (.iconst 2, 1) := by decide +kernel
theorem dMo_changed_24 : decode cMo_changed 24 = .ok (.goto 4, 3) := by decide +kernel
theorem dMo_changed_27 : decode cMo_changed 27 = .ok (.iconst 0, 1) := by decide +kernel
theorem dMo_changed_28 : decode cMo_changed 28 = .ok (.putfield 93, 3) := by decide +kernel
theorem dMo_changed_31 : decode cMo_changed 31 = .ok (.iload_n 1, 1) := by decide +kernel
theorem dMo_changed_32 : decode cMo_changed 32 = .ok (.istore_n 2, 1) := by decide +kernel
theorem dMo_changed_33 : decode cMo_changed 33 = .ok (.iconst 0, 1) := by decide +kernel
theorem dMo_changed_34 : decode cMo_changed 34 = .ok (.istore_n 3, 1) := by decide +kernel
theorem dMo_changed_35 : decode cMo_changed 35 = .ok (.iload_n 3, 1) := by decide +kernel
theorem dMo_changed_36 : decode cMo_changed 36 = .ok (.aload_n 0, 1) := by decide +kernel
theorem dMo_changed_37 : decode cMo_changed 37 = .ok (.getfield 145, 3) := by decide +kernel
theorem dMo_changed_40 : decode cMo_changed 40 = .ok (.if_icmp .ge 33, 3) := by decide +kernel
theorem dMo_changed_43 : decode cMo_changed 43 = .ok (.aload_n 0, 1) := by decide +kernel
theorem dMo_changed_44 : decode cMo_changed 44 = .ok (.getfield 93, 3) := by decide +kernel
theorem dMo_changed_47 : decode cMo_changed 47 = .ok (.ifCond .ne 26, 3) := by decide +kernel
theorem dMo_changed_50 : decode cMo_changed 50 = .ok (.aload_n 0, 1) := by decide +kernel
theorem dMo_changed_51 : decode cMo_changed 51 = .ok (.iload_n 3, 1) := by decide +kernel
theorem dMo_changed_52 : decode cMo_changed 52 = .ok (.invokevirtual 255, 3) := by decide +kernel
theorem dMo_changed_55 : decode cMo_changed 55 = .ok (.ifCond .ne 12, 3) := by decide +kernel
theorem dMo_changed_58 : decode cMo_changed 58 = .ok (.iload_n 2, 1) := by decide +kernel
theorem dMo_changed_59 : decode cMo_changed 59 = .ok (.ifCond .ne 5, 3) := by decide +kernel
theorem dMo_changed_62 : decode cMo_changed 62 = .ok (.iload_n 3, 1) := by decide +kernel
theorem dMo_changed_63 : decode cMo_changed 63 = .ok (.ireturn, 1) := by decide +kernel
theorem dMo_changed_64 : decode cMo_changed 64 = .ok (.iinc 2 (-1), 3) := by decide +kernel
theorem dMo_changed_67 : decode cMo_changed 67 = .ok (.iinc 3 1, 3) := by decide +kernel
theorem dMo_changed_70 : decode cMo_changed 70 = .ok (.goto (-35), 3) := by decide +kernel
theorem dMo_changed_73 : decode cMo_changed 73 = .ok (.aload_n 0, 1) := by decide +kernel
theorem dMo_changed_74 : decode cMo_changed 74 = .ok (.getfield 93, 3) := by decide +kernel
theorem dMo_changed_77 : decode cMo_changed 77 = .ok (.ifCond .le 7, 3) := by decide +kernel
theorem dMo_changed_80 : decode cMo_changed 80 = .ok (.iconst 0, 1) := by decide +kernel
theorem dMo_changed_81 : decode cMo_changed 81 = .ok (.goto 4, 3) := by decide +kernel
theorem dMo_changed_84 : decode cMo_changed 84 = .ok (.iconst (-1), 1) := by decide +kernel
theorem dMo_changed_85 : decode cMo_changed 85 = .ok (.ireturn, 1) := by decide +kernel
set_option maxRecDepth 100000 in
theorem kcMo_148 : Cond.constantLong "PartDrawingsModel" 148 (zL 10000000) ∈ gW := by
  have e : zL 10000000 = (10000000 : Int64) := by decide
  rw [e]; exact gW_1 1365 rfl rfl
set_option maxRecDepth 100000 in
theorem flMo_131 : Cond.fieldLink "PartDrawingsModel" 131 (TMo 20).1 (TMo 20).2.1 (TMo 20).2.2.1 ∈ gW := gW_1 1226 rfl rfl
set_option maxRecDepth 100000 in
theorem flMo_47 : Cond.fieldLink "PartDrawingsModel" 47 (TMo 21).1 (TMo 21).2.1 (TMo 21).2.2.1 ∈ gW := gW_1 1227 rfl rfl
set_option maxRecDepth 100000 in
theorem flMo_142 : Cond.fieldLink "PartDrawingsModel" 142 (TMo 23).1 (TMo 23).2.1 (TMo 23).2.2.1 ∈ gW := gW_1 1229 rfl rfl
set_option maxRecDepth 100000 in
theorem flMo_53 : Cond.fieldLink "PartDrawingsModel" 53 (TMo 24).1 (TMo 24).2.1 (TMo 24).2.2.1 ∈ gW := gW_1 1230 rfl rfl
set_option maxRecDepth 100000 in
theorem flMo_50 : Cond.fieldLink "PartDrawingsModel" 50 (TMo 22).1 (TMo 22).2.1 (TMo 22).2.2.1 ∈ gW := gW_1 1228 rfl rfl
set_option maxRecDepth 100000 in
theorem flMo_56 : Cond.fieldLink "PartDrawingsModel" 56 (TMo 25).1 (TMo 25).2.1 (TMo 25).2.2.1 ∈ gW := gW_1 1231 rfl rfl
set_option maxRecDepth 100000 in
theorem flMo_252 : Cond.fieldLink "PartDrawingsModel" 252 (TMo 13).1 (TMo 13).2.1 (TMo 13).2.2.1 ∈ gW := gW_1 1219 rfl rfl
set_option maxRecDepth 100000 in
theorem kMo_255 : inT (kV "PartDrawingsModel" 255 yMo_isKept cMo_isKept 4 (some .boolean)) := gW_l [1509, 1511, 44, 61, 1512] rfl (by decide +kernel)
set_option maxHeartbeats 4000000 in
set_option maxRecDepth 100000 in
theorem m_nextEdge (l : Launch) (D : va_G) (cI cG cL cB : ClassId) (m0 : Nat) (cd : Int) (wi : Int) (hi : Int) (bn : Int) (af : Nat) (at_ : Nat) (dr : Int) (sz : Int) (au : Nat) (ap : Nat) (ab : Nat) (ae : Nat) (ah : Nat) (kp : Int) (ks : Int) (ku : Nat) (kq : Nat) (kb : Nat) (ke : Nat) (kh : Nat) (als : Int) (gf : Nat) (gt : Nat) (ses : Int) (sf : Nat) (st : Nat) (les : Int) (ef : Nat) (et : Nat) (mes : Int) (xa : Nat) (xf : Nat) (xt : Nat) (xr : Nat) (lb : Nat) (lbs : Int) (so : Nat) (AFr : Int → Int) (q : Int) (bAFr : ∀ j : Int, I64 (AFr j)) (hn0 : 0 ≤ als) (hn1 : als ≤ 200) (hJq : I64 q) : Cl l yMo_nextEdge cMo_nextEdge 6 (some .long) 0 0 0 D zCl (zT cI cG cL cB) [.ref m0, .long (zL q)] [(m0, .inr (10, [.int (zI cd), .long (zL wi), .long (zL hi), .int (zI bn), .ref af, .ref at_, .int (zI dr), .int (zI sz), .ref au, .ref ap, .ref ab, .ref ae, .ref ah, .int (zI kp), .int (zI ks), .ref ku, .ref kq, .ref kb, .ref ke, .ref kh, .int (zI als), .ref gf, .ref gt, .int (zI ses), .ref sf, .ref st, .int (zI les), .ref ef, .ref et, .int (zI mes), .ref xa, .ref xf, .ref xt, .ref xr, .ref lb, .int (zI lbs), .ref so])), (gf, .inl (cL, 200, .inr (.inl (fL AFr))))] (fun x w => x = zL (nxZ AFr als q 10000000) ∧ w = [(m0, .inr (10, [.int (zI cd), .long (zL wi), .long (zL hi), .int (zI bn), .ref af, .ref at_, .int (zI dr), .int (zI sz), .ref au, .ref ap, .ref ab, .ref ae, .ref ah, .int (zI kp), .int (zI ks), .ref ku, .ref kq, .ref kb, .ref ke, .ref kh, .int (zI als), .ref gf, .ref gt, .int (zI ses), .ref sf, .ref st, .int (zI les), .ref ef, .ref et, .int (zI mes), .ref xa, .ref xf, .ref xt, .ref xr, .ref lb, .int (zI lbs), .ref so])), (gf, .inl (cL, 200, .inr (.inl (fL AFr))))]) := by
  refine zBl (by decide) (Nat.le_of_ble_eq_true rfl) ?_
  intro p e s m args below meth c ls A H locs Q C hin hl hW hQ
  have hl : lv_has ls 6 [(0, .ref m0), (1, .long (zL q))] := hl
  refine zldc2 C kcMo_148 dMo_nextEdge_0 ?_
  refine lv_lstore_n (lv' := [(3, .long (zL 10000000)), (0, .ref m0), (1, .long (zL q))]) C.1 C.2.1 dMo_nextEdge_3 rfl hl (by decide) rfl (fun ls hl => ?_)
  refine lv_iconst (v := zI 0) C.1 C.2.1 dMo_nextEdge_4 (by decide) ?_
  refine lv_istore (lv' := [(5, .int (zI 0)), (3, .long (zL 10000000)), (0, .ref m0), (1, .long (zL q))]) C.1 C.2.1 dMo_nextEdge_5 hl (by decide) rfl (fun ls hl => ?_)
  have L7 : ∀ (N : Nat) (j : Int) (y_ : Int), (als - j).toNat < N → (0 ≤ j) → (j ≤ als) → (y_ = nxZ AFr j q 10000000) → (I64 y_) → ∀ (ls : Array Slot) (H : Heap) (locs : List Loc), lv_has ls 6 [(5, .int (zI j)), (3, .long (zL y_)), (0, .ref m0), (1, .long (zL q))] → zw D zCl A s [(m0, .inr (10, [.int (zI cd), .long (zL wi), .long (zL hi), .int (zI bn), .ref af, .ref at_, .int (zI dr), .int (zI sz), .ref au, .ref ap, .ref ab, .ref ae, .ref ah, .int (zI kp), .int (zI ks), .ref ku, .ref kq, .ref kb, .ref ke, .ref kh, .int (zI als), .ref gf, .ref gt, .int (zI ses), .ref sf, .ref st, .int (zI les), .ref ef, .ref et, .int (zI mes), .ref xa, .ref xf, .ref xt, .ref xr, .ref lb, .int (zI lbs), .ref so])), (gf, .inl (cL, 200, .inr (.inl (fL AFr))))] H locs → W p l e (zr 0 0 0) s m args below meth c H locs 0 0 Q (F0 m 7 ls []) := by
    intro N
    induction N with
    | zero => intro j y_ hm; exact absurd hm (Nat.not_lt_zero _)
    | succ N ih7 =>
      intro j y_ hm7 hi0 hi1 hy hyb ls H locs hl hW
      refine lv_iload C.1 C.2.1 dMo_nextEdge_7 (lv_at hl 0 rfl) ?_
      refine lv_aload_n C.1 C.2.1 dMo_nextEdge_9 rfl (lv_at hl 2 rfl) ?_
      refine zget C hW 0 20 rfl rfl inMo (by decide) flMo_131 rfl dMo_nextEdge_10 ?_
      refine zicmp_ge (tgt := 58) C (by omega) (by omega) dMo_nextEdge_13 (by decide) (fun c13 => ?_) (fun c13 => ?_)
      · refine lv_lload_n C.1 C.2.1 dMo_nextEdge_58 rfl (lv_at hl 1 rfl) ?_
        exact hQ (zL y_) _ H locs _ _ _ ls hW ⟨congrArg zL (by rw [hy, show als = j by omega]), rfl⟩ (by omega) (by omega) dMo_nextEdge_59
      · have L51 : ∀ (z_ : Int), (z_ = nxS q (AFr j) y_) → (I64 z_) → ∀ (ls : Array Slot) (H : Heap) (locs : List Loc), lv_has ls 6 [(5, .int (zI j)), (3, .long (zL y_)), (0, .ref m0), (1, .long (zL q))] → zw D zCl A s [(m0, .inr (10, [.int (zI cd), .long (zL wi), .long (zL hi), .int (zI bn), .ref af, .ref at_, .int (zI dr), .int (zI sz), .ref au, .ref ap, .ref ab, .ref ae, .ref ah, .int (zI kp), .int (zI ks), .ref ku, .ref kq, .ref kb, .ref ke, .ref kh, .int (zI als), .ref gf, .ref gt, .int (zI ses), .ref sf, .ref st, .int (zI les), .ref ef, .ref et, .int (zI mes), .ref xa, .ref xf, .ref xt, .ref xr, .ref lb, .int (zI lbs), .ref so])), (gf, .inl (cL, 200, .inr (.inl (fL AFr))))] H locs → W p l e (zr 0 0 0) s m args below meth c H locs 0 0 Q (F0 m 51 ls [.long (zL z_)]) := by
          intro z_ hz hzb ls H locs hl hW
          refine lv_lstore_n (lv' := [(3, .long (zL z_)), (5, .int (zI j)), (0, .ref m0), (1, .long (zL q))]) C.1 C.2.1 dMo_nextEdge_51 rfl hl (by decide) rfl (fun ls hl => ?_)
          refine lv_iinc (v := zI (j + 1)) (lv' := [(5, .int (zI (j + 1))), (3, .long (zL z_)), (0, .ref m0), (1, .long (zL q))]) C.1 C.2.1 dMo_nextEdge_52 hl (k := 1) rfl (zI_add j 1) (by decide) rfl (fun ls hl => ?_)
          refine lv_goto (tgt := 7) C.1 C.2.1 dMo_nextEdge_55 (by decide) ?_
          exact ih7 (j + 1) z_ (by omega) (by omega) (by omega) (by rw [nxZ_s _ _ _ hi0, ← hy]; exact hz) hzb ls H locs (lv_sub hl [0, 1, 2, 3] rfl) hW
        refine lv_aload_n C.1 C.2.1 dMo_nextEdge_16 rfl (lv_at hl 2 rfl) ?_
        refine zget C hW 0 21 rfl rfl inMo (by decide) flMo_47 rfl dMo_nextEdge_17 ?_
        refine lv_iload C.1 C.2.1 dMo_nextEdge_20 (lv_at hl 0 rfl) ?_
        refine zlald C hW 1 2 rfl rfl (by omega) (by omega) (by decide) dMo_nextEdge_22 ?_
        have hb1 := bAFr j
        refine lv_lload_n C.1 C.2.1 dMo_nextEdge_23 rfl (lv_at hl 3 rfl) ?_
        refine zlcmp_le (tgt := 50) C (by omega) (by omega) dMo_nextEdge_24 dMo_nextEdge_25 (by decide) (fun c24 => ?_) (fun c24 => ?_)
        · refine lv_lload_n C.1 C.2.1 dMo_nextEdge_50 rfl (lv_at hl 1 rfl) ?_
          exact L51 y_ (by unfold nxS; first | rw [if_pos (by omega)] | rw [if_neg (by omega)]) (by omega) ls H locs (lv_sub hl [0, 1, 2, 3] rfl) hW
        · refine lv_aload_n C.1 C.2.1 dMo_nextEdge_28 rfl (lv_at hl 2 rfl) ?_
          refine zget C hW 0 21 rfl rfl inMo (by decide) flMo_47 rfl dMo_nextEdge_29 ?_
          refine lv_iload C.1 C.2.1 dMo_nextEdge_32 (lv_at hl 0 rfl) ?_
          refine zlald C hW 1 2 rfl rfl (by omega) (by omega) (by decide) dMo_nextEdge_34 ?_
          have hb2 := bAFr j
          refine lv_lload_n C.1 C.2.1 dMo_nextEdge_35 rfl (lv_at hl 1 rfl) ?_
          refine zlcmp_ge (tgt := 50) C (by omega) (by omega) dMo_nextEdge_36 dMo_nextEdge_37 (by decide) (fun c36 => ?_) (fun c36 => ?_)
          · refine lv_lload_n C.1 C.2.1 dMo_nextEdge_50 rfl (lv_at hl 1 rfl) ?_
            exact L51 y_ (by unfold nxS; first | rw [if_pos (by omega)] | rw [if_neg (by omega)]) (by omega) ls H locs (lv_sub hl [0, 1, 2, 3] rfl) hW
          · refine lv_aload_n C.1 C.2.1 dMo_nextEdge_40 rfl (lv_at hl 2 rfl) ?_
            refine zget C hW 0 21 rfl rfl inMo (by decide) flMo_47 rfl dMo_nextEdge_41 ?_
            refine lv_iload C.1 C.2.1 dMo_nextEdge_44 (lv_at hl 0 rfl) ?_
            refine zlald C hW 1 2 rfl rfl (by omega) (by omega) (by decide) dMo_nextEdge_46 ?_
            have hb3 := bAFr j
            refine lv_goto (tgt := 51) C.1 C.2.1 dMo_nextEdge_47 (by decide) ?_
            exact L51 (AFr j) (by unfold nxS; first | rw [if_pos (by omega)] | rw [if_neg (by omega)]) (by omega) ls H locs (lv_sub hl [0, 1, 2, 3] rfl) hW
  exact L7 _ 0 10000000 (Nat.lt_succ_self _) (by omega) (by omega) rfl (by omega) ls H locs (lv_sub hl [0, 1, 2, 3] rfl) hW
set_option maxHeartbeats 4000000 in
set_option maxRecDepth 100000 in
theorem m_nextSeen (l : Launch) (D : va_G) (cI cG cL cB : ClassId) (m0 : Nat) (cd : Int) (wi : Int) (hi : Int) (bn : Int) (af : Nat) (at_ : Nat) (dr : Int) (sz : Int) (au : Nat) (ap : Nat) (ab : Nat) (ae : Nat) (ah : Nat) (kp : Int) (ks : Int) (ku : Nat) (kq : Nat) (kb : Nat) (ke : Nat) (kh : Nat) (als : Int) (gf : Nat) (gt : Nat) (ses : Int) (sf : Nat) (st : Nat) (les : Int) (ef : Nat) (et : Nat) (mes : Int) (xa : Nat) (xf : Nat) (xt : Nat) (xr : Nat) (lb : Nat) (lbs : Int) (so : Nat) (SFr : Int → Int) (q : Int) (fa : Int) (bSFr : ∀ j : Int, I64 (SFr j)) (hn0 : 0 ≤ ses) (hn1 : ses ≤ 6000) (hJq : I64 q) (hJfa : I64 fa) : Cl l yMo_nextSeen cMo_nextSeen 8 (some .long) 0 0 0 D zCl (zT cI cG cL cB) [.ref m0, .long (zL q), .long (zL fa)] [(m0, .inr (10, [.int (zI cd), .long (zL wi), .long (zL hi), .int (zI bn), .ref af, .ref at_, .int (zI dr), .int (zI sz), .ref au, .ref ap, .ref ab, .ref ae, .ref ah, .int (zI kp), .int (zI ks), .ref ku, .ref kq, .ref kb, .ref ke, .ref kh, .int (zI als), .ref gf, .ref gt, .int (zI ses), .ref sf, .ref st, .int (zI les), .ref ef, .ref et, .int (zI mes), .ref xa, .ref xf, .ref xt, .ref xr, .ref lb, .int (zI lbs), .ref so])), (sf, .inl (cL, 6000, .inr (.inl (fL SFr))))] (fun x w => x = zL (nxZ SFr ses q fa) ∧ w = [(m0, .inr (10, [.int (zI cd), .long (zL wi), .long (zL hi), .int (zI bn), .ref af, .ref at_, .int (zI dr), .int (zI sz), .ref au, .ref ap, .ref ab, .ref ae, .ref ah, .int (zI kp), .int (zI ks), .ref ku, .ref kq, .ref kb, .ref ke, .ref kh, .int (zI als), .ref gf, .ref gt, .int (zI ses), .ref sf, .ref st, .int (zI les), .ref ef, .ref et, .int (zI mes), .ref xa, .ref xf, .ref xt, .ref xr, .ref lb, .int (zI lbs), .ref so])), (sf, .inl (cL, 6000, .inr (.inl (fL SFr))))]) := by
  refine zBl (by decide) (Nat.le_of_ble_eq_true rfl) ?_
  intro p e s m args below meth c ls A H locs Q C hin hl hW hQ
  have hl : lv_has ls 8 [(0, .ref m0), (1, .long (zL q)), (3, .long (zL fa))] := hl
  refine lv_lload_n C.1 C.2.1 dMo_nextSeen_0 rfl (lv_at hl 2 rfl) ?_
  refine lv_lstore (lv' := [(5, .long (zL fa)), (0, .ref m0), (1, .long (zL q)), (3, .long (zL fa))]) C.1 C.2.1 dMo_nextSeen_1 hl (by decide) rfl (fun ls hl => ?_)
  refine lv_iconst (v := zI 0) C.1 C.2.1 dMo_nextSeen_3 (by decide) ?_
  refine lv_istore (lv' := [(7, .int (zI 0)), (5, .long (zL fa)), (0, .ref m0), (1, .long (zL q)), (3, .long (zL fa))]) C.1 C.2.1 dMo_nextSeen_4 hl (by decide) rfl (fun ls hl => ?_)
  have L6 : ∀ (N : Nat) (j : Int) (y_ : Int), (ses - j).toNat < N → (0 ≤ j) → (j ≤ ses) → (y_ = nxZ SFr j q fa) → (I64 y_) → ∀ (ls : Array Slot) (H : Heap) (locs : List Loc), lv_has ls 8 [(7, .int (zI j)), (5, .long (zL y_)), (0, .ref m0), (1, .long (zL q)), (3, .long (zL fa))] → zw D zCl A s [(m0, .inr (10, [.int (zI cd), .long (zL wi), .long (zL hi), .int (zI bn), .ref af, .ref at_, .int (zI dr), .int (zI sz), .ref au, .ref ap, .ref ab, .ref ae, .ref ah, .int (zI kp), .int (zI ks), .ref ku, .ref kq, .ref kb, .ref ke, .ref kh, .int (zI als), .ref gf, .ref gt, .int (zI ses), .ref sf, .ref st, .int (zI les), .ref ef, .ref et, .int (zI mes), .ref xa, .ref xf, .ref xt, .ref xr, .ref lb, .int (zI lbs), .ref so])), (sf, .inl (cL, 6000, .inr (.inl (fL SFr))))] H locs → W p l e (zr 0 0 0) s m args below meth c H locs 0 0 Q (F0 m 6 ls []) := by
    intro N
    induction N with
    | zero => intro j y_ hm; exact absurd hm (Nat.not_lt_zero _)
    | succ N ih6 =>
      intro j y_ hm6 hi0 hi1 hy hyb ls H locs hl hW
      refine lv_iload C.1 C.2.1 dMo_nextSeen_6 (lv_at hl 0 rfl) ?_
      refine lv_aload_n C.1 C.2.1 dMo_nextSeen_8 rfl (lv_at hl 2 rfl) ?_
      refine zget C hW 0 23 rfl rfl inMo (by decide) flMo_142 rfl dMo_nextSeen_9 ?_
      refine zicmp_ge (tgt := 60) C (by omega) (by omega) dMo_nextSeen_12 (by decide) (fun c12 => ?_) (fun c12 => ?_)
      · refine lv_lload C.1 C.2.1 dMo_nextSeen_60 (lv_at hl 1 rfl) ?_
        exact hQ (zL y_) _ H locs _ _ _ ls hW ⟨congrArg zL (by rw [hy, show ses = j by omega]), rfl⟩ (by omega) (by omega) dMo_nextSeen_62
      · have L52 : ∀ (z_ : Int), (z_ = nxS q (SFr j) y_) → (I64 z_) → ∀ (ls : Array Slot) (H : Heap) (locs : List Loc), lv_has ls 8 [(7, .int (zI j)), (5, .long (zL y_)), (0, .ref m0), (1, .long (zL q)), (3, .long (zL fa))] → zw D zCl A s [(m0, .inr (10, [.int (zI cd), .long (zL wi), .long (zL hi), .int (zI bn), .ref af, .ref at_, .int (zI dr), .int (zI sz), .ref au, .ref ap, .ref ab, .ref ae, .ref ah, .int (zI kp), .int (zI ks), .ref ku, .ref kq, .ref kb, .ref ke, .ref kh, .int (zI als), .ref gf, .ref gt, .int (zI ses), .ref sf, .ref st, .int (zI les), .ref ef, .ref et, .int (zI mes), .ref xa, .ref xf, .ref xt, .ref xr, .ref lb, .int (zI lbs), .ref so])), (sf, .inl (cL, 6000, .inr (.inl (fL SFr))))] H locs → W p l e (zr 0 0 0) s m args below meth c H locs 0 0 Q (F0 m 52 ls [.long (zL z_)]) := by
          intro z_ hz hzb ls H locs hl hW
          refine lv_lstore (lv' := [(5, .long (zL z_)), (7, .int (zI j)), (0, .ref m0), (1, .long (zL q)), (3, .long (zL fa))]) C.1 C.2.1 dMo_nextSeen_52 hl (by decide) rfl (fun ls hl => ?_)
          refine lv_iinc (v := zI (j + 1)) (lv' := [(7, .int (zI (j + 1))), (5, .long (zL z_)), (0, .ref m0), (1, .long (zL q)), (3, .long (zL fa))]) C.1 C.2.1 dMo_nextSeen_54 hl (k := 1) rfl (zI_add j 1) (by decide) rfl (fun ls hl => ?_)
          refine lv_goto (tgt := 6) C.1 C.2.1 dMo_nextSeen_57 (by decide) ?_
          exact ih6 (j + 1) z_ (by omega) (by omega) (by omega) (by rw [nxZ_s _ _ _ hi0, ← hy]; exact hz) hzb ls H locs (lv_sub hl [0, 1, 2, 3, 4] rfl) hW
        refine lv_aload_n C.1 C.2.1 dMo_nextSeen_15 rfl (lv_at hl 2 rfl) ?_
        refine zget C hW 0 24 rfl rfl inMo (by decide) flMo_53 rfl dMo_nextSeen_16 ?_
        refine lv_iload C.1 C.2.1 dMo_nextSeen_19 (lv_at hl 0 rfl) ?_
        refine zlald C hW 1 2 rfl rfl (by omega) (by omega) (by decide) dMo_nextSeen_21 ?_
        have hb1 := bSFr j
        refine lv_lload_n C.1 C.2.1 dMo_nextSeen_22 rfl (lv_at hl 3 rfl) ?_
        refine zlcmp_le (tgt := 50) C (by omega) (by omega) dMo_nextSeen_23 dMo_nextSeen_24 (by decide) (fun c23 => ?_) (fun c23 => ?_)
        · refine lv_lload C.1 C.2.1 dMo_nextSeen_50 (lv_at hl 1 rfl) ?_
          exact L52 y_ (by unfold nxS; first | rw [if_pos (by omega)] | rw [if_neg (by omega)]) (by omega) ls H locs (lv_sub hl [0, 1, 2, 3, 4] rfl) hW
        · refine lv_aload_n C.1 C.2.1 dMo_nextSeen_27 rfl (lv_at hl 2 rfl) ?_
          refine zget C hW 0 24 rfl rfl inMo (by decide) flMo_53 rfl dMo_nextSeen_28 ?_
          refine lv_iload C.1 C.2.1 dMo_nextSeen_31 (lv_at hl 0 rfl) ?_
          refine zlald C hW 1 2 rfl rfl (by omega) (by omega) (by decide) dMo_nextSeen_33 ?_
          have hb2 := bSFr j
          refine lv_lload C.1 C.2.1 dMo_nextSeen_34 (lv_at hl 1 rfl) ?_
          refine zlcmp_ge (tgt := 50) C (by omega) (by omega) dMo_nextSeen_36 dMo_nextSeen_37 (by decide) (fun c36 => ?_) (fun c36 => ?_)
          · refine lv_lload C.1 C.2.1 dMo_nextSeen_50 (lv_at hl 1 rfl) ?_
            exact L52 y_ (by unfold nxS; first | rw [if_pos (by omega)] | rw [if_neg (by omega)]) (by omega) ls H locs (lv_sub hl [0, 1, 2, 3, 4] rfl) hW
          · refine lv_aload_n C.1 C.2.1 dMo_nextSeen_40 rfl (lv_at hl 2 rfl) ?_
            refine zget C hW 0 24 rfl rfl inMo (by decide) flMo_53 rfl dMo_nextSeen_41 ?_
            refine lv_iload C.1 C.2.1 dMo_nextSeen_44 (lv_at hl 0 rfl) ?_
            refine zlald C hW 1 2 rfl rfl (by omega) (by omega) (by decide) dMo_nextSeen_46 ?_
            have hb3 := bSFr j
            refine lv_goto (tgt := 52) C.1 C.2.1 dMo_nextSeen_47 (by decide) ?_
            exact L52 (SFr j) (by unfold nxS; first | rw [if_pos (by omega)] | rw [if_neg (by omega)]) (by omega) ls H locs (lv_sub hl [0, 1, 2, 3, 4] rfl) hW
  exact L6 _ 0 fa (Nat.lt_succ_self _) (by omega) (by omega) rfl (by omega) ls H locs (lv_sub hl [0, 1, 2, 3, 4] rfl) hW
set_option maxHeartbeats 4000000 in
set_option maxRecDepth 100000 in
theorem m_nextLine (l : Launch) (D : va_G) (cI cG cL cB : ClassId) (m0 : Nat) (cd : Int) (wi : Int) (hi : Int) (bn : Int) (af : Nat) (at_ : Nat) (dr : Int) (sz : Int) (au : Nat) (ap : Nat) (ab : Nat) (ae : Nat) (ah : Nat) (kp : Int) (ks : Int) (ku : Nat) (kq : Nat) (kb : Nat) (ke : Nat) (kh : Nat) (als : Int) (gf : Nat) (gt : Nat) (ses : Int) (sf : Nat) (st : Nat) (les : Int) (ef : Nat) (et : Nat) (mes : Int) (xa : Nat) (xf : Nat) (xt : Nat) (xr : Nat) (lb : Nat) (lbs : Int) (so : Nat) (From : Int → Int) (To : Int → Int) (ax : Int) (q : Int) (bFrom : ∀ j : Int, I64 (From j)) (bTo : ∀ j : Int, I64 (To j)) (hbn0 : 0 ≤ bn) (hbn1 : bn ≤ 24) (hMB : moB bn From To) (hax : 0 ≤ ax ∧ ax ≤ 2) (hJq : I64 q) : Cl l yMo_nextLine cMo_nextLine 11 (some .long) 0 0 0 D zCl (zT cI cG cL cB) [.ref m0, .int (zI ax), .long (zL q)] [(m0, .inr (10, [.int (zI cd), .long (zL wi), .long (zL hi), .int (zI bn), .ref af, .ref at_, .int (zI dr), .int (zI sz), .ref au, .ref ap, .ref ab, .ref ae, .ref ah, .int (zI kp), .int (zI ks), .ref ku, .ref kq, .ref kb, .ref ke, .ref kh, .int (zI als), .ref gf, .ref gt, .int (zI ses), .ref sf, .ref st, .int (zI les), .ref ef, .ref et, .int (zI mes), .ref xa, .ref xf, .ref xt, .ref xr, .ref lb, .int (zI lbs), .ref so])), (af, .inl (cL, 72, .inr (.inl (fL From)))), (at_, .inl (cL, 72, .inr (.inl (fL To))))] (fun x w => x = zL (nxL From To ax bn q) ∧ w = [(m0, .inr (10, [.int (zI cd), .long (zL wi), .long (zL hi), .int (zI bn), .ref af, .ref at_, .int (zI dr), .int (zI sz), .ref au, .ref ap, .ref ab, .ref ae, .ref ah, .int (zI kp), .int (zI ks), .ref ku, .ref kq, .ref kb, .ref ke, .ref kh, .int (zI als), .ref gf, .ref gt, .int (zI ses), .ref sf, .ref st, .int (zI les), .ref ef, .ref et, .int (zI mes), .ref xa, .ref xf, .ref xt, .ref xr, .ref lb, .int (zI lbs), .ref so])), (af, .inl (cL, 72, .inr (.inl (fL From)))), (at_, .inl (cL, 72, .inr (.inl (fL To))))]) := by
  refine zBl (by decide) (Nat.le_of_ble_eq_true rfl) ?_
  intro p e s m args below meth c ls A H locs Q C hin hl hW hQ
  have hl : lv_has ls 11 [(0, .ref m0), (1, .int (zI ax)), (2, .long (zL q))] := hl
  refine zldc2 C kcMo_148 dMo_nextLine_0 ?_
  refine lv_lstore (lv' := [(4, .long (zL 10000000)), (0, .ref m0), (1, .int (zI ax)), (2, .long (zL q))]) C.1 C.2.1 dMo_nextLine_3 hl (by decide) rfl (fun ls hl => ?_)
  refine lv_iconst (v := zI 0) C.1 C.2.1 dMo_nextLine_5 (by decide) ?_
  refine lv_istore (lv' := [(6, .int (zI 0)), (4, .long (zL 10000000)), (0, .ref m0), (1, .int (zI ax)), (2, .long (zL q))]) C.1 C.2.1 dMo_nextLine_6 hl (by decide) rfl (fun ls hl => ?_)
  have L8 : ∀ (N : Nat) (j : Int) (y_ : Int), (bn - j).toNat < N → (0 ≤ j) → (j ≤ bn) → (y_ = nxL From To ax j q) → (I64 y_) → ∀ (ls : Array Slot) (H : Heap) (locs : List Loc), lv_has ls 11 [(6, .int (zI j)), (4, .long (zL y_)), (0, .ref m0), (1, .int (zI ax)), (2, .long (zL q))] → zw D zCl A s [(m0, .inr (10, [.int (zI cd), .long (zL wi), .long (zL hi), .int (zI bn), .ref af, .ref at_, .int (zI dr), .int (zI sz), .ref au, .ref ap, .ref ab, .ref ae, .ref ah, .int (zI kp), .int (zI ks), .ref ku, .ref kq, .ref kb, .ref ke, .ref kh, .int (zI als), .ref gf, .ref gt, .int (zI ses), .ref sf, .ref st, .int (zI les), .ref ef, .ref et, .int (zI mes), .ref xa, .ref xf, .ref xt, .ref xr, .ref lb, .int (zI lbs), .ref so])), (af, .inl (cL, 72, .inr (.inl (fL From)))), (at_, .inl (cL, 72, .inr (.inl (fL To))))] H locs → W p l e (zr 0 0 0) s m args below meth c H locs 0 0 Q (F0 m 8 ls []) := by
    intro N
    induction N with
    | zero => intro j y_ hm; exact absurd hm (Nat.not_lt_zero _)
    | succ N ih8 =>
      intro j y_ hm8 hi0 hi1 hy hyb ls H locs hl hW
      refine lv_iload C.1 C.2.1 dMo_nextLine_8 (lv_at hl 0 rfl) ?_
      refine lv_aload_n C.1 C.2.1 dMo_nextLine_10 rfl (lv_at hl 2 rfl) ?_
      refine zget C hW 0 3 rfl rfl inMo (by decide) flMo_105 rfl dMo_nextLine_11 ?_
      refine zicmp_ge (tgt := 97) C (by omega) (by omega) dMo_nextLine_14 (by decide) (fun c14 => ?_) (fun c14 => ?_)
      · refine lv_lload C.1 C.2.1 dMo_nextLine_97 (lv_at hl 1 rfl) ?_
        exact hQ (zL y_) _ H locs _ _ _ ls hW ⟨congrArg zL (by rw [hy, show bn = j by omega]), rfl⟩ (by omega) (by omega) dMo_nextLine_99
      · refine lv_aload_n C.1 C.2.1 dMo_nextLine_17 rfl (lv_at hl 2 rfl) ?_
        refine zget C hW 0 4 rfl rfl inMo (by decide) flMo_7 rfl dMo_nextLine_18 ?_
        refine lv_iconst (v := zI 3) C.1 C.2.1 dMo_nextLine_21 (by decide) ?_
        refine lv_iload C.1 C.2.1 dMo_nextLine_22 (lv_at hl 0 rfl) ?_
        refine zimul C dMo_nextLine_24 ?_
        refine lv_iload_n C.1 C.2.1 dMo_nextLine_25 rfl (lv_at hl 3 rfl) ?_
        refine ziadd C dMo_nextLine_26 ?_
        refine zlald C hW 1 2 rfl rfl (by omega) (by omega) (by decide) dMo_nextLine_27 ?_
        have hb1 := bFrom ((3 * j) + ax)
        refine lv_lstore (lv' := [(7, .long (zL (From ((3 * j) + ax)))), (6, .int (zI j)), (4, .long (zL y_)), (0, .ref m0), (1, .int (zI ax)), (2, .long (zL q))]) C.1 C.2.1 dMo_nextLine_28 hl (by decide) rfl (fun ls hl => ?_)
        refine lv_aload_n C.1 C.2.1 dMo_nextLine_30 rfl (lv_at hl 3 rfl) ?_
        refine zget C hW 0 5 rfl rfl inMo (by decide) flMo_13 rfl dMo_nextLine_31 ?_
        refine lv_iconst (v := zI 3) C.1 C.2.1 dMo_nextLine_34 (by decide) ?_
        refine lv_iload C.1 C.2.1 dMo_nextLine_35 (lv_at hl 1 rfl) ?_
        refine zimul C dMo_nextLine_37 ?_
        refine lv_iload_n C.1 C.2.1 dMo_nextLine_38 rfl (lv_at hl 4 rfl) ?_
        refine ziadd C dMo_nextLine_39 ?_
        refine zlald C hW 2 2 rfl rfl (by omega) (by omega) (by decide) dMo_nextLine_40 ?_
        have hb2 := bTo ((3 * j) + ax)
        refine lv_lstore (lv' := [(9, .long (zL (To ((3 * j) + ax)))), (7, .long (zL (From ((3 * j) + ax)))), (6, .int (zI j)), (4, .long (zL y_)), (0, .ref m0), (1, .int (zI ax)), (2, .long (zL q))]) C.1 C.2.1 dMo_nextLine_41 hl (by decide) rfl (fun ls hl => ?_)
        have L65 : ∀ (z_ : Int), (z_ = nxS q (From (3 * j + ax)) y_) → (I64 z_) → ∀ (ls : Array Slot) (H : Heap) (locs : List Loc), lv_has ls 11 [(9, .long (zL (To ((3 * j) + ax)))), (7, .long (zL (From ((3 * j) + ax)))), (6, .int (zI j)), (4, .long (zL y_)), (0, .ref m0), (1, .int (zI ax)), (2, .long (zL q))] → zw D zCl A s [(m0, .inr (10, [.int (zI cd), .long (zL wi), .long (zL hi), .int (zI bn), .ref af, .ref at_, .int (zI dr), .int (zI sz), .ref au, .ref ap, .ref ab, .ref ae, .ref ah, .int (zI kp), .int (zI ks), .ref ku, .ref kq, .ref kb, .ref ke, .ref kh, .int (zI als), .ref gf, .ref gt, .int (zI ses), .ref sf, .ref st, .int (zI les), .ref ef, .ref et, .int (zI mes), .ref xa, .ref xf, .ref xt, .ref xr, .ref lb, .int (zI lbs), .ref so])), (af, .inl (cL, 72, .inr (.inl (fL From)))), (at_, .inl (cL, 72, .inr (.inl (fL To))))] H locs → W p l e (zr 0 0 0) s m args below meth c H locs 0 0 Q (F0 m 65 ls [.long (zL z_)]) := by
          intro z_ hz hzb ls H locs hl hW
          refine lv_lstore (lv' := [(4, .long (zL z_)), (9, .long (zL (To ((3 * j) + ax)))), (7, .long (zL (From ((3 * j) + ax)))), (6, .int (zI j)), (0, .ref m0), (1, .int (zI ax)), (2, .long (zL q))]) C.1 C.2.1 dMo_nextLine_65 hl (by decide) rfl (fun ls hl => ?_)
          have L89 : ∀ (u_ : Int), (u_ = nxS q (To (3 * j + ax)) z_) → (I64 u_) → ∀ (ls : Array Slot) (H : Heap) (locs : List Loc), lv_has ls 11 [(4, .long (zL z_)), (9, .long (zL (To ((3 * j) + ax)))), (7, .long (zL (From ((3 * j) + ax)))), (6, .int (zI j)), (0, .ref m0), (1, .int (zI ax)), (2, .long (zL q))] → zw D zCl A s [(m0, .inr (10, [.int (zI cd), .long (zL wi), .long (zL hi), .int (zI bn), .ref af, .ref at_, .int (zI dr), .int (zI sz), .ref au, .ref ap, .ref ab, .ref ae, .ref ah, .int (zI kp), .int (zI ks), .ref ku, .ref kq, .ref kb, .ref ke, .ref kh, .int (zI als), .ref gf, .ref gt, .int (zI ses), .ref sf, .ref st, .int (zI les), .ref ef, .ref et, .int (zI mes), .ref xa, .ref xf, .ref xt, .ref xr, .ref lb, .int (zI lbs), .ref so])), (af, .inl (cL, 72, .inr (.inl (fL From)))), (at_, .inl (cL, 72, .inr (.inl (fL To))))] H locs → W p l e (zr 0 0 0) s m args below meth c H locs 0 0 Q (F0 m 89 ls [.long (zL u_)]) := by
            intro u_ hu hub ls H locs hl hW
            refine lv_lstore (lv' := [(4, .long (zL u_)), (9, .long (zL (To ((3 * j) + ax)))), (7, .long (zL (From ((3 * j) + ax)))), (6, .int (zI j)), (0, .ref m0), (1, .int (zI ax)), (2, .long (zL q))]) C.1 C.2.1 dMo_nextLine_89 hl (by decide) rfl (fun ls hl => ?_)
            refine lv_iinc (v := zI (j + 1)) (lv' := [(6, .int (zI (j + 1))), (4, .long (zL u_)), (9, .long (zL (To ((3 * j) + ax)))), (7, .long (zL (From ((3 * j) + ax)))), (0, .ref m0), (1, .int (zI ax)), (2, .long (zL q))]) C.1 C.2.1 dMo_nextLine_91 hl (k := 3) rfl (zI_add j 1) (by decide) rfl (fun ls hl => ?_)
            refine lv_goto (tgt := 8) C.1 C.2.1 dMo_nextLine_94 (by decide) ?_
            exact ih8 (j + 1) u_ (by omega) (by omega) (by omega) (by rw [nxL_s _ _ _ _ hi0, ← hy, ← hz]; exact hu) hub ls H locs (lv_sub hl [0, 1, 4, 5, 6] rfl) hW
          refine lv_lload C.1 C.2.1 dMo_nextLine_67 (lv_at hl 1 rfl) ?_
          refine lv_lload_n C.1 C.2.1 dMo_nextLine_69 rfl (lv_at hl 6 rfl) ?_
          refine zlcmp_le (tgt := 87) C (by omega) (by omega) dMo_nextLine_70 dMo_nextLine_71 (by decide) (fun c70 => ?_) (fun c70 => ?_)
          · refine lv_lload C.1 C.2.1 dMo_nextLine_87 (lv_at hl 0 rfl) ?_
            exact L89 z_ (by unfold nxS; first | rw [if_pos (by omega)] | rw [if_neg (by omega)]) (by omega) ls H locs (lv_sub hl [0, 1, 2, 3, 4, 5, 6] rfl) hW
          · refine lv_lload C.1 C.2.1 dMo_nextLine_74 (lv_at hl 1 rfl) ?_
            refine lv_lload C.1 C.2.1 dMo_nextLine_76 (lv_at hl 0 rfl) ?_
            refine zlcmp_ge (tgt := 87) C (by omega) (by omega) dMo_nextLine_78 dMo_nextLine_79 (by decide) (fun c78 => ?_) (fun c78 => ?_)
            · refine lv_lload C.1 C.2.1 dMo_nextLine_87 (lv_at hl 0 rfl) ?_
              exact L89 z_ (by unfold nxS; first | rw [if_pos (by omega)] | rw [if_neg (by omega)]) (by omega) ls H locs (lv_sub hl [0, 1, 2, 3, 4, 5, 6] rfl) hW
            · refine lv_lload C.1 C.2.1 dMo_nextLine_82 (lv_at hl 1 rfl) ?_
              refine lv_goto (tgt := 89) C.1 C.2.1 dMo_nextLine_84 (by decide) ?_
              exact L89 (To ((3 * j) + ax)) (by unfold nxS; first | rw [if_pos (by omega)] | rw [if_neg (by omega)]) (by omega) ls H locs (lv_sub hl [0, 1, 2, 3, 4, 5, 6] rfl) hW
        refine lv_lload C.1 C.2.1 dMo_nextLine_43 (lv_at hl 1 rfl) ?_
        refine lv_lload_n C.1 C.2.1 dMo_nextLine_45 rfl (lv_at hl 6 rfl) ?_
        refine zlcmp_le (tgt := 63) C (by omega) (by omega) dMo_nextLine_46 dMo_nextLine_47 (by decide) (fun c46 => ?_) (fun c46 => ?_)
        · refine lv_lload C.1 C.2.1 dMo_nextLine_63 (lv_at hl 3 rfl) ?_
          exact L65 y_ (by unfold nxS; first | rw [if_pos (by omega)] | rw [if_neg (by omega)]) (by omega) ls H locs (lv_sub hl [0, 1, 2, 3, 4, 5, 6] rfl) hW
        · refine lv_lload C.1 C.2.1 dMo_nextLine_50 (lv_at hl 1 rfl) ?_
          refine lv_lload C.1 C.2.1 dMo_nextLine_52 (lv_at hl 3 rfl) ?_
          refine zlcmp_ge (tgt := 63) C (by omega) (by omega) dMo_nextLine_54 dMo_nextLine_55 (by decide) (fun c54 => ?_) (fun c54 => ?_)
          · refine lv_lload C.1 C.2.1 dMo_nextLine_63 (lv_at hl 3 rfl) ?_
            exact L65 y_ (by unfold nxS; first | rw [if_pos (by omega)] | rw [if_neg (by omega)]) (by omega) ls H locs (lv_sub hl [0, 1, 2, 3, 4, 5, 6] rfl) hW
          · refine lv_lload C.1 C.2.1 dMo_nextLine_58 (lv_at hl 1 rfl) ?_
            refine lv_goto (tgt := 65) C.1 C.2.1 dMo_nextLine_60 (by decide) ?_
            exact L65 (From ((3 * j) + ax)) (by unfold nxS; first | rw [if_pos (by omega)] | rw [if_neg (by omega)]) (by omega) ls H locs (lv_sub hl [0, 1, 2, 3, 4, 5, 6] rfl) hW
  exact L8 _ 0 10000000 (Nat.lt_succ_self _) (by omega) (by omega) rfl (by omega) ls H locs (lv_sub hl [0, 1, 2, 3, 4] rfl) hW
set_option maxHeartbeats 4000000 in
set_option maxRecDepth 100000 in
theorem m_edgesUntil (l : Launch) (D : va_G) (cI cG cL cB : ClassId) (m0 : Nat) (cd : Int) (wi : Int) (hi : Int) (bn : Int) (af : Nat) (at_ : Nat) (dr : Int) (sz : Int) (au : Nat) (ap : Nat) (ab : Nat) (ae : Nat) (ah : Nat) (kp : Int) (ks : Int) (ku : Nat) (kq : Nat) (kb : Nat) (ke : Nat) (kh : Nat) (als : Int) (gf : Nat) (gt : Nat) (ses : Int) (sf : Nat) (st : Nat) (les : Int) (ef : Nat) (et : Nat) (mes : Int) (xa : Nat) (xf : Nat) (xt : Nat) (xr : Nat) (lb : Nat) (lbs : Int) (so : Nat) (AFr : Int → Int) (ATo : Int → Int) (q : Int) (bAFr : ∀ j : Int, I64 (AFr j)) (bATo : ∀ j : Int, I64 (ATo j)) (hn0 : 0 ≤ als) (hn1 : als ≤ 200) (hB : ∀ k : Int, 0 ≤ k → k < als → ATo k ≤ 10000000) (hq : -10000000 ≤ q ∧ q ≤ 10000000) : Cl l yMo_edgesUntil cMo_edgesUntil 7 (some .long) 0 0 0 D zCl (zT cI cG cL cB) [.ref m0, .long (zL q)] [(m0, .inr (10, [.int (zI cd), .long (zL wi), .long (zL hi), .int (zI bn), .ref af, .ref at_, .int (zI dr), .int (zI sz), .ref au, .ref ap, .ref ab, .ref ae, .ref ah, .int (zI kp), .int (zI ks), .ref ku, .ref kq, .ref kb, .ref ke, .ref kh, .int (zI als), .ref gf, .ref gt, .int (zI ses), .ref sf, .ref st, .int (zI les), .ref ef, .ref et, .int (zI mes), .ref xa, .ref xf, .ref xt, .ref xr, .ref lb, .int (zI lbs), .ref so])), (gf, .inl (cL, 200, .inr (.inl (fL AFr)))), (gt, .inl (cL, 200, .inr (.inl (fL ATo))))] (fun x w => ∃ r2 : Int, (untP AFr ATo als q r2) ∧ x = zL r2 ∧ w = [(m0, .inr (10, [.int (zI cd), .long (zL wi), .long (zL hi), .int (zI bn), .ref af, .ref at_, .int (zI dr), .int (zI sz), .ref au, .ref ap, .ref ab, .ref ae, .ref ah, .int (zI kp), .int (zI ks), .ref ku, .ref kq, .ref kb, .ref ke, .ref kh, .int (zI als), .ref gf, .ref gt, .int (zI ses), .ref sf, .ref st, .int (zI les), .ref ef, .ref et, .int (zI mes), .ref xa, .ref xf, .ref xt, .ref xr, .ref lb, .int (zI lbs), .ref so])), (gf, .inl (cL, 200, .inr (.inl (fL AFr)))), (gt, .inl (cL, 200, .inr (.inl (fL ATo))))]) := by
  refine zBl (by decide) (Nat.le_of_ble_eq_true rfl) ?_
  intro p e s m args below meth c ls A H locs Q C hin hl hW hQ
  have hl : lv_has ls 7 [(0, .ref m0), (1, .long (zL q))] := hl
  refine lv_lload_n C.1 C.2.1 dMo_edgesUntil_0 rfl (lv_at hl 1 rfl) ?_
  refine lv_lstore_n (lv' := [(3, .long (zL q)), (0, .ref m0), (1, .long (zL q))]) C.1 C.2.1 dMo_edgesUntil_1 rfl hl (by decide) rfl (fun ls hl => ?_)
  refine lv_iconst (v := zI 1) C.1 C.2.1 dMo_edgesUntil_2 (by decide) ?_
  refine lv_istore (lv' := [(5, .int (zI 1)), (3, .long (zL q)), (0, .ref m0), (1, .long (zL q))]) C.1 C.2.1 dMo_edgesUntil_3 hl (by decide) rfl (fun ls hl => ?_)
  have L5 : ∀ (N : Nat) (e1 : Int) (mo : Int), (2 * (10000000 - e1) + mo).toNat < N → (mo = 0 ∨ mo = 1) → (q ≤ e1 ∧ e1 ≤ 10000000) → (∀ t : Int, q ≤ t → t < e1 → ∃ k : Int, 0 ≤ k ∧ k < als ∧ AFr k ≤ t ∧ t < ATo k) → (mo = 0 → ∀ k : Int, 0 ≤ k → k < als → AFr k ≤ e1 → ATo k ≤ e1) → ∀ (ls : Array Slot) (H : Heap) (locs : List Loc), lv_has ls 7 [(5, .int (zI mo)), (3, .long (zL e1)), (0, .ref m0), (1, .long (zL q))] → zw D zCl A s [(m0, .inr (10, [.int (zI cd), .long (zL wi), .long (zL hi), .int (zI bn), .ref af, .ref at_, .int (zI dr), .int (zI sz), .ref au, .ref ap, .ref ab, .ref ae, .ref ah, .int (zI kp), .int (zI ks), .ref ku, .ref kq, .ref kb, .ref ke, .ref kh, .int (zI als), .ref gf, .ref gt, .int (zI ses), .ref sf, .ref st, .int (zI les), .ref ef, .ref et, .int (zI mes), .ref xa, .ref xf, .ref xt, .ref xr, .ref lb, .int (zI lbs), .ref so])), (gf, .inl (cL, 200, .inr (.inl (fL AFr)))), (gt, .inl (cL, 200, .inr (.inl (fL ATo))))] H locs → W p l e (zr 0 0 0) s m args below meth c H locs 0 0 Q (F0 m 5 ls []) := by
    intro N
    induction N with
    | zero => intro e1 mo hm; exact absurd hm (Nat.not_lt_zero _)
    | succ N ih5 =>
      intro e1 mo hm5 ho1 ho2 ho3 ho4 ls H locs hl hW
      refine lv_iload C.1 C.2.1 dMo_edgesUntil_5 (lv_at hl 0 rfl) ?_
      refine zif_eq (tgt := 69) C (by omega) dMo_edgesUntil_7 (by decide) (fun c7 => ?_) (fun c7 => ?_)
      · refine lv_lload_n C.1 C.2.1 dMo_edgesUntil_69 rfl (lv_at hl 1 rfl) ?_
        exact hQ (zL e1) _ H locs _ _ _ ls hW ⟨e1, ⟨by omega, ho3, ho4 (by omega)⟩, rfl, rfl⟩ (by omega) (by omega) dMo_edgesUntil_70
      · refine lv_iconst (v := zI 0) C.1 C.2.1 dMo_edgesUntil_10 (by decide) ?_
        refine lv_istore (lv' := [(5, .int (zI 0)), (3, .long (zL e1)), (0, .ref m0), (1, .long (zL q))]) C.1 C.2.1 dMo_edgesUntil_11 hl (by decide) rfl (fun ls hl => ?_)
        refine lv_iconst (v := zI 0) C.1 C.2.1 dMo_edgesUntil_13 (by decide) ?_
        refine lv_istore (lv' := [(6, .int (zI 0)), (5, .int (zI 0)), (3, .long (zL e1)), (0, .ref m0), (1, .long (zL q))]) C.1 C.2.1 dMo_edgesUntil_14 hl (by decide) rfl (fun ls hl => ?_)
        have L16 : ∀ (N : Nat) (j : Int) (e2 : Int) (mo : Int), (als - j).toNat < N → (0 ≤ j) → (j ≤ als) → (mo = 0 ∨ mo = 1) → (q ≤ e2 ∧ e1 ≤ e2) → (e2 ≤ 10000000) → (∀ t : Int, q ≤ t → t < e2 → ∃ k : Int, 0 ≤ k ∧ k < als ∧ AFr k ≤ t ∧ t < ATo k) → (mo = 0 → e2 = e1 ∧ ∀ k : Int, 0 ≤ k → k < j → AFr k ≤ e1 → ATo k ≤ e1) → (mo = 1 → e1 < e2) → ∀ (ls : Array Slot) (H : Heap) (locs : List Loc), lv_has ls 7 [(6, .int (zI j)), (5, .int (zI mo)), (3, .long (zL e2)), (0, .ref m0), (1, .long (zL q))] → zw D zCl A s [(m0, .inr (10, [.int (zI cd), .long (zL wi), .long (zL hi), .int (zI bn), .ref af, .ref at_, .int (zI dr), .int (zI sz), .ref au, .ref ap, .ref ab, .ref ae, .ref ah, .int (zI kp), .int (zI ks), .ref ku, .ref kq, .ref kb, .ref ke, .ref kh, .int (zI als), .ref gf, .ref gt, .int (zI ses), .ref sf, .ref st, .int (zI les), .ref ef, .ref et, .int (zI mes), .ref xa, .ref xf, .ref xt, .ref xr, .ref lb, .int (zI lbs), .ref so])), (gf, .inl (cL, 200, .inr (.inl (fL AFr)))), (gt, .inl (cL, 200, .inr (.inl (fL ATo))))] H locs → W p l e (zr 0 0 0) s m args below meth c H locs 0 0 Q (F0 m 16 ls []) := by
          intro N
          induction N with
          | zero => intro j e2 mo hm; exact absurd hm (Nat.not_lt_zero _)
          | succ N ih16 =>
            intro j e2 mo hm16 hi0 hi1 hs2 hs3 hs4 hs5 hs6 hs7 ls H locs hl hW
            refine lv_iload C.1 C.2.1 dMo_edgesUntil_16 (lv_at hl 0 rfl) ?_
            refine lv_aload_n C.1 C.2.1 dMo_edgesUntil_18 rfl (lv_at hl 3 rfl) ?_
            refine zget C hW 0 20 rfl rfl inMo (by decide) flMo_131 rfl dMo_edgesUntil_19 ?_
            refine zicmp_ge (tgt := 66) C (by omega) (by omega) dMo_edgesUntil_22 (by decide) (fun c22 => ?_) (fun c22 => ?_)
            · refine lv_goto (tgt := 5) C.1 C.2.1 dMo_edgesUntil_66 (by decide) ?_
              exact ih5 e2 mo (by rcases hs2 with h | h; have := (hs6 h).1; omega; have := hs7 h; omega) hs2 (by omega) hs5 (fun h => by have h2 := hs6 h; rw [show als = j by omega, h2.1]; exact h2.2) ls H locs (lv_sub hl [1, 2, 3, 4] rfl) hW
            · refine lv_aload_n C.1 C.2.1 dMo_edgesUntil_25 rfl (lv_at hl 3 rfl) ?_
              refine zget C hW 0 21 rfl rfl inMo (by decide) flMo_47 rfl dMo_edgesUntil_26 ?_
              refine lv_iload C.1 C.2.1 dMo_edgesUntil_29 (lv_at hl 0 rfl) ?_
              refine zlald C hW 1 2 rfl rfl (by omega) (by omega) (by decide) dMo_edgesUntil_31 ?_
              have hb1 := bAFr j
              refine lv_lload_n C.1 C.2.1 dMo_edgesUntil_32 rfl (lv_at hl 2 rfl) ?_
              refine zlcmp_gt (tgt := 60) C (by omega) (by omega) dMo_edgesUntil_33 dMo_edgesUntil_34 (by decide) (fun c33 => ?_) (fun c33 => ?_)
              · refine lv_iinc (v := zI (j + 1)) (lv' := [(6, .int (zI (j + 1))), (5, .int (zI mo)), (3, .long (zL e2)), (0, .ref m0), (1, .long (zL q))]) C.1 C.2.1 dMo_edgesUntil_60 hl (k := 0) rfl (zI_add j 1) (by decide) rfl (fun ls hl => ?_)
                refine lv_goto (tgt := 16) C.1 C.2.1 dMo_edgesUntil_63 (by decide) ?_
                exact ih16 (j + 1) e2 mo (by omega) (by omega) (by omega) hs2 hs3 hs4 hs5 (fun h => ⟨(hs6 h).1, cl_s (hs6 h).2 (fun g => by have := (hs6 h).1; omega)⟩) hs7 ls H locs (lv_sub hl [0, 1, 2, 3, 4] rfl) hW
              · refine lv_aload_n C.1 C.2.1 dMo_edgesUntil_37 rfl (lv_at hl 3 rfl) ?_
                refine zget C hW 0 22 rfl rfl inMo (by decide) flMo_50 rfl dMo_edgesUntil_38 ?_
                refine lv_iload C.1 C.2.1 dMo_edgesUntil_41 (lv_at hl 0 rfl) ?_
                refine zlald C hW 2 2 rfl rfl (by omega) (by omega) (by decide) dMo_edgesUntil_43 ?_
                have hb2 := bATo j
                refine lv_lload_n C.1 C.2.1 dMo_edgesUntil_44 rfl (lv_at hl 2 rfl) ?_
                refine zlcmp_le (tgt := 60) C (by omega) (by omega) dMo_edgesUntil_45 dMo_edgesUntil_46 (by decide) (fun c45 => ?_) (fun c45 => ?_)
                · refine lv_iinc (v := zI (j + 1)) (lv' := [(6, .int (zI (j + 1))), (5, .int (zI mo)), (3, .long (zL e2)), (0, .ref m0), (1, .long (zL q))]) C.1 C.2.1 dMo_edgesUntil_60 hl (k := 0) rfl (zI_add j 1) (by decide) rfl (fun ls hl => ?_)
                  refine lv_goto (tgt := 16) C.1 C.2.1 dMo_edgesUntil_63 (by decide) ?_
                  exact ih16 (j + 1) e2 mo (by omega) (by omega) (by omega) hs2 hs3 hs4 hs5 (fun h => ⟨(hs6 h).1, cl_s (hs6 h).2 (fun g => by have := (hs6 h).1; omega)⟩) hs7 ls H locs (lv_sub hl [0, 1, 2, 3, 4] rfl) hW
                · refine lv_aload_n C.1 C.2.1 dMo_edgesUntil_49 rfl (lv_at hl 3 rfl) ?_
                  refine zget C hW 0 22 rfl rfl inMo (by decide) flMo_50 rfl dMo_edgesUntil_50 ?_
                  refine lv_iload C.1 C.2.1 dMo_edgesUntil_53 (lv_at hl 0 rfl) ?_
                  refine zlald C hW 2 2 rfl rfl (by omega) (by omega) (by decide) dMo_edgesUntil_55 ?_
                  have hb3 := bATo j
                  refine lv_lstore_n (lv' := [(3, .long (zL (ATo j))), (6, .int (zI j)), (5, .int (zI mo)), (0, .ref m0), (1, .long (zL q))]) C.1 C.2.1 dMo_edgesUntil_56 rfl hl (by decide) rfl (fun ls hl => ?_)
                  refine lv_iconst (v := zI 1) C.1 C.2.1 dMo_edgesUntil_57 (by decide) ?_
                  refine lv_istore (lv' := [(5, .int (zI 1)), (3, .long (zL (ATo j))), (6, .int (zI j)), (0, .ref m0), (1, .long (zL q))]) C.1 C.2.1 dMo_edgesUntil_58 hl (by decide) rfl (fun ls hl => ?_)
                  refine lv_iinc (v := zI (j + 1)) (lv' := [(6, .int (zI (j + 1))), (5, .int (zI 1)), (3, .long (zL (ATo j))), (0, .ref m0), (1, .long (zL q))]) C.1 C.2.1 dMo_edgesUntil_60 hl (k := 2) rfl (zI_add j 1) (by decide) rfl (fun ls hl => ?_)
                  refine lv_goto (tgt := 16) C.1 C.2.1 dMo_edgesUntil_63 (by decide) ?_
                  exact ih16 (j + 1) (ATo j) 1 (by omega) (by omega) (by omega) (Or.inr rfl) (by omega) (by have := hB j hi0 (by omega); omega) (unt_x hs5 hi0 (by omega) (by omega)) (fun h => absurd h (by decide)) (fun _ => by omega) ls H locs (lv_sub hl [0, 1, 2, 3, 4] rfl) hW
        exact L16 _ 0 e1 0 (Nat.lt_succ_self _) (by omega) (by omega) (Or.inl rfl) (by omega) (by omega) ho3 (fun _ => ⟨rfl, fun k h0 h1 => absurd h1 (by omega)⟩) (fun h => absurd h (by decide)) ls H locs (lv_sub hl [0, 1, 2, 3, 4] rfl) hW
  exact L5 _ q 1 (Nat.lt_succ_self _) (Or.inr rfl) (by omega) (fun t h1 h2 => absurd h2 (by omega)) (fun h => absurd h (by decide)) ls H locs (lv_sub hl [0, 1, 2, 3] rfl) hW
set_option maxHeartbeats 4000000 in
set_option maxRecDepth 100000 in
theorem m_seenUntil (l : Launch) (D : va_G) (cI cG cL cB : ClassId) (m0 : Nat) (cd : Int) (wi : Int) (hi : Int) (bn : Int) (af : Nat) (at_ : Nat) (dr : Int) (sz : Int) (au : Nat) (ap : Nat) (ab : Nat) (ae : Nat) (ah : Nat) (kp : Int) (ks : Int) (ku : Nat) (kq : Nat) (kb : Nat) (ke : Nat) (kh : Nat) (als : Int) (gf : Nat) (gt : Nat) (ses : Int) (sf : Nat) (st : Nat) (les : Int) (ef : Nat) (et : Nat) (mes : Int) (xa : Nat) (xf : Nat) (xt : Nat) (xr : Nat) (lb : Nat) (lbs : Int) (so : Nat) (SFr : Int → Int) (STo : Int → Int) (q : Int) (bSFr : ∀ j : Int, I64 (SFr j)) (bSTo : ∀ j : Int, I64 (STo j)) (hn0 : 0 ≤ ses) (hn1 : ses ≤ 6000) (hB : ∀ k : Int, 0 ≤ k → k < ses → STo k ≤ 10000000) (hq : -10000000 ≤ q ∧ q ≤ 10000000) : Cl l yMo_seenUntil cMo_seenUntil 7 (some .long) 0 0 0 D zCl (zT cI cG cL cB) [.ref m0, .long (zL q)] [(m0, .inr (10, [.int (zI cd), .long (zL wi), .long (zL hi), .int (zI bn), .ref af, .ref at_, .int (zI dr), .int (zI sz), .ref au, .ref ap, .ref ab, .ref ae, .ref ah, .int (zI kp), .int (zI ks), .ref ku, .ref kq, .ref kb, .ref ke, .ref kh, .int (zI als), .ref gf, .ref gt, .int (zI ses), .ref sf, .ref st, .int (zI les), .ref ef, .ref et, .int (zI mes), .ref xa, .ref xf, .ref xt, .ref xr, .ref lb, .int (zI lbs), .ref so])), (sf, .inl (cL, 6000, .inr (.inl (fL SFr)))), (st, .inl (cL, 6000, .inr (.inl (fL STo))))] (fun x w => ∃ r2 : Int, (untP SFr STo ses q r2) ∧ x = zL r2 ∧ w = [(m0, .inr (10, [.int (zI cd), .long (zL wi), .long (zL hi), .int (zI bn), .ref af, .ref at_, .int (zI dr), .int (zI sz), .ref au, .ref ap, .ref ab, .ref ae, .ref ah, .int (zI kp), .int (zI ks), .ref ku, .ref kq, .ref kb, .ref ke, .ref kh, .int (zI als), .ref gf, .ref gt, .int (zI ses), .ref sf, .ref st, .int (zI les), .ref ef, .ref et, .int (zI mes), .ref xa, .ref xf, .ref xt, .ref xr, .ref lb, .int (zI lbs), .ref so])), (sf, .inl (cL, 6000, .inr (.inl (fL SFr)))), (st, .inl (cL, 6000, .inr (.inl (fL STo))))]) := by
  refine zBl (by decide) (Nat.le_of_ble_eq_true rfl) ?_
  intro p e s m args below meth c ls A H locs Q C hin hl hW hQ
  have hl : lv_has ls 7 [(0, .ref m0), (1, .long (zL q))] := hl
  refine lv_lload_n C.1 C.2.1 dMo_seenUntil_0 rfl (lv_at hl 1 rfl) ?_
  refine lv_lstore_n (lv' := [(3, .long (zL q)), (0, .ref m0), (1, .long (zL q))]) C.1 C.2.1 dMo_seenUntil_1 rfl hl (by decide) rfl (fun ls hl => ?_)
  refine lv_iconst (v := zI 1) C.1 C.2.1 dMo_seenUntil_2 (by decide) ?_
  refine lv_istore (lv' := [(5, .int (zI 1)), (3, .long (zL q)), (0, .ref m0), (1, .long (zL q))]) C.1 C.2.1 dMo_seenUntil_3 hl (by decide) rfl (fun ls hl => ?_)
  have L5 : ∀ (N : Nat) (e1 : Int) (mo : Int), (2 * (10000000 - e1) + mo).toNat < N → (mo = 0 ∨ mo = 1) → (q ≤ e1 ∧ e1 ≤ 10000000) → (∀ t : Int, q ≤ t → t < e1 → ∃ k : Int, 0 ≤ k ∧ k < ses ∧ SFr k ≤ t ∧ t < STo k) → (mo = 0 → ∀ k : Int, 0 ≤ k → k < ses → SFr k ≤ e1 → STo k ≤ e1) → ∀ (ls : Array Slot) (H : Heap) (locs : List Loc), lv_has ls 7 [(5, .int (zI mo)), (3, .long (zL e1)), (0, .ref m0), (1, .long (zL q))] → zw D zCl A s [(m0, .inr (10, [.int (zI cd), .long (zL wi), .long (zL hi), .int (zI bn), .ref af, .ref at_, .int (zI dr), .int (zI sz), .ref au, .ref ap, .ref ab, .ref ae, .ref ah, .int (zI kp), .int (zI ks), .ref ku, .ref kq, .ref kb, .ref ke, .ref kh, .int (zI als), .ref gf, .ref gt, .int (zI ses), .ref sf, .ref st, .int (zI les), .ref ef, .ref et, .int (zI mes), .ref xa, .ref xf, .ref xt, .ref xr, .ref lb, .int (zI lbs), .ref so])), (sf, .inl (cL, 6000, .inr (.inl (fL SFr)))), (st, .inl (cL, 6000, .inr (.inl (fL STo))))] H locs → W p l e (zr 0 0 0) s m args below meth c H locs 0 0 Q (F0 m 5 ls []) := by
    intro N
    induction N with
    | zero => intro e1 mo hm; exact absurd hm (Nat.not_lt_zero _)
    | succ N ih5 =>
      intro e1 mo hm5 ho1 ho2 ho3 ho4 ls H locs hl hW
      refine lv_iload C.1 C.2.1 dMo_seenUntil_5 (lv_at hl 0 rfl) ?_
      refine zif_eq (tgt := 69) C (by omega) dMo_seenUntil_7 (by decide) (fun c7 => ?_) (fun c7 => ?_)
      · refine lv_lload_n C.1 C.2.1 dMo_seenUntil_69 rfl (lv_at hl 1 rfl) ?_
        exact hQ (zL e1) _ H locs _ _ _ ls hW ⟨e1, ⟨by omega, ho3, ho4 (by omega)⟩, rfl, rfl⟩ (by omega) (by omega) dMo_seenUntil_70
      · refine lv_iconst (v := zI 0) C.1 C.2.1 dMo_seenUntil_10 (by decide) ?_
        refine lv_istore (lv' := [(5, .int (zI 0)), (3, .long (zL e1)), (0, .ref m0), (1, .long (zL q))]) C.1 C.2.1 dMo_seenUntil_11 hl (by decide) rfl (fun ls hl => ?_)
        refine lv_iconst (v := zI 0) C.1 C.2.1 dMo_seenUntil_13 (by decide) ?_
        refine lv_istore (lv' := [(6, .int (zI 0)), (5, .int (zI 0)), (3, .long (zL e1)), (0, .ref m0), (1, .long (zL q))]) C.1 C.2.1 dMo_seenUntil_14 hl (by decide) rfl (fun ls hl => ?_)
        have L16 : ∀ (N : Nat) (j : Int) (e2 : Int) (mo : Int), (ses - j).toNat < N → (0 ≤ j) → (j ≤ ses) → (mo = 0 ∨ mo = 1) → (q ≤ e2 ∧ e1 ≤ e2) → (e2 ≤ 10000000) → (∀ t : Int, q ≤ t → t < e2 → ∃ k : Int, 0 ≤ k ∧ k < ses ∧ SFr k ≤ t ∧ t < STo k) → (mo = 0 → e2 = e1 ∧ ∀ k : Int, 0 ≤ k → k < j → SFr k ≤ e1 → STo k ≤ e1) → (mo = 1 → e1 < e2) → ∀ (ls : Array Slot) (H : Heap) (locs : List Loc), lv_has ls 7 [(6, .int (zI j)), (5, .int (zI mo)), (3, .long (zL e2)), (0, .ref m0), (1, .long (zL q))] → zw D zCl A s [(m0, .inr (10, [.int (zI cd), .long (zL wi), .long (zL hi), .int (zI bn), .ref af, .ref at_, .int (zI dr), .int (zI sz), .ref au, .ref ap, .ref ab, .ref ae, .ref ah, .int (zI kp), .int (zI ks), .ref ku, .ref kq, .ref kb, .ref ke, .ref kh, .int (zI als), .ref gf, .ref gt, .int (zI ses), .ref sf, .ref st, .int (zI les), .ref ef, .ref et, .int (zI mes), .ref xa, .ref xf, .ref xt, .ref xr, .ref lb, .int (zI lbs), .ref so])), (sf, .inl (cL, 6000, .inr (.inl (fL SFr)))), (st, .inl (cL, 6000, .inr (.inl (fL STo))))] H locs → W p l e (zr 0 0 0) s m args below meth c H locs 0 0 Q (F0 m 16 ls []) := by
          intro N
          induction N with
          | zero => intro j e2 mo hm; exact absurd hm (Nat.not_lt_zero _)
          | succ N ih16 =>
            intro j e2 mo hm16 hi0 hi1 hs2 hs3 hs4 hs5 hs6 hs7 ls H locs hl hW
            refine lv_iload C.1 C.2.1 dMo_seenUntil_16 (lv_at hl 0 rfl) ?_
            refine lv_aload_n C.1 C.2.1 dMo_seenUntil_18 rfl (lv_at hl 3 rfl) ?_
            refine zget C hW 0 23 rfl rfl inMo (by decide) flMo_142 rfl dMo_seenUntil_19 ?_
            refine zicmp_ge (tgt := 66) C (by omega) (by omega) dMo_seenUntil_22 (by decide) (fun c22 => ?_) (fun c22 => ?_)
            · refine lv_goto (tgt := 5) C.1 C.2.1 dMo_seenUntil_66 (by decide) ?_
              exact ih5 e2 mo (by rcases hs2 with h | h; have := (hs6 h).1; omega; have := hs7 h; omega) hs2 (by omega) hs5 (fun h => by have h2 := hs6 h; rw [show ses = j by omega, h2.1]; exact h2.2) ls H locs (lv_sub hl [1, 2, 3, 4] rfl) hW
            · refine lv_aload_n C.1 C.2.1 dMo_seenUntil_25 rfl (lv_at hl 3 rfl) ?_
              refine zget C hW 0 24 rfl rfl inMo (by decide) flMo_53 rfl dMo_seenUntil_26 ?_
              refine lv_iload C.1 C.2.1 dMo_seenUntil_29 (lv_at hl 0 rfl) ?_
              refine zlald C hW 1 2 rfl rfl (by omega) (by omega) (by decide) dMo_seenUntil_31 ?_
              have hb1 := bSFr j
              refine lv_lload_n C.1 C.2.1 dMo_seenUntil_32 rfl (lv_at hl 2 rfl) ?_
              refine zlcmp_gt (tgt := 60) C (by omega) (by omega) dMo_seenUntil_33 dMo_seenUntil_34 (by decide) (fun c33 => ?_) (fun c33 => ?_)
              · refine lv_iinc (v := zI (j + 1)) (lv' := [(6, .int (zI (j + 1))), (5, .int (zI mo)), (3, .long (zL e2)), (0, .ref m0), (1, .long (zL q))]) C.1 C.2.1 dMo_seenUntil_60 hl (k := 0) rfl (zI_add j 1) (by decide) rfl (fun ls hl => ?_)
                refine lv_goto (tgt := 16) C.1 C.2.1 dMo_seenUntil_63 (by decide) ?_
                exact ih16 (j + 1) e2 mo (by omega) (by omega) (by omega) hs2 hs3 hs4 hs5 (fun h => ⟨(hs6 h).1, cl_s (hs6 h).2 (fun g => by have := (hs6 h).1; omega)⟩) hs7 ls H locs (lv_sub hl [0, 1, 2, 3, 4] rfl) hW
              · refine lv_aload_n C.1 C.2.1 dMo_seenUntil_37 rfl (lv_at hl 3 rfl) ?_
                refine zget C hW 0 25 rfl rfl inMo (by decide) flMo_56 rfl dMo_seenUntil_38 ?_
                refine lv_iload C.1 C.2.1 dMo_seenUntil_41 (lv_at hl 0 rfl) ?_
                refine zlald C hW 2 2 rfl rfl (by omega) (by omega) (by decide) dMo_seenUntil_43 ?_
                have hb2 := bSTo j
                refine lv_lload_n C.1 C.2.1 dMo_seenUntil_44 rfl (lv_at hl 2 rfl) ?_
                refine zlcmp_le (tgt := 60) C (by omega) (by omega) dMo_seenUntil_45 dMo_seenUntil_46 (by decide) (fun c45 => ?_) (fun c45 => ?_)
                · refine lv_iinc (v := zI (j + 1)) (lv' := [(6, .int (zI (j + 1))), (5, .int (zI mo)), (3, .long (zL e2)), (0, .ref m0), (1, .long (zL q))]) C.1 C.2.1 dMo_seenUntil_60 hl (k := 0) rfl (zI_add j 1) (by decide) rfl (fun ls hl => ?_)
                  refine lv_goto (tgt := 16) C.1 C.2.1 dMo_seenUntil_63 (by decide) ?_
                  exact ih16 (j + 1) e2 mo (by omega) (by omega) (by omega) hs2 hs3 hs4 hs5 (fun h => ⟨(hs6 h).1, cl_s (hs6 h).2 (fun g => by have := (hs6 h).1; omega)⟩) hs7 ls H locs (lv_sub hl [0, 1, 2, 3, 4] rfl) hW
                · refine lv_aload_n C.1 C.2.1 dMo_seenUntil_49 rfl (lv_at hl 3 rfl) ?_
                  refine zget C hW 0 25 rfl rfl inMo (by decide) flMo_56 rfl dMo_seenUntil_50 ?_
                  refine lv_iload C.1 C.2.1 dMo_seenUntil_53 (lv_at hl 0 rfl) ?_
                  refine zlald C hW 2 2 rfl rfl (by omega) (by omega) (by decide) dMo_seenUntil_55 ?_
                  have hb3 := bSTo j
                  refine lv_lstore_n (lv' := [(3, .long (zL (STo j))), (6, .int (zI j)), (5, .int (zI mo)), (0, .ref m0), (1, .long (zL q))]) C.1 C.2.1 dMo_seenUntil_56 rfl hl (by decide) rfl (fun ls hl => ?_)
                  refine lv_iconst (v := zI 1) C.1 C.2.1 dMo_seenUntil_57 (by decide) ?_
                  refine lv_istore (lv' := [(5, .int (zI 1)), (3, .long (zL (STo j))), (6, .int (zI j)), (0, .ref m0), (1, .long (zL q))]) C.1 C.2.1 dMo_seenUntil_58 hl (by decide) rfl (fun ls hl => ?_)
                  refine lv_iinc (v := zI (j + 1)) (lv' := [(6, .int (zI (j + 1))), (5, .int (zI 1)), (3, .long (zL (STo j))), (0, .ref m0), (1, .long (zL q))]) C.1 C.2.1 dMo_seenUntil_60 hl (k := 2) rfl (zI_add j 1) (by decide) rfl (fun ls hl => ?_)
                  refine lv_goto (tgt := 16) C.1 C.2.1 dMo_seenUntil_63 (by decide) ?_
                  exact ih16 (j + 1) (STo j) 1 (by omega) (by omega) (by omega) (Or.inr rfl) (by omega) (by have := hB j hi0 (by omega); omega) (unt_x hs5 hi0 (by omega) (by omega)) (fun h => absurd h (by decide)) (fun _ => by omega) ls H locs (lv_sub hl [0, 1, 2, 3, 4] rfl) hW
        exact L16 _ 0 e1 0 (Nat.lt_succ_self _) (by omega) (by omega) (Or.inl rfl) (by omega) (by omega) ho3 (fun _ => ⟨rfl, fun k h0 h1 => absurd h1 (by omega)⟩) (fun h => absurd h (by decide)) ls H locs (lv_sub hl [0, 1, 2, 3, 4] rfl) hW
  exact L5 _ q 1 (Nat.lt_succ_self _) (Or.inr rfl) (by omega) (fun t h1 h2 => absurd h2 (by omega)) (fun h => absurd h (by decide)) ls H locs (lv_sub hl [0, 1, 2, 3] rfl) hW
set_option maxHeartbeats 4000000 in
set_option maxRecDepth 100000 in
theorem m_keep (l : Launch) (D : va_G) (cI cG cL cB : ClassId) (m0 : Nat) (cd : Int) (wi : Int) (hi : Int) (bn : Int) (af : Nat) (at_ : Nat) (dr : Int) (sz : Int) (au : Nat) (ap : Nat) (ab : Nat) (ae : Nat) (ah : Nat) (kp : Int) (ks : Int) (ku : Nat) (kq : Nat) (kb : Nat) (ke : Nat) (kh : Nat) (als : Int) (gf : Nat) (gt : Nat) (ses : Int) (sf : Nat) (st : Nat) (les : Int) (ef : Nat) (et : Nat) (mes : Int) (xa : Nat) (xf : Nat) (xt : Nat) (xr : Nat) (lb : Nat) (lbs : Int) (so : Nat) (Ups : Int → Int) (Pla : Int → Int) (Beg : Int → Int) (Ens : Int → Int) (Hid : Int → Int) (KUp : Int → Int) (KPl : Int → Int) (KBe : Int → Int) (KEn : Int → Int) (KHi : Int → Int) (bUps : ∀ j : Int, I32 (Ups j)) (bPla : ∀ j : Int, I64 (Pla j)) (bBeg : ∀ j : Int, I64 (Beg j)) (bEns : ∀ j : Int, I64 (Ens j)) (bHid : ∀ j : Int, I32 (Hid j)) (bKUp : ∀ j : Int, I32 (KUp j)) (bKPl : ∀ j : Int, I64 (KPl j)) (bKBe : ∀ j : Int, I64 (KBe j)) (bKEn : ∀ j : Int, I64 (KEn j)) (bKHi : ∀ j : Int, I32 (KHi j)) (hsz : 0 ≤ sz ∧ sz ≤ 6000) (hks : 0 ≤ ks ∧ ks ≤ 6000) (hdr : dr = 0 ∨ dr = 1) (hkp : kp = 0 ∨ kp = 1) : Ci l yMo_keep cMo_keep 2 (some .int) 1 0 0 D zCl (zT cI cG cL cB) [.ref m0] [(m0, .inr (10, [.int (zI cd), .long (zL wi), .long (zL hi), .int (zI bn), .ref af, .ref at_, .int (zI dr), .int (zI sz), .ref au, .ref ap, .ref ab, .ref ae, .ref ah, .int (zI kp), .int (zI ks), .ref ku, .ref kq, .ref kb, .ref ke, .ref kh, .int (zI als), .ref gf, .ref gt, .int (zI ses), .ref sf, .ref st, .int (zI les), .ref ef, .ref et, .int (zI mes), .ref xa, .ref xf, .ref xt, .ref xr, .ref lb, .int (zI lbs), .ref so])), (au, .inl (cI, 6000, .inl (fI Ups))), (ap, .inl (cL, 6000, .inr (.inl (fL Pla)))), (ab, .inl (cL, 6000, .inr (.inl (fL Beg)))), (ae, .inl (cL, 6000, .inr (.inl (fL Ens)))), (ah, .inl (cI, 6000, .inl (fI Hid))), (ku, .inl (cI, 6000, .inl (fI KUp))), (kq, .inl (cL, 6000, .inr (.inl (fL KPl)))), (kb, .inl (cL, 6000, .inr (.inl (fL KBe)))), (ke, .inl (cL, 6000, .inr (.inl (fL KEn)))), (kh, .inl (cI, 6000, .inl (fI KHi)))] (fun x w => ∃ r2 : Int, ∃ kp2 : Int, ∃ ks2 : Int, ∃ KUp2 : Int → Int, ∃ KPl2 : Int → Int, ∃ KBe2 : Int → Int, ∃ KEn2 : Int → Int, ∃ KHi2 : Int → Int, (∀ j : Int, I32 (KUp2 j)) ∧ (∀ j : Int, I64 (KPl2 j)) ∧ (∀ j : Int, I64 (KBe2 j)) ∧ (∀ j : Int, I64 (KEn2 j)) ∧ (∀ j : Int, I32 (KHi2 j)) ∧ (dr = 1 → r2 = sz ∧ kp2 = 1 ∧ ks2 = sz ∧ KUp2 = cpz Ups KUp sz ∧ KPl2 = cpz Pla KPl sz ∧ KBe2 = cpz Beg KBe sz ∧ KEn2 = cpz Ens KEn sz ∧ KHi2 = cpz Hid KHi sz) ∧ (dr = 0 → kp2 = kp ∧ ks2 = ks ∧ KUp2 = KUp ∧ KPl2 = KPl ∧ KBe2 = KBe ∧ KEn2 = KEn ∧ KHi2 = KHi) ∧ x = zI r2 ∧ w = [(m0, .inr (10, [.int (zI (1 - dr)), .long (zL wi), .long (zL hi), .int (zI bn), .ref af, .ref at_, .int (zI dr), .int (zI sz), .ref au, .ref ap, .ref ab, .ref ae, .ref ah, .int (zI kp2), .int (zI ks2), .ref ku, .ref kq, .ref kb, .ref ke, .ref kh, .int (zI als), .ref gf, .ref gt, .int (zI ses), .ref sf, .ref st, .int (zI les), .ref ef, .ref et, .int (zI mes), .ref xa, .ref xf, .ref xt, .ref xr, .ref lb, .int (zI lbs), .ref so])), (au, .inl (cI, 6000, .inl (fI Ups))), (ap, .inl (cL, 6000, .inr (.inl (fL Pla)))), (ab, .inl (cL, 6000, .inr (.inl (fL Beg)))), (ae, .inl (cL, 6000, .inr (.inl (fL Ens)))), (ah, .inl (cI, 6000, .inl (fI Hid))), (ku, .inl (cI, 6000, .inl (fI KUp2))), (kq, .inl (cL, 6000, .inr (.inl (fL KPl2)))), (kb, .inl (cL, 6000, .inr (.inl (fL KBe2)))), (ke, .inl (cL, 6000, .inr (.inl (fL KEn2)))), (kh, .inl (cI, 6000, .inl (fI KHi2)))]) := by
  refine zBi (by decide) (Nat.le_of_ble_eq_true rfl) ?_
  intro p e s m args below meth c ls A H locs Q C hin hl hW hQ
  have hl : lv_has ls 2 [(0, .ref m0)] := hl
  refine lv_aload_n C.1 C.2.1 dMo_keep_0 rfl (lv_at hl 0 rfl) ?_
  refine zcalli (wr := [(au, .inl (cI, 6000, .inl (fI Ups))), (ap, .inl (cL, 6000, .inr (.inl (fL Pla)))), (ab, .inl (cL, 6000, .inr (.inl (fL Beg)))), (ae, .inl (cL, 6000, .inr (.inl (fL Ens)))), (ah, .inl (cI, 6000, .inl (fI Hid))), (ku, .inl (cI, 6000, .inl (fI KUp))), (kq, .inl (cL, 6000, .inr (.inl (fL KPl)))), (kb, .inl (cL, 6000, .inr (.inl (fL KBe)))), (ke, .inl (cL, 6000, .inr (.inl (fL KEn)))), (kh, .inl (cI, 6000, .inl (fI KHi)))]) C hW [0] [1, 2, 3, 4, 5, 6, 7, 8, 9, 10] rfl rfl (by decide) (by decide) (zRunV (k := 0) (As := []) (rest := []) C hW (m_none l D cI cG cL cB m0 cd wi hi bn af at_ dr sz au ap ab ae ah kp ks ku kq kb ke kh als gf gt ses sf st les ef et mes xa xf xt xr lb lbs so (by omega) H.size) [0] rfl (by decide) kMo_195 (by decide +kernel) ⟨by decide, by decide⟩ 0 rfl rfl rfl hl.1 (Nat.le_of_ble_eq_true rfl) dMo_keep_1 ⟨by first | decide | omega, by first | decide | omega⟩) (fun x w H locs hq hW => ?_)
  obtain ⟨rfl, rfl⟩ := hq
  have hW : zw D zCl A s [(au, .inl (cI, 6000, .inl (fI Ups))), (ap, .inl (cL, 6000, .inr (.inl (fL Pla)))), (ab, .inl (cL, 6000, .inr (.inl (fL Beg)))), (ae, .inl (cL, 6000, .inr (.inl (fL Ens)))), (ah, .inl (cI, 6000, .inl (fI Hid))), (ku, .inl (cI, 6000, .inl (fI KUp))), (kq, .inl (cL, 6000, .inr (.inl (fL KPl)))), (kb, .inl (cL, 6000, .inr (.inl (fL KBe)))), (ke, .inl (cL, 6000, .inr (.inl (fL KEn)))), (kh, .inl (cI, 6000, .inl (fI KHi))), (m0, .inr (10, [.int (zI (1 - dr)), .long (zL wi), .long (zL hi), .int (zI bn), .ref af, .ref at_, .int (zI dr), .int (zI sz), .ref au, .ref ap, .ref ab, .ref ae, .ref ah, .int (zI kp), .int (zI ks), .ref ku, .ref kq, .ref kb, .ref ke, .ref kh, .int (zI als), .ref gf, .ref gt, .int (zI ses), .ref sf, .ref st, .int (zI les), .ref ef, .ref et, .int (zI mes), .ref xa, .ref xf, .ref xt, .ref xr, .ref lb, .int (zI lbs), .ref so]))] H locs := hW
  refine zif_eq (tgt := 9) C (by omega) dMo_keep_4 (by decide) (fun c4 => ?_) (fun c4 => ?_)
  · refine lv_iconst (v := zI 0) C.1 C.2.1 dMo_keep_9 (by decide) ?_
    refine lv_istore_n (lv' := [(1, .int (zI 0)), (0, .ref m0)]) C.1 C.2.1 dMo_keep_10 rfl hl (by decide) rfl (fun ls hl => ?_)
    have L11 : ∀ (N : Nat) (j : Int) (yu : Int → Int) (yp : Int → Int) (yb : Int → Int) (ye : Int → Int) (yh : Int → Int), (sz - j).toNat < N → (0 ≤ j) → (j ≤ sz) → (yu = cpz Ups KUp j) → (yp = cpz Pla KPl j) → (yb = cpz Beg KBe j) → (ye = cpz Ens KEn j) → (yh = cpz Hid KHi j) → (∀ j : Int, I32 (yu j)) → (∀ j : Int, I64 (yp j)) → (∀ j : Int, I64 (yb j)) → (∀ j : Int, I64 (ye j)) → (∀ j : Int, I32 (yh j)) → ∀ (ls : Array Slot) (H : Heap) (locs : List Loc), lv_has ls 2 [(1, .int (zI j)), (0, .ref m0)] → zw D zCl A s [(au, .inl (cI, 6000, .inl (fI Ups))), (ap, .inl (cL, 6000, .inr (.inl (fL Pla)))), (ab, .inl (cL, 6000, .inr (.inl (fL Beg)))), (ae, .inl (cL, 6000, .inr (.inl (fL Ens)))), (ah, .inl (cI, 6000, .inl (fI Hid))), (ku, .inl (cI, 6000, .inl (fI yu))), (kq, .inl (cL, 6000, .inr (.inl (fL yp)))), (kb, .inl (cL, 6000, .inr (.inl (fL yb)))), (ke, .inl (cL, 6000, .inr (.inl (fL ye)))), (kh, .inl (cI, 6000, .inl (fI yh))), (m0, .inr (10, [.int (zI (1 - dr)), .long (zL wi), .long (zL hi), .int (zI bn), .ref af, .ref at_, .int (zI dr), .int (zI sz), .ref au, .ref ap, .ref ab, .ref ae, .ref ah, .int (zI kp), .int (zI ks), .ref ku, .ref kq, .ref kb, .ref ke, .ref kh, .int (zI als), .ref gf, .ref gt, .int (zI ses), .ref sf, .ref st, .int (zI les), .ref ef, .ref et, .int (zI mes), .ref xa, .ref xf, .ref xt, .ref xr, .ref lb, .int (zI lbs), .ref so]))] H locs → W p l e (zr 1 0 0) s m args below meth c H locs 0 0 Q (F0 m 11 ls []) := by
      intro N
      induction N with
      | zero => intro j yu yp yb ye yh hm; exact absurd hm (Nat.not_lt_zero _)
      | succ N ih11 =>
        intro j yu yp yb ye yh hm11 hi0 hi1 hyu hyp hyb hye hyh hyub hypb hybb hyeb hyhb ls H locs hl hW
        refine lv_iload_n C.1 C.2.1 dMo_keep_11 rfl (lv_at hl 0 rfl) ?_
        refine lv_aload_n C.1 C.2.1 dMo_keep_12 rfl (lv_at hl 1 rfl) ?_
        refine zget C hW 10 7 rfl rfl inMo (by decide) flMo_145 rfl dMo_keep_13 ?_
        refine zicmp_ge (tgt := 85) C (by omega) (by omega) dMo_keep_16 (by decide) (fun c16 => ?_) (fun c16 => ?_)
        · refine lv_aload_n C.1 C.2.1 dMo_keep_85 rfl (lv_at hl 1 rfl) ?_
          refine lv_aload_n C.1 C.2.1 dMo_keep_86 rfl (lv_at hl 1 rfl) ?_
          refine zget C hW 10 7 rfl rfl inMo (by decide) flMo_145 rfl dMo_keep_87 ?_
          refine zput C hW 10 14 tyMo tyMo_ok nmMo rfl rfl inMo (by decide) flMo_249 rfl rfl rfl rfl (Nat.le_of_ble_eq_true rfl) dMo_keep_90 (fun H locs hW => ?_)
          have hW : zw D zCl A s [(au, .inl (cI, 6000, .inl (fI Ups))), (ap, .inl (cL, 6000, .inr (.inl (fL Pla)))), (ab, .inl (cL, 6000, .inr (.inl (fL Beg)))), (ae, .inl (cL, 6000, .inr (.inl (fL Ens)))), (ah, .inl (cI, 6000, .inl (fI Hid))), (ku, .inl (cI, 6000, .inl (fI yu))), (kq, .inl (cL, 6000, .inr (.inl (fL yp)))), (kb, .inl (cL, 6000, .inr (.inl (fL yb)))), (ke, .inl (cL, 6000, .inr (.inl (fL ye)))), (kh, .inl (cI, 6000, .inl (fI yh))), (m0, .inr (10, [.int (zI (1 - dr)), .long (zL wi), .long (zL hi), .int (zI bn), .ref af, .ref at_, .int (zI dr), .int (zI sz), .ref au, .ref ap, .ref ab, .ref ae, .ref ah, .int (zI kp), .int (zI sz), .ref ku, .ref kq, .ref kb, .ref ke, .ref kh, .int (zI als), .ref gf, .ref gt, .int (zI ses), .ref sf, .ref st, .int (zI les), .ref ef, .ref et, .int (zI mes), .ref xa, .ref xf, .ref xt, .ref xr, .ref lb, .int (zI lbs), .ref so]))] H locs := hW
          refine lv_aload_n C.1 C.2.1 dMo_keep_93 rfl (lv_at hl 1 rfl) ?_
          refine lv_iconst (v := zI 1) C.1 C.2.1 dMo_keep_94 (by decide) ?_
          refine zput C hW 10 13 tyMo tyMo_ok nmMo rfl rfl inMo (by decide) flMo_252 rfl rfl (by decide) (by decide) (Nat.le_of_ble_eq_true rfl) dMo_keep_95 (fun H locs hW => ?_)
          have hW : zw D zCl A s [(au, .inl (cI, 6000, .inl (fI Ups))), (ap, .inl (cL, 6000, .inr (.inl (fL Pla)))), (ab, .inl (cL, 6000, .inr (.inl (fL Beg)))), (ae, .inl (cL, 6000, .inr (.inl (fL Ens)))), (ah, .inl (cI, 6000, .inl (fI Hid))), (ku, .inl (cI, 6000, .inl (fI yu))), (kq, .inl (cL, 6000, .inr (.inl (fL yp)))), (kb, .inl (cL, 6000, .inr (.inl (fL yb)))), (ke, .inl (cL, 6000, .inr (.inl (fL ye)))), (kh, .inl (cI, 6000, .inl (fI yh))), (m0, .inr (10, [.int (zI (1 - dr)), .long (zL wi), .long (zL hi), .int (zI bn), .ref af, .ref at_, .int (zI dr), .int (zI sz), .ref au, .ref ap, .ref ab, .ref ae, .ref ah, .int (zI 1), .int (zI sz), .ref ku, .ref kq, .ref kb, .ref ke, .ref kh, .int (zI als), .ref gf, .ref gt, .int (zI ses), .ref sf, .ref st, .int (zI les), .ref ef, .ref et, .int (zI mes), .ref xa, .ref xf, .ref xt, .ref xr, .ref lb, .int (zI lbs), .ref so]))] H locs := hW
          refine lv_aload_n C.1 C.2.1 dMo_keep_98 rfl (lv_at hl 1 rfl) ?_
          refine zget C hW 10 7 rfl rfl inMo (by decide) flMo_145 rfl dMo_keep_99 ?_
          have hW : zw D zCl A s [(m0, .inr (10, [.int (zI (1 - dr)), .long (zL wi), .long (zL hi), .int (zI bn), .ref af, .ref at_, .int (zI dr), .int (zI sz), .ref au, .ref ap, .ref ab, .ref ae, .ref ah, .int (zI 1), .int (zI sz), .ref ku, .ref kq, .ref kb, .ref ke, .ref kh, .int (zI als), .ref gf, .ref gt, .int (zI ses), .ref sf, .ref st, .int (zI les), .ref ef, .ref et, .int (zI mes), .ref xa, .ref xf, .ref xt, .ref xr, .ref lb, .int (zI lbs), .ref so])), (au, .inl (cI, 6000, .inl (fI Ups))), (ap, .inl (cL, 6000, .inr (.inl (fL Pla)))), (ab, .inl (cL, 6000, .inr (.inl (fL Beg)))), (ae, .inl (cL, 6000, .inr (.inl (fL Ens)))), (ah, .inl (cI, 6000, .inl (fI Hid))), (ku, .inl (cI, 6000, .inl (fI yu))), (kq, .inl (cL, 6000, .inr (.inl (fL yp)))), (kb, .inl (cL, 6000, .inr (.inl (fL yb)))), (ke, .inl (cL, 6000, .inr (.inl (fL ye)))), (kh, .inl (cI, 6000, .inl (fI yh)))] H locs := zwp hW [10, 0, 1, 2, 3, 4, 5, 6, 7, 8, 9] rfl (by decide)
          exact hQ (zI sz) _ H locs _ _ _ ls hW ⟨_, _, _, yu, yp, yb, ye, yh, hyub, hypb, hybb, hyeb, hyhb, (fun _ => ⟨rfl, rfl, rfl, (by rw [hyu, show sz = j by omega]), (by rw [hyp, show sz = j by omega]), (by rw [hyb, show sz = j by omega]), (by rw [hye, show sz = j by omega]), (by rw [hyh, show sz = j by omega])⟩), (fun h => by omega), rfl, rfl⟩ (by omega) (by omega) dMo_keep_102
        · refine lv_aload_n C.1 C.2.1 dMo_keep_19 rfl (lv_at hl 1 rfl) ?_
          refine zget C hW 10 15 rfl rfl inMo (by decide) flMo_32 rfl dMo_keep_20 ?_
          refine lv_iload_n C.1 C.2.1 dMo_keep_23 rfl (lv_at hl 0 rfl) ?_
          refine lv_aload_n C.1 C.2.1 dMo_keep_24 rfl (lv_at hl 1 rfl) ?_
          refine zget C hW 10 8 rfl rfl inMo (by decide) flMo_16 rfl dMo_keep_25 ?_
          refine lv_iload_n C.1 C.2.1 dMo_keep_28 rfl (lv_at hl 0 rfl) ?_
          refine ziald C hW 0 0 rfl rfl (by omega) (by omega) (by decide) dMo_keep_29 ?_
          have hb1 := bUps j
          refine ziast C hW 5 0 rfl rfl (by omega) (by omega) (by decide) dMo_keep_30 (fun H locs hW => ?_)
          have hB2 : ∀ jj : Int, I32 ((upz yu j (Ups j)) jj) := upz_b hyub (by omega)
          have hW : zw D zCl A s [(au, .inl (cI, 6000, .inl (fI Ups))), (ap, .inl (cL, 6000, .inr (.inl (fL Pla)))), (ab, .inl (cL, 6000, .inr (.inl (fL Beg)))), (ae, .inl (cL, 6000, .inr (.inl (fL Ens)))), (ah, .inl (cI, 6000, .inl (fI Hid))), (ku, .inl (cI, 6000, .inl (fI (upz yu j (Ups j))))), (kq, .inl (cL, 6000, .inr (.inl (fL yp)))), (kb, .inl (cL, 6000, .inr (.inl (fL yb)))), (ke, .inl (cL, 6000, .inr (.inl (fL ye)))), (kh, .inl (cI, 6000, .inl (fI yh))), (m0, .inr (10, [.int (zI (1 - dr)), .long (zL wi), .long (zL hi), .int (zI bn), .ref af, .ref at_, .int (zI dr), .int (zI sz), .ref au, .ref ap, .ref ab, .ref ae, .ref ah, .int (zI kp), .int (zI ks), .ref ku, .ref kq, .ref kb, .ref ke, .ref kh, .int (zI als), .ref gf, .ref gt, .int (zI ses), .ref sf, .ref st, .int (zI les), .ref ef, .ref et, .int (zI mes), .ref xa, .ref xf, .ref xt, .ref xr, .ref lb, .int (zI lbs), .ref so]))] H locs := hW
          refine lv_aload_n C.1 C.2.1 dMo_keep_31 rfl (lv_at hl 1 rfl) ?_
          refine zget C hW 10 16 rfl rfl inMo (by decide) flMo_35 rfl dMo_keep_32 ?_
          refine lv_iload_n C.1 C.2.1 dMo_keep_35 rfl (lv_at hl 0 rfl) ?_
          refine lv_aload_n C.1 C.2.1 dMo_keep_36 rfl (lv_at hl 1 rfl) ?_
          refine zget C hW 10 9 rfl rfl inMo (by decide) flMo_20 rfl dMo_keep_37 ?_
          refine lv_iload_n C.1 C.2.1 dMo_keep_40 rfl (lv_at hl 0 rfl) ?_
          refine zlald C hW 1 2 rfl rfl (by omega) (by omega) (by decide) dMo_keep_41 ?_
          have hb3 := bPla j
          refine zlast C hW 6 2 rfl rfl (by omega) (by omega) (by decide) dMo_keep_42 (fun H locs hW => ?_)
          have hB4 : ∀ jj : Int, I64 ((upz yp j (Pla j)) jj) := upz_bL hypb (by omega)
          have hW : zw D zCl A s [(au, .inl (cI, 6000, .inl (fI Ups))), (ap, .inl (cL, 6000, .inr (.inl (fL Pla)))), (ab, .inl (cL, 6000, .inr (.inl (fL Beg)))), (ae, .inl (cL, 6000, .inr (.inl (fL Ens)))), (ah, .inl (cI, 6000, .inl (fI Hid))), (ku, .inl (cI, 6000, .inl (fI (upz yu j (Ups j))))), (kq, .inl (cL, 6000, .inr (.inl (fL (upz yp j (Pla j)))))), (kb, .inl (cL, 6000, .inr (.inl (fL yb)))), (ke, .inl (cL, 6000, .inr (.inl (fL ye)))), (kh, .inl (cI, 6000, .inl (fI yh))), (m0, .inr (10, [.int (zI (1 - dr)), .long (zL wi), .long (zL hi), .int (zI bn), .ref af, .ref at_, .int (zI dr), .int (zI sz), .ref au, .ref ap, .ref ab, .ref ae, .ref ah, .int (zI kp), .int (zI ks), .ref ku, .ref kq, .ref kb, .ref ke, .ref kh, .int (zI als), .ref gf, .ref gt, .int (zI ses), .ref sf, .ref st, .int (zI les), .ref ef, .ref et, .int (zI mes), .ref xa, .ref xf, .ref xt, .ref xr, .ref lb, .int (zI lbs), .ref so]))] H locs := hW
          refine lv_aload_n C.1 C.2.1 dMo_keep_43 rfl (lv_at hl 1 rfl) ?_
          refine zget C hW 10 17 rfl rfl inMo (by decide) flMo_38 rfl dMo_keep_44 ?_
          refine lv_iload_n C.1 C.2.1 dMo_keep_47 rfl (lv_at hl 0 rfl) ?_
          refine lv_aload_n C.1 C.2.1 dMo_keep_48 rfl (lv_at hl 1 rfl) ?_
          refine zget C hW 10 10 rfl rfl inMo (by decide) flMo_23 rfl dMo_keep_49 ?_
          refine lv_iload_n C.1 C.2.1 dMo_keep_52 rfl (lv_at hl 0 rfl) ?_
          refine zlald C hW 2 2 rfl rfl (by omega) (by omega) (by decide) dMo_keep_53 ?_
          have hb5 := bBeg j
          refine zlast C hW 7 2 rfl rfl (by omega) (by omega) (by decide) dMo_keep_54 (fun H locs hW => ?_)
          have hB6 : ∀ jj : Int, I64 ((upz yb j (Beg j)) jj) := upz_bL hybb (by omega)
          have hW : zw D zCl A s [(au, .inl (cI, 6000, .inl (fI Ups))), (ap, .inl (cL, 6000, .inr (.inl (fL Pla)))), (ab, .inl (cL, 6000, .inr (.inl (fL Beg)))), (ae, .inl (cL, 6000, .inr (.inl (fL Ens)))), (ah, .inl (cI, 6000, .inl (fI Hid))), (ku, .inl (cI, 6000, .inl (fI (upz yu j (Ups j))))), (kq, .inl (cL, 6000, .inr (.inl (fL (upz yp j (Pla j)))))), (kb, .inl (cL, 6000, .inr (.inl (fL (upz yb j (Beg j)))))), (ke, .inl (cL, 6000, .inr (.inl (fL ye)))), (kh, .inl (cI, 6000, .inl (fI yh))), (m0, .inr (10, [.int (zI (1 - dr)), .long (zL wi), .long (zL hi), .int (zI bn), .ref af, .ref at_, .int (zI dr), .int (zI sz), .ref au, .ref ap, .ref ab, .ref ae, .ref ah, .int (zI kp), .int (zI ks), .ref ku, .ref kq, .ref kb, .ref ke, .ref kh, .int (zI als), .ref gf, .ref gt, .int (zI ses), .ref sf, .ref st, .int (zI les), .ref ef, .ref et, .int (zI mes), .ref xa, .ref xf, .ref xt, .ref xr, .ref lb, .int (zI lbs), .ref so]))] H locs := hW
          refine lv_aload_n C.1 C.2.1 dMo_keep_55 rfl (lv_at hl 1 rfl) ?_
          refine zget C hW 10 18 rfl rfl inMo (by decide) flMo_41 rfl dMo_keep_56 ?_
          refine lv_iload_n C.1 C.2.1 dMo_keep_59 rfl (lv_at hl 0 rfl) ?_
          refine lv_aload_n C.1 C.2.1 dMo_keep_60 rfl (lv_at hl 1 rfl) ?_
          refine zget C hW 10 11 rfl rfl inMo (by decide) flMo_26 rfl dMo_keep_61 ?_
          refine lv_iload_n C.1 C.2.1 dMo_keep_64 rfl (lv_at hl 0 rfl) ?_
          refine zlald C hW 3 2 rfl rfl (by omega) (by omega) (by decide) dMo_keep_65 ?_
          have hb7 := bEns j
          refine zlast C hW 8 2 rfl rfl (by omega) (by omega) (by decide) dMo_keep_66 (fun H locs hW => ?_)
          have hB8 : ∀ jj : Int, I64 ((upz ye j (Ens j)) jj) := upz_bL hyeb (by omega)
          have hW : zw D zCl A s [(au, .inl (cI, 6000, .inl (fI Ups))), (ap, .inl (cL, 6000, .inr (.inl (fL Pla)))), (ab, .inl (cL, 6000, .inr (.inl (fL Beg)))), (ae, .inl (cL, 6000, .inr (.inl (fL Ens)))), (ah, .inl (cI, 6000, .inl (fI Hid))), (ku, .inl (cI, 6000, .inl (fI (upz yu j (Ups j))))), (kq, .inl (cL, 6000, .inr (.inl (fL (upz yp j (Pla j)))))), (kb, .inl (cL, 6000, .inr (.inl (fL (upz yb j (Beg j)))))), (ke, .inl (cL, 6000, .inr (.inl (fL (upz ye j (Ens j)))))), (kh, .inl (cI, 6000, .inl (fI yh))), (m0, .inr (10, [.int (zI (1 - dr)), .long (zL wi), .long (zL hi), .int (zI bn), .ref af, .ref at_, .int (zI dr), .int (zI sz), .ref au, .ref ap, .ref ab, .ref ae, .ref ah, .int (zI kp), .int (zI ks), .ref ku, .ref kq, .ref kb, .ref ke, .ref kh, .int (zI als), .ref gf, .ref gt, .int (zI ses), .ref sf, .ref st, .int (zI les), .ref ef, .ref et, .int (zI mes), .ref xa, .ref xf, .ref xt, .ref xr, .ref lb, .int (zI lbs), .ref so]))] H locs := hW
          refine lv_aload_n C.1 C.2.1 dMo_keep_67 rfl (lv_at hl 1 rfl) ?_
          refine zget C hW 10 19 rfl rfl inMo (by decide) flMo_44 rfl dMo_keep_68 ?_
          refine lv_iload_n C.1 C.2.1 dMo_keep_71 rfl (lv_at hl 0 rfl) ?_
          refine lv_aload_n C.1 C.2.1 dMo_keep_72 rfl (lv_at hl 1 rfl) ?_
          refine zget C hW 10 12 rfl rfl inMo (by decide) flMo_29 rfl dMo_keep_73 ?_
          refine lv_iload_n C.1 C.2.1 dMo_keep_76 rfl (lv_at hl 0 rfl) ?_
          refine ziald C hW 4 0 rfl rfl (by omega) (by omega) (by decide) dMo_keep_77 ?_
          have hb9 := bHid j
          refine ziast C hW 9 0 rfl rfl (by omega) (by omega) (by decide) dMo_keep_78 (fun H locs hW => ?_)
          have hB10 : ∀ jj : Int, I32 ((upz yh j (Hid j)) jj) := upz_b hyhb (by omega)
          have hW : zw D zCl A s [(au, .inl (cI, 6000, .inl (fI Ups))), (ap, .inl (cL, 6000, .inr (.inl (fL Pla)))), (ab, .inl (cL, 6000, .inr (.inl (fL Beg)))), (ae, .inl (cL, 6000, .inr (.inl (fL Ens)))), (ah, .inl (cI, 6000, .inl (fI Hid))), (ku, .inl (cI, 6000, .inl (fI (upz yu j (Ups j))))), (kq, .inl (cL, 6000, .inr (.inl (fL (upz yp j (Pla j)))))), (kb, .inl (cL, 6000, .inr (.inl (fL (upz yb j (Beg j)))))), (ke, .inl (cL, 6000, .inr (.inl (fL (upz ye j (Ens j)))))), (kh, .inl (cI, 6000, .inl (fI (upz yh j (Hid j))))), (m0, .inr (10, [.int (zI (1 - dr)), .long (zL wi), .long (zL hi), .int (zI bn), .ref af, .ref at_, .int (zI dr), .int (zI sz), .ref au, .ref ap, .ref ab, .ref ae, .ref ah, .int (zI kp), .int (zI ks), .ref ku, .ref kq, .ref kb, .ref ke, .ref kh, .int (zI als), .ref gf, .ref gt, .int (zI ses), .ref sf, .ref st, .int (zI les), .ref ef, .ref et, .int (zI mes), .ref xa, .ref xf, .ref xt, .ref xr, .ref lb, .int (zI lbs), .ref so]))] H locs := hW
          refine lv_iinc (v := zI (j + 1)) (lv' := [(1, .int (zI (j + 1))), (0, .ref m0)]) C.1 C.2.1 dMo_keep_79 hl (k := 0) rfl (zI_add j 1) (by decide) rfl (fun ls hl => ?_)
          refine lv_goto (tgt := 11) C.1 C.2.1 dMo_keep_82 (by decide) ?_
          exact ih11 (j + 1) (upz yu j (Ups j)) (upz yp j (Pla j)) (upz yb j (Beg j)) (upz ye j (Ens j)) (upz yh j (Hid j)) (by omega) (by omega) (by omega) (by rw [hyu, cpz_s _ _ hi0]) (by rw [hyp, cpz_s _ _ hi0]) (by rw [hyb, cpz_s _ _ hi0]) (by rw [hye, cpz_s _ _ hi0]) (by rw [hyh, cpz_s _ _ hi0]) hB2 hB4 hB6 hB8 hB10 ls H locs (lv_sub hl [0, 1] rfl) hW
    exact L11 _ 0 KUp KPl KBe KEn KHi (Nat.lt_succ_self _) (by omega) (by omega) (cpz_0 _ _).symm (cpz_0 _ _).symm (cpz_0 _ _).symm (cpz_0 _ _).symm (cpz_0 _ _).symm bKUp bKPl bKBe bKEn bKHi ls H locs (lv_sub hl [0, 1] rfl) hW
  · refine lv_iconst (v := zI 0) C.1 C.2.1 dMo_keep_7 (by decide) ?_
    have hW : zw D zCl A s [(m0, .inr (10, [.int (zI (1 - dr)), .long (zL wi), .long (zL hi), .int (zI bn), .ref af, .ref at_, .int (zI dr), .int (zI sz), .ref au, .ref ap, .ref ab, .ref ae, .ref ah, .int (zI kp), .int (zI ks), .ref ku, .ref kq, .ref kb, .ref ke, .ref kh, .int (zI als), .ref gf, .ref gt, .int (zI ses), .ref sf, .ref st, .int (zI les), .ref ef, .ref et, .int (zI mes), .ref xa, .ref xf, .ref xt, .ref xr, .ref lb, .int (zI lbs), .ref so])), (au, .inl (cI, 6000, .inl (fI Ups))), (ap, .inl (cL, 6000, .inr (.inl (fL Pla)))), (ab, .inl (cL, 6000, .inr (.inl (fL Beg)))), (ae, .inl (cL, 6000, .inr (.inl (fL Ens)))), (ah, .inl (cI, 6000, .inl (fI Hid))), (ku, .inl (cI, 6000, .inl (fI KUp))), (kq, .inl (cL, 6000, .inr (.inl (fL KPl)))), (kb, .inl (cL, 6000, .inr (.inl (fL KBe)))), (ke, .inl (cL, 6000, .inr (.inl (fL KEn)))), (kh, .inl (cI, 6000, .inl (fI KHi)))] H locs := zwp hW [10, 0, 1, 2, 3, 4, 5, 6, 7, 8, 9] rfl (by decide)
    exact hQ (zI 0) _ H locs _ _ _ ls hW ⟨0, kp, ks, KUp, KPl, KBe, KEn, KHi, bKUp, bKPl, bKBe, bKEn, bKHi, (fun h => by omega), (fun _ => ⟨rfl, rfl, rfl, rfl, rfl, rfl, rfl⟩), rfl, rfl⟩ (by omega) (by omega) dMo_keep_8
set_option maxHeartbeats 4000000 in
set_option maxRecDepth 100000 in
theorem m_changed (l : Launch) (D : va_G) (cI cG cL cB : ClassId) (m0 : Nat) (cd : Int) (wi : Int) (hi : Int) (bn : Int) (af : Nat) (at_ : Nat) (dr : Int) (sz : Int) (au : Nat) (ap : Nat) (ab : Nat) (ae : Nat) (ah : Nat) (kp : Int) (ks : Int) (ku : Nat) (kq : Nat) (kb : Nat) (ke : Nat) (kh : Nat) (als : Int) (gf : Nat) (gt : Nat) (ses : Int) (sf : Nat) (st : Nat) (les : Int) (ef : Nat) (et : Nat) (mes : Int) (xa : Nat) (xf : Nat) (xt : Nat) (xr : Nat) (lb : Nat) (lbs : Int) (so : Nat) (Ups : Int → Int) (Pla : Int → Int) (Beg : Int → Int) (Ens : Int → Int) (Hid : Int → Int) (KUp : Int → Int) (KPl : Int → Int) (KBe : Int → Int) (KEn : Int → Int) (KHi : Int → Int) (k : Int) (bUps : ∀ j : Int, I32 (Ups j)) (bPla : ∀ j : Int, I64 (Pla j)) (bBeg : ∀ j : Int, I64 (Beg j)) (bEns : ∀ j : Int, I64 (Ens j)) (bHid : ∀ j : Int, I32 (Hid j)) (bKUp : ∀ j : Int, I32 (KUp j)) (bKPl : ∀ j : Int, I64 (KPl j)) (bKBe : ∀ j : Int, I64 (KBe j)) (bKEn : ∀ j : Int, I64 (KEn j)) (bKHi : ∀ j : Int, I32 (KHi j)) (hsz : 0 ≤ sz ∧ sz ≤ 6000) (hks : 0 ≤ ks ∧ ks ≤ 6000) (hdr : dr = 0 ∨ dr = 1) (hkp : kp = 0 ∨ kp = 1) (hIk : I32 k) : Ci l yMo_changed cMo_changed 4 (some .int) 1 0 0 D zCl (zT cI cG cL cB) [.ref m0, .int (zI k)] [(m0, .inr (10, [.int (zI cd), .long (zL wi), .long (zL hi), .int (zI bn), .ref af, .ref at_, .int (zI dr), .int (zI sz), .ref au, .ref ap, .ref ab, .ref ae, .ref ah, .int (zI kp), .int (zI ks), .ref ku, .ref kq, .ref kb, .ref ke, .ref kh, .int (zI als), .ref gf, .ref gt, .int (zI ses), .ref sf, .ref st, .int (zI les), .ref ef, .ref et, .int (zI mes), .ref xa, .ref xf, .ref xt, .ref xr, .ref lb, .int (zI lbs), .ref so])), (au, .inl (cI, 6000, .inl (fI Ups))), (ap, .inl (cL, 6000, .inr (.inl (fL Pla)))), (ab, .inl (cL, 6000, .inr (.inl (fL Beg)))), (ae, .inl (cL, 6000, .inr (.inl (fL Ens)))), (ah, .inl (cI, 6000, .inl (fI Hid))), (ku, .inl (cI, 6000, .inl (fI KUp))), (kq, .inl (cL, 6000, .inr (.inl (fL KPl)))), (kb, .inl (cL, 6000, .inr (.inl (fL KBe)))), (ke, .inl (cL, 6000, .inr (.inl (fL KEn)))), (kh, .inl (cI, 6000, .inl (fI KHi)))] (fun x w => ∃ cd2 : Int, ∃ r2 : Int, (cd2 = if dr = 1 ∧ kp = 1 then (if k < 0 then 2 else 0) else 1) ∧ (cd2 = 0 → r2 = kthZ (mNew Ups Pla Beg Ens Hid KUp KPl KBe KEn KHi ks) k sz) ∧ x = zI r2 ∧ w = [(m0, .inr (10, [.int (zI cd2), .long (zL wi), .long (zL hi), .int (zI bn), .ref af, .ref at_, .int (zI dr), .int (zI sz), .ref au, .ref ap, .ref ab, .ref ae, .ref ah, .int (zI kp), .int (zI ks), .ref ku, .ref kq, .ref kb, .ref ke, .ref kh, .int (zI als), .ref gf, .ref gt, .int (zI ses), .ref sf, .ref st, .int (zI les), .ref ef, .ref et, .int (zI mes), .ref xa, .ref xf, .ref xt, .ref xr, .ref lb, .int (zI lbs), .ref so])), (au, .inl (cI, 6000, .inl (fI Ups))), (ap, .inl (cL, 6000, .inr (.inl (fL Pla)))), (ab, .inl (cL, 6000, .inr (.inl (fL Beg)))), (ae, .inl (cL, 6000, .inr (.inl (fL Ens)))), (ah, .inl (cI, 6000, .inl (fI Hid))), (ku, .inl (cI, 6000, .inl (fI KUp))), (kq, .inl (cL, 6000, .inr (.inl (fL KPl)))), (kb, .inl (cL, 6000, .inr (.inl (fL KBe)))), (ke, .inl (cL, 6000, .inr (.inl (fL KEn)))), (kh, .inl (cI, 6000, .inl (fI KHi)))]) := by
  refine zBi (by decide) (Nat.le_of_ble_eq_true rfl) ?_
  intro p e s m args below meth c ls A H locs Q C hin hl hW hQ
  have hl : lv_has ls 4 [(0, .ref m0), (1, .int (zI k))] := hl
  refine lv_aload_n C.1 C.2.1 dMo_changed_0 rfl (lv_at hl 0 rfl) ?_
  have L28 : ∀ (v : Int), (v = if dr = 1 ∧ kp = 1 then (if k < 0 then 2 else 0) else 1) → (v = 0 ∨ v = 1 ∨ v = 2) → (v = 0 → 0 ≤ k) → ∀ (ls : Array Slot) (H : Heap) (locs : List Loc), lv_has ls 4 [(0, .ref m0), (1, .int (zI k))] → zw D zCl A s [(m0, .inr (10, [.int (zI cd), .long (zL wi), .long (zL hi), .int (zI bn), .ref af, .ref at_, .int (zI dr), .int (zI sz), .ref au, .ref ap, .ref ab, .ref ae, .ref ah, .int (zI kp), .int (zI ks), .ref ku, .ref kq, .ref kb, .ref ke, .ref kh, .int (zI als), .ref gf, .ref gt, .int (zI ses), .ref sf, .ref st, .int (zI les), .ref ef, .ref et, .int (zI mes), .ref xa, .ref xf, .ref xt, .ref xr, .ref lb, .int (zI lbs), .ref so])), (au, .inl (cI, 6000, .inl (fI Ups))), (ap, .inl (cL, 6000, .inr (.inl (fL Pla)))), (ab, .inl (cL, 6000, .inr (.inl (fL Beg)))), (ae, .inl (cL, 6000, .inr (.inl (fL Ens)))), (ah, .inl (cI, 6000, .inl (fI Hid))), (ku, .inl (cI, 6000, .inl (fI KUp))), (kq, .inl (cL, 6000, .inr (.inl (fL KPl)))), (kb, .inl (cL, 6000, .inr (.inl (fL KBe)))), (ke, .inl (cL, 6000, .inr (.inl (fL KEn)))), (kh, .inl (cI, 6000, .inl (fI KHi)))] H locs → W p l e (zr 1 0 0) s m args below meth c H locs 0 0 Q (F0 m 28 ls [.int (zI v), .ref m0]) := by
    intro v hv hv2 hv3 ls H locs hl hW
    refine zput C hW 0 0 tyMo tyMo_ok nmMo rfl rfl inMo (by decide) flMo_93 rfl rfl rfl rfl (Nat.le_of_ble_eq_true rfl) dMo_changed_28 (fun H locs hW => ?_)
    have hW : zw D zCl A s [(m0, .inr (10, [.int (zI v), .long (zL wi), .long (zL hi), .int (zI bn), .ref af, .ref at_, .int (zI dr), .int (zI sz), .ref au, .ref ap, .ref ab, .ref ae, .ref ah, .int (zI kp), .int (zI ks), .ref ku, .ref kq, .ref kb, .ref ke, .ref kh, .int (zI als), .ref gf, .ref gt, .int (zI ses), .ref sf, .ref st, .int (zI les), .ref ef, .ref et, .int (zI mes), .ref xa, .ref xf, .ref xt, .ref xr, .ref lb, .int (zI lbs), .ref so])), (au, .inl (cI, 6000, .inl (fI Ups))), (ap, .inl (cL, 6000, .inr (.inl (fL Pla)))), (ab, .inl (cL, 6000, .inr (.inl (fL Beg)))), (ae, .inl (cL, 6000, .inr (.inl (fL Ens)))), (ah, .inl (cI, 6000, .inl (fI Hid))), (ku, .inl (cI, 6000, .inl (fI KUp))), (kq, .inl (cL, 6000, .inr (.inl (fL KPl)))), (kb, .inl (cL, 6000, .inr (.inl (fL KBe)))), (ke, .inl (cL, 6000, .inr (.inl (fL KEn)))), (kh, .inl (cI, 6000, .inl (fI KHi)))] H locs := hW
    refine lv_iload_n C.1 C.2.1 dMo_changed_31 rfl (lv_at hl 1 rfl) ?_
    refine lv_istore_n (lv' := [(2, .int (zI k)), (0, .ref m0), (1, .int (zI k))]) C.1 C.2.1 dMo_changed_32 rfl hl (by decide) rfl (fun ls hl => ?_)
    refine lv_iconst (v := zI 0) C.1 C.2.1 dMo_changed_33 (by decide) ?_
    refine lv_istore_n (lv' := [(3, .int (zI 0)), (2, .int (zI k)), (0, .ref m0), (1, .int (zI k))]) C.1 C.2.1 dMo_changed_34 rfl hl (by decide) rfl (fun ls hl => ?_)
    have L35 : ∀ (N : Nat) (j : Int) (lf : Int), (sz - j).toNat < N → (0 ≤ j) → (j ≤ sz) → (I32 lf) → (v = 0 → lf = k - cntZ (mNew Ups Pla Beg Ens Hid KUp KPl KBe KEn KHi ks) j ∧ 0 ≤ lf ∧ anyZ (fun i => (mNew Ups Pla Beg Ens Hid KUp KPl KBe KEn KHi ks) i && decide (cntZ (mNew Ups Pla Beg Ens Hid KUp KPl KBe KEn KHi ks) i = k)) j = false) → ∀ (ls : Array Slot) (H : Heap) (locs : List Loc), lv_has ls 4 [(3, .int (zI j)), (2, .int (zI lf)), (0, .ref m0), (1, .int (zI k))] → zw D zCl A s [(m0, .inr (10, [.int (zI v), .long (zL wi), .long (zL hi), .int (zI bn), .ref af, .ref at_, .int (zI dr), .int (zI sz), .ref au, .ref ap, .ref ab, .ref ae, .ref ah, .int (zI kp), .int (zI ks), .ref ku, .ref kq, .ref kb, .ref ke, .ref kh, .int (zI als), .ref gf, .ref gt, .int (zI ses), .ref sf, .ref st, .int (zI les), .ref ef, .ref et, .int (zI mes), .ref xa, .ref xf, .ref xt, .ref xr, .ref lb, .int (zI lbs), .ref so])), (au, .inl (cI, 6000, .inl (fI Ups))), (ap, .inl (cL, 6000, .inr (.inl (fL Pla)))), (ab, .inl (cL, 6000, .inr (.inl (fL Beg)))), (ae, .inl (cL, 6000, .inr (.inl (fL Ens)))), (ah, .inl (cI, 6000, .inl (fI Hid))), (ku, .inl (cI, 6000, .inl (fI KUp))), (kq, .inl (cL, 6000, .inr (.inl (fL KPl)))), (kb, .inl (cL, 6000, .inr (.inl (fL KBe)))), (ke, .inl (cL, 6000, .inr (.inl (fL KEn)))), (kh, .inl (cI, 6000, .inl (fI KHi)))] H locs → W p l e (zr 1 0 0) s m args below meth c H locs 0 0 Q (F0 m 35 ls []) := by
      intro N
      induction N with
      | zero => intro j lf hm; exact absurd hm (Nat.not_lt_zero _)
      | succ N ih35 =>
        intro j lf hm35 hi0 hi1 hlb hlf ls H locs hl hW
        refine lv_iload_n C.1 C.2.1 dMo_changed_35 rfl (lv_at hl 0 rfl) ?_
        refine lv_aload_n C.1 C.2.1 dMo_changed_36 rfl (lv_at hl 2 rfl) ?_
        refine zget C hW 0 7 rfl rfl inMo (by decide) flMo_145 rfl dMo_changed_37 ?_
        refine zicmp_ge (tgt := 73) C (by omega) (by omega) dMo_changed_40 (by decide) (fun c40 => ?_) (fun c40 => ?_)
        · refine lv_aload_n C.1 C.2.1 dMo_changed_73 rfl (lv_at hl 2 rfl) ?_
          refine zget C hW 0 0 rfl rfl inMo (by decide) flMo_93 rfl dMo_changed_74 ?_
          refine zif_le (tgt := 84) C (by omega) dMo_changed_77 (by decide) (fun c77 => ?_) (fun c77 => ?_)
          · refine lv_iconst (v := zI (-1)) C.1 C.2.1 dMo_changed_84 (by decide) ?_
            exact hQ (zI (-1)) _ H locs _ _ _ ls hW ⟨v, _, hv, (fun h => by first | (exfalso; omega) | exact (kthZ_no (by omega) (by have h3 := (hlf h).2.2; rw [show j = sz by omega] at h3; exact h3)).symm), rfl, rfl⟩ (by omega) (by omega) dMo_changed_85
          · refine lv_iconst (v := zI 0) C.1 C.2.1 dMo_changed_80 (by decide) ?_
            refine lv_goto (tgt := 85) C.1 C.2.1 dMo_changed_81 (by decide) ?_
            exact hQ (zI 0) _ H locs _ _ _ ls hW ⟨v, _, hv, (fun h => by first | (exfalso; omega) | exact (kthZ_no (by omega) (by have h3 := (hlf h).2.2; rw [show j = sz by omega] at h3; exact h3)).symm), rfl, rfl⟩ (by omega) (by omega) dMo_changed_85
        · refine lv_aload_n C.1 C.2.1 dMo_changed_43 rfl (lv_at hl 2 rfl) ?_
          refine zget C hW 0 0 rfl rfl inMo (by decide) flMo_93 rfl dMo_changed_44 ?_
          refine zif_ne (tgt := 73) C (by omega) dMo_changed_47 (by decide) (fun c47 => ?_) (fun c47 => ?_)
          · refine lv_aload_n C.1 C.2.1 dMo_changed_73 rfl (lv_at hl 2 rfl) ?_
            refine zget C hW 0 0 rfl rfl inMo (by decide) flMo_93 rfl dMo_changed_74 ?_
            refine zif_le (tgt := 84) C (by omega) dMo_changed_77 (by decide) (fun c77 => ?_) (fun c77 => ?_)
            · refine lv_iconst (v := zI (-1)) C.1 C.2.1 dMo_changed_84 (by decide) ?_
              exact hQ (zI (-1)) _ H locs _ _ _ ls hW ⟨v, _, hv, (fun h => by first | (exfalso; omega) | exact (kthZ_no (by omega) (by have h3 := (hlf h).2.2; rw [show j = sz by omega] at h3; exact h3)).symm), rfl, rfl⟩ (by omega) (by omega) dMo_changed_85
            · refine lv_iconst (v := zI 0) C.1 C.2.1 dMo_changed_80 (by decide) ?_
              refine lv_goto (tgt := 85) C.1 C.2.1 dMo_changed_81 (by decide) ?_
              exact hQ (zI 0) _ H locs _ _ _ ls hW ⟨v, _, hv, (fun h => by first | (exfalso; omega) | exact (kthZ_no (by omega) (by have h3 := (hlf h).2.2; rw [show j = sz by omega] at h3; exact h3)).symm), rfl, rfl⟩ (by omega) (by omega) dMo_changed_85
          · refine lv_aload_n C.1 C.2.1 dMo_changed_50 rfl (lv_at hl 2 rfl) ?_
            refine lv_iload_n C.1 C.2.1 dMo_changed_51 rfl (lv_at hl 0 rfl) ?_
            refine zcalli (wr := []) C hW [0, 1, 2, 3, 4, 5, 6, 7, 8, 9, 10] [] rfl rfl (by decide) (by decide) (zRunV (k := 1) (As := [.int (zI j)]) (rest := []) C hW (m_isKept l D cI cG cL cB m0 v wi hi bn af at_ dr sz au ap ab ae ah kp ks ku kq kb ke kh als gf gt ses sf st les ef et mes xa xf xt xr lb lbs so Ups Pla Beg Ens Hid KUp KPl KBe KEn KHi j bUps bPla bBeg bEns bHid bKUp bKPl bKBe bKEn bKHi (by omega) (by omega) (by omega) (by omega) H.size) [0, 1, 2, 3, 4, 5, 6, 7, 8, 9, 10] rfl (by decide) kMo_255 (by decide +kernel) ⟨by decide, by decide⟩ 0 rfl rfl rfl hl.1 (Nat.le_of_ble_eq_true rfl) dMo_changed_52 ⟨by first | decide | omega, by first | decide | omega⟩) (fun x w H locs hq hW => ?_)
            obtain ⟨rfl, rfl⟩ := hq
            have hW : zw D zCl A s [(m0, .inr (10, [.int (zI v), .long (zL wi), .long (zL hi), .int (zI bn), .ref af, .ref at_, .int (zI dr), .int (zI sz), .ref au, .ref ap, .ref ab, .ref ae, .ref ah, .int (zI kp), .int (zI ks), .ref ku, .ref kq, .ref kb, .ref ke, .ref kh, .int (zI als), .ref gf, .ref gt, .int (zI ses), .ref sf, .ref st, .int (zI les), .ref ef, .ref et, .int (zI mes), .ref xa, .ref xf, .ref xt, .ref xr, .ref lb, .int (zI lbs), .ref so])), (au, .inl (cI, 6000, .inl (fI Ups))), (ap, .inl (cL, 6000, .inr (.inl (fL Pla)))), (ab, .inl (cL, 6000, .inr (.inl (fL Beg)))), (ae, .inl (cL, 6000, .inr (.inl (fL Ens)))), (ah, .inl (cI, 6000, .inl (fI Hid))), (ku, .inl (cI, 6000, .inl (fI KUp))), (kq, .inl (cL, 6000, .inr (.inl (fL KPl)))), (kb, .inl (cL, 6000, .inr (.inl (fL KBe)))), (ke, .inl (cL, 6000, .inr (.inl (fL KEn)))), (kh, .inl (cI, 6000, .inl (fI KHi)))] H locs := hW
            have hr1 := bz_01 (anyZ (mSame Ups Pla Beg Ens Hid KUp KPl KBe KEn KHi j) ks)
            refine zif_ne (tgt := 67) C (by omega) dMo_changed_55 (by decide) (fun c55 => ?_) (fun c55 => ?_)
            · refine lv_iinc (v := zI (j + 1)) (lv' := [(3, .int (zI (j + 1))), (2, .int (zI lf)), (0, .ref m0), (1, .int (zI k))]) C.1 C.2.1 dMo_changed_67 hl (k := 0) rfl (zI_add j 1) (by decide) rfl (fun ls hl => ?_)
              refine lv_goto (tgt := 35) C.1 C.2.1 dMo_changed_70 (by decide) ?_
              exact ih35 (j + 1) lf (by omega) (by omega) (by omega) (by omega) (fun h => ⟨by rw [cntZ_s _ hi0, mNew_f c55]; have := (hlf h).1; show lf = k - (_ + 0); omega, (hlf h).2.1, anyZ_n hi0 (hlf h).2.2 (by rw [mNew_f c55]; rfl)⟩) ls H locs (lv_sub hl [0, 1, 2, 3] rfl) hW
            · refine lv_iload_n C.1 C.2.1 dMo_changed_58 rfl (lv_at hl 1 rfl) ?_
              refine zif_ne (tgt := 64) C (by omega) dMo_changed_59 (by decide) (fun c59 => ?_) (fun c59 => ?_)
              · refine lv_iinc (v := zI (lf + (-1))) (lv' := [(2, .int (zI (lf + (-1)))), (3, .int (zI j)), (0, .ref m0), (1, .int (zI k))]) C.1 C.2.1 dMo_changed_64 hl (k := 1) rfl (zI_add lf (-1)) (by decide) rfl (fun ls hl => ?_)
                refine lv_iinc (v := zI (j + 1)) (lv' := [(3, .int (zI (j + 1))), (2, .int (zI (lf + (-1)))), (0, .ref m0), (1, .int (zI k))]) C.1 C.2.1 dMo_changed_67 hl (k := 1) rfl (zI_add j 1) (by decide) rfl (fun ls hl => ?_)
                refine lv_goto (tgt := 35) C.1 C.2.1 dMo_changed_70 (by decide) ?_
                exact ih35 (j + 1) (lf + (-1)) (by omega) (by omega) (by omega) (by have := hlf (by omega); omega) (fun h => ⟨by rw [cntZ_s _ hi0, mNew_t c55]; have := (hlf h).1; show lf + (-1) = k - (_ + 1); omega, by have := (hlf h).2.1; omega, anyZ_n hi0 (hlf h).2.2 (by rw [decide_eq_false (by have := (hlf h).1; omega)]; cases (mNew Ups Pla Beg Ens Hid KUp KPl KBe KEn KHi ks) j <;> rfl)⟩) ls H locs (lv_sub hl [0, 1, 2, 3] rfl) hW
              · refine lv_iload_n C.1 C.2.1 dMo_changed_62 rfl (lv_at hl 0 rfl) ?_
                exact hQ (zI j) _ H locs _ _ _ ls hW ⟨v, j, hv, (fun h => (kthZ_at hi0 (by omega) (hlf h).2.2 (mNew_t c55) (by have := (hlf h).1; omega)).symm), rfl, rfl⟩ (by omega) (by omega) dMo_changed_63
    exact L35 _ 0 k (Nat.lt_succ_self _) (by omega) (by omega) (by omega) (fun h => ⟨(by show k = k - 0; omega), hv3 h, anyZ_0 _⟩) ls H locs (lv_sub hl [0, 1, 2, 3] rfl) hW
  refine lv_aload_n C.1 C.2.1 dMo_changed_1 rfl (lv_at hl 0 rfl) ?_
  refine zget C hW 0 6 rfl rfl inMo (by decide) flMo_108 rfl dMo_changed_2 ?_
  refine zif_eq (tgt := 15) C (by omega) dMo_changed_5 (by decide) (fun c5 => ?_) (fun c5 => ?_)
  · refine lv_iconst (v := zI 1) C.1 C.2.1 dMo_changed_15 (by decide) ?_
    refine lv_goto (tgt := 28) C.1 C.2.1 dMo_changed_16 (by decide) ?_
    exact L28 1 (by first | (rw [if_neg (by omega)]; done) | (rw [if_pos (by omega), if_pos (by omega)]; done) | (rw [if_pos (by omega), if_neg (by omega)]; done)) (by omega) (by omega) ls H locs (lv_sub hl [0, 1] rfl) hW
  · refine lv_aload_n C.1 C.2.1 dMo_changed_8 rfl (lv_at hl 0 rfl) ?_
    refine zget C hW 0 13 rfl rfl inMo (by decide) flMo_252 rfl dMo_changed_9 ?_
    refine zif_ne (tgt := 19) C (by omega) dMo_changed_12 (by decide) (fun c12 => ?_) (fun c12 => ?_)
    · refine lv_iload_n C.1 C.2.1 dMo_changed_19 rfl (lv_at hl 1 rfl) ?_
      refine zif_ge (tgt := 27) C (by omega) dMo_changed_20 (by decide) (fun c20 => ?_) (fun c20 => ?_)
      · refine lv_iconst (v := zI 0) C.1 C.2.1 dMo_changed_27 (by decide) ?_
        exact L28 0 (by first | (rw [if_neg (by omega)]; done) | (rw [if_pos (by omega), if_pos (by omega)]; done) | (rw [if_pos (by omega), if_neg (by omega)]; done)) (by omega) (by omega) ls H locs (lv_sub hl [0, 1] rfl) hW
      · refine lv_iconst (v := zI 2) C.1 C.2.1 dMo_changed_23 (by decide) ?_
        refine lv_goto (tgt := 28) C.1 C.2.1 dMo_changed_24 (by decide) ?_
        exact L28 2 (by first | (rw [if_neg (by omega)]; done) | (rw [if_pos (by omega), if_pos (by omega)]; done) | (rw [if_pos (by omega), if_neg (by omega)]; done)) (by omega) (by omega) ls H locs (lv_sub hl [0, 1] rfl) hW
    · refine lv_iconst (v := zI 1) C.1 C.2.1 dMo_changed_15 (by decide) ?_
      refine lv_goto (tgt := 28) C.1 C.2.1 dMo_changed_16 (by decide) ?_
      exact L28 1 (by first | (rw [if_neg (by omega)]; done) | (rw [if_pos (by omega), if_pos (by omega)]; done) | (rw [if_pos (by omega), if_neg (by omega)]; done)) (by omega) (by omega) ls H locs (lv_sub hl [0, 1] rfl) hW
set_option maxHeartbeats 4000000 in
set_option maxRecDepth 100000 in
theorem m_measure (l : Launch) (D : va_G) (cI cG cL cB : ClassId) (m0 : Nat) (cd : Int) (wi : Int) (hi : Int) (bn : Int) (af : Nat) (at_ : Nat) (dr : Int) (sz : Int) (au : Nat) (ap : Nat) (ab : Nat) (ae : Nat) (ah : Nat) (kp : Int) (ks : Int) (ku : Nat) (kq : Nat) (kb : Nat) (ke : Nat) (kh : Nat) (als : Int) (gf : Nat) (gt : Nat) (ses : Int) (sf : Nat) (st : Nat) (les : Int) (ef : Nat) (et : Nat) (mes : Int) (xa : Nat) (xf : Nat) (xt : Nat) (xr : Nat) (lb : Nat) (lbs : Int) (so : Nat) (From : Int → Int) (Axs : Int → Int) (MFr : Int → Int) (MTo : Int → Int) (Rws : Int → Int) (a : Int) (b : Int) (ax : Int) (To : Int → Int) (bFrom : ∀ j : Int, I64 (From j)) (bAxs : ∀ j : Int, I32 (Axs j)) (bMFr : ∀ j : Int, I64 (MFr j)) (bMTo : ∀ j : Int, I64 (MTo j)) (bRws : ∀ j : Int, I32 (Rws j)) (hbn0 : 0 ≤ bn) (hbn1 : bn ≤ 24) (hMB : moB bn From To) (hms0 : 0 ≤ mes) (hms1 : mes ≤ 30) (hRk : ∀ k : Int, 0 ≤ k → k < mes → 0 ≤ Rws k ∧ Rws k ≤ k) (hIa : I32 a) (hIb : I32 b) (hIax : I32 ax) : Ci l yMo_measure cMo_measure 16 (some .int) 0 0 0 D zCl (zT cI cG cL cB) [.ref m0, .int (zI a), .int (zI b), .int (zI ax)] [(m0, .inr (10, [.int (zI cd), .long (zL wi), .long (zL hi), .int (zI bn), .ref af, .ref at_, .int (zI dr), .int (zI sz), .ref au, .ref ap, .ref ab, .ref ae, .ref ah, .int (zI kp), .int (zI ks), .ref ku, .ref kq, .ref kb, .ref ke, .ref kh, .int (zI als), .ref gf, .ref gt, .int (zI ses), .ref sf, .ref st, .int (zI les), .ref ef, .ref et, .int (zI mes), .ref xa, .ref xf, .ref xt, .ref xr, .ref lb, .int (zI lbs), .ref so])), (af, .inl (cL, 72, .inr (.inl (fL From)))), (xa, .inl (cI, 30, .inl (fI Axs))), (xf, .inl (cL, 30, .inr (.inl (fL MFr)))), (xt, .inl (cL, 30, .inr (.inl (fL MTo)))), (xr, .inl (cI, 30, .inl (fI Rws)))] (fun x w => ∃ cd2 : Int, ∃ r2 : Int, ∃ mes2 : Int, ∃ Axs2 : Int → Int, ∃ MFr2 : Int → Int, ∃ MTo2 : Int → Int, ∃ Rws2 : Int → Int, (∀ j : Int, I32 (Axs2 j)) ∧ (∀ j : Int, I64 (MFr2 j)) ∧ (∀ j : Int, I64 (MTo2 j)) ∧ (∀ j : Int, I32 (Rws2 j)) ∧ (cd2 = meC bn mes a b ax) ∧ (cd2 ≠ 0 → mes2 = mes ∧ Axs2 = Axs ∧ MFr2 = MFr ∧ MTo2 = MTo ∧ Rws2 = Rws) ∧ (cd2 = 0 → From (3 * a + ax) = From (3 * b + ax) → r2 = -1 ∧ mes2 = mes ∧ Axs2 = Axs ∧ MFr2 = MFr ∧ MTo2 = MTo ∧ Rws2 = Rws) ∧ (cd2 = 0 → From (3 * a + ax) ≠ From (3 * b + ax) → r2 = mes ∧ mes2 = mes + 1 ∧ Axs2 = upz Axs mes ax ∧ MFr2 = upz MFr mes (min (From (3 * a + ax)) (From (3 * b + ax))) ∧ MTo2 = upz MTo mes (max (From (3 * a + ax)) (From (3 * b + ax))) ∧ Rws2 = upz Rws mes (frM Axs Rws MFr MTo mes ax (min (From (3 * a + ax)) (From (3 * b + ax))) (max (From (3 * a + ax)) (From (3 * b + ax))))) ∧ x = zI r2 ∧ w = [(m0, .inr (10, [.int (zI cd2), .long (zL wi), .long (zL hi), .int (zI bn), .ref af, .ref at_, .int (zI dr), .int (zI sz), .ref au, .ref ap, .ref ab, .ref ae, .ref ah, .int (zI kp), .int (zI ks), .ref ku, .ref kq, .ref kb, .ref ke, .ref kh, .int (zI als), .ref gf, .ref gt, .int (zI ses), .ref sf, .ref st, .int (zI les), .ref ef, .ref et, .int (zI mes2), .ref xa, .ref xf, .ref xt, .ref xr, .ref lb, .int (zI lbs), .ref so])), (af, .inl (cL, 72, .inr (.inl (fL From)))), (xa, .inl (cI, 30, .inl (fI Axs2))), (xf, .inl (cL, 30, .inr (.inl (fL MFr2)))), (xt, .inl (cL, 30, .inr (.inl (fL MTo2)))), (xr, .inl (cI, 30, .inl (fI Rws2)))]) := by
  refine zBi (by decide) (Nat.le_of_ble_eq_true rfl) ?_
  intro p e s m args below meth c ls A H locs Q C hin hl hW hQ
  have hl : lv_has ls 16 [(0, .ref m0), (1, .int (zI a)), (2, .int (zI b)), (3, .int (zI ax))] := hl
  have L29 : ∀ (th : Int), ((th = 1 ∧ 0 ≤ a ∧ a < bn ∧ 0 ≤ b ∧ b < bn) ∨ (th = 0 ∧ ¬ (0 ≤ a ∧ a < bn ∧ 0 ≤ b ∧ b < bn))) → ∀ (ls : Array Slot) (H : Heap) (locs : List Loc), lv_has ls 16 [(0, .ref m0), (1, .int (zI a)), (2, .int (zI b)), (3, .int (zI ax))] → zw D zCl A s [(m0, .inr (10, [.int (zI cd), .long (zL wi), .long (zL hi), .int (zI bn), .ref af, .ref at_, .int (zI dr), .int (zI sz), .ref au, .ref ap, .ref ab, .ref ae, .ref ah, .int (zI kp), .int (zI ks), .ref ku, .ref kq, .ref kb, .ref ke, .ref kh, .int (zI als), .ref gf, .ref gt, .int (zI ses), .ref sf, .ref st, .int (zI les), .ref ef, .ref et, .int (zI mes), .ref xa, .ref xf, .ref xt, .ref xr, .ref lb, .int (zI lbs), .ref so])), (af, .inl (cL, 72, .inr (.inl (fL From)))), (xa, .inl (cI, 30, .inl (fI Axs))), (xf, .inl (cL, 30, .inr (.inl (fL MFr)))), (xt, .inl (cL, 30, .inr (.inl (fL MTo)))), (xr, .inl (cI, 30, .inl (fI Rws)))] H locs → W p l e (zr 0 0 0) s m args below meth c H locs 0 0 Q (F0 m 29 ls [.int (zI th)]) := by
    intro th hth ls H locs hl hW
    refine lv_istore (lv' := [(4, .int (zI th)), (0, .ref m0), (1, .int (zI a)), (2, .int (zI b)), (3, .int (zI ax))]) C.1 C.2.1 dMo_measure_29 hl (by decide) rfl (fun ls hl => ?_)
    have L68 : ∀ (v : Int), (v = meC bn mes a b ax) → (v = 0 ∨ v = 1 ∨ v = 2 ∨ v = 3) → ∀ (ls : Array Slot) (H : Heap) (locs : List Loc), lv_has ls 16 [(4, .int (zI th)), (0, .ref m0), (1, .int (zI a)), (2, .int (zI b)), (3, .int (zI ax))] → zw D zCl A s [(m0, .inr (10, [.int (zI cd), .long (zL wi), .long (zL hi), .int (zI bn), .ref af, .ref at_, .int (zI dr), .int (zI sz), .ref au, .ref ap, .ref ab, .ref ae, .ref ah, .int (zI kp), .int (zI ks), .ref ku, .ref kq, .ref kb, .ref ke, .ref kh, .int (zI als), .ref gf, .ref gt, .int (zI ses), .ref sf, .ref st, .int (zI les), .ref ef, .ref et, .int (zI mes), .ref xa, .ref xf, .ref xt, .ref xr, .ref lb, .int (zI lbs), .ref so])), (af, .inl (cL, 72, .inr (.inl (fL From)))), (xa, .inl (cI, 30, .inl (fI Axs))), (xf, .inl (cL, 30, .inr (.inl (fL MFr)))), (xt, .inl (cL, 30, .inr (.inl (fL MTo)))), (xr, .inl (cI, 30, .inl (fI Rws)))] H locs → W p l e (zr 0 0 0) s m args below meth c H locs 0 0 Q (F0 m 68 ls [.int (zI v), .ref m0]) := by
      intro v hv hv2 ls H locs hl hW
      refine zput C hW 0 0 tyMo tyMo_ok nmMo rfl rfl inMo (by decide) flMo_93 rfl rfl rfl rfl (Nat.le_of_ble_eq_true rfl) dMo_measure_68 (fun H locs hW => ?_)
      have hW : zw D zCl A s [(m0, .inr (10, [.int (zI v), .long (zL wi), .long (zL hi), .int (zI bn), .ref af, .ref at_, .int (zI dr), .int (zI sz), .ref au, .ref ap, .ref ab, .ref ae, .ref ah, .int (zI kp), .int (zI ks), .ref ku, .ref kq, .ref kb, .ref ke, .ref kh, .int (zI als), .ref gf, .ref gt, .int (zI ses), .ref sf, .ref st, .int (zI les), .ref ef, .ref et, .int (zI mes), .ref xa, .ref xf, .ref xt, .ref xr, .ref lb, .int (zI lbs), .ref so])), (af, .inl (cL, 72, .inr (.inl (fL From)))), (xa, .inl (cI, 30, .inl (fI Axs))), (xf, .inl (cL, 30, .inr (.inl (fL MFr)))), (xt, .inl (cL, 30, .inr (.inl (fL MTo)))), (xr, .inl (cI, 30, .inl (fI Rws)))] H locs := hW
      refine lv_aload_n C.1 C.2.1 dMo_measure_71 rfl (lv_at hl 1 rfl) ?_
      refine zget C hW 0 0 rfl rfl inMo (by decide) flMo_93 rfl dMo_measure_72 ?_
      refine zif_le (tgt := 80) C (by omega) dMo_measure_75 (by decide) (fun c75 => ?_) (fun c75 => ?_)
      · have hme := meC_0 (show meC bn mes a b ax = 0 by omega)
        have hm1 := hMB (3 * a + ax) (by omega) (by omega)
        have hm2 := hMB (3 * b + ax) (by omega) (by omega)
        refine lv_aload_n C.1 C.2.1 dMo_measure_80 rfl (lv_at hl 1 rfl) ?_
        refine zget C hW 0 4 rfl rfl inMo (by decide) flMo_7 rfl dMo_measure_81 ?_
        refine lv_iconst (v := zI 3) C.1 C.2.1 dMo_measure_84 (by decide) ?_
        refine lv_iload_n C.1 C.2.1 dMo_measure_85 rfl (lv_at hl 2 rfl) ?_
        refine zimul C dMo_measure_86 ?_
        refine lv_iload_n C.1 C.2.1 dMo_measure_87 rfl (lv_at hl 4 rfl) ?_
        refine ziadd C dMo_measure_88 ?_
        refine zlald C hW 1 2 rfl rfl (by omega) (by omega) (by decide) dMo_measure_89 ?_
        have hb1 := bFrom ((3 * a) + ax)
        refine lv_lstore (lv' := [(5, .long (zL (From ((3 * a) + ax)))), (4, .int (zI th)), (0, .ref m0), (1, .int (zI a)), (2, .int (zI b)), (3, .int (zI ax))]) C.1 C.2.1 dMo_measure_90 hl (by decide) rfl (fun ls hl => ?_)
        refine lv_aload_n C.1 C.2.1 dMo_measure_92 rfl (lv_at hl 2 rfl) ?_
        refine zget C hW 0 4 rfl rfl inMo (by decide) flMo_7 rfl dMo_measure_93 ?_
        refine lv_iconst (v := zI 3) C.1 C.2.1 dMo_measure_96 (by decide) ?_
        refine lv_iload_n C.1 C.2.1 dMo_measure_97 rfl (lv_at hl 4 rfl) ?_
        refine zimul C dMo_measure_98 ?_
        refine lv_iload_n C.1 C.2.1 dMo_measure_99 rfl (lv_at hl 5 rfl) ?_
        refine ziadd C dMo_measure_100 ?_
        refine zlald C hW 1 2 rfl rfl (by omega) (by omega) (by decide) dMo_measure_101 ?_
        have hb2 := bFrom ((3 * b) + ax)
        refine lv_lstore (lv' := [(7, .long (zL (From ((3 * b) + ax)))), (5, .long (zL (From ((3 * a) + ax)))), (4, .int (zI th)), (0, .ref m0), (1, .int (zI a)), (2, .int (zI b)), (3, .int (zI ax))]) C.1 C.2.1 dMo_measure_102 hl (by decide) rfl (fun ls hl => ?_)
        refine lv_lload C.1 C.2.1 dMo_measure_104 (lv_at hl 1 rfl) ?_
        refine lv_lload C.1 C.2.1 dMo_measure_106 (lv_at hl 0 rfl) ?_
        refine zlcmp_ne (tgt := 114) C (by omega) (by omega) dMo_measure_108 dMo_measure_109 (by decide) (fun c108 => ?_) (fun c108 => ?_)
        · have L129 : ∀ (f_ : Int), (f_ = min (From (3 * a + ax)) (From (3 * b + ax))) → (-1000000 ≤ f_ ∧ f_ ≤ 1000000) → ∀ (ls : Array Slot) (H : Heap) (locs : List Loc), lv_has ls 16 [(7, .long (zL (From ((3 * b) + ax)))), (5, .long (zL (From ((3 * a) + ax)))), (4, .int (zI th)), (0, .ref m0), (1, .int (zI a)), (2, .int (zI b)), (3, .int (zI ax))] → zw D zCl A s [(m0, .inr (10, [.int (zI v), .long (zL wi), .long (zL hi), .int (zI bn), .ref af, .ref at_, .int (zI dr), .int (zI sz), .ref au, .ref ap, .ref ab, .ref ae, .ref ah, .int (zI kp), .int (zI ks), .ref ku, .ref kq, .ref kb, .ref ke, .ref kh, .int (zI als), .ref gf, .ref gt, .int (zI ses), .ref sf, .ref st, .int (zI les), .ref ef, .ref et, .int (zI mes), .ref xa, .ref xf, .ref xt, .ref xr, .ref lb, .int (zI lbs), .ref so])), (af, .inl (cL, 72, .inr (.inl (fL From)))), (xa, .inl (cI, 30, .inl (fI Axs))), (xf, .inl (cL, 30, .inr (.inl (fL MFr)))), (xt, .inl (cL, 30, .inr (.inl (fL MTo)))), (xr, .inl (cI, 30, .inl (fI Rws)))] H locs → W p l e (zr 0 0 0) s m args below meth c H locs 0 0 Q (F0 m 129 ls [.long (zL f_)]) := by
            intro f_ hf_ hfb ls H locs hl hW
            refine lv_lstore (lv' := [(9, .long (zL f_)), (7, .long (zL (From ((3 * b) + ax)))), (5, .long (zL (From ((3 * a) + ax)))), (4, .int (zI th)), (0, .ref m0), (1, .int (zI a)), (2, .int (zI b)), (3, .int (zI ax))]) C.1 C.2.1 dMo_measure_129 hl (by decide) rfl (fun ls hl => ?_)
            have L146 : ∀ (t_ : Int), (t_ = max (From (3 * a + ax)) (From (3 * b + ax))) → (-1000000 ≤ t_ ∧ t_ ≤ 1000000) → ∀ (ls : Array Slot) (H : Heap) (locs : List Loc), lv_has ls 16 [(9, .long (zL f_)), (7, .long (zL (From ((3 * b) + ax)))), (5, .long (zL (From ((3 * a) + ax)))), (4, .int (zI th)), (0, .ref m0), (1, .int (zI a)), (2, .int (zI b)), (3, .int (zI ax))] → zw D zCl A s [(m0, .inr (10, [.int (zI v), .long (zL wi), .long (zL hi), .int (zI bn), .ref af, .ref at_, .int (zI dr), .int (zI sz), .ref au, .ref ap, .ref ab, .ref ae, .ref ah, .int (zI kp), .int (zI ks), .ref ku, .ref kq, .ref kb, .ref ke, .ref kh, .int (zI als), .ref gf, .ref gt, .int (zI ses), .ref sf, .ref st, .int (zI les), .ref ef, .ref et, .int (zI mes), .ref xa, .ref xf, .ref xt, .ref xr, .ref lb, .int (zI lbs), .ref so])), (af, .inl (cL, 72, .inr (.inl (fL From)))), (xa, .inl (cI, 30, .inl (fI Axs))), (xf, .inl (cL, 30, .inr (.inl (fL MFr)))), (xt, .inl (cL, 30, .inr (.inl (fL MTo)))), (xr, .inl (cI, 30, .inl (fI Rws)))] H locs → W p l e (zr 0 0 0) s m args below meth c H locs 0 0 Q (F0 m 146 ls [.long (zL t_)]) := by
              intro t_ ht_ htb ls H locs hl hW
              refine lv_lstore (lv' := [(11, .long (zL t_)), (9, .long (zL f_)), (7, .long (zL (From ((3 * b) + ax)))), (5, .long (zL (From ((3 * a) + ax)))), (4, .int (zI th)), (0, .ref m0), (1, .int (zI a)), (2, .int (zI b)), (3, .int (zI ax))]) C.1 C.2.1 dMo_measure_146 hl (by decide) rfl (fun ls hl => ?_)
              refine lv_iconst (v := zI 0) C.1 C.2.1 dMo_measure_148 (by decide) ?_
              refine lv_istore (lv' := [(13, .int (zI 0)), (11, .long (zL t_)), (9, .long (zL f_)), (7, .long (zL (From ((3 * b) + ax)))), (5, .long (zL (From ((3 * a) + ax)))), (4, .int (zI th)), (0, .ref m0), (1, .int (zI a)), (2, .int (zI b)), (3, .int (zI ax))]) C.1 C.2.1 dMo_measure_149 hl (by decide) rfl (fun ls hl => ?_)
              refine lv_iconst (v := zI 1) C.1 C.2.1 dMo_measure_151 (by decide) ?_
              refine lv_istore (lv' := [(14, .int (zI 1)), (13, .int (zI 0)), (11, .long (zL t_)), (9, .long (zL f_)), (7, .long (zL (From ((3 * b) + ax)))), (5, .long (zL (From ((3 * a) + ax)))), (4, .int (zI th)), (0, .ref m0), (1, .int (zI a)), (2, .int (zI b)), (3, .int (zI ax))]) C.1 C.2.1 dMo_measure_152 hl (by decide) rfl (fun ls hl => ?_)
              have L154 : ∀ (N : Nat) (rr : Int) (mo : Int), (2 * (mes - rr) + mo).toNat < N → (0 ≤ rr ∧ rr ≤ mes) → (mo = 0 ∨ mo = 1) → (∀ j : Int, 0 ≤ j → j < rr → anyZ (ovM Axs Rws MFr MTo ax j f_ t_) mes = true) → (mo = 0 → anyZ (ovM Axs Rws MFr MTo ax rr f_ t_) mes = false) → ∀ (ls : Array Slot) (H : Heap) (locs : List Loc), lv_has ls 16 [(14, .int (zI mo)), (13, .int (zI rr)), (11, .long (zL t_)), (9, .long (zL f_)), (7, .long (zL (From ((3 * b) + ax)))), (5, .long (zL (From ((3 * a) + ax)))), (4, .int (zI th)), (0, .ref m0), (1, .int (zI a)), (2, .int (zI b)), (3, .int (zI ax))] → zw D zCl A s [(m0, .inr (10, [.int (zI v), .long (zL wi), .long (zL hi), .int (zI bn), .ref af, .ref at_, .int (zI dr), .int (zI sz), .ref au, .ref ap, .ref ab, .ref ae, .ref ah, .int (zI kp), .int (zI ks), .ref ku, .ref kq, .ref kb, .ref ke, .ref kh, .int (zI als), .ref gf, .ref gt, .int (zI ses), .ref sf, .ref st, .int (zI les), .ref ef, .ref et, .int (zI mes), .ref xa, .ref xf, .ref xt, .ref xr, .ref lb, .int (zI lbs), .ref so])), (af, .inl (cL, 72, .inr (.inl (fL From)))), (xa, .inl (cI, 30, .inl (fI Axs))), (xf, .inl (cL, 30, .inr (.inl (fL MFr)))), (xt, .inl (cL, 30, .inr (.inl (fL MTo)))), (xr, .inl (cI, 30, .inl (fI Rws)))] H locs → W p l e (zr 0 0 0) s m args below meth c H locs 0 0 Q (F0 m 154 ls []) := by
                intro N
                induction N with
                | zero => intro rr mo hm; exact absurd hm (Nat.not_lt_zero _)
                | succ N ih154 =>
                  intro rr mo hm154 ho0 ho1 ho2 ho3 ls H locs hl hW
                  refine lv_iload C.1 C.2.1 dMo_measure_154 (lv_at hl 0 rfl) ?_
                  refine zif_eq (tgt := 260) C (by omega) dMo_measure_156 (by decide) (fun c156 => ?_) (fun c156 => ?_)
                  · refine lv_aload_n C.1 C.2.1 dMo_measure_260 rfl (lv_at hl 7 rfl) ?_
                    refine zget C hW 0 30 rfl rfl inMo (by decide) flMo_65 rfl dMo_measure_261 ?_
                    refine lv_aload_n C.1 C.2.1 dMo_measure_264 rfl (lv_at hl 7 rfl) ?_
                    refine zget C hW 0 29 rfl rfl inMo (by decide) flMo_199 rfl dMo_measure_265 ?_
                    refine lv_iload_n C.1 C.2.1 dMo_measure_268 rfl (lv_at hl 10 rfl) ?_
                    refine ziast C hW 2 0 rfl rfl (by omega) (by omega) (by decide) dMo_measure_269 (fun H locs hW => ?_)
                    have hB3 : ∀ jj : Int, I32 ((upz Axs mes ax) jj) := upz_b bAxs (by omega)
                    have hW : zw D zCl A s [(m0, .inr (10, [.int (zI v), .long (zL wi), .long (zL hi), .int (zI bn), .ref af, .ref at_, .int (zI dr), .int (zI sz), .ref au, .ref ap, .ref ab, .ref ae, .ref ah, .int (zI kp), .int (zI ks), .ref ku, .ref kq, .ref kb, .ref ke, .ref kh, .int (zI als), .ref gf, .ref gt, .int (zI ses), .ref sf, .ref st, .int (zI les), .ref ef, .ref et, .int (zI mes), .ref xa, .ref xf, .ref xt, .ref xr, .ref lb, .int (zI lbs), .ref so])), (af, .inl (cL, 72, .inr (.inl (fL From)))), (xa, .inl (cI, 30, .inl (fI (upz Axs mes ax)))), (xf, .inl (cL, 30, .inr (.inl (fL MFr)))), (xt, .inl (cL, 30, .inr (.inl (fL MTo)))), (xr, .inl (cI, 30, .inl (fI Rws)))] H locs := hW
                    refine lv_aload_n C.1 C.2.1 dMo_measure_270 rfl (lv_at hl 7 rfl) ?_
                    refine zget C hW 0 31 rfl rfl inMo (by decide) flMo_68 rfl dMo_measure_271 ?_
                    refine lv_aload_n C.1 C.2.1 dMo_measure_274 rfl (lv_at hl 7 rfl) ?_
                    refine zget C hW 0 29 rfl rfl inMo (by decide) flMo_199 rfl dMo_measure_275 ?_
                    refine lv_lload C.1 C.2.1 dMo_measure_278 (lv_at hl 3 rfl) ?_
                    refine zlast C hW 3 2 rfl rfl (by omega) (by omega) (by decide) dMo_measure_280 (fun H locs hW => ?_)
                    have hB4 : ∀ jj : Int, I64 ((upz MFr mes f_) jj) := upz_bL bMFr (by omega)
                    have hW : zw D zCl A s [(m0, .inr (10, [.int (zI v), .long (zL wi), .long (zL hi), .int (zI bn), .ref af, .ref at_, .int (zI dr), .int (zI sz), .ref au, .ref ap, .ref ab, .ref ae, .ref ah, .int (zI kp), .int (zI ks), .ref ku, .ref kq, .ref kb, .ref ke, .ref kh, .int (zI als), .ref gf, .ref gt, .int (zI ses), .ref sf, .ref st, .int (zI les), .ref ef, .ref et, .int (zI mes), .ref xa, .ref xf, .ref xt, .ref xr, .ref lb, .int (zI lbs), .ref so])), (af, .inl (cL, 72, .inr (.inl (fL From)))), (xa, .inl (cI, 30, .inl (fI (upz Axs mes ax)))), (xf, .inl (cL, 30, .inr (.inl (fL (upz MFr mes f_))))), (xt, .inl (cL, 30, .inr (.inl (fL MTo)))), (xr, .inl (cI, 30, .inl (fI Rws)))] H locs := hW
                    refine lv_aload_n C.1 C.2.1 dMo_measure_281 rfl (lv_at hl 7 rfl) ?_
                    refine zget C hW 0 32 rfl rfl inMo (by decide) flMo_71 rfl dMo_measure_282 ?_
                    refine lv_aload_n C.1 C.2.1 dMo_measure_285 rfl (lv_at hl 7 rfl) ?_
                    refine zget C hW 0 29 rfl rfl inMo (by decide) flMo_199 rfl dMo_measure_286 ?_
                    refine lv_lload C.1 C.2.1 dMo_measure_289 (lv_at hl 2 rfl) ?_
                    refine zlast C hW 4 2 rfl rfl (by omega) (by omega) (by decide) dMo_measure_291 (fun H locs hW => ?_)
                    have hB5 : ∀ jj : Int, I64 ((upz MTo mes t_) jj) := upz_bL bMTo (by omega)
                    have hW : zw D zCl A s [(m0, .inr (10, [.int (zI v), .long (zL wi), .long (zL hi), .int (zI bn), .ref af, .ref at_, .int (zI dr), .int (zI sz), .ref au, .ref ap, .ref ab, .ref ae, .ref ah, .int (zI kp), .int (zI ks), .ref ku, .ref kq, .ref kb, .ref ke, .ref kh, .int (zI als), .ref gf, .ref gt, .int (zI ses), .ref sf, .ref st, .int (zI les), .ref ef, .ref et, .int (zI mes), .ref xa, .ref xf, .ref xt, .ref xr, .ref lb, .int (zI lbs), .ref so])), (af, .inl (cL, 72, .inr (.inl (fL From)))), (xa, .inl (cI, 30, .inl (fI (upz Axs mes ax)))), (xf, .inl (cL, 30, .inr (.inl (fL (upz MFr mes f_))))), (xt, .inl (cL, 30, .inr (.inl (fL (upz MTo mes t_))))), (xr, .inl (cI, 30, .inl (fI Rws)))] H locs := hW
                    refine lv_aload_n C.1 C.2.1 dMo_measure_292 rfl (lv_at hl 7 rfl) ?_
                    refine zget C hW 0 33 rfl rfl inMo (by decide) flMo_74 rfl dMo_measure_293 ?_
                    refine lv_aload_n C.1 C.2.1 dMo_measure_296 rfl (lv_at hl 7 rfl) ?_
                    refine zget C hW 0 29 rfl rfl inMo (by decide) flMo_199 rfl dMo_measure_297 ?_
                    refine lv_iload C.1 C.2.1 dMo_measure_300 (lv_at hl 1 rfl) ?_
                    refine ziast C hW 5 0 rfl rfl (by omega) (by omega) (by decide) dMo_measure_302 (fun H locs hW => ?_)
                    have hB6 : ∀ jj : Int, I32 ((upz Rws mes rr) jj) := upz_b bRws (by omega)
                    have hW : zw D zCl A s [(m0, .inr (10, [.int (zI v), .long (zL wi), .long (zL hi), .int (zI bn), .ref af, .ref at_, .int (zI dr), .int (zI sz), .ref au, .ref ap, .ref ab, .ref ae, .ref ah, .int (zI kp), .int (zI ks), .ref ku, .ref kq, .ref kb, .ref ke, .ref kh, .int (zI als), .ref gf, .ref gt, .int (zI ses), .ref sf, .ref st, .int (zI les), .ref ef, .ref et, .int (zI mes), .ref xa, .ref xf, .ref xt, .ref xr, .ref lb, .int (zI lbs), .ref so])), (af, .inl (cL, 72, .inr (.inl (fL From)))), (xa, .inl (cI, 30, .inl (fI (upz Axs mes ax)))), (xf, .inl (cL, 30, .inr (.inl (fL (upz MFr mes f_))))), (xt, .inl (cL, 30, .inr (.inl (fL (upz MTo mes t_))))), (xr, .inl (cI, 30, .inl (fI (upz Rws mes rr))))] H locs := hW
                    refine lv_aload_n C.1 C.2.1 dMo_measure_303 rfl (lv_at hl 7 rfl) ?_
                    refine lv_dup C.1 C.2.1 dMo_measure_304 rfl ?_
                    refine zget C hW 0 29 rfl rfl inMo (by decide) flMo_199 rfl dMo_measure_305 ?_
                    refine lv_iconst (v := zI 1) C.1 C.2.1 dMo_measure_308 (by decide) ?_
                    refine ziadd C dMo_measure_309 ?_
                    refine zput C hW 0 29 tyMo tyMo_ok nmMo rfl rfl inMo (by decide) flMo_199 rfl rfl rfl rfl (Nat.le_of_ble_eq_true rfl) dMo_measure_310 (fun H locs hW => ?_)
                    have hW : zw D zCl A s [(m0, .inr (10, [.int (zI v), .long (zL wi), .long (zL hi), .int (zI bn), .ref af, .ref at_, .int (zI dr), .int (zI sz), .ref au, .ref ap, .ref ab, .ref ae, .ref ah, .int (zI kp), .int (zI ks), .ref ku, .ref kq, .ref kb, .ref ke, .ref kh, .int (zI als), .ref gf, .ref gt, .int (zI ses), .ref sf, .ref st, .int (zI les), .ref ef, .ref et, .int (zI (mes + 1)), .ref xa, .ref xf, .ref xt, .ref xr, .ref lb, .int (zI lbs), .ref so])), (af, .inl (cL, 72, .inr (.inl (fL From)))), (xa, .inl (cI, 30, .inl (fI (upz Axs mes ax)))), (xf, .inl (cL, 30, .inr (.inl (fL (upz MFr mes f_))))), (xt, .inl (cL, 30, .inr (.inl (fL (upz MTo mes t_))))), (xr, .inl (cI, 30, .inl (fI (upz Rws mes rr))))] H locs := hW
                    refine lv_aload_n C.1 C.2.1 dMo_measure_313 rfl (lv_at hl 7 rfl) ?_
                    refine zget C hW 0 29 rfl rfl inMo (by decide) flMo_199 rfl dMo_measure_314 ?_
                    refine lv_iconst (v := zI 1) C.1 C.2.1 dMo_measure_317 (by decide) ?_
                    refine zisub C dMo_measure_318 ?_
                    exact hQ (zI ((mes + 1) - 1)) _ H locs _ _ _ ls hW ⟨_, _, _, _, _, _, _, hB3, hB4, hB5, hB6, hv, (fun h => by omega), (fun _ h => by omega), (fun _ _ => ⟨by omega, rfl, rfl, by rw [hf_], by rw [ht_], by rw [← hf_, ← ht_, frM_u (r := rr) (by omega) (by omega) ho2 (fun _ => ho3 (by omega))]⟩), rfl, rfl⟩ (by omega) (by omega) dMo_measure_319
                  · refine lv_iconst (v := zI 0) C.1 C.2.1 dMo_measure_159 (by decide) ?_
                    refine lv_istore (lv' := [(14, .int (zI 0)), (13, .int (zI rr)), (11, .long (zL t_)), (9, .long (zL f_)), (7, .long (zL (From ((3 * b) + ax)))), (5, .long (zL (From ((3 * a) + ax)))), (4, .int (zI th)), (0, .ref m0), (1, .int (zI a)), (2, .int (zI b)), (3, .int (zI ax))]) C.1 C.2.1 dMo_measure_160 hl (by decide) rfl (fun ls hl => ?_)
                    refine lv_iconst (v := zI 0) C.1 C.2.1 dMo_measure_162 (by decide) ?_
                    refine lv_istore (lv' := [(15, .int (zI 0)), (14, .int (zI 0)), (13, .int (zI rr)), (11, .long (zL t_)), (9, .long (zL f_)), (7, .long (zL (From ((3 * b) + ax)))), (5, .long (zL (From ((3 * a) + ax)))), (4, .int (zI th)), (0, .ref m0), (1, .int (zI a)), (2, .int (zI b)), (3, .int (zI ax))]) C.1 C.2.1 dMo_measure_163 hl (by decide) rfl (fun ls hl => ?_)
                    have L165 : ∀ (N : Nat) (j : Int) (b_ : Int), (mes - j).toNat < N → (0 ≤ j) → (j ≤ mes) → (b_ = bz (anyZ (ovM Axs Rws MFr MTo ax rr f_ t_) j)) → (b_ = 0 ∨ b_ = 1) → ∀ (ls : Array Slot) (H : Heap) (locs : List Loc), lv_has ls 16 [(15, .int (zI j)), (14, .int (zI b_)), (13, .int (zI rr)), (11, .long (zL t_)), (9, .long (zL f_)), (7, .long (zL (From ((3 * b) + ax)))), (5, .long (zL (From ((3 * a) + ax)))), (4, .int (zI th)), (0, .ref m0), (1, .int (zI a)), (2, .int (zI b)), (3, .int (zI ax))] → zw D zCl A s [(m0, .inr (10, [.int (zI v), .long (zL wi), .long (zL hi), .int (zI bn), .ref af, .ref at_, .int (zI dr), .int (zI sz), .ref au, .ref ap, .ref ab, .ref ae, .ref ah, .int (zI kp), .int (zI ks), .ref ku, .ref kq, .ref kb, .ref ke, .ref kh, .int (zI als), .ref gf, .ref gt, .int (zI ses), .ref sf, .ref st, .int (zI les), .ref ef, .ref et, .int (zI mes), .ref xa, .ref xf, .ref xt, .ref xr, .ref lb, .int (zI lbs), .ref so])), (af, .inl (cL, 72, .inr (.inl (fL From)))), (xa, .inl (cI, 30, .inl (fI Axs))), (xf, .inl (cL, 30, .inr (.inl (fL MFr)))), (xt, .inl (cL, 30, .inr (.inl (fL MTo)))), (xr, .inl (cI, 30, .inl (fI Rws)))] H locs → W p l e (zr 0 0 0) s m args below meth c H locs 0 0 Q (F0 m 165 ls []) := by
                      intro N
                      induction N with
                      | zero => intro j b_ hm; exact absurd hm (Nat.not_lt_zero _)
                      | succ N ih165 =>
                        intro j b_ hm165 hi0 hi1 hb_ hb2 ls H locs hl hW
                        refine lv_iload C.1 C.2.1 dMo_measure_165 (lv_at hl 0 rfl) ?_
                        refine lv_aload_n C.1 C.2.1 dMo_measure_167 rfl (lv_at hl 8 rfl) ?_
                        refine zget C hW 0 29 rfl rfl inMo (by decide) flMo_199 rfl dMo_measure_168 ?_
                        refine zicmp_ge (tgt := 241) C (by omega) (by omega) dMo_measure_171 (by decide) (fun c171 => ?_) (fun c171 => ?_)
                        · have L255 : ∀ (r3 : Int), ((b_ = 0 ∧ r3 = rr) ∨ (b_ = 1 ∧ r3 = rr + 1)) → ∀ (ls : Array Slot) (H : Heap) (locs : List Loc), lv_has ls 16 [(15, .int (zI j)), (14, .int (zI b_)), (13, .int (zI rr)), (11, .long (zL t_)), (9, .long (zL f_)), (7, .long (zL (From ((3 * b) + ax)))), (5, .long (zL (From ((3 * a) + ax)))), (4, .int (zI th)), (0, .ref m0), (1, .int (zI a)), (2, .int (zI b)), (3, .int (zI ax))] → zw D zCl A s [(m0, .inr (10, [.int (zI v), .long (zL wi), .long (zL hi), .int (zI bn), .ref af, .ref at_, .int (zI dr), .int (zI sz), .ref au, .ref ap, .ref ab, .ref ae, .ref ah, .int (zI kp), .int (zI ks), .ref ku, .ref kq, .ref kb, .ref ke, .ref kh, .int (zI als), .ref gf, .ref gt, .int (zI ses), .ref sf, .ref st, .int (zI les), .ref ef, .ref et, .int (zI mes), .ref xa, .ref xf, .ref xt, .ref xr, .ref lb, .int (zI lbs), .ref so])), (af, .inl (cL, 72, .inr (.inl (fL From)))), (xa, .inl (cI, 30, .inl (fI Axs))), (xf, .inl (cL, 30, .inr (.inl (fL MFr)))), (xt, .inl (cL, 30, .inr (.inl (fL MTo)))), (xr, .inl (cI, 30, .inl (fI Rws)))] H locs → W p l e (zr 0 0 0) s m args below meth c H locs 0 0 Q (F0 m 255 ls [.int (zI r3)]) := by
                            intro r3 hr3 ls H locs hl hW
                            have hjm : mes = j := by omega
                            have htp : b_ ≠ 0 → rr < mes := fun h => ov_lt hRk (by omega) (by rw [hjm, ← hb_]; exact h)
                            refine lv_istore (lv' := [(13, .int (zI r3)), (15, .int (zI j)), (14, .int (zI b_)), (11, .long (zL t_)), (9, .long (zL f_)), (7, .long (zL (From ((3 * b) + ax)))), (5, .long (zL (From ((3 * a) + ax)))), (4, .int (zI th)), (0, .ref m0), (1, .int (zI a)), (2, .int (zI b)), (3, .int (zI ax))]) C.1 C.2.1 dMo_measure_255 hl (by decide) rfl (fun ls hl => ?_)
                            refine lv_goto (tgt := 154) C.1 C.2.1 dMo_measure_257 (by decide) ?_
                            exact ih154 r3 b_ (by rcases hr3 with h | h; omega; have := htp (by omega); omega) (by rcases hr3 with h | h; omega; have := htp (by omega); omega) hb2 (fun j h0 h1 => by by_cases h9 : j < rr; exact ho2 j h0 h9; have h8 : j = rr := (by omega); rw [h8, hjm, bz_eq1, ← hb_]; omega) (fun h => by have h8 : r3 = rr := (by omega); rw [h8, hjm, bz_eq0, ← hb_]; exact h) ls H locs (lv_sub hl [2, 0, 3, 4, 5, 6, 7, 8, 9, 10, 11] rfl) hW
                          refine lv_iload C.1 C.2.1 dMo_measure_241 (lv_at hl 1 rfl) ?_
                          refine zif_eq (tgt := 253) C (by omega) dMo_measure_243 (by decide) (fun c243 => ?_) (fun c243 => ?_)
                          · refine lv_iload C.1 C.2.1 dMo_measure_253 (lv_at hl 2 rfl) ?_
                            exact L255 rr (by omega) ls H locs (lv_sub hl [0, 1, 2, 3, 4, 5, 6, 7, 8, 9, 10, 11] rfl) hW
                          · refine lv_iload C.1 C.2.1 dMo_measure_246 (lv_at hl 2 rfl) ?_
                            refine lv_iconst (v := zI 1) C.1 C.2.1 dMo_measure_248 (by decide) ?_
                            refine ziadd C dMo_measure_249 ?_
                            refine lv_goto (tgt := 255) C.1 C.2.1 dMo_measure_250 (by decide) ?_
                            exact L255 (rr + 1) (by omega) ls H locs (lv_sub hl [0, 1, 2, 3, 4, 5, 6, 7, 8, 9, 10, 11] rfl) hW
                        · have L233 : ∀ (u_ : Int), (u_ = if b_ = 0 then bz ((ovM Axs Rws MFr MTo ax rr f_ t_) j) else 1) → (u_ = 0 ∨ u_ = 1) → ∀ (ls : Array Slot) (H : Heap) (locs : List Loc), lv_has ls 16 [(15, .int (zI j)), (14, .int (zI b_)), (13, .int (zI rr)), (11, .long (zL t_)), (9, .long (zL f_)), (7, .long (zL (From ((3 * b) + ax)))), (5, .long (zL (From ((3 * a) + ax)))), (4, .int (zI th)), (0, .ref m0), (1, .int (zI a)), (2, .int (zI b)), (3, .int (zI ax))] → zw D zCl A s [(m0, .inr (10, [.int (zI v), .long (zL wi), .long (zL hi), .int (zI bn), .ref af, .ref at_, .int (zI dr), .int (zI sz), .ref au, .ref ap, .ref ab, .ref ae, .ref ah, .int (zI kp), .int (zI ks), .ref ku, .ref kq, .ref kb, .ref ke, .ref kh, .int (zI als), .ref gf, .ref gt, .int (zI ses), .ref sf, .ref st, .int (zI les), .ref ef, .ref et, .int (zI mes), .ref xa, .ref xf, .ref xt, .ref xr, .ref lb, .int (zI lbs), .ref so])), (af, .inl (cL, 72, .inr (.inl (fL From)))), (xa, .inl (cI, 30, .inl (fI Axs))), (xf, .inl (cL, 30, .inr (.inl (fL MFr)))), (xt, .inl (cL, 30, .inr (.inl (fL MTo)))), (xr, .inl (cI, 30, .inl (fI Rws)))] H locs → W p l e (zr 0 0 0) s m args below meth c H locs 0 0 Q (F0 m 233 ls [.int (zI u_)]) := by
                            intro u_ hv3 hv4 ls H locs hl hW
                            have hv_ : bz ((ovM Axs Rws MFr MTo ax rr f_ t_) j) = bz ((ovM Axs Rws MFr MTo ax rr f_ t_) j) := rfl
                            have hv2_ : bz ((ovM Axs Rws MFr MTo ax rr f_ t_) j) = 0 ∨ bz ((ovM Axs Rws MFr MTo ax rr f_ t_) j) = 1 := (by have := bz_01 ((ovM Axs Rws MFr MTo ax rr f_ t_) j); omega)
                            refine lv_istore (lv' := [(14, .int (zI u_)), (15, .int (zI j)), (13, .int (zI rr)), (11, .long (zL t_)), (9, .long (zL f_)), (7, .long (zL (From ((3 * b) + ax)))), (5, .long (zL (From ((3 * a) + ax)))), (4, .int (zI th)), (0, .ref m0), (1, .int (zI a)), (2, .int (zI b)), (3, .int (zI ax))]) C.1 C.2.1 dMo_measure_233 hl (by decide) rfl (fun ls hl => ?_)
                            refine lv_iinc (v := zI (j + 1)) (lv' := [(15, .int (zI (j + 1))), (14, .int (zI u_)), (13, .int (zI rr)), (11, .long (zL t_)), (9, .long (zL f_)), (7, .long (zL (From ((3 * b) + ax)))), (5, .long (zL (From ((3 * a) + ax)))), (4, .int (zI th)), (0, .ref m0), (1, .int (zI a)), (2, .int (zI b)), (3, .int (zI ax))]) C.1 C.2.1 dMo_measure_235 hl (k := 1) rfl (zI_add j 1) (by decide) rfl (fun ls hl => ?_)
                            refine lv_goto (tgt := 165) C.1 C.2.1 dMo_measure_238 (by decide) ?_
                            exact ih165 (j + 1) u_ (by omega) (by omega) (by omega) (by rw [anyZ_s _ hi0, bz_or hb_ hv_ hv2_]; exact hv3) (by omega) ls H locs (lv_sub hl [0, 1, 2, 3, 4, 5, 6, 7, 8, 9, 10, 11] rfl) hW
                          refine lv_iload C.1 C.2.1 dMo_measure_174 (lv_at hl 1 rfl) ?_
                          refine zif_ne (tgt := 228) C (by omega) dMo_measure_176 (by decide) (fun c176 => ?_) (fun c176 => ?_)
                          · refine lv_iconst (v := zI 1) C.1 C.2.1 dMo_measure_228 (by decide) ?_
                            refine lv_goto (tgt := 233) C.1 C.2.1 dMo_measure_229 (by decide) ?_
                            exact L233 1 (by first | (rw [if_neg (by omega)]; done) | (rw [if_pos (by omega), ovR_M]; unfold ovR; exact bzd (fun h => by omega) (fun h => by omega))) (by omega) ls H locs (lv_sub hl [0, 1, 2, 3, 4, 5, 6, 7, 8, 9, 10, 11] rfl) hW
                          · refine lv_aload_n C.1 C.2.1 dMo_measure_179 rfl (lv_at hl 8 rfl) ?_
                            refine zget C hW 0 30 rfl rfl inMo (by decide) flMo_65 rfl dMo_measure_180 ?_
                            refine lv_iload C.1 C.2.1 dMo_measure_183 (lv_at hl 0 rfl) ?_
                            refine ziald C hW 2 0 rfl rfl (by omega) (by omega) (by decide) dMo_measure_185 ?_
                            have hb7 := bAxs j
                            refine lv_iload_n C.1 C.2.1 dMo_measure_186 rfl (lv_at hl 11 rfl) ?_
                            refine zicmp_ne (tgt := 232) C (by omega) (by omega) dMo_measure_187 (by decide) (fun c187 => ?_) (fun c187 => ?_)
                            · refine lv_iconst (v := zI 0) C.1 C.2.1 dMo_measure_232 (by decide) ?_
                              exact L233 0 (by first | (rw [if_neg (by omega)]; done) | (rw [if_pos (by omega), ovR_M]; unfold ovR; exact bzd (fun h => by omega) (fun h => by omega))) (by omega) ls H locs (lv_sub hl [0, 1, 2, 3, 4, 5, 6, 7, 8, 9, 10, 11] rfl) hW
                            · refine lv_aload_n C.1 C.2.1 dMo_measure_190 rfl (lv_at hl 8 rfl) ?_
                              refine zget C hW 0 33 rfl rfl inMo (by decide) flMo_74 rfl dMo_measure_191 ?_
                              refine lv_iload C.1 C.2.1 dMo_measure_194 (lv_at hl 0 rfl) ?_
                              refine ziald C hW 5 0 rfl rfl (by omega) (by omega) (by decide) dMo_measure_196 ?_
                              have hb8 := bRws j
                              refine lv_iload C.1 C.2.1 dMo_measure_197 (lv_at hl 2 rfl) ?_
                              refine zicmp_ne (tgt := 232) C (by omega) (by omega) dMo_measure_199 (by decide) (fun c199 => ?_) (fun c199 => ?_)
                              · refine lv_iconst (v := zI 0) C.1 C.2.1 dMo_measure_232 (by decide) ?_
                                exact L233 0 (by first | (rw [if_neg (by omega)]; done) | (rw [if_pos (by omega), ovR_M]; unfold ovR; exact bzd (fun h => by omega) (fun h => by omega))) (by omega) ls H locs (lv_sub hl [0, 1, 2, 3, 4, 5, 6, 7, 8, 9, 10, 11] rfl) hW
                              · refine lv_aload_n C.1 C.2.1 dMo_measure_202 rfl (lv_at hl 8 rfl) ?_
                                refine zget C hW 0 31 rfl rfl inMo (by decide) flMo_68 rfl dMo_measure_203 ?_
                                refine lv_iload C.1 C.2.1 dMo_measure_206 (lv_at hl 0 rfl) ?_
                                refine zlald C hW 3 2 rfl rfl (by omega) (by omega) (by decide) dMo_measure_208 ?_
                                have hb9 := bMFr j
                                refine lv_lload C.1 C.2.1 dMo_measure_209 (lv_at hl 3 rfl) ?_
                                refine zlcmp_ge (tgt := 232) C (by omega) (by omega) dMo_measure_211 dMo_measure_212 (by decide) (fun c211 => ?_) (fun c211 => ?_)
                                · refine lv_iconst (v := zI 0) C.1 C.2.1 dMo_measure_232 (by decide) ?_
                                  exact L233 0 (by first | (rw [if_neg (by omega)]; done) | (rw [if_pos (by omega), ovR_M]; unfold ovR; exact bzd (fun h => by omega) (fun h => by omega))) (by omega) ls H locs (lv_sub hl [0, 1, 2, 3, 4, 5, 6, 7, 8, 9, 10, 11] rfl) hW
                                · refine lv_aload_n C.1 C.2.1 dMo_measure_215 rfl (lv_at hl 8 rfl) ?_
                                  refine zget C hW 0 32 rfl rfl inMo (by decide) flMo_71 rfl dMo_measure_216 ?_
                                  refine lv_iload C.1 C.2.1 dMo_measure_219 (lv_at hl 0 rfl) ?_
                                  refine zlald C hW 4 2 rfl rfl (by omega) (by omega) (by decide) dMo_measure_221 ?_
                                  have hb10 := bMTo j
                                  refine lv_lload C.1 C.2.1 dMo_measure_222 (lv_at hl 4 rfl) ?_
                                  refine zlcmp_le (tgt := 232) C (by omega) (by omega) dMo_measure_224 dMo_measure_225 (by decide) (fun c224 => ?_) (fun c224 => ?_)
                                  · refine lv_iconst (v := zI 0) C.1 C.2.1 dMo_measure_232 (by decide) ?_
                                    exact L233 0 (by first | (rw [if_neg (by omega)]; done) | (rw [if_pos (by omega), ovR_M]; unfold ovR; exact bzd (fun h => by omega) (fun h => by omega))) (by omega) ls H locs (lv_sub hl [0, 1, 2, 3, 4, 5, 6, 7, 8, 9, 10, 11] rfl) hW
                                  · refine lv_iconst (v := zI 1) C.1 C.2.1 dMo_measure_228 (by decide) ?_
                                    refine lv_goto (tgt := 233) C.1 C.2.1 dMo_measure_229 (by decide) ?_
                                    exact L233 1 (by first | (rw [if_neg (by omega)]; done) | (rw [if_pos (by omega), ovR_M]; unfold ovR; exact bzd (fun h => by omega) (fun h => by omega))) (by omega) ls H locs (lv_sub hl [0, 1, 2, 3, 4, 5, 6, 7, 8, 9, 10, 11] rfl) hW
                    exact L165 _ 0 0 (Nat.lt_succ_self _) (by omega) (by omega) rfl (Or.inl rfl) ls H locs (lv_sub hl [0, 1, 2, 3, 4, 5, 6, 7, 8, 9, 10, 11] rfl) hW
              exact L154 _ 0 1 (Nat.lt_succ_self _) (by omega) (Or.inr rfl) (fun j h0 h1 => absurd h1 (by omega)) (fun h => absurd h (by decide)) ls H locs (lv_sub hl [0, 1, 2, 3, 4, 5, 6, 7, 8, 9, 10] rfl) hW
            refine lv_lload C.1 C.2.1 dMo_measure_131 (lv_at hl 2 rfl) ?_
            refine lv_lload C.1 C.2.1 dMo_measure_133 (lv_at hl 1 rfl) ?_
            refine zlcmp_ge (tgt := 144) C (by omega) (by omega) dMo_measure_135 dMo_measure_136 (by decide) (fun c135 => ?_) (fun c135 => ?_)
            · refine lv_lload C.1 C.2.1 dMo_measure_144 (lv_at hl 2 rfl) ?_
              exact L146 (From ((3 * a) + ax)) (by omega) (by omega) ls H locs (lv_sub hl [0, 1, 2, 3, 4, 5, 6, 7] rfl) hW
            · refine lv_lload C.1 C.2.1 dMo_measure_139 (lv_at hl 1 rfl) ?_
              refine lv_goto (tgt := 146) C.1 C.2.1 dMo_measure_141 (by decide) ?_
              exact L146 (From ((3 * b) + ax)) (by omega) (by omega) ls H locs (lv_sub hl [0, 1, 2, 3, 4, 5, 6, 7] rfl) hW
          refine lv_lload C.1 C.2.1 dMo_measure_114 (lv_at hl 1 rfl) ?_
          refine lv_lload C.1 C.2.1 dMo_measure_116 (lv_at hl 0 rfl) ?_
          refine zlcmp_ge (tgt := 127) C (by omega) (by omega) dMo_measure_118 dMo_measure_119 (by decide) (fun c118 => ?_) (fun c118 => ?_)
          · refine lv_lload C.1 C.2.1 dMo_measure_127 (lv_at hl 0 rfl) ?_
            exact L129 (From ((3 * b) + ax)) (by omega) (by omega) ls H locs (lv_sub hl [0, 1, 2, 3, 4, 5, 6] rfl) hW
          · refine lv_lload C.1 C.2.1 dMo_measure_122 (lv_at hl 1 rfl) ?_
            refine lv_goto (tgt := 129) C.1 C.2.1 dMo_measure_124 (by decide) ?_
            exact L129 (From ((3 * a) + ax)) (by omega) (by omega) ls H locs (lv_sub hl [0, 1, 2, 3, 4, 5, 6] rfl) hW
        · refine lv_iconst (v := zI (-1)) C.1 C.2.1 dMo_measure_112 (by decide) ?_
          exact hQ (zI (-1)) _ H locs _ _ _ ls hW ⟨_, (-1), mes, Axs, MFr, MTo, Rws, bAxs, bMFr, bMTo, bRws, hv, (fun _ => ⟨rfl, rfl, rfl, rfl, rfl⟩), (fun _ _ => ⟨rfl, rfl, rfl, rfl, rfl, rfl⟩), (fun _ h => absurd c108 h), rfl, rfl⟩ (by omega) (by omega) dMo_measure_113
      · refine lv_iconst (v := zI 0) C.1 C.2.1 dMo_measure_78 (by decide) ?_
        exact hQ (zI 0) _ H locs _ _ _ ls hW ⟨_, 0, mes, Axs, MFr, MTo, Rws, bAxs, bMFr, bMTo, bRws, hv, (fun _ => ⟨rfl, rfl, rfl, rfl, rfl⟩), (fun h => by omega), (fun h => by omega), rfl, rfl⟩ (by omega) (by omega) dMo_measure_79
    refine lv_aload_n C.1 C.2.1 dMo_measure_31 rfl (lv_at hl 1 rfl) ?_
    refine lv_iload C.1 C.2.1 dMo_measure_32 (lv_at hl 0 rfl) ?_
    refine zif_ne (tgt := 41) C (by omega) dMo_measure_34 (by decide) (fun c34 => ?_) (fun c34 => ?_)
    · refine lv_aload_n C.1 C.2.1 dMo_measure_41 rfl (lv_at hl 1 rfl) ?_
      refine zget C hW 0 29 rfl rfl inMo (by decide) flMo_199 rfl dMo_measure_42 ?_
      refine lv_bipush (v := zI 30) C.1 C.2.1 dMo_measure_45 (by decide) ?_
      refine zicmp_ne (tgt := 54) C (by omega) (by omega) dMo_measure_47 (by decide) (fun c47 => ?_) (fun c47 => ?_)
      · refine lv_iload_n C.1 C.2.1 dMo_measure_54 rfl (lv_at hl 4 rfl) ?_
        refine zif_lt (tgt := 63) C (by omega) dMo_measure_55 (by decide) (fun c55 => ?_) (fun c55 => ?_)
        · refine lv_iconst (v := zI 3) C.1 C.2.1 dMo_measure_63 (by decide) ?_
          refine lv_goto (tgt := 68) C.1 C.2.1 dMo_measure_64 (by decide) ?_
          exact L68 3 (by unfold meC; first | (rw [if_neg (by omega)]; done) | (rw [if_pos (by omega), if_pos (by omega)]; done) | (rw [if_pos (by omega), if_neg (by omega), if_pos (by omega)]; done) | (rw [if_pos (by omega), if_neg (by omega), if_neg (by omega)]; done)) (by omega) ls H locs (lv_sub hl [0, 1, 2, 3, 4] rfl) hW
        · refine lv_iload_n C.1 C.2.1 dMo_measure_58 rfl (lv_at hl 4 rfl) ?_
          refine lv_iconst (v := zI 2) C.1 C.2.1 dMo_measure_59 (by decide) ?_
          refine zicmp_le (tgt := 67) C (by omega) (by omega) dMo_measure_60 (by decide) (fun c60 => ?_) (fun c60 => ?_)
          · refine lv_iconst (v := zI 0) C.1 C.2.1 dMo_measure_67 (by decide) ?_
            exact L68 0 (by unfold meC; first | (rw [if_neg (by omega)]; done) | (rw [if_pos (by omega), if_pos (by omega)]; done) | (rw [if_pos (by omega), if_neg (by omega), if_pos (by omega)]; done) | (rw [if_pos (by omega), if_neg (by omega), if_neg (by omega)]; done)) (by omega) ls H locs (lv_sub hl [0, 1, 2, 3, 4] rfl) hW
          · refine lv_iconst (v := zI 3) C.1 C.2.1 dMo_measure_63 (by decide) ?_
            refine lv_goto (tgt := 68) C.1 C.2.1 dMo_measure_64 (by decide) ?_
            exact L68 3 (by unfold meC; first | (rw [if_neg (by omega)]; done) | (rw [if_pos (by omega), if_pos (by omega)]; done) | (rw [if_pos (by omega), if_neg (by omega), if_pos (by omega)]; done) | (rw [if_pos (by omega), if_neg (by omega), if_neg (by omega)]; done)) (by omega) ls H locs (lv_sub hl [0, 1, 2, 3, 4] rfl) hW
      · refine lv_iconst (v := zI 2) C.1 C.2.1 dMo_measure_50 (by decide) ?_
        refine lv_goto (tgt := 68) C.1 C.2.1 dMo_measure_51 (by decide) ?_
        exact L68 2 (by unfold meC; first | (rw [if_neg (by omega)]; done) | (rw [if_pos (by omega), if_pos (by omega)]; done) | (rw [if_pos (by omega), if_neg (by omega), if_pos (by omega)]; done) | (rw [if_pos (by omega), if_neg (by omega), if_neg (by omega)]; done)) (by omega) ls H locs (lv_sub hl [0, 1, 2, 3, 4] rfl) hW
    · refine lv_iconst (v := zI 1) C.1 C.2.1 dMo_measure_37 (by decide) ?_
      refine lv_goto (tgt := 68) C.1 C.2.1 dMo_measure_38 (by decide) ?_
      exact L68 1 (by unfold meC; first | (rw [if_neg (by omega)]; done) | (rw [if_pos (by omega), if_pos (by omega)]; done) | (rw [if_pos (by omega), if_neg (by omega), if_pos (by omega)]; done) | (rw [if_pos (by omega), if_neg (by omega), if_neg (by omega)]; done)) (by omega) ls H locs (lv_sub hl [0, 1, 2, 3, 4] rfl) hW
  refine lv_iload_n C.1 C.2.1 dMo_measure_0 rfl (lv_at hl 1 rfl) ?_
  refine zif_lt (tgt := 28) C (by omega) dMo_measure_1 (by decide) (fun c1 => ?_) (fun c1 => ?_)
  · refine lv_iconst (v := zI 0) C.1 C.2.1 dMo_measure_28 (by decide) ?_
    exact L29 0 (by omega) ls H locs (lv_sub hl [0, 1, 2, 3] rfl) hW
  · refine lv_iload_n C.1 C.2.1 dMo_measure_4 rfl (lv_at hl 1 rfl) ?_
    refine lv_aload_n C.1 C.2.1 dMo_measure_5 rfl (lv_at hl 0 rfl) ?_
    refine zget C hW 0 3 rfl rfl inMo (by decide) flMo_105 rfl dMo_measure_6 ?_
    refine zicmp_ge (tgt := 28) C (by omega) (by omega) dMo_measure_9 (by decide) (fun c9 => ?_) (fun c9 => ?_)
    · refine lv_iconst (v := zI 0) C.1 C.2.1 dMo_measure_28 (by decide) ?_
      exact L29 0 (by omega) ls H locs (lv_sub hl [0, 1, 2, 3] rfl) hW
    · refine lv_iload_n C.1 C.2.1 dMo_measure_12 rfl (lv_at hl 2 rfl) ?_
      refine zif_lt (tgt := 28) C (by omega) dMo_measure_13 (by decide) (fun c13 => ?_) (fun c13 => ?_)
      · refine lv_iconst (v := zI 0) C.1 C.2.1 dMo_measure_28 (by decide) ?_
        exact L29 0 (by omega) ls H locs (lv_sub hl [0, 1, 2, 3] rfl) hW
      · refine lv_iload_n C.1 C.2.1 dMo_measure_16 rfl (lv_at hl 2 rfl) ?_
        refine lv_aload_n C.1 C.2.1 dMo_measure_17 rfl (lv_at hl 0 rfl) ?_
        refine zget C hW 0 3 rfl rfl inMo (by decide) flMo_105 rfl dMo_measure_18 ?_
        refine zicmp_ge (tgt := 28) C (by omega) (by omega) dMo_measure_21 (by decide) (fun c21 => ?_) (fun c21 => ?_)
        · refine lv_iconst (v := zI 0) C.1 C.2.1 dMo_measure_28 (by decide) ?_
          exact L29 0 (by omega) ls H locs (lv_sub hl [0, 1, 2, 3] rfl) hW
        · refine lv_iconst (v := zI 1) C.1 C.2.1 dMo_measure_24 (by decide) ?_
          refine lv_goto (tgt := 29) C.1 C.2.1 dMo_measure_25 (by decide) ?_
          exact L29 1 (by omega) ls H locs (lv_sub hl [0, 1, 2, 3] rfl) hW
