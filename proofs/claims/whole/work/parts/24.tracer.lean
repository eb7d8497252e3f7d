theorem dTr_init_0 : decode cTr_init 0 = .ok (.aload_n 0, 1) := by decide +kernel
theorem dTr_init_1 : decode cTr_init 1 = .ok (.invokespecial 3, 3) := by decide +kernel
theorem dTr_init_4 : decode cTr_init 4 = .ok (.aload_n 0, 1) := by decide +kernel
theorem dTr_init_5 : decode cTr_init 5 = .ok (.new 9, 3) := by decide +kernel
theorem dTr_init_8 : decode cTr_init 8 = .ok (.dup, 1) := by decide +kernel
theorem dTr_init_9 : decode cTr_init 9 = .ok (.invokespecial 11, 3) := by decide +kernel
theorem dTr_init_12 : decode cTr_init 12 = .ok (.putfield 12, 3) := by decide +kernel
theorem dTr_init_15 : decode cTr_init 15 = .ok (.aload_n 0, 1) := by decide +kernel
theorem dTr_init_16 : decode cTr_init 16 = .ok (.new 9, 3) := by decide +kernel
theorem dTr_init_19 : decode cTr_init 19 = .ok (.dup, 1) := by decide +kernel
theorem dTr_init_20 : decode cTr_init 20 = .ok (.invokespecial 11, 3) := by decide +kernel
theorem dTr_init_23 : decode cTr_init 23 = .ok (.putfield 18, 3) := by decide +kernel
theorem dTr_init_26 : decode cTr_init 26 = .ok (.aload_n 0, 1) := by decide +kernel
theorem dTr_init_27 : decode cTr_init 27 = .ok (.bipush 24, 2) := by decide +kernel
theorem dTr_init_29 : decode cTr_init 29 = .ok (.newarray .int, 2) := by decide +kernel
theorem dTr_init_31 : decode cTr_init 31 = .ok (.putfield 21, 3) := by decide +kernel
theorem dTr_init_34 : decode cTr_init 34 = .ok (.return_, 1) := by decide +kernel
theorem dTr_trace_0 : decode cTr_trace 0 = .ok (.aload_n 2, 1) := by decide +kernel
theorem dTr_trace_1 : decode cTr_trace 1 = .ok (.invokevirtual 25, 3) := by decide +kernel
theorem dTr_trace_4 : decode cTr_trace 4 = .ok (.aload_n 0, 1) := by decide +kernel
theorem dTr_trace_5 : decode cTr_trace 5 = .ok (.aload_n 1, 1) := by decide +kernel
theorem dTr_trace_6 : decode cTr_trace 6 = .ok (.iconst 0, 1) := by decide +kernel
theorem dTr_trace_7 : decode cTr_trace 7 = .ok (.aload_n 2, 1) := by decide +kernel
theorem dTr_trace_8 : decode cTr_trace 8 = .ok (.invokevirtual 30, 3) := by decide +kernel
theorem dTr_trace_11 : decode cTr_trace 11 = .ok (.aload_n 0, 1) := by decide +kernel
theorem dTr_trace_12 : decode cTr_trace 12 = .ok (.aload_n 1, 1) := by decide +kernel
theorem dTr_trace_13 : decode cTr_trace 13 = .ok (.iconst 1, 1) := by decide +kernel
theorem dTr_trace_14 : decode cTr_trace 14 = .ok (.aload_n 2, 1) := by decide +kernel
theorem dTr_trace_15 : decode cTr_trace 15 = .ok (.invokevirtual 30, 3) := by decide +kernel
theorem dTr_trace_18 : decode cTr_trace 18 = .ok (.aload_n 2, 1) := by decide +kernel
theorem dTr_trace_19 : decode cTr_trace 19 = .ok (.iconst 1, 1) := by decide +kernel
theorem dTr_trace_20 : decode cTr_trace 20 = .ok (.putfield 34, 3) := by decide +kernel
theorem dTr_trace_23 : decode cTr_trace 23 = .ok (.return_, 1) := by decide +kernel
theorem dTr_traceWay_0 : decode cTr_traceWay 0 = .ok (.aload_n 0, 1) := by decide +kernel
theorem dTr_traceWay_1 : decode cTr_traceWay 1 = .ok (.getfield 12, 3) := by decide +kernel
theorem dTr_traceWay_4 : decode cTr_traceWay 4 = .ok (.aload_n 1, 1) := by decide +kernel
theorem dTr_traceWay_5 : decode cTr_traceWay 5 = .ok (.iload_n 2, 1) := by decide +kernel
theorem dTr_traceWay_6 : decode cTr_traceWay 6 = .ok (.invokestatic 38, 3) := by decide +kernel
theorem dTr_traceWay_9 : decode cTr_traceWay 9 = .ok (.invokevirtual 42, 3) := by decide +kernel
theorem dTr_traceWay_12 : decode cTr_traceWay 12 = .ok (.aload_n 0, 1) := by decide +kernel
theorem dTr_traceWay_13 : decode cTr_traceWay 13 = .ok (.getfield 18, 3) := by decide +kernel
theorem dTr_traceWay_16 : decode cTr_traceWay 16 = .ok (.aload_n 1, 1) := by decide +kernel
theorem dTr_traceWay_17 : decode cTr_traceWay 17 = .ok (.iload_n 2, 1) := by decide +kernel
theorem dTr_traceWay_18 : decode cTr_traceWay 18 = .ok (.invokevirtual 42, 3) := by decide +kernel
theorem dTr_traceWay_21 : decode cTr_traceWay 21 = .ok (.iconst 0, 1) := by decide +kernel
theorem dTr_traceWay_22 : decode cTr_traceWay 22 = .ok (.istore 4, 2) := by decide +kernel
theorem dTr_traceWay_24 : decode cTr_traceWay 24 = .ok (.iload 4, 2) := by decide +kernel
theorem dTr_traceWay_26 : decode cTr_traceWay 26 = .ok (.aload_n 0, 1) := by decide +kernel
theorem dTr_traceWay_27 : decode cTr_traceWay 27 = .ok (.getfield 12, 3) := by decide +kernel
theorem dTr_traceWay_30 : decode cTr_traceWay 30 = .ok (.getfield 46, 3) := by decide +kernel
theorem dTr_traceWay_33 : decode cTr_traceWay 33 = .ok (.if_icmp .ge 42, 3) := by decide +kernel
theorem dTr_traceWay_36 : decode cTr_traceWay 36 = .ok (.aload_n 0, 1) := by decide +kernel
theorem dTr_traceWay_37 : decode cTr_traceWay 37 = .ok (.aload_n 1, 1) := by decide +kernel
theorem dTr_traceWay_38 : decode cTr_traceWay 38 = .ok (.iload_n 2, 1) := by decide +kernel
theorem dTr_traceWay_39 : decode cTr_traceWay 39 = .ok (.aload_n 0, 1) := by decide +kernel
theorem dTr_traceWay_40 : decode cTr_traceWay 40 = .ok (.getfield 12, 3) := by decide +kernel
theorem dTr_traceWay_43 : decode cTr_traceWay 43 = .ok (.getfield 50, 3) := by decide +kernel
theorem dTr_traceWay_46 : decode cTr_traceWay 46 = .ok (.iload 4, 2) := by decide +kernel
theorem dTr_traceWay_48 : decode cTr_traceWay 48 = .ok (.iaload, 1) := by decide +kernel
theorem dTr_traceWay_49 : decode cTr_traceWay 49 = .ok (.invokevirtual 53, 3) := by decide +kernel
theorem dTr_traceWay_52 : decode cTr_traceWay 52 = .ok (.aload_n 0, 1) := by decide +kernel
theorem dTr_traceWay_53 : decode cTr_traceWay 53 = .ok (.aload_n 1, 1) := by decide +kernel
theorem dTr_traceWay_54 : decode cTr_traceWay 54 = .ok (.iload_n 2, 1) := by decide +kernel
theorem dTr_traceWay_55 : decode cTr_traceWay 55 = .ok (.aload_n 0, 1) := by decide +kernel
theorem dTr_traceWay_56 : decode cTr_traceWay 56 = .ok (.getfield 12, 3) := by decide +kernel
theorem dTr_traceWay_59 : decode cTr_traceWay 59 = .ok (.getfield 50, 3) := by decide +kernel
theorem dTr_traceWay_62 : decode cTr_traceWay 62 = .ok (.iload 4, 2) := by decide +kernel
theorem dTr_traceWay_64 : decode cTr_traceWay 64 = .ok (.iaload, 1) := by decide +kernel
theorem dTr_traceWay_65 : decode cTr_traceWay 65 = .ok (.aload_n 3, 1) := by decide +kernel
theorem dTr_traceWay_66 : decode cTr_traceWay 66 = .ok (.invokevirtual 57, 3) := by decide +kernel
theorem dTr_traceWay_69 : decode cTr_traceWay 69 = .ok (.iinc 4 1, 3) := by decide +kernel
theorem dTr_traceWay_72 : decode cTr_traceWay 72 = .ok (.goto (-48), 3) := by decide +kernel
theorem dTr_traceWay_75 : decode cTr_traceWay 75 = .ok (.return_, 1) := by decide +kernel
theorem dTr_otherWay_0 : decode cTr_otherWay 0 = .ok (.iload_n 0, 1) := by decide +kernel
theorem dTr_otherWay_1 : decode cTr_otherWay 1 = .ok (.ifCond .ne 7, 3) := by decide +kernel
theorem dTr_otherWay_4 : decode cTr_otherWay 4 = .ok (.iconst 1, 1) := by decide +kernel
theorem dTr_otherWay_5 : decode cTr_otherWay 5 = .ok (.goto 4, 3) := by decide +kernel
theorem dTr_otherWay_8 : decode cTr_otherWay 8 = .ok (.iconst 0, 1) := by decide +kernel
theorem dTr_otherWay_9 : decode cTr_otherWay 9 = .ok (.ireturn, 1) := by decide +kernel
theorem dTr_gatherEdges_0 : decode cTr_gatherEdges 0 = .ok (.iload_n 2, 1) := by decide +kernel
theorem dTr_gatherEdges_1 : decode cTr_gatherEdges 1 = .ok (.invokestatic 38, 3) := by decide +kernel
theorem dTr_gatherEdges_4 : decode cTr_gatherEdges 4 = .ok (.istore 4, 2) := by decide +kernel
theorem dTr_gatherEdges_6 : decode cTr_gatherEdges 6 = .ok (.aload_n 0, 1) := by decide +kernel
theorem dTr_gatherEdges_7 : decode cTr_gatherEdges 7 = .ok (.iconst 0, 1) := by decide +kernel
theorem dTr_gatherEdges_8 : decode cTr_gatherEdges 8 = .ok (.putfield 61, 3) := by decide +kernel
theorem dTr_gatherEdges_11 : decode cTr_gatherEdges 11 = .ok (.iconst 0, 1) := by decide +kernel
theorem dTr_gatherEdges_12 : decode cTr_gatherEdges 12 = .ok (.istore 5, 2) := by decide +kernel
theorem dTr_gatherEdges_14 : decode cTr_gatherEdges 14 = .ok (.iload 5, 2) := by decide +kernel
theorem dTr_gatherEdges_16 : decode cTr_gatherEdges 16 = .ok (.aload_n 1, 1) := by decide +kernel
theorem dTr_gatherEdges_17 : decode cTr_gatherEdges 17 = .ok (.getfield 64, 3) := by decide +kernel
theorem dTr_gatherEdges_20 : decode cTr_gatherEdges 20 = .ok (.if_icmp .ge 58, 3) := by decide +kernel
theorem dTr_gatherEdges_23 : decode cTr_gatherEdges 23 = .ok (.aload_n 1, 1) := by decide +kernel
theorem dTr_gatherEdges_24 : decode cTr_gatherEdges 24 = .ok (.getfield 67, 3) := by decide +kernel
theorem dTr_gatherEdges_27 : decode cTr_gatherEdges 27 = .ok (.iload 4, 2) := by decide +kernel
theorem dTr_gatherEdges_29 : decode cTr_gatherEdges 29 = .ok (.aaload, 1) := by decide +kernel
theorem dTr_gatherEdges_30 : decode cTr_gatherEdges 30 = .ok (.iload 5, 2) := by decide +kernel
theorem dTr_gatherEdges_32 : decode cTr_gatherEdges 32 = .ok (.iaload, 1) := by decide +kernel
theorem dTr_gatherEdges_33 : decode cTr_gatherEdges 33 = .ok (.iload_n 3, 1) := by decide +kernel
theorem dTr_gatherEdges_34 : decode cTr_gatherEdges 34 = .ok (.if_icmp .eq 17, 3) := by decide +kernel
theorem dTr_gatherEdges_37 : decode cTr_gatherEdges 37 = .ok (.aload_n 1, 1) := by decide +kernel
theorem dTr_gatherEdges_38 : decode cTr_gatherEdges 38 = .ok (.getfield 71, 3) := by decide +kernel
theorem dTr_gatherEdges_41 : decode cTr_gatherEdges 41 = .ok (.iload 4, 2) := by decide +kernel
theorem dTr_gatherEdges_43 : decode cTr_gatherEdges 43 = .ok (.aaload, 1) := by decide +kernel
theorem dTr_gatherEdges_44 : decode cTr_gatherEdges 44 = .ok (.iload 5, 2) := by decide +kernel
theorem dTr_gatherEdges_46 : decode cTr_gatherEdges 46 = .ok (.iaload, 1) := by decide +kernel
theorem dTr_gatherEdges_47 : decode cTr_gatherEdges 47 = .ok (.iload_n 3, 1) := by decide +kernel
theorem dTr_gatherEdges_48 : decode cTr_gatherEdges 48 = .ok (.if_icmp .ne 24, 3) := by decide +kernel
theorem dTr_gatherEdges_51 : decode cTr_gatherEdges 51 = .ok (.aload_n 0, 1) := by decide +kernel
theorem dTr_gatherEdges_52 : decode cTr_gatherEdges 52 = .ok (.getfield 21, 3) := by decide +kernel
theorem dTr_gatherEdges_55 : decode cTr_gatherEdges 55 = .ok (.aload_n 0, 1) := by decide +kernel
theorem dTr_gatherEdges_56 : decode cTr_gatherEdges 56 = .ok (.getfield 61, 3) := by decide +kernel
theorem dTr_gatherEdges_59 : decode cTr_gatherEdges 59 = .ok (.iload 5, 2) := by decide +kernel
theorem dTr_gatherEdges_61 : decode cTr_gatherEdges 61 = .ok (.iastore, 1) := by decide +kernel
theorem dTr_gatherEdges_62 : decode cTr_gatherEdges 62 = .ok (.aload_n 0, 1) := by decide +kernel
theorem dTr_gatherEdges_63 : decode cTr_gatherEdges 63 = .ok (.dup, 1) := by decide +kernel
theorem dTr_gatherEdges_64 : decode cTr_gatherEdges 64 = .ok (.getfield 61, 3) := by decide +kernel
theorem dTr_gatherEdges_67 : decode cTr_gatherEdges 67 = .ok (.iconst 1, 1) := by decide +kernel
theorem dTr_gatherEdges_68 : decode cTr_gatherEdges 68 = .ok (.iadd, 1) := by decide +kernel
theorem dTr_gatherEdges_69 : decode cTr_gatherEdges 69 = .ok (.putfield 61, 3) := by decide +kernel
theorem dTr_gatherEdges_72 : decode cTr_gatherEdges 72 = .ok (.iinc 5 1, 3) := by decide +kernel
theorem dTr_gatherEdges_75 : decode cTr_gatherEdges 75 = .ok (.goto (-61), 3) := by decide +kernel
theorem dTr_gatherEdges_78 : decode cTr_gatherEdges 78 = .ok (.return_, 1) := by decide +kernel
theorem dTr_traceLine_0 : decode cTr_traceLine 0 = .ok (.iconst 2, 1) := by decide +kernel
theorem dTr_traceLine_1 : decode cTr_traceLine 1 = .ok (.istore 5, 2) := by decide +kernel
theorem dTr_traceLine_3 : decode cTr_traceLine 3 = .ok (.iconst 0, 1) := by decide +kernel
theorem dTr_traceLine_4 : decode cTr_traceLine 4 = .ok (.istore 6, 2) := by decide +kernel
theorem dTr_traceLine_6 : decode cTr_traceLine 6 = .ok (.iconst 0, 1) := by decide +kernel
theorem dTr_traceLine_7 : decode cTr_traceLine 7 = .ok (.istore 7, 2) := by decide +kernel
theorem dTr_traceLine_9 : decode cTr_traceLine 9 = .ok (.iload 7, 2) := by decide +kernel
theorem dTr_traceLine_11 : decode cTr_traceLine 11 = .ok (.aload_n 0, 1) := by decide +kernel
theorem dTr_traceLine_12 : decode cTr_traceLine 12 = .ok (.getfield 18, 3) := by decide +kernel
theorem dTr_traceLine_15 : decode cTr_traceLine 15 = .ok (.getfield 46, 3) := by decide +kernel
theorem dTr_traceLine_18 : decode cTr_traceLine 18 = .ok (.if_icmp .ge 91, 3) := by decide +kernel
theorem dTr_traceLine_21 : decode cTr_traceLine 21 = .ok (.iload 7, 2) := by decide +kernel
theorem dTr_traceLine_23 : decode cTr_traceLine 23 = .ok (.iconst 1, 1) := by decide +kernel
theorem dTr_traceLine_24 : decode cTr_traceLine 24 = .ok (.iadd, 1) := by decide +kernel
theorem dTr_traceLine_25 : decode cTr_traceLine 25 = .ok (.aload_n 0, 1) := by decide +kernel
theorem dTr_traceLine_26 : decode cTr_traceLine 26 = .ok (.getfield 18, 3) := by decide +kernel
theorem dTr_traceLine_29 : decode cTr_traceLine 29 = .ok (.getfield 46, 3) := by decide +kernel
theorem dTr_traceLine_32 : decode cTr_traceLine 32 = .ok (.if_icmp .ge 15, 3) := by decide +kernel
theorem dTr_traceLine_35 : decode cTr_traceLine 35 = .ok (.aload_n 0, 1) := by decide +kernel
theorem dTr_traceLine_36 : decode cTr_traceLine 36 = .ok (.aload_n 1, 1) := by decide +kernel
theorem dTr_traceLine_37 : decode cTr_traceLine 37 = .ok (.iload_n 2, 1) := by decide +kernel
theorem dTr_traceLine_38 : decode cTr_traceLine 38 = .ok (.iload_n 3, 1) := by decide +kernel
theorem dTr_traceLine_39 : decode cTr_traceLine 39 = .ok (.iload 7, 2) := by decide +kernel
theorem dTr_traceLine_41 : decode cTr_traceLine 41 = .ok (.invokevirtual 74, 3) := by decide +kernel
theorem dTr_traceLine_44 : decode cTr_traceLine 44 = .ok (.goto 4, 3) := by decide +kernel
theorem dTr_traceLine_47 : decode cTr_traceLine 47 = .ok (.iconst 2, 1) := by decide +kernel
theorem dTr_traceLine_48 : decode cTr_traceLine 48 = .ok (.istore 8, 2) := by decide +kernel
theorem dTr_traceLine_50 : decode cTr_traceLine 50 = .ok (.iload 8, 2) := by decide +kernel
theorem dTr_traceLine_52 : decode cTr_traceLine 52 = .ok (.iload 5, 2) := by decide +kernel
theorem dTr_traceLine_54 : decode cTr_traceLine 54 = .ok (.if_icmp .ne 6, 3) := by decide +kernel
theorem dTr_traceLine_57 : decode cTr_traceLine 57 = .ok (.goto 46, 3) := by decide +kernel
theorem dTr_traceLine_60 : decode cTr_traceLine 60 = .ok (.iload 5, 2) := by decide +kernel
theorem dTr_traceLine_62 : decode cTr_traceLine 62 = .ok (.iconst 2, 1) := by decide +kernel
theorem dTr_traceLine_63 : decode cTr_traceLine 63 = .ok (.if_icmp .eq 24, 3) := by decide +kernel
theorem dTr_traceLine_66 : decode cTr_traceLine 66 = .ok (.aload 4, 2) := by decide +kernel
theorem dTr_traceLine_68 : decode cTr_traceLine 68 = .ok (.iload_n 2, 1) := by decide +kernel
theorem dTr_traceLine_69 : decode cTr_traceLine 69 = .ok (.iload_n 3, 1) := by decide +kernel
theorem dTr_traceLine_70 : decode cTr_traceLine 70 = .ok (.iload 6, 2) := by decide +kernel
theorem dTr_traceLine_72 : decode cTr_traceLine 72 = .ok (.aload_n 0, 1) := by decide +kernel
theorem dTr_traceLine_73 : decode cTr_traceLine 73 = .ok (.getfield 18, 3) := by decide +kernel
theorem dTr_traceLine_76 : decode cTr_traceLine 76 = .ok (.getfield 50, 3) := by decide +kernel
theorem dTr_traceLine_79 : decode cTr_traceLine 79 = .ok (.iload 7, 2) := by decide +kernel
theorem dTr_traceLine_81 : decode cTr_traceLine 81 = .ok (.iaload, 1) := by decide +kernel
theorem dTr_traceLine_82 : decode cTr_traceLine 82 = .ok (.iload 5, 2) := by decide +kernel
theorem dTr_traceLine_84 : decode cTr_traceLine 84 = .ok (.invokevirtual 78, 3) := by decide +kernel
theorem dTr_traceLine_87 : decode cTr_traceLine 87 = .ok (.iload 8, 2) := by decide +kernel
theorem dTr_traceLine_89 : decode cTr_traceLine 89 = .ok (.istore 5, 2) := by decide +kernel
theorem dTr_traceLine_91 : decode cTr_traceLine 91 = .ok (.aload_n 0, 1) := by decide +kernel
theorem dTr_traceLine_92 : decode cTr_traceLine 92 = .ok (.getfield 18, 3) := by decide +kernel
theorem dTr_traceLine_95 : decode cTr_traceLine 95 = .ok (.getfield 50, 3) := by decide +kernel
theorem dTr_traceLine_98 : decode cTr_traceLine 98 = .ok (.iload 7, 2) := by decide +kernel
theorem dTr_traceLine_100 : decode cTr_traceLine 100 = .ok (.iaload, 1) := by decide +kernel
theorem dTr_traceLine_101 : decode cTr_traceLine 101 = .ok (.istore 6, 2) := by decide +kernel
theorem dTr_traceLine_103 : decode cTr_traceLine 103 = .ok (.iinc 7 1, 3) := by decide +kernel
theorem dTr_traceLine_106 : decode cTr_traceLine 106 = .ok (.goto (-97), 3) := by decide +kernel
theorem dTr_traceLine_109 : decode cTr_traceLine 109 = .ok (.return_, 1) := by decide +kernel
theorem dTr_stateFrom_0 : decode cTr_stateFrom 0 = .ok (.aload_n 0, 1) := by decide +kernel
theorem dTr_stateFrom_1 : decode cTr_stateFrom 1 = .ok (.getfield 18, 3) := by decide +kernel
theorem dTr_stateFrom_4 : decode cTr_stateFrom 4 = .ok (.getfield 50, 3) := by decide +kernel
theorem dTr_stateFrom_7 : decode cTr_stateFrom 7 = .ok (.iload 4, 2) := by decide +kernel
theorem dTr_stateFrom_9 : decode cTr_stateFrom 9 = .ok (.iaload, 1) := by decide +kernel
theorem dTr_stateFrom_10 : decode cTr_stateFrom 10 = .ok (.istore 5, 2) := by decide +kernel
theorem dTr_stateFrom_12 : decode cTr_stateFrom 12 = .ok (.aload_n 0, 1) := by decide +kernel
theorem dTr_stateFrom_13 : decode cTr_stateFrom 13 = .ok (.getfield 18, 3) := by decide +kernel
theorem dTr_stateFrom_16 : decode cTr_stateFrom 16 = .ok (.getfield 50, 3) := by decide +kernel
theorem dTr_stateFrom_19 : decode cTr_stateFrom 19 = .ok (.iload 4, 2) := by decide +kernel
theorem dTr_stateFrom_21 : decode cTr_stateFrom 21 = .ok (.iconst 1, 1) := by decide +kernel
theorem dTr_stateFrom_22 : decode cTr_stateFrom 22 = .ok (.iadd, 1) := by decide +kernel
theorem dTr_stateFrom_23 : decode cTr_stateFrom 23 = .ok (.iaload, 1) := by decide +kernel
theorem dTr_stateFrom_24 : decode cTr_stateFrom 24 = .ok (.istore 6, 2) := by decide +kernel
theorem dTr_stateFrom_26 : decode cTr_stateFrom 26 = .ok (.iconst 2, 1) := by decide +kernel
theorem dTr_stateFrom_27 : decode cTr_stateFrom 27 = .ok (.istore 7, 2) := by decide +kernel
theorem dTr_stateFrom_29 : decode cTr_stateFrom 29 = .ok (.iconst 0, 1) := by decide +kernel
theorem dTr_stateFrom_30 : decode cTr_stateFrom 30 = .ok (.istore 8, 2) := by decide +kernel
theorem dTr_stateFrom_32 : decode cTr_stateFrom 32 = .ok (.iload 8, 2) := by decide +kernel
theorem dTr_stateFrom_34 : decode cTr_stateFrom 34 = .ok (.aload_n 0, 1) := by decide +kernel
theorem dTr_stateFrom_35 : decode cTr_stateFrom 35 = .ok (.getfield 61, 3) := by decide +kernel
theorem dTr_stateFrom_38 : decode cTr_stateFrom 38 = .ok (.if_icmp .ge 54, 3) := by decide +kernel
theorem dTr_stateFrom_41 : decode cTr_stateFrom 41 = .ok (.aload_n 1, 1) := by decide +kernel
theorem dTr_stateFrom_42 : decode cTr_stateFrom 42 = .ok (.aload_n 0, 1) := by decide +kernel
theorem dTr_stateFrom_43 : decode cTr_stateFrom 43 = .ok (.getfield 21, 3) := by decide +kernel
theorem dTr_stateFrom_46 : decode cTr_stateFrom 46 = .ok (.iload 8, 2) := by decide +kernel
theorem dTr_stateFrom_48 : decode cTr_stateFrom 48 = .ok (.iaload, 1) := by decide +kernel
theorem dTr_stateFrom_49 : decode cTr_stateFrom 49 = .ok (.iload_n 2, 1) := by decide +kernel
theorem dTr_stateFrom_50 : decode cTr_stateFrom 50 = .ok (.iload 5, 2) := by decide +kernel
theorem dTr_stateFrom_52 : decode cTr_stateFrom 52 = .ok (.iload 6, 2) := by decide +kernel
theorem dTr_stateFrom_54 : decode cTr_stateFrom 54 = .ok (.invokevirtual 82, 3) := by decide +kernel
theorem dTr_stateFrom_57 : decode cTr_stateFrom 57 = .ok (.ifCond .eq 29, 3) := by decide +kernel
theorem dTr_stateFrom_60 : decode cTr_stateFrom 60 = .ok (.aload_n 0, 1) := by decide +kernel
theorem dTr_stateFrom_61 : decode cTr_stateFrom 61 = .ok (.aload_n 1, 1) := by decide +kernel
theorem dTr_stateFrom_62 : decode cTr_stateFrom 62 = .ok (.aload_n 0, 1) := by decide +kernel
theorem dTr_stateFrom_63 : decode cTr_stateFrom 63 = .ok (.getfield 21, 3) := by decide +kernel
theorem dTr_stateFrom_66 : decode cTr_stateFrom 66 = .ok (.iload 8, 2) := by decide +kernel
theorem dTr_stateFrom_68 : decode cTr_stateFrom 68 = .ok (.iaload, 1) := by decide +kernel
theorem dTr_stateFrom_69 : decode cTr_stateFrom 69 = .ok (.iload_n 2, 1) := by decide +kernel
theorem dTr_stateFrom_70 : decode cTr_stateFrom 70 = .ok (.iload_n 3, 1) := by decide +kernel
theorem dTr_stateFrom_71 : decode cTr_stateFrom 71 = .ok (.iload 5, 2) := by decide +kernel
theorem dTr_stateFrom_73 : decode cTr_stateFrom 73 = .ok (.iload 6, 2) := by decide +kernel
theorem dTr_stateFrom_75 : decode cTr_stateFrom 75 = .ok (.invokevirtual 86, 3) := by decide +kernel
theorem dTr_stateFrom_78 : decode cTr_stateFrom 78 = .ok (.ifCond .ne 5, 3) := by decide +kernel
theorem dTr_stateFrom_81 : decode cTr_stateFrom 81 = .ok (.iconst 0, 1) := by decide +kernel
theorem dTr_stateFrom_82 : decode cTr_stateFrom 82 = .ok (.ireturn, 1) := by decide +kernel
theorem dTr_stateFrom_83 : decode cTr_stateFrom 83 = .ok (.iconst 1, 1) := by decide +kernel
theorem dTr_stateFrom_84 : decode cTr_stateFrom 84 = .ok (.istore 7, 2) := by decide +kernel
theorem dTr_stateFrom_86 : decode cTr_stateFrom 86 = .ok (.iinc 8 1, 3) := by decide +kernel
theorem dTr_stateFrom_89 : decode cTr_stateFrom 89 = .ok (.goto (-57), 3) := by decide +kernel
theorem dTr_stateFrom_92 : decode cTr_stateFrom 92 = .ok (.iload 7, 2) := by decide +kernel
theorem dTr_stateFrom_94 : decode cTr_stateFrom 94 = .ok (.ireturn, 1) := by decide +kernel
theorem dTr_isCovered_0 : decode cTr_isCovered 0 = .ok (.iload_n 3, 1) := by decide +kernel
theorem dTr_isCovered_1 : decode cTr_isCovered 1 = .ok (.invokestatic 38, 3) := by decide +kernel
theorem dTr_isCovered_4 : decode cTr_isCovered 4 = .ok (.istore 7, 2) := by decide +kernel
theorem dTr_isCovered_6 : decode cTr_isCovered 6 = .ok (.iconst 0, 1) := by decide +kernel
theorem dTr_isCovered_7 : decode cTr_isCovered 7 = .ok (.istore 8, 2) := by decide +kernel
theorem dTr_isCovered_9 : decode cTr_isCovered 9 = .ok (.iload 8, 2) := by decide +kernel
theorem dTr_isCovered_11 : decode cTr_isCovered 11 = .ok (.aload_n 1, 1) := by decide +kernel
theorem dTr_isCovered_12 : decode cTr_isCovered 12 = .ok (.getfield 64, 3) := by decide +kernel
theorem dTr_isCovered_15 : decode cTr_isCovered 15 = .ok (.if_icmp .ge 71, 3) := by decide +kernel
theorem dTr_isCovered_18 : decode cTr_isCovered 18 = .ok (.aload_n 1, 1) := by decide +kernel
theorem dTr_isCovered_19 : decode cTr_isCovered 19 = .ok (.getfield 90, 3) := by decide +kernel
theorem dTr_isCovered_22 : decode cTr_isCovered 22 = .ok (.iload 8, 2) := by decide +kernel
theorem dTr_isCovered_24 : decode cTr_isCovered 24 = .ok (.iaload, 1) := by decide +kernel
theorem dTr_isCovered_25 : decode cTr_isCovered 25 = .ok (.aload_n 1, 1) := by decide +kernel
theorem dTr_isCovered_26 : decode cTr_isCovered 26 = .ok (.getfield 90, 3) := by decide +kernel
theorem dTr_isCovered_29 : decode cTr_isCovered 29 = .ok (.iload_n 2, 1) := by decide +kernel
theorem dTr_isCovered_30 : decode cTr_isCovered 30 = .ok (.iaload, 1) := by decide +kernel
theorem dTr_isCovered_31 : decode cTr_isCovered 31 = .ok (.if_icmp .ge 49, 3) := by decide +kernel
theorem dTr_isCovered_34 : decode cTr_isCovered 34 = .ok (.aload_n 1, 1) := by decide +kernel
theorem dTr_isCovered_35 : decode cTr_isCovered 35 = .ok (.getfield 67, 3) := by decide +kernel
theorem dTr_isCovered_38 : decode cTr_isCovered 38 = .ok (.iload 7, 2) := by decide +kernel
theorem dTr_isCovered_40 : decode cTr_isCovered 40 = .ok (.aaload, 1) := by decide +kernel
theorem dTr_isCovered_41 : decode cTr_isCovered 41 = .ok (.iload 8, 2) := by decide +kernel
theorem dTr_isCovered_43 : decode cTr_isCovered 43 = .ok (.iaload, 1) := by decide +kernel
theorem dTr_isCovered_44 : decode cTr_isCovered 44 = .ok (.iload 4, 2) := by decide +kernel
theorem dTr_isCovered_46 : decode cTr_isCovered 46 = .ok (.if_icmp .ge 34, 3) := by decide +kernel
theorem dTr_isCovered_49 : decode cTr_isCovered 49 = .ok (.iload 4, 2) := by decide +kernel
theorem dTr_isCovered_51 : decode cTr_isCovered 51 = .ok (.aload_n 1, 1) := by decide +kernel
theorem dTr_isCovered_52 : decode cTr_isCovered 52 = .ok (.getfield 71, 3) := by decide +kernel
theorem dTr_isCovered_55 : decode cTr_isCovered 55 = .ok (.iload 7, 2) := by decide +kernel
theorem dTr_isCovered_57 : decode cTr_isCovered 57 = .ok (.aaload, 1) := by decide +kernel
theorem dTr_isCovered_58 : decode cTr_isCovered 58 = .ok (.iload 8, 2) := by decide +kernel
theorem dTr_isCovered_60 : decode cTr_isCovered 60 = .ok (.iaload, 1) := by decide +kernel
theorem dTr_isCovered_61 : decode cTr_isCovered 61 = .ok (.if_icmp .ge 19, 3) := by decide +kernel
theorem dTr_isCovered_64 : decode cTr_isCovered 64 = .ok (.aload_n 1, 1) := by decide +kernel
theorem dTr_isCovered_65 : decode cTr_isCovered 65 = .ok (.iload 8, 2) := by decide +kernel
theorem dTr_isCovered_67 : decode cTr_isCovered 67 = .ok (.iload_n 3, 1) := by decide +kernel
theorem dTr_isCovered_68 : decode cTr_isCovered 68 = .ok (.iload 5, 2) := by decide +kernel
theorem dTr_isCovered_70 : decode cTr_isCovered 70 = .ok (.iload 6, 2) := by decide +kernel
theorem dTr_isCovered_72 : decode cTr_isCovered 72 = .ok (.invokevirtual 82, 3) := by decide +kernel
theorem dTr_isCovered_75 : decode cTr_isCovered 75 = .ok (.ifCond .eq 5, 3) := by decide +kernel
theorem dTr_isCovered_78 : decode cTr_isCovered 78 = .ok (.iconst 1, 1) := by decide +kernel
theorem dTr_isCovered_79 : decode cTr_isCovered 79 = .ok (.ireturn, 1) := by decide +kernel
theorem dTr_isCovered_80 : decode cTr_isCovered 80 = .ok (.iinc 8 1, 3) := by decide +kernel
theorem dTr_isCovered_83 : decode cTr_isCovered 83 = .ok (.goto (-74), 3) := by decide +kernel
theorem dTr_isCovered_86 : decode cTr_isCovered 86 = .ok (.iconst 0, 1) := by decide +kernel
theorem dTr_isCovered_87 : decode cTr_isCovered 87 = .ok (.ireturn, 1) := by decide +kernel
set_option maxRecDepth 100000 in
theorem kTr_38 : inT (kS "PartDrawings$Tracer" 38 yTr_otherWay cTr_otherWay 1 (some .int)) := gW_l [582, 583, 50, 584] rfl (by decide +kernel)
set_option maxRecDepth 100000 in
theorem flTr_64 : Cond.fieldLink "PartDrawings$Tracer" 64 (TRe 3).1 (TRe 3).2.1 (TRe 3).2.2.1 ∈ gW := gW_1 142 rfl rfl
set_option maxRecDepth 100000 in
theorem flTr_90 : Cond.fieldLink "PartDrawings$Tracer" 90 (TRe 2).1 (TRe 2).2.1 (TRe 2).2.2.1 ∈ gW := gW_1 139 rfl rfl
set_option maxRecDepth 100000 in
theorem flTr_67 : Cond.fieldLink "PartDrawings$Tracer" 67 (TRe 0).1 (TRe 0).2.1 (TRe 0).2.2.1 ∈ gW := gW_1 134 rfl rfl
set_option maxRecDepth 100000 in
theorem flTr_71 : Cond.fieldLink "PartDrawings$Tracer" 71 (TRe 1).1 (TRe 1).2.1 (TRe 1).2.2.1 ∈ gW := gW_1 137 rfl rfl
set_option maxRecDepth 100000 in
theorem kTr_82 : inT (kV "PartDrawings$Tracer" 82 yRe_spans cRe_spans 5 (some .boolean)) := gW_l [605, 606, 607, 48, 608] rfl (by decide +kernel)
set_option maxHeartbeats 4000000 in
set_option maxRecDepth 100000 in
theorem c_Tracer_otherWay (l : Launch) (D : va_G) (cI cG cL cB : ClassId) (wy : Int) (hIwy : I32 wy) : Ci l yTr_otherWay cTr_otherWay 1 (some .int) 0 0 0 D zCl (zT cI cG cL cB) [.int (zI wy)] [] (fun x w => x = zI (owy wy) ∧ w = []) := by
  refine zBi (by decide) (Nat.le_of_ble_eq_true rfl) ?_
  intro p e s m args below meth c ls A H locs Q C hin hl hW hQ
  have hl : lv_has ls 1 [(0, .int (zI wy))] := hl
  refine lv_iload_n C.1 C.2.1 dTr_otherWay_0 rfl (lv_at hl 0 rfl) ?_
  refine zif_ne (tgt := 8) C (by omega) dTr_otherWay_1 (by decide) (fun c1 => ?_) (fun c1 => ?_)
  · refine lv_iconst (v := zI 0) C.1 C.2.1 dTr_otherWay_8 (by decide) ?_
    exact hQ (zI 0) _ H locs _ _ _ ls hW ⟨congrArg zI (by unfold owy; first | rw [if_pos (by omega)] | rw [if_neg (by omega)]), rfl⟩ (by omega) (by omega) dTr_otherWay_9
  · refine lv_iconst (v := zI 1) C.1 C.2.1 dTr_otherWay_4 (by decide) ?_
    refine lv_goto (tgt := 9) C.1 C.2.1 dTr_otherWay_5 (by decide) ?_
    exact hQ (zI 1) _ H locs _ _ _ ls hW ⟨congrArg zI (by unfold owy; first | rw [if_pos (by omega)] | rw [if_neg (by omega)]), rfl⟩ (by omega) (by omega) dTr_otherWay_9
set_option maxHeartbeats 4000000 in
set_option maxRecDepth 100000 in
theorem c_Tracer_isCovered (l : Launch) (D : va_G) (cI cG cL cB : ClassId) (o0 : Nat) (li : Nat) (cu_ : Nat) (ed : Nat) (ec : Int) (r0 : Nat) (hf : Nat) (ht : Nat) (hz : Nat) (ca : Nat) (cu : Nat) (f0 : Nat) (f1 : Nat) (t0 : Nat) (t1 : Nat) (rn : Int) (Fa : Int → Int) (Fb : Int → Int) (Ta : Int → Int) (Tb : Int → Int) (Z : Int → Int) (g : Int) (wy : Int) (y : Int) (be : Int) (en : Int) (bFa : ∀ j : Int, I32 (Fa j)) (bFb : ∀ j : Int, I32 (Fb j)) (bTa : ∀ j : Int, I32 (Ta j)) (bTb : ∀ j : Int, I32 (Tb j)) (bZ : ∀ j : Int, I32 (Z j)) (hrn0 : 0 ≤ rn) (hrn1 : rn ≤ 24) (hg0 : 0 ≤ g) (hg1 : g < 24) (hwy : wy = 0 ∨ wy = 1) (hIy : I32 y) (hIbe : I32 be) (hIen : I32 en) : Ci l yTr_isCovered cTr_isCovered 9 (some .boolean) 1 0 0 D zCl (zT cI cG cL cB) [.ref o0, .ref r0, .int (zI g), .int (zI wy), .int (zI y), .int (zI be), .int (zI en)] [(o0, .inr (8, [.ref li, .ref cu_, .ref ed, .int (zI ec)])), (r0, .inr (6, [.ref hf, .ref ht, .ref hz, .int (zI rn), .ref ca, .ref cu])), (hf, .inl (cG, 2, .inr (.inr (.inr (.inr (g2 f0 f1)))))), (ht, .inl (cG, 2, .inr (.inr (.inr (.inr (g2 t0 t1)))))), (f0, .inl (cI, 24, .inl (fI Fa))), (f1, .inl (cI, 24, .inl (fI Fb))), (t0, .inl (cI, 24, .inl (fI Ta))), (t1, .inl (cI, 24, .inl (fI Tb))), (hz, .inl (cI, 24, .inl (fI Z)))] (fun x w => x = zI (bz (anyZ (covP (sel2 wy Fa Fb) (sel2 wy Ta Tb) (sel2 (owy wy) Fa Fb) (sel2 (owy wy) Ta Tb) Z (Z g) y be en) rn)) ∧ w = [(o0, .inr (8, [.ref li, .ref cu_, .ref ed, .int (zI ec)])), (r0, .inr (6, [.ref hf, .ref ht, .ref hz, .int (zI rn), .ref ca, .ref cu])), (hf, .inl (cG, 2, .inr (.inr (.inr (.inr (g2 f0 f1)))))), (ht, .inl (cG, 2, .inr (.inr (.inr (.inr (g2 t0 t1)))))), (f0, .inl (cI, 24, .inl (fI Fa))), (f1, .inl (cI, 24, .inl (fI Fb))), (t0, .inl (cI, 24, .inl (fI Ta))), (t1, .inl (cI, 24, .inl (fI Tb))), (hz, .inl (cI, 24, .inl (fI Z)))]) := by
  rcases hwy with rfl | rfl
  · refine zBz (by decide) (Nat.le_of_ble_eq_true rfl) ?_
    intro p e s m args below meth c ls A H locs Q C hin hl hW hQ
    have hl : lv_has ls 9 [(0, .ref o0), (1, .ref r0), (2, .int (zI g)), (3, .int (zI 0)), (4, .int (zI y)), (5, .int (zI be)), (6, .int (zI en))] := hl
    refine lv_iload_n C.1 C.2.1 dTr_isCovered_0 rfl (lv_at hl 3 rfl) ?_
    refine zcalli (wr := [(o0, .inr (8, [.ref li, .ref cu_, .ref ed, .int (zI ec)])), (r0, .inr (6, [.ref hf, .ref ht, .ref hz, .int (zI rn), .ref ca, .ref cu])), (hf, .inl (cG, 2, .inr (.inr (.inr (.inr (g2 f0 f1)))))), (ht, .inl (cG, 2, .inr (.inr (.inr (.inr (g2 t0 t1)))))), (f0, .inl (cI, 24, .inl (fI Fa))), (f1, .inl (cI, 24, .inl (fI Fb))), (t0, .inl (cI, 24, .inl (fI Ta))), (t1, .inl (cI, 24, .inl (fI Tb))), (hz, .inl (cI, 24, .inl (fI Z)))]) C hW [] [0, 1, 2, 3, 4, 5, 6, 7, 8] rfl rfl (by decide) (by decide) (zRunS (k := 1) (As := [.int (zI 0)]) (rest := []) C hW (c_Tracer_otherWay l D cI cG cL cB 0 (by omega) H.size) [] rfl (by decide) kTr_38 (by decide +kernel) ⟨by decide, by decide⟩ rfl hl.1 (Nat.le_of_ble_eq_true rfl) dTr_isCovered_1 ⟨by first | decide | omega, by first | decide | omega⟩) (fun x w H locs hq hW => ?_)
    obtain ⟨rfl, rfl⟩ := hq
    have hW : zw D zCl A s [(o0, .inr (8, [.ref li, .ref cu_, .ref ed, .int (zI ec)])), (r0, .inr (6, [.ref hf, .ref ht, .ref hz, .int (zI rn), .ref ca, .ref cu])), (hf, .inl (cG, 2, .inr (.inr (.inr (.inr (g2 f0 f1)))))), (ht, .inl (cG, 2, .inr (.inr (.inr (.inr (g2 t0 t1)))))), (f0, .inl (cI, 24, .inl (fI Fa))), (f1, .inl (cI, 24, .inl (fI Fb))), (t0, .inl (cI, 24, .inl (fI Ta))), (t1, .inl (cI, 24, .inl (fI Tb))), (hz, .inl (cI, 24, .inl (fI Z)))] H locs := hW
    refine lv_istore (lv' := [(7, .int (zI 1)), (0, .ref o0), (1, .ref r0), (2, .int (zI g)), (3, .int (zI 0)), (4, .int (zI y)), (5, .int (zI be)), (6, .int (zI en))]) C.1 C.2.1 dTr_isCovered_4 hl (by decide) rfl (fun ls hl => ?_)
    refine lv_iconst (v := zI 0) C.1 C.2.1 dTr_isCovered_6 (by decide) ?_
    refine lv_istore (lv' := [(8, .int (zI 0)), (7, .int (zI 1)), (0, .ref o0), (1, .ref r0), (2, .int (zI g)), (3, .int (zI 0)), (4, .int (zI y)), (5, .int (zI be)), (6, .int (zI en))]) C.1 C.2.1 dTr_isCovered_7 hl (by decide) rfl (fun ls hl => ?_)
    have L9 : ∀ (N : Nat) (i : Int), (rn - i).toNat < N → (0 ≤ i) → (i ≤ rn) → (anyZ (covP (sel2 0 Fa Fb) (sel2 0 Ta Tb) (sel2 (owy 0) Fa Fb) (sel2 (owy 0) Ta Tb) Z (Z g) y be en) i = false) → ∀ (ls : Array Slot) (H : Heap) (locs : List Loc), lv_has ls 9 [(8, .int (zI i)), (7, .int (zI 1)), (0, .ref o0), (1, .ref r0), (2, .int (zI g)), (3, .int (zI 0)), (4, .int (zI y)), (5, .int (zI be)), (6, .int (zI en))] → zw D zCl A s [(o0, .inr (8, [.ref li, .ref cu_, .ref ed, .int (zI ec)])), (r0, .inr (6, [.ref hf, .ref ht, .ref hz, .int (zI rn), .ref ca, .ref cu])), (hf, .inl (cG, 2, .inr (.inr (.inr (.inr (g2 f0 f1)))))), (ht, .inl (cG, 2, .inr (.inr (.inr (.inr (g2 t0 t1)))))), (f0, .inl (cI, 24, .inl (fI Fa))), (f1, .inl (cI, 24, .inl (fI Fb))), (t0, .inl (cI, 24, .inl (fI Ta))), (t1, .inl (cI, 24, .inl (fI Tb))), (hz, .inl (cI, 24, .inl (fI Z)))] H locs → W p l e (zr 1 0 0) s m args below meth c H locs 0 0 Q (F0 m 9 ls []) := by
      intro N
      induction N with
      | zero => intro i hm; exact absurd hm (Nat.not_lt_zero _)
      | succ N ih9 =>
        intro i hm9 hi0 hi1 hP ls H locs hl hW
        refine lv_iload C.1 C.2.1 dTr_isCovered_9 (lv_at hl 0 rfl) ?_
        refine lv_aload_n C.1 C.2.1 dTr_isCovered_11 rfl (lv_at hl 3 rfl) ?_
        refine zget C hW 1 3 rfl rfl inRe (by decide) flTr_64 rfl dTr_isCovered_12 ?_
        refine zicmp_ge (tgt := 86) C (by omega) (by omega) dTr_isCovered_15 (by decide) (fun c15 => ?_) (fun c15 => ?_)
        · refine lv_iconst (v := zI 0) C.1 C.2.1 dTr_isCovered_86 (by decide) ?_
          exact hQ (zI 0) _ H locs _ _ _ ls hW (by decide) ⟨congrArg zI (by rw [show i = rn by omega] at hP; rw [hP]; rfl), rfl⟩ (by omega) (by omega) dTr_isCovered_87
        · refine lv_aload_n C.1 C.2.1 dTr_isCovered_18 rfl (lv_at hl 3 rfl) ?_
          refine zget C hW 1 2 rfl rfl inRe (by decide) flTr_90 rfl dTr_isCovered_19 ?_
          refine lv_iload C.1 C.2.1 dTr_isCovered_22 (lv_at hl 0 rfl) ?_
          refine ziald C hW 8 0 rfl rfl (by omega) (by omega) (by decide) dTr_isCovered_24 ?_
          have hb1 := bZ i
          refine lv_aload_n C.1 C.2.1 dTr_isCovered_25 rfl (lv_at hl 3 rfl) ?_
          refine zget C hW 1 2 rfl rfl inRe (by decide) flTr_90 rfl dTr_isCovered_26 ?_
          refine lv_iload_n C.1 C.2.1 dTr_isCovered_29 rfl (lv_at hl 4 rfl) ?_
          refine ziald C hW 8 0 rfl rfl (by omega) (by omega) (by decide) dTr_isCovered_30 ?_
          have hb2 := bZ g
          refine zicmp_ge (tgt := 80) C (by omega) (by omega) dTr_isCovered_31 (by decide) (fun c31 => ?_) (fun c31 => ?_)
          · refine lv_iinc (v := zI (i + 1)) (lv' := [(8, .int (zI (i + 1))), (7, .int (zI 1)), (0, .ref o0), (1, .ref r0), (2, .int (zI g)), (3, .int (zI 0)), (4, .int (zI y)), (5, .int (zI be)), (6, .int (zI en))]) C.1 C.2.1 dTr_isCovered_80 hl (k := 0) rfl (zI_add i 1) (by decide) rfl (fun ls hl => ?_)
            refine lv_goto (tgt := 9) C.1 C.2.1 dTr_isCovered_83 (by decide) ?_
            exact ih9 (i + 1) (by omega) (by omega) (by omega) (anyZ_n hi0 hP (Bool.and_eq_false_iff.mpr (by first | exact Or.inr ((bz_eq0 _).mpr (by omega)) | exact Or.inl (decide_eq_false (by simp only [sel2, owy]; simp; omega))))) ls H locs (lv_sub hl [0, 1, 2, 3, 4, 5, 6, 7, 8] rfl) hW
          · refine lv_aload_n C.1 C.2.1 dTr_isCovered_34 rfl (lv_at hl 3 rfl) ?_
            refine zget C hW 1 0 rfl rfl inRe (by decide) flTr_67 rfl dTr_isCovered_35 ?_
            refine lv_iload C.1 C.2.1 dTr_isCovered_38 (lv_at hl 1 rfl) ?_
            refine zgald C hW 2 1 (r := f1) rfl rfl rfl (by omega) (by omega) (by decide) rfl dTr_isCovered_40 ?_
            refine lv_iload C.1 C.2.1 dTr_isCovered_41 (lv_at hl 0 rfl) ?_
            refine ziald C hW 5 0 rfl rfl (by omega) (by omega) (by decide) dTr_isCovered_43 ?_
            have hb3 := bFb i
            refine lv_iload C.1 C.2.1 dTr_isCovered_44 (lv_at hl 6 rfl) ?_
            refine zicmp_ge (tgt := 80) C (by omega) (by omega) dTr_isCovered_46 (by decide) (fun c46 => ?_) (fun c46 => ?_)
            · refine lv_iinc (v := zI (i + 1)) (lv' := [(8, .int (zI (i + 1))), (7, .int (zI 1)), (0, .ref o0), (1, .ref r0), (2, .int (zI g)), (3, .int (zI 0)), (4, .int (zI y)), (5, .int (zI be)), (6, .int (zI en))]) C.1 C.2.1 dTr_isCovered_80 hl (k := 0) rfl (zI_add i 1) (by decide) rfl (fun ls hl => ?_)
              refine lv_goto (tgt := 9) C.1 C.2.1 dTr_isCovered_83 (by decide) ?_
              exact ih9 (i + 1) (by omega) (by omega) (by omega) (anyZ_n hi0 hP (Bool.and_eq_false_iff.mpr (by first | exact Or.inr ((bz_eq0 _).mpr (by omega)) | exact Or.inl (decide_eq_false (by simp only [sel2, owy]; simp; omega))))) ls H locs (lv_sub hl [0, 1, 2, 3, 4, 5, 6, 7, 8] rfl) hW
            · refine lv_iload C.1 C.2.1 dTr_isCovered_49 (lv_at hl 6 rfl) ?_
              refine lv_aload_n C.1 C.2.1 dTr_isCovered_51 rfl (lv_at hl 3 rfl) ?_
              refine zget C hW 1 1 rfl rfl inRe (by decide) flTr_71 rfl dTr_isCovered_52 ?_
              refine lv_iload C.1 C.2.1 dTr_isCovered_55 (lv_at hl 1 rfl) ?_
              refine zgald C hW 3 1 (r := t1) rfl rfl rfl (by omega) (by omega) (by decide) rfl dTr_isCovered_57 ?_
              refine lv_iload C.1 C.2.1 dTr_isCovered_58 (lv_at hl 0 rfl) ?_
              refine ziald C hW 7 0 rfl rfl (by omega) (by omega) (by decide) dTr_isCovered_60 ?_
              have hb4 := bTb i
              refine zicmp_ge (tgt := 80) C (by omega) (by omega) dTr_isCovered_61 (by decide) (fun c61 => ?_) (fun c61 => ?_)
              · refine lv_iinc (v := zI (i + 1)) (lv' := [(8, .int (zI (i + 1))), (7, .int (zI 1)), (0, .ref o0), (1, .ref r0), (2, .int (zI g)), (3, .int (zI 0)), (4, .int (zI y)), (5, .int (zI be)), (6, .int (zI en))]) C.1 C.2.1 dTr_isCovered_80 hl (k := 0) rfl (zI_add i 1) (by decide) rfl (fun ls hl => ?_)
                refine lv_goto (tgt := 9) C.1 C.2.1 dTr_isCovered_83 (by decide) ?_
                exact ih9 (i + 1) (by omega) (by omega) (by omega) (anyZ_n hi0 hP (Bool.and_eq_false_iff.mpr (by first | exact Or.inr ((bz_eq0 _).mpr (by omega)) | exact Or.inl (decide_eq_false (by simp only [sel2, owy]; simp; omega))))) ls H locs (lv_sub hl [0, 1, 2, 3, 4, 5, 6, 7, 8] rfl) hW
              · refine lv_aload_n C.1 C.2.1 dTr_isCovered_64 rfl (lv_at hl 3 rfl) ?_
                refine lv_iload C.1 C.2.1 dTr_isCovered_65 (lv_at hl 0 rfl) ?_
                refine lv_iload_n C.1 C.2.1 dTr_isCovered_67 rfl (lv_at hl 5 rfl) ?_
                refine lv_iload C.1 C.2.1 dTr_isCovered_68 (lv_at hl 7 rfl) ?_
                refine lv_iload C.1 C.2.1 dTr_isCovered_70 (lv_at hl 8 rfl) ?_
                refine zcalli (wr := [(o0, .inr (8, [.ref li, .ref cu_, .ref ed, .int (zI ec)]))]) C hW [1, 2, 3, 4, 5, 6, 7, 8] [0] rfl rfl (by decide) (by decide) (zRunV (k := 4) (As := [.int (zI i), .int (zI 0), .int (zI be), .int (zI en)]) (rest := []) C hW (c_Rectangles_spans l D cI cG cL cB r0 hf ht hz ca cu f0 f1 t0 t1 rn Fa Fb Ta Tb Z i 0 be en bFa bFb bTa bTb bZ (by omega) (by omega) (by omega) (by omega) (by omega) (by omega) (by omega) H.size) [1, 2, 3, 4, 5, 6, 7, 8] rfl (by decide) kTr_82 (by decide +kernel) ⟨by decide, by decide⟩ 1 rfl rfl rfl hl.1 (Nat.le_of_ble_eq_true rfl) dTr_isCovered_72 ⟨by first | decide | omega, by first | decide | omega⟩) (fun x w H locs hq hW => ?_)
                obtain ⟨rfl, rfl⟩ := hq
                have hW : zw D zCl A s [(o0, .inr (8, [.ref li, .ref cu_, .ref ed, .int (zI ec)])), (r0, .inr (6, [.ref hf, .ref ht, .ref hz, .int (zI rn), .ref ca, .ref cu])), (hf, .inl (cG, 2, .inr (.inr (.inr (.inr (g2 f0 f1)))))), (ht, .inl (cG, 2, .inr (.inr (.inr (.inr (g2 t0 t1)))))), (f0, .inl (cI, 24, .inl (fI Fa))), (f1, .inl (cI, 24, .inl (fI Fb))), (t0, .inl (cI, 24, .inl (fI Ta))), (t1, .inl (cI, 24, .inl (fI Tb))), (hz, .inl (cI, 24, .inl (fI Z)))] H locs := hW
                have hr5 := bz_01 (spZ (sel2 0 Fa Fb) (sel2 0 Ta Tb) i be en)
                refine zif_eq (tgt := 80) C (by omega) dTr_isCovered_75 (by decide) (fun c75 => ?_) (fun c75 => ?_)
                · refine lv_iinc (v := zI (i + 1)) (lv' := [(8, .int (zI (i + 1))), (7, .int (zI 1)), (0, .ref o0), (1, .ref r0), (2, .int (zI g)), (3, .int (zI 0)), (4, .int (zI y)), (5, .int (zI be)), (6, .int (zI en))]) C.1 C.2.1 dTr_isCovered_80 hl (k := 0) rfl (zI_add i 1) (by decide) rfl (fun ls hl => ?_)
                  refine lv_goto (tgt := 9) C.1 C.2.1 dTr_isCovered_83 (by decide) ?_
                  exact ih9 (i + 1) (by omega) (by omega) (by omega) (anyZ_n hi0 hP (Bool.and_eq_false_iff.mpr (by first | exact Or.inr ((bz_eq0 _).mpr (by omega)) | exact Or.inl (decide_eq_false (by simp only [sel2, owy]; simp; omega))))) ls H locs (lv_sub hl [0, 1, 2, 3, 4, 5, 6, 7, 8] rfl) hW
                · refine lv_iconst (v := zI 1) C.1 C.2.1 dTr_isCovered_78 (by decide) ?_
                  exact hQ (zI 1) _ H locs _ _ _ ls hW (by decide) ⟨congrArg zI (by rw [anyZ_t hi0 (by omega) (Bool.and_eq_true_iff.mpr ⟨decide_eq_true (by simp only [sel2, owy]; simp; omega), (bz_eq1 _).mpr (by omega)⟩)]; rfl), rfl⟩ (by omega) (by omega) dTr_isCovered_79
    exact L9 _ 0 (Nat.lt_succ_self _) (by omega) (by omega) (anyZ_0 _) ls H locs (lv_sub hl [0, 1, 2, 3, 4, 5, 6, 7, 8] rfl) hW
  · refine zBz (by decide) (Nat.le_of_ble_eq_true rfl) ?_
    intro p e s m args below meth c ls A H locs Q C hin hl hW hQ
    have hl : lv_has ls 9 [(0, .ref o0), (1, .ref r0), (2, .int (zI g)), (3, .int (zI 1)), (4, .int (zI y)), (5, .int (zI be)), (6, .int (zI en))] := hl
    refine lv_iload_n C.1 C.2.1 dTr_isCovered_0 rfl (lv_at hl 3 rfl) ?_
    refine zcalli (wr := [(o0, .inr (8, [.ref li, .ref cu_, .ref ed, .int (zI ec)])), (r0, .inr (6, [.ref hf, .ref ht, .ref hz, .int (zI rn), .ref ca, .ref cu])), (hf, .inl (cG, 2, .inr (.inr (.inr (.inr (g2 f0 f1)))))), (ht, .inl (cG, 2, .inr (.inr (.inr (.inr (g2 t0 t1)))))), (f0, .inl (cI, 24, .inl (fI Fa))), (f1, .inl (cI, 24, .inl (fI Fb))), (t0, .inl (cI, 24, .inl (fI Ta))), (t1, .inl (cI, 24, .inl (fI Tb))), (hz, .inl (cI, 24, .inl (fI Z)))]) C hW [] [0, 1, 2, 3, 4, 5, 6, 7, 8] rfl rfl (by decide) (by decide) (zRunS (k := 1) (As := [.int (zI 1)]) (rest := []) C hW (c_Tracer_otherWay l D cI cG cL cB 1 (by omega) H.size) [] rfl (by decide) kTr_38 (by decide +kernel) ⟨by decide, by decide⟩ rfl hl.1 (Nat.le_of_ble_eq_true rfl) dTr_isCovered_1 ⟨by first | decide | omega, by first | decide | omega⟩) (fun x w H locs hq hW => ?_)
    obtain ⟨rfl, rfl⟩ := hq
    have hW : zw D zCl A s [(o0, .inr (8, [.ref li, .ref cu_, .ref ed, .int (zI ec)])), (r0, .inr (6, [.ref hf, .ref ht, .ref hz, .int (zI rn), .ref ca, .ref cu])), (hf, .inl (cG, 2, .inr (.inr (.inr (.inr (g2 f0 f1)))))), (ht, .inl (cG, 2, .inr (.inr (.inr (.inr (g2 t0 t1)))))), (f0, .inl (cI, 24, .inl (fI Fa))), (f1, .inl (cI, 24, .inl (fI Fb))), (t0, .inl (cI, 24, .inl (fI Ta))), (t1, .inl (cI, 24, .inl (fI Tb))), (hz, .inl (cI, 24, .inl (fI Z)))] H locs := hW
    refine lv_istore (lv' := [(7, .int (zI 0)), (0, .ref o0), (1, .ref r0), (2, .int (zI g)), (3, .int (zI 1)), (4, .int (zI y)), (5, .int (zI be)), (6, .int (zI en))]) C.1 C.2.1 dTr_isCovered_4 hl (by decide) rfl (fun ls hl => ?_)
    refine lv_iconst (v := zI 0) C.1 C.2.1 dTr_isCovered_6 (by decide) ?_
    refine lv_istore (lv' := [(8, .int (zI 0)), (7, .int (zI 0)), (0, .ref o0), (1, .ref r0), (2, .int (zI g)), (3, .int (zI 1)), (4, .int (zI y)), (5, .int (zI be)), (6, .int (zI en))]) C.1 C.2.1 dTr_isCovered_7 hl (by decide) rfl (fun ls hl => ?_)
    have L9 : ∀ (N : Nat) (i : Int), (rn - i).toNat < N → (0 ≤ i) → (i ≤ rn) → (anyZ (covP (sel2 1 Fa Fb) (sel2 1 Ta Tb) (sel2 (owy 1) Fa Fb) (sel2 (owy 1) Ta Tb) Z (Z g) y be en) i = false) → ∀ (ls : Array Slot) (H : Heap) (locs : List Loc), lv_has ls 9 [(8, .int (zI i)), (7, .int (zI 0)), (0, .ref o0), (1, .ref r0), (2, .int (zI g)), (3, .int (zI 1)), (4, .int (zI y)), (5, .int (zI be)), (6, .int (zI en))] → zw D zCl A s [(o0, .inr (8, [.ref li, .ref cu_, .ref ed, .int (zI ec)])), (r0, .inr (6, [.ref hf, .ref ht, .ref hz, .int (zI rn), .ref ca, .ref cu])), (hf, .inl (cG, 2, .inr (.inr (.inr (.inr (g2 f0 f1)))))), (ht, .inl (cG, 2, .inr (.inr (.inr (.inr (g2 t0 t1)))))), (f0, .inl (cI, 24, .inl (fI Fa))), (f1, .inl (cI, 24, .inl (fI Fb))), (t0, .inl (cI, 24, .inl (fI Ta))), (t1, .inl (cI, 24, .inl (fI Tb))), (hz, .inl (cI, 24, .inl (fI Z)))] H locs → W p l e (zr 1 0 0) s m args below meth c H locs 0 0 Q (F0 m 9 ls []) := by
      intro N
      induction N with
      | zero => intro i hm; exact absurd hm (Nat.not_lt_zero _)
      | succ N ih9 =>
        intro i hm9 hi0 hi1 hP ls H locs hl hW
        refine lv_iload C.1 C.2.1 dTr_isCovered_9 (lv_at hl 0 rfl) ?_
        refine lv_aload_n C.1 C.2.1 dTr_isCovered_11 rfl (lv_at hl 3 rfl) ?_
        refine zget C hW 1 3 rfl rfl inRe (by decide) flTr_64 rfl dTr_isCovered_12 ?_
        refine zicmp_ge (tgt := 86) C (by omega) (by omega) dTr_isCovered_15 (by decide) (fun c15 => ?_) (fun c15 => ?_)
        · refine lv_iconst (v := zI 0) C.1 C.2.1 dTr_isCovered_86 (by decide) ?_
          exact hQ (zI 0) _ H locs _ _ _ ls hW (by decide) ⟨congrArg zI (by rw [show i = rn by omega] at hP; rw [hP]; rfl), rfl⟩ (by omega) (by omega) dTr_isCovered_87
        · refine lv_aload_n C.1 C.2.1 dTr_isCovered_18 rfl (lv_at hl 3 rfl) ?_
          refine zget C hW 1 2 rfl rfl inRe (by decide) flTr_90 rfl dTr_isCovered_19 ?_
          refine lv_iload C.1 C.2.1 dTr_isCovered_22 (lv_at hl 0 rfl) ?_
          refine ziald C hW 8 0 rfl rfl (by omega) (by omega) (by decide) dTr_isCovered_24 ?_
          have hb1 := bZ i
          refine lv_aload_n C.1 C.2.1 dTr_isCovered_25 rfl (lv_at hl 3 rfl) ?_
          refine zget C hW 1 2 rfl rfl inRe (by decide) flTr_90 rfl dTr_isCovered_26 ?_
          refine lv_iload_n C.1 C.2.1 dTr_isCovered_29 rfl (lv_at hl 4 rfl) ?_
          refine ziald C hW 8 0 rfl rfl (by omega) (by omega) (by decide) dTr_isCovered_30 ?_
          have hb2 := bZ g
          refine zicmp_ge (tgt := 80) C (by omega) (by omega) dTr_isCovered_31 (by decide) (fun c31 => ?_) (fun c31 => ?_)
          · refine lv_iinc (v := zI (i + 1)) (lv' := [(8, .int (zI (i + 1))), (7, .int (zI 0)), (0, .ref o0), (1, .ref r0), (2, .int (zI g)), (3, .int (zI 1)), (4, .int (zI y)), (5, .int (zI be)), (6, .int (zI en))]) C.1 C.2.1 dTr_isCovered_80 hl (k := 0) rfl (zI_add i 1) (by decide) rfl (fun ls hl => ?_)
            refine lv_goto (tgt := 9) C.1 C.2.1 dTr_isCovered_83 (by decide) ?_
            exact ih9 (i + 1) (by omega) (by omega) (by omega) (anyZ_n hi0 hP (Bool.and_eq_false_iff.mpr (by first | exact Or.inr ((bz_eq0 _).mpr (by omega)) | exact Or.inl (decide_eq_false (by simp only [sel2, owy]; simp; omega))))) ls H locs (lv_sub hl [0, 1, 2, 3, 4, 5, 6, 7, 8] rfl) hW
          · refine lv_aload_n C.1 C.2.1 dTr_isCovered_34 rfl (lv_at hl 3 rfl) ?_
            refine zget C hW 1 0 rfl rfl inRe (by decide) flTr_67 rfl dTr_isCovered_35 ?_
            refine lv_iload C.1 C.2.1 dTr_isCovered_38 (lv_at hl 1 rfl) ?_
            refine zgald C hW 2 1 (r := f0) rfl rfl rfl (by omega) (by omega) (by decide) rfl dTr_isCovered_40 ?_
            refine lv_iload C.1 C.2.1 dTr_isCovered_41 (lv_at hl 0 rfl) ?_
            refine ziald C hW 4 0 rfl rfl (by omega) (by omega) (by decide) dTr_isCovered_43 ?_
            have hb3 := bFa i
            refine lv_iload C.1 C.2.1 dTr_isCovered_44 (lv_at hl 6 rfl) ?_
            refine zicmp_ge (tgt := 80) C (by omega) (by omega) dTr_isCovered_46 (by decide) (fun c46 => ?_) (fun c46 => ?_)
            · refine lv_iinc (v := zI (i + 1)) (lv' := [(8, .int (zI (i + 1))), (7, .int (zI 0)), (0, .ref o0), (1, .ref r0), (2, .int (zI g)), (3, .int (zI 1)), (4, .int (zI y)), (5, .int (zI be)), (6, .int (zI en))]) C.1 C.2.1 dTr_isCovered_80 hl (k := 0) rfl (zI_add i 1) (by decide) rfl (fun ls hl => ?_)
              refine lv_goto (tgt := 9) C.1 C.2.1 dTr_isCovered_83 (by decide) ?_
              exact ih9 (i + 1) (by omega) (by omega) (by omega) (anyZ_n hi0 hP (Bool.and_eq_false_iff.mpr (by first | exact Or.inr ((bz_eq0 _).mpr (by omega)) | exact Or.inl (decide_eq_false (by simp only [sel2, owy]; simp; omega))))) ls H locs (lv_sub hl [0, 1, 2, 3, 4, 5, 6, 7, 8] rfl) hW
            · refine lv_iload C.1 C.2.1 dTr_isCovered_49 (lv_at hl 6 rfl) ?_
              refine lv_aload_n C.1 C.2.1 dTr_isCovered_51 rfl (lv_at hl 3 rfl) ?_
              refine zget C hW 1 1 rfl rfl inRe (by decide) flTr_71 rfl dTr_isCovered_52 ?_
              refine lv_iload C.1 C.2.1 dTr_isCovered_55 (lv_at hl 1 rfl) ?_
              refine zgald C hW 3 1 (r := t0) rfl rfl rfl (by omega) (by omega) (by decide) rfl dTr_isCovered_57 ?_
              refine lv_iload C.1 C.2.1 dTr_isCovered_58 (lv_at hl 0 rfl) ?_
              refine ziald C hW 6 0 rfl rfl (by omega) (by omega) (by decide) dTr_isCovered_60 ?_
              have hb4 := bTa i
              refine zicmp_ge (tgt := 80) C (by omega) (by omega) dTr_isCovered_61 (by decide) (fun c61 => ?_) (fun c61 => ?_)
              · refine lv_iinc (v := zI (i + 1)) (lv' := [(8, .int (zI (i + 1))), (7, .int (zI 0)), (0, .ref o0), (1, .ref r0), (2, .int (zI g)), (3, .int (zI 1)), (4, .int (zI y)), (5, .int (zI be)), (6, .int (zI en))]) C.1 C.2.1 dTr_isCovered_80 hl (k := 0) rfl (zI_add i 1) (by decide) rfl (fun ls hl => ?_)
                refine lv_goto (tgt := 9) C.1 C.2.1 dTr_isCovered_83 (by decide) ?_
                exact ih9 (i + 1) (by omega) (by omega) (by omega) (anyZ_n hi0 hP (Bool.and_eq_false_iff.mpr (by first | exact Or.inr ((bz_eq0 _).mpr (by omega)) | exact Or.inl (decide_eq_false (by simp only [sel2, owy]; simp; omega))))) ls H locs (lv_sub hl [0, 1, 2, 3, 4, 5, 6, 7, 8] rfl) hW
              · refine lv_aload_n C.1 C.2.1 dTr_isCovered_64 rfl (lv_at hl 3 rfl) ?_
                refine lv_iload C.1 C.2.1 dTr_isCovered_65 (lv_at hl 0 rfl) ?_
                refine lv_iload_n C.1 C.2.1 dTr_isCovered_67 rfl (lv_at hl 5 rfl) ?_
                refine lv_iload C.1 C.2.1 dTr_isCovered_68 (lv_at hl 7 rfl) ?_
                refine lv_iload C.1 C.2.1 dTr_isCovered_70 (lv_at hl 8 rfl) ?_
                refine zcalli (wr := [(o0, .inr (8, [.ref li, .ref cu_, .ref ed, .int (zI ec)]))]) C hW [1, 2, 3, 4, 5, 6, 7, 8] [0] rfl rfl (by decide) (by decide) (zRunV (k := 4) (As := [.int (zI i), .int (zI 1), .int (zI be), .int (zI en)]) (rest := []) C hW (c_Rectangles_spans l D cI cG cL cB r0 hf ht hz ca cu f0 f1 t0 t1 rn Fa Fb Ta Tb Z i 1 be en bFa bFb bTa bTb bZ (by omega) (by omega) (by omega) (by omega) (by omega) (by omega) (by omega) H.size) [1, 2, 3, 4, 5, 6, 7, 8] rfl (by decide) kTr_82 (by decide +kernel) ⟨by decide, by decide⟩ 1 rfl rfl rfl hl.1 (Nat.le_of_ble_eq_true rfl) dTr_isCovered_72 ⟨by first | decide | omega, by first | decide | omega⟩) (fun x w H locs hq hW => ?_)
                obtain ⟨rfl, rfl⟩ := hq
                have hW : zw D zCl A s [(o0, .inr (8, [.ref li, .ref cu_, .ref ed, .int (zI ec)])), (r0, .inr (6, [.ref hf, .ref ht, .ref hz, .int (zI rn), .ref ca, .ref cu])), (hf, .inl (cG, 2, .inr (.inr (.inr (.inr (g2 f0 f1)))))), (ht, .inl (cG, 2, .inr (.inr (.inr (.inr (g2 t0 t1)))))), (f0, .inl (cI, 24, .inl (fI Fa))), (f1, .inl (cI, 24, .inl (fI Fb))), (t0, .inl (cI, 24, .inl (fI Ta))), (t1, .inl (cI, 24, .inl (fI Tb))), (hz, .inl (cI, 24, .inl (fI Z)))] H locs := hW
                have hr5 := bz_01 (spZ (sel2 1 Fa Fb) (sel2 1 Ta Tb) i be en)
                refine zif_eq (tgt := 80) C (by omega) dTr_isCovered_75 (by decide) (fun c75 => ?_) (fun c75 => ?_)
                · refine lv_iinc (v := zI (i + 1)) (lv' := [(8, .int (zI (i + 1))), (7, .int (zI 0)), (0, .ref o0), (1, .ref r0), (2, .int (zI g)), (3, .int (zI 1)), (4, .int (zI y)), (5, .int (zI be)), (6, .int (zI en))]) C.1 C.2.1 dTr_isCovered_80 hl (k := 0) rfl (zI_add i 1) (by decide) rfl (fun ls hl => ?_)
                  refine lv_goto (tgt := 9) C.1 C.2.1 dTr_isCovered_83 (by decide) ?_
                  exact ih9 (i + 1) (by omega) (by omega) (by omega) (anyZ_n hi0 hP (Bool.and_eq_false_iff.mpr (by first | exact Or.inr ((bz_eq0 _).mpr (by omega)) | exact Or.inl (decide_eq_false (by simp only [sel2, owy]; simp; omega))))) ls H locs (lv_sub hl [0, 1, 2, 3, 4, 5, 6, 7, 8] rfl) hW
                · refine lv_iconst (v := zI 1) C.1 C.2.1 dTr_isCovered_78 (by decide) ?_
                  exact hQ (zI 1) _ H locs _ _ _ ls hW (by decide) ⟨congrArg zI (by rw [anyZ_t hi0 (by omega) (Bool.and_eq_true_iff.mpr ⟨decide_eq_true (by simp only [sel2, owy]; simp; omega), (bz_eq1 _).mpr (by omega)⟩)]; rfl), rfl⟩ (by omega) (by omega) dTr_isCovered_79
    exact L9 _ 0 (Nat.lt_succ_self _) (by omega) (by omega) (anyZ_0 _) ls H locs (lv_sub hl [0, 1, 2, 3, 4, 5, 6, 7, 8] rfl) hW
