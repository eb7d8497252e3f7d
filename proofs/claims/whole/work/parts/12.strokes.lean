theorem dSk_init_0 : decode cSk_init 0 = .ok (.aload_n 0, 1) := by decide +kernel
theorem dSk_init_1 : decode cSk_init 1 = .ok (.invokespecial 3, 3) := by decide +kernel
theorem dSk_init_4 : decode cSk_init 4 = .ok (.aload_n 0, 1) := by decide +kernel
theorem dSk_init_5 : decode cSk_init 5 = .ok (.sipush 1200, 3) := by decide +kernel
theorem dSk_init_8 : decode cSk_init 8 = .ok (.newarray .int, 2) := by decide +kernel
theorem dSk_init_10 : decode cSk_init 10 = .ok (.putfield 9, 3) := by decide +kernel
theorem dSk_init_13 : decode cSk_init 13 = .ok (.aload_n 0, 1) := by decide +kernel
theorem dSk_init_14 : decode cSk_init 14 = .ok (.sipush 1200, 3) := by decide +kernel
theorem dSk_init_17 : decode cSk_init 17 = .ok (.newarray .int, 2) := by decide +kernel
theorem dSk_init_19 : decode cSk_init 19 = .ok (.putfield 15, 3) := by decide +kernel
theorem dSk_init_22 : decode cSk_init 22 = .ok (.aload_n 0, 1) := by decide +kernel
theorem dSk_init_23 : decode cSk_init 23 = .ok (.sipush 1200, 3) := by decide +kernel
theorem dSk_init_26 : decode cSk_init 26 = .ok (.newarray .int, 2) := by decide +kernel
theorem dSk_init_28 : decode cSk_init 28 = .ok (.putfield 18, 3) := by decide +kernel
theorem dSk_init_31 : decode cSk_init 31 = .ok (.aload_n 0, 1) := by decide +kernel
theorem dSk_init_32 : decode cSk_init 32 = .ok (.sipush 1200, 3) := by decide +kernel
theorem dSk_init_35 : decode cSk_init 35 = .ok (.newarray .int, 2) := by decide +kernel
theorem dSk_init_37 : decode cSk_init 37 = .ok (.putfield 21, 3) := by decide +kernel
theorem dSk_init_40 : decode cSk_init 40 = .ok (.return_, 1) := by decide +kernel
theorem dSk_clear_0 : decode cSk_clear 0 = .ok (.aload_n 0, 1) := by decide +kernel
theorem dSk_clear_1 : decode cSk_clear 1 = .ok (.iconst 0, 1) := by decide +kernel
theorem dSk_clear_2 : decode cSk_clear 2 = .ok (.putfield 24, 3) := by decide +kernel
theorem dSk_clear_5 : decode cSk_clear 5 = .ok (.aload_n 0, 1) := by decide +kernel
theorem dSk_clear_6 : decode cSk_clear 6 = .ok (.iconst 0, 1) := by decide +kernel
theorem dSk_clear_7 : decode cSk_clear 7 = .ok (.putfield 28, 3) := by decide +kernel
theorem dSk_clear_10 : decode cSk_clear 10 = .ok (.return_, 1) := by decide +kernel
theorem dSk_add_0 : decode cSk_add 0 = .ok (.aload_n 0, 1) := by decide +kernel
theorem dSk_add_1 : decode cSk_add 1 = .ok (.getfield 24, 3) := by decide +kernel
theorem dSk_add_4 : decode cSk_add 4 = .ok (.sipush 1200, 3) := by decide +kernel
theorem dSk_add_7 : decode cSk_add 7 = .ok (.if_icmp .lt 4, 3) := by decide +kernel
theorem dSk_add_10 : decode cSk_add 10 = .ok (.return_, 1) := by decide +kernel
theorem dSk_add_11 : decode cSk_add 11 = .ok (.aload_n 0, 1) := by decide +kernel
theorem dSk_add_12 : decode cSk_add 12 = .ok (.getfield 9, 3) := by decide +kernel
theorem dSk_add_15 : decode cSk_add 15 = .ok (.aload_n 0, 1) := by decide +kernel
theorem dSk_add_16 : decode cSk_add 16 = .ok (.getfield 24, 3) := by decide +kernel
theorem dSk_add_19 : decode cSk_add 19 = .ok (.iload_n 2, 1) := by decide +kernel
theorem dSk_add_20 : decode cSk_add 20 = .ok (.iastore, 1) := by decide +kernel
theorem dSk_add_21 : decode cSk_add 21 = .ok (.aload_n 0, 1) := by decide +kernel
theorem dSk_add_22 : decode cSk_add 22 = .ok (.getfield 15, 3) := by decide +kernel
theorem dSk_add_25 : decode cSk_add 25 = .ok (.aload_n 0, 1) := by decide +kernel
theorem dSk_add_26 : decode cSk_add 26 = .ok (.getfield 24, 3) := by decide +kernel
theorem dSk_add_29 : decode cSk_add 29 = .ok (.iload_n 3, 1) := by decide +kernel
theorem dSk_add_30 : decode cSk_add 30 = .ok (.iastore, 1) := by decide +kernel
theorem dSk_add_31 : decode cSk_add 31 = .ok (.aload_n 0, 1) := by decide +kernel
theorem dSk_add_32 : decode cSk_add 32 = .ok (.getfield 18, 3) := by decide +kernel
theorem dSk_add_35 : decode cSk_add 35 = .ok (.aload_n 0, 1) := by decide +kernel
theorem dSk_add_36 : decode cSk_add 36 = .ok (.getfield 24, 3) := by decide +kernel
theorem dSk_add_39 : decode cSk_add 39 = .ok (.iload 4, 2) := by decide +kernel
theorem dSk_add_41 : decode cSk_add 41 = .ok (.iastore, 1) := by decide +kernel
theorem dSk_add_42 : decode cSk_add 42 = .ok (.aload_n 0, 1) := by decide +kernel
theorem dSk_add_43 : decode cSk_add 43 = .ok (.getfield 21, 3) := by decide +kernel
theorem dSk_add_46 : decode cSk_add 46 = .ok (.aload_n 0, 1) := by decide +kernel
theorem dSk_add_47 : decode cSk_add 47 = .ok (.getfield 24, 3) := by decide +kernel
theorem dSk_add_50 : decode cSk_add 50 = .ok (.iload 5, 2) := by decide +kernel
theorem dSk_add_52 : decode cSk_add 52 = .ok (.iastore, 1) := by decide +kernel
theorem dSk_add_53 : decode cSk_add 53 = .ok (.aload_n 0, 1) := by decide +kernel
theorem dSk_add_54 : decode cSk_add 54 = .ok (.dup, 1) := by decide +kernel
theorem dSk_add_55 : decode cSk_add 55 = .ok (.getfield 24, 3) := by decide +kernel
theorem dSk_add_58 : decode cSk_add 58 = .ok (.iconst 1, 1) := by decide +kernel
theorem dSk_add_59 : decode cSk_add 59 = .ok (.iadd, 1) := by decide +kernel
theorem dSk_add_60 : decode cSk_add 60 = .ok (.putfield 24, 3) := by decide +kernel
theorem dSk_add_63 : decode cSk_add 63 = .ok (.iload_n 1, 1) := by decide +kernel
theorem dSk_add_64 : decode cSk_add 64 = .ok (.ifCond .ne 11, 3) := by decide +kernel
theorem dSk_add_67 : decode cSk_add 67 = .ok (.aload_n 0, 1) := by decide +kernel
theorem dSk_add_68 : decode cSk_add 68 = .ok (.aload_n 0, 1) := by decide +kernel
theorem dSk_add_69 : decode cSk_add 69 = .ok (.getfield 24, 3) := by decide +kernel
theorem dSk_add_72 : decode cSk_add 72 = .ok (.putfield 28, 3) := by decide +kernel
theorem dSk_add_75 : decode cSk_add 75 = .ok (.return_, 1) := by decide +kernel
theorem dSk_number_0 : decode cSk_number 0 = .ok (.iload_n 2, 1) := by decide +kernel
theorem dSk_number_1 : decode cSk_number 1 = .ok (.tableswitch 62 0 3 #[31, 38, 46, 54], 31) := by decide +kernel
theorem dSk_number_32 : decode cSk_number 32 = .ok (.aload_n 0, 1) := by decide +kernel
theorem dSk_number_33 : decode cSk_number 33 = .ok (.iload_n 1, 1) := by decide +kernel
theorem dSk_number_34 : decode cSk_number 34 = .ok (.invokevirtual 41, 3) := by decide +kernel
theorem dSk_number_37 : decode cSk_number 37 = .ok (.i2l, 1) := by decide +kernel
theorem dSk_number_38 : decode cSk_number 38 = .ok (.lreturn, 1) := by decide +kernel
theorem dSk_number_39 : decode cSk_number 39 = .ok (.aload_n 0, 1) := by decide +kernel
theorem dSk_number_40 : decode cSk_number 40 = .ok (.getfield 9, 3) := by decide +kernel
theorem dSk_number_43 : decode cSk_number 43 = .ok (.iload_n 1, 1) := by decide +kernel
theorem dSk_number_44 : decode cSk_number 44 = .ok (.iaload, 1) := by decide +kernel
theorem dSk_number_45 : decode cSk_number 45 = .ok (.i2l, 1) := by decide +kernel
theorem dSk_number_46 : decode cSk_number 46 = .ok (.lreturn, 1) := by decide +kernel
theorem dSk_number_47 : decode cSk_number 47 = .ok (.aload_n 0, 1) := by decide +kernel
theorem dSk_number_48 : decode cSk_number 48 = .ok (.getfield 15, 3) := by decide +kernel
theorem dSk_number_51 : decode cSk_number 51 = .ok (.iload_n 1, 1) := by decide +kernel
theorem dSk_number_52 : decode cSk_number 52 = .ok (.iaload, 1) := by decide +kernel
theorem dSk_number_53 : decode cSk_number 53 = .ok (.i2l, 1) := by decide +kernel
theorem dSk_number_54 : decode cSk_number 54 = .ok (.lreturn, 1) := by decide +kernel
theorem dSk_number_55 : decode cSk_number 55 = .ok (.aload_n 0, 1) := by decide +kernel
theorem dSk_number_56 : decode cSk_number 56 = .ok (.getfield 18, 3) := by decide +kernel
theorem dSk_number_59 : decode cSk_number 59 = .ok (.iload_n 1, 1) := by decide +kernel
theorem dSk_number_60 : decode cSk_number 60 = .ok (.iaload, 1) := by decide +kernel
theorem dSk_number_61 : decode cSk_number 61 = .ok (.i2l, 1) := by decide +kernel
theorem dSk_number_62 : decode cSk_number 62 = .ok (.lreturn, 1) := by decide +kernel
theorem dSk_number_63 : decode cSk_number 63 = .ok (.aload_n 0, 1) := by decide +kernel
theorem dSk_number_64 : decode cSk_number 64 = .ok (.getfield 21, 3) := by decide +kernel
theorem dSk_number_67 : decode cSk_number 67 = .ok (.iload_n 1, 1) := by decide +kernel
theorem dSk_number_68 : decode cSk_number 68 = .ok (.iaload, 1) := by decide +kernel
theorem dSk_number_69 : decode cSk_number 69 = .ok (.i2l, 1) := by decide +kernel
theorem dSk_number_70 : decode cSk_number 70 = .ok (.lreturn, 1) := by decide +kernel
theorem dSk_wayOf_0 : decode cSk_wayOf 0 = .ok (.iload_n 1, 1) := by decide +kernel
theorem dSk_wayOf_1 : decode cSk_wayOf 1 = .ok (.aload_n 0, 1) := by decide +kernel
theorem dSk_wayOf_2 : decode cSk_wayOf 2 = .ok (.getfield 28, 3) := by decide +kernel
theorem dSk_wayOf_5 : decode cSk_wayOf 5 = .ok (.if_icmp .ge 7, 3) := by decide +kernel
theorem dSk_wayOf_8 : decode cSk_wayOf 8 = .ok (.iconst 0, 1) := by decide +kernel
theorem dSk_wayOf_9 : decode cSk_wayOf 9 = .ok (.goto 4, 3) := by decide +kernel
theorem dSk_wayOf_12 : decode cSk_wayOf 12 = .ok (.iconst 1, 1) := by decide +kernel
theorem dSk_wayOf_13 : decode cSk_wayOf 13 = .ok (.ireturn, 1) := by decide +kernel
theorem dSk_stateAt_0 : decode cSk_stateAt 0 = .ok (.iconst 2, 1) := by decide +kernel
theorem dSk_stateAt_1 : decode cSk_stateAt 1 = .ok (.istore 6, 2) := by decide +kernel
theorem dSk_stateAt_3 : decode cSk_stateAt 3 = .ok (.iconst 0, 1) := by decide +kernel
theorem dSk_stateAt_4 : decode cSk_stateAt 4 = .ok (.istore 7, 2) := by decide +kernel
theorem dSk_stateAt_6 : decode cSk_stateAt 6 = .ok (.iload 7, 2) := by decide +kernel
theorem dSk_stateAt_8 : decode cSk_stateAt 8 = .ok (.aload_n 0, 1) := by decide +kernel
theorem dSk_stateAt_9 : decode cSk_stateAt 9 = .ok (.getfield 24, 3) := by decide +kernel
theorem dSk_stateAt_12 : decode cSk_stateAt 12 = .ok (.if_icmp .ge 74, 3) := by decide +kernel
theorem dSk_stateAt_15 : decode cSk_stateAt 15 = .ok (.aload_n 0, 1) := by decide +kernel
theorem dSk_stateAt_16 : decode cSk_stateAt 16 = .ok (.iload 7, 2) := by decide +kernel
theorem dSk_stateAt_18 : decode cSk_stateAt 18 = .ok (.invokevirtual 41, 3) := by decide +kernel
theorem dSk_stateAt_21 : decode cSk_stateAt 21 = .ok (.iload_n 1, 1) := by decide +kernel
theorem dSk_stateAt_22 : decode cSk_stateAt 22 = .ok (.if_icmp .ne 58, 3) := by decide +kernel
theorem dSk_stateAt_25 : decode cSk_stateAt 25 = .ok (.aload_n 0, 1) := by decide +kernel
theorem dSk_stateAt_26 : decode cSk_stateAt 26 = .ok (.getfield 9, 3) := by decide +kernel
theorem dSk_stateAt_29 : decode cSk_stateAt 29 = .ok (.iload 7, 2) := by decide +kernel
theorem dSk_stateAt_31 : decode cSk_stateAt 31 = .ok (.iaload, 1) := by decide +kernel
theorem dSk_stateAt_32 : decode cSk_stateAt 32 = .ok (.i2l, 1) := by decide +kernel
theorem dSk_stateAt_33 : decode cSk_stateAt 33 = .ok (.lload_n 2, 1) := by decide +kernel
theorem dSk_stateAt_34 : decode cSk_stateAt 34 = .ok (.lcmp, 1) := by decide +kernel
theorem dSk_stateAt_35 : decode cSk_stateAt 35 = .ok (.ifCond .ne 45, 3) := by decide +kernel
theorem dSk_stateAt_38 : decode cSk_stateAt 38 = .ok (.aload_n 0, 1) := by decide +kernel
theorem dSk_stateAt_39 : decode cSk_stateAt 39 = .ok (.getfield 15, 3) := by decide +kernel
theorem dSk_stateAt_42 : decode cSk_stateAt 42 = .ok (.iload 7, 2) := by decide +kernel
theorem dSk_stateAt_44 : decode cSk_stateAt 44 = .ok (.iaload, 1) := by decide +kernel
theorem dSk_stateAt_45 : decode cSk_stateAt 45 = .ok (.i2l, 1) := by decide +kernel
theorem dSk_stateAt_46 : decode cSk_stateAt 46 = .ok (.lload 4, 2) := by decide +kernel
theorem dSk_stateAt_48 : decode cSk_stateAt 48 = .ok (.lcmp, 1) := by decide +kernel
theorem dSk_stateAt_49 : decode cSk_stateAt 49 = .ok (.ifCond .gt 31, 3) := by decide +kernel
theorem dSk_stateAt_52 : decode cSk_stateAt 52 = .ok (.lload 4, 2) := by decide +kernel
theorem dSk_stateAt_54 : decode cSk_stateAt 54 = .ok (.aload_n 0, 1) := by decide +kernel
theorem dSk_stateAt_55 : decode cSk_stateAt 55 = .ok (.getfield 18, 3) := by decide +kernel
theorem dSk_stateAt_58 : decode cSk_stateAt 58 = .ok (.iload 7, 2) := by decide +kernel
theorem dSk_stateAt_60 : decode cSk_stateAt 60 = .ok (.iaload, 1) := by decide +kernel
theorem dSk_stateAt_61 : decode cSk_stateAt 61 = .ok (.i2l, 1) := by decide +kernel
theorem dSk_stateAt_62 : decode cSk_stateAt 62 = .ok (.lcmp, 1) := by decide +kernel
theorem dSk_stateAt_63 : decode cSk_stateAt 63 = .ok (.ifCond .gt 17, 3) := by decide +kernel
theorem dSk_stateAt_66 : decode cSk_stateAt 66 = .ok (.iload 6, 2) := by decide +kernel
theorem dSk_stateAt_68 : decode cSk_stateAt 68 = .ok (.aload_n 0, 1) := by decide +kernel
theorem dSk_stateAt_69 : decode cSk_stateAt 69 = .ok (.getfield 21, 3) := by decide +kernel
theorem dSk_stateAt_72 : decode cSk_stateAt 72 = .ok (.iload 7, 2) := by decide +kernel
theorem dSk_stateAt_74 : decode cSk_stateAt 74 = .ok (.iaload, 1) := by decide +kernel
theorem dSk_stateAt_75 : decode cSk_stateAt 75 = .ok (.invokestatic 45, 3) := by decide +kernel
theorem dSk_stateAt_78 : decode cSk_stateAt 78 = .ok (.istore 6, 2) := by decide +kernel
theorem dSk_stateAt_80 : decode cSk_stateAt 80 = .ok (.iinc 7 1, 3) := by decide +kernel
theorem dSk_stateAt_83 : decode cSk_stateAt 83 = .ok (.goto (-77), 3) := by decide +kernel
theorem dSk_stateAt_86 : decode cSk_stateAt 86 = .ok (.iload 6, 2) := by decide +kernel
theorem dSk_stateAt_88 : decode cSk_stateAt 88 = .ok (.ireturn, 1) := by decide +kernel
theorem dSk_lengthOf_0 : decode cSk_lengthOf 0 = .ok (.lconst 0, 1) := by decide +kernel
theorem dSk_lengthOf_1 : decode cSk_lengthOf 1 = .ok (.lstore_n 2, 1) := by decide +kernel
theorem dSk_lengthOf_2 : decode cSk_lengthOf 2 = .ok (.iconst 0, 1) := by decide +kernel
theorem dSk_lengthOf_3 : decode cSk_lengthOf 3 = .ok (.istore 4, 2) := by decide +kernel
theorem dSk_lengthOf_5 : decode cSk_lengthOf 5 = .ok (.iload 4, 2) := by decide +kernel
theorem dSk_lengthOf_7 : decode cSk_lengthOf 7 = .ok (.aload_n 0, 1) := by decide +kernel
theorem dSk_lengthOf_8 : decode cSk_lengthOf 8 = .ok (.getfield 24, 3) := by decide +kernel
theorem dSk_lengthOf_11 : decode cSk_lengthOf 11 = .ok (.if_icmp .ge 39, 3) := by decide +kernel
theorem dSk_lengthOf_14 : decode cSk_lengthOf 14 = .ok (.aload_n 0, 1) := by decide +kernel
theorem dSk_lengthOf_15 : decode cSk_lengthOf 15 = .ok (.getfield 21, 3) := by decide +kernel
theorem dSk_lengthOf_18 : decode cSk_lengthOf 18 = .ok (.iload 4, 2) := by decide +kernel
theorem dSk_lengthOf_20 : decode cSk_lengthOf 20 = .ok (.iaload, 1) := by decide +kernel
theorem dSk_lengthOf_21 : decode cSk_lengthOf 21 = .ok (.iload_n 1, 1) := by decide +kernel
theorem dSk_lengthOf_22 : decode cSk_lengthOf 22 = .ok (.if_icmp .ne 22, 3) := by decide +kernel
theorem dSk_lengthOf_25 : decode cSk_lengthOf 25 = .ok (.lload_n 2, 1) := by decide +kernel
theorem dSk_lengthOf_26 : decode cSk_lengthOf 26 = .ok (.aload_n 0, 1) := by decide +kernel
theorem dSk_lengthOf_27 : decode cSk_lengthOf 27 = .ok (.getfield 18, 3) := by decide +kernel
theorem dSk_lengthOf_30 : decode cSk_lengthOf 30 = .ok (.iload 4, 2) := by decide +kernel
theorem dSk_lengthOf_32 : decode cSk_lengthOf 32 = .ok (.iaload, 1) := by decide +kernel
theorem dSk_lengthOf_33 : decode cSk_lengthOf 33 = .ok (.aload_n 0, 1) := by decide +kernel
theorem dSk_lengthOf_34 : decode cSk_lengthOf 34 = .ok (.getfield 15, 3) := by decide +kernel
theorem dSk_lengthOf_37 : decode cSk_lengthOf 37 = .ok (.iload 4, 2) := by decide +kernel
theorem dSk_lengthOf_39 : decode cSk_lengthOf 39 = .ok (.iaload, 1) := by decide +kernel
theorem dSk_lengthOf_40 : decode cSk_lengthOf 40 = .ok (.isub, 1) := by decide +kernel
theorem dSk_lengthOf_41 : decode cSk_lengthOf 41 = .ok (.i2l, 1) := by decide +kernel
theorem dSk_lengthOf_42 : decode cSk_lengthOf 42 = .ok (.ladd, 1) := by decide +kernel
theorem dSk_lengthOf_43 : decode cSk_lengthOf 43 = .ok (.lstore_n 2, 1) := by decide +kernel
theorem dSk_lengthOf_44 : decode cSk_lengthOf 44 = .ok (.iinc 4 1, 3) := by decide +kernel
theorem dSk_lengthOf_47 : decode cSk_lengthOf 47 = .ok (.goto (-42), 3) := by decide +kernel
theorem dSk_lengthOf_50 : decode cSk_lengthOf 50 = .ok (.lload_n 2, 1) := by decide +kernel
theorem dSk_lengthOf_51 : decode cSk_lengthOf 51 = .ok (.lreturn, 1) := by decide +kernel
theorem dSk_goesBothWays_0 : decode cSk_goesBothWays 0 = .ok (.aload_n 0, 1) := by decide +kernel
theorem dSk_goesBothWays_1 : decode cSk_goesBothWays 1 = .ok (.getfield 28, 3) := by decide +kernel
theorem dSk_goesBothWays_4 : decode cSk_goesBothWays 4 = .ok (.ifCond .le 18, 3) := by decide +kernel
theorem dSk_goesBothWays_7 : decode cSk_goesBothWays 7 = .ok (.aload_n 0, 1) := by decide +kernel
theorem dSk_goesBothWays_8 : decode cSk_goesBothWays 8 = .ok (.getfield 28, 3) := by decide +kernel
theorem dSk_goesBothWays_11 : decode cSk_goesBothWays 11 = .ok (.aload_n 0, 1) := by decide +kernel
theorem dSk_goesBothWays_12 : decode cSk_goesBothWays 12 = .ok (.getfield 24, 3) := by decide +kernel
theorem dSk_goesBothWays_15 : decode cSk_goesBothWays 15 = .ok (.if_icmp .ge 7, 3) := by decide +kernel
theorem dSk_goesBothWays_18 : decode cSk_goesBothWays 18 = .ok (.iconst 1, 1) := by decide +kernel
theorem dSk_goesBothWays_19 : decode cSk_goesBothWays 19 = .ok (.goto 4, 3) := by decide +kernel
theorem dSk_goesBothWays_22 : decode cSk_goesBothWays 22 = .ok (.iconst 0, 1) := by decide +kernel
theorem dSk_goesBothWays_23 : decode cSk_goesBothWays 23 = .ok (.ireturn, 1) := by decide +kernel
theorem dSk_leastAcross_0 : decode cSk_leastAcross 0 = .ok (.aload_n 0, 1) := by decide +kernel
theorem dSk_leastAcross_1 : decode cSk_leastAcross 1 = .ok (.getfield 9, 3) := by decide +kernel
theorem dSk_leastAcross_4 : decode cSk_leastAcross 4 = .ok (.aload_n 0, 1) := by decide +kernel
theorem dSk_leastAcross_5 : decode cSk_leastAcross 5 = .ok (.getfield 28, 3) := by decide +kernel
theorem dSk_leastAcross_8 : decode cSk_leastAcross 8 = .ok (.iaload, 1) := by decide +kernel
theorem dSk_leastAcross_9 : decode cSk_leastAcross 9 = .ok (.ireturn, 1) := by decide +kernel
theorem dSk_leastUp_0 : decode cSk_leastUp 0 = .ok (.aload_n 0, 1) := by decide +kernel
theorem dSk_leastUp_1 : decode cSk_leastUp 1 = .ok (.getfield 9, 3) := by decide +kernel
theorem dSk_leastUp_4 : decode cSk_leastUp 4 = .ok (.iconst 0, 1) := by decide +kernel
theorem dSk_leastUp_5 : decode cSk_leastUp 5 = .ok (.iaload, 1) := by decide +kernel
theorem dSk_leastUp_6 : decode cSk_leastUp 6 = .ok (.ireturn, 1) := by decide +kernel
theorem dSk_greatestAcross_0 : decode cSk_greatestAcross 0 = .ok (.aload_n 0, 1) := by decide +kernel
theorem dSk_greatestAcross_1 : decode cSk_greatestAcross 1 = .ok (.getfield 9, 3) := by decide +kernel
theorem dSk_greatestAcross_4 : decode cSk_greatestAcross 4 = .ok (.aload_n 0, 1) := by decide +kernel
theorem dSk_greatestAcross_5 : decode cSk_greatestAcross 5 = .ok (.getfield 24, 3) := by decide +kernel
theorem dSk_greatestAcross_8 : decode cSk_greatestAcross 8 = .ok (.iconst 1, 1) := by decide +kernel
theorem dSk_greatestAcross_9 : decode cSk_greatestAcross 9 = .ok (.isub, 1) := by decide +kernel
theorem dSk_greatestAcross_10 : decode cSk_greatestAcross 10 = .ok (.iaload, 1) := by decide +kernel
theorem dSk_greatestAcross_11 : decode cSk_greatestAcross 11 = .ok (.ireturn, 1) := by decide +kernel
theorem dSk_greatestUp_0 : decode cSk_greatestUp 0 = .ok (.aload_n 0, 1) := by decide +kernel
theorem dSk_greatestUp_1 : decode cSk_greatestUp 1 = .ok (.getfield 9, 3) := by decide +kernel
theorem dSk_greatestUp_4 : decode cSk_greatestUp 4 = .ok (.aload_n 0, 1) := by decide +kernel
theorem dSk_greatestUp_5 : decode cSk_greatestUp 5 = .ok (.getfield 28, 3) := by decide +kernel
theorem dSk_greatestUp_8 : decode cSk_greatestUp 8 = .ok (.iconst 1, 1) := by decide +kernel
theorem dSk_greatestUp_9 : decode cSk_greatestUp 9 = .ok (.isub, 1) := by decide +kernel
theorem dSk_greatestUp_10 : decode cSk_greatestUp 10 = .ok (.iaload, 1) := by decide +kernel
theorem dSk_greatestUp_11 : decode cSk_greatestUp 11 = .ok (.ireturn, 1) := by decide +kernel
theorem dSk_copy_0 : decode cSk_copy 0 = .ok (.aload_n 1, 1) := by decide +kernel
theorem dSk_copy_1 : decode cSk_copy 1 = .ok (.getfield 9, 3) := by decide +kernel
theorem dSk_copy_4 : decode cSk_copy 4 = .ok (.iconst 0, 1) := by decide +kernel
theorem dSk_copy_5 : decode cSk_copy 5 = .ok (.aload_n 0, 1) := by decide +kernel
theorem dSk_copy_6 : decode cSk_copy 6 = .ok (.getfield 9, 3) := by decide +kernel
theorem dSk_copy_9 : decode cSk_copy 9 = .ok (.iconst 0, 1) := by decide +kernel
theorem dSk_copy_10 : decode cSk_copy 10 = .ok (.aload_n 1, 1) := by decide +kernel
theorem dSk_copy_11 : decode cSk_copy 11 = .ok (.getfield 24, 3) := by decide +kernel
theorem dSk_copy_14 : decode cSk_copy 14 = .ok (.invokestatic 31, 3) := by decide +kernel
theorem dSk_copy_17 : decode cSk_copy 17 = .ok (.aload_n 1, 1) := by decide +kernel
theorem dSk_copy_18 : decode cSk_copy 18 = .ok (.getfield 15, 3) := by decide +kernel
theorem dSk_copy_21 : decode cSk_copy 21 = .ok (.iconst 0, 1) := by decide +kernel
theorem dSk_copy_22 : decode cSk_copy 22 = .ok (.aload_n 0, 1) := by decide +kernel
theorem dSk_copy_23 : decode cSk_copy 23 = .ok (.getfield 15, 3) := by decide +kernel
theorem dSk_copy_26 : decode cSk_copy 26 = .ok (.iconst 0, 1) := by decide +kernel
theorem dSk_copy_27 : decode cSk_copy 27 = .ok (.aload_n 1, 1) := by decide +kernel
theorem dSk_copy_28 : decode cSk_copy 28 = .ok (.getfield 24, 3) := by decide +kernel
theorem dSk_copy_31 : decode cSk_copy 31 = .ok (.invokestatic 31, 3) := by decide +kernel
theorem dSk_copy_34 : decode cSk_copy 34 = .ok (.aload_n 1, 1) := by decide +kernel
theorem dSk_copy_35 : decode cSk_copy 35 = .ok (.getfield 18, 3) := by decide +kernel
theorem dSk_copy_38 : decode cSk_copy 38 = .ok (.iconst 0, 1) := by decide +kernel
theorem dSk_copy_39 : decode cSk_copy 39 = .ok (.aload_n 0, 1) := by decide +kernel
theorem dSk_copy_40 : decode cSk_copy 40 = .ok (.getfield 18, 3) := by decide +kernel
theorem dSk_copy_43 : decode cSk_copy 43 = .ok (.iconst 0, 1) := by decide +kernel
theorem dSk_copy_44 : decode cSk_copy 44 = .ok (.aload_n 1, 1) := by decide +kernel
theorem dSk_copy_45 : decode cSk_copy 45 = .ok (.getfield 24, 3) := by decide +kernel
theorem dSk_copy_48 : decode cSk_copy 48 = .ok (.invokestatic 31, 3) := by decide +kernel
theorem dSk_copy_51 : decode cSk_copy 51 = .ok (.aload_n 1, 1) := by decide +kernel
theorem dSk_copy_52 : decode cSk_copy 52 = .ok (.getfield 21, 3) := by decide +kernel
theorem dSk_copy_55 : decode cSk_copy 55 = .ok (.iconst 0, 1) := by decide +kernel
theorem dSk_copy_56 : decode cSk_copy 56 = .ok (.aload_n 0, 1) := by decide +kernel
theorem dSk_copy_57 : decode cSk_copy 57 = .ok (.getfield 21, 3) := by decide +kernel
theorem dSk_copy_60 : decode cSk_copy 60 = .ok (.iconst 0, 1) := by decide +kernel
theorem dSk_copy_61 : decode cSk_copy 61 = .ok (.aload_n 1, 1) := by decide +kernel
theorem dSk_copy_62 : decode cSk_copy 62 = .ok (.getfield 24, 3) := by decide +kernel
theorem dSk_copy_65 : decode cSk_copy 65 = .ok (.invokestatic 31, 3) := by decide +kernel
theorem dSk_copy_68 : decode cSk_copy 68 = .ok (.aload_n 0, 1) := by decide +kernel
theorem dSk_copy_69 : decode cSk_copy 69 = .ok (.aload_n 1, 1) := by decide +kernel
theorem dSk_copy_70 : decode cSk_copy 70 = .ok (.getfield 24, 3) := by decide +kernel
theorem dSk_copy_73 : decode cSk_copy 73 = .ok (.putfield 24, 3) := by decide +kernel
theorem dSk_copy_76 : decode cSk_copy 76 = .ok (.aload_n 0, 1) := by decide +kernel
theorem dSk_copy_77 : decode cSk_copy 77 = .ok (.aload_n 1, 1) := by decide +kernel
theorem dSk_copy_78 : decode cSk_copy 78 = .ok (.getfield 28, 3) := by decide +kernel
theorem dSk_copy_81 : decode cSk_copy 81 = .ok (.putfield 28, 3) := by decide +kernel
theorem dSk_copy_84 : decode cSk_copy 84 = .ok (.aload_n 0, 1) := by decide +kernel
theorem dSk_copy_85 : decode cSk_copy 85 = .ok (.aload_n 1, 1) := by decide +kernel
theorem dSk_copy_86 : decode cSk_copy 86 = .ok (.getfield 37, 3) := by decide +kernel
theorem dSk_copy_89 : decode cSk_copy 89 = .ok (.putfield 37, 3) := by decide +kernel
theorem dSk_copy_92 : decode cSk_copy 92 = .ok (.return_, 1) := by decide +kernel
theorem dSk_strokeNotIn_0 : decode cSk_strokeNotIn 0 = .ok (.iconst 0, 1) := by decide +kernel
theorem dSk_strokeNotIn_1 : decode cSk_strokeNotIn 1 = .ok (.istore_n 3, 1) := by decide +kernel
theorem dSk_strokeNotIn_2 : decode cSk_strokeNotIn 2 = .ok (.iconst 0, 1) := by decide +kernel
theorem dSk_strokeNotIn_3 : decode cSk_strokeNotIn 3 = .ok (.istore 4, 2) := by decide +kernel
theorem dSk_strokeNotIn_5 : decode cSk_strokeNotIn 5 = .ok (.iconst 0, 1) := by decide +kernel
theorem dSk_strokeNotIn_6 : decode cSk_strokeNotIn 6 = .ok (.istore 5, 2) := by decide +kernel
theorem dSk_strokeNotIn_8 : decode cSk_strokeNotIn 8 = .ok (.iload 5, 2) := by decide +kernel
theorem dSk_strokeNotIn_10 : decode cSk_strokeNotIn 10 = .ok (.aload_n 0, 1) := by decide +kernel
theorem dSk_strokeNotIn_11 : decode cSk_strokeNotIn 11 = .ok (.getfield 24, 3) := by decide +kernel
theorem dSk_strokeNotIn_14 : decode cSk_strokeNotIn 14 = .ok (.if_icmp .ge 100, 3) := by decide +kernel
theorem dSk_strokeNotIn_17 : decode cSk_strokeNotIn 17 = .ok (.iload_n 3, 1) := by decide +kernel
theorem dSk_strokeNotIn_18 : decode cSk_strokeNotIn 18 = .ok (.aload_n 1, 1) := by decide +kernel
theorem dSk_strokeNotIn_19 : decode cSk_strokeNotIn 19 = .ok (.getfield 24, 3) := by decide +kernel
theorem dSk_strokeNotIn_22 : decode cSk_strokeNotIn 22 = .ok (.if_icmp .ge 20, 3) := by decide +kernel
theorem dSk_strokeNotIn_25 : decode cSk_strokeNotIn 25 = .ok (.aload_n 0, 1) := by decide +kernel
theorem dSk_strokeNotIn_26 : decode cSk_strokeNotIn 26 = .ok (.aload_n 1, 1) := by decide +kernel
theorem dSk_strokeNotIn_27 : decode cSk_strokeNotIn 27 = .ok (.iload_n 3, 1) := by decide +kernel
theorem dSk_strokeNotIn_28 : decode cSk_strokeNotIn 28 = .ok (.iload 5, 2) := by decide +kernel
theorem dSk_strokeNotIn_30 : decode cSk_strokeNotIn 30 = .ok (.invokevirtual 51, 3) := by decide +kernel
theorem dSk_strokeNotIn_33 : decode cSk_strokeNotIn 33 = .ok (.ifCond .ge 9, 3) := by decide +kernel
theorem dSk_strokeNotIn_36 : decode cSk_strokeNotIn 36 = .ok (.iinc 3 1, 3) := by decide +kernel
theorem dSk_strokeNotIn_39 : decode cSk_strokeNotIn 39 = .ok (.goto (-22), 3) := by decide +kernel
theorem dSk_strokeNotIn_42 : decode cSk_strokeNotIn 42 = .ok (.iload_n 3, 1) := by decide +kernel
theorem dSk_strokeNotIn_43 : decode cSk_strokeNotIn 43 = .ok (.aload_n 1, 1) := by decide +kernel
theorem dSk_strokeNotIn_44 : decode cSk_strokeNotIn 44 = .ok (.getfield 24, 3) := by decide +kernel
theorem dSk_strokeNotIn_47 : decode cSk_strokeNotIn 47 = .ok (.if_icmp .ge 49, 3) := by decide +kernel
theorem dSk_strokeNotIn_50 : decode cSk_strokeNotIn 50 = .ok (.aload_n 0, 1) := by decide +kernel
theorem dSk_strokeNotIn_51 : decode cSk_strokeNotIn 51 = .ok (.aload_n 1, 1) := by decide +kernel
theorem dSk_strokeNotIn_52 : decode cSk_strokeNotIn 52 = .ok (.iload_n 3, 1) := by decide +kernel
theorem dSk_strokeNotIn_53 : decode cSk_strokeNotIn 53 = .ok (.iload 5, 2) := by decide +kernel
theorem dSk_strokeNotIn_55 : decode cSk_strokeNotIn 55 = .ok (.invokevirtual 51, 3) := by decide +kernel
theorem dSk_strokeNotIn_58 : decode cSk_strokeNotIn 58 = .ok (.ifCond .ne 38, 3) := by decide +kernel
theorem dSk_strokeNotIn_61 : decode cSk_strokeNotIn 61 = .ok (.aload_n 1, 1) := by decide +kernel
theorem dSk_strokeNotIn_62 : decode cSk_strokeNotIn 62 = .ok (.getfield 18, 3) := by decide +kernel
theorem dSk_strokeNotIn_65 : decode cSk_strokeNotIn 65 = .ok (.iload_n 3, 1) := by decide +kernel
theorem dSk_strokeNotIn_66 : decode cSk_strokeNotIn 66 = .ok (.iaload, 1) := by decide +kernel
theorem dSk_strokeNotIn_67 : decode cSk_strokeNotIn 67 = .ok (.aload_n 0, 1) := by decide +kernel
theorem dSk_strokeNotIn_68 : decode cSk_strokeNotIn 68 = .ok (.getfield 18, 3) := by decide +kernel
theorem dSk_strokeNotIn_71 : decode cSk_strokeNotIn 71 = .ok (.iload 5, 2) := by decide +kernel
theorem dSk_strokeNotIn_73 : decode cSk_strokeNotIn 73 = .ok (.iaload, 1) := by decide +kernel
theorem dSk_strokeNotIn_74 : decode cSk_strokeNotIn 74 = .ok (.if_icmp .ne 22, 3) := by decide +kernel
theorem dSk_strokeNotIn_77 : decode cSk_strokeNotIn 77 = .ok (.aload_n 1, 1) := by decide +kernel
theorem dSk_strokeNotIn_78 : decode cSk_strokeNotIn 78 = .ok (.getfield 21, 3) := by decide +kernel
theorem dSk_strokeNotIn_81 : decode cSk_strokeNotIn 81 = .ok (.iload_n 3, 1) := by decide +kernel
theorem dSk_strokeNotIn_82 : decode cSk_strokeNotIn 82 = .ok (.iaload, 1) := by decide +kernel
theorem dSk_strokeNotIn_83 : decode cSk_strokeNotIn 83 = .ok (.aload_n 0, 1) := by decide +kernel
theorem dSk_strokeNotIn_84 : decode cSk_strokeNotIn 84 = .ok (.getfield 21, 3) := by decide +kernel
theorem dSk_strokeNotIn_87 : decode cSk_strokeNotIn 87 = .ok (.iload 5, 2) := by decide +kernel
theorem dSk_strokeNotIn_89 : decode cSk_strokeNotIn 89 = .ok (.iaload, 1) := by decide +kernel
theorem dSk_strokeNotIn_90 : decode cSk_strokeNotIn 90 = .ok (.if_icmp .ne 6, 3) := by decide +kernel
theorem dSk_strokeNotIn_93 : decode cSk_strokeNotIn 93 = .ok (.goto 15, 3) := by decide +kernel
theorem dSk_strokeNotIn_96 : decode cSk_strokeNotIn 96 = .ok (.iload 4, 2) := by decide +kernel
theorem dSk_strokeNotIn_98 : decode cSk_strokeNotIn 98 = .ok (.iload_n 2, 1) := by decide +kernel
theorem dSk_strokeNotIn_99 : decode cSk_strokeNotIn 99 = .ok (.if_icmp .ne 6, 3) := by decide +kernel
theorem dSk_strokeNotIn_102 : decode cSk_strokeNotIn 102 = .ok (.iload 5, 2) := by decide +kernel
theorem dSk_strokeNotIn_104 : decode cSk_strokeNotIn 104 = .ok (.ireturn, 1) := by decide +kernel
theorem dSk_strokeNotIn_105 : decode cSk_strokeNotIn 105 = .ok (.iinc 4 1, 3) := by decide +kernel
theorem dSk_strokeNotIn_108 : decode cSk_strokeNotIn 108 = .ok (.iinc 5 1, 3) := by decide +kernel
theorem dSk_strokeNotIn_111 : decode cSk_strokeNotIn 111 = .ok (.goto (-103), 3) := by decide +kernel
theorem dSk_strokeNotIn_114 : decode cSk_strokeNotIn 114 = .ok (.iconst (-1), 1) := by decide +kernel
theorem dSk_strokeNotIn_115 : decode cSk_strokeNotIn 115 = .ok (.ireturn, 1) := by decide +kernel
theorem dSk_compare_0 : decode cSk_compare 0 = .ok (.aload_n 1, 1) := by decide +kernel
theorem dSk_compare_1 : decode cSk_compare 1 = .ok (.iload_n 2, 1) := by decide +kernel
theorem dSk_compare_2 : decode cSk_compare 2 = .ok (.invokevirtual 41, 3) := by decide +kernel
theorem dSk_compare_5 : decode cSk_compare 5 = .ok (.aload_n 0, 1) := by decide +kernel
theorem dSk_compare_6 : decode cSk_compare 6 = .ok (.iload_n 3, 1) := by decide +kernel
theorem dSk_compare_7 : decode cSk_compare 7 = .ok (.invokevirtual 41, 3) := by decide +kernel
theorem dSk_compare_10 : decode cSk_compare 10 = .ok (.if_icmp .eq 17, 3) := by decide +kernel
theorem dSk_compare_13 : decode cSk_compare 13 = .ok (.aload_n 1, 1) := by decide +kernel
theorem dSk_compare_14 : decode cSk_compare 14 = .ok (.iload_n 2, 1) := by decide +kernel
theorem dSk_compare_15 : decode cSk_compare 15 = .ok (.invokevirtual 41, 3) := by decide +kernel
theorem dSk_compare_18 : decode cSk_compare 18 = .ok (.aload_n 0, 1) := by decide +kernel
theorem dSk_compare_19 : decode cSk_compare 19 = .ok (.iload_n 3, 1) := by decide +kernel
theorem dSk_compare_20 : decode cSk_compare 20 = .ok (.invokevirtual 41, 3) := by decide +kernel
theorem dSk_compare_23 : decode cSk_compare 23 = .ok (.invokestatic 55, 3) := by decide +kernel
theorem dSk_compare_26 : decode cSk_compare 26 = .ok (.ireturn, 1) := by decide +kernel
theorem dSk_compare_27 : decode cSk_compare 27 = .ok (.aload_n 1, 1) := by decide +kernel
theorem dSk_compare_28 : decode cSk_compare 28 = .ok (.getfield 9, 3) := by decide +kernel
theorem dSk_compare_31 : decode cSk_compare 31 = .ok (.iload_n 2, 1) := by decide +kernel
theorem dSk_compare_32 : decode cSk_compare 32 = .ok (.iaload, 1) := by decide +kernel
theorem dSk_compare_33 : decode cSk_compare 33 = .ok (.aload_n 0, 1) := by decide +kernel
theorem dSk_compare_34 : decode cSk_compare 34 = .ok (.getfield 9, 3) := by decide +kernel
theorem dSk_compare_37 : decode cSk_compare 37 = .ok (.iload_n 3, 1) := by decide +kernel
theorem dSk_compare_38 : decode cSk_compare 38 = .ok (.iaload, 1) := by decide +kernel
theorem dSk_compare_39 : decode cSk_compare 39 = .ok (.if_icmp .eq 19, 3) := by decide +kernel
theorem dSk_compare_42 : decode cSk_compare 42 = .ok (.aload_n 1, 1) := by decide +kernel
theorem dSk_compare_43 : decode cSk_compare 43 = .ok (.getfield 9, 3) := by decide +kernel
theorem dSk_compare_46 : decode cSk_compare 46 = .ok (.iload_n 2, 1) := by decide +kernel
theorem dSk_compare_47 : decode cSk_compare 47 = .ok (.iaload, 1) := by decide +kernel
theorem dSk_compare_48 : decode cSk_compare 48 = .ok (.aload_n 0, 1) := by decide +kernel
theorem dSk_compare_49 : decode cSk_compare 49 = .ok (.getfield 9, 3) := by decide +kernel
theorem dSk_compare_52 : decode cSk_compare 52 = .ok (.iload_n 3, 1) := by decide +kernel
theorem dSk_compare_53 : decode cSk_compare 53 = .ok (.iaload, 1) := by decide +kernel
theorem dSk_compare_54 : decode cSk_compare 54 = .ok (.invokestatic 55, 3) := by decide +kernel
theorem dSk_compare_57 : decode cSk_compare 57 = .ok (.ireturn, 1) := by decide +kernel
theorem dSk_compare_58 : decode cSk_compare 58 = .ok (.aload_n 1, 1) := by decide +kernel
theorem dSk_compare_59 : decode cSk_compare 59 = .ok (.getfield 15, 3) := by decide +kernel
theorem dSk_compare_62 : decode cSk_compare 62 = .ok (.iload_n 2, 1) := by decide +kernel
theorem dSk_compare_63 : decode cSk_compare 63 = .ok (.iaload, 1) := by decide +kernel
theorem dSk_compare_64 : decode cSk_compare 64 = .ok (.aload_n 0, 1) := by decide +kernel
theorem dSk_compare_65 : decode cSk_compare 65 = .ok (.getfield 15, 3) := by decide +kernel
theorem dSk_compare_68 : decode cSk_compare 68 = .ok (.iload_n 3, 1) := by decide +kernel
theorem dSk_compare_69 : decode cSk_compare 69 = .ok (.iaload, 1) := by decide +kernel
theorem dSk_compare_70 : decode cSk_compare 70 = .ok (.invokestatic 55, 3) := by decide +kernel
theorem dSk_compare_73 : decode cSk_compare 73 = .ok (.ireturn, 1) := by decide +kernel
set_option maxRecDepth 100000 in
theorem flSk_28 : Cond.fieldLink "PartDrawings$Strokes" 28 (TSk 2).1 (TSk 2).2.1 (TSk 2).2.2.1 ∈ gW := gW_1 192 rfl rfl
set_option maxRecDepth 100000 in
theorem inSk : ∀ w ∈ u_ws RSk TSk 7, w ∈ gW := gW_l [201, 203, 205, 207, 209, 211, 213] rfl (by decide +kernel)
set_option maxRecDepth 100000 in
theorem flSk_24 : Cond.fieldLink "PartDrawings$Strokes" 24 (TSk 1).1 (TSk 1).2.1 (TSk 1).2.2.1 ∈ gW := gW_1 189 rfl rfl
set_option maxRecDepth 100000 in
theorem flSk_9 : Cond.fieldLink "PartDrawings$Strokes" 9 (TSk 3).1 (TSk 3).2.1 (TSk 3).2.2.1 ∈ gW := gW_1 194 rfl rfl
set_option maxRecDepth 100000 in
theorem kSk_41 : inT (kV "PartDrawings$Strokes" 41 ySk_wayOf cSk_wayOf 2 (some .int)) := gW_l [634, 635, 636, 51, 637] rfl (by decide +kernel)
set_option maxRecDepth 100000 in
theorem flSk_15 : Cond.fieldLink "PartDrawings$Strokes" 15 (TSk 4).1 (TSk 4).2.1 (TSk 4).2.2.1 ∈ gW := gW_1 196 rfl rfl
set_option maxRecDepth 100000 in
theorem flSk_18 : Cond.fieldLink "PartDrawings$Strokes" 18 (TSk 5).1 (TSk 5).2.1 (TSk 5).2.2.1 ∈ gW := gW_1 198 rfl rfl
set_option maxRecDepth 100000 in
theorem flSk_21 : Cond.fieldLink "PartDrawings$Strokes" 21 (TSk 6).1 (TSk 6).2.1 (TSk 6).2.2.1 ∈ gW := gW_1 200 rfl rfl
set_option maxRecDepth 100000 in
theorem kmSk_45 : inT (kMin "PartDrawings$Strokes" 45) := gW_l [649, 271, 55, 272] rfl (by decide +kernel)
set_option maxHeartbeats 4000000 in
set_option maxRecDepth 100000 in
theorem c_Strokes_wayOf (l : Launch) (D : va_G) (cI cG cL cB : ClassId) (h0 : Nat) (a1 : Nat) (a2 : Nat) (a3 : Nat) (a4 : Nat) (th : Int) (n : Int) (ac : Int) (Li : Int → Int) (Be : Int → Int) (En : Int → Int) (St : Int → Int) (k : Int) (bLi : ∀ j : Int, I32 (Li j)) (bBe : ∀ j : Int, I32 (Be j)) (bEn : ∀ j : Int, I32 (En j)) (bSt : ∀ j : Int, I32 (St j)) (hn0 : 0 ≤ n) (hn1 : n ≤ 1200) (ha0 : 0 ≤ ac) (ha1 : ac ≤ n) (hIk : I32 k) : Ci l ySk_wayOf cSk_wayOf 2 (some .int) 0 0 0 D zCl (zT cI cG cL cB) [.ref h0, .int (zI k)] [(h0, .inr (7, [.int (zI th), .int (zI n), .int (zI ac), .ref a1, .ref a2, .ref a3, .ref a4])), (a1, .inl (cI, 1200, .inl (fI Li))), (a2, .inl (cI, 1200, .inl (fI Be))), (a3, .inl (cI, 1200, .inl (fI En))), (a4, .inl (cI, 1200, .inl (fI St)))] (fun x w => x = zI (wayZ ac k) ∧ w = [(h0, .inr (7, [.int (zI th), .int (zI n), .int (zI ac), .ref a1, .ref a2, .ref a3, .ref a4])), (a1, .inl (cI, 1200, .inl (fI Li))), (a2, .inl (cI, 1200, .inl (fI Be))), (a3, .inl (cI, 1200, .inl (fI En))), (a4, .inl (cI, 1200, .inl (fI St)))]) := by
  refine zBi (by decide) (Nat.le_of_ble_eq_true rfl) ?_
  intro p e s m args below meth c ls A H locs Q C hin hl hW hQ
  have hl : lv_has ls 2 [(0, .ref h0), (1, .int (zI k))] := hl
  refine lv_iload_n C.1 C.2.1 dSk_wayOf_0 rfl (lv_at hl 1 rfl) ?_
  refine lv_aload_n C.1 C.2.1 dSk_wayOf_1 rfl (lv_at hl 0 rfl) ?_
  refine zget C hW 0 2 rfl rfl inSk (by decide) flSk_28 rfl dSk_wayOf_2 ?_
  refine zicmp_ge (tgt := 12) C (by omega) (by omega) dSk_wayOf_5 (by decide) (fun c5 => ?_) (fun c5 => ?_)
  · refine lv_iconst (v := zI 1) C.1 C.2.1 dSk_wayOf_12 (by decide) ?_
    exact hQ (zI 1) _ H locs _ _ _ ls hW ⟨congrArg zI (by unfold wayZ; split <;> omega), rfl⟩ (by omega) (by omega) dSk_wayOf_13
  · refine lv_iconst (v := zI 0) C.1 C.2.1 dSk_wayOf_8 (by decide) ?_
    refine lv_goto (tgt := 13) C.1 C.2.1 dSk_wayOf_9 (by decide) ?_
    exact hQ (zI 0) _ H locs _ _ _ ls hW ⟨congrArg zI (by unfold wayZ; split <;> omega), rfl⟩ (by omega) (by omega) dSk_wayOf_13
set_option maxHeartbeats 4000000 in
set_option maxRecDepth 100000 in
theorem c_Strokes_goesBothWays (l : Launch) (D : va_G) (cI cG cL cB : ClassId) (h0 : Nat) (a1 : Nat) (a2 : Nat) (a3 : Nat) (a4 : Nat) (th : Int) (n : Int) (ac : Int) (Li : Int → Int) (Be : Int → Int) (En : Int → Int) (St : Int → Int) (bLi : ∀ j : Int, I32 (Li j)) (bBe : ∀ j : Int, I32 (Be j)) (bEn : ∀ j : Int, I32 (En j)) (bSt : ∀ j : Int, I32 (St j)) (hn0 : 0 ≤ n) (hn1 : n ≤ 1200) (ha0 : 0 ≤ ac) (ha1 : ac ≤ n) : Ci l ySk_goesBothWays cSk_goesBothWays 1 (some .boolean) 0 0 0 D zCl (zT cI cG cL cB) [.ref h0] [(h0, .inr (7, [.int (zI th), .int (zI n), .int (zI ac), .ref a1, .ref a2, .ref a3, .ref a4])), (a1, .inl (cI, 1200, .inl (fI Li))), (a2, .inl (cI, 1200, .inl (fI Be))), (a3, .inl (cI, 1200, .inl (fI En))), (a4, .inl (cI, 1200, .inl (fI St)))] (fun x w => x = zI (bz (decide (0 < ac ∧ ac < n))) ∧ w = [(h0, .inr (7, [.int (zI th), .int (zI n), .int (zI ac), .ref a1, .ref a2, .ref a3, .ref a4])), (a1, .inl (cI, 1200, .inl (fI Li))), (a2, .inl (cI, 1200, .inl (fI Be))), (a3, .inl (cI, 1200, .inl (fI En))), (a4, .inl (cI, 1200, .inl (fI St)))]) := by
  refine zBz (by decide) (Nat.le_of_ble_eq_true rfl) ?_
  intro p e s m args below meth c ls A H locs Q C hin hl hW hQ
  have hl : lv_has ls 1 [(0, .ref h0)] := hl
  refine lv_aload_n C.1 C.2.1 dSk_goesBothWays_0 rfl (lv_at hl 0 rfl) ?_
  refine zget C hW 0 2 rfl rfl inSk (by decide) flSk_28 rfl dSk_goesBothWays_1 ?_
  refine zif_le (tgt := 22) C (by omega) dSk_goesBothWays_4 (by decide) (fun c4 => ?_) (fun c4 => ?_)
  · refine lv_iconst (v := zI 0) C.1 C.2.1 dSk_goesBothWays_22 (by decide) ?_
    exact hQ (zI 0) _ H locs _ _ _ ls hW (by decide) ⟨congrArg zI (by simp only [bz, decide_eq_true_eq]; split <;> omega), rfl⟩ (by omega) (by omega) dSk_goesBothWays_23
  · refine lv_aload_n C.1 C.2.1 dSk_goesBothWays_7 rfl (lv_at hl 0 rfl) ?_
    refine zget C hW 0 2 rfl rfl inSk (by decide) flSk_28 rfl dSk_goesBothWays_8 ?_
    refine lv_aload_n C.1 C.2.1 dSk_goesBothWays_11 rfl (lv_at hl 0 rfl) ?_
    refine zget C hW 0 1 rfl rfl inSk (by decide) flSk_24 rfl dSk_goesBothWays_12 ?_
    refine zicmp_ge (tgt := 22) C (by omega) (by omega) dSk_goesBothWays_15 (by decide) (fun c15 => ?_) (fun c15 => ?_)
    · refine lv_iconst (v := zI 0) C.1 C.2.1 dSk_goesBothWays_22 (by decide) ?_
      exact hQ (zI 0) _ H locs _ _ _ ls hW (by decide) ⟨congrArg zI (by simp only [bz, decide_eq_true_eq]; split <;> omega), rfl⟩ (by omega) (by omega) dSk_goesBothWays_23
    · refine lv_iconst (v := zI 1) C.1 C.2.1 dSk_goesBothWays_18 (by decide) ?_
      refine lv_goto (tgt := 23) C.1 C.2.1 dSk_goesBothWays_19 (by decide) ?_
      exact hQ (zI 1) _ H locs _ _ _ ls hW (by decide) ⟨congrArg zI (by simp only [bz, decide_eq_true_eq]; split <;> omega), rfl⟩ (by omega) (by omega) dSk_goesBothWays_23
set_option maxHeartbeats 4000000 in
set_option maxRecDepth 100000 in
theorem c_Strokes_leastAcross (l : Launch) (D : va_G) (cI cG cL cB : ClassId) (h0 : Nat) (a1 : Nat) (a2 : Nat) (a3 : Nat) (a4 : Nat) (th : Int) (n : Int) (ac : Int) (Li : Int → Int) (Be : Int → Int) (En : Int → Int) (St : Int → Int) (bLi : ∀ j : Int, I32 (Li j)) (bBe : ∀ j : Int, I32 (Be j)) (bEn : ∀ j : Int, I32 (En j)) (bSt : ∀ j : Int, I32 (St j)) (hn0 : 0 ≤ n) (hn1 : n ≤ 1200) (ha0 : 0 ≤ ac) (ha1 : ac ≤ n) (hx : ac < 1200) : Ci l ySk_leastAcross cSk_leastAcross 1 (some .int) 0 0 0 D zCl (zT cI cG cL cB) [.ref h0] [(h0, .inr (7, [.int (zI th), .int (zI n), .int (zI ac), .ref a1, .ref a2, .ref a3, .ref a4])), (a1, .inl (cI, 1200, .inl (fI Li))), (a2, .inl (cI, 1200, .inl (fI Be))), (a3, .inl (cI, 1200, .inl (fI En))), (a4, .inl (cI, 1200, .inl (fI St)))] (fun x w => x = zI (Li ac) ∧ w = [(h0, .inr (7, [.int (zI th), .int (zI n), .int (zI ac), .ref a1, .ref a2, .ref a3, .ref a4])), (a1, .inl (cI, 1200, .inl (fI Li))), (a2, .inl (cI, 1200, .inl (fI Be))), (a3, .inl (cI, 1200, .inl (fI En))), (a4, .inl (cI, 1200, .inl (fI St)))]) := by
  refine zBi (by decide) (Nat.le_of_ble_eq_true rfl) ?_
  intro p e s m args below meth c ls A H locs Q C hin hl hW hQ
  have hl : lv_has ls 1 [(0, .ref h0)] := hl
  refine lv_aload_n C.1 C.2.1 dSk_leastAcross_0 rfl (lv_at hl 0 rfl) ?_
  refine zget C hW 0 3 rfl rfl inSk (by decide) flSk_9 rfl dSk_leastAcross_1 ?_
  refine lv_aload_n C.1 C.2.1 dSk_leastAcross_4 rfl (lv_at hl 0 rfl) ?_
  refine zget C hW 0 2 rfl rfl inSk (by decide) flSk_28 rfl dSk_leastAcross_5 ?_
  refine ziald C hW 1 0 rfl rfl (by omega) (by omega) (by decide) dSk_leastAcross_8 ?_
  have hb1 := bLi ac
  exact hQ (zI (Li ac)) _ H locs _ _ _ ls hW ⟨rfl, rfl⟩ (by omega) (by omega) dSk_leastAcross_9
set_option maxHeartbeats 4000000 in
set_option maxRecDepth 100000 in
theorem c_Strokes_greatestAcross (l : Launch) (D : va_G) (cI cG cL cB : ClassId) (h0 : Nat) (a1 : Nat) (a2 : Nat) (a3 : Nat) (a4 : Nat) (th : Int) (n : Int) (ac : Int) (Li : Int → Int) (Be : Int → Int) (En : Int → Int) (St : Int → Int) (bLi : ∀ j : Int, I32 (Li j)) (bBe : ∀ j : Int, I32 (Be j)) (bEn : ∀ j : Int, I32 (En j)) (bSt : ∀ j : Int, I32 (St j)) (hn0 : 0 ≤ n) (hn1 : n ≤ 1200) (ha0 : 0 ≤ ac) (ha1 : ac ≤ n) (hx : 0 < n) : Ci l ySk_greatestAcross cSk_greatestAcross 1 (some .int) 0 0 0 D zCl (zT cI cG cL cB) [.ref h0] [(h0, .inr (7, [.int (zI th), .int (zI n), .int (zI ac), .ref a1, .ref a2, .ref a3, .ref a4])), (a1, .inl (cI, 1200, .inl (fI Li))), (a2, .inl (cI, 1200, .inl (fI Be))), (a3, .inl (cI, 1200, .inl (fI En))), (a4, .inl (cI, 1200, .inl (fI St)))] (fun x w => x = zI (Li (n - 1)) ∧ w = [(h0, .inr (7, [.int (zI th), .int (zI n), .int (zI ac), .ref a1, .ref a2, .ref a3, .ref a4])), (a1, .inl (cI, 1200, .inl (fI Li))), (a2, .inl (cI, 1200, .inl (fI Be))), (a3, .inl (cI, 1200, .inl (fI En))), (a4, .inl (cI, 1200, .inl (fI St)))]) := by
  refine zBi (by decide) (Nat.le_of_ble_eq_true rfl) ?_
  intro p e s m args below meth c ls A H locs Q C hin hl hW hQ
  have hl : lv_has ls 1 [(0, .ref h0)] := hl
  refine lv_aload_n C.1 C.2.1 dSk_greatestAcross_0 rfl (lv_at hl 0 rfl) ?_
  refine zget C hW 0 3 rfl rfl inSk (by decide) flSk_9 rfl dSk_greatestAcross_1 ?_
  refine lv_aload_n C.1 C.2.1 dSk_greatestAcross_4 rfl (lv_at hl 0 rfl) ?_
  refine zget C hW 0 1 rfl rfl inSk (by decide) flSk_24 rfl dSk_greatestAcross_5 ?_
  refine lv_iconst (v := zI 1) C.1 C.2.1 dSk_greatestAcross_8 (by decide) ?_
  refine zisub C dSk_greatestAcross_9 ?_
  refine ziald C hW 1 0 rfl rfl (by omega) (by omega) (by decide) dSk_greatestAcross_10 ?_
  have hb1 := bLi (n - 1)
  exact hQ (zI (Li (n - 1))) _ H locs _ _ _ ls hW ⟨rfl, rfl⟩ (by omega) (by omega) dSk_greatestAcross_11
set_option maxHeartbeats 4000000 in
set_option maxRecDepth 100000 in
theorem c_Strokes_leastUp (l : Launch) (D : va_G) (cI cG cL cB : ClassId) (h0 : Nat) (a1 : Nat) (a2 : Nat) (a3 : Nat) (a4 : Nat) (th : Int) (n : Int) (ac : Int) (Li : Int → Int) (Be : Int → Int) (En : Int → Int) (St : Int → Int) (bLi : ∀ j : Int, I32 (Li j)) (bBe : ∀ j : Int, I32 (Be j)) (bEn : ∀ j : Int, I32 (En j)) (bSt : ∀ j : Int, I32 (St j)) (hn0 : 0 ≤ n) (hn1 : n ≤ 1200) (ha0 : 0 ≤ ac) (ha1 : ac ≤ n) : Ci l ySk_leastUp cSk_leastUp 1 (some .int) 0 0 0 D zCl (zT cI cG cL cB) [.ref h0] [(h0, .inr (7, [.int (zI th), .int (zI n), .int (zI ac), .ref a1, .ref a2, .ref a3, .ref a4])), (a1, .inl (cI, 1200, .inl (fI Li))), (a2, .inl (cI, 1200, .inl (fI Be))), (a3, .inl (cI, 1200, .inl (fI En))), (a4, .inl (cI, 1200, .inl (fI St)))] (fun x w => x = zI (Li 0) ∧ w = [(h0, .inr (7, [.int (zI th), .int (zI n), .int (zI ac), .ref a1, .ref a2, .ref a3, .ref a4])), (a1, .inl (cI, 1200, .inl (fI Li))), (a2, .inl (cI, 1200, .inl (fI Be))), (a3, .inl (cI, 1200, .inl (fI En))), (a4, .inl (cI, 1200, .inl (fI St)))]) := by
  refine zBi (by decide) (Nat.le_of_ble_eq_true rfl) ?_
  intro p e s m args below meth c ls A H locs Q C hin hl hW hQ
  have hl : lv_has ls 1 [(0, .ref h0)] := hl
  refine lv_aload_n C.1 C.2.1 dSk_leastUp_0 rfl (lv_at hl 0 rfl) ?_
  refine zget C hW 0 3 rfl rfl inSk (by decide) flSk_9 rfl dSk_leastUp_1 ?_
  refine lv_iconst (v := zI 0) C.1 C.2.1 dSk_leastUp_4 (by decide) ?_
  refine ziald C hW 1 0 rfl rfl (by omega) (by omega) (by decide) dSk_leastUp_5 ?_
  have hb1 := bLi 0
  exact hQ (zI (Li 0)) _ H locs _ _ _ ls hW ⟨rfl, rfl⟩ (by omega) (by omega) dSk_leastUp_6
set_option maxHeartbeats 4000000 in
set_option maxRecDepth 100000 in
theorem c_Strokes_greatestUp (l : Launch) (D : va_G) (cI cG cL cB : ClassId) (h0 : Nat) (a1 : Nat) (a2 : Nat) (a3 : Nat) (a4 : Nat) (th : Int) (n : Int) (ac : Int) (Li : Int → Int) (Be : Int → Int) (En : Int → Int) (St : Int → Int) (bLi : ∀ j : Int, I32 (Li j)) (bBe : ∀ j : Int, I32 (Be j)) (bEn : ∀ j : Int, I32 (En j)) (bSt : ∀ j : Int, I32 (St j)) (hn0 : 0 ≤ n) (hn1 : n ≤ 1200) (ha0 : 0 ≤ ac) (ha1 : ac ≤ n) (hx : 0 < ac) : Ci l ySk_greatestUp cSk_greatestUp 1 (some .int) 0 0 0 D zCl (zT cI cG cL cB) [.ref h0] [(h0, .inr (7, [.int (zI th), .int (zI n), .int (zI ac), .ref a1, .ref a2, .ref a3, .ref a4])), (a1, .inl (cI, 1200, .inl (fI Li))), (a2, .inl (cI, 1200, .inl (fI Be))), (a3, .inl (cI, 1200, .inl (fI En))), (a4, .inl (cI, 1200, .inl (fI St)))] (fun x w => x = zI (Li (ac - 1)) ∧ w = [(h0, .inr (7, [.int (zI th), .int (zI n), .int (zI ac), .ref a1, .ref a2, .ref a3, .ref a4])), (a1, .inl (cI, 1200, .inl (fI Li))), (a2, .inl (cI, 1200, .inl (fI Be))), (a3, .inl (cI, 1200, .inl (fI En))), (a4, .inl (cI, 1200, .inl (fI St)))]) := by
  refine zBi (by decide) (Nat.le_of_ble_eq_true rfl) ?_
  intro p e s m args below meth c ls A H locs Q C hin hl hW hQ
  have hl : lv_has ls 1 [(0, .ref h0)] := hl
  refine lv_aload_n C.1 C.2.1 dSk_greatestUp_0 rfl (lv_at hl 0 rfl) ?_
  refine zget C hW 0 3 rfl rfl inSk (by decide) flSk_9 rfl dSk_greatestUp_1 ?_
  refine lv_aload_n C.1 C.2.1 dSk_greatestUp_4 rfl (lv_at hl 0 rfl) ?_
  refine zget C hW 0 2 rfl rfl inSk (by decide) flSk_28 rfl dSk_greatestUp_5 ?_
  refine lv_iconst (v := zI 1) C.1 C.2.1 dSk_greatestUp_8 (by decide) ?_
  refine zisub C dSk_greatestUp_9 ?_
  refine ziald C hW 1 0 rfl rfl (by omega) (by omega) (by decide) dSk_greatestUp_10 ?_
  have hb1 := bLi (ac - 1)
  exact hQ (zI (Li (ac - 1))) _ H locs _ _ _ ls hW ⟨rfl, rfl⟩ (by omega) (by omega) dSk_greatestUp_11
set_option maxHeartbeats 4000000 in
set_option maxRecDepth 100000 in
theorem c_Strokes_clear (l : Launch) (D : va_G) (cI cG cL cB : ClassId) (h0 : Nat) (a1 : Nat) (a2 : Nat) (a3 : Nat) (a4 : Nat) (th : Int) (n : Int) (ac : Int) (Li : Int → Int) (Be : Int → Int) (En : Int → Int) (St : Int → Int) (bLi : ∀ j : Int, I32 (Li j)) (bBe : ∀ j : Int, I32 (Be j)) (bEn : ∀ j : Int, I32 (En j)) (bSt : ∀ j : Int, I32 (St j)) (hn0 : 0 ≤ n) (hn1 : n ≤ 1200) (ha0 : 0 ≤ ac) (ha1 : ac ≤ n) : Cv l ySk_clear cSk_clear 1 none 0 0 0 D zCl (zT cI cG cL cB) [.ref h0] [(h0, .inr (7, [.int (zI th), .int (zI n), .int (zI ac), .ref a1, .ref a2, .ref a3, .ref a4])), (a1, .inl (cI, 1200, .inl (fI Li))), (a2, .inl (cI, 1200, .inl (fI Be))), (a3, .inl (cI, 1200, .inl (fI En))), (a4, .inl (cI, 1200, .inl (fI St)))] (fun w => w = [(h0, .inr (7, [.int (zI th), .int (zI 0), .int (zI 0), .ref a1, .ref a2, .ref a3, .ref a4])), (a1, .inl (cI, 1200, .inl (fI Li))), (a2, .inl (cI, 1200, .inl (fI Be))), (a3, .inl (cI, 1200, .inl (fI En))), (a4, .inl (cI, 1200, .inl (fI St)))]) := by
  refine zBv (by decide) (Nat.le_of_ble_eq_true rfl) ?_
  intro p e s m args below meth c ls A H locs Q C hin hl hW hQ
  have hl : lv_has ls 1 [(0, .ref h0)] := hl
  refine lv_aload_n C.1 C.2.1 dSk_clear_0 rfl (lv_at hl 0 rfl) ?_
  refine lv_iconst (v := zI 0) C.1 C.2.1 dSk_clear_1 (by decide) ?_
  refine zput C hW 0 1 tySk tySk_ok nmSk rfl rfl inSk (by decide) flSk_24 rfl rfl rfl rfl (Nat.le_of_ble_eq_true rfl) dSk_clear_2 (fun H locs hW => ?_)
  have hW : zw D zCl A s [(h0, .inr (7, [.int (zI th), .int (zI 0), .int (zI ac), .ref a1, .ref a2, .ref a3, .ref a4])), (a1, .inl (cI, 1200, .inl (fI Li))), (a2, .inl (cI, 1200, .inl (fI Be))), (a3, .inl (cI, 1200, .inl (fI En))), (a4, .inl (cI, 1200, .inl (fI St)))] H locs := hW
  refine lv_aload_n C.1 C.2.1 dSk_clear_5 rfl (lv_at hl 0 rfl) ?_
  refine lv_iconst (v := zI 0) C.1 C.2.1 dSk_clear_6 (by decide) ?_
  refine zput C hW 0 2 tySk tySk_ok nmSk rfl rfl inSk (by decide) flSk_28 rfl rfl rfl rfl (Nat.le_of_ble_eq_true rfl) dSk_clear_7 (fun H locs hW => ?_)
  have hW : zw D zCl A s [(h0, .inr (7, [.int (zI th), .int (zI 0), .int (zI 0), .ref a1, .ref a2, .ref a3, .ref a4])), (a1, .inl (cI, 1200, .inl (fI Li))), (a2, .inl (cI, 1200, .inl (fI Be))), (a3, .inl (cI, 1200, .inl (fI En))), (a4, .inl (cI, 1200, .inl (fI St)))] H locs := hW
  exact hQ _ H locs _ _ _ ls hW rfl (by omega) (by omega) dSk_clear_10
set_option maxHeartbeats 4000000 in
set_option maxRecDepth 100000 in
theorem c_Strokes_number (l : Launch) (D : va_G) (cI cG cL cB : ClassId) (h0 : Nat) (a1 : Nat) (a2 : Nat) (a3 : Nat) (a4 : Nat) (th : Int) (n : Int) (ac : Int) (Li : Int → Int) (Be : Int → Int) (En : Int → Int) (St : Int → Int) (k : Int) (i : Int) (bLi : ∀ j : Int, I32 (Li j)) (bBe : ∀ j : Int, I32 (Be j)) (bEn : ∀ j : Int, I32 (En j)) (bSt : ∀ j : Int, I32 (St j)) (hn0 : 0 ≤ n) (hn1 : n ≤ 1200) (ha0 : 0 ≤ ac) (ha1 : ac ≤ n) (hk0 : 0 ≤ k) (hk1 : k < 1200) (hIi : I32 i) : Cl l ySk_number cSk_number 3 (some .long) 1 0 0 D zCl (zT cI cG cL cB) [.ref h0, .int (zI k), .int (zI i)] [(h0, .inr (7, [.int (zI th), .int (zI n), .int (zI ac), .ref a1, .ref a2, .ref a3, .ref a4])), (a1, .inl (cI, 1200, .inl (fI Li))), (a2, .inl (cI, 1200, .inl (fI Be))), (a3, .inl (cI, 1200, .inl (fI En))), (a4, .inl (cI, 1200, .inl (fI St)))] (fun x w => x = zL (numS ac Li Be En St k i) ∧ w = [(h0, .inr (7, [.int (zI th), .int (zI n), .int (zI ac), .ref a1, .ref a2, .ref a3, .ref a4])), (a1, .inl (cI, 1200, .inl (fI Li))), (a2, .inl (cI, 1200, .inl (fI Be))), (a3, .inl (cI, 1200, .inl (fI En))), (a4, .inl (cI, 1200, .inl (fI St)))]) := by
  refine zBl (by decide) (Nat.le_of_ble_eq_true rfl) ?_
  intro p e s m args below meth c ls A H locs Q C hin hl hW hQ
  have hl : lv_has ls 3 [(0, .ref h0), (1, .int (zI k)), (2, .int (zI i))] := hl
  refine lv_iload_n C.1 C.2.1 dSk_number_0 rfl (lv_at hl 2 rfl) ?_
  by_cases s1_0 : i = 0
  · refine ztab_in C (k := 0) (tgt := 32) (by omega) s1_0 dSk_number_1 (by decide) (by decide) rfl (by decide) ?_
    refine lv_aload_n C.1 C.2.1 dSk_number_32 rfl (lv_at hl 0 rfl) ?_
    refine lv_iload_n C.1 C.2.1 dSk_number_33 rfl (lv_at hl 1 rfl) ?_
    refine zcalli (wr := []) C hW [0, 1, 2, 3, 4] [] rfl rfl (by decide) (by decide) (zRunV (k := 1) (As := [.int (zI k)]) (rest := []) C hW (c_Strokes_wayOf l D cI cG cL cB h0 a1 a2 a3 a4 th n ac Li Be En St k bLi bBe bEn bSt (by omega) (by omega) (by omega) (by omega) (by omega) H.size) [0, 1, 2, 3, 4] rfl (by decide) kSk_41 (by decide +kernel) ⟨by decide, by decide⟩ 0 rfl rfl rfl hl.1 (Nat.le_of_ble_eq_true rfl) dSk_number_34 ⟨by first | decide | omega, by first | decide | omega⟩) (fun x w H locs hq hW => ?_)
    obtain ⟨rfl, rfl⟩ := hq
    have hW : zw D zCl A s [(h0, .inr (7, [.int (zI th), .int (zI n), .int (zI ac), .ref a1, .ref a2, .ref a3, .ref a4])), (a1, .inl (cI, 1200, .inl (fI Li))), (a2, .inl (cI, 1200, .inl (fI Be))), (a3, .inl (cI, 1200, .inl (fI En))), (a4, .inl (cI, 1200, .inl (fI St)))] H locs := hW
    have hr1 := wayZ_01 ac k
    refine zi2l C (by omega) dSk_number_37 ?_
    exact hQ (zL (wayZ ac k)) _ H locs _ _ _ ls hW ⟨congrArg zL (by unfold numS; simp [*]), rfl⟩ (by omega) (by omega) dSk_number_38
  · by_cases s1_1 : i = 1
    · refine ztab_in C (k := 1) (tgt := 39) (by omega) s1_1 dSk_number_1 (by decide) (by decide) rfl (by decide) ?_
      refine lv_aload_n C.1 C.2.1 dSk_number_39 rfl (lv_at hl 0 rfl) ?_
      refine zget C hW 0 3 rfl rfl inSk (by decide) flSk_9 rfl dSk_number_40 ?_
      refine lv_iload_n C.1 C.2.1 dSk_number_43 rfl (lv_at hl 1 rfl) ?_
      refine ziald C hW 1 0 rfl rfl (by omega) (by omega) (by decide) dSk_number_44 ?_
      have hb2 := bLi k
      refine zi2l C (by omega) dSk_number_45 ?_
      exact hQ (zL (Li k)) _ H locs _ _ _ ls hW ⟨congrArg zL (by unfold numS; simp [*]), rfl⟩ (by omega) (by omega) dSk_number_46
    · by_cases s1_2 : i = 2
      · refine ztab_in C (k := 2) (tgt := 47) (by omega) s1_2 dSk_number_1 (by decide) (by decide) rfl (by decide) ?_
        refine lv_aload_n C.1 C.2.1 dSk_number_47 rfl (lv_at hl 0 rfl) ?_
        refine zget C hW 0 4 rfl rfl inSk (by decide) flSk_15 rfl dSk_number_48 ?_
        refine lv_iload_n C.1 C.2.1 dSk_number_51 rfl (lv_at hl 1 rfl) ?_
        refine ziald C hW 2 0 rfl rfl (by omega) (by omega) (by decide) dSk_number_52 ?_
        have hb3 := bBe k
        refine zi2l C (by omega) dSk_number_53 ?_
        exact hQ (zL (Be k)) _ H locs _ _ _ ls hW ⟨congrArg zL (by unfold numS; simp [*]), rfl⟩ (by omega) (by omega) dSk_number_54
      · by_cases s1_3 : i = 3
        · refine ztab_in C (k := 3) (tgt := 55) (by omega) s1_3 dSk_number_1 (by decide) (by decide) rfl (by decide) ?_
          refine lv_aload_n C.1 C.2.1 dSk_number_55 rfl (lv_at hl 0 rfl) ?_
          refine zget C hW 0 5 rfl rfl inSk (by decide) flSk_18 rfl dSk_number_56 ?_
          refine lv_iload_n C.1 C.2.1 dSk_number_59 rfl (lv_at hl 1 rfl) ?_
          refine ziald C hW 3 0 rfl rfl (by omega) (by omega) (by decide) dSk_number_60 ?_
          have hb4 := bEn k
          refine zi2l C (by omega) dSk_number_61 ?_
          exact hQ (zL (En k)) _ H locs _ _ _ ls hW ⟨congrArg zL (by unfold numS; simp [*]), rfl⟩ (by omega) (by omega) dSk_number_62
        · refine ztab_out C (tgt := 63) (by omega) (by omega) dSk_number_1 (by decide) ?_
          refine lv_aload_n C.1 C.2.1 dSk_number_63 rfl (lv_at hl 0 rfl) ?_
          refine zget C hW 0 6 rfl rfl inSk (by decide) flSk_21 rfl dSk_number_64 ?_
          refine lv_iload_n C.1 C.2.1 dSk_number_67 rfl (lv_at hl 1 rfl) ?_
          refine ziald C hW 4 0 rfl rfl (by omega) (by omega) (by decide) dSk_number_68 ?_
          have hb5 := bSt k
          refine zi2l C (by omega) dSk_number_69 ?_
          exact hQ (zL (St k)) _ H locs _ _ _ ls hW ⟨congrArg zL (by unfold numS; simp [*]), rfl⟩ (by omega) (by omega) dSk_number_70
set_option maxHeartbeats 4000000 in
set_option maxRecDepth 100000 in
theorem c_Strokes_stateAt (l : Launch) (D : va_G) (cI cG cL cB : ClassId) (h0 : Nat) (a1 : Nat) (a2 : Nat) (a3 : Nat) (a4 : Nat) (th : Int) (n : Int) (ac : Int) (Li : Int → Int) (Be : Int → Int) (En : Int → Int) (St : Int → Int) (wy : Int) (y : Int) (q : Int) (bLi : ∀ j : Int, I32 (Li j)) (bBe : ∀ j : Int, I32 (Be j)) (bEn : ∀ j : Int, I32 (En j)) (bSt : ∀ j : Int, I32 (St j)) (hn0 : 0 ≤ n) (hn1 : n ≤ 1200) (ha0 : 0 ≤ ac) (ha1 : ac ≤ n) (hIwy : I32 wy) (hJy : I64 y) (hJq : I64 q) : Ci l ySk_stateAt cSk_stateAt 8 (some .int) 1 0 0 D zCl (zT cI cG cL cB) [.ref h0, .int (zI wy), .long (zL y), .long (zL q)] [(h0, .inr (7, [.int (zI th), .int (zI n), .int (zI ac), .ref a1, .ref a2, .ref a3, .ref a4])), (a1, .inl (cI, 1200, .inl (fI Li))), (a2, .inl (cI, 1200, .inl (fI Be))), (a3, .inl (cI, 1200, .inl (fI En))), (a4, .inl (cI, 1200, .inl (fI St)))] (fun x w => x = zI (foldZ (stF ac Li Be En St wy y q) 2 n) ∧ w = [(h0, .inr (7, [.int (zI th), .int (zI n), .int (zI ac), .ref a1, .ref a2, .ref a3, .ref a4])), (a1, .inl (cI, 1200, .inl (fI Li))), (a2, .inl (cI, 1200, .inl (fI Be))), (a3, .inl (cI, 1200, .inl (fI En))), (a4, .inl (cI, 1200, .inl (fI St)))]) := by
  refine zBi (by decide) (Nat.le_of_ble_eq_true rfl) ?_
  intro p e s m args below meth c ls A H locs Q C hin hl hW hQ
  have hl : lv_has ls 8 [(0, .ref h0), (1, .int (zI wy)), (2, .long (zL y)), (4, .long (zL q))] := hl
  refine lv_iconst (v := zI 2) C.1 C.2.1 dSk_stateAt_0 (by decide) ?_
  refine lv_istore (lv' := [(6, .int (zI 2)), (0, .ref h0), (1, .int (zI wy)), (2, .long (zL y)), (4, .long (zL q))]) C.1 C.2.1 dSk_stateAt_1 hl (by decide) rfl (fun ls hl => ?_)
  refine lv_iconst (v := zI 0) C.1 C.2.1 dSk_stateAt_3 (by decide) ?_
  refine lv_istore (lv' := [(7, .int (zI 0)), (6, .int (zI 2)), (0, .ref h0), (1, .int (zI wy)), (2, .long (zL y)), (4, .long (zL q))]) C.1 C.2.1 dSk_stateAt_4 hl (by decide) rfl (fun ls hl => ?_)
  have L6 : ∀ (N : Nat) (i : Int) (x : Int), (n - i).toNat < N → (0 ≤ i) → (i ≤ n) → (x = foldZ (stF ac Li Be En St wy y q) 2 i) → (I32 x) → ∀ (ls : Array Slot) (H : Heap) (locs : List Loc), lv_has ls 8 [(7, .int (zI i)), (6, .int (zI x)), (0, .ref h0), (1, .int (zI wy)), (2, .long (zL y)), (4, .long (zL q))] → zw D zCl A s [(h0, .inr (7, [.int (zI th), .int (zI n), .int (zI ac), .ref a1, .ref a2, .ref a3, .ref a4])), (a1, .inl (cI, 1200, .inl (fI Li))), (a2, .inl (cI, 1200, .inl (fI Be))), (a3, .inl (cI, 1200, .inl (fI En))), (a4, .inl (cI, 1200, .inl (fI St)))] H locs → W p l e (zr 1 0 0) s m args below meth c H locs 0 0 Q (F0 m 6 ls []) := by
    intro N
    induction N with
    | zero => intro i x hm; exact absurd hm (Nat.not_lt_zero _)
    | succ N ih6 =>
      intro i x hm6 hi0 hi1 hx hxb ls H locs hl hW
      refine lv_iload C.1 C.2.1 dSk_stateAt_6 (lv_at hl 0 rfl) ?_
      refine lv_aload_n C.1 C.2.1 dSk_stateAt_8 rfl (lv_at hl 2 rfl) ?_
      refine zget C hW 0 1 rfl rfl inSk (by decide) flSk_24 rfl dSk_stateAt_9 ?_
      refine zicmp_ge (tgt := 86) C (by omega) (by omega) dSk_stateAt_12 (by decide) (fun c12 => ?_) (fun c12 => ?_)
      · refine lv_iload C.1 C.2.1 dSk_stateAt_86 (lv_at hl 1 rfl) ?_
        exact hQ (zI x) _ H locs _ _ _ ls hW ⟨congrArg zI (by rw [hx, show n = i by omega]), rfl⟩ (by omega) (by omega) dSk_stateAt_88
      · refine lv_aload_n C.1 C.2.1 dSk_stateAt_15 rfl (lv_at hl 2 rfl) ?_
        refine lv_iload C.1 C.2.1 dSk_stateAt_16 (lv_at hl 0 rfl) ?_
        refine zcalli (wr := []) C hW [0, 1, 2, 3, 4] [] rfl rfl (by decide) (by decide) (zRunV (k := 1) (As := [.int (zI i)]) (rest := []) C hW (c_Strokes_wayOf l D cI cG cL cB h0 a1 a2 a3 a4 th n ac Li Be En St i bLi bBe bEn bSt (by omega) (by omega) (by omega) (by omega) (by omega) H.size) [0, 1, 2, 3, 4] rfl (by decide) kSk_41 (by decide +kernel) ⟨by decide, by decide⟩ 0 rfl rfl rfl hl.1 (Nat.le_of_ble_eq_true rfl) dSk_stateAt_18 ⟨by first | decide | omega, by first | decide | omega⟩) (fun x w H locs hq hW => ?_)
        obtain ⟨rfl, rfl⟩ := hq
        have hW : zw D zCl A s [(h0, .inr (7, [.int (zI th), .int (zI n), .int (zI ac), .ref a1, .ref a2, .ref a3, .ref a4])), (a1, .inl (cI, 1200, .inl (fI Li))), (a2, .inl (cI, 1200, .inl (fI Be))), (a3, .inl (cI, 1200, .inl (fI En))), (a4, .inl (cI, 1200, .inl (fI St)))] H locs := hW
        have hr1 := wayZ_01 ac i
        refine lv_iload_n C.1 C.2.1 dSk_stateAt_21 rfl (lv_at hl 3 rfl) ?_
        refine zicmp_ne (tgt := 80) C (by omega) (by omega) dSk_stateAt_22 (by decide) (fun c22 => ?_) (fun c22 => ?_)
        · refine lv_iinc (v := zI (i + 1)) (lv' := [(7, .int (zI (i + 1))), (6, .int (zI x)), (0, .ref h0), (1, .int (zI wy)), (2, .long (zL y)), (4, .long (zL q))]) C.1 C.2.1 dSk_stateAt_80 hl (k := 0) rfl (zI_add i 1) (by decide) rfl (fun ls hl => ?_)
          refine lv_goto (tgt := 6) C.1 C.2.1 dSk_stateAt_83 (by decide) ?_
          exact ih6 (i + 1) x (by omega) (by omega) (by omega) (by rw [foldZ_s _ _ hi0, ← hx]; unfold stF; first | rw [if_pos (by omega)] | rw [if_neg (by omega)]) (by omega) ls H locs (lv_sub hl [0, 1, 2, 3, 4, 5] rfl) hW
        · refine lv_aload_n C.1 C.2.1 dSk_stateAt_25 rfl (lv_at hl 2 rfl) ?_
          refine zget C hW 0 3 rfl rfl inSk (by decide) flSk_9 rfl dSk_stateAt_26 ?_
          refine lv_iload C.1 C.2.1 dSk_stateAt_29 (lv_at hl 0 rfl) ?_
          refine ziald C hW 1 0 rfl rfl (by omega) (by omega) (by decide) dSk_stateAt_31 ?_
          have hb2 := bLi i
          refine zi2l C (by omega) dSk_stateAt_32 ?_
          refine lv_lload_n C.1 C.2.1 dSk_stateAt_33 rfl (lv_at hl 4 rfl) ?_
          refine zlcmp_ne (tgt := 80) C (by omega) (by omega) dSk_stateAt_34 dSk_stateAt_35 (by decide) (fun c34 => ?_) (fun c34 => ?_)
          · refine lv_iinc (v := zI (i + 1)) (lv' := [(7, .int (zI (i + 1))), (6, .int (zI x)), (0, .ref h0), (1, .int (zI wy)), (2, .long (zL y)), (4, .long (zL q))]) C.1 C.2.1 dSk_stateAt_80 hl (k := 0) rfl (zI_add i 1) (by decide) rfl (fun ls hl => ?_)
            refine lv_goto (tgt := 6) C.1 C.2.1 dSk_stateAt_83 (by decide) ?_
            exact ih6 (i + 1) x (by omega) (by omega) (by omega) (by rw [foldZ_s _ _ hi0, ← hx]; unfold stF; first | rw [if_pos (by omega)] | rw [if_neg (by omega)]) (by omega) ls H locs (lv_sub hl [0, 1, 2, 3, 4, 5] rfl) hW
          · refine lv_aload_n C.1 C.2.1 dSk_stateAt_38 rfl (lv_at hl 2 rfl) ?_
            refine zget C hW 0 4 rfl rfl inSk (by decide) flSk_15 rfl dSk_stateAt_39 ?_
            refine lv_iload C.1 C.2.1 dSk_stateAt_42 (lv_at hl 0 rfl) ?_
            refine ziald C hW 2 0 rfl rfl (by omega) (by omega) (by decide) dSk_stateAt_44 ?_
            have hb3 := bBe i
            refine zi2l C (by omega) dSk_stateAt_45 ?_
            refine lv_lload C.1 C.2.1 dSk_stateAt_46 (lv_at hl 5 rfl) ?_
            refine zlcmp_gt (tgt := 80) C (by omega) (by omega) dSk_stateAt_48 dSk_stateAt_49 (by decide) (fun c48 => ?_) (fun c48 => ?_)
            · refine lv_iinc (v := zI (i + 1)) (lv' := [(7, .int (zI (i + 1))), (6, .int (zI x)), (0, .ref h0), (1, .int (zI wy)), (2, .long (zL y)), (4, .long (zL q))]) C.1 C.2.1 dSk_stateAt_80 hl (k := 0) rfl (zI_add i 1) (by decide) rfl (fun ls hl => ?_)
              refine lv_goto (tgt := 6) C.1 C.2.1 dSk_stateAt_83 (by decide) ?_
              exact ih6 (i + 1) x (by omega) (by omega) (by omega) (by rw [foldZ_s _ _ hi0, ← hx]; unfold stF; first | rw [if_pos (by omega)] | rw [if_neg (by omega)]) (by omega) ls H locs (lv_sub hl [0, 1, 2, 3, 4, 5] rfl) hW
            · refine lv_lload C.1 C.2.1 dSk_stateAt_52 (lv_at hl 5 rfl) ?_
              refine lv_aload_n C.1 C.2.1 dSk_stateAt_54 rfl (lv_at hl 2 rfl) ?_
              refine zget C hW 0 5 rfl rfl inSk (by decide) flSk_18 rfl dSk_stateAt_55 ?_
              refine lv_iload C.1 C.2.1 dSk_stateAt_58 (lv_at hl 0 rfl) ?_
              refine ziald C hW 3 0 rfl rfl (by omega) (by omega) (by decide) dSk_stateAt_60 ?_
              have hb4 := bEn i
              refine zi2l C (by omega) dSk_stateAt_61 ?_
              refine zlcmp_gt (tgt := 80) C (by omega) (by omega) dSk_stateAt_62 dSk_stateAt_63 (by decide) (fun c62 => ?_) (fun c62 => ?_)
              · refine lv_iinc (v := zI (i + 1)) (lv' := [(7, .int (zI (i + 1))), (6, .int (zI x)), (0, .ref h0), (1, .int (zI wy)), (2, .long (zL y)), (4, .long (zL q))]) C.1 C.2.1 dSk_stateAt_80 hl (k := 0) rfl (zI_add i 1) (by decide) rfl (fun ls hl => ?_)
                refine lv_goto (tgt := 6) C.1 C.2.1 dSk_stateAt_83 (by decide) ?_
                exact ih6 (i + 1) x (by omega) (by omega) (by omega) (by rw [foldZ_s _ _ hi0, ← hx]; unfold stF; first | rw [if_pos (by omega)] | rw [if_neg (by omega)]) (by omega) ls H locs (lv_sub hl [0, 1, 2, 3, 4, 5] rfl) hW
              · refine lv_iload C.1 C.2.1 dSk_stateAt_66 (lv_at hl 1 rfl) ?_
                refine lv_aload_n C.1 C.2.1 dSk_stateAt_68 rfl (lv_at hl 2 rfl) ?_
                refine zget C hW 0 6 rfl rfl inSk (by decide) flSk_21 rfl dSk_stateAt_69 ?_
                refine lv_iload C.1 C.2.1 dSk_stateAt_72 (lv_at hl 0 rfl) ?_
                refine ziald C hW 4 0 rfl rfl (by omega) (by omega) (by decide) dSk_stateAt_74 ?_
                have hb5 := bSt i
                refine zmin C kmSk_45 hl.1 (by decide) (Nat.le_of_ble_eq_true rfl) (by first | decide | omega) (by first | decide | omega) (by omega) (by omega) dSk_stateAt_75 ?_
                refine lv_istore (lv' := [(6, .int (zI (min x (St i)))), (7, .int (zI i)), (0, .ref h0), (1, .int (zI wy)), (2, .long (zL y)), (4, .long (zL q))]) C.1 C.2.1 dSk_stateAt_78 hl (by decide) rfl (fun ls hl => ?_)
                refine lv_iinc (v := zI (i + 1)) (lv' := [(7, .int (zI (i + 1))), (6, .int (zI (min x (St i)))), (0, .ref h0), (1, .int (zI wy)), (2, .long (zL y)), (4, .long (zL q))]) C.1 C.2.1 dSk_stateAt_80 hl (k := 1) rfl (zI_add i 1) (by decide) rfl (fun ls hl => ?_)
                refine lv_goto (tgt := 6) C.1 C.2.1 dSk_stateAt_83 (by decide) ?_
                exact ih6 (i + 1) (min x (St i)) (by omega) (by omega) (by omega) (by rw [foldZ_s _ _ hi0, ← hx]; unfold stF; first | rw [if_pos (by omega)] | rw [if_neg (by omega)]) (by omega) ls H locs (lv_sub hl [0, 1, 2, 3, 4, 5] rfl) hW
  exact L6 ((n - 0).toNat + 1) 0 2 (Nat.lt_succ_self _) (by omega) (by omega) rfl (by omega) ls H locs (lv_sub hl [0, 1, 2, 3, 4, 5] rfl) hW
set_option maxHeartbeats 4000000 in
set_option maxRecDepth 100000 in
theorem c_Strokes_lengthOf (l : Launch) (D : va_G) (cI cG cL cB : ClassId) (h0 : Nat) (a1 : Nat) (a2 : Nat) (a3 : Nat) (a4 : Nat) (th : Int) (n : Int) (ac : Int) (Li : Int → Int) (Be : Int → Int) (En : Int → Int) (St : Int → Int) (wa : Int) (bLi : ∀ j : Int, I32 (Li j)) (bBe : ∀ j : Int, I32 (Be j)) (bEn : ∀ j : Int, I32 (En j)) (bSt : ∀ j : Int, I32 (St j)) (hn0 : 0 ≤ n) (hn1 : n ≤ 1200) (ha0 : 0 ≤ ac) (ha1 : ac ≤ n) (hIwa : I32 wa) (hBE : ∀ j, 0 ≤ j → j < n → I32 (En j - Be j)) : Cl l ySk_lengthOf cSk_lengthOf 5 (some .long) 0 0 0 D zCl (zT cI cG cL cB) [.ref h0, .int (zI wa)] [(h0, .inr (7, [.int (zI th), .int (zI n), .int (zI ac), .ref a1, .ref a2, .ref a3, .ref a4])), (a1, .inl (cI, 1200, .inl (fI Li))), (a2, .inl (cI, 1200, .inl (fI Be))), (a3, .inl (cI, 1200, .inl (fI En))), (a4, .inl (cI, 1200, .inl (fI St)))] (fun x w => x = zL (sumZ (lnS St Be En wa) n) ∧ w = [(h0, .inr (7, [.int (zI th), .int (zI n), .int (zI ac), .ref a1, .ref a2, .ref a3, .ref a4])), (a1, .inl (cI, 1200, .inl (fI Li))), (a2, .inl (cI, 1200, .inl (fI Be))), (a3, .inl (cI, 1200, .inl (fI En))), (a4, .inl (cI, 1200, .inl (fI St)))]) := by
  refine zBl (by decide) (Nat.le_of_ble_eq_true rfl) ?_
  intro p e s m args below meth c ls A H locs Q C hin hl hW hQ
  have hl : lv_has ls 5 [(0, .ref h0), (1, .int (zI wa))] := hl
  refine lv_lconst (v := zL 0) C.1 C.2.1 dSk_lengthOf_0 (by decide) ?_
  refine lv_lstore_n (lv' := [(2, .long (zL 0)), (0, .ref h0), (1, .int (zI wa))]) C.1 C.2.1 dSk_lengthOf_1 rfl hl (by decide) rfl (fun ls hl => ?_)
  refine lv_iconst (v := zI 0) C.1 C.2.1 dSk_lengthOf_2 (by decide) ?_
  refine lv_istore (lv' := [(4, .int (zI 0)), (2, .long (zL 0)), (0, .ref h0), (1, .int (zI wa))]) C.1 C.2.1 dSk_lengthOf_3 hl (by decide) rfl (fun ls hl => ?_)
  have L5 : ∀ (N : Nat) (i : Int) (x : Int), (n - i).toNat < N → (0 ≤ i) → (i ≤ n) → (x = sumZ (lnS St Be En wa) i) → ∀ (ls : Array Slot) (H : Heap) (locs : List Loc), lv_has ls 5 [(4, .int (zI i)), (2, .long (zL x)), (0, .ref h0), (1, .int (zI wa))] → zw D zCl A s [(h0, .inr (7, [.int (zI th), .int (zI n), .int (zI ac), .ref a1, .ref a2, .ref a3, .ref a4])), (a1, .inl (cI, 1200, .inl (fI Li))), (a2, .inl (cI, 1200, .inl (fI Be))), (a3, .inl (cI, 1200, .inl (fI En))), (a4, .inl (cI, 1200, .inl (fI St)))] H locs → W p l e (zr 0 0 0) s m args below meth c H locs 0 0 Q (F0 m 5 ls []) := by
    intro N
    induction N with
    | zero => intro i x hm; exact absurd hm (Nat.not_lt_zero _)
    | succ N ih5 =>
      intro i x hm5 hi0 hi1 hx ls H locs hl hW
      refine lv_iload C.1 C.2.1 dSk_lengthOf_5 (lv_at hl 0 rfl) ?_
      refine lv_aload_n C.1 C.2.1 dSk_lengthOf_7 rfl (lv_at hl 2 rfl) ?_
      refine zget C hW 0 1 rfl rfl inSk (by decide) flSk_24 rfl dSk_lengthOf_8 ?_
      refine zicmp_ge (tgt := 50) C (by omega) (by omega) dSk_lengthOf_11 (by decide) (fun c11 => ?_) (fun c11 => ?_)
      · refine lv_lload_n C.1 C.2.1 dSk_lengthOf_50 rfl (lv_at hl 1 rfl) ?_
        exact hQ (zL x) _ H locs _ _ _ ls hW ⟨congrArg zL (by rw [hx, show n = i by omega]), rfl⟩ (by omega) (by omega) dSk_lengthOf_51
      · refine lv_aload_n C.1 C.2.1 dSk_lengthOf_14 rfl (lv_at hl 2 rfl) ?_
        refine zget C hW 0 6 rfl rfl inSk (by decide) flSk_21 rfl dSk_lengthOf_15 ?_
        refine lv_iload C.1 C.2.1 dSk_lengthOf_18 (lv_at hl 0 rfl) ?_
        refine ziald C hW 4 0 rfl rfl (by omega) (by omega) (by decide) dSk_lengthOf_20 ?_
        have hb1 := bSt i
        refine lv_iload_n C.1 C.2.1 dSk_lengthOf_21 rfl (lv_at hl 3 rfl) ?_
        refine zicmp_ne (tgt := 44) C (by omega) (by omega) dSk_lengthOf_22 (by decide) (fun c22 => ?_) (fun c22 => ?_)
        · refine lv_iinc (v := zI (i + 1)) (lv' := [(4, .int (zI (i + 1))), (2, .long (zL x)), (0, .ref h0), (1, .int (zI wa))]) C.1 C.2.1 dSk_lengthOf_44 hl (k := 0) rfl (zI_add i 1) (by decide) rfl (fun ls hl => ?_)
          refine lv_goto (tgt := 5) C.1 C.2.1 dSk_lengthOf_47 (by decide) ?_
          exact ih5 (i + 1) x (by omega) (by omega) (by omega) (by rw [sumZ_s _ hi0, hx]; unfold lnS; first | rw [if_pos (by omega)] | rw [if_neg (by omega)]; omega) ls H locs (lv_sub hl [0, 1, 2, 3] rfl) hW
        · refine lv_lload_n C.1 C.2.1 dSk_lengthOf_25 rfl (lv_at hl 1 rfl) ?_
          refine lv_aload_n C.1 C.2.1 dSk_lengthOf_26 rfl (lv_at hl 2 rfl) ?_
          refine zget C hW 0 5 rfl rfl inSk (by decide) flSk_18 rfl dSk_lengthOf_27 ?_
          refine lv_iload C.1 C.2.1 dSk_lengthOf_30 (lv_at hl 0 rfl) ?_
          refine ziald C hW 3 0 rfl rfl (by omega) (by omega) (by decide) dSk_lengthOf_32 ?_
          have hb2 := bEn i
          refine lv_aload_n C.1 C.2.1 dSk_lengthOf_33 rfl (lv_at hl 2 rfl) ?_
          refine zget C hW 0 4 rfl rfl inSk (by decide) flSk_15 rfl dSk_lengthOf_34 ?_
          refine lv_iload C.1 C.2.1 dSk_lengthOf_37 (lv_at hl 0 rfl) ?_
          refine ziald C hW 2 0 rfl rfl (by omega) (by omega) (by decide) dSk_lengthOf_39 ?_
          have hb3 := bBe i
          refine zisub C dSk_lengthOf_40 ?_
          refine zi2l C (hBE i hi0 (by omega)) dSk_lengthOf_41 ?_
          refine zladd C dSk_lengthOf_42 ?_
          refine lv_lstore_n (lv' := [(2, .long (zL (x + ((En i) - (Be i))))), (4, .int (zI i)), (0, .ref h0), (1, .int (zI wa))]) C.1 C.2.1 dSk_lengthOf_43 rfl hl (by decide) rfl (fun ls hl => ?_)
          refine lv_iinc (v := zI (i + 1)) (lv' := [(4, .int (zI (i + 1))), (2, .long (zL (x + ((En i) - (Be i))))), (0, .ref h0), (1, .int (zI wa))]) C.1 C.2.1 dSk_lengthOf_44 hl (k := 1) rfl (zI_add i 1) (by decide) rfl (fun ls hl => ?_)
          refine lv_goto (tgt := 5) C.1 C.2.1 dSk_lengthOf_47 (by decide) ?_
          exact ih5 (i + 1) (x + ((En i) - (Be i))) (by omega) (by omega) (by omega) (by rw [sumZ_s _ hi0, hx]; unfold lnS; first | rw [if_pos (by omega)] | rw [if_neg (by omega)]; omega) ls H locs (lv_sub hl [0, 1, 2, 3] rfl) hW
  exact L5 ((n - 0).toNat + 1) 0 0 (Nat.lt_succ_self _) (by omega) (by omega) (sumZ_0 _).symm ls H locs (lv_sub hl [0, 1, 2, 3] rfl) hW
set_option maxHeartbeats 4000000 in
set_option maxRecDepth 100000 in
theorem c_Strokes_add (l : Launch) (D : va_G) (cI cG cL cB : ClassId) (h0 : Nat) (a1 : Nat) (a2 : Nat) (a3 : Nat) (a4 : Nat) (th : Int) (n : Int) (ac : Int) (Li : Int → Int) (Be : Int → Int) (En : Int → Int) (St : Int → Int) (wy : Int) (li : Int) (be : Int) (en : Int) (st : Int) (bLi : ∀ j : Int, I32 (Li j)) (bBe : ∀ j : Int, I32 (Be j)) (bEn : ∀ j : Int, I32 (En j)) (bSt : ∀ j : Int, I32 (St j)) (hn0 : 0 ≤ n) (hn1 : n ≤ 1200) (ha0 : 0 ≤ ac) (ha1 : ac ≤ n) (hIwy : I32 wy) (hIli : I32 li) (hIbe : I32 be) (hIen : I32 en) (hIst : I32 st) (hr : n < 1200) : Cv l ySk_add cSk_add 6 none 0 0 0 D zCl (zT cI cG cL cB) [.ref h0, .int (zI wy), .int (zI li), .int (zI be), .int (zI en), .int (zI st)] [(h0, .inr (7, [.int (zI th), .int (zI n), .int (zI ac), .ref a1, .ref a2, .ref a3, .ref a4])), (a1, .inl (cI, 1200, .inl (fI Li))), (a2, .inl (cI, 1200, .inl (fI Be))), (a3, .inl (cI, 1200, .inl (fI En))), (a4, .inl (cI, 1200, .inl (fI St)))] (fun w => w = [(h0, .inr (7, [.int (zI th), .int (zI (n + 1)), .int (zI (if wy = 0 then n + 1 else ac)), .ref a1, .ref a2, .ref a3, .ref a4])), (a1, .inl (cI, 1200, .inl (fI (upz Li n li)))), (a2, .inl (cI, 1200, .inl (fI (upz Be n be)))), (a3, .inl (cI, 1200, .inl (fI (upz En n en)))), (a4, .inl (cI, 1200, .inl (fI (upz St n st))))]) := by
  refine zBv (by decide) (Nat.le_of_ble_eq_true rfl) ?_
  intro p e s m args below meth c ls A H locs Q C hin hl hW hQ
  have hl : lv_has ls 6 [(0, .ref h0), (1, .int (zI wy)), (2, .int (zI li)), (3, .int (zI be)), (4, .int (zI en)), (5, .int (zI st))] := hl
  refine lv_aload_n C.1 C.2.1 dSk_add_0 rfl (lv_at hl 0 rfl) ?_
  refine zget C hW 0 1 rfl rfl inSk (by decide) flSk_24 rfl dSk_add_1 ?_
  refine lv_sipush (v := zI 1200) C.1 C.2.1 dSk_add_4 (by decide) ?_
  refine zicmp_lt (tgt := 11) C (by omega) (by omega) dSk_add_7 (by decide) (fun c7 => ?_) (fun c7 => ?_)
  · refine lv_aload_n C.1 C.2.1 dSk_add_11 rfl (lv_at hl 0 rfl) ?_
    refine zget C hW 0 3 rfl rfl inSk (by decide) flSk_9 rfl dSk_add_12 ?_
    refine lv_aload_n C.1 C.2.1 dSk_add_15 rfl (lv_at hl 0 rfl) ?_
    refine zget C hW 0 1 rfl rfl inSk (by decide) flSk_24 rfl dSk_add_16 ?_
    refine lv_iload_n C.1 C.2.1 dSk_add_19 rfl (lv_at hl 2 rfl) ?_
    refine ziast C hW 1 0 rfl rfl (by omega) (by omega) (by decide) dSk_add_20 (fun H locs hW => ?_)
    have hB1 : ∀ jj : Int, I32 ((upz Li n li) jj) := upz_b bLi (by omega)
    have hW : zw D zCl A s [(h0, .inr (7, [.int (zI th), .int (zI n), .int (zI ac), .ref a1, .ref a2, .ref a3, .ref a4])), (a1, .inl (cI, 1200, .inl (fI (upz Li n li)))), (a2, .inl (cI, 1200, .inl (fI Be))), (a3, .inl (cI, 1200, .inl (fI En))), (a4, .inl (cI, 1200, .inl (fI St)))] H locs := hW
    refine lv_aload_n C.1 C.2.1 dSk_add_21 rfl (lv_at hl 0 rfl) ?_
    refine zget C hW 0 4 rfl rfl inSk (by decide) flSk_15 rfl dSk_add_22 ?_
    refine lv_aload_n C.1 C.2.1 dSk_add_25 rfl (lv_at hl 0 rfl) ?_
    refine zget C hW 0 1 rfl rfl inSk (by decide) flSk_24 rfl dSk_add_26 ?_
    refine lv_iload_n C.1 C.2.1 dSk_add_29 rfl (lv_at hl 3 rfl) ?_
    refine ziast C hW 2 0 rfl rfl (by omega) (by omega) (by decide) dSk_add_30 (fun H locs hW => ?_)
    have hB2 : ∀ jj : Int, I32 ((upz Be n be) jj) := upz_b bBe (by omega)
    have hW : zw D zCl A s [(h0, .inr (7, [.int (zI th), .int (zI n), .int (zI ac), .ref a1, .ref a2, .ref a3, .ref a4])), (a1, .inl (cI, 1200, .inl (fI (upz Li n li)))), (a2, .inl (cI, 1200, .inl (fI (upz Be n be)))), (a3, .inl (cI, 1200, .inl (fI En))), (a4, .inl (cI, 1200, .inl (fI St)))] H locs := hW
    refine lv_aload_n C.1 C.2.1 dSk_add_31 rfl (lv_at hl 0 rfl) ?_
    refine zget C hW 0 5 rfl rfl inSk (by decide) flSk_18 rfl dSk_add_32 ?_
    refine lv_aload_n C.1 C.2.1 dSk_add_35 rfl (lv_at hl 0 rfl) ?_
    refine zget C hW 0 1 rfl rfl inSk (by decide) flSk_24 rfl dSk_add_36 ?_
    refine lv_iload C.1 C.2.1 dSk_add_39 (lv_at hl 4 rfl) ?_
    refine ziast C hW 3 0 rfl rfl (by omega) (by omega) (by decide) dSk_add_41 (fun H locs hW => ?_)
    have hB3 : ∀ jj : Int, I32 ((upz En n en) jj) := upz_b bEn (by omega)
    have hW : zw D zCl A s [(h0, .inr (7, [.int (zI th), .int (zI n), .int (zI ac), .ref a1, .ref a2, .ref a3, .ref a4])), (a1, .inl (cI, 1200, .inl (fI (upz Li n li)))), (a2, .inl (cI, 1200, .inl (fI (upz Be n be)))), (a3, .inl (cI, 1200, .inl (fI (upz En n en)))), (a4, .inl (cI, 1200, .inl (fI St)))] H locs := hW
    refine lv_aload_n C.1 C.2.1 dSk_add_42 rfl (lv_at hl 0 rfl) ?_
    refine zget C hW 0 6 rfl rfl inSk (by decide) flSk_21 rfl dSk_add_43 ?_
    refine lv_aload_n C.1 C.2.1 dSk_add_46 rfl (lv_at hl 0 rfl) ?_
    refine zget C hW 0 1 rfl rfl inSk (by decide) flSk_24 rfl dSk_add_47 ?_
    refine lv_iload C.1 C.2.1 dSk_add_50 (lv_at hl 5 rfl) ?_
    refine ziast C hW 4 0 rfl rfl (by omega) (by omega) (by decide) dSk_add_52 (fun H locs hW => ?_)
    have hB4 : ∀ jj : Int, I32 ((upz St n st) jj) := upz_b bSt (by omega)
    have hW : zw D zCl A s [(h0, .inr (7, [.int (zI th), .int (zI n), .int (zI ac), .ref a1, .ref a2, .ref a3, .ref a4])), (a1, .inl (cI, 1200, .inl (fI (upz Li n li)))), (a2, .inl (cI, 1200, .inl (fI (upz Be n be)))), (a3, .inl (cI, 1200, .inl (fI (upz En n en)))), (a4, .inl (cI, 1200, .inl (fI (upz St n st))))] H locs := hW
    refine lv_aload_n C.1 C.2.1 dSk_add_53 rfl (lv_at hl 0 rfl) ?_
    refine lv_dup C.1 C.2.1 dSk_add_54 rfl ?_
    refine zget C hW 0 1 rfl rfl inSk (by decide) flSk_24 rfl dSk_add_55 ?_
    refine lv_iconst (v := zI 1) C.1 C.2.1 dSk_add_58 (by decide) ?_
    refine ziadd C dSk_add_59 ?_
    refine zput C hW 0 1 tySk tySk_ok nmSk rfl rfl inSk (by decide) flSk_24 rfl rfl rfl rfl (Nat.le_of_ble_eq_true rfl) dSk_add_60 (fun H locs hW => ?_)
    have hW : zw D zCl A s [(h0, .inr (7, [.int (zI th), .int (zI (n + 1)), .int (zI ac), .ref a1, .ref a2, .ref a3, .ref a4])), (a1, .inl (cI, 1200, .inl (fI (upz Li n li)))), (a2, .inl (cI, 1200, .inl (fI (upz Be n be)))), (a3, .inl (cI, 1200, .inl (fI (upz En n en)))), (a4, .inl (cI, 1200, .inl (fI (upz St n st))))] H locs := hW
    refine lv_iload_n C.1 C.2.1 dSk_add_63 rfl (lv_at hl 1 rfl) ?_
    refine zif_ne (tgt := 75) C (by omega) dSk_add_64 (by decide) (fun c64 => ?_) (fun c64 => ?_)
    · exact hQ _ H locs _ _ _ ls hW (by first | rw [if_pos (by omega)] | rw [if_neg (by omega)]) (by omega) (by omega) dSk_add_75
    · refine lv_aload_n C.1 C.2.1 dSk_add_67 rfl (lv_at hl 0 rfl) ?_
      refine lv_aload_n C.1 C.2.1 dSk_add_68 rfl (lv_at hl 0 rfl) ?_
      refine zget C hW 0 1 rfl rfl inSk (by decide) flSk_24 rfl dSk_add_69 ?_
      refine zput C hW 0 2 tySk tySk_ok nmSk rfl rfl inSk (by decide) flSk_28 rfl rfl rfl rfl (Nat.le_of_ble_eq_true rfl) dSk_add_72 (fun H locs hW => ?_)
      have hW : zw D zCl A s [(h0, .inr (7, [.int (zI th), .int (zI (n + 1)), .int (zI (n + 1)), .ref a1, .ref a2, .ref a3, .ref a4])), (a1, .inl (cI, 1200, .inl (fI (upz Li n li)))), (a2, .inl (cI, 1200, .inl (fI (upz Be n be)))), (a3, .inl (cI, 1200, .inl (fI (upz En n en)))), (a4, .inl (cI, 1200, .inl (fI (upz St n st))))] H locs := hW
      exact hQ _ H locs _ _ _ ls hW (by first | rw [if_pos (by omega)] | rw [if_neg (by omega)]) (by omega) (by omega) dSk_add_75
  · exact False.elim (by omega)
