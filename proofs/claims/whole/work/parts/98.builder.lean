theorem dSb_init_0 : decode cSb_init 0 = .ok (.aload_n 0, 1) := by decide +kernel
theorem dSb_init_1 : decode cSb_init 1 = .ok (.bipush 16, 2) := by decide +kernel
theorem dSb_init_3 : decode cSb_init 3 = .ok (.invokespecial 1, 3) := by decide +kernel
theorem dSb_init_6 : decode cSb_init 6 = .ok (.return_, 1) := by decide +kernel
theorem dSb_setLength_0 : decode cSb_setLength 0 = .ok (.aload_n 0, 1) := by decide +kernel
theorem dSb_setLength_1 : decode cSb_setLength 1 = .ok (.iload_n 1, 1) := by decide +kernel
theorem dSb_setLength_2 : decode cSb_setLength 2 = .ok (.invokespecial 333, 3) := by decide +kernel
theorem dSb_setLength_5 : decode cSb_setLength 5 = .ok (.return_, 1) := by decide +kernel
theorem dSb_append_2_0 : decode cSb_append_2 0 = .ok (.aload_n 0, 1) := by decide +kernel
theorem dSb_append_2_1 : decode cSb_append_2 1 = .ok (.aload_n 1, 1) := by decide +kernel
theorem dSb_append_2_2 : decode cSb_append_2 2 = .ok (.invokespecial 29, 3) := by decide +kernel
theorem dSb_append_2_5 : decode cSb_append_2 5 = .ok (.pop, 1) := by decide +kernel
theorem dSb_append_2_6 : decode cSb_append_2 6 = .ok (.aload_n 0, 1) := by decide +kernel
theorem dSb_append_2_7 : decode cSb_append_2 7 = .ok (.areturn, 1) := by decide +kernel
theorem dSb_append_1_0 : decode cSb_append_1 0 = .ok (.aload_n 0, 1) := by decide +kernel
theorem dSb_append_1_1 : decode cSb_append_1 1 = .ok (.iload_n 1, 1) := by decide +kernel
theorem dSb_append_1_2 : decode cSb_append_1 2 = .ok (.invokespecial 53, 3) := by decide +kernel
theorem dSb_append_1_5 : decode cSb_append_1 5 = .ok (.pop, 1) := by decide +kernel
theorem dSb_append_1_6 : decode cSb_append_1 6 = .ok (.aload_n 0, 1) := by decide +kernel
theorem dSb_append_1_7 : decode cSb_append_1 7 = .ok (.areturn, 1) := by decide +kernel
theorem dSb_length_0 : decode cSb_length 0 = .ok (.aload_n 0, 1) := by decide +kernel
theorem dSb_length_1 : decode cSb_length 1 = .ok (.invokespecial 343, 3) := by decide +kernel
theorem dSb_length_4 : decode cSb_length 4 = .ok (.ireturn, 1) := by decide +kernel
theorem dSb_append_0_0 : decode cSb_append_0 0 = .ok (.aload_n 0, 1) := by decide +kernel
theorem dSb_append_0_1 : decode cSb_append_0 1 = .ok (.iload_n 1, 1) := by decide +kernel
theorem dSb_append_0_2 : decode cSb_append_0 2 = .ok (.invokespecial 50, 3) := by decide +kernel
theorem dSb_append_0_5 : decode cSb_append_0 5 = .ok (.pop, 1) := by decide +kernel
theorem dSb_append_0_6 : decode cSb_append_0 6 = .ok (.aload_n 0, 1) := by decide +kernel
theorem dSb_append_0_7 : decode cSb_append_0 7 = .ok (.areturn, 1) := by decide +kernel
theorem dSb_charAt_0 : decode cSb_charAt 0 = .ok (.aload_n 0, 1) := by decide +kernel
theorem dSb_charAt_1 : decode cSb_charAt 1 = .ok (.iload_n 1, 1) := by decide +kernel
theorem dSb_charAt_2 : decode cSb_charAt 2 = .ok (.invokespecial 329, 3) := by decide +kernel
theorem dSb_charAt_5 : decode cSb_charAt 5 = .ok (.ireturn, 1) := by decide +kernel
theorem dAs_init_0 : decode cAs_init 0 = .ok (.aload_n 0, 1) := by decide +kernel
theorem dAs_init_1 : decode cAs_init 1 = .ok (.invokespecial 3, 3) := by decide +kernel
theorem dAs_init_4 : decode cAs_init 4 = .ok (.getstatic 18, 3) := by decide +kernel
theorem dAs_init_7 : decode cAs_init 7 = .ok (.ifCond .eq 18, 3) := by decide +kernel
theorem dAs_init_10 : decode cAs_init 10 = .ok (.aload_n 0, 1) := by decide +kernel
theorem dAs_init_11 : decode cAs_init 11 = .ok (.iload_n 1, 1) := by decide +kernel
theorem dAs_init_12 : decode cAs_init 12 = .ok (.newarray .byte, 2) := by decide +kernel
theorem dAs_init_14 : decode cAs_init 14 = .ok (.putfield 15, 3) := by decide +kernel
theorem dAs_init_17 : decode cAs_init 17 = .ok (.aload_n 0, 1) := by decide +kernel
theorem dAs_init_18 : decode cAs_init 18 = .ok (.iconst 0, 1) := by decide +kernel
theorem dAs_init_19 : decode cAs_init 19 = .ok (.putfield 22, 3) := by decide +kernel
theorem dAs_init_22 : decode cAs_init 22 = .ok (.goto 16, 3) := by decide +kernel
theorem dAs_init_25 : decode cAs_init 25 = .ok (.aload_n 0, 1) := by decide +kernel
theorem dAs_init_26 : decode cAs_init 26 = .ok (.iload_n 1, 1) := by decide +kernel
theorem dAs_init_27 : decode cAs_init 27 = .ok (.invokestatic 26, 3) := by decide +kernel
theorem dAs_init_30 : decode cAs_init 30 = .ok (.putfield 15, 3) := by decide +kernel
theorem dAs_init_33 : decode cAs_init 33 = .ok (.aload_n 0, 1) := by decide +kernel
theorem dAs_init_34 : decode cAs_init 34 = .ok (.iconst 1, 1) := by decide +kernel
theorem dAs_init_35 : decode cAs_init 35 = .ok (.putfield 22, 3) := by decide +kernel
theorem dAs_init_38 : decode cAs_init 38 = .ok (.return_, 1) := by decide +kernel
theorem dAs_setLength_0 : decode cAs_setLength 0 = .ok (.iload_n 1, 1) := by decide +kernel
theorem dAs_setLength_1 : decode cAs_setLength 1 = .ok (.ifCond .ge 12, 3) := by decide +kernel
theorem dAs_setLength_4 : decode cAs_setLength 4 = .ok (.new 129, 3) := by decide +kernel
theorem dAs_setLength_7 : decode cAs_setLength 7 = .ok (.dup, 1) := by decide +kernel
theorem dAs_setLength_8 : decode cAs_setLength 8 = .ok (.iload_n 1, 1) := by decide +kernel
theorem dAs_setLength_9 : decode cAs_setLength 9 = .ok (.invokespecial 131, 3) := by decide +kernel
theorem dAs_setLength_12 : decode cAs_setLength 12 = .ok (.athrow, 1) := by decide +kernel
theorem dAs_setLength_13 : decode cAs_setLength 13 = .ok (.aload_n 0, 1) := by decide +kernel
theorem dAs_setLength_14 : decode cAs_setLength 14 = .ok (.iload_n 1, 1) := by decide +kernel
theorem dAs_setLength_15 : decode cAs_setLength 15 = .ok (.invokevirtual 100, 3) := by decide +kernel
theorem dAs_setLength_18 : decode cAs_setLength 18 = .ok (.aload_n 0, 1) := by decide +kernel
theorem dAs_setLength_19 : decode cAs_setLength 19 = .ok (.getfield 79, 3) := by decide +kernel
theorem dAs_setLength_22 : decode cAs_setLength 22 = .ok (.iload_n 1, 1) := by decide +kernel
theorem dAs_setLength_23 : decode cAs_setLength 23 = .ok (.if_icmp .ge 40, 3) := by decide +kernel
theorem dAs_setLength_26 : decode cAs_setLength 26 = .ok (.aload_n 0, 1) := by decide +kernel
theorem dAs_setLength_27 : decode cAs_setLength 27 = .ok (.invokevirtual 83, 3) := by decide +kernel
theorem dAs_setLength_30 : decode cAs_setLength 30 = .ok (.ifCond .eq 18, 3) := by decide +kernel
theorem dAs_setLength_33 : decode cAs_setLength 33 = .ok (.aload_n 0, 1) := by decide +kernel
theorem dAs_setLength_34 : decode cAs_setLength 34 = .ok (.getfield 15, 3) := by decide +kernel
theorem dAs_setLength_37 : decode cAs_setLength 37 = .ok (.aload_n 0, 1) := by decide +kernel
theorem dAs_setLength_38 : decode cAs_setLength 38 = .ok (.getfield 79, 3) := by decide +kernel
theorem dAs_setLength_41 : decode cAs_setLength 41 = .ok (.iload_n 1, 1) := by decide +kernel
theorem dAs_setLength_42 : decode cAs_setLength 42 = .ok (.invokestatic 133, 3) := by decide +kernel
theorem dAs_setLength_45 : decode cAs_setLength 45 = .ok (.goto 31, 3) := by decide +kernel
theorem dAs_setLength_48 : decode cAs_setLength 48 = .ok (.aload_n 0, 1) := by decide +kernel
theorem dAs_setLength_49 : decode cAs_setLength 49 = .ok (.getfield 15, 3) := by decide +kernel
theorem dAs_setLength_52 : decode cAs_setLength 52 = .ok (.aload_n 0, 1) := by decide +kernel
theorem dAs_setLength_53 : decode cAs_setLength 53 = .ok (.getfield 79, 3) := by decide +kernel
theorem dAs_setLength_56 : decode cAs_setLength 56 = .ok (.iload_n 1, 1) := by decide +kernel
theorem dAs_setLength_57 : decode cAs_setLength 57 = .ok (.invokestatic 137, 3) := by decide +kernel
theorem dAs_setLength_60 : decode cAs_setLength 60 = .ok (.goto 16, 3) := by decide +kernel
theorem dAs_setLength_63 : decode cAs_setLength 63 = .ok (.aload_n 0, 1) := by decide +kernel
theorem dAs_setLength_64 : decode cAs_setLength 64 = .ok (.getfield 79, 3) := by decide +kernel
theorem dAs_setLength_67 : decode cAs_setLength 67 = .ok (.iload_n 1, 1) := by decide +kernel
theorem dAs_setLength_68 : decode cAs_setLength 68 = .ok (.if_icmp .le 8, 3) := by decide +kernel
theorem dAs_setLength_71 : decode cAs_setLength 71 = .ok (.aload_n 0, 1) := by decide +kernel
theorem dAs_setLength_72 : decode cAs_setLength 72 = .ok (.iconst 1, 1) := by decide +kernel
theorem dAs_setLength_73 : decode cAs_setLength 73 = .ok (.putfield 73, 3) := by decide +kernel
theorem dAs_setLength_76 : decode cAs_setLength 76 = .ok (.aload_n 0, 1) := by decide +kernel
theorem dAs_setLength_77 : decode cAs_setLength 77 = .ok (.iload_n 1, 1) := by decide +kernel
theorem dAs_setLength_78 : decode cAs_setLength 78 = .ok (.putfield 79, 3) := by decide +kernel
theorem dAs_setLength_81 : decode cAs_setLength 81 = .ok (.return_, 1) := by decide +kernel
theorem dAs_append_2_0 : decode cAs_append_2 0 = .ok (.aload_n 1, 1) := by decide +kernel
theorem dAs_append_2_1 : decode cAs_append_2 1 = .ok (.ifnonnull 8, 3) := by decide +kernel
theorem dAs_append_2_4 : decode cAs_append_2 4 = .ok (.aload_n 0, 1) := by decide +kernel
theorem dAs_append_2_5 : decode cAs_append_2 5 = .ok (.invokevirtual 204, 3) := by decide +kernel
theorem dAs_append_2_8 : decode cAs_append_2 8 = .ok (.areturn, 1) := by decide +kernel
theorem dAs_append_2_9 : decode cAs_append_2 9 = .ok (.aload_n 1, 1) := by decide +kernel
theorem dAs_append_2_10 : decode cAs_append_2 10 = .ok (.invokevirtual 32, 3) := by decide +kernel
theorem dAs_append_2_13 : decode cAs_append_2 13 = .ok (.istore_n 2, 1) := by decide +kernel
theorem dAs_append_2_14 : decode cAs_append_2 14 = .ok (.aload_n 0, 1) := by decide +kernel
theorem dAs_append_2_15 : decode cAs_append_2 15 = .ok (.aload_n 0, 1) := by decide +kernel
theorem dAs_append_2_16 : decode cAs_append_2 16 = .ok (.getfield 79, 3) := by decide +kernel
theorem dAs_append_2_19 : decode cAs_append_2 19 = .ok (.iload_n 2, 1) := by decide +kernel
theorem dAs_append_2_20 : decode cAs_append_2 20 = .ok (.iadd, 1) := by decide +kernel
theorem dAs_append_2_21 : decode cAs_append_2 21 = .ok (.invokevirtual 100, 3) := by decide +kernel
theorem dAs_append_2_24 : decode cAs_append_2 24 = .ok (.aload_n 0, 1) := by decide +kernel
theorem dAs_append_2_25 : decode cAs_append_2 25 = .ok (.aload_n 0, 1) := by decide +kernel
theorem dAs_append_2_26 : decode cAs_append_2 26 = .ok (.getfield 79, 3) := by decide +kernel
theorem dAs_append_2_29 : decode cAs_append_2 29 = .ok (.aload_n 1, 1) := by decide +kernel
theorem dAs_append_2_30 : decode cAs_append_2 30 = .ok (.invokevirtual 208, 3) := by decide +kernel
theorem dAs_append_2_33 : decode cAs_append_2 33 = .ok (.aload_n 0, 1) := by decide +kernel
theorem dAs_append_2_34 : decode cAs_append_2 34 = .ok (.dup, 1) := by decide +kernel
theorem dAs_append_2_35 : decode cAs_append_2 35 = .ok (.getfield 79, 3) := by decide +kernel
theorem dAs_append_2_38 : decode cAs_append_2 38 = .ok (.iload_n 2, 1) := by decide +kernel
theorem dAs_append_2_39 : decode cAs_append_2 39 = .ok (.iadd, 1) := by decide +kernel
theorem dAs_append_2_40 : decode cAs_append_2 40 = .ok (.putfield 79, 3) := by decide +kernel
theorem dAs_append_2_43 : decode cAs_append_2 43 = .ok (.aload_n 0, 1) := by decide +kernel
theorem dAs_append_2_44 : decode cAs_append_2 44 = .ok (.areturn, 1) := by decide +kernel
theorem dAs_ensureCapacityInternal_0 : decode cAs_ensureCapacityInternal 0 = .ok (.aload_n 0, 1) := by decide +kernel
theorem dAs_ensureCapacityInternal_1 : decode cAs_ensureCapacityInternal 1 = .ok (.getfield 15, 3) := by decide +kernel
theorem dAs_ensureCapacityInternal_4 : decode cAs_ensureCapacityInternal 4 = .ok (.arraylength, 1) := by decide +kernel
theorem dAs_ensureCapacityInternal_5 : decode cAs_ensureCapacityInternal 5 = .ok (.aload_n 0, 1) := by decide +kernel
theorem dAs_ensureCapacityInternal_6 : decode cAs_ensureCapacityInternal 6 = .ok (.getfield 22, 3) := by decide +kernel
theorem dAs_ensureCapacityInternal_9 : decode cAs_ensureCapacityInternal 9 = .ok (.ishr, 1) := by decide +kernel
theorem dAs_ensureCapacityInternal_10 : decode cAs_ensureCapacityInternal 10 = .ok (.istore_n 2, 1) := by decide +kernel
theorem dAs_ensureCapacityInternal_11 : decode cAs_ensureCapacityInternal 11 = .ok (.iload_n 1, 1) := by decide +kernel
theorem dAs_ensureCapacityInternal_12 : decode cAs_ensureCapacityInternal 12 = .ok (.iload_n 2, 1) := by decide +kernel
theorem dAs_ensureCapacityInternal_13 : decode cAs_ensureCapacityInternal 13 = .ok (.isub, 1) := by decide +kernel
theorem dAs_ensureCapacityInternal_14 : decode cAs_ensureCapacityInternal 14 = .ok (.ifCond .le 24, 3) := by decide +kernel
theorem dAs_ensureCapacityInternal_17 : decode cAs_ensureCapacityInternal 17 = .ok (.aload_n 0, 1) := by decide +kernel
theorem dAs_ensureCapacityInternal_18 : decode cAs_ensureCapacityInternal 18 = .ok (.aload_n 0, 1) := by decide +kernel
theorem dAs_ensureCapacityInternal_19 : decode cAs_ensureCapacityInternal 19 = .ok (.getfield 15, 3) := by decide +kernel
theorem dAs_ensureCapacityInternal_22 : decode cAs_ensureCapacityInternal 22 = .ok (.aload_n 0, 1) := by decide +kernel
theorem dAs_ensureCapacityInternal_23 : decode cAs_ensureCapacityInternal 23 = .ok (.iload_n 1, 1) := by decide +kernel
theorem dAs_ensureCapacityInternal_24 : decode cAs_ensureCapacityInternal 24 = .ok (.invokevirtual 104, 3) := by decide +kernel
theorem dAs_ensureCapacityInternal_27 : decode cAs_ensureCapacityInternal 27 = .ok (.aload_n 0, 1) := by decide +kernel
theorem dAs_ensureCapacityInternal_28 : decode cAs_ensureCapacityInternal 28 = .ok (.getfield 22, 3) := by decide +kernel
theorem dAs_ensureCapacityInternal_31 : decode cAs_ensureCapacityInternal 31 = .ok (.ishl, 1) := by decide +kernel
theorem dAs_ensureCapacityInternal_32 : decode cAs_ensureCapacityInternal 32 = .ok (.invokestatic 108, 3) := by decide +kernel
theorem dAs_ensureCapacityInternal_35 : decode cAs_ensureCapacityInternal 35 = .ok (.putfield 15, 3) := by decide +kernel
theorem dAs_ensureCapacityInternal_38 : decode cAs_ensureCapacityInternal 38 = .ok (.return_, 1) := by decide +kernel
theorem dAs_newCapacity_0 : decode cAs_newCapacity 0 = .ok (.aload_n 0, 1) := by decide +kernel
theorem dAs_newCapacity_1 : decode cAs_newCapacity 1 = .ok (.getfield 15, 3) := by decide +kernel
theorem dAs_newCapacity_4 : decode cAs_newCapacity 4 = .ok (.arraylength, 1) := by decide +kernel
theorem dAs_newCapacity_5 : decode cAs_newCapacity 5 = .ok (.istore_n 2, 1) := by decide +kernel
theorem dAs_newCapacity_6 : decode cAs_newCapacity 6 = .ok (.iload_n 1, 1) := by decide +kernel
theorem dAs_newCapacity_7 : decode cAs_newCapacity 7 = .ok (.aload_n 0, 1) := by decide +kernel
theorem dAs_newCapacity_8 : decode cAs_newCapacity 8 = .ok (.getfield 22, 3) := by decide +kernel
theorem dAs_newCapacity_11 : decode cAs_newCapacity 11 = .ok (.ishl, 1) := by decide +kernel
theorem dAs_newCapacity_12 : decode cAs_newCapacity 12 = .ok (.istore_n 3, 1) := by decide +kernel
theorem dAs_newCapacity_13 : decode cAs_newCapacity 13 = .ok (.iload_n 3, 1) := by decide +kernel
theorem dAs_newCapacity_14 : decode cAs_newCapacity 14 = .ok (.iload_n 2, 1) := by decide +kernel
theorem dAs_newCapacity_15 : decode cAs_newCapacity 15 = .ok (.isub, 1) := by decide +kernel
theorem dAs_newCapacity_16 : decode cAs_newCapacity 16 = .ok (.istore 4, 2) := by decide +kernel
theorem dAs_newCapacity_18 : decode cAs_newCapacity 18 = .ok (.iload_n 2, 1) := by decide +kernel
theorem dAs_newCapacity_19 : decode cAs_newCapacity 19 = .ok (.iload 4, 2) := by decide +kernel
theorem dAs_newCapacity_21 : decode cAs_newCapacity 21 = .ok (.iload_n 2, 1) := by decide +kernel
theorem dAs_newCapacity_22 : decode cAs_newCapacity 22 = .ok (.iconst 2, 1) := by decide +kernel
theorem dAs_newCapacity_23 : decode cAs_newCapacity 23 = .ok (.aload_n 0, 1) := by decide +kernel
theorem dAs_newCapacity_24 : decode cAs_newCapacity 24 = .ok (.getfield 22, 3) := by decide +kernel
theorem dAs_newCapacity_27 : decode cAs_newCapacity 27 = .ok (.ishl, 1) := by decide +kernel
theorem dAs_newCapacity_28 : decode cAs_newCapacity 28 = .ok (.iadd, 1) := by decide +kernel
theorem dAs_newCapacity_29 : decode cAs_newCapacity 29 = .ok (.invokestatic 114, 3) := by decide +kernel
theorem dAs_newCapacity_32 : decode cAs_newCapacity 32 = .ok (.istore 5, 2) := by decide +kernel
theorem dAs_newCapacity_34 : decode cAs_newCapacity 34 = .ok (.iload 5, 2) := by decide +kernel
theorem dAs_newCapacity_36 : decode cAs_newCapacity 36 = .ok (.ldc 39, 2) := by decide +kernel
theorem dAs_newCapacity_38 : decode cAs_newCapacity 38 = .ok (.if_icmp .ne 13, 3) := by decide +kernel
theorem dAs_newCapacity_41 : decode cAs_newCapacity 41 = .ok (.new 120, 3) := by decide +kernel
theorem dAs_newCapacity_44 : decode cAs_newCapacity 44 = .ok (.dup, 1) := by decide +kernel
theorem dAs_newCapacity_45 : decode cAs_newCapacity 45 = .ok (.ldc 122, 2) := by decide +kernel
theorem dAs_newCapacity_47 : decode cAs_newCapacity 47 = .ok (.invokespecial 124, 3) := by decide +kernel
theorem dAs_newCapacity_50 : decode cAs_newCapacity 50 = .ok (.athrow, 1) := by decide +kernel
theorem dAs_newCapacity_51 : decode cAs_newCapacity 51 = .ok (.iload 5, 2) := by decide +kernel
theorem dAs_newCapacity_53 : decode cAs_newCapacity 53 = .ok (.aload_n 0, 1) := by decide +kernel
theorem dAs_newCapacity_54 : decode cAs_newCapacity 54 = .ok (.getfield 22, 3) := by decide +kernel
theorem dAs_newCapacity_57 : decode cAs_newCapacity 57 = .ok (.ishr, 1) := by decide +kernel
theorem dAs_newCapacity_58 : decode cAs_newCapacity 58 = .ok (.ireturn, 1) := by decide +kernel
theorem dAs_isLatin1_0 : decode cAs_isLatin1 0 = .ok (.getstatic 18, 3) := by decide +kernel
theorem dAs_isLatin1_3 : decode cAs_isLatin1 3 = .ok (.ifCond .eq 14, 3) := by decide +kernel
theorem dAs_isLatin1_6 : decode cAs_isLatin1 6 = .ok (.aload_n 0, 1) := by decide +kernel
theorem dAs_isLatin1_7 : decode cAs_isLatin1 7 = .ok (.getfield 22, 3) := by decide +kernel
theorem dAs_isLatin1_10 : decode cAs_isLatin1 10 = .ok (.ifCond .ne 7, 3) := by decide +kernel
theorem dAs_isLatin1_13 : decode cAs_isLatin1 13 = .ok (.iconst 1, 1) := by decide +kernel
theorem dAs_isLatin1_14 : decode cAs_isLatin1 14 = .ok (.goto 4, 3) := by decide +kernel
theorem dAs_isLatin1_17 : decode cAs_isLatin1 17 = .ok (.iconst 0, 1) := by decide +kernel
theorem dAs_isLatin1_18 : decode cAs_isLatin1 18 = .ok (.ireturn, 1) := by decide +kernel
theorem dAs_append_1_0 : decode cAs_append_1 0 = .ok (.aload_n 0, 1) := by decide +kernel
theorem dAs_append_1_1 : decode cAs_append_1 1 = .ok (.getfield 79, 3) := by decide +kernel
theorem dAs_append_1_4 : decode cAs_append_1 4 = .ok (.istore_n 2, 1) := by decide +kernel
theorem dAs_append_1_5 : decode cAs_append_1 5 = .ok (.iload_n 2, 1) := by decide +kernel
theorem dAs_append_1_6 : decode cAs_append_1 6 = .ok (.iload_n 1, 1) := by decide +kernel
theorem dAs_append_1_7 : decode cAs_append_1 7 = .ok (.invokestatic 245, 3) := by decide +kernel
theorem dAs_append_1_10 : decode cAs_append_1 10 = .ok (.iadd, 1) := by decide +kernel
theorem dAs_append_1_11 : decode cAs_append_1 11 = .ok (.istore_n 3, 1) := by decide +kernel
theorem dAs_append_1_12 : decode cAs_append_1 12 = .ok (.aload_n 0, 1) := by decide +kernel
theorem dAs_append_1_13 : decode cAs_append_1 13 = .ok (.iload_n 3, 1) := by decide +kernel
theorem dAs_append_1_14 : decode cAs_append_1 14 = .ok (.invokevirtual 100, 3) := by decide +kernel
theorem dAs_append_1_17 : decode cAs_append_1 17 = .ok (.aload_n 0, 1) := by decide +kernel
theorem dAs_append_1_18 : decode cAs_append_1 18 = .ok (.invokevirtual 83, 3) := by decide +kernel
theorem dAs_append_1_21 : decode cAs_append_1 21 = .ok (.ifCond .eq 16, 3) := by decide +kernel
theorem dAs_append_1_24 : decode cAs_append_1 24 = .ok (.iload_n 1, 1) := by decide +kernel
theorem dAs_append_1_25 : decode cAs_append_1 25 = .ok (.iload_n 3, 1) := by decide +kernel
theorem dAs_append_1_26 : decode cAs_append_1 26 = .ok (.aload_n 0, 1) := by decide +kernel
theorem dAs_append_1_27 : decode cAs_append_1 27 = .ok (.getfield 15, 3) := by decide +kernel
theorem dAs_append_1_30 : decode cAs_append_1 30 = .ok (.invokestatic 248, 3) := by decide +kernel
theorem dAs_append_1_33 : decode cAs_append_1 33 = .ok (.pop, 1) := by decide +kernel
theorem dAs_append_1_34 : decode cAs_append_1 34 = .ok (.goto 14, 3) := by decide +kernel
theorem dAs_append_1_37 : decode cAs_append_1 37 = .ok (.iload_n 1, 1) := by decide +kernel
theorem dAs_append_1_38 : decode cAs_append_1 38 = .ok (.iload_n 2, 1) := by decide +kernel
theorem dAs_append_1_39 : decode cAs_append_1 39 = .ok (.iload_n 3, 1) := by decide +kernel
theorem dAs_append_1_40 : decode cAs_append_1 40 = .ok (.aload_n 0, 1) := by decide +kernel
theorem dAs_append_1_41 : decode cAs_append_1 41 = .ok (.getfield 15, 3) := by decide +kernel
theorem dAs_append_1_44 : decode cAs_append_1 44 = .ok (.invokestatic 251, 3) := by decide +kernel
theorem dAs_append_1_47 : decode cAs_append_1 47 = .ok (.pop, 1) := by decide +kernel
theorem dAs_append_1_48 : decode cAs_append_1 48 = .ok (.aload_n 0, 1) := by decide +kernel
theorem dAs_append_1_49 : decode cAs_append_1 49 = .ok (.iload_n 3, 1) := by decide +kernel
theorem dAs_append_1_50 : decode cAs_append_1 50 = .ok (.putfield 79, 3) := by decide +kernel
theorem dAs_append_1_53 : decode cAs_append_1 53 = .ok (.aload_n 0, 1) := by decide +kernel
theorem dAs_append_1_54 : decode cAs_append_1 54 = .ok (.areturn, 1) := by decide +kernel
theorem dAs_length_0 : decode cAs_length 0 = .ok (.aload_n 0, 1) := by decide +kernel
theorem dAs_length_1 : decode cAs_length 1 = .ok (.getfield 79, 3) := by decide +kernel
theorem dAs_length_4 : decode cAs_length 4 = .ok (.ireturn, 1) := by decide +kernel
theorem dAs_append_0_0 : decode cAs_append_0 0 = .ok (.aload_n 0, 1) := by decide +kernel
theorem dAs_append_0_1 : decode cAs_append_0 1 = .ok (.aload_n 0, 1) := by decide +kernel
theorem dAs_append_0_2 : decode cAs_append_0 2 = .ok (.getfield 79, 3) := by decide +kernel
theorem dAs_append_0_5 : decode cAs_append_0 5 = .ok (.iconst 1, 1) := by decide +kernel
theorem dAs_append_0_6 : decode cAs_append_0 6 = .ok (.iadd, 1) := by decide +kernel
theorem dAs_append_0_7 : decode cAs_append_0 7 = .ok (.invokevirtual 100, 3) := by decide +kernel
theorem dAs_append_0_10 : decode cAs_append_0 10 = .ok (.aload_n 0, 1) := by decide +kernel
theorem dAs_append_0_11 : decode cAs_append_0 11 = .ok (.invokevirtual 83, 3) := by decide +kernel
theorem dAs_append_0_14 : decode cAs_append_0 14 = .ok (.ifCond .eq 31, 3) := by decide +kernel
theorem dAs_append_0_17 : decode cAs_append_0 17 = .ok (.iload_n 1, 1) := by decide +kernel
theorem dAs_append_0_18 : decode cAs_append_0 18 = .ok (.invokestatic 191, 3) := by decide +kernel
theorem dAs_append_0_21 : decode cAs_append_0 21 = .ok (.ifCond .eq 24, 3) := by decide +kernel
theorem dAs_append_0_24 : decode cAs_append_0 24 = .ok (.aload_n 0, 1) := by decide +kernel
theorem dAs_append_0_25 : decode cAs_append_0 25 = .ok (.getfield 15, 3) := by decide +kernel
theorem dAs_append_0_28 : decode cAs_append_0 28 = .ok (.aload_n 0, 1) := by decide +kernel
theorem dAs_append_0_29 : decode cAs_append_0 29 = .ok (.dup, 1) := by decide +kernel
theorem dAs_append_0_30 : decode cAs_append_0 30 = .ok (.getfield 79, 3) := by decide +kernel
theorem dAs_append_0_33 : decode cAs_append_0 33 = .ok (.dup_x1, 1) := by decide +kernel
theorem dAs_append_0_34 : decode cAs_append_0 34 = .ok (.iconst 1, 1) := by decide +kernel
theorem dAs_append_0_35 : decode cAs_append_0 35 = .ok (.iadd, 1) := by decide +kernel
theorem dAs_append_0_36 : decode cAs_append_0 36 = .ok (.putfield 79, 3) := by decide +kernel
theorem dAs_append_0_39 : decode cAs_append_0 39 = .ok (.iload_n 1, 1) := by decide +kernel
theorem dAs_append_0_40 : decode cAs_append_0 40 = .ok (.i2b, 1) := by decide +kernel
theorem dAs_append_0_41 : decode cAs_append_0 41 = .ok (.bastore, 1) := by decide +kernel
theorem dAs_append_0_42 : decode cAs_append_0 42 = .ok (.goto 33, 3) := by decide +kernel
theorem dAs_append_0_45 : decode cAs_append_0 45 = .ok (.aload_n 0, 1) := by decide +kernel
theorem dAs_append_0_46 : decode cAs_append_0 46 = .ok (.invokevirtual 83, 3) := by decide +kernel
theorem dAs_append_0_49 : decode cAs_append_0 49 = .ok (.ifCond .eq 7, 3) := by decide +kernel
theorem dAs_append_0_52 : decode cAs_append_0 52 = .ok (.aload_n 0, 1) := by decide +kernel
theorem dAs_append_0_53 : decode cAs_append_0 53 = .ok (.invokevirtual 195, 3) := by decide +kernel
theorem dAs_append_0_56 : decode cAs_append_0 56 = .ok (.aload_n 0, 1) := by decide +kernel
theorem dAs_append_0_57 : decode cAs_append_0 57 = .ok (.getfield 15, 3) := by decide +kernel
theorem dAs_append_0_60 : decode cAs_append_0 60 = .ok (.aload_n 0, 1) := by decide +kernel
theorem dAs_append_0_61 : decode cAs_append_0 61 = .ok (.dup, 1) := by decide +kernel
theorem dAs_append_0_62 : decode cAs_append_0 62 = .ok (.getfield 79, 3) := by decide +kernel
theorem dAs_append_0_65 : decode cAs_append_0 65 = .ok (.dup_x1, 1) := by decide +kernel
theorem dAs_append_0_66 : decode cAs_append_0 66 = .ok (.iconst 1, 1) := by decide +kernel
theorem dAs_append_0_67 : decode cAs_append_0 67 = .ok (.iadd, 1) := by decide +kernel
theorem dAs_append_0_68 : decode cAs_append_0 68 = .ok (.putfield 79, 3) := by decide +kernel
theorem dAs_append_0_71 : decode cAs_append_0 71 = .ok (.iload_n 1, 1) := by decide +kernel
theorem dAs_append_0_72 : decode cAs_append_0 72 = .ok (.invokestatic 197, 3) := by decide +kernel
theorem dAs_append_0_75 : decode cAs_append_0 75 = .ok (.aload_n 0, 1) := by decide +kernel
theorem dAs_append_0_76 : decode cAs_append_0 76 = .ok (.areturn, 1) := by decide +kernel
theorem dAs_charAt_0 : decode cAs_charAt 0 = .ok (.aload_n 0, 1) := by decide +kernel
theorem dAs_charAt_1 : decode cAs_charAt 1 = .ok (.getfield 22, 3) := by decide +kernel
theorem dAs_charAt_4 : decode cAs_charAt 4 = .ok (.istore_n 2, 1) := by decide +kernel
theorem dAs_charAt_5 : decode cAs_charAt 5 = .ok (.aload_n 0, 1) := by decide +kernel
theorem dAs_charAt_6 : decode cAs_charAt 6 = .ok (.getfield 15, 3) := by decide +kernel
theorem dAs_charAt_9 : decode cAs_charAt 9 = .ok (.astore_n 3, 1) := by decide +kernel
theorem dAs_charAt_10 : decode cAs_charAt 10 = .ok (.aload_n 0, 1) := by decide +kernel
theorem dAs_charAt_11 : decode cAs_charAt 11 = .ok (.getfield 79, 3) := by decide +kernel
theorem dAs_charAt_14 : decode cAs_charAt 14 = .ok (.aload_n 3, 1) := by decide +kernel
theorem dAs_charAt_15 : decode cAs_charAt 15 = .ok (.arraylength, 1) := by decide +kernel
theorem dAs_charAt_16 : decode cAs_charAt 16 = .ok (.iload_n 2, 1) := by decide +kernel
theorem dAs_charAt_17 : decode cAs_charAt 17 = .ok (.ishr, 1) := by decide +kernel
theorem dAs_charAt_18 : decode cAs_charAt 18 = .ok (.invokestatic 138, 3) := by decide +kernel
theorem dAs_charAt_21 : decode cAs_charAt 21 = .ok (.istore 4, 2) := by decide +kernel
theorem dAs_charAt_23 : decode cAs_charAt 23 = .ok (.iload_n 1, 1) := by decide +kernel
theorem dAs_charAt_24 : decode cAs_charAt 24 = .ok (.iload 4, 2) := by decide +kernel
theorem dAs_charAt_26 : decode cAs_charAt 26 = .ok (.invokestatic 144, 3) := by decide +kernel
theorem dAs_charAt_29 : decode cAs_charAt 29 = .ok (.iload_n 2, 1) := by decide +kernel
theorem dAs_charAt_30 : decode cAs_charAt 30 = .ok (.ifCond .ne 12, 3) := by decide +kernel
theorem dAs_charAt_33 : decode cAs_charAt 33 = .ok (.aload_n 3, 1) := by decide +kernel
theorem dAs_charAt_34 : decode cAs_charAt 34 = .ok (.iload_n 1, 1) := by decide +kernel
theorem dAs_charAt_35 : decode cAs_charAt 35 = .ok (.baload, 1) := by decide +kernel
theorem dAs_charAt_36 : decode cAs_charAt 36 = .ok (.sipush 255, 3) := by decide +kernel
theorem dAs_charAt_39 : decode cAs_charAt 39 = .ok (.iand, 1) := by decide +kernel
theorem dAs_charAt_40 : decode cAs_charAt 40 = .ok (.i2c, 1) := by decide +kernel
theorem dAs_charAt_41 : decode cAs_charAt 41 = .ok (.ireturn, 1) := by decide +kernel
theorem dAs_charAt_42 : decode cAs_charAt 42 = .ok (.aload_n 3, 1) := by decide +kernel
theorem dAs_charAt_43 : decode cAs_charAt 43 = .ok (.iload_n 1, 1) := by decide +kernel
theorem dAs_charAt_44 : decode cAs_charAt 44 = .ok (.invokestatic 148, 3) := by decide +kernel
theorem dAs_charAt_47 : decode cAs_charAt 47 = .ok (.ireturn, 1) := by decide +kernel
theorem dSl_canEncode_0 : decode cSl_canEncode 0 = .ok (.iload_n 0, 1) := by decide +kernel
theorem dSl_canEncode_1 : decode cSl_canEncode 1 = .ok (.sipush 255, 3) := by decide +kernel
theorem dSl_canEncode_4 : decode cSl_canEncode 4 = .ok (.if_icmp .gt 7, 3) := by decide +kernel
theorem dSl_canEncode_7 : decode cSl_canEncode 7 = .ok (.iconst 1, 1) := by decide +kernel
theorem dSl_canEncode_8 : decode cSl_canEncode 8 = .ok (.goto 4, 3) := by decide +kernel
theorem dSl_canEncode_11 : decode cSl_canEncode 11 = .ok (.iconst 0, 1) := by decide +kernel
theorem dSl_canEncode_12 : decode cSl_canEncode 12 = .ok (.ireturn, 1) := by decide +kernel
theorem dAy_copyOf_0 : decode cAy_copyOf 0 = .ok (.iload_n 1, 1) := by decide +kernel
theorem dAy_copyOf_1 : decode cAy_copyOf 1 = .ok (.aload_n 0, 1) := by decide +kernel
theorem dAy_copyOf_2 : decode cAy_copyOf 2 = .ok (.arraylength, 1) := by decide +kernel
theorem dAy_copyOf_3 : decode cAy_copyOf 3 = .ok (.if_icmp .ne 11, 3) := by decide +kernel
theorem dAy_copyOf_6 : decode cAy_copyOf 6 = .ok (.aload_n 0, 1) := by decide +kernel
theorem dAy_copyOf_7 : decode cAy_copyOf 7 = .ok (.invokevirtual 310, 3) := by decide +kernel
theorem dAy_copyOf_10 : decode cAy_copyOf 10 = .ok (.checkcast 311, 3) := by decide +kernel
theorem dAy_copyOf_13 : decode cAy_copyOf 13 = .ok (.areturn, 1) := by decide +kernel
theorem dAy_copyOf_14 : decode cAy_copyOf 14 = .ok (.iload_n 1, 1) := by decide +kernel
theorem dAy_copyOf_15 : decode cAy_copyOf 15 = .ok (.newarray .byte, 2) := by decide +kernel
theorem dAy_copyOf_17 : decode cAy_copyOf 17 = .ok (.astore_n 2, 1) := by decide +kernel
theorem dAy_copyOf_18 : decode cAy_copyOf 18 = .ok (.aload_n 0, 1) := by decide +kernel
theorem dAy_copyOf_19 : decode cAy_copyOf 19 = .ok (.iconst 0, 1) := by decide +kernel
theorem dAy_copyOf_20 : decode cAy_copyOf 20 = .ok (.aload_n 2, 1) := by decide +kernel
theorem dAy_copyOf_21 : decode cAy_copyOf 21 = .ok (.iconst 0, 1) := by decide +kernel
theorem dAy_copyOf_22 : decode cAy_copyOf 22 = .ok (.aload_n 0, 1) := by decide +kernel
theorem dAy_copyOf_23 : decode cAy_copyOf 23 = .ok (.arraylength, 1) := by decide +kernel
theorem dAy_copyOf_24 : decode cAy_copyOf 24 = .ok (.iload_n 1, 1) := by decide +kernel
theorem dAy_copyOf_25 : decode cAy_copyOf 25 = .ok (.invokestatic 304, 3) := by decide +kernel
theorem dAy_copyOf_28 : decode cAy_copyOf 28 = .ok (.invokestatic 150, 3) := by decide +kernel
theorem dAy_copyOf_31 : decode cAy_copyOf 31 = .ok (.aload_n 2, 1) := by decide +kernel
theorem dAy_copyOf_32 : decode cAy_copyOf 32 = .ok (.areturn, 1) := by decide +kernel
theorem dAp_newLength_0 : decode cAp_newLength 0 = .ok (.iload_n 0, 1) := by decide +kernel
theorem dAp_newLength_1 : decode cAp_newLength 1 = .ok (.iload_n 1, 1) := by decide +kernel
theorem dAp_newLength_2 : decode cAp_newLength 2 = .ok (.iload_n 2, 1) := by decide +kernel
theorem dAp_newLength_3 : decode cAp_newLength 3 = .ok (.invokestatic 194, 3) := by decide +kernel
theorem dAp_newLength_6 : decode cAp_newLength 6 = .ok (.iadd, 1) := by decide +kernel
theorem dAp_newLength_7 : decode cAp_newLength 7 = .ok (.istore_n 3, 1) := by decide +kernel
theorem dAp_newLength_8 : decode cAp_newLength 8 = .ok (.iconst 0, 1) := by decide +kernel
theorem dAp_newLength_9 : decode cAp_newLength 9 = .ok (.iload_n 3, 1) := by decide +kernel
theorem dAp_newLength_10 : decode cAp_newLength 10 = .ok (.if_icmp .ge 11, 3) := by decide +kernel
theorem dAp_newLength_13 : decode cAp_newLength 13 = .ok (.iload_n 3, 1) := by decide +kernel
theorem dAp_newLength_14 : decode cAp_newLength 14 = .ok (.ldc 200, 2) := by decide +kernel
theorem dAp_newLength_16 : decode cAp_newLength 16 = .ok (.if_icmp .gt 5, 3) := by decide +kernel
theorem dAp_newLength_19 : decode cAp_newLength 19 = .ok (.iload_n 3, 1) := by decide +kernel
theorem dAp_newLength_20 : decode cAp_newLength 20 = .ok (.ireturn, 1) := by decide +kernel
theorem dAp_newLength_21 : decode cAp_newLength 21 = .ok (.iload_n 0, 1) := by decide +kernel
theorem dAp_newLength_22 : decode cAp_newLength 22 = .ok (.iload_n 1, 1) := by decide +kernel
theorem dAp_newLength_23 : decode cAp_newLength 23 = .ok (.invokestatic 201, 3) := by decide +kernel
theorem dAp_newLength_26 : decode cAp_newLength 26 = .ok (.ireturn, 1) := by decide +kernel
theorem dSt_checkIndex_0 : decode cSt_checkIndex 0 = .ok (.iload_n 0, 1) := by decide +kernel
theorem dSt_checkIndex_1 : decode cSt_checkIndex 1 = .ok (.iload_n 1, 1) := by decide +kernel
theorem dSt_checkIndex_2 : decode cSt_checkIndex 2 = .ok (.getstatic 1053, 3) := by decide +kernel
theorem dSt_checkIndex_5 : decode cSt_checkIndex 5 = .ok (.invokestatic 1059, 3) := by decide +kernel
theorem dSt_checkIndex_8 : decode cSt_checkIndex 8 = .ok (.pop, 1) := by decide +kernel
theorem dSt_checkIndex_9 : decode cSt_checkIndex 9 = .ok (.return_, 1) := by decide +kernel
theorem dPr_checkIndex_0 : decode cPr_checkIndex 0 = .ok (.iload_n 0, 1) := by decide +kernel
theorem dPr_checkIndex_1 : decode cPr_checkIndex 1 = .ok (.ifCond .lt 8, 3) := by decide +kernel
theorem dPr_checkIndex_4 : decode cPr_checkIndex 4 = .ok (.iload_n 0, 1) := by decide +kernel
theorem dPr_checkIndex_5 : decode cPr_checkIndex 5 = .ok (.iload_n 1, 1) := by decide +kernel
theorem dPr_checkIndex_6 : decode cPr_checkIndex 6 = .ok (.if_icmp .lt 10, 3) := by decide +kernel
theorem dPr_checkIndex_9 : decode cPr_checkIndex 9 = .ok (.aload_n 2, 1) := by decide +kernel
theorem dPr_checkIndex_10 : decode cPr_checkIndex 10 = .ok (.iload_n 0, 1) := by decide +kernel
theorem dPr_checkIndex_11 : decode cPr_checkIndex 11 = .ok (.iload_n 1, 1) := by decide +kernel
theorem dPr_checkIndex_12 : decode cPr_checkIndex 12 = .ok (.invokestatic 95, 3) := by decide +kernel
theorem dPr_checkIndex_15 : decode cPr_checkIndex 15 = .ok (.athrow, 1) := by decide +kernel
theorem dPr_checkIndex_16 : decode cPr_checkIndex 16 = .ok (.iload_n 0, 1) := by decide +kernel
theorem dPr_checkIndex_17 : decode cPr_checkIndex 17 = .ok (.ireturn, 1) := by decide +kernel
theorem dIg_stringSize_0 : decode cIg_stringSize 0 = .ok (.iconst 1, 1) := by decide +kernel
theorem dIg_stringSize_1 : decode cIg_stringSize 1 = .ok (.istore_n 1, 1) := by decide +kernel
theorem dIg_stringSize_2 : decode cIg_stringSize 2 = .ok (.iload_n 0, 1) := by decide +kernel
theorem dIg_stringSize_3 : decode cIg_stringSize 3 = .ok (.ifCond .lt 8, 3) := by decide +kernel
theorem dIg_stringSize_6 : decode cIg_stringSize 6 = .ok (.iconst 0, 1) := by decide +kernel
theorem dIg_stringSize_7 : decode cIg_stringSize 7 = .ok (.istore_n 1, 1) := by decide +kernel
theorem dIg_stringSize_8 : decode cIg_stringSize 8 = .ok (.iload_n 0, 1) := by decide +kernel
theorem dIg_stringSize_9 : decode cIg_stringSize 9 = .ok (.ineg, 1) := by decide +kernel
theorem dIg_stringSize_10 : decode cIg_stringSize 10 = .ok (.istore_n 0, 1) := by decide +kernel
theorem dIg_stringSize_11 : decode cIg_stringSize 11 = .ok (.bipush (-10), 2) := by decide +kernel
theorem dIg_stringSize_13 : decode cIg_stringSize 13 = .ok (.istore_n 2, 1) := by decide +kernel
theorem dIg_stringSize_14 : decode cIg_stringSize 14 = .ok (.iconst 1, 1) := by decide +kernel
theorem dIg_stringSize_15 : decode cIg_stringSize 15 = .ok (.istore_n 3, 1) := by decide +kernel
theorem dIg_stringSize_16 : decode cIg_stringSize 16 = .ok (.iload_n 3, 1) := by decide +kernel
theorem dIg_stringSize_17 : decode cIg_stringSize 17 = .ok (.bipush 10, 2) := by decide +kernel
theorem dIg_stringSize_19 : decode cIg_stringSize 19 = .ok (.if_icmp .ge 23, 3) := by decide +kernel
theorem dIg_stringSize_22 : decode cIg_stringSize 22 = .ok (.iload_n 0, 1) := by decide +kernel
theorem dIg_stringSize_23 : decode cIg_stringSize 23 = .ok (.iload_n 2, 1) := by decide +kernel
theorem dIg_stringSize_24 : decode cIg_stringSize 24 = .ok (.if_icmp .le 7, 3) := by decide +kernel
theorem dIg_stringSize_27 : decode cIg_stringSize 27 = .ok (.iload_n 3, 1) := by decide +kernel
theorem dIg_stringSize_28 : decode cIg_stringSize 28 = .ok (.iload_n 1, 1) := by decide +kernel
theorem dIg_stringSize_29 : decode cIg_stringSize 29 = .ok (.iadd, 1) := by decide +kernel
theorem dIg_stringSize_30 : decode cIg_stringSize 30 = .ok (.ireturn, 1) := by decide +kernel
theorem dIg_stringSize_31 : decode cIg_stringSize 31 = .ok (.bipush 10, 2) := by decide +kernel
theorem dIg_stringSize_33 : decode cIg_stringSize 33 = .ok (.iload_n 2, 1) := by decide +kernel
theorem dIg_stringSize_34 : decode cIg_stringSize 34 = .ok (.imul, 1) := by decide +kernel
theorem dIg_stringSize_35 : decode cIg_stringSize 35 = .ok (.istore_n 2, 1) := by decide +kernel
theorem dIg_stringSize_36 : decode cIg_stringSize 36 = .ok (.iinc 3 1, 3) := by decide +kernel
theorem dIg_stringSize_39 : decode cIg_stringSize 39 = .ok (.goto (-23), 3) := by decide +kernel
theorem dIg_stringSize_42 : decode cIg_stringSize 42 = .ok (.bipush 10, 2) := by decide +kernel
theorem dIg_stringSize_44 : decode cIg_stringSize 44 = .ok (.iload_n 1, 1) := by decide +kernel
theorem dIg_stringSize_45 : decode cIg_stringSize 45 = .ok (.iadd, 1) := by decide +kernel
theorem dIg_stringSize_46 : decode cIg_stringSize 46 = .ok (.ireturn, 1) := by decide +kernel
theorem dIg_getChars_0 : decode cIg_getChars 0 = .ok (.iload_n 1, 1) := by decide +kernel
theorem dIg_getChars_1 : decode cIg_getChars 1 = .ok (.istore 5, 2) := by decide +kernel
theorem dIg_getChars_3 : decode cIg_getChars 3 = .ok (.iload_n 0, 1) := by decide +kernel
theorem dIg_getChars_4 : decode cIg_getChars 4 = .ok (.ifCond .ge 7, 3) := by decide +kernel
theorem dIg_getChars_7 : decode cIg_getChars 7 = .ok (.iconst 1, 1) := by decide +kernel
theorem dIg_getChars_8 : decode cIg_getChars 8 = .ok (.goto 4, 3) := by decide +kernel
theorem dIg_getChars_11 : decode cIg_getChars 11 = .ok (.iconst 0, 1) := by decide +kernel
theorem dIg_getChars_12 : decode cIg_getChars 12 = .ok (.istore 6, 2) := by decide +kernel
theorem dIg_getChars_14 : decode cIg_getChars 14 = .ok (.iload 6, 2) := by decide +kernel
theorem dIg_getChars_16 : decode cIg_getChars 16 = .ok (.ifCond .ne 6, 3) := by decide +kernel
theorem dIg_getChars_19 : decode cIg_getChars 19 = .ok (.iload_n 0, 1) := by decide +kernel
theorem dIg_getChars_20 : decode cIg_getChars 20 = .ok (.ineg, 1) := by decide +kernel
theorem dIg_getChars_21 : decode cIg_getChars 21 = .ok (.istore_n 0, 1) := by decide +kernel
theorem dIg_getChars_22 : decode cIg_getChars 22 = .ok (.iload_n 0, 1) := by decide +kernel
theorem dIg_getChars_23 : decode cIg_getChars 23 = .ok (.bipush (-100), 2) := by decide +kernel
theorem dIg_getChars_25 : decode cIg_getChars 25 = .ok (.if_icmp .gt 47, 3) := by decide +kernel
theorem dIg_getChars_28 : decode cIg_getChars 28 = .ok (.iload_n 0, 1) := by decide +kernel
theorem dIg_getChars_29 : decode cIg_getChars 29 = .ok (.bipush 100, 2) := by decide +kernel
theorem dIg_getChars_31 : decode cIg_getChars 31 = .ok (.idiv, 1) := by decide +kernel
theorem dIg_getChars_32 : decode cIg_getChars 32 = .ok (.istore_n 3, 1) := by decide +kernel
theorem dIg_getChars_33 : decode cIg_getChars 33 = .ok (.iload_n 3, 1) := by decide +kernel
theorem dIg_getChars_34 : decode cIg_getChars 34 = .ok (.bipush 100, 2) := by decide +kernel
theorem dIg_getChars_36 : decode cIg_getChars 36 = .ok (.imul, 1) := by decide +kernel
theorem dIg_getChars_37 : decode cIg_getChars 37 = .ok (.iload_n 0, 1) := by decide +kernel
theorem dIg_getChars_38 : decode cIg_getChars 38 = .ok (.isub, 1) := by decide +kernel
theorem dIg_getChars_39 : decode cIg_getChars 39 = .ok (.istore 4, 2) := by decide +kernel
theorem dIg_getChars_41 : decode cIg_getChars 41 = .ok (.iload_n 3, 1) := by decide +kernel
theorem dIg_getChars_42 : decode cIg_getChars 42 = .ok (.istore_n 0, 1) := by decide +kernel
theorem dIg_getChars_43 : decode cIg_getChars 43 = .ok (.aload_n 2, 1) := by decide +kernel
theorem dIg_getChars_44 : decode cIg_getChars 44 = .ok (.iinc 5 (-1), 3) := by decide +kernel
theorem dIg_getChars_47 : decode cIg_getChars 47 = .ok (.iload 5, 2) := by decide +kernel
theorem dIg_getChars_49 : decode cIg_getChars 49 = .ok (.getstatic 83, 3) := by decide +kernel
theorem dIg_getChars_52 : decode cIg_getChars 52 = .ok (.iload 4, 2) := by decide +kernel
theorem dIg_getChars_54 : decode cIg_getChars 54 = .ok (.baload, 1) := by decide +kernel
theorem dIg_getChars_55 : decode cIg_getChars 55 = .ok (.bastore, 1) := by decide +kernel
theorem dIg_getChars_56 : decode cIg_getChars 56 = .ok (.aload_n 2, 1) := by decide +kernel
theorem dIg_getChars_57 : decode cIg_getChars 57 = .ok (.iinc 5 (-1), 3) := by decide +kernel
theorem dIg_getChars_60 : decode cIg_getChars 60 = .ok (.iload 5, 2) := by decide +kernel
theorem dIg_getChars_62 : decode cIg_getChars 62 = .ok (.getstatic 87, 3) := by decide +kernel
theorem dIg_getChars_65 : decode cIg_getChars 65 = .ok (.iload 4, 2) := by decide +kernel
theorem dIg_getChars_67 : decode cIg_getChars 67 = .ok (.baload, 1) := by decide +kernel
theorem dIg_getChars_68 : decode cIg_getChars 68 = .ok (.bastore, 1) := by decide +kernel
theorem dIg_getChars_69 : decode cIg_getChars 69 = .ok (.goto (-47), 3) := by decide +kernel
theorem dIg_getChars_72 : decode cIg_getChars 72 = .ok (.aload_n 2, 1) := by decide +kernel
theorem dIg_getChars_73 : decode cIg_getChars 73 = .ok (.iinc 5 (-1), 3) := by decide +kernel
theorem dIg_getChars_76 : decode cIg_getChars 76 = .ok (.iload 5, 2) := by decide +kernel
theorem dIg_getChars_78 : decode cIg_getChars 78 = .ok (.getstatic 83, 3) := by decide +kernel
theorem dIg_getChars_81 : decode cIg_getChars 81 = .ok (.iload_n 0, 1) := by decide +kernel
theorem dIg_getChars_82 : decode cIg_getChars 82 = .ok (.ineg, 1) := by decide +kernel
theorem dIg_getChars_83 : decode cIg_getChars 83 = .ok (.baload, 1) := by decide +kernel
theorem dIg_getChars_84 : decode cIg_getChars 84 = .ok (.bastore, 1) := by decide +kernel
theorem dIg_getChars_85 : decode cIg_getChars 85 = .ok (.iload_n 0, 1) := by decide +kernel
theorem dIg_getChars_86 : decode cIg_getChars 86 = .ok (.bipush (-9), 2) := by decide +kernel
theorem dIg_getChars_88 : decode cIg_getChars 88 = .ok (.if_icmp .ge 16, 3) := by decide +kernel
theorem dIg_getChars_91 : decode cIg_getChars 91 = .ok (.aload_n 2, 1) := by decide +kernel
theorem dIg_getChars_92 : decode cIg_getChars 92 = .ok (.iinc 5 (-1), 3) := by decide +kernel
theorem dIg_getChars_95 : decode cIg_getChars 95 = .ok (.iload 5, 2) := by decide +kernel
theorem dIg_getChars_97 : decode cIg_getChars 97 = .ok (.getstatic 87, 3) := by decide +kernel
theorem dIg_getChars_100 : decode cIg_getChars 100 = .ok (.iload_n 0, 1) := by decide +kernel
theorem dIg_getChars_101 : decode cIg_getChars 101 = .ok (.ineg, 1) := by decide +kernel
theorem dIg_getChars_102 : decode cIg_getChars 102 = .ok (.baload, 1) := by decide +kernel
theorem dIg_getChars_103 : decode cIg_getChars 103 = .ok (.bastore, 1) := by decide +kernel
theorem dIg_getChars_104 : decode cIg_getChars 104 = .ok (.iload 6, 2) := by decide +kernel
theorem dIg_getChars_106 : decode cIg_getChars 106 = .ok (.ifCond .eq 12, 3) := by decide +kernel
theorem dIg_getChars_109 : decode cIg_getChars 109 = .ok (.aload_n 2, 1) := by decide +kernel
theorem dIg_getChars_110 : decode cIg_getChars 110 = .ok (.iinc 5 (-1), 3) := by decide +kernel
theorem dIg_getChars_113 : decode cIg_getChars 113 = .ok (.iload 5, 2) := by decide +kernel
theorem dIg_getChars_115 : decode cIg_getChars 115 = .ok (.bipush 45, 2) := by decide +kernel
theorem dIg_getChars_117 : decode cIg_getChars 117 = .ok (.bastore, 1) := by decide +kernel
theorem dIg_getChars_118 : decode cIg_getChars 118 = .ok (.iload 5, 2) := by decide +kernel
theorem dIg_getChars_120 : decode cIg_getChars 120 = .ok (.ireturn, 1) := by decide +kernel
set_option maxRecDepth 100000 in
theorem kobAs_3 : inT (kObj "java/lang/AbstractStringBuilder" 3) := gW_l [324, 82, 83] rfl (by decide +kernel)
set_option maxRecDepth 100000 in
theorem kzAs_18 : Cond.fieldLink "java/lang/AbstractStringBuilder" 18 "java/lang/String" "COMPACT_STRINGS" "Z" ∈ gW := gW_1 325 rfl rfl
set_option maxRecDepth 100000 in
theorem kna_byte : Cond.arrayClass .byte ∈ gW := gW_1 348 rfl rfl
set_option maxRecDepth 100000 in
theorem flAs_15 : Cond.fieldLink "java/lang/AbstractStringBuilder" 15 (TSb 0).1 (TSb 0).2.1 (TSb 0).2.2.1 ∈ gW := gW_1 334 rfl rfl
set_option maxRecDepth 100000 in
theorem inSb : ∀ w ∈ u_ws RSb TSb 4, w ∈ gW := gW_l [339, 341, 343, 345] rfl (by decide +kernel)
set_option maxRecDepth 100000 in
theorem flAs_22 : Cond.fieldLink "java/lang/AbstractStringBuilder" 22 (TSb 1).1 (TSb 1).2.1 (TSb 1).2.2.1 ∈ gW := gW_1 335 rfl rfl
set_option maxRecDepth 100000 in
theorem kSb_1 : inT (kI "java/lang/StringBuilder" 1 yAs_init cAs_init 2) := gW_l [321, 322, 57, 323] rfl (by decide +kernel)
set_option maxRecDepth 100000 in
theorem kmAp_194 : inT (kMax "jdk/internal/util/ArraysSupport" 194) := gW_l [896, 274, 55, 275] rfl (by decide +kernel)
set_option maxRecDepth 100000 in
theorem kcAp_200 : Cond.constant "jdk/internal/util/ArraysSupport" 200 (zI 2147483639) ∈ gW := by
  have e : zI 2147483639 = (2147483639 : Int32) := by decide
  rw [e]; exact gW_1 897 rfl rfl
set_option maxRecDepth 100000 in
theorem kAs_114 : inT (kS "java/lang/AbstractStringBuilder" 114 yAp_newLength cAp_newLength 4 (some .int)) := gW_l [893, 894, 70, 895] rfl (by decide +kernel)
set_option maxRecDepth 100000 in
theorem kcAs_39 : Cond.constant "java/lang/AbstractStringBuilder" 39 (zI 2147483647) ∈ gW := by
  have e : zI 2147483647 = (2147483647 : Int32) := by decide
  rw [e]; exact gW_1 901 rfl rfl
set_option maxRecDepth 100000 in
theorem kmAy_304 : inT (kMin "java/util/Arrays" 304) := gW_l [912, 271, 55, 272] rfl (by decide +kernel)
set_option maxRecDepth 100000 in
theorem kqAy_150 : inT (kCopy "java/util/Arrays" 150) := gW_l [913, 915, 914, 72] rfl (by decide +kernel)
set_option maxRecDepth 100000 in
theorem kuAs_104 : inT (kU "java/lang/AbstractStringBuilder" 104 yAs_newCapacity cAs_newCapacity 6 (some .int)) := gW_l [889, 891, 57, 892] rfl (by decide +kernel)
set_option maxRecDepth 100000 in
theorem kuAs_104s : Cond.sameMethod yAs_newCapacity.cls yAs_newCapacity.cls yAs_newCapacity.name yAs_newCapacity.desc ∈ lw_tbl := List.mem_of_getElem? (i := 1519) rfl
set_option maxRecDepth 100000 in
theorem kuAs_104p : Cond.privateMethod yAs_newCapacity ∈ lw_tbl := List.mem_of_getElem? (i := 890) rfl
set_option maxRecDepth 100000 in
theorem ks_isLatin1 : Cond.selects RSb yAs_isLatin1 yAs_isLatin1 ∈ gW := gW_1 919 rfl rfl
set_option maxRecDepth 100000 in
theorem kAs_108 : inT (kS "java/lang/AbstractStringBuilder" 108 yAy_copyOf cAy_copyOf 3 (some (.array .byte))) := gW_l [902, 903, 71, 904] rfl (by decide +kernel)
set_option maxRecDepth 100000 in
theorem flAs_79 : Cond.fieldLink "java/lang/AbstractStringBuilder" 79 (TSb 3).1 (TSb 3).2.1 (TSb 3).2.2.1 ∈ gW := gW_1 338 rfl rfl
set_option maxRecDepth 100000 in
theorem kuAs_100 : inT (kU "java/lang/AbstractStringBuilder" 100 yAs_ensureCapacityInternal cAs_ensureCapacityInternal 3 none) := gW_l [885, 887, 57, 888] rfl (by decide +kernel)
set_option maxRecDepth 100000 in
theorem kuAs_100s : Cond.sameMethod yAs_ensureCapacityInternal.cls yAs_ensureCapacityInternal.cls yAs_ensureCapacityInternal.name yAs_ensureCapacityInternal.desc ∈ lw_tbl := List.mem_of_getElem? (i := 1518) rfl
set_option maxRecDepth 100000 in
theorem kuAs_100p : Cond.privateMethod yAs_ensureCapacityInternal ∈ lw_tbl := List.mem_of_getElem? (i := 886) rfl
set_option maxRecDepth 100000 in
theorem kuAs_83 : inT (kU "java/lang/AbstractStringBuilder" 83 yAs_isLatin1 cAs_isLatin1 1 (some .boolean)) := gW_l [916, 917, 57, 920] rfl (by decide +kernel)
set_option maxRecDepth 100000 in
theorem kuAs_83s : Cond.sameMethod yAs_isLatin1.cls yAs_isLatin1.cls yAs_isLatin1.name yAs_isLatin1.desc ∈ lw_tbl := List.mem_of_getElem? (i := 918) rfl
set_option maxRecDepth 100000 in
theorem kAs_191 : inT (kS "java/lang/AbstractStringBuilder" 191 ySl_canEncode cSl_canEncode 1 (some .boolean)) := gW_l [1133, 1134, 74, 1135] rfl (by decide +kernel)
set_option maxRecDepth 100000 in
theorem kuSb_50 : inT (kU "java/lang/StringBuilder" 50 yAs_append_0 cAs_append_0 2 (some (.object "java/lang/AbstractStringBuilder"))) := gW_l [1130, 1131, 57, 1132] rfl (by decide +kernel)
set_option maxRecDepth 100000 in
theorem kuSb_50s : Cond.sameMethod yAs_append_0.cls yAs_append_0.cls yAs_append_0.name yAs_append_0.desc ∈ lw_tbl := List.mem_of_getElem? (i := 1524) rfl
set_option maxRecDepth 100000 in
theorem kuSb_50u : Cond.superclass "java/lang/StringBuilder" yAs_append_0.cls ∈ lw_tbl := List.mem_of_getElem? (i := 347) rfl
set_option maxRecDepth 100000 in
theorem kzIg_83 : Cond.fieldLink "java/lang/Integer" 83 "java/lang/Integer" "DigitOnes" "[B" ∈ gW := gW_1 1003 rfl rfl
set_option maxRecDepth 100000 in
theorem kzIg_87 : Cond.fieldLink "java/lang/Integer" 87 "java/lang/Integer" "DigitTens" "[B" ∈ gW := gW_1 1005 rfl rfl
set_option maxRecDepth 100000 in
theorem kAs_245 : inT (kS "java/lang/AbstractStringBuilder" 245 yIg_stringSize cIg_stringSize 4 (some .int)) := gW_l [997, 998, 68, 999] rfl (by decide +kernel)
set_option maxRecDepth 100000 in
theorem kAs_248 : inT (kS "java/lang/AbstractStringBuilder" 248 yIg_getChars cIg_getChars 7 (some .int)) := gW_l [1000, 1001, 68, 1002] rfl (by decide +kernel)
set_option maxRecDepth 100000 in
theorem kuSb_53 : inT (kU "java/lang/StringBuilder" 53 yAs_append_1 cAs_append_1 4 (some (.object "java/lang/AbstractStringBuilder"))) := gW_l [994, 995, 57, 996] rfl (by decide +kernel)
set_option maxRecDepth 100000 in
theorem kuSb_53s : Cond.sameMethod yAs_append_1.cls yAs_append_1.cls yAs_append_1.name yAs_append_1.desc ∈ lw_tbl := List.mem_of_getElem? (i := 1523) rfl
set_option maxRecDepth 100000 in
theorem kuSb_53u : Cond.superclass "java/lang/StringBuilder" yAs_append_1.cls ∈ lw_tbl := List.mem_of_getElem? (i := 347) rfl
set_option maxRecDepth 100000 in
theorem kuSb_343 : inT (kU "java/lang/StringBuilder" 343 yAs_length cAs_length 1 (some .int)) := gW_l [1039, 1034, 57, 1040] rfl (by decide +kernel)
set_option maxRecDepth 100000 in
theorem kuSb_343s : Cond.sameMethod yAs_length.cls yAs_length.cls yAs_length.name yAs_length.desc ∈ lw_tbl := List.mem_of_getElem? (i := 1035) rfl
set_option maxRecDepth 100000 in
theorem kuSb_343u : Cond.superclass "java/lang/StringBuilder" yAs_length.cls ∈ lw_tbl := List.mem_of_getElem? (i := 347) rfl
set_option maxRecDepth 100000 in
theorem kzSt_1053 : Cond.fieldLink "java/lang/String" 1053 "jdk/internal/util/Preconditions" "SIOOBE_FORMATTER" "Ljava/util/function/BiFunction;" ∈ gW := gW_1 933 rfl rfl
set_option maxRecDepth 100000 in
theorem kSt_1059 : inT (kS "java/lang/String" 1059 yPr_checkIndex cPr_checkIndex 3 (some .int)) := gW_l [1145, 1146, 73, 1147] rfl (by decide +kernel)
set_option maxRecDepth 100000 in
theorem kmAs_138 : inT (kMin "java/lang/AbstractStringBuilder" 138) := gW_l [1161, 271, 55, 272] rfl (by decide +kernel)
set_option maxRecDepth 100000 in
theorem kAs_144 : inT (kS "java/lang/AbstractStringBuilder" 144 ySt_checkIndex cSt_checkIndex 2 none) := gW_l [1162, 1143, 59, 1144] rfl (by decide +kernel)
set_option maxRecDepth 100000 in
theorem kuSb_329 : inT (kU "java/lang/StringBuilder" 329 yAs_charAt cAs_charAt 5 (some .char)) := gW_l [1158, 1159, 57, 1160] rfl (by decide +kernel)
set_option maxRecDepth 100000 in
theorem kuSb_329s : Cond.sameMethod yAs_charAt.cls yAs_charAt.cls yAs_charAt.name yAs_charAt.desc ∈ lw_tbl := List.mem_of_getElem? (i := 1526) rfl
set_option maxRecDepth 100000 in
theorem kuSb_329u : Cond.superclass "java/lang/StringBuilder" yAs_charAt.cls ∈ lw_tbl := List.mem_of_getElem? (i := 347) rfl
set_option maxRecDepth 100000 in
theorem flAs_73 : Cond.fieldLink "java/lang/AbstractStringBuilder" 73 (TSb 2).1 (TSb 2).2.1 (TSb 2).2.2.1 ∈ gW := gW_1 336 rfl rfl
set_option maxRecDepth 100000 in
theorem kuSb_333 : inT (kU "java/lang/StringBuilder" 333 yAs_setLength cAs_setLength 2 none) := gW_l [863, 864, 57, 865] rfl (by decide +kernel)
set_option maxRecDepth 100000 in
theorem kuSb_333s : Cond.sameMethod yAs_setLength.cls yAs_setLength.cls yAs_setLength.name yAs_setLength.desc ∈ lw_tbl := List.mem_of_getElem? (i := 1515) rfl
set_option maxRecDepth 100000 in
theorem kuSb_333u : Cond.superclass "java/lang/StringBuilder" yAs_setLength.cls ∈ lw_tbl := List.mem_of_getElem? (i := 347) rfl
set_option maxHeartbeats 4000000 in
set_option maxRecDepth 100000 in
theorem c_AbstractStringBuilder_init (l : Launch) (D : va_G) (cI cG cL cB : ClassId) (sb0 : Nat)  : Cv l yAs_init cAs_init 2 none 1 1 16 D zCl (zT cI cG cL cB) [.ref sb0, .int (zI 16)] [(sb0, .inr (11, [.null, .int (zI 0), .int (zI 0), .int (zI 0)]))] (fun w => ∃ va : Nat, w = [(sb0, .inr (11, [.ref va, .int (zI 0), .int (zI 0), .int (zI 0)])), (va, .inl (cB, 16, .inl (fI (fun _ => 0))))]) := by
  refine zBv (by decide) (Nat.le_of_ble_eq_true rfl) ?_
  intro p e s m args below meth c ls A H locs Q C hin hl hW hQ
  have hl : lv_has ls 2 [(0, .ref sb0), (1, .int (zI 16))] := hl
  refine lv_aload_n C.1 C.2.1 dAs_init_0 rfl (lv_at hl 0 rfl) ?_
  refine zobj C kobAs_3 hl.1 (by decide) (Nat.le_of_ble_eq_true rfl) dAs_init_1 ?_
  refine zgets C hW (zCS C) kzAs_18 dAs_init_4 ?_
  refine zif_eq (tgt := 25) C (by omega) dAs_init_7 (by decide) (fun c7 => ?_) (fun c7 => ?_)
  · exact absurd c7 (by decide)
  · refine lv_aload_n C.1 C.2.1 dAs_init_10 rfl (lv_at hl 0 rfl) ?_
    refine lv_iload_n C.1 C.2.1 dAs_init_11 rfl (lv_at hl 1 rfl) ?_
    refine znewb C hW 3 rfl kna_byte (N := 16) rfl (by decide) (Nat.le_of_ble_eq_true rfl) (Nat.le_of_ble_eq_true rfl) dAs_init_12 (fun q1 H hW => ?_)
    have hW : zw D zCl A s [(sb0, .inr (11, [.null, .int (zI 0), .int (zI 0), .int (zI 0)])), (q1, .inl (cB, 16, .inl (fI (fun _ => 0))))] H locs := hW
    refine zput C hW 0 0 tySb tySb_ok nmSb rfl rfl inSb (by decide) flAs_15 rfl rfl rfl rfl (Nat.le_of_ble_eq_true rfl) dAs_init_14 (fun H locs hW => ?_)
    have hW : zw D zCl A s [(sb0, .inr (11, [.ref q1, .int (zI 0), .int (zI 0), .int (zI 0)])), (q1, .inl (cB, 16, .inl (fI (fun _ => 0))))] H locs := hW
    refine lv_aload_n C.1 C.2.1 dAs_init_17 rfl (lv_at hl 0 rfl) ?_
    refine lv_iconst (v := zI 0) C.1 C.2.1 dAs_init_18 (by decide) ?_
    refine zput C hW 0 1 tySb tySb_ok nmSb rfl rfl inSb (by decide) flAs_22 rfl rfl rfl rfl (Nat.le_of_ble_eq_true rfl) dAs_init_19 (fun H locs hW => ?_)
    have hW : zw D zCl A s [(sb0, .inr (11, [.ref q1, .int (zI 0), .int (zI 0), .int (zI 0)])), (q1, .inl (cB, 16, .inl (fI (fun _ => 0))))] H locs := hW
    refine lv_goto (tgt := 38) C.1 C.2.1 dAs_init_22 (by decide) ?_
    exact hQ _ H locs _ _ _ ls hW ⟨_, rfl⟩ (by omega) (by omega) dAs_init_38
set_option maxHeartbeats 4000000 in
set_option maxRecDepth 100000 in
theorem c_StringBuilder_init (l : Launch) (D : va_G) (cI cG cL cB : ClassId) (sb0 : Nat)  : Cv l ySb_init cSb_init 1 none 2 1 16 D zCl (zT cI cG cL cB) [.ref sb0] [(sb0, .inr (11, [.null, .int (zI 0), .int (zI 0), .int (zI 0)]))] (fun w => ∃ va : Nat, w = [(sb0, .inr (11, [.ref va, .int (zI 0), .int (zI 0), .int (zI 0)])), (va, .inl (cB, 16, .inl (fI (fun _ => 0))))]) := by
  refine zBv (by decide) (Nat.le_of_ble_eq_true rfl) ?_
  intro p e s m args below meth c ls A H locs Q C hin hl hW hQ
  have hl : lv_has ls 1 [(0, .ref sb0)] := hl
  refine lv_aload_n C.1 C.2.1 dSb_init_0 rfl (lv_at hl 0 rfl) ?_
  refine lv_bipush (v := zI 16) C.1 C.2.1 dSb_init_1 (by decide) ?_
  refine zcallv (wr := []) C hW [0] [] rfl rfl (by decide) (by decide) (zRunI (k := 1) (As := [.int (zI 16)]) (rest := []) C hW (c_AbstractStringBuilder_init l D cI cG cL cB sb0  H.size) [0] rfl (by decide) kSb_1 (by decide) (by decide +kernel) ⟨by decide, by decide⟩ rfl hl.1 (Nat.le_of_ble_eq_true rfl) dSb_init_3 ⟨by first | decide | omega, by first | decide | omega⟩) (fun w H locs hq hW => ?_)
  obtain ⟨va1, rfl⟩ := hq
  have hW : zw D zCl A s [(sb0, .inr (11, [.ref va1, .int (zI 0), .int (zI 0), .int (zI 0)])), (va1, .inl (cB, 16, .inl (fI (fun _ => 0))))] H locs := hW
  exact hQ _ H locs _ _ _ ls hW ⟨_, rfl⟩ (by omega) (by omega) dSb_init_6
set_option maxHeartbeats 4000000 in
set_option maxRecDepth 100000 in
theorem c_AbstractStringBuilder_isLatin1 (l : Launch) (D : va_G) (cI cG cL cB : ClassId) (sb0 : Nat) (va : Nat) (ml : Int) (cn : Int)  : Ci l yAs_isLatin1 cAs_isLatin1 1 (some .boolean) 0 0 0 D zCl (zT cI cG cL cB) [.ref sb0] [(sb0, .inr (11, [.ref va, .int (zI 0), .int (zI ml), .int (zI cn)]))] (fun x w => x = zI 1 ∧ w = [(sb0, .inr (11, [.ref va, .int (zI 0), .int (zI ml), .int (zI cn)]))]) := by
  refine zBz (by decide) (Nat.le_of_ble_eq_true rfl) ?_
  intro p e s m args below meth c ls A H locs Q C hin hl hW hQ
  have hl : lv_has ls 1 [(0, .ref sb0)] := hl
  refine zgets C hW (zCS C) kzAs_18 dAs_isLatin1_0 ?_
  refine zif_eq (tgt := 17) C (by omega) dAs_isLatin1_3 (by decide) (fun c3 => ?_) (fun c3 => ?_)
  · exact absurd c3 (by decide)
  · refine lv_aload_n C.1 C.2.1 dAs_isLatin1_6 rfl (lv_at hl 0 rfl) ?_
    refine zget C hW 0 1 rfl rfl inSb (by decide) flAs_22 rfl dAs_isLatin1_7 ?_
    refine zif_ne (tgt := 17) C (by omega) dAs_isLatin1_10 (by decide) (fun c10 => ?_) (fun c10 => ?_)
    · exact absurd c10 (by decide)
    · refine lv_iconst (v := zI 1) C.1 C.2.1 dAs_isLatin1_13 (by decide) ?_
      refine lv_goto (tgt := 18) C.1 C.2.1 dAs_isLatin1_14 (by decide) ?_
      exact hQ (zI 1) _ H locs _ _ _ ls hW (by decide) ⟨rfl, rfl⟩ (by omega) (by omega) dAs_isLatin1_18
set_option maxHeartbeats 4000000 in
set_option maxRecDepth 100000 in
theorem c_ArraysSupport_newLength (l : Launch) (D : va_G) (cI cG cL cB : ClassId) (a_ : Int) (b_ : Int) (c_ : Int) (ha : 0 ≤ a_ ∧ a_ ≤ 100) (hb : 1 ≤ b_ ∧ b_ ≤ 100) (hc : 0 ≤ c_ ∧ c_ ≤ 100) : Ci l yAp_newLength cAp_newLength 4 (some .int) 1 0 0 D zCl (zT cI cG cL cB) [.int (zI a_), .int (zI b_), .int (zI c_)] [] (fun x w => x = zI (a_ + (max b_ c_)) ∧ w = []) := by
  refine zBi (by decide) (Nat.le_of_ble_eq_true rfl) ?_
  intro p e s m args below meth c ls A H locs Q C hin hl hW hQ
  have hl : lv_has ls 4 [(0, .int (zI a_)), (1, .int (zI b_)), (2, .int (zI c_))] := hl
  refine lv_iload_n C.1 C.2.1 dAp_newLength_0 rfl (lv_at hl 0 rfl) ?_
  refine lv_iload_n C.1 C.2.1 dAp_newLength_1 rfl (lv_at hl 1 rfl) ?_
  refine lv_iload_n C.1 C.2.1 dAp_newLength_2 rfl (lv_at hl 2 rfl) ?_
  refine zmax C kmAp_194 hl.1 (by decide) (Nat.le_of_ble_eq_true rfl) (by first | decide | omega) (by first | decide | omega) (by omega) (by omega) dAp_newLength_3 ?_
  refine ziadd C dAp_newLength_6 ?_
  refine lv_istore_n (lv' := [(3, .int (zI (a_ + (max b_ c_)))), (0, .int (zI a_)), (1, .int (zI b_)), (2, .int (zI c_))]) C.1 C.2.1 dAp_newLength_7 rfl hl (by decide) rfl (fun ls hl => ?_)
  refine lv_iconst (v := zI 0) C.1 C.2.1 dAp_newLength_8 (by decide) ?_
  refine lv_iload_n C.1 C.2.1 dAp_newLength_9 rfl (lv_at hl 0 rfl) ?_
  refine zicmp_ge (tgt := 21) C (by omega) (by omega) dAp_newLength_10 (by decide) (fun c10 => ?_) (fun c10 => ?_)
  · exact False.elim (by omega)
  · refine lv_iload_n C.1 C.2.1 dAp_newLength_13 rfl (lv_at hl 0 rfl) ?_
    refine zldc C kcAp_200 dAp_newLength_14 ?_
    refine zicmp_gt (tgt := 21) C (by omega) (by omega) dAp_newLength_16 (by decide) (fun c16 => ?_) (fun c16 => ?_)
    · exact False.elim (by omega)
    · refine lv_iload_n C.1 C.2.1 dAp_newLength_19 rfl (lv_at hl 0 rfl) ?_
      exact hQ (zI (a_ + (max b_ c_))) _ H locs _ _ _ ls hW ⟨rfl, rfl⟩ (by omega) (by omega) dAp_newLength_20
set_option maxHeartbeats 4000000 in
set_option maxRecDepth 100000 in
theorem c_AbstractStringBuilder_newCapacity (l : Launch) (D : va_G) (cI cG cL cB : ClassId) (sb0 : Nat) (va : Nat) (ml : Int) (cn : Int) (V : Int → Int) (q : Int) (bV : ∀ j : Int, B8 (V j)) (hq : 17 ≤ q ∧ q ≤ 34) : Ci l yAs_newCapacity cAs_newCapacity 6 (some .int) 2 0 0 D zCl (zT cI cG cL cB) [.ref sb0, .int (zI q)] [(sb0, .inr (11, [.ref va, .int (zI 0), .int (zI ml), .int (zI cn)])), (va, .inl (cB, 16, .inl (fI V)))] (fun x w => x = zI 34 ∧ w = [(sb0, .inr (11, [.ref va, .int (zI 0), .int (zI ml), .int (zI cn)])), (va, .inl (cB, 16, .inl (fI V)))]) := by
  refine zBi (by decide) (Nat.le_of_ble_eq_true rfl) ?_
  intro p e s m args below meth c ls A H locs Q C hin hl hW hQ
  have hl : lv_has ls 6 [(0, .ref sb0), (1, .int (zI q))] := hl
  refine lv_aload_n C.1 C.2.1 dAs_newCapacity_0 rfl (lv_at hl 0 rfl) ?_
  refine zget C hW 0 0 rfl rfl inSb (by decide) flAs_15 rfl dAs_newCapacity_1 ?_
  refine zalen C hW 1 3 rfl rfl dAs_newCapacity_4 ?_
  refine lv_istore_n (lv' := [(2, .int (zI 16)), (0, .ref sb0), (1, .int (zI q))]) C.1 C.2.1 dAs_newCapacity_5 rfl hl (by decide) rfl (fun ls hl => ?_)
  refine lv_iload_n C.1 C.2.1 dAs_newCapacity_6 rfl (lv_at hl 2 rfl) ?_
  refine lv_aload_n C.1 C.2.1 dAs_newCapacity_7 rfl (lv_at hl 1 rfl) ?_
  refine zget C hW 0 1 rfl rfl inSb (by decide) flAs_22 rfl dAs_newCapacity_8 ?_
  refine zishl0 C dAs_newCapacity_11 ?_
  refine lv_istore_n (lv' := [(3, .int (zI q)), (2, .int (zI 16)), (0, .ref sb0), (1, .int (zI q))]) C.1 C.2.1 dAs_newCapacity_12 rfl hl (by decide) rfl (fun ls hl => ?_)
  refine lv_iload_n C.1 C.2.1 dAs_newCapacity_13 rfl (lv_at hl 0 rfl) ?_
  refine lv_iload_n C.1 C.2.1 dAs_newCapacity_14 rfl (lv_at hl 1 rfl) ?_
  refine zisub C dAs_newCapacity_15 ?_
  refine lv_istore (lv' := [(4, .int (zI (q - 16))), (3, .int (zI q)), (2, .int (zI 16)), (0, .ref sb0), (1, .int (zI q))]) C.1 C.2.1 dAs_newCapacity_16 hl (by decide) rfl (fun ls hl => ?_)
  refine lv_iload_n C.1 C.2.1 dAs_newCapacity_18 rfl (lv_at hl 2 rfl) ?_
  refine lv_iload C.1 C.2.1 dAs_newCapacity_19 (lv_at hl 0 rfl) ?_
  refine lv_iload_n C.1 C.2.1 dAs_newCapacity_21 rfl (lv_at hl 2 rfl) ?_
  refine lv_iconst (v := zI 2) C.1 C.2.1 dAs_newCapacity_22 (by decide) ?_
  refine lv_aload_n C.1 C.2.1 dAs_newCapacity_23 rfl (lv_at hl 3 rfl) ?_
  refine zget C hW 0 1 rfl rfl inSb (by decide) flAs_22 rfl dAs_newCapacity_24 ?_
  refine zishl0 C dAs_newCapacity_27 ?_
  refine ziadd C dAs_newCapacity_28 ?_
  refine zcalli (wr := [(sb0, .inr (11, [.ref va, .int (zI 0), .int (zI ml), .int (zI cn)])), (va, .inl (cB, 16, .inl (fI V)))]) C hW [] [0, 1] rfl rfl (by decide) (by decide) (zRunS (k := 3) (As := [.int (zI 16), .int (zI (q - 16)), .int (zI (16 + 2))]) (rest := []) C hW (c_ArraysSupport_newLength l D cI cG cL cB 16 (q - 16) (16 + 2) (by omega) (by omega) (by omega) H.size) [] rfl (by decide) kAs_114 (by decide +kernel) ⟨by decide, by decide⟩ rfl hl.1 (Nat.le_of_ble_eq_true rfl) dAs_newCapacity_29 ⟨by first | decide | omega, by first | decide | omega⟩) (fun x w H locs hq hW => ?_)
  obtain ⟨rfl, rfl⟩ := hq
  have hW : zw D zCl A s [(sb0, .inr (11, [.ref va, .int (zI 0), .int (zI ml), .int (zI cn)])), (va, .inl (cB, 16, .inl (fI V)))] H locs := hW
  refine lv_istore (lv' := [(5, .int (zI (16 + (max (q - 16) (16 + 2))))), (4, .int (zI (q - 16))), (3, .int (zI q)), (2, .int (zI 16)), (0, .ref sb0), (1, .int (zI q))]) C.1 C.2.1 dAs_newCapacity_32 hl (by decide) rfl (fun ls hl => ?_)
  refine lv_iload C.1 C.2.1 dAs_newCapacity_34 (lv_at hl 0 rfl) ?_
  refine zldc C kcAs_39 dAs_newCapacity_36 ?_
  refine zicmp_ne (tgt := 51) C (by omega) (by omega) dAs_newCapacity_38 (by decide) (fun c38 => ?_) (fun c38 => ?_)
  · refine lv_iload C.1 C.2.1 dAs_newCapacity_51 (lv_at hl 0 rfl) ?_
    refine lv_aload_n C.1 C.2.1 dAs_newCapacity_53 rfl (lv_at hl 4 rfl) ?_
    refine zget C hW 0 1 rfl rfl inSb (by decide) flAs_22 rfl dAs_newCapacity_54 ?_
    refine zishr0 C dAs_newCapacity_57 ?_
    exact hQ (zI (16 + (max (q - 16) (16 + 2)))) _ H locs _ _ _ ls hW ⟨congrArg zI (by omega), rfl⟩ (by omega) (by omega) dAs_newCapacity_58
  · exact False.elim (by omega)
set_option maxHeartbeats 4000000 in
set_option maxRecDepth 100000 in
theorem c_Arrays_copyOf (l : Launch) (D : va_G) (cI cG cL cB : ClassId) (va : Nat) (V : Int → Int) (bV : ∀ j : Int, B8 (V j)) : Cq l yAy_copyOf cAy_copyOf 3 (some (.array .byte)) 1 1 34 D zCl (zT cI cG cL cB) [.ref va, .int (zI 34)] [(va, .inl (cB, 16, .inl (fI V)))] (fun x w => ∃ vb : Nat, vb = x ∧ w = [(va, .inl (cB, 16, .inl (fI V))), (vb, .inl (cB, 34, .inl (fI (cpz V (fun _ => 0) (min 16 34)))))]) := by
  refine zBq (Or.inr ⟨_, rfl⟩) (by decide) (Nat.le_of_ble_eq_true rfl) ?_
  intro p e s m args below meth c ls A H locs Q C hin hl hW hQ
  have hl : lv_has ls 3 [(0, .ref va), (1, .int (zI 34))] := hl
  refine lv_iload_n C.1 C.2.1 dAy_copyOf_0 rfl (lv_at hl 1 rfl) ?_
  refine lv_aload_n C.1 C.2.1 dAy_copyOf_1 rfl (lv_at hl 0 rfl) ?_
  refine zalen C hW 0 3 rfl rfl dAy_copyOf_2 ?_
  refine zicmp_ne (tgt := 14) C (by omega) (by omega) dAy_copyOf_3 (by decide) (fun c3 => ?_) (fun c3 => ?_)
  · refine lv_iload_n C.1 C.2.1 dAy_copyOf_14 rfl (lv_at hl 1 rfl) ?_
    refine znewb C hW 3 rfl kna_byte (N := 34) rfl (by decide) (Nat.le_of_ble_eq_true rfl) (Nat.le_of_ble_eq_true rfl) dAy_copyOf_15 (fun q1 H hW => ?_)
    have hW : zw D zCl A s [(va, .inl (cB, 16, .inl (fI V))), (q1, .inl (cB, 34, .inl (fI (fun _ => 0))))] H locs := hW
    refine lv_astore_n (lv' := [(2, .ref q1), (0, .ref va), (1, .int (zI 34))]) C.1 C.2.1 dAy_copyOf_17 rfl hl (by decide) rfl (fun ls hl => ?_)
    refine lv_aload_n C.1 C.2.1 dAy_copyOf_18 rfl (lv_at hl 1 rfl) ?_
    refine lv_iconst (v := zI 0) C.1 C.2.1 dAy_copyOf_19 (by decide) ?_
    refine lv_aload_n C.1 C.2.1 dAy_copyOf_20 rfl (lv_at hl 0 rfl) ?_
    refine lv_iconst (v := zI 0) C.1 C.2.1 dAy_copyOf_21 (by decide) ?_
    refine lv_aload_n C.1 C.2.1 dAy_copyOf_22 rfl (lv_at hl 1 rfl) ?_
    refine zalen C hW 0 3 rfl rfl dAy_copyOf_23 ?_
    refine lv_iload_n C.1 C.2.1 dAy_copyOf_24 rfl (lv_at hl 2 rfl) ?_
    refine zmin C kmAy_304 hl.1 (by decide) (Nat.le_of_ble_eq_true rfl) (by first | decide | omega) (by first | decide | omega) (by omega) (by omega) dAy_copyOf_25 ?_
    refine zcopyb C hW 0 1 3 3 rfl rfl rfl rfl bV (by omega) (by omega) (by omega) (by decide) kqAy_150 hl.1 (by decide) (Nat.le_of_ble_eq_true rfl) dAy_copyOf_28 (fun H locs hW => ?_)
    have hW : zw D zCl A s [(va, .inl (cB, 16, .inl (fI V))), (q1, .inl (cB, 34, .inl (fI (cpz V (fun _ => 0) (min 16 34)))))] H locs := hW
    refine lv_aload_n C.1 C.2.1 dAy_copyOf_31 rfl (lv_at hl 0 rfl) ?_
    exact hQ q1 _ H locs _ _ _ ls hW ⟨_, rfl, rfl⟩ (by omega) (by omega) dAy_copyOf_32
  · exact absurd c3 (by decide)
set_option maxHeartbeats 4000000 in
set_option maxRecDepth 100000 in
theorem c_AbstractStringBuilder_ensureCapacityInternal (l : Launch) (D : va_G) (cI cG cL cB : ClassId) (sb0 : Nat) (va : Nat) (ml : Int) (cn : Int) (mm : Nat) (V : Int → Int) (q : Int) (bV : ∀ j : Int, B8 (V j)) (hmm : mm = 16 ∨ mm = 34) (hml : ml = 0 ∨ ml = 1) (hcn : 0 ≤ cn ∧ cn ≤ mm) (hq : 0 ≤ q ∧ q ≤ 34) : Cv l yAs_ensureCapacityInternal cAs_ensureCapacityInternal 3 none 3 1 34 D zCl (zT cI cG cL cB) [.ref sb0, .int (zI q)] [(sb0, .inr (11, [.ref va, .int (zI 0), .int (zI ml), .int (zI cn)])), (va, .inl (cB, mm, .inl (fI V)))] (fun w => ∃ va2 : Nat, ∃ mm2 : Nat, ∃ V2 : Int → Int, (∀ j : Int, B8 (V2 j)) ∧ (mm2 = 16 ∨ mm2 = 34) ∧ (q ≤ mm2) ∧ (∀ j : Int, 0 ≤ j → j < mm → V2 j = V j) ∧ (mm ≤ mm2) ∧ w = [(sb0, .inr (11, [.ref va2, .int (zI 0), .int (zI ml), .int (zI cn)])), (va2, .inl (cB, mm2, .inl (fI V2)))]) := by
  rcases hmm with rfl | rfl
  · refine zBv (by decide) (Nat.le_of_ble_eq_true rfl) ?_
    intro p e s m args below meth c ls A H locs Q C hin hl hW hQ
    have hl : lv_has ls 3 [(0, .ref sb0), (1, .int (zI q))] := hl
    refine lv_aload_n C.1 C.2.1 dAs_ensureCapacityInternal_0 rfl (lv_at hl 0 rfl) ?_
    refine zget C hW 0 0 rfl rfl inSb (by decide) flAs_15 rfl dAs_ensureCapacityInternal_1 ?_
    refine zalen C hW 1 3 rfl rfl dAs_ensureCapacityInternal_4 ?_
    refine lv_aload_n C.1 C.2.1 dAs_ensureCapacityInternal_5 rfl (lv_at hl 0 rfl) ?_
    refine zget C hW 0 1 rfl rfl inSb (by decide) flAs_22 rfl dAs_ensureCapacityInternal_6 ?_
    refine zishr0 C dAs_ensureCapacityInternal_9 ?_
    refine lv_istore_n (lv' := [(2, .int (zI 16)), (0, .ref sb0), (1, .int (zI q))]) C.1 C.2.1 dAs_ensureCapacityInternal_10 rfl hl (by decide) rfl (fun ls hl => ?_)
    refine lv_iload_n C.1 C.2.1 dAs_ensureCapacityInternal_11 rfl (lv_at hl 2 rfl) ?_
    refine lv_iload_n C.1 C.2.1 dAs_ensureCapacityInternal_12 rfl (lv_at hl 0 rfl) ?_
    refine zisub C dAs_ensureCapacityInternal_13 ?_
    refine zif_le (tgt := 38) C (by omega) dAs_ensureCapacityInternal_14 (by decide) (fun c14 => ?_) (fun c14 => ?_)
    · exact hQ _ H locs _ _ _ ls hW ⟨va, 16, V, bV, Or.inl rfl, (by omega), (fun j _ _ => rfl), (by omega), rfl⟩ (by omega) (by omega) dAs_ensureCapacityInternal_38
    · refine lv_aload_n C.1 C.2.1 dAs_ensureCapacityInternal_17 rfl (lv_at hl 1 rfl) ?_
      refine lv_aload_n C.1 C.2.1 dAs_ensureCapacityInternal_18 rfl (lv_at hl 1 rfl) ?_
      refine zget C hW 0 0 rfl rfl inSb (by decide) flAs_15 rfl dAs_ensureCapacityInternal_19 ?_
      refine lv_aload_n C.1 C.2.1 dAs_ensureCapacityInternal_22 rfl (lv_at hl 1 rfl) ?_
      refine lv_iload_n C.1 C.2.1 dAs_ensureCapacityInternal_23 rfl (lv_at hl 2 rfl) ?_
      refine zcalli (wr := []) C hW [0, 1] [] rfl rfl (by decide) (by decide) (zRunU (k := 1) (As := [.int (zI q)]) (rest := [.ref va, .ref sb0]) C hW (c_AbstractStringBuilder_newCapacity l D cI cG cL cB sb0 va ml cn V q bV (by omega) H.size) [0, 1] rfl (by decide) kuAs_104 kuAs_104s (zSelP C ks_isLatin1 rfl ⟨by decide, by decide⟩ kuAs_104p (kuAs_104 _ (by simp [kU]))) (by decide +kernel) ⟨by decide, by decide⟩ 0 rfl rfl rfl hl.1 (Nat.le_of_ble_eq_true rfl) dAs_ensureCapacityInternal_24 ⟨by first | decide | omega, by first | decide | omega⟩) (fun x w H locs hq hW => ?_)
      obtain ⟨rfl, rfl⟩ := hq
      have hW : zw D zCl A s [(sb0, .inr (11, [.ref va, .int (zI 0), .int (zI ml), .int (zI cn)])), (va, .inl (cB, 16, .inl (fI V)))] H locs := hW
      refine lv_aload_n C.1 C.2.1 dAs_ensureCapacityInternal_27 rfl (lv_at hl 1 rfl) ?_
      refine zget C hW 0 1 rfl rfl inSb (by decide) flAs_22 rfl dAs_ensureCapacityInternal_28 ?_
      refine zishl0 C dAs_ensureCapacityInternal_31 ?_
      refine zcallq (wr := [(sb0, .inr (11, [.ref va, .int (zI 0), .int (zI ml), .int (zI cn)]))]) C hW [1] [0] rfl rfl (by decide) (by decide) (zRunS (k := 2) (As := [.ref va, .int (zI 34)]) (rest := [.ref sb0]) C hW (c_Arrays_copyOf l D cI cG cL cB va V bV H.size) [1] rfl (by decide) kAs_108 (by decide +kernel) ⟨by decide, by decide⟩ rfl hl.1 (Nat.le_of_ble_eq_true rfl) dAs_ensureCapacityInternal_32 ⟨by first | decide | omega, by first | decide | omega⟩) (fun x w H locs hq hW => ?_)
      obtain ⟨vb1, rfl, rfl⟩ := hq
      have hW : zw D zCl A s [(sb0, .inr (11, [.ref va, .int (zI 0), .int (zI ml), .int (zI cn)])), (va, .inl (cB, 16, .inl (fI V))), (vb1, .inl (cB, 34, .inl (fI (cpz V (fun _ => 0) (min 16 34)))))] H locs := hW
      refine zput C hW 0 0 tySb tySb_ok nmSb rfl rfl inSb (by decide) flAs_15 rfl rfl rfl rfl (Nat.le_of_ble_eq_true rfl) dAs_ensureCapacityInternal_35 (fun H locs hW => ?_)
      have hW : zw D zCl A s [(sb0, .inr (11, [.ref vb1, .int (zI 0), .int (zI ml), .int (zI cn)])), (va, .inl (cB, 16, .inl (fI V))), (vb1, .inl (cB, 34, .inl (fI (cpz V (fun _ => 0) (min 16 34)))))] H locs := hW
      have hW : zw D zCl A s [(sb0, .inr (11, [.ref vb1, .int (zI 0), .int (zI ml), .int (zI cn)])), (vb1, .inl (cB, 34, .inl (fI (cpz V (fun _ => 0) (min 16 34)))))] H locs := zwp hW [0, 2] rfl (by decide)
      exact hQ _ H locs _ _ _ ls hW ⟨_, 34, _, (cpz_8 (min 16 34) bV z08), Or.inr rfl, (by omega), (fun j h0 h1 => if_pos ⟨h0, (by omega)⟩), (by omega), rfl⟩ (by omega) (by omega) dAs_ensureCapacityInternal_38
  · refine zBv (by decide) (Nat.le_of_ble_eq_true rfl) ?_
    intro p e s m args below meth c ls A H locs Q C hin hl hW hQ
    have hl : lv_has ls 3 [(0, .ref sb0), (1, .int (zI q))] := hl
    refine lv_aload_n C.1 C.2.1 dAs_ensureCapacityInternal_0 rfl (lv_at hl 0 rfl) ?_
    refine zget C hW 0 0 rfl rfl inSb (by decide) flAs_15 rfl dAs_ensureCapacityInternal_1 ?_
    refine zalen C hW 1 3 rfl rfl dAs_ensureCapacityInternal_4 ?_
    refine lv_aload_n C.1 C.2.1 dAs_ensureCapacityInternal_5 rfl (lv_at hl 0 rfl) ?_
    refine zget C hW 0 1 rfl rfl inSb (by decide) flAs_22 rfl dAs_ensureCapacityInternal_6 ?_
    refine zishr0 C dAs_ensureCapacityInternal_9 ?_
    refine lv_istore_n (lv' := [(2, .int (zI 34)), (0, .ref sb0), (1, .int (zI q))]) C.1 C.2.1 dAs_ensureCapacityInternal_10 rfl hl (by decide) rfl (fun ls hl => ?_)
    refine lv_iload_n C.1 C.2.1 dAs_ensureCapacityInternal_11 rfl (lv_at hl 2 rfl) ?_
    refine lv_iload_n C.1 C.2.1 dAs_ensureCapacityInternal_12 rfl (lv_at hl 0 rfl) ?_
    refine zisub C dAs_ensureCapacityInternal_13 ?_
    refine zif_le (tgt := 38) C (by omega) dAs_ensureCapacityInternal_14 (by decide) (fun c14 => ?_) (fun c14 => ?_)
    · exact hQ _ H locs _ _ _ ls hW ⟨va, 34, V, bV, Or.inr rfl, (by omega), (fun j _ _ => rfl), (by omega), rfl⟩ (by omega) (by omega) dAs_ensureCapacityInternal_38
    · exact False.elim (by omega)
set_option maxHeartbeats 4000000 in
set_option maxRecDepth 100000 in
theorem c_StringLatin1_canEncode (l : Launch) (D : va_G) (cI cG cL cB : ClassId) (ch : Int) (hch : B8 ch) : Ci l ySl_canEncode cSl_canEncode 1 (some .boolean) 0 0 0 D zCl (zT cI cG cL cB) [.int (zI ch)] [] (fun x w => x = zI 1 ∧ w = []) := by
  refine zBz (by decide) (Nat.le_of_ble_eq_true rfl) ?_
  intro p e s m args below meth c ls A H locs Q C hin hl hW hQ
  have hl : lv_has ls 1 [(0, .int (zI ch))] := hl
  refine lv_iload_n C.1 C.2.1 dSl_canEncode_0 rfl (lv_at hl 0 rfl) ?_
  refine lv_sipush (v := zI 255) C.1 C.2.1 dSl_canEncode_1 (by decide) ?_
  refine zicmp_gt (tgt := 11) C (by omega) (by omega) dSl_canEncode_4 (by decide) (fun c4 => ?_) (fun c4 => ?_)
  · exact False.elim (by omega)
  · refine lv_iconst (v := zI 1) C.1 C.2.1 dSl_canEncode_7 (by decide) ?_
    refine lv_goto (tgt := 12) C.1 C.2.1 dSl_canEncode_8 (by decide) ?_
    exact hQ (zI 1) _ H locs _ _ _ ls hW (by decide) ⟨rfl, rfl⟩ (by omega) (by omega) dSl_canEncode_12
set_option maxHeartbeats 4000000 in
set_option maxRecDepth 100000 in
theorem c_As_appendC (l : Launch) (D : va_G) (cI cG cL cB : ClassId) (sb0 : Nat) (va : Nat) (ml : Int) (cn : Int) (mm : Nat) (V : Int → Int) (ch : Int) (L : List Int) (bV : ∀ j : Int, B8 (V j)) (hmm : mm = 16 ∨ mm = 34) (hml : ml = 0 ∨ ml = 1) (hcn : 0 ≤ cn ∧ cn ≤ mm) (hch : B8 ch) (hL : arrL V cn L) (hc1 : cn ≤ 33) : Cq l yAs_append_0 cAs_append_0 2 (some (.object "java/lang/AbstractStringBuilder")) 4 1 34 D zCl (zT cI cG cL cB) [.ref sb0, .int (zI ch)] [(sb0, .inr (11, [.ref va, .int (zI 0), .int (zI ml), .int (zI cn)])), (va, .inl (cB, mm, .inl (fI V)))] (fun x w => ∃ va2 : Nat, ∃ mm2 : Nat, ∃ V2 : Int → Int, (∀ j : Int, B8 (V2 j)) ∧ (mm2 = 16 ∨ mm2 = 34) ∧ (cn + 1 ≤ mm2) ∧ (arrL V2 (cn + 1) (L ++ [ch])) ∧ sb0 = x ∧ w = [(sb0, .inr (11, [.ref va2, .int (zI 0), .int (zI ml), .int (zI (cn + 1))])), (va2, .inl (cB, mm2, .inl (fI V2)))]) := by
  refine zBq (Or.inl ⟨_, rfl⟩) (by decide) (Nat.le_of_ble_eq_true rfl) ?_
  intro p e s m args below meth c ls A H locs Q C hin hl hW hQ
  have hl : lv_has ls 2 [(0, .ref sb0), (1, .int (zI ch))] := hl
  refine lv_aload_n C.1 C.2.1 dAs_append_0_0 rfl (lv_at hl 0 rfl) ?_
  refine lv_aload_n C.1 C.2.1 dAs_append_0_1 rfl (lv_at hl 0 rfl) ?_
  refine zget C hW 0 3 rfl rfl inSb (by decide) flAs_79 rfl dAs_append_0_2 ?_
  refine lv_iconst (v := zI 1) C.1 C.2.1 dAs_append_0_5 (by decide) ?_
  refine ziadd C dAs_append_0_6 ?_
  refine zcallv (wr := []) C hW [0, 1] [] rfl rfl (by decide) (by decide) (zRunU (k := 1) (As := [.int (zI (cn + 1))]) (rest := []) C hW (c_AbstractStringBuilder_ensureCapacityInternal l D cI cG cL cB sb0 va ml cn mm V (cn + 1) bV (by omega) (by omega) (by omega) (by omega) H.size) [0, 1] rfl (by decide) kuAs_100 kuAs_100s (zSelP C ks_isLatin1 rfl ⟨by decide, by decide⟩ kuAs_100p (kuAs_100 _ (by simp [kU]))) (by decide +kernel) ⟨by decide, by decide⟩ 0 rfl rfl rfl hl.1 (Nat.le_of_ble_eq_true rfl) dAs_append_0_7 ⟨by first | decide | omega, by first | decide | omega⟩) (fun w H locs hq hW => ?_)
  obtain ⟨va21, mm22, V23, hf4, hf5, hf6, hf7, hf8, rfl⟩ := hq
  have hW : zw D zCl A s [(sb0, .inr (11, [.ref va21, .int (zI 0), .int (zI ml), .int (zI cn)])), (va21, .inl (cB, mm22, .inl (fI V23)))] H locs := hW
  refine lv_aload_n C.1 C.2.1 dAs_append_0_10 rfl (lv_at hl 0 rfl) ?_
  refine zcalli (wr := [(va21, .inl (cB, mm22, .inl (fI V23)))]) C hW [0] [1] rfl rfl (by decide) (by decide) (zRunU (k := 0) (As := []) (rest := []) C hW (c_AbstractStringBuilder_isLatin1 l D cI cG cL cB sb0 va21 ml cn  H.size) [0] rfl (by decide) kuAs_83 kuAs_83s (C.2.2.2.2.1 _ ks_isLatin1) (by decide +kernel) ⟨by decide, by decide⟩ 0 rfl rfl rfl hl.1 (Nat.le_of_ble_eq_true rfl) dAs_append_0_11 ⟨by first | decide | omega, by first | decide | omega⟩) (fun x w H locs hq hW => ?_)
  obtain ⟨rfl, rfl⟩ := hq
  have hW : zw D zCl A s [(va21, .inl (cB, mm22, .inl (fI V23))), (sb0, .inr (11, [.ref va21, .int (zI 0), .int (zI ml), .int (zI cn)]))] H locs := hW
  refine zif_eq (tgt := 45) C (by omega) dAs_append_0_14 (by decide) (fun c14 => ?_) (fun c14 => ?_)
  · exact absurd c14 (by decide)
  · refine lv_iload_n C.1 C.2.1 dAs_append_0_17 rfl (lv_at hl 1 rfl) ?_
    refine zcalli (wr := [(va21, .inl (cB, mm22, .inl (fI V23))), (sb0, .inr (11, [.ref va21, .int (zI 0), .int (zI ml), .int (zI cn)]))]) C hW [] [0, 1] rfl rfl (by decide) (by decide) (zRunS (k := 1) (As := [.int (zI ch)]) (rest := []) C hW (c_StringLatin1_canEncode l D cI cG cL cB ch (by omega) H.size) [] rfl (by decide) kAs_191 (by decide +kernel) ⟨by decide, by decide⟩ rfl hl.1 (Nat.le_of_ble_eq_true rfl) dAs_append_0_18 ⟨by first | decide | omega, by first | decide | omega⟩) (fun x w H locs hq hW => ?_)
    obtain ⟨rfl, rfl⟩ := hq
    have hW : zw D zCl A s [(va21, .inl (cB, mm22, .inl (fI V23))), (sb0, .inr (11, [.ref va21, .int (zI 0), .int (zI ml), .int (zI cn)]))] H locs := hW
    refine zif_eq (tgt := 45) C (by omega) dAs_append_0_21 (by decide) (fun c21 => ?_) (fun c21 => ?_)
    · exact absurd c21 (by decide)
    · refine lv_aload_n C.1 C.2.1 dAs_append_0_24 rfl (lv_at hl 0 rfl) ?_
      refine zget C hW 1 0 rfl rfl inSb (by decide) flAs_15 rfl dAs_append_0_25 ?_
      refine lv_aload_n C.1 C.2.1 dAs_append_0_28 rfl (lv_at hl 0 rfl) ?_
      refine lv_dup C.1 C.2.1 dAs_append_0_29 rfl ?_
      refine zget C hW 1 3 rfl rfl inSb (by decide) flAs_79 rfl dAs_append_0_30 ?_
      refine lv_dup_x1 C.1 C.2.1 dAs_append_0_33 rfl rfl ?_
      refine lv_iconst (v := zI 1) C.1 C.2.1 dAs_append_0_34 (by decide) ?_
      refine ziadd C dAs_append_0_35 ?_
      refine zput C hW 1 3 tySb tySb_ok nmSb rfl rfl inSb (by decide) flAs_79 rfl rfl rfl rfl (Nat.le_of_ble_eq_true rfl) dAs_append_0_36 (fun H locs hW => ?_)
      have hW : zw D zCl A s [(va21, .inl (cB, mm22, .inl (fI V23))), (sb0, .inr (11, [.ref va21, .int (zI 0), .int (zI ml), .int (zI (cn + 1))]))] H locs := hW
      refine lv_iload_n C.1 C.2.1 dAs_append_0_39 rfl (lv_at hl 1 rfl) ?_
      refine zi2b C (by omega) dAs_append_0_40 ?_
      refine zbast C hW 0 3 rfl rfl (by omega) (by omega) (by omega) (by omega) dAs_append_0_41 (fun H locs hW => ?_)
      have hB9 : ∀ jj : Int, B8 ((upz V23 cn ch) jj) := upz_8 hf4 (by omega)
      have hW : zw D zCl A s [(va21, .inl (cB, mm22, .inl (fI (upz V23 cn ch)))), (sb0, .inr (11, [.ref va21, .int (zI 0), .int (zI ml), .int (zI (cn + 1))]))] H locs := hW
      refine lv_goto (tgt := 75) C.1 C.2.1 dAs_append_0_42 (by decide) ?_
      refine lv_aload_n C.1 C.2.1 dAs_append_0_75 rfl (lv_at hl 0 rfl) ?_
      have hW : zw D zCl A s [(sb0, .inr (11, [.ref va21, .int (zI 0), .int (zI ml), .int (zI (cn + 1))])), (va21, .inl (cB, mm22, .inl (fI (upz V23 cn ch))))] H locs := zwp hW [1, 0] rfl (by decide)
      exact hQ sb0 _ H locs _ _ _ ls hW ⟨_, _, _, hB9, hf5, hf6, arrL_a (arrL_k hL hf7 hcn.2), rfl, rfl⟩ (by omega) (by omega) dAs_append_0_76
set_option maxHeartbeats 4000000 in
set_option maxRecDepth 100000 in
theorem c_Sb_appendC (l : Launch) (D : va_G) (cI cG cL cB : ClassId) (sb0 : Nat) (va : Nat) (ml : Int) (cn : Int) (mm : Nat) (V : Int → Int) (ch : Int) (L : List Int) (bV : ∀ j : Int, B8 (V j)) (hmm : mm = 16 ∨ mm = 34) (hml : ml = 0 ∨ ml = 1) (hcn : 0 ≤ cn ∧ cn ≤ mm) (hch : B8 ch) (hL : arrL V cn L) (hc1 : cn ≤ 33) : Cq l ySb_append_0 cSb_append_0 2 (some (.object "java/lang/StringBuilder")) 5 1 34 D zCl (zT cI cG cL cB) [.ref sb0, .int (zI ch)] [(sb0, .inr (11, [.ref va, .int (zI 0), .int (zI ml), .int (zI cn)])), (va, .inl (cB, mm, .inl (fI V)))] (fun x w => ∃ va2 : Nat, ∃ mm2 : Nat, ∃ V2 : Int → Int, (∀ j : Int, B8 (V2 j)) ∧ (mm2 = 16 ∨ mm2 = 34) ∧ (cn + 1 ≤ mm2) ∧ (arrL V2 (cn + 1) (L ++ [ch])) ∧ sb0 = x ∧ w = [(sb0, .inr (11, [.ref va2, .int (zI 0), .int (zI ml), .int (zI (cn + 1))])), (va2, .inl (cB, mm2, .inl (fI V2)))]) := by
  refine zBq (Or.inl ⟨_, rfl⟩) (by decide) (Nat.le_of_ble_eq_true rfl) ?_
  intro p e s m args below meth c ls A H locs Q C hin hl hW hQ
  have hl : lv_has ls 2 [(0, .ref sb0), (1, .int (zI ch))] := hl
  refine lv_aload_n C.1 C.2.1 dSb_append_0_0 rfl (lv_at hl 0 rfl) ?_
  refine lv_iload_n C.1 C.2.1 dSb_append_0_1 rfl (lv_at hl 1 rfl) ?_
  refine zcallq (wr := []) C hW [0, 1] [] rfl rfl (by decide) (by decide) (zRunA (k := 1) (As := [.int (zI ch)]) (rest := []) C hW (c_As_appendC l D cI cG cL cB sb0 va ml cn mm V ch L bV (by omega) (by omega) (by omega) (by omega) hL (by omega) H.size) [0, 1] rfl (by decide) kuSb_50 kuSb_50s kuSb_50u (by decide) (by decide +kernel) ⟨by decide, by decide⟩ 0 rfl rfl rfl hl.1 (Nat.le_of_ble_eq_true rfl) dSb_append_0_2 ⟨by first | decide | omega, by first | decide | omega⟩) (fun x w H locs hq hW => ?_)
  obtain ⟨va21, mm22, V23, hf4, hf5, hf6, hf7, rfl, rfl⟩ := hq
  have hW : zw D zCl A s [(sb0, .inr (11, [.ref va21, .int (zI 0), .int (zI ml), .int (zI (cn + 1))])), (va21, .inl (cB, mm22, .inl (fI V23)))] H locs := hW
  refine lv_pop C.1 C.2.1 dSb_append_0_5 rfl ?_
  refine lv_aload_n C.1 C.2.1 dSb_append_0_6 rfl (lv_at hl 0 rfl) ?_
  exact hQ sb0 _ H locs _ _ _ ls hW ⟨_, _, _, hf4, hf5, hf6, hf7, rfl, rfl⟩ (by omega) (by omega) dSb_append_0_7
set_option maxHeartbeats 4000000 in
set_option maxRecDepth 100000 in
theorem c_Integer_stringSize (l : Launch) (D : va_G) (cI cG cL cB : ClassId) (v : Int) (hv : 0 ≤ v ∧ v ≤ 1000000) : Ci l yIg_stringSize cIg_stringSize 4 (some .int) 0 0 0 D zCl (zT cI cG cL cB) [.int (zI v)] [] (fun x w => x = zI ((dgz v).length : Int) ∧ w = []) := by
  refine zBi (by decide) (Nat.le_of_ble_eq_true rfl) ?_
  intro p e s m args below meth c ls A H locs Q C hin hl hW hQ
  have hl : lv_has ls 4 [(0, .int (zI v))] := hl
  refine lv_iconst (v := zI 1) C.1 C.2.1 dIg_stringSize_0 (by decide) ?_
  refine lv_istore_n (lv' := [(1, .int (zI 1)), (0, .int (zI v))]) C.1 C.2.1 dIg_stringSize_1 rfl hl (by decide) rfl (fun ls hl => ?_)
  refine lv_iload_n C.1 C.2.1 dIg_stringSize_2 rfl (lv_at hl 1 rfl) ?_
  refine zif_lt (tgt := 11) C (by omega) dIg_stringSize_3 (by decide) (fun c3 => ?_) (fun c3 => ?_)
  · exact False.elim (by omega)
  · refine lv_iconst (v := zI 0) C.1 C.2.1 dIg_stringSize_6 (by decide) ?_
    refine lv_istore_n (lv' := [(1, .int (zI 0)), (0, .int (zI v))]) C.1 C.2.1 dIg_stringSize_7 rfl hl (by decide) rfl (fun ls hl => ?_)
    refine lv_iload_n C.1 C.2.1 dIg_stringSize_8 rfl (lv_at hl 1 rfl) ?_
    refine zineg C dIg_stringSize_9 ?_
    refine lv_istore_n (lv' := [(0, .int (zI (-v))), (1, .int (zI 0))]) C.1 C.2.1 dIg_stringSize_10 rfl hl (by decide) rfl (fun ls hl => ?_)
    refine lv_bipush (v := zI (-10)) C.1 C.2.1 dIg_stringSize_11 (by decide) ?_
    refine lv_istore_n (lv' := [(2, .int (zI (-10))), (0, .int (zI (-v))), (1, .int (zI 0))]) C.1 C.2.1 dIg_stringSize_13 rfl hl (by decide) rfl (fun ls hl => ?_)
    refine lv_iconst (v := zI 1) C.1 C.2.1 dIg_stringSize_14 (by decide) ?_
    refine lv_istore_n (lv' := [(3, .int (zI 1)), (2, .int (zI (-10))), (0, .int (zI (-v))), (1, .int (zI 0))]) C.1 C.2.1 dIg_stringSize_15 rfl hl (by decide) rfl (fun ls hl => ?_)
    have L16 : ∀ (N : Nat) (k : Nat) (pp : Int) (ii : Int), 10 - k < N → (k ≤ 6) → (pp = -(p10 (k + 1))) → (ii = k + 1) → (k = 0 ∨ p10 k ≤ v) → ∀ (ls : Array Slot) (H : Heap) (locs : List Loc), lv_has ls 4 [(3, .int (zI ii)), (2, .int (zI pp)), (0, .int (zI (-v))), (1, .int (zI 0))] → zw D zCl A s [] H locs → W p l e (zr 0 0 0) s m args below meth c H locs 0 0 Q (F0 m 16 ls []) := by
      intro N
      induction N with
      | zero => intro k pp ii hm; exact absurd hm (Nat.not_lt_zero _)
      | succ N ih16 =>
        intro k pp ii hm16 hk hp_ hi_ ha ls H locs hl hW
        have hpb := p10_b hk
        refine lv_iload_n C.1 C.2.1 dIg_stringSize_16 rfl (lv_at hl 0 rfl) ?_
        refine lv_bipush (v := zI 10) C.1 C.2.1 dIg_stringSize_17 (by decide) ?_
        refine zicmp_ge (tgt := 42) C (by omega) (by omega) dIg_stringSize_19 (by decide) (fun c19 => ?_) (fun c19 => ?_)
        · exact False.elim (by omega)
        · refine lv_iload_n C.1 C.2.1 dIg_stringSize_22 rfl (lv_at hl 2 rfl) ?_
          refine lv_iload_n C.1 C.2.1 dIg_stringSize_23 rfl (lv_at hl 1 rfl) ?_
          refine zicmp_le (tgt := 31) C (by omega) (by omega) dIg_stringSize_24 (by decide) (fun c24 => ?_) (fun c24 => ?_)
          · refine lv_bipush (v := zI 10) C.1 C.2.1 dIg_stringSize_31 (by decide) ?_
            refine lv_iload_n C.1 C.2.1 dIg_stringSize_33 rfl (lv_at hl 1 rfl) ?_
            refine zimul C dIg_stringSize_34 ?_
            refine lv_istore_n (lv' := [(2, .int (zI (10 * pp))), (3, .int (zI ii)), (0, .int (zI (-v))), (1, .int (zI 0))]) C.1 C.2.1 dIg_stringSize_35 rfl hl (by decide) rfl (fun ls hl => ?_)
            refine lv_iinc (v := zI (ii + 1)) (lv' := [(3, .int (zI (ii + 1))), (2, .int (zI (10 * pp))), (0, .int (zI (-v))), (1, .int (zI 0))]) C.1 C.2.1 dIg_stringSize_36 hl (k := 1) rfl (zI_add ii 1) (by decide) rfl (fun ls hl => ?_)
            refine lv_goto (tgt := 16) C.1 C.2.1 dIg_stringSize_39 (by decide) ?_
            exact ih16 (k + 1) (10 * pp) (ii + 1) (by omega) (by rcases Nat.lt_or_ge k 6 with h | h; omega; have e6 : k = 6 := (by omega); subst e6; have e7 : p10 (6 + 1) = 10000000 := (by decide); omega) (by show 10 * pp = -(10 * p10 (k + 1)); omega) (by omega) (Or.inr (by omega)) ls H locs (lv_sub hl [0, 1, 2, 3] rfl) hW
          · refine lv_iload_n C.1 C.2.1 dIg_stringSize_27 rfl (lv_at hl 0 rfl) ?_
            refine lv_iload_n C.1 C.2.1 dIg_stringSize_28 rfl (lv_at hl 3 rfl) ?_
            refine ziadd C dIg_stringSize_29 ?_
            exact hQ (zI (ii + 0)) _ H locs _ _ _ ls hW ⟨congrArg zI (by rw [dgz_len (k := k) (by omega) (by omega) ha (by omega)]; omega), rfl⟩ (by omega) (by omega) dIg_stringSize_30
    exact L16 _ 0 (-10) 1 (Nat.lt_succ_self _) (by omega) (by decide) rfl (Or.inl rfl) ls H locs (lv_sub hl [0, 1, 2, 3] rfl) hW
set_option maxHeartbeats 4000000 in
set_option maxRecDepth 100000 in
theorem c_Integer_getChars (l : Launch) (D : va_G) (cI cG cL cB : ClassId) (v : Int) (ix : Int) (va : Nat) (mm : Nat) (V : Int → Int) (n0 : Int) (bV : ∀ j : Int, B8 (V j)) (hmm : mm = 16 ∨ mm = 34) (hv : 0 ≤ v ∧ v ≤ 1000000) (hn0 : 0 ≤ n0) (hix : ix = n0 + ((dgz v).length : Int)) (hixm : ix ≤ mm) : Ci l yIg_getChars cIg_getChars 7 (some .int) 0 0 0 D zCl (zT cI cG cL cB) [.int (zI v), .int (zI ix), .ref va] [(va, .inl (cB, mm, .inl (fI V)))] (fun x w => ∃ V2 : Int → Int, (∀ j : Int, B8 (V2 j)) ∧ (∀ L : List Int, arrL V n0 L → arrL V2 ix (L ++ dgz v)) ∧ x = zI n0 ∧ w = [(va, .inl (cB, mm, .inl (fI V2)))]) := by
  refine zBi (by decide) (Nat.le_of_ble_eq_true rfl) ?_
  intro p e s m args below meth c ls A H locs Q C hin hl hW hQ
  have hl : lv_has ls 7 [(0, .int (zI v)), (1, .int (zI ix)), (2, .ref va)] := hl
  obtain ⟨t1, hZ1, hT1⟩ := zD1 C
  obtain ⟨t2, hZ2, hT2⟩ := zD2 C
  have hmi : (mm : Int) ≤ 34 := (by omega)
  refine lv_iload_n C.1 C.2.1 dIg_getChars_0 rfl (lv_at hl 1 rfl) ?_
  refine lv_istore (lv' := [(5, .int (zI ix)), (0, .int (zI v)), (1, .int (zI ix)), (2, .ref va)]) C.1 C.2.1 dIg_getChars_1 hl (by decide) rfl (fun ls hl => ?_)
  refine lv_iload_n C.1 C.2.1 dIg_getChars_3 rfl (lv_at hl 1 rfl) ?_
  refine zif_ge (tgt := 11) C (by omega) dIg_getChars_4 (by decide) (fun c4 => ?_) (fun c4 => ?_)
  · refine lv_iconst (v := zI 0) C.1 C.2.1 dIg_getChars_11 (by decide) ?_
    refine lv_istore (lv' := [(6, .int (zI 0)), (5, .int (zI ix)), (0, .int (zI v)), (1, .int (zI ix)), (2, .ref va)]) C.1 C.2.1 dIg_getChars_12 hl (by decide) rfl (fun ls hl => ?_)
    refine lv_iload C.1 C.2.1 dIg_getChars_14 (lv_at hl 0 rfl) ?_
    refine zif_ne (tgt := 22) C (by omega) dIg_getChars_16 (by decide) (fun c16 => ?_) (fun c16 => ?_)
    · exact absurd c16 (by decide)
    · refine lv_iload_n C.1 C.2.1 dIg_getChars_19 rfl (lv_at hl 2 rfl) ?_
      refine zineg C dIg_getChars_20 ?_
      refine lv_istore_n (lv' := [(0, .int (zI (-v))), (6, .int (zI 0)), (5, .int (zI ix)), (1, .int (zI ix)), (2, .ref va)]) C.1 C.2.1 dIg_getChars_21 rfl hl (by decide) rfl (fun ls hl => ?_)
      have L22 : ∀ (N : Nat) (xi : Int) (q_ : Int) (pos : Int) (S : List Int) (B : Int → Int), q_.toNat < N → (xi = -q_) → (0 ≤ q_) → (q_ ≤ v) → (dgz q_ ++ S = dgz v) → (pos = n0 + ((dgz q_).length : Int)) → (pos ≤ ix) → (segA B pos S) → (∀ j : Int, 0 ≤ j → j < pos → B j = V j) → (∀ j : Int, B8 (B j)) → ∀ (ls : Array Slot) (H : Heap) (locs : List Loc), lv_has ls 7 [(0, .int (zI xi)), (6, .int (zI 0)), (5, .int (zI pos)), (1, .int (zI ix)), (2, .ref va)] → zw D zCl A s [(va, .inl (cB, mm, .inl (fI B)))] H locs → W p l e (zr 0 0 0) s m args below meth c H locs 0 0 Q (F0 m 22 ls []) := by
        intro N
        induction N with
        | zero => intro xi q_ pos S B hm; exact absurd hm (Nat.not_lt_zero _)
        | succ N ih22 =>
          intro xi q_ pos S B hm22 hxq hq0 hq1 hS hpos hpi hsg hkp bB ls H locs hl hW
          have hge := (dgz_b (v := q_) (by omega)).resolve_right (by omega)
          refine lv_iload_n C.1 C.2.1 dIg_getChars_22 rfl (lv_at hl 0 rfl) ?_
          refine lv_bipush (v := zI (-100)) C.1 C.2.1 dIg_getChars_23 (by decide) ?_
          refine zicmp_gt (tgt := 72) C (by omega) (by omega) dIg_getChars_25 (by decide) (fun c25 => ?_) (fun c25 => ?_)
          · refine lv_aload_n C.1 C.2.1 dIg_getChars_72 rfl (lv_at hl 4 rfl) ?_
            refine lv_iinc (v := zI (pos + (-1))) (lv' := [(5, .int (zI (pos + (-1)))), (0, .int (zI xi)), (6, .int (zI 0)), (1, .int (zI ix)), (2, .ref va)]) C.1 C.2.1 dIg_getChars_73 hl (k := 2) rfl (zI_add pos (-1)) (by decide) rfl (fun ls hl => ?_)
            refine lv_iload C.1 C.2.1 dIg_getChars_76 (lv_at hl 0 rfl) ?_
            refine zgets C hW hZ1 kzIg_83 dIg_getChars_78 ?_
            refine lv_iload_n C.1 C.2.1 dIg_getChars_81 rfl (lv_at hl 1 rfl) ?_
            refine zineg C dIg_getChars_82 ?_
            refine ztd1 C hW hT1 (by omega) (by omega) dIg_getChars_83 ?_
            refine zbast C hW 0 3 rfl rfl (by omega) (by omega) (by omega) (by omega) dIg_getChars_84 (fun H locs hW => ?_)
            have hB1 : ∀ jj : Int, B8 ((upz B (pos + (-1)) (48 + (-xi) % 10)) jj) := upz_8 bB (by omega)
            have hW : zw D zCl A s [(va, .inl (cB, mm, .inl (fI (upz B (pos + (-1)) (48 + (-xi) % 10)))))] H locs := hW
            refine lv_iload_n C.1 C.2.1 dIg_getChars_85 rfl (lv_at hl 1 rfl) ?_
            refine lv_bipush (v := zI (-9)) C.1 C.2.1 dIg_getChars_86 (by decide) ?_
            refine zicmp_ge (tgt := 104) C (by omega) (by omega) dIg_getChars_88 (by decide) (fun c88 => ?_) (fun c88 => ?_)
            · refine lv_iload C.1 C.2.1 dIg_getChars_104 (lv_at hl 2 rfl) ?_
              refine zif_eq (tgt := 118) C (by omega) dIg_getChars_106 (by decide) (fun c106 => ?_) (fun c106 => ?_)
              · refine lv_iload C.1 C.2.1 dIg_getChars_118 (lv_at hl 0 rfl) ?_
                exact hQ (zI (pos + (-1))) _ H locs _ _ _ ls hW ⟨_, hB1, (fun L hL => gc_1 hsg hkp hS hpos hix (by omega) (by omega) hxq hL), congrArg zI (by have e0 := dgz_1 (v := q_) (by omega) (by omega); rw [e0] at hpos; simp only [List.length_cons, List.length_nil] at hpos; omega), rfl⟩ (by omega) (by omega) dIg_getChars_120
              · exact absurd c106 (by decide)
            · have e0_ : ((dgz q_).length : Int) = 2 := by rw [dgz_s2 (v := q_) (by omega) (by omega)]; rfl
              refine lv_aload_n C.1 C.2.1 dIg_getChars_91 rfl (lv_at hl 4 rfl) ?_
              refine lv_iinc (v := zI ((pos + (-1)) + (-1))) (lv' := [(5, .int (zI ((pos + (-1)) + (-1)))), (0, .int (zI xi)), (6, .int (zI 0)), (1, .int (zI ix)), (2, .ref va)]) C.1 C.2.1 dIg_getChars_92 hl (k := 0) rfl (zI_add (pos + (-1)) (-1)) (by decide) rfl (fun ls hl => ?_)
              refine lv_iload C.1 C.2.1 dIg_getChars_95 (lv_at hl 0 rfl) ?_
              refine zgets C hW hZ2 kzIg_87 dIg_getChars_97 ?_
              refine lv_iload_n C.1 C.2.1 dIg_getChars_100 rfl (lv_at hl 1 rfl) ?_
              refine zineg C dIg_getChars_101 ?_
              refine ztd2 C hW hT2 (by omega) (by omega) dIg_getChars_102 ?_
              refine zbast C hW 0 3 rfl rfl (by omega) (by omega) (by omega) (by omega) dIg_getChars_103 (fun H locs hW => ?_)
              have hB2 : ∀ jj : Int, B8 ((upz (upz B (pos + (-1)) (48 + (-xi) % 10)) ((pos + (-1)) + (-1)) (48 + (-xi) / 10)) jj) := upz_8 hB1 (by omega)
              have hW : zw D zCl A s [(va, .inl (cB, mm, .inl (fI (upz (upz B (pos + (-1)) (48 + (-xi) % 10)) ((pos + (-1)) + (-1)) (48 + (-xi) / 10)))))] H locs := hW
              refine lv_iload C.1 C.2.1 dIg_getChars_104 (lv_at hl 2 rfl) ?_
              refine zif_eq (tgt := 118) C (by omega) dIg_getChars_106 (by decide) (fun c106 => ?_) (fun c106 => ?_)
              · refine lv_iload C.1 C.2.1 dIg_getChars_118 (lv_at hl 0 rfl) ?_
                exact hQ (zI ((pos + (-1)) + (-1))) _ H locs _ _ _ ls hW ⟨_, hB2, (fun L hL => gc_2 hsg hkp hS hpos hix (by omega) (by omega) hxq hL), congrArg zI (by have e0 := dgz_s2 (v := q_) (by omega) (by omega); rw [e0] at hpos; simp only [List.length_cons, List.length_nil] at hpos; omega), rfl⟩ (by omega) (by omega) dIg_getChars_120
              · exact absurd c106 (by decide)
          · have hds := dgz_s (v := q_) (by omega) (by omega)
            have hdl : ((dgz q_).length : Int) = ((dgz (q_ / 100)).length : Int) + 2 := by rw [hds, List.length_append]; rfl
            have hge2 := (dgz_b (v := q_ / 100) (by omega)).resolve_right (by omega)
            have hqd : xi.tdiv 100 = -(q_ / 100) := by rw [hxq, Int.neg_tdiv, Int.tdiv_eq_ediv_of_nonneg hq0]
            refine lv_iload_n C.1 C.2.1 dIg_getChars_28 rfl (lv_at hl 0 rfl) ?_
            refine lv_bipush (v := zI 100) C.1 C.2.1 dIg_getChars_29 (by decide) ?_
            refine zidiv C (by omega) (by omega) (by omega) dIg_getChars_31 ?_
            refine lv_istore_n (lv' := [(3, .int (zI (xi.tdiv 100))), (0, .int (zI xi)), (6, .int (zI 0)), (5, .int (zI pos)), (1, .int (zI ix)), (2, .ref va)]) C.1 C.2.1 dIg_getChars_32 rfl hl (by decide) rfl (fun ls hl => ?_)
            refine lv_iload_n C.1 C.2.1 dIg_getChars_33 rfl (lv_at hl 0 rfl) ?_
            refine lv_bipush (v := zI 100) C.1 C.2.1 dIg_getChars_34 (by decide) ?_
            refine zimul C dIg_getChars_36 ?_
            refine lv_iload_n C.1 C.2.1 dIg_getChars_37 rfl (lv_at hl 1 rfl) ?_
            refine zisub C dIg_getChars_38 ?_
            refine lv_istore (lv' := [(4, .int (zI (((xi.tdiv 100) * 100) - xi))), (3, .int (zI (xi.tdiv 100))), (0, .int (zI xi)), (6, .int (zI 0)), (5, .int (zI pos)), (1, .int (zI ix)), (2, .ref va)]) C.1 C.2.1 dIg_getChars_39 hl (by decide) rfl (fun ls hl => ?_)
            refine lv_iload_n C.1 C.2.1 dIg_getChars_41 rfl (lv_at hl 1 rfl) ?_
            refine lv_istore_n (lv' := [(0, .int (zI (xi.tdiv 100))), (4, .int (zI (((xi.tdiv 100) * 100) - xi))), (3, .int (zI (xi.tdiv 100))), (6, .int (zI 0)), (5, .int (zI pos)), (1, .int (zI ix)), (2, .ref va)]) C.1 C.2.1 dIg_getChars_42 rfl hl (by decide) rfl (fun ls hl => ?_)
            refine lv_aload_n C.1 C.2.1 dIg_getChars_43 rfl (lv_at hl 6 rfl) ?_
            refine lv_iinc (v := zI (pos + (-1))) (lv' := [(5, .int (zI (pos + (-1)))), (0, .int (zI (xi.tdiv 100))), (4, .int (zI (((xi.tdiv 100) * 100) - xi))), (3, .int (zI (xi.tdiv 100))), (6, .int (zI 0)), (1, .int (zI ix)), (2, .ref va)]) C.1 C.2.1 dIg_getChars_44 hl (k := 4) rfl (zI_add pos (-1)) (by decide) rfl (fun ls hl => ?_)
            refine lv_iload C.1 C.2.1 dIg_getChars_47 (lv_at hl 0 rfl) ?_
            refine zgets C hW hZ1 kzIg_83 dIg_getChars_49 ?_
            refine lv_iload C.1 C.2.1 dIg_getChars_52 (lv_at hl 2 rfl) ?_
            refine ztd1 C hW hT1 (by omega) (by omega) dIg_getChars_54 ?_
            refine zbast C hW 0 3 rfl rfl (by omega) (by omega) (by omega) (by omega) dIg_getChars_55 (fun H locs hW => ?_)
            have hB3 : ∀ jj : Int, B8 ((upz B (pos + (-1)) (48 + (((xi.tdiv 100) * 100) - xi) % 10)) jj) := upz_8 bB (by omega)
            have hW : zw D zCl A s [(va, .inl (cB, mm, .inl (fI (upz B (pos + (-1)) (48 + (((xi.tdiv 100) * 100) - xi) % 10)))))] H locs := hW
            refine lv_aload_n C.1 C.2.1 dIg_getChars_56 rfl (lv_at hl 6 rfl) ?_
            refine lv_iinc (v := zI ((pos + (-1)) + (-1))) (lv' := [(5, .int (zI ((pos + (-1)) + (-1)))), (0, .int (zI (xi.tdiv 100))), (4, .int (zI (((xi.tdiv 100) * 100) - xi))), (3, .int (zI (xi.tdiv 100))), (6, .int (zI 0)), (1, .int (zI ix)), (2, .ref va)]) C.1 C.2.1 dIg_getChars_57 hl (k := 0) rfl (zI_add (pos + (-1)) (-1)) (by decide) rfl (fun ls hl => ?_)
            refine lv_iload C.1 C.2.1 dIg_getChars_60 (lv_at hl 0 rfl) ?_
            refine zgets C hW hZ2 kzIg_87 dIg_getChars_62 ?_
            refine lv_iload C.1 C.2.1 dIg_getChars_65 (lv_at hl 2 rfl) ?_
            refine ztd2 C hW hT2 (by omega) (by omega) dIg_getChars_67 ?_
            refine zbast C hW 0 3 rfl rfl (by omega) (by omega) (by omega) (by omega) dIg_getChars_68 (fun H locs hW => ?_)
            have hB4 : ∀ jj : Int, B8 ((upz (upz B (pos + (-1)) (48 + (((xi.tdiv 100) * 100) - xi) % 10)) ((pos + (-1)) + (-1)) (48 + (((xi.tdiv 100) * 100) - xi) / 10)) jj) := upz_8 hB3 (by omega)
            have hW : zw D zCl A s [(va, .inl (cB, mm, .inl (fI (upz (upz B (pos + (-1)) (48 + (((xi.tdiv 100) * 100) - xi) % 10)) ((pos + (-1)) + (-1)) (48 + (((xi.tdiv 100) * 100) - xi) / 10)))))] H locs := hW
            refine lv_goto (tgt := 22) C.1 C.2.1 dIg_getChars_69 (by decide) ?_
            exact ih22 (xi.tdiv 100) (q_ / 100) ((pos + (-1)) + (-1)) ((48 + q_ % 100 / 10) :: (48 + q_ % 100 % 10) :: S) (upz (upz B (pos + (-1)) (48 + (((xi.tdiv 100) * 100) - xi) % 10)) ((pos + (-1)) + (-1)) (48 + (((xi.tdiv 100) * 100) - xi) / 10)) (by omega) (by omega) (by omega) (by omega) (by rw [← hS, hds, List.append_assoc]; rfl) (by omega) (by omega) (gc_s (xi := xi) hsg (by omega)) (fun j h0 h1 => by rw [upz_n (by omega), upz_n (by omega)]; exact hkp j h0 (by omega)) hB4 ls H locs (lv_sub hl [1, 4, 0, 5, 6] rfl) hW
      exact L22 _ (-v) v ix [] V (Nat.lt_succ_self _) rfl (by omega) (by omega) (List.append_nil _) hix (by omega) (fun k h => absurd h (Nat.not_lt_zero k)) (fun j _ _ => rfl) bV ls H locs (lv_sub hl [0, 1, 2, 3, 4] rfl) hW
  · exact False.elim (by omega)
set_option maxHeartbeats 4000000 in
set_option maxRecDepth 100000 in
theorem c_As_appendI (l : Launch) (D : va_G) (cI cG cL cB : ClassId) (sb0 : Nat) (va : Nat) (ml : Int) (cn : Int) (mm : Nat) (V : Int → Int) (v : Int) (L : List Int) (bV : ∀ j : Int, B8 (V j)) (hmm : mm = 16 ∨ mm = 34) (hml : ml = 0 ∨ ml = 1) (hcn : 0 ≤ cn ∧ cn ≤ mm) (hv : 0 ≤ v ∧ v ≤ 1000000) (hL : arrL V cn L) (hc1 : cn + ((dgz v).length : Int) ≤ 34) : Cq l yAs_append_1 cAs_append_1 4 (some (.object "java/lang/AbstractStringBuilder")) 4 1 34 D zCl (zT cI cG cL cB) [.ref sb0, .int (zI v)] [(sb0, .inr (11, [.ref va, .int (zI 0), .int (zI ml), .int (zI cn)])), (va, .inl (cB, mm, .inl (fI V)))] (fun x w => ∃ va2 : Nat, ∃ mm2 : Nat, ∃ V2 : Int → Int, (∀ j : Int, B8 (V2 j)) ∧ (mm2 = 16 ∨ mm2 = 34) ∧ (cn + ((dgz v).length : Int) ≤ mm2) ∧ (arrL V2 (cn + ((dgz v).length : Int)) (L ++ dgz v)) ∧ sb0 = x ∧ w = [(sb0, .inr (11, [.ref va2, .int (zI 0), .int (zI ml), .int (zI (cn + ((dgz v).length : Int)))])), (va2, .inl (cB, mm2, .inl (fI V2)))]) := by
  refine zBq (Or.inl ⟨_, rfl⟩) (by decide) (Nat.le_of_ble_eq_true rfl) ?_
  intro p e s m args below meth c ls A H locs Q C hin hl hW hQ
  have hl : lv_has ls 4 [(0, .ref sb0), (1, .int (zI v))] := hl
  refine lv_aload_n C.1 C.2.1 dAs_append_1_0 rfl (lv_at hl 0 rfl) ?_
  refine zget C hW 0 3 rfl rfl inSb (by decide) flAs_79 rfl dAs_append_1_1 ?_
  refine lv_istore_n (lv' := [(2, .int (zI cn)), (0, .ref sb0), (1, .int (zI v))]) C.1 C.2.1 dAs_append_1_4 rfl hl (by decide) rfl (fun ls hl => ?_)
  refine lv_iload_n C.1 C.2.1 dAs_append_1_5 rfl (lv_at hl 0 rfl) ?_
  refine lv_iload_n C.1 C.2.1 dAs_append_1_6 rfl (lv_at hl 2 rfl) ?_
  refine zcalli (wr := [(sb0, .inr (11, [.ref va, .int (zI 0), .int (zI ml), .int (zI cn)])), (va, .inl (cB, mm, .inl (fI V)))]) C hW [] [0, 1] rfl rfl (by decide) (by decide) (zRunS (k := 1) (As := [.int (zI v)]) (rest := [.int (zI cn)]) C hW (c_Integer_stringSize l D cI cG cL cB v (by omega) H.size) [] rfl (by decide) kAs_245 (by decide +kernel) ⟨by decide, by decide⟩ rfl hl.1 (Nat.le_of_ble_eq_true rfl) dAs_append_1_7 ⟨by first | decide | omega, by first | decide | omega⟩) (fun x w H locs hq hW => ?_)
  obtain ⟨rfl, rfl⟩ := hq
  have hW : zw D zCl A s [(sb0, .inr (11, [.ref va, .int (zI 0), .int (zI ml), .int (zI cn)])), (va, .inl (cB, mm, .inl (fI V)))] H locs := hW
  refine ziadd C dAs_append_1_10 ?_
  refine lv_istore_n (lv' := [(3, .int (zI (cn + ((dgz v).length : Int)))), (2, .int (zI cn)), (0, .ref sb0), (1, .int (zI v))]) C.1 C.2.1 dAs_append_1_11 rfl hl (by decide) rfl (fun ls hl => ?_)
  refine lv_aload_n C.1 C.2.1 dAs_append_1_12 rfl (lv_at hl 2 rfl) ?_
  refine lv_iload_n C.1 C.2.1 dAs_append_1_13 rfl (lv_at hl 0 rfl) ?_
  refine zcallv (wr := []) C hW [0, 1] [] rfl rfl (by decide) (by decide) (zRunU (k := 1) (As := [.int (zI (cn + ((dgz v).length : Int)))]) (rest := []) C hW (c_AbstractStringBuilder_ensureCapacityInternal l D cI cG cL cB sb0 va ml cn mm V (cn + ((dgz v).length : Int)) bV (by omega) (by omega) (by omega) (by omega) H.size) [0, 1] rfl (by decide) kuAs_100 kuAs_100s (zSelP C ks_isLatin1 rfl ⟨by decide, by decide⟩ kuAs_100p (kuAs_100 _ (by simp [kU]))) (by decide +kernel) ⟨by decide, by decide⟩ 0 rfl rfl rfl hl.1 (Nat.le_of_ble_eq_true rfl) dAs_append_1_14 ⟨by first | decide | omega, by first | decide | omega⟩) (fun w H locs hq hW => ?_)
  obtain ⟨va21, mm22, V23, hf4, hf5, hf6, hf7, hf8, rfl⟩ := hq
  have hW : zw D zCl A s [(sb0, .inr (11, [.ref va21, .int (zI 0), .int (zI ml), .int (zI cn)])), (va21, .inl (cB, mm22, .inl (fI V23)))] H locs := hW
  refine lv_aload_n C.1 C.2.1 dAs_append_1_17 rfl (lv_at hl 2 rfl) ?_
  refine zcalli (wr := [(va21, .inl (cB, mm22, .inl (fI V23)))]) C hW [0] [1] rfl rfl (by decide) (by decide) (zRunU (k := 0) (As := []) (rest := []) C hW (c_AbstractStringBuilder_isLatin1 l D cI cG cL cB sb0 va21 ml cn  H.size) [0] rfl (by decide) kuAs_83 kuAs_83s (C.2.2.2.2.1 _ ks_isLatin1) (by decide +kernel) ⟨by decide, by decide⟩ 0 rfl rfl rfl hl.1 (Nat.le_of_ble_eq_true rfl) dAs_append_1_18 ⟨by first | decide | omega, by first | decide | omega⟩) (fun x w H locs hq hW => ?_)
  obtain ⟨rfl, rfl⟩ := hq
  have hW : zw D zCl A s [(va21, .inl (cB, mm22, .inl (fI V23))), (sb0, .inr (11, [.ref va21, .int (zI 0), .int (zI ml), .int (zI cn)]))] H locs := hW
  refine zif_eq (tgt := 37) C (by omega) dAs_append_1_21 (by decide) (fun c21 => ?_) (fun c21 => ?_)
  · exact absurd c21 (by decide)
  · refine lv_iload_n C.1 C.2.1 dAs_append_1_24 rfl (lv_at hl 3 rfl) ?_
    refine lv_iload_n C.1 C.2.1 dAs_append_1_25 rfl (lv_at hl 0 rfl) ?_
    refine lv_aload_n C.1 C.2.1 dAs_append_1_26 rfl (lv_at hl 2 rfl) ?_
    refine zget C hW 1 0 rfl rfl inSb (by decide) flAs_15 rfl dAs_append_1_27 ?_
    refine zcalli (wr := [(sb0, .inr (11, [.ref va21, .int (zI 0), .int (zI ml), .int (zI cn)]))]) C hW [0] [1] rfl rfl (by decide) (by decide) (zRunS (k := 3) (As := [.int (zI v), .int (zI (cn + ((dgz v).length : Int))), .ref va21]) (rest := []) C hW (c_Integer_getChars l D cI cG cL cB v (cn + ((dgz v).length : Int)) va21 mm22 V23 cn hf4 hf5 (by omega) hcn.1 rfl hf6 H.size) [0] rfl (by decide) kAs_248 (by decide +kernel) ⟨by decide, by decide⟩ rfl hl.1 (Nat.le_of_ble_eq_true rfl) dAs_append_1_30 ⟨by first | decide | omega, by first | decide | omega⟩) (fun x w H locs hq hW => ?_)
    obtain ⟨V29, hf10, hf11, rfl, rfl⟩ := hq
    have hW : zw D zCl A s [(sb0, .inr (11, [.ref va21, .int (zI 0), .int (zI ml), .int (zI cn)])), (va21, .inl (cB, mm22, .inl (fI V29)))] H locs := hW
    refine lv_pop C.1 C.2.1 dAs_append_1_33 rfl ?_
    refine lv_goto (tgt := 48) C.1 C.2.1 dAs_append_1_34 (by decide) ?_
    refine lv_aload_n C.1 C.2.1 dAs_append_1_48 rfl (lv_at hl 2 rfl) ?_
    refine lv_iload_n C.1 C.2.1 dAs_append_1_49 rfl (lv_at hl 0 rfl) ?_
    refine zput C hW 0 3 tySb tySb_ok nmSb rfl rfl inSb (by decide) flAs_79 rfl rfl rfl rfl (Nat.le_of_ble_eq_true rfl) dAs_append_1_50 (fun H locs hW => ?_)
    have hW : zw D zCl A s [(sb0, .inr (11, [.ref va21, .int (zI 0), .int (zI ml), .int (zI (cn + ((dgz v).length : Int)))])), (va21, .inl (cB, mm22, .inl (fI V29)))] H locs := hW
    refine lv_aload_n C.1 C.2.1 dAs_append_1_53 rfl (lv_at hl 2 rfl) ?_
    exact hQ sb0 _ H locs _ _ _ ls hW ⟨_, _, _, hf10, hf5, hf6, hf11 L (arrL_k hL hf7 hcn.2), rfl, rfl⟩ (by omega) (by omega) dAs_append_1_54
set_option maxHeartbeats 4000000 in
set_option maxRecDepth 100000 in
theorem c_Sb_appendI (l : Launch) (D : va_G) (cI cG cL cB : ClassId) (sb0 : Nat) (va : Nat) (ml : Int) (cn : Int) (mm : Nat) (V : Int → Int) (v : Int) (L : List Int) (bV : ∀ j : Int, B8 (V j)) (hmm : mm = 16 ∨ mm = 34) (hml : ml = 0 ∨ ml = 1) (hcn : 0 ≤ cn ∧ cn ≤ mm) (hv : 0 ≤ v ∧ v ≤ 1000000) (hL : arrL V cn L) (hc1 : cn + ((dgz v).length : Int) ≤ 34) : Cq l ySb_append_1 cSb_append_1 2 (some (.object "java/lang/StringBuilder")) 5 1 34 D zCl (zT cI cG cL cB) [.ref sb0, .int (zI v)] [(sb0, .inr (11, [.ref va, .int (zI 0), .int (zI ml), .int (zI cn)])), (va, .inl (cB, mm, .inl (fI V)))] (fun x w => ∃ va2 : Nat, ∃ mm2 : Nat, ∃ V2 : Int → Int, (∀ j : Int, B8 (V2 j)) ∧ (mm2 = 16 ∨ mm2 = 34) ∧ (cn + ((dgz v).length : Int) ≤ mm2) ∧ (arrL V2 (cn + ((dgz v).length : Int)) (L ++ dgz v)) ∧ sb0 = x ∧ w = [(sb0, .inr (11, [.ref va2, .int (zI 0), .int (zI ml), .int (zI (cn + ((dgz v).length : Int)))])), (va2, .inl (cB, mm2, .inl (fI V2)))]) := by
  refine zBq (Or.inl ⟨_, rfl⟩) (by decide) (Nat.le_of_ble_eq_true rfl) ?_
  intro p e s m args below meth c ls A H locs Q C hin hl hW hQ
  have hl : lv_has ls 2 [(0, .ref sb0), (1, .int (zI v))] := hl
  refine lv_aload_n C.1 C.2.1 dSb_append_1_0 rfl (lv_at hl 0 rfl) ?_
  refine lv_iload_n C.1 C.2.1 dSb_append_1_1 rfl (lv_at hl 1 rfl) ?_
  refine zcallq (wr := []) C hW [0, 1] [] rfl rfl (by decide) (by decide) (zRunA (k := 1) (As := [.int (zI v)]) (rest := []) C hW (c_As_appendI l D cI cG cL cB sb0 va ml cn mm V v L bV (by omega) (by omega) (by omega) (by omega) hL (by omega) H.size) [0, 1] rfl (by decide) kuSb_53 kuSb_53s kuSb_53u (by decide) (by decide +kernel) ⟨by decide, by decide⟩ 0 rfl rfl rfl hl.1 (Nat.le_of_ble_eq_true rfl) dSb_append_1_2 ⟨by first | decide | omega, by first | decide | omega⟩) (fun x w H locs hq hW => ?_)
  obtain ⟨va21, mm22, V23, hf4, hf5, hf6, hf7, rfl, rfl⟩ := hq
  have hW : zw D zCl A s [(sb0, .inr (11, [.ref va21, .int (zI 0), .int (zI ml), .int (zI (cn + ((dgz v).length : Int)))])), (va21, .inl (cB, mm22, .inl (fI V23)))] H locs := hW
  refine lv_pop C.1 C.2.1 dSb_append_1_5 rfl ?_
  refine lv_aload_n C.1 C.2.1 dSb_append_1_6 rfl (lv_at hl 0 rfl) ?_
  exact hQ sb0 _ H locs _ _ _ ls hW ⟨_, _, _, hf4, hf5, hf6, hf7, rfl, rfl⟩ (by omega) (by omega) dSb_append_1_7
set_option maxHeartbeats 4000000 in
set_option maxRecDepth 100000 in
theorem c_AbstractStringBuilder_length (l : Launch) (D : va_G) (cI cG cL cB : ClassId) (sb0 : Nat) (va : Nat) (ml : Int) (cn : Int)  : Ci l yAs_length cAs_length 1 (some .int) 0 0 0 D zCl (zT cI cG cL cB) [.ref sb0] [(sb0, .inr (11, [.ref va, .int (zI 0), .int (zI ml), .int (zI cn)]))] (fun x w => x = zI cn ∧ w = [(sb0, .inr (11, [.ref va, .int (zI 0), .int (zI ml), .int (zI cn)]))]) := by
  refine zBi (by decide) (Nat.le_of_ble_eq_true rfl) ?_
  intro p e s m args below meth c ls A H locs Q C hin hl hW hQ
  have hl : lv_has ls 1 [(0, .ref sb0)] := hl
  refine lv_aload_n C.1 C.2.1 dAs_length_0 rfl (lv_at hl 0 rfl) ?_
  refine zget C hW 0 3 rfl rfl inSb (by decide) flAs_79 rfl dAs_length_1 ?_
  exact hQ (zI cn) _ H locs _ _ _ ls hW ⟨rfl, rfl⟩ (by omega) (by omega) dAs_length_4
set_option maxHeartbeats 4000000 in
set_option maxRecDepth 100000 in
theorem c_StringBuilder_length (l : Launch) (D : va_G) (cI cG cL cB : ClassId) (sb0 : Nat) (va : Nat) (ml : Int) (cn : Int)  : Ci l ySb_length cSb_length 1 (some .int) 1 0 0 D zCl (zT cI cG cL cB) [.ref sb0] [(sb0, .inr (11, [.ref va, .int (zI 0), .int (zI ml), .int (zI cn)]))] (fun x w => x = zI cn ∧ w = [(sb0, .inr (11, [.ref va, .int (zI 0), .int (zI ml), .int (zI cn)]))]) := by
  refine zBi (by decide) (Nat.le_of_ble_eq_true rfl) ?_
  intro p e s m args below meth c ls A H locs Q C hin hl hW hQ
  have hl : lv_has ls 1 [(0, .ref sb0)] := hl
  refine lv_aload_n C.1 C.2.1 dSb_length_0 rfl (lv_at hl 0 rfl) ?_
  refine zcalli (wr := []) C hW [0] [] rfl rfl (by decide) (by decide) (zRunA (k := 0) (As := []) (rest := []) C hW (c_AbstractStringBuilder_length l D cI cG cL cB sb0 va ml cn  H.size) [0] rfl (by decide) kuSb_343 kuSb_343s kuSb_343u (by decide) (by decide +kernel) ⟨by decide, by decide⟩ 0 rfl rfl rfl hl.1 (Nat.le_of_ble_eq_true rfl) dSb_length_1 ⟨by first | decide | omega, by first | decide | omega⟩) (fun x w H locs hq hW => ?_)
  obtain ⟨rfl, rfl⟩ := hq
  have hW : zw D zCl A s [(sb0, .inr (11, [.ref va, .int (zI 0), .int (zI ml), .int (zI cn)]))] H locs := hW
  exact hQ (zI cn) _ H locs _ _ _ ls hW ⟨rfl, rfl⟩ (by omega) (by omega) dSb_length_4
set_option maxHeartbeats 4000000 in
set_option maxRecDepth 100000 in
theorem c_Preconditions_checkIndex_N (l : Launch) (D : va_G) (cI cG cL cB : ClassId) (i : Int) (n_ : Int) (hi0 : 0 ≤ i) (hi1 : i < n_) (hi2 : n_ ≤ 100) : Ci l yPr_checkIndex cPr_checkIndex 3 (some .int) 0 0 0 D zCl (zT cI cG cL cB) [.int (zI i), .int (zI n_), .null] [] (fun x w => x = zI i ∧ w = []) := by
  refine zBi (by decide) (Nat.le_of_ble_eq_true rfl) ?_
  intro p e s m args below meth c ls A H locs Q C hin hl hW hQ
  have hl : lv_has ls 3 [(0, .int (zI i)), (1, .int (zI n_)), (2, .null)] := hl
  refine lv_iload_n C.1 C.2.1 dPr_checkIndex_0 rfl (lv_at hl 0 rfl) ?_
  refine zif_lt (tgt := 9) C (by omega) dPr_checkIndex_1 (by decide) (fun c1 => ?_) (fun c1 => ?_)
  · exact False.elim (by omega)
  · refine lv_iload_n C.1 C.2.1 dPr_checkIndex_4 rfl (lv_at hl 0 rfl) ?_
    refine lv_iload_n C.1 C.2.1 dPr_checkIndex_5 rfl (lv_at hl 1 rfl) ?_
    refine zicmp_lt (tgt := 16) C (by omega) (by omega) dPr_checkIndex_6 (by decide) (fun c6 => ?_) (fun c6 => ?_)
    · refine lv_iload_n C.1 C.2.1 dPr_checkIndex_16 rfl (lv_at hl 0 rfl) ?_
      exact hQ (zI i) _ H locs _ _ _ ls hW ⟨rfl, rfl⟩ (by omega) (by omega) dPr_checkIndex_17
    · exact False.elim (by omega)
set_option maxHeartbeats 4000000 in
set_option maxRecDepth 100000 in
theorem c_Preconditions_checkIndex_R (l : Launch) (D : va_G) (cI cG cL cB : ClassId) (i : Int) (n_ : Int) (fq : Nat) (hi0 : 0 ≤ i) (hi1 : i < n_) (hi2 : n_ ≤ 100) : Ci l yPr_checkIndex cPr_checkIndex 3 (some .int) 0 0 0 D zCl (zT cI cG cL cB) [.int (zI i), .int (zI n_), .ref fq] [] (fun x w => x = zI i ∧ w = []) := by
  refine zBi (by decide) (Nat.le_of_ble_eq_true rfl) ?_
  intro p e s m args below meth c ls A H locs Q C hin hl hW hQ
  have hl : lv_has ls 3 [(0, .int (zI i)), (1, .int (zI n_)), (2, .ref fq)] := hl
  refine lv_iload_n C.1 C.2.1 dPr_checkIndex_0 rfl (lv_at hl 0 rfl) ?_
  refine zif_lt (tgt := 9) C (by omega) dPr_checkIndex_1 (by decide) (fun c1 => ?_) (fun c1 => ?_)
  · exact False.elim (by omega)
  · refine lv_iload_n C.1 C.2.1 dPr_checkIndex_4 rfl (lv_at hl 0 rfl) ?_
    refine lv_iload_n C.1 C.2.1 dPr_checkIndex_5 rfl (lv_at hl 1 rfl) ?_
    refine zicmp_lt (tgt := 16) C (by omega) (by omega) dPr_checkIndex_6 (by decide) (fun c6 => ?_) (fun c6 => ?_)
    · refine lv_iload_n C.1 C.2.1 dPr_checkIndex_16 rfl (lv_at hl 0 rfl) ?_
      exact hQ (zI i) _ H locs _ _ _ ls hW ⟨rfl, rfl⟩ (by omega) (by omega) dPr_checkIndex_17
    · exact False.elim (by omega)
set_option maxHeartbeats 4000000 in
set_option maxRecDepth 100000 in
theorem c_String_checkIndex (l : Launch) (D : va_G) (cI cG cL cB : ClassId) (i : Int) (n_ : Int) (hi0 : 0 ≤ i) (hi1 : i < n_) (hi2 : n_ ≤ 100) : Cv l ySt_checkIndex cSt_checkIndex 2 none 1 0 0 D zCl (zT cI cG cL cB) [.int (zI i), .int (zI n_)] [] (fun w => w = []) := by
  refine zBv (by decide) (Nat.le_of_ble_eq_true rfl) ?_
  intro p e s m args below meth c ls A H locs Q C hin hl hW hQ
  have hl : lv_has ls 2 [(0, .int (zI i)), (1, .int (zI n_))] := hl
  refine lv_iload_n C.1 C.2.1 dSt_checkIndex_0 rfl (lv_at hl 0 rfl) ?_
  refine lv_iload_n C.1 C.2.1 dSt_checkIndex_1 rfl (lv_at hl 1 rfl) ?_
  rcases zFm C with hZf | ⟨fq, hZf⟩
  · refine zgets C hW hZf kzSt_1053 dSt_checkIndex_2 ?_
    refine zcalli (wr := []) C hW [] [] rfl rfl (by decide) (by decide) (zRunS (k := 3) (As := [.int (zI i), .int (zI n_), .null]) (rest := []) C hW (c_Preconditions_checkIndex_N l D cI cG cL cB i n_ (by omega) (by omega) (by omega) H.size) [] rfl (by decide) kSt_1059 (by decide +kernel) ⟨by decide, by decide⟩ rfl hl.1 (Nat.le_of_ble_eq_true rfl) dSt_checkIndex_5 ⟨by first | decide | omega, by first | decide | omega⟩) (fun x w H locs hq hW => ?_)
    obtain ⟨rfl, rfl⟩ := hq
    have hW : zw D zCl A s [] H locs := hW
    refine lv_pop C.1 C.2.1 dSt_checkIndex_8 rfl ?_
    exact hQ _ H locs _ _ _ ls hW rfl (by omega) (by omega) dSt_checkIndex_9
  · refine zgets C hW hZf kzSt_1053 dSt_checkIndex_2 ?_
    refine zcalli (wr := []) C hW [] [] rfl rfl (by decide) (by decide) (zRunS (k := 3) (As := [.int (zI i), .int (zI n_), .ref fq]) (rest := []) C hW (c_Preconditions_checkIndex_R l D cI cG cL cB i n_ fq (by omega) (by omega) (by omega) H.size) [] rfl (by decide) kSt_1059 (by decide +kernel) ⟨by decide, by decide⟩ rfl hl.1 (Nat.le_of_ble_eq_true rfl) dSt_checkIndex_5 ⟨by first | decide | omega, by first | decide | omega⟩) (fun x w H locs hq hW => ?_)
    obtain ⟨rfl, rfl⟩ := hq
    have hW : zw D zCl A s [] H locs := hW
    refine lv_pop C.1 C.2.1 dSt_checkIndex_8 rfl ?_
    exact hQ _ H locs _ _ _ ls hW rfl (by omega) (by omega) dSt_checkIndex_9
set_option maxHeartbeats 4000000 in
set_option maxRecDepth 100000 in
theorem c_AbstractStringBuilder_charAt (l : Launch) (D : va_G) (cI cG cL cB : ClassId) (sb0 : Nat) (va : Nat) (ml : Int) (cn : Int) (mm : Nat) (V : Int → Int) (i : Int) (bV : ∀ j : Int, B8 (V j)) (hmm : mm = 16 ∨ mm = 34) (hml : ml = 0 ∨ ml = 1) (hcn : 0 ≤ cn ∧ cn ≤ mm) (hi0 : 0 ≤ i) (hi1 : i < cn) : Ci l yAs_charAt cAs_charAt 5 (some .char) 2 0 0 D zCl (zT cI cG cL cB) [.ref sb0, .int (zI i)] [(sb0, .inr (11, [.ref va, .int (zI 0), .int (zI ml), .int (zI cn)])), (va, .inl (cB, mm, .inl (fI V)))] (fun x w => x = zI (V i) ∧ w = [(sb0, .inr (11, [.ref va, .int (zI 0), .int (zI ml), .int (zI cn)])), (va, .inl (cB, mm, .inl (fI V)))]) := by
  refine zBc (by decide) (Nat.le_of_ble_eq_true rfl) ?_
  intro p e s m args below meth c ls A H locs Q C hin hl hW hQ
  have hl : lv_has ls 5 [(0, .ref sb0), (1, .int (zI i))] := hl
  refine lv_aload_n C.1 C.2.1 dAs_charAt_0 rfl (lv_at hl 0 rfl) ?_
  refine zget C hW 0 1 rfl rfl inSb (by decide) flAs_22 rfl dAs_charAt_1 ?_
  refine lv_istore_n (lv' := [(2, .int (zI 0)), (0, .ref sb0), (1, .int (zI i))]) C.1 C.2.1 dAs_charAt_4 rfl hl (by decide) rfl (fun ls hl => ?_)
  refine lv_aload_n C.1 C.2.1 dAs_charAt_5 rfl (lv_at hl 1 rfl) ?_
  refine zget C hW 0 0 rfl rfl inSb (by decide) flAs_15 rfl dAs_charAt_6 ?_
  refine lv_astore_n (lv' := [(3, .ref va), (2, .int (zI 0)), (0, .ref sb0), (1, .int (zI i))]) C.1 C.2.1 dAs_charAt_9 rfl hl (by decide) rfl (fun ls hl => ?_)
  refine lv_aload_n C.1 C.2.1 dAs_charAt_10 rfl (lv_at hl 2 rfl) ?_
  refine zget C hW 0 3 rfl rfl inSb (by decide) flAs_79 rfl dAs_charAt_11 ?_
  refine lv_aload_n C.1 C.2.1 dAs_charAt_14 rfl (lv_at hl 0 rfl) ?_
  refine zalen C hW 1 3 rfl rfl dAs_charAt_15 ?_
  refine lv_iload_n C.1 C.2.1 dAs_charAt_16 rfl (lv_at hl 1 rfl) ?_
  refine zishr0 C dAs_charAt_17 ?_
  refine zmin C kmAs_138 hl.1 (by decide) (Nat.le_of_ble_eq_true rfl) (by first | decide | omega) (by first | decide | omega) (by omega) (by omega) dAs_charAt_18 ?_
  refine lv_istore (lv' := [(4, .int (zI (min cn (mm : Int)))), (3, .ref va), (2, .int (zI 0)), (0, .ref sb0), (1, .int (zI i))]) C.1 C.2.1 dAs_charAt_21 hl (by decide) rfl (fun ls hl => ?_)
  refine lv_iload_n C.1 C.2.1 dAs_charAt_23 rfl (lv_at hl 4 rfl) ?_
  refine lv_iload C.1 C.2.1 dAs_charAt_24 (lv_at hl 0 rfl) ?_
  refine zcallv (wr := [(sb0, .inr (11, [.ref va, .int (zI 0), .int (zI ml), .int (zI cn)])), (va, .inl (cB, mm, .inl (fI V)))]) C hW [] [0, 1] rfl rfl (by decide) (by decide) (zRunS (k := 2) (As := [.int (zI i), .int (zI (min cn (mm : Int)))]) (rest := []) C hW (c_String_checkIndex l D cI cG cL cB i (min cn (mm : Int)) (by omega) (by omega) (by omega) H.size) [] rfl (by decide) kAs_144 (by decide +kernel) ⟨by decide, by decide⟩ rfl hl.1 (Nat.le_of_ble_eq_true rfl) dAs_charAt_26 ⟨by first | decide | omega, by first | decide | omega⟩) (fun w H locs hq hW => ?_)
  subst hq
  have hW : zw D zCl A s [(sb0, .inr (11, [.ref va, .int (zI 0), .int (zI ml), .int (zI cn)])), (va, .inl (cB, mm, .inl (fI V)))] H locs := hW
  refine lv_iload_n C.1 C.2.1 dAs_charAt_29 rfl (lv_at hl 2 rfl) ?_
  refine zif_ne (tgt := 42) C (by omega) dAs_charAt_30 (by decide) (fun c30 => ?_) (fun c30 => ?_)
  · exact absurd c30 (by decide)
  · refine lv_aload_n C.1 C.2.1 dAs_charAt_33 rfl (lv_at hl 1 rfl) ?_
    refine lv_iload_n C.1 C.2.1 dAs_charAt_34 rfl (lv_at hl 4 rfl) ?_
    refine zbald C hW 1 3 rfl rfl (by omega) (by omega) (by omega) dAs_charAt_35 ?_
    have hb1 := bV i
    refine lv_sipush (v := zI 255) C.1 C.2.1 dAs_charAt_36 (by decide) ?_
    refine ziand255 C (by omega) dAs_charAt_39 ?_
    refine zi2c C (by omega) dAs_charAt_40 ?_
    exact hQ (zI (V i)) _ H locs _ _ _ ls hW (zI_nc (bV i)) ⟨rfl, rfl⟩ (by omega) (by omega) dAs_charAt_41
set_option maxHeartbeats 4000000 in
set_option maxRecDepth 100000 in
theorem c_StringBuilder_charAt (l : Launch) (D : va_G) (cI cG cL cB : ClassId) (sb0 : Nat) (va : Nat) (ml : Int) (cn : Int) (mm : Nat) (V : Int → Int) (i : Int) (bV : ∀ j : Int, B8 (V j)) (hmm : mm = 16 ∨ mm = 34) (hml : ml = 0 ∨ ml = 1) (hcn : 0 ≤ cn ∧ cn ≤ mm) (hi0 : 0 ≤ i) (hi1 : i < cn) : Ci l ySb_charAt cSb_charAt 2 (some .char) 3 0 0 D zCl (zT cI cG cL cB) [.ref sb0, .int (zI i)] [(sb0, .inr (11, [.ref va, .int (zI 0), .int (zI ml), .int (zI cn)])), (va, .inl (cB, mm, .inl (fI V)))] (fun x w => x = zI (V i) ∧ w = [(sb0, .inr (11, [.ref va, .int (zI 0), .int (zI ml), .int (zI cn)])), (va, .inl (cB, mm, .inl (fI V)))]) := by
  refine zBc (by decide) (Nat.le_of_ble_eq_true rfl) ?_
  intro p e s m args below meth c ls A H locs Q C hin hl hW hQ
  have hl : lv_has ls 2 [(0, .ref sb0), (1, .int (zI i))] := hl
  refine lv_aload_n C.1 C.2.1 dSb_charAt_0 rfl (lv_at hl 0 rfl) ?_
  refine lv_iload_n C.1 C.2.1 dSb_charAt_1 rfl (lv_at hl 1 rfl) ?_
  refine zcalli (wr := []) C hW [0, 1] [] rfl rfl (by decide) (by decide) (zRunA (k := 1) (As := [.int (zI i)]) (rest := []) C hW (c_AbstractStringBuilder_charAt l D cI cG cL cB sb0 va ml cn mm V i bV (by omega) (by omega) (by omega) (by omega) (by omega) H.size) [0, 1] rfl (by decide) kuSb_329 kuSb_329s kuSb_329u (by decide) (by decide +kernel) ⟨by decide, by decide⟩ 0 rfl rfl rfl hl.1 (Nat.le_of_ble_eq_true rfl) dSb_charAt_2 ⟨by first | decide | omega, by first | decide | omega⟩) (fun x w H locs hq hW => ?_)
  obtain ⟨rfl, rfl⟩ := hq
  have hW : zw D zCl A s [(sb0, .inr (11, [.ref va, .int (zI 0), .int (zI ml), .int (zI cn)])), (va, .inl (cB, mm, .inl (fI V)))] H locs := hW
  exact hQ (zI (V i)) _ H locs _ _ _ ls hW (zI_nc (bV i)) ⟨rfl, rfl⟩ (by omega) (by omega) dSb_charAt_5
set_option maxHeartbeats 4000000 in
set_option maxRecDepth 100000 in
theorem c_AbstractStringBuilder_setLength (l : Launch) (D : va_G) (cI cG cL cB : ClassId) (sb0 : Nat) (va : Nat) (ml : Int) (cn : Int) (mm : Nat) (V : Int → Int) (bV : ∀ j : Int, B8 (V j)) (hmm : mm = 16 ∨ mm = 34) (hml : ml = 0 ∨ ml = 1) (hcn : 0 ≤ cn ∧ cn ≤ mm) : Cv l yAs_setLength cAs_setLength 2 none 4 1 34 D zCl (zT cI cG cL cB) [.ref sb0, .int (zI 0)] [(sb0, .inr (11, [.ref va, .int (zI 0), .int (zI ml), .int (zI cn)])), (va, .inl (cB, mm, .inl (fI V)))] (fun w => ∃ va2 : Nat, ∃ mm2 : Nat, ∃ V2 : Int → Int, ∃ ml2 : Int, (∀ j : Int, B8 (V2 j)) ∧ (mm2 = 16 ∨ mm2 = 34) ∧ (ml2 = 0 ∨ ml2 = 1) ∧ w = [(sb0, .inr (11, [.ref va2, .int (zI 0), .int (zI ml2), .int (zI 0)])), (va2, .inl (cB, mm2, .inl (fI V2)))]) := by
  refine zBv (by decide) (Nat.le_of_ble_eq_true rfl) ?_
  intro p e s m args below meth c ls A H locs Q C hin hl hW hQ
  have hl : lv_has ls 2 [(0, .ref sb0), (1, .int (zI 0))] := hl
  refine lv_iload_n C.1 C.2.1 dAs_setLength_0 rfl (lv_at hl 1 rfl) ?_
  refine zif_ge (tgt := 13) C (by omega) dAs_setLength_1 (by decide) (fun c1 => ?_) (fun c1 => ?_)
  · refine lv_aload_n C.1 C.2.1 dAs_setLength_13 rfl (lv_at hl 0 rfl) ?_
    refine lv_iload_n C.1 C.2.1 dAs_setLength_14 rfl (lv_at hl 1 rfl) ?_
    refine zcallv (wr := []) C hW [0, 1] [] rfl rfl (by decide) (by decide) (zRunU (k := 1) (As := [.int (zI 0)]) (rest := []) C hW (c_AbstractStringBuilder_ensureCapacityInternal l D cI cG cL cB sb0 va ml cn mm V 0 bV (by omega) (by omega) (by omega) (by omega) H.size) [0, 1] rfl (by decide) kuAs_100 kuAs_100s (zSelP C ks_isLatin1 rfl ⟨by decide, by decide⟩ kuAs_100p (kuAs_100 _ (by simp [kU]))) (by decide +kernel) ⟨by decide, by decide⟩ 0 rfl rfl rfl hl.1 (Nat.le_of_ble_eq_true rfl) dAs_setLength_15 ⟨by first | decide | omega, by first | decide | omega⟩) (fun w H locs hq hW => ?_)
    obtain ⟨va21, mm22, V23, hf4, hf5, hf6, hf7, hf8, rfl⟩ := hq
    have hW : zw D zCl A s [(sb0, .inr (11, [.ref va21, .int (zI 0), .int (zI ml), .int (zI cn)])), (va21, .inl (cB, mm22, .inl (fI V23)))] H locs := hW
    refine lv_aload_n C.1 C.2.1 dAs_setLength_18 rfl (lv_at hl 0 rfl) ?_
    refine zget C hW 0 3 rfl rfl inSb (by decide) flAs_79 rfl dAs_setLength_19 ?_
    refine lv_iload_n C.1 C.2.1 dAs_setLength_22 rfl (lv_at hl 1 rfl) ?_
    refine zicmp_ge (tgt := 63) C (by omega) (by omega) dAs_setLength_23 (by decide) (fun c23 => ?_) (fun c23 => ?_)
    · refine lv_aload_n C.1 C.2.1 dAs_setLength_63 rfl (lv_at hl 0 rfl) ?_
      refine zget C hW 0 3 rfl rfl inSb (by decide) flAs_79 rfl dAs_setLength_64 ?_
      refine lv_iload_n C.1 C.2.1 dAs_setLength_67 rfl (lv_at hl 1 rfl) ?_
      refine zicmp_le (tgt := 76) C (by omega) (by omega) dAs_setLength_68 (by decide) (fun c68 => ?_) (fun c68 => ?_)
      · refine lv_aload_n C.1 C.2.1 dAs_setLength_76 rfl (lv_at hl 0 rfl) ?_
        refine lv_iload_n C.1 C.2.1 dAs_setLength_77 rfl (lv_at hl 1 rfl) ?_
        refine zput C hW 0 3 tySb tySb_ok nmSb rfl rfl inSb (by decide) flAs_79 rfl rfl rfl rfl (Nat.le_of_ble_eq_true rfl) dAs_setLength_78 (fun H locs hW => ?_)
        have hW : zw D zCl A s [(sb0, .inr (11, [.ref va21, .int (zI 0), .int (zI ml), .int (zI 0)])), (va21, .inl (cB, mm22, .inl (fI V23)))] H locs := hW
        exact hQ _ H locs _ _ _ ls hW ⟨_, _, _, _, hf4, hf5, hml, rfl⟩ (by omega) (by omega) dAs_setLength_81
      · refine lv_aload_n C.1 C.2.1 dAs_setLength_71 rfl (lv_at hl 0 rfl) ?_
        refine lv_iconst (v := zI 1) C.1 C.2.1 dAs_setLength_72 (by decide) ?_
        refine zput C hW 0 2 tySb tySb_ok nmSb rfl rfl inSb (by decide) flAs_73 rfl rfl (by decide) (by decide) (Nat.le_of_ble_eq_true rfl) dAs_setLength_73 (fun H locs hW => ?_)
        have hW : zw D zCl A s [(sb0, .inr (11, [.ref va21, .int (zI 0), .int (zI 1), .int (zI cn)])), (va21, .inl (cB, mm22, .inl (fI V23)))] H locs := hW
        refine lv_aload_n C.1 C.2.1 dAs_setLength_76 rfl (lv_at hl 0 rfl) ?_
        refine lv_iload_n C.1 C.2.1 dAs_setLength_77 rfl (lv_at hl 1 rfl) ?_
        refine zput C hW 0 3 tySb tySb_ok nmSb rfl rfl inSb (by decide) flAs_79 rfl rfl rfl rfl (Nat.le_of_ble_eq_true rfl) dAs_setLength_78 (fun H locs hW => ?_)
        have hW : zw D zCl A s [(sb0, .inr (11, [.ref va21, .int (zI 0), .int (zI 1), .int (zI 0)])), (va21, .inl (cB, mm22, .inl (fI V23)))] H locs := hW
        exact hQ _ H locs _ _ _ ls hW ⟨_, _, _, _, hf4, hf5, Or.inr rfl, rfl⟩ (by omega) (by omega) dAs_setLength_81
    · exact False.elim (by omega)
  · exact absurd c1 (by decide)
set_option maxHeartbeats 4000000 in
set_option maxRecDepth 100000 in
theorem c_StringBuilder_setLength (l : Launch) (D : va_G) (cI cG cL cB : ClassId) (sb0 : Nat) (va : Nat) (ml : Int) (cn : Int) (mm : Nat) (V : Int → Int) (bV : ∀ j : Int, B8 (V j)) (hmm : mm = 16 ∨ mm = 34) (hml : ml = 0 ∨ ml = 1) (hcn : 0 ≤ cn ∧ cn ≤ mm) : Cv l ySb_setLength cSb_setLength 2 none 5 1 34 D zCl (zT cI cG cL cB) [.ref sb0, .int (zI 0)] [(sb0, .inr (11, [.ref va, .int (zI 0), .int (zI ml), .int (zI cn)])), (va, .inl (cB, mm, .inl (fI V)))] (fun w => ∃ va2 : Nat, ∃ mm2 : Nat, ∃ V2 : Int → Int, ∃ ml2 : Int, (∀ j : Int, B8 (V2 j)) ∧ (mm2 = 16 ∨ mm2 = 34) ∧ (ml2 = 0 ∨ ml2 = 1) ∧ w = [(sb0, .inr (11, [.ref va2, .int (zI 0), .int (zI ml2), .int (zI 0)])), (va2, .inl (cB, mm2, .inl (fI V2)))]) := by
  refine zBv (by decide) (Nat.le_of_ble_eq_true rfl) ?_
  intro p e s m args below meth c ls A H locs Q C hin hl hW hQ
  have hl : lv_has ls 2 [(0, .ref sb0), (1, .int (zI 0))] := hl
  refine lv_aload_n C.1 C.2.1 dSb_setLength_0 rfl (lv_at hl 0 rfl) ?_
  refine lv_iload_n C.1 C.2.1 dSb_setLength_1 rfl (lv_at hl 1 rfl) ?_
  refine zcallv (wr := []) C hW [0, 1] [] rfl rfl (by decide) (by decide) (zRunA (k := 1) (As := [.int (zI 0)]) (rest := []) C hW (c_AbstractStringBuilder_setLength l D cI cG cL cB sb0 va ml cn mm V bV (by omega) (by omega) (by omega) H.size) [0, 1] rfl (by decide) kuSb_333 kuSb_333s kuSb_333u (by decide) (by decide +kernel) ⟨by decide, by decide⟩ 0 rfl rfl rfl hl.1 (Nat.le_of_ble_eq_true rfl) dSb_setLength_2 ⟨by first | decide | omega, by first | decide | omega⟩) (fun w H locs hq hW => ?_)
  obtain ⟨va21, mm22, V23, ml24, hf5, hf6, hf7, rfl⟩ := hq
  have hW : zw D zCl A s [(sb0, .inr (11, [.ref va21, .int (zI 0), .int (zI ml24), .int (zI 0)])), (va21, .inl (cB, mm22, .inl (fI V23)))] H locs := hW
  exact hQ _ H locs _ _ _ ls hW ⟨_, _, _, _, hf5, hf6, hf7, rfl⟩ (by omega) (by omega) dSb_setLength_5
