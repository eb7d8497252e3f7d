theorem dCl__init_0 : decode cCl__init 0 = .ok (.aload_n 0, 1) := by decide +kernel
theorem dCl__init_1 : decode cCl__init 1 = .ok (.invokespecial 3, 3) := by decide +kernel
theorem dCl__init_4 : decode cCl__init 4 = .ok (.aload_n 0, 1) := by decide +kernel
theorem dCl__init_5 : decode cCl__init 5 = .ok (.bipush 24, 2) := by decide +kernel
theorem dCl__init_7 : decode cCl__init 7 = .ok (.newarray .int, 2) := by decide +kernel
theorem dCl__init_9 : decode cCl__init 9 = .ok (.putfield 9, 3) := by decide +kernel
theorem dCl__init_12 : decode cCl__init 12 = .ok (.aload_n 0, 1) := by decide +kernel
theorem dCl__init_13 : decode cCl__init 13 = .ok (.bipush 24, 2) := by decide +kernel
theorem dCl__init_15 : decode cCl__init 15 = .ok (.newarray .int, 2) := by decide +kernel
theorem dCl__init_17 : decode cCl__init 17 = .ok (.putfield 15, 3) := by decide +kernel
theorem dCl__init_20 : decode cCl__init 20 = .ok (.aload_n 0, 1) := by decide +kernel
theorem dCl__init_21 : decode cCl__init 21 = .ok (.bipush 24, 2) := by decide +kernel
theorem dCl__init_23 : decode cCl__init 23 = .ok (.newarray .int, 2) := by decide +kernel
theorem dCl__init_25 : decode cCl__init 25 = .ok (.putfield 18, 3) := by decide +kernel
theorem dCl__init_28 : decode cCl__init 28 = .ok (.aload_n 0, 1) := by decide +kernel
theorem dCl__init_29 : decode cCl__init 29 = .ok (.bipush 24, 2) := by decide +kernel
theorem dCl__init_31 : decode cCl__init 31 = .ok (.newarray .int, 2) := by decide +kernel
theorem dCl__init_33 : decode cCl__init 33 = .ok (.putfield 21, 3) := by decide +kernel
theorem dCl__init_36 : decode cCl__init 36 = .ok (.return_, 1) := by decide +kernel
theorem dCl__gather_0 : decode cCl__gather 0 = .ok (.aload_n 0, 1) := by decide +kernel
theorem dCl__gather_1 : decode cCl__gather 1 = .ok (.iconst 0, 1) := by decide +kernel
theorem dCl__gather_2 : decode cCl__gather 2 = .ok (.putfield 24, 3) := by decide +kernel
theorem dCl__gather_5 : decode cCl__gather 5 = .ok (.iconst 0, 1) := by decide +kernel
theorem dCl__gather_6 : decode cCl__gather 6 = .ok (.istore_n 2, 1) := by decide +kernel
theorem dCl__gather_7 : decode cCl__gather 7 = .ok (.iload_n 2, 1) := by decide +kernel
theorem dCl__gather_8 : decode cCl__gather 8 = .ok (.aload_n 1, 1) := by decide +kernel
theorem dCl__gather_9 : decode cCl__gather 9 = .ok (.getfield 28, 3) := by decide +kernel
theorem dCl__gather_12 : decode cCl__gather 12 = .ok (.if_icmp .ge 85, 3) := by decide +kernel
theorem dCl__gather_15 : decode cCl__gather 15 = .ok (.aload_n 1, 1) := by decide +kernel
theorem dCl__gather_16 : decode cCl__gather 16 = .ok (.getfield 31, 3) := by decide +kernel
theorem dCl__gather_19 : decode cCl__gather 19 = .ok (.iconst 0, 1) := by decide +kernel
theorem dCl__gather_20 : decode cCl__gather 20 = .ok (.aaload, 1) := by decide +kernel
theorem dCl__gather_21 : decode cCl__gather 21 = .ok (.iload_n 2, 1) := by decide +kernel
theorem dCl__gather_22 : decode cCl__gather 22 = .ok (.iaload, 1) := by decide +kernel
theorem dCl__gather_23 : decode cCl__gather 23 = .ok (.istore_n 3, 1) := by decide +kernel
theorem dCl__gather_24 : decode cCl__gather 24 = .ok (.aload_n 1, 1) := by decide +kernel
theorem dCl__gather_25 : decode cCl__gather 25 = .ok (.getfield 31, 3) := by decide +kernel
theorem dCl__gather_28 : decode cCl__gather 28 = .ok (.iconst 1, 1) := by decide +kernel
theorem dCl__gather_29 : decode cCl__gather 29 = .ok (.aaload, 1) := by decide +kernel
theorem dCl__gather_30 : decode cCl__gather 30 = .ok (.iload_n 2, 1) := by decide +kernel
theorem dCl__gather_31 : decode cCl__gather 31 = .ok (.iaload, 1) := by decide +kernel
theorem dCl__gather_32 : decode cCl__gather 32 = .ok (.istore 4, 2) := by decide +kernel
theorem dCl__gather_34 : decode cCl__gather 34 = .ok (.aload_n 1, 1) := by decide +kernel
theorem dCl__gather_35 : decode cCl__gather 35 = .ok (.getfield 31, 3) := by decide +kernel
theorem dCl__gather_38 : decode cCl__gather 38 = .ok (.iconst 2, 1) := by decide +kernel
theorem dCl__gather_39 : decode cCl__gather 39 = .ok (.aaload, 1) := by decide +kernel
theorem dCl__gather_40 : decode cCl__gather 40 = .ok (.iload_n 2, 1) := by decide +kernel
theorem dCl__gather_41 : decode cCl__gather 41 = .ok (.iaload, 1) := by decide +kernel
theorem dCl__gather_42 : decode cCl__gather 42 = .ok (.istore 5, 2) := by decide +kernel
theorem dCl__gather_44 : decode cCl__gather 44 = .ok (.iload_n 3, 1) := by decide +kernel
theorem dCl__gather_45 : decode cCl__gather 45 = .ok (.iload 4, 2) := by decide +kernel
theorem dCl__gather_47 : decode cCl__gather 47 = .ok (.iload 5, 2) := by decide +kernel
theorem dCl__gather_49 : decode cCl__gather 49 = .ok (.invokestatic 35, 3) := by decide +kernel
theorem dCl__gather_52 : decode cCl__gather 52 = .ok (.invokestatic 35, 3) := by decide +kernel
theorem dCl__gather_55 : decode cCl__gather 55 = .ok (.istore 6, 2) := by decide +kernel
theorem dCl__gather_57 : decode cCl__gather 57 = .ok (.iload_n 3, 1) := by decide +kernel
theorem dCl__gather_58 : decode cCl__gather 58 = .ok (.iload 4, 2) := by decide +kernel
theorem dCl__gather_60 : decode cCl__gather 60 = .ok (.iload 5, 2) := by decide +kernel
theorem dCl__gather_62 : decode cCl__gather 62 = .ok (.invokestatic 41, 3) := by decide +kernel
theorem dCl__gather_65 : decode cCl__gather 65 = .ok (.invokestatic 41, 3) := by decide +kernel
theorem dCl__gather_68 : decode cCl__gather 68 = .ok (.istore 7, 2) := by decide +kernel
theorem dCl__gather_70 : decode cCl__gather 70 = .ok (.aload_n 0, 1) := by decide +kernel
theorem dCl__gather_71 : decode cCl__gather 71 = .ok (.iload 6, 2) := by decide +kernel
theorem dCl__gather_73 : decode cCl__gather 73 = .ok (.iload_n 3, 1) := by decide +kernel
theorem dCl__gather_74 : decode cCl__gather 74 = .ok (.iload 4, 2) := by decide +kernel
theorem dCl__gather_76 : decode cCl__gather 76 = .ok (.iadd, 1) := by decide +kernel
theorem dCl__gather_77 : decode cCl__gather 77 = .ok (.iload 5, 2) := by decide +kernel
theorem dCl__gather_79 : decode cCl__gather 79 = .ok (.iadd, 1) := by decide +kernel
theorem dCl__gather_80 : decode cCl__gather 80 = .ok (.iload 6, 2) := by decide +kernel
theorem dCl__gather_82 : decode cCl__gather 82 = .ok (.isub, 1) := by decide +kernel
theorem dCl__gather_83 : decode cCl__gather 83 = .ok (.iload 7, 2) := by decide +kernel
theorem dCl__gather_85 : decode cCl__gather 85 = .ok (.isub, 1) := by decide +kernel
theorem dCl__gather_86 : decode cCl__gather 86 = .ok (.iload 7, 2) := by decide +kernel
theorem dCl__gather_88 : decode cCl__gather 88 = .ok (.invokevirtual 44, 3) := by decide +kernel
theorem dCl__gather_91 : decode cCl__gather 91 = .ok (.iinc 2 1, 3) := by decide +kernel
theorem dCl__gather_94 : decode cCl__gather 94 = .ok (.goto (-87), 3) := by decide +kernel
theorem dCl__gather_97 : decode cCl__gather 97 = .ok (.return_, 1) := by decide +kernel
theorem dCl__put_0 : decode cCl__put 0 = .ok (.iconst 0, 1) := by decide +kernel
theorem dCl__put_1 : decode cCl__put 1 = .ok (.istore 4, 2) := by decide +kernel
theorem dCl__put_3 : decode cCl__put 3 = .ok (.iload 4, 2) := by decide +kernel
theorem dCl__put_5 : decode cCl__put 5 = .ok (.aload_n 0, 1) := by decide +kernel
theorem dCl__put_6 : decode cCl__put 6 = .ok (.getfield 24, 3) := by decide +kernel
theorem dCl__put_9 : decode cCl__put 9 = .ok (.if_icmp .ge 21, 3) := by decide +kernel
theorem dCl__put_12 : decode cCl__put 12 = .ok (.aload_n 0, 1) := by decide +kernel
theorem dCl__put_13 : decode cCl__put 13 = .ok (.iload 4, 2) := by decide +kernel
theorem dCl__put_15 : decode cCl__put 15 = .ok (.iload_n 1, 1) := by decide +kernel
theorem dCl__put_16 : decode cCl__put 16 = .ok (.iload_n 2, 1) := by decide +kernel
theorem dCl__put_17 : decode cCl__put 17 = .ok (.iload_n 3, 1) := by decide +kernel
theorem dCl__put_18 : decode cCl__put 18 = .ok (.invokevirtual 48, 3) := by decide +kernel
theorem dCl__put_21 : decode cCl__put 21 = .ok (.ifCond .le 9, 3) := by decide +kernel
theorem dCl__put_24 : decode cCl__put 24 = .ok (.iinc 4 1, 3) := by decide +kernel
theorem dCl__put_27 : decode cCl__put 27 = .ok (.goto (-24), 3) := by decide +kernel
theorem dCl__put_30 : decode cCl__put 30 = .ok (.iload 4, 2) := by decide +kernel
theorem dCl__put_32 : decode cCl__put 32 = .ok (.aload_n 0, 1) := by decide +kernel
theorem dCl__put_33 : decode cCl__put 33 = .ok (.getfield 24, 3) := by decide +kernel
theorem dCl__put_36 : decode cCl__put 36 = .ok (.if_icmp .ge 27, 3) := by decide +kernel
theorem dCl__put_39 : decode cCl__put 39 = .ok (.aload_n 0, 1) := by decide +kernel
theorem dCl__put_40 : decode cCl__put 40 = .ok (.iload 4, 2) := by decide +kernel
theorem dCl__put_42 : decode cCl__put 42 = .ok (.iload_n 1, 1) := by decide +kernel
theorem dCl__put_43 : decode cCl__put 43 = .ok (.iload_n 2, 1) := by decide +kernel
theorem dCl__put_44 : decode cCl__put 44 = .ok (.iload_n 3, 1) := by decide +kernel
theorem dCl__put_45 : decode cCl__put 45 = .ok (.invokevirtual 48, 3) := by decide +kernel
theorem dCl__put_48 : decode cCl__put 48 = .ok (.ifCond .ne 15, 3) := by decide +kernel
theorem dCl__put_51 : decode cCl__put 51 = .ok (.aload_n 0, 1) := by decide +kernel
theorem dCl__put_52 : decode cCl__put 52 = .ok (.getfield 21, 3) := by decide +kernel
theorem dCl__put_55 : decode cCl__put 55 = .ok (.iload 4, 2) := by decide +kernel
theorem dCl__put_57 : decode cCl__put 57 = .ok (.dup2, 1) := by decide +kernel
theorem dCl__put_58 : decode cCl__put 58 = .ok (.iaload, 1) := by decide +kernel
theorem dCl__put_59 : decode cCl__put 59 = .ok (.iconst 1, 1) := by decide +kernel
theorem dCl__put_60 : decode cCl__put 60 = .ok (.iadd, 1) := by decide +kernel
theorem dCl__put_61 : decode cCl__put 61 = .ok (.iastore, 1) := by decide +kernel
theorem dCl__put_62 : decode cCl__put 62 = .ok (.return_, 1) := by decide +kernel
theorem dCl__put_63 : decode cCl__put 63 = .ok (.aload_n 0, 1) := by decide +kernel
theorem dCl__put_64 : decode cCl__put 64 = .ok (.getfield 24, 3) := by decide +kernel
theorem dCl__put_67 : decode cCl__put 67 = .ok (.bipush 24, 2) := by decide +kernel
theorem dCl__put_69 : decode cCl__put 69 = .ok (.if_icmp .lt 4, 3) := by decide +kernel
theorem dCl__put_72 : decode cCl__put 72 = .ok (.return_, 1) := by decide +kernel
theorem dCl__put_73 : decode cCl__put 73 = .ok (.aload_n 0, 1) := by decide +kernel
theorem dCl__put_74 : decode cCl__put 74 = .ok (.iload 4, 2) := by decide +kernel
theorem dCl__put_76 : decode cCl__put 76 = .ok (.invokevirtual 52, 3) := by decide +kernel
theorem dCl__put_79 : decode cCl__put 79 = .ok (.aload_n 0, 1) := by decide +kernel
theorem dCl__put_80 : decode cCl__put 80 = .ok (.getfield 9, 3) := by decide +kernel
theorem dCl__put_83 : decode cCl__put 83 = .ok (.iload 4, 2) := by decide +kernel
theorem dCl__put_85 : decode cCl__put 85 = .ok (.iload_n 1, 1) := by decide +kernel
theorem dCl__put_86 : decode cCl__put 86 = .ok (.iastore, 1) := by decide +kernel
theorem dCl__put_87 : decode cCl__put 87 = .ok (.aload_n 0, 1) := by decide +kernel
theorem dCl__put_88 : decode cCl__put 88 = .ok (.getfield 15, 3) := by decide +kernel
theorem dCl__put_91 : decode cCl__put 91 = .ok (.iload 4, 2) := by decide +kernel
theorem dCl__put_93 : decode cCl__put 93 = .ok (.iload_n 2, 1) := by decide +kernel
theorem dCl__put_94 : decode cCl__put 94 = .ok (.iastore, 1) := by decide +kernel
theorem dCl__put_95 : decode cCl__put 95 = .ok (.aload_n 0, 1) := by decide +kernel
theorem dCl__put_96 : decode cCl__put 96 = .ok (.getfield 18, 3) := by decide +kernel
theorem dCl__put_99 : decode cCl__put 99 = .ok (.iload 4, 2) := by decide +kernel
theorem dCl__put_101 : decode cCl__put 101 = .ok (.iload_n 3, 1) := by decide +kernel
theorem dCl__put_102 : decode cCl__put 102 = .ok (.iastore, 1) := by decide +kernel
theorem dCl__put_103 : decode cCl__put 103 = .ok (.aload_n 0, 1) := by decide +kernel
theorem dCl__put_104 : decode cCl__put 104 = .ok (.getfield 21, 3) := by decide +kernel
theorem dCl__put_107 : decode cCl__put 107 = .ok (.iload 4, 2) := by decide +kernel
theorem dCl__put_109 : decode cCl__put 109 = .ok (.iconst 1, 1) := by decide +kernel
theorem dCl__put_110 : decode cCl__put 110 = .ok (.iastore, 1) := by decide +kernel
theorem dCl__put_111 : decode cCl__put 111 = .ok (.return_, 1) := by decide +kernel
theorem dCl__compare_0 : decode cCl__compare 0 = .ok (.aload_n 0, 1) := by decide +kernel
theorem dCl__compare_1 : decode cCl__compare 1 = .ok (.getfield 9, 3) := by decide +kernel
theorem dCl__compare_4 : decode cCl__compare 4 = .ok (.iload_n 1, 1) := by decide +kernel
theorem dCl__compare_5 : decode cCl__compare 5 = .ok (.iaload, 1) := by decide +kernel
theorem dCl__compare_6 : decode cCl__compare 6 = .ok (.iload_n 2, 1) := by decide +kernel
theorem dCl__compare_7 : decode cCl__compare 7 = .ok (.if_icmp .eq 14, 3) := by decide +kernel
theorem dCl__compare_10 : decode cCl__compare 10 = .ok (.aload_n 0, 1) := by decide +kernel
theorem dCl__compare_11 : decode cCl__compare 11 = .ok (.getfield 9, 3) := by decide +kernel
theorem dCl__compare_14 : decode cCl__compare 14 = .ok (.iload_n 1, 1) := by decide +kernel
theorem dCl__compare_15 : decode cCl__compare 15 = .ok (.iaload, 1) := by decide +kernel
theorem dCl__compare_16 : decode cCl__compare 16 = .ok (.iload_n 2, 1) := by decide +kernel
theorem dCl__compare_17 : decode cCl__compare 17 = .ok (.invokestatic 56, 3) := by decide +kernel
theorem dCl__compare_20 : decode cCl__compare 20 = .ok (.ireturn, 1) := by decide +kernel
theorem dCl__compare_21 : decode cCl__compare 21 = .ok (.aload_n 0, 1) := by decide +kernel
theorem dCl__compare_22 : decode cCl__compare 22 = .ok (.getfield 15, 3) := by decide +kernel
theorem dCl__compare_25 : decode cCl__compare 25 = .ok (.iload_n 1, 1) := by decide +kernel
theorem dCl__compare_26 : decode cCl__compare 26 = .ok (.iaload, 1) := by decide +kernel
theorem dCl__compare_27 : decode cCl__compare 27 = .ok (.iload_n 3, 1) := by decide +kernel
theorem dCl__compare_28 : decode cCl__compare 28 = .ok (.if_icmp .eq 14, 3) := by decide +kernel
theorem dCl__compare_31 : decode cCl__compare 31 = .ok (.aload_n 0, 1) := by decide +kernel
theorem dCl__compare_32 : decode cCl__compare 32 = .ok (.getfield 15, 3) := by decide +kernel
theorem dCl__compare_35 : decode cCl__compare 35 = .ok (.iload_n 1, 1) := by decide +kernel
theorem dCl__compare_36 : decode cCl__compare 36 = .ok (.iaload, 1) := by decide +kernel
theorem dCl__compare_37 : decode cCl__compare 37 = .ok (.iload_n 3, 1) := by decide +kernel
theorem dCl__compare_38 : decode cCl__compare 38 = .ok (.invokestatic 56, 3) := by decide +kernel
theorem dCl__compare_41 : decode cCl__compare 41 = .ok (.ireturn, 1) := by decide +kernel
theorem dCl__compare_42 : decode cCl__compare 42 = .ok (.aload_n 0, 1) := by decide +kernel
theorem dCl__compare_43 : decode cCl__compare 43 = .ok (.getfield 18, 3) := by decide +kernel
theorem dCl__compare_46 : decode cCl__compare 46 = .ok (.iload_n 1, 1) := by decide +kernel
theorem dCl__compare_47 : decode cCl__compare 47 = .ok (.iaload, 1) := by decide +kernel
theorem dCl__compare_48 : decode cCl__compare 48 = .ok (.iload 4, 2) := by decide +kernel
theorem dCl__compare_50 : decode cCl__compare 50 = .ok (.invokestatic 56, 3) := by decide +kernel
theorem dCl__compare_53 : decode cCl__compare 53 = .ok (.ireturn, 1) := by decide +kernel
theorem dCl__makeRoom_0 : decode cCl__makeRoom 0 = .ok (.aload_n 0, 1) := by decide +kernel
theorem dCl__makeRoom_1 : decode cCl__makeRoom 1 = .ok (.getfield 24, 3) := by decide +kernel
theorem dCl__makeRoom_4 : decode cCl__makeRoom 4 = .ok (.istore_n 2, 1) := by decide +kernel
theorem dCl__makeRoom_5 : decode cCl__makeRoom 5 = .ok (.iload_n 2, 1) := by decide +kernel
theorem dCl__makeRoom_6 : decode cCl__makeRoom 6 = .ok (.iload_n 1, 1) := by decide +kernel
theorem dCl__makeRoom_7 : decode cCl__makeRoom 7 = .ok (.if_icmp .le 65, 3) := by decide +kernel
theorem dCl__makeRoom_10 : decode cCl__makeRoom 10 = .ok (.aload_n 0, 1) := by decide +kernel
theorem dCl__makeRoom_11 : decode cCl__makeRoom 11 = .ok (.getfield 9, 3) := by decide +kernel
theorem dCl__makeRoom_14 : decode cCl__makeRoom 14 = .ok (.iload_n 2, 1) := by decide +kernel
theorem dCl__makeRoom_15 : decode cCl__makeRoom 15 = .ok (.aload_n 0, 1) := by decide +kernel
theorem dCl__makeRoom_16 : decode cCl__makeRoom 16 = .ok (.getfield 9, 3) := by decide +kernel
theorem dCl__makeRoom_19 : decode cCl__makeRoom 19 = .ok (.iload_n 2, 1) := by decide +kernel
theorem dCl__makeRoom_20 : decode cCl__makeRoom 20 = .ok (.iconst 1, 1) := by decide +kernel
theorem dCl__makeRoom_21 : decode cCl__makeRoom 21 = .ok (.isub, 1) := by decide +kernel
theorem dCl__makeRoom_22 : decode cCl__makeRoom 22 = .ok (.iaload, 1) := by decide +kernel
theorem dCl__makeRoom_23 : decode cCl__makeRoom 23 = .ok (.iastore, 1) := by decide +kernel
theorem dCl__makeRoom_24 : decode cCl__makeRoom 24 = .ok (.aload_n 0, 1) := by decide +kernel
theorem dCl__makeRoom_25 : decode cCl__makeRoom 25 = .ok (.getfield 15, 3) := by decide +kernel
theorem dCl__makeRoom_28 : decode cCl__makeRoom 28 = .ok (.iload_n 2, 1) := by decide +kernel
theorem dCl__makeRoom_29 : decode cCl__makeRoom 29 = .ok (.aload_n 0, 1) := by decide +kernel
theorem dCl__makeRoom_30 : decode cCl__makeRoom 30 = .ok (.getfield 15, 3) := by decide +kernel
theorem dCl__makeRoom_33 : decode cCl__makeRoom 33 = .ok (.iload_n 2, 1) := by decide +kernel
theorem dCl__makeRoom_34 : decode cCl__makeRoom 34 = .ok (.iconst 1, 1) := by decide +kernel
theorem dCl__makeRoom_35 : decode cCl__makeRoom 35 = .ok (.isub, 1) := by decide +kernel
theorem dCl__makeRoom_36 : decode cCl__makeRoom 36 = .ok (.iaload, 1) := by decide +kernel
theorem dCl__makeRoom_37 : decode cCl__makeRoom 37 = .ok (.iastore, 1) := by decide +kernel
theorem dCl__makeRoom_38 : decode cCl__makeRoom 38 = .ok (.aload_n 0, 1) := by decide +kernel
theorem dCl__makeRoom_39 : decode cCl__makeRoom 39 = .ok (.getfield 18, 3) := by decide +kernel
theorem dCl__makeRoom_42 : decode cCl__makeRoom 42 = .ok (.iload_n 2, 1) := by decide +kernel
theorem dCl__makeRoom_43 : decode cCl__makeRoom 43 = .ok (.aload_n 0, 1) := by decide +kernel
theorem dCl__makeRoom_44 : decode cCl__makeRoom 44 = .ok (.getfield 18, 3) := by decide +kernel
theorem dCl__makeRoom_47 : decode cCl__makeRoom 47 = .ok (.iload_n 2, 1) := by decide +kernel
theorem dCl__makeRoom_48 : decode cCl__makeRoom 48 = .ok (.iconst 1, 1) := by decide +kernel
theorem dCl__makeRoom_49 : decode cCl__makeRoom 49 = .ok (.isub, 1) := by decide +kernel
theorem dCl__makeRoom_50 : decode cCl__makeRoom 50 = .ok (.iaload, 1) := by decide +kernel
theorem dCl__makeRoom_51 : decode cCl__makeRoom 51 = .ok (.iastore, 1) := by decide +kernel
theorem dCl__makeRoom_52 : decode cCl__makeRoom 52 = .ok (.aload_n 0, 1) := by decide +kernel
theorem dCl__makeRoom_53 : decode cCl__makeRoom 53 = .ok (.getfield 21, 3) := by decide +kernel
theorem dCl__makeRoom_56 : decode cCl__makeRoom 56 = .ok (.iload_n 2, 1) := by decide +kernel
theorem dCl__makeRoom_57 : decode cCl__makeRoom 57 = .ok (.aload_n 0, 1) := by decide +kernel
theorem dCl__makeRoom_58 : decode cCl__makeRoom 58 = .ok (.getfield 21, 3) := by decide +kernel
theorem dCl__makeRoom_61 : decode cCl__makeRoom 61 = .ok (.iload_n 2, 1) := by decide +kernel
theorem dCl__makeRoom_62 : decode cCl__makeRoom 62 = .ok (.iconst 1, 1) := by decide +kernel
theorem dCl__makeRoom_63 : decode cCl__makeRoom 63 = .ok (.isub, 1) := by decide +kernel
theorem dCl__makeRoom_64 : decode cCl__makeRoom 64 = .ok (.iaload, 1) := by decide +kernel
theorem dCl__makeRoom_65 : decode cCl__makeRoom 65 = .ok (.iastore, 1) := by decide +kernel
theorem dCl__makeRoom_66 : decode cCl__makeRoom 66 = .ok (.iinc 2 (-1), 3) := by decide +kernel
theorem dCl__makeRoom_69 : decode cCl__makeRoom 69 = .ok (.goto (-64), 3) := by decide +kernel
theorem dCl__makeRoom_72 : decode cCl__makeRoom 72 = .ok (.aload_n 0, 1) := by decide +kernel
theorem dCl__makeRoom_73 : decode cCl__makeRoom 73 = .ok (.dup, 1) := by decide +kernel
theorem dCl__makeRoom_74 : decode cCl__makeRoom 74 = .ok (.getfield 24, 3) := by decide +kernel
theorem dCl__makeRoom_77 : decode cCl__makeRoom 77 = .ok (.iconst 1, 1) := by decide +kernel
theorem dCl__makeRoom_78 : decode cCl__makeRoom 78 = .ok (.iadd, 1) := by decide +kernel
theorem dCl__makeRoom_79 : decode cCl__makeRoom 79 = .ok (.putfield 24, 3) := by decide +kernel
theorem dCl__makeRoom_82 : decode cCl__makeRoom 82 = .ok (.return_, 1) := by decide +kernel
theorem dCl__number_0 : decode cCl__number 0 = .ok (.iload_n 2, 1) := by decide +kernel
theorem dCl__number_1 : decode cCl__number 1 = .ok (.tableswitch 51 0 2 #[27, 35, 43], 27) := by decide +kernel
theorem dCl__number_28 : decode cCl__number 28 = .ok (.aload_n 0, 1) := by decide +kernel
theorem dCl__number_29 : decode cCl__number 29 = .ok (.getfield 9, 3) := by decide +kernel
theorem dCl__number_32 : decode cCl__number 32 = .ok (.iload_n 1, 1) := by decide +kernel
theorem dCl__number_33 : decode cCl__number 33 = .ok (.iaload, 1) := by decide +kernel
theorem dCl__number_34 : decode cCl__number 34 = .ok (.i2l, 1) := by decide +kernel
theorem dCl__number_35 : decode cCl__number 35 = .ok (.lreturn, 1) := by decide +kernel
theorem dCl__number_36 : decode cCl__number 36 = .ok (.aload_n 0, 1) := by decide +kernel
theorem dCl__number_37 : decode cCl__number 37 = .ok (.getfield 15, 3) := by decide +kernel
theorem dCl__number_40 : decode cCl__number 40 = .ok (.iload_n 1, 1) := by decide +kernel
theorem dCl__number_41 : decode cCl__number 41 = .ok (.iaload, 1) := by decide +kernel
theorem dCl__number_42 : decode cCl__number 42 = .ok (.i2l, 1) := by decide +kernel
theorem dCl__number_43 : decode cCl__number 43 = .ok (.lreturn, 1) := by decide +kernel
theorem dCl__number_44 : decode cCl__number 44 = .ok (.aload_n 0, 1) := by decide +kernel
theorem dCl__number_45 : decode cCl__number 45 = .ok (.getfield 18, 3) := by decide +kernel
theorem dCl__number_48 : decode cCl__number 48 = .ok (.iload_n 1, 1) := by decide +kernel
theorem dCl__number_49 : decode cCl__number 49 = .ok (.iaload, 1) := by decide +kernel
theorem dCl__number_50 : decode cCl__number 50 = .ok (.i2l, 1) := by decide +kernel
theorem dCl__number_51 : decode cCl__number 51 = .ok (.lreturn, 1) := by decide +kernel
theorem dCl__number_52 : decode cCl__number 52 = .ok (.aload_n 0, 1) := by decide +kernel
theorem dCl__number_53 : decode cCl__number 53 = .ok (.getfield 21, 3) := by decide +kernel
theorem dCl__number_56 : decode cCl__number 56 = .ok (.iload_n 1, 1) := by decide +kernel
theorem dCl__number_57 : decode cCl__number 57 = .ok (.iaload, 1) := by decide +kernel
theorem dCl__number_58 : decode cCl__number 58 = .ok (.i2l, 1) := by decide +kernel
theorem dCl__number_59 : decode cCl__number 59 = .ok (.lreturn, 1) := by decide +kernel
set_option maxRecDepth 100000 in
theorem flCl__9 : Cond.fieldLink "PartDrawings$CutList" 9 (TCl_ 1).1 (TCl_ 1).2.1 (TCl_ 1).2.2.1 ∈ gW := gW_1 248 rfl rfl
set_option maxRecDepth 100000 in
theorem inCl_ : ∀ w ∈ u_ws RCl_ TCl_ 5, w ∈ gW := gW_l [252, 254, 256, 258, 260] rfl (by decide +kernel)
set_option maxRecDepth 100000 in
theorem flCl__15 : Cond.fieldLink "PartDrawings$CutList" 15 (TCl_ 2).1 (TCl_ 2).2.1 (TCl_ 2).2.2.1 ∈ gW := gW_1 249 rfl rfl
set_option maxRecDepth 100000 in
theorem flCl__18 : Cond.fieldLink "PartDrawings$CutList" 18 (TCl_ 3).1 (TCl_ 3).2.1 (TCl_ 3).2.2.1 ∈ gW := gW_1 250 rfl rfl
set_option maxRecDepth 100000 in
theorem kCl__56 : inT (kS "PartDrawings$CutList" 56 yIg_compare cIg_compare 2 (some .int)) := gW_l [764, 765, 68, 766] rfl (by decide +kernel)
set_option maxRecDepth 100000 in
theorem flCl__21 : Cond.fieldLink "PartDrawings$CutList" 21 (TCl_ 4).1 (TCl_ 4).2.1 (TCl_ 4).2.2.1 ∈ gW := gW_1 251 rfl rfl
set_option maxRecDepth 100000 in
theorem flCl__24 : Cond.fieldLink "PartDrawings$CutList" 24 (TCl_ 0).1 (TCl_ 0).2.1 (TCl_ 0).2.2.1 ∈ gW := gW_1 246 rfl rfl
set_option maxRecDepth 100000 in
theorem kCl__52 : inT (kV "PartDrawings$CutList" 52 yCl__makeRoom cCl__makeRoom 3 none) := gW_l [767, 769, 16, 53, 770] rfl (by decide +kernel)
set_option maxRecDepth 100000 in
theorem kCl__48 : inT (kV "PartDrawings$CutList" 48 yCl__compare cCl__compare 5 (some .int)) := gW_l [760, 762, 15, 53, 763] rfl (by decide +kernel)
set_option maxRecDepth 100000 in
theorem flCl__28 : Cond.fieldLink "PartDrawings$CutList" 28 (TBx 2).1 (TBx 2).2.1 (TBx 2).2.2.1 ∈ gW := gW_1 99 rfl rfl
set_option maxRecDepth 100000 in
theorem flCl__31 : Cond.fieldLink "PartDrawings$CutList" 31 (TBx 1).1 (TBx 1).2.1 (TBx 1).2.2.1 ∈ gW := gW_1 95 rfl rfl
set_option maxRecDepth 100000 in
theorem kmCl__35 : inT (kMax "PartDrawings$CutList" 35) := gW_l [754, 274, 55, 275] rfl (by decide +kernel)
set_option maxRecDepth 100000 in
theorem kmCl__41 : inT (kMin "PartDrawings$CutList" 41) := gW_l [755, 271, 55, 272] rfl (by decide +kernel)
set_option maxRecDepth 100000 in
theorem kCl__44 : inT (kV "PartDrawings$CutList" 44 yCl__put cCl__put 5 none) := gW_l [756, 758, 14, 53, 759] rfl (by decide +kernel)
set_option maxHeartbeats 4000000 in
set_option maxRecDepth 100000 in
theorem c_CutList_compare (l : Launch) (D : va_G) (cI cG cL cB : ClassId) (h0 : Nat) (a1 : Nat) (a2 : Nat) (a3 : Nat) (a4 : Nat) (n : Int) (A1 : Int → Int) (A2 : Int → Int) (A3 : Int → Int) (A4 : Int → Int) (q : Int) (mo : Int) (mi : Int) (le : Int) (bA1 : ∀ j : Int, I32 (A1 j)) (bA2 : ∀ j : Int, I32 (A2 j)) (bA3 : ∀ j : Int, I32 (A3 j)) (bA4 : ∀ j : Int, I32 (A4 j)) (hq0 : 0 ≤ q) (hq1 : q < 24) (hImo : I32 mo) (hImi : I32 mi) (hIle : I32 le) : Ci l yCl__compare cCl__compare 5 (some .int) 1 0 0 D zCl (zT cI cG cL cB) [.ref h0, .int (zI q), .int (zI mo), .int (zI mi), .int (zI le)] [(h0, .inr (1, [.int (zI n), .ref a1, .ref a2, .ref a3, .ref a4])), (a1, .inl (cI, 24, .inl (fI A1))), (a2, .inl (cI, 24, .inl (fI A2))), (a3, .inl (cI, 24, .inl (fI A3))), (a4, .inl (cI, 24, .inl (fI A4)))] (fun x w => x = zI (cmpS (A1 q) (A2 q) (A3 q) mo mi le) ∧ w = [(h0, .inr (1, [.int (zI n), .ref a1, .ref a2, .ref a3, .ref a4])), (a1, .inl (cI, 24, .inl (fI A1))), (a2, .inl (cI, 24, .inl (fI A2))), (a3, .inl (cI, 24, .inl (fI A3))), (a4, .inl (cI, 24, .inl (fI A4)))]) := by
  refine zBi (by decide) (Nat.le_of_ble_eq_true rfl) ?_
  intro p e s m args below meth c ls A H locs Q C hin hl hW hQ
  have hl : lv_has ls 5 [(0, .ref h0), (1, .int (zI q)), (2, .int (zI mo)), (3, .int (zI mi)), (4, .int (zI le))] := hl
  refine lv_aload_n C.1 C.2.1 dCl__compare_0 rfl (lv_at hl 0 rfl) ?_
  refine zget C hW 0 1 rfl rfl inCl_ (by decide) flCl__9 rfl dCl__compare_1 ?_
  refine lv_iload_n C.1 C.2.1 dCl__compare_4 rfl (lv_at hl 1 rfl) ?_
  refine ziald C hW 1 0 rfl rfl (by omega) (by omega) (by decide) dCl__compare_5 ?_
  have hb1 := bA1 q
  refine lv_iload_n C.1 C.2.1 dCl__compare_6 rfl (lv_at hl 2 rfl) ?_
  refine zicmp_eq (tgt := 21) C (by omega) (by omega) dCl__compare_7 (by decide) (fun c7 => ?_) (fun c7 => ?_)
  · refine lv_aload_n C.1 C.2.1 dCl__compare_21 rfl (lv_at hl 0 rfl) ?_
    refine zget C hW 0 2 rfl rfl inCl_ (by decide) flCl__15 rfl dCl__compare_22 ?_
    refine lv_iload_n C.1 C.2.1 dCl__compare_25 rfl (lv_at hl 1 rfl) ?_
    refine ziald C hW 2 0 rfl rfl (by omega) (by omega) (by decide) dCl__compare_26 ?_
    have hb2 := bA2 q
    refine lv_iload_n C.1 C.2.1 dCl__compare_27 rfl (lv_at hl 3 rfl) ?_
    refine zicmp_eq (tgt := 42) C (by omega) (by omega) dCl__compare_28 (by decide) (fun c28 => ?_) (fun c28 => ?_)
    · refine lv_aload_n C.1 C.2.1 dCl__compare_42 rfl (lv_at hl 0 rfl) ?_
      refine zget C hW 0 3 rfl rfl inCl_ (by decide) flCl__18 rfl dCl__compare_43 ?_
      refine lv_iload_n C.1 C.2.1 dCl__compare_46 rfl (lv_at hl 1 rfl) ?_
      refine ziald C hW 3 0 rfl rfl (by omega) (by omega) (by decide) dCl__compare_47 ?_
      have hb3 := bA3 q
      refine lv_iload C.1 C.2.1 dCl__compare_48 (lv_at hl 4 rfl) ?_
      refine zcalli (wr := [(h0, .inr (1, [.int (zI n), .ref a1, .ref a2, .ref a3, .ref a4])), (a1, .inl (cI, 24, .inl (fI A1))), (a2, .inl (cI, 24, .inl (fI A2))), (a3, .inl (cI, 24, .inl (fI A3))), (a4, .inl (cI, 24, .inl (fI A4)))]) C hW [] [0, 1, 2, 3, 4] rfl rfl (by decide) (by decide) (zRunS (k := 2) (As := [.int (zI (A3 q)), .int (zI le)]) (rest := []) C hW (c_Integer_compare l D cI cG cL cB (A3 q) le (by omega) (by omega) H.size) [] rfl (by decide) kCl__56 (by decide +kernel) ⟨by decide, by decide⟩ rfl hl.1 (Nat.le_of_ble_eq_true rfl) dCl__compare_50 ⟨by first | decide | omega, by first | decide | omega⟩) (fun x w H locs hq hW => ?_)
      obtain ⟨rfl, rfl⟩ := hq
      have hW : zw D zCl A s [(h0, .inr (1, [.int (zI n), .ref a1, .ref a2, .ref a3, .ref a4])), (a1, .inl (cI, 24, .inl (fI A1))), (a2, .inl (cI, 24, .inl (fI A2))), (a3, .inl (cI, 24, .inl (fI A3))), (a4, .inl (cI, 24, .inl (fI A4)))] H locs := hW
      have hr4 := cmpZ_in (A3 q) le
      exact hQ (zI (cmpZ (A3 q) le)) _ H locs _ _ _ ls hW ⟨congrArg zI (by unfold cmpS; rw [if_pos c7, if_pos c28]), rfl⟩ (by omega) (by omega) dCl__compare_53
    · refine lv_aload_n C.1 C.2.1 dCl__compare_31 rfl (lv_at hl 0 rfl) ?_
      refine zget C hW 0 2 rfl rfl inCl_ (by decide) flCl__15 rfl dCl__compare_32 ?_
      refine lv_iload_n C.1 C.2.1 dCl__compare_35 rfl (lv_at hl 1 rfl) ?_
      refine ziald C hW 2 0 rfl rfl (by omega) (by omega) (by decide) dCl__compare_36 ?_
      have hb5 := bA2 q
      refine lv_iload_n C.1 C.2.1 dCl__compare_37 rfl (lv_at hl 3 rfl) ?_
      refine zcalli (wr := [(h0, .inr (1, [.int (zI n), .ref a1, .ref a2, .ref a3, .ref a4])), (a1, .inl (cI, 24, .inl (fI A1))), (a2, .inl (cI, 24, .inl (fI A2))), (a3, .inl (cI, 24, .inl (fI A3))), (a4, .inl (cI, 24, .inl (fI A4)))]) C hW [] [0, 1, 2, 3, 4] rfl rfl (by decide) (by decide) (zRunS (k := 2) (As := [.int (zI (A2 q)), .int (zI mi)]) (rest := []) C hW (c_Integer_compare l D cI cG cL cB (A2 q) mi (by omega) (by omega) H.size) [] rfl (by decide) kCl__56 (by decide +kernel) ⟨by decide, by decide⟩ rfl hl.1 (Nat.le_of_ble_eq_true rfl) dCl__compare_38 ⟨by first | decide | omega, by first | decide | omega⟩) (fun x w H locs hq hW => ?_)
      obtain ⟨rfl, rfl⟩ := hq
      have hW : zw D zCl A s [(h0, .inr (1, [.int (zI n), .ref a1, .ref a2, .ref a3, .ref a4])), (a1, .inl (cI, 24, .inl (fI A1))), (a2, .inl (cI, 24, .inl (fI A2))), (a3, .inl (cI, 24, .inl (fI A3))), (a4, .inl (cI, 24, .inl (fI A4)))] H locs := hW
      have hr6 := cmpZ_in (A2 q) mi
      exact hQ (zI (cmpZ (A2 q) mi)) _ H locs _ _ _ ls hW ⟨congrArg zI (by unfold cmpS; rw [if_pos c7, if_neg c28]), rfl⟩ (by omega) (by omega) dCl__compare_41
  · refine lv_aload_n C.1 C.2.1 dCl__compare_10 rfl (lv_at hl 0 rfl) ?_
    refine zget C hW 0 1 rfl rfl inCl_ (by decide) flCl__9 rfl dCl__compare_11 ?_
    refine lv_iload_n C.1 C.2.1 dCl__compare_14 rfl (lv_at hl 1 rfl) ?_
    refine ziald C hW 1 0 rfl rfl (by omega) (by omega) (by decide) dCl__compare_15 ?_
    have hb7 := bA1 q
    refine lv_iload_n C.1 C.2.1 dCl__compare_16 rfl (lv_at hl 2 rfl) ?_
    refine zcalli (wr := [(h0, .inr (1, [.int (zI n), .ref a1, .ref a2, .ref a3, .ref a4])), (a1, .inl (cI, 24, .inl (fI A1))), (a2, .inl (cI, 24, .inl (fI A2))), (a3, .inl (cI, 24, .inl (fI A3))), (a4, .inl (cI, 24, .inl (fI A4)))]) C hW [] [0, 1, 2, 3, 4] rfl rfl (by decide) (by decide) (zRunS (k := 2) (As := [.int (zI (A1 q)), .int (zI mo)]) (rest := []) C hW (c_Integer_compare l D cI cG cL cB (A1 q) mo (by omega) (by omega) H.size) [] rfl (by decide) kCl__56 (by decide +kernel) ⟨by decide, by decide⟩ rfl hl.1 (Nat.le_of_ble_eq_true rfl) dCl__compare_17 ⟨by first | decide | omega, by first | decide | omega⟩) (fun x w H locs hq hW => ?_)
    obtain ⟨rfl, rfl⟩ := hq
    have hW : zw D zCl A s [(h0, .inr (1, [.int (zI n), .ref a1, .ref a2, .ref a3, .ref a4])), (a1, .inl (cI, 24, .inl (fI A1))), (a2, .inl (cI, 24, .inl (fI A2))), (a3, .inl (cI, 24, .inl (fI A3))), (a4, .inl (cI, 24, .inl (fI A4)))] H locs := hW
    have hr8 := cmpZ_in (A1 q) mo
    exact hQ (zI (cmpZ (A1 q) mo)) _ H locs _ _ _ ls hW ⟨congrArg zI (by unfold cmpS; rw [if_neg c7]), rfl⟩ (by omega) (by omega) dCl__compare_20
set_option maxHeartbeats 4000000 in
set_option maxRecDepth 100000 in
theorem c_CutList_number (l : Launch) (D : va_G) (cI cG cL cB : ClassId) (h0 : Nat) (a1 : Nat) (a2 : Nat) (a3 : Nat) (a4 : Nat) (n : Int) (A1 : Int → Int) (A2 : Int → Int) (A3 : Int → Int) (A4 : Int → Int) (k : Int) (i : Int) (bA1 : ∀ j : Int, I32 (A1 j)) (bA2 : ∀ j : Int, I32 (A2 j)) (bA3 : ∀ j : Int, I32 (A3 j)) (bA4 : ∀ j : Int, I32 (A4 j)) (hk0 : 0 ≤ k) (hk1 : k < 24) (hIi : I32 i) : Cl l yCl__number cCl__number 3 (some .long) 0 0 0 D zCl (zT cI cG cL cB) [.ref h0, .int (zI k), .int (zI i)] [(h0, .inr (1, [.int (zI n), .ref a1, .ref a2, .ref a3, .ref a4])), (a1, .inl (cI, 24, .inl (fI A1))), (a2, .inl (cI, 24, .inl (fI A2))), (a3, .inl (cI, 24, .inl (fI A3))), (a4, .inl (cI, 24, .inl (fI A4)))] (fun x w => x = zL (numC A1 A2 A3 A4 k i) ∧ w = [(h0, .inr (1, [.int (zI n), .ref a1, .ref a2, .ref a3, .ref a4])), (a1, .inl (cI, 24, .inl (fI A1))), (a2, .inl (cI, 24, .inl (fI A2))), (a3, .inl (cI, 24, .inl (fI A3))), (a4, .inl (cI, 24, .inl (fI A4)))]) := by
  refine zBl (by decide) (Nat.le_of_ble_eq_true rfl) ?_
  intro p e s m args below meth c ls A H locs Q C hin hl hW hQ
  have hl : lv_has ls 3 [(0, .ref h0), (1, .int (zI k)), (2, .int (zI i))] := hl
  refine lv_iload_n C.1 C.2.1 dCl__number_0 rfl (lv_at hl 2 rfl) ?_
  by_cases s1_0 : i = 0
  · refine ztab_in C (k := 0) (tgt := 28) (by omega) s1_0 dCl__number_1 (by decide) (by decide) rfl (by decide) ?_
    refine lv_aload_n C.1 C.2.1 dCl__number_28 rfl (lv_at hl 0 rfl) ?_
    refine zget C hW 0 1 rfl rfl inCl_ (by decide) flCl__9 rfl dCl__number_29 ?_
    refine lv_iload_n C.1 C.2.1 dCl__number_32 rfl (lv_at hl 1 rfl) ?_
    refine ziald C hW 1 0 rfl rfl (by omega) (by omega) (by decide) dCl__number_33 ?_
    have hb1 := bA1 k
    refine zi2l C (by omega) dCl__number_34 ?_
    exact hQ (zL (A1 k)) _ H locs _ _ _ ls hW ⟨congrArg zL (by unfold numC; simp [*]), rfl⟩ (by omega) (by omega) dCl__number_35
  · by_cases s1_1 : i = 1
    · refine ztab_in C (k := 1) (tgt := 36) (by omega) s1_1 dCl__number_1 (by decide) (by decide) rfl (by decide) ?_
      refine lv_aload_n C.1 C.2.1 dCl__number_36 rfl (lv_at hl 0 rfl) ?_
      refine zget C hW 0 2 rfl rfl inCl_ (by decide) flCl__15 rfl dCl__number_37 ?_
      refine lv_iload_n C.1 C.2.1 dCl__number_40 rfl (lv_at hl 1 rfl) ?_
      refine ziald C hW 2 0 rfl rfl (by omega) (by omega) (by decide) dCl__number_41 ?_
      have hb2 := bA2 k
      refine zi2l C (by omega) dCl__number_42 ?_
      exact hQ (zL (A2 k)) _ H locs _ _ _ ls hW ⟨congrArg zL (by unfold numC; simp [*]), rfl⟩ (by omega) (by omega) dCl__number_43
    · by_cases s1_2 : i = 2
      · refine ztab_in C (k := 2) (tgt := 44) (by omega) s1_2 dCl__number_1 (by decide) (by decide) rfl (by decide) ?_
        refine lv_aload_n C.1 C.2.1 dCl__number_44 rfl (lv_at hl 0 rfl) ?_
        refine zget C hW 0 3 rfl rfl inCl_ (by decide) flCl__18 rfl dCl__number_45 ?_
        refine lv_iload_n C.1 C.2.1 dCl__number_48 rfl (lv_at hl 1 rfl) ?_
        refine ziald C hW 3 0 rfl rfl (by omega) (by omega) (by decide) dCl__number_49 ?_
        have hb3 := bA3 k
        refine zi2l C (by omega) dCl__number_50 ?_
        exact hQ (zL (A3 k)) _ H locs _ _ _ ls hW ⟨congrArg zL (by unfold numC; simp [*]), rfl⟩ (by omega) (by omega) dCl__number_51
      · refine ztab_out C (tgt := 52) (by omega) (by omega) dCl__number_1 (by decide) ?_
        refine lv_aload_n C.1 C.2.1 dCl__number_52 rfl (lv_at hl 0 rfl) ?_
        refine zget C hW 0 4 rfl rfl inCl_ (by decide) flCl__21 rfl dCl__number_53 ?_
        refine lv_iload_n C.1 C.2.1 dCl__number_56 rfl (lv_at hl 1 rfl) ?_
        refine ziald C hW 4 0 rfl rfl (by omega) (by omega) (by decide) dCl__number_57 ?_
        have hb4 := bA4 k
        refine zi2l C (by omega) dCl__number_58 ?_
        exact hQ (zL (A4 k)) _ H locs _ _ _ ls hW ⟨congrArg zL (by unfold numC; simp [*]), rfl⟩ (by omega) (by omega) dCl__number_59
set_option maxHeartbeats 4000000 in
set_option maxRecDepth 100000 in
theorem c_CutList_makeRoom (l : Launch) (D : va_G) (cI cG cL cB : ClassId) (h0 : Nat) (a1 : Nat) (a2 : Nat) (a3 : Nat) (a4 : Nat) (n : Int) (A1 : Int → Int) (A2 : Int → Int) (A3 : Int → Int) (A4 : Int → Int) (at_ : Int) (bA1 : ∀ j : Int, I32 (A1 j)) (bA2 : ∀ j : Int, I32 (A2 j)) (bA3 : ∀ j : Int, I32 (A3 j)) (bA4 : ∀ j : Int, I32 (A4 j)) (h0a : 0 ≤ at_) (h1a : at_ ≤ n) (h2a : n < 24) : Cv l yCl__makeRoom cCl__makeRoom 3 none 0 0 0 D zCl (zT cI cG cL cB) [.ref h0, .int (zI at_)] [(h0, .inr (1, [.int (zI n), .ref a1, .ref a2, .ref a3, .ref a4])), (a1, .inl (cI, 24, .inl (fI A1))), (a2, .inl (cI, 24, .inl (fI A2))), (a3, .inl (cI, 24, .inl (fI A3))), (a4, .inl (cI, 24, .inl (fI A4)))] (fun w => ∃ B1 : Int → Int, ∃ B2 : Int → Int, ∃ B3 : Int → Int, ∃ B4 : Int → Int, (∀ j : Int, I32 (B1 j)) ∧ (∀ j : Int, I32 (B2 j)) ∧ (∀ j : Int, I32 (B3 j)) ∧ (∀ j : Int, I32 (B4 j)) ∧ (∀ k : Int, k ≤ at_ → B1 (k) = A1 (k) ∧ B2 (k) = A2 (k) ∧ B3 (k) = A3 (k) ∧ B4 (k) = A4 (k)) ∧ (∀ k : Int, at_ < k → k ≤ n → B1 (k) = A1 (k - 1) ∧ B2 (k) = A2 (k - 1) ∧ B3 (k) = A3 (k - 1) ∧ B4 (k) = A4 (k - 1)) ∧ w = [(h0, .inr (1, [.int (zI (n + 1)), .ref a1, .ref a2, .ref a3, .ref a4])), (a1, .inl (cI, 24, .inl (fI B1))), (a2, .inl (cI, 24, .inl (fI B2))), (a3, .inl (cI, 24, .inl (fI B3))), (a4, .inl (cI, 24, .inl (fI B4)))]) := by
  refine zBv (by decide) (Nat.le_of_ble_eq_true rfl) ?_
  intro p e s m args below meth c ls A H locs Q C hin hl hW hQ
  have hl : lv_has ls 3 [(0, .ref h0), (1, .int (zI at_))] := hl
  refine lv_aload_n C.1 C.2.1 dCl__makeRoom_0 rfl (lv_at hl 0 rfl) ?_
  refine zget C hW 0 0 rfl rfl inCl_ (by decide) flCl__24 rfl dCl__makeRoom_1 ?_
  refine lv_istore_n (lv' := [(2, .int (zI n)), (0, .ref h0), (1, .int (zI at_))]) C.1 C.2.1 dCl__makeRoom_4 rfl hl (by decide) rfl (fun ls hl => ?_)
  have L5 : ∀ (N : Nat) (j : Int) (x1 : Int → Int) (x2 : Int → Int) (x3 : Int → Int) (x4 : Int → Int), (j - at_).toNat < N → (at_ ≤ j) → (j ≤ n) → (∀ j : Int, I32 (x1 j)) → (∀ j : Int, I32 (x2 j)) → (∀ j : Int, I32 (x3 j)) → (∀ j : Int, I32 (x4 j)) → (∀ k : Int, k ≤ j → x1 (k) = A1 (k) ∧ x2 (k) = A2 (k) ∧ x3 (k) = A3 (k) ∧ x4 (k) = A4 (k)) → (∀ k : Int, j < k → k ≤ n → x1 (k) = A1 (k - 1) ∧ x2 (k) = A2 (k - 1) ∧ x3 (k) = A3 (k - 1) ∧ x4 (k) = A4 (k - 1)) → ∀ (ls : Array Slot) (H : Heap) (locs : List Loc), lv_has ls 3 [(2, .int (zI j)), (0, .ref h0), (1, .int (zI at_))] → zw D zCl A s [(h0, .inr (1, [.int (zI n), .ref a1, .ref a2, .ref a3, .ref a4])), (a1, .inl (cI, 24, .inl (fI x1))), (a2, .inl (cI, 24, .inl (fI x2))), (a3, .inl (cI, 24, .inl (fI x3))), (a4, .inl (cI, 24, .inl (fI x4)))] H locs → W p l e (zr 0 0 0) s m args below meth c H locs 0 0 Q (F0 m 5 ls []) := by
    intro N
    induction N with
    | zero => intro j x1 x2 x3 x4 hm; exact absurd hm (Nat.not_lt_zero _)
    | succ N ih5 =>
      intro j x1 x2 x3 x4 hm5 hj0 hj1 hx1 hx2 hx3 hx4 hA hB ls H locs hl hW
      refine lv_iload_n C.1 C.2.1 dCl__makeRoom_5 rfl (lv_at hl 0 rfl) ?_
      refine lv_iload_n C.1 C.2.1 dCl__makeRoom_6 rfl (lv_at hl 2 rfl) ?_
      refine zicmp_le (tgt := 72) C (by omega) (by omega) dCl__makeRoom_7 (by decide) (fun c7 => ?_) (fun c7 => ?_)
      · refine lv_aload_n C.1 C.2.1 dCl__makeRoom_72 rfl (lv_at hl 1 rfl) ?_
        refine lv_dup C.1 C.2.1 dCl__makeRoom_73 rfl ?_
        refine zget C hW 0 0 rfl rfl inCl_ (by decide) flCl__24 rfl dCl__makeRoom_74 ?_
        refine lv_iconst (v := zI 1) C.1 C.2.1 dCl__makeRoom_77 (by decide) ?_
        refine ziadd C dCl__makeRoom_78 ?_
        refine zput C hW 0 0 tyCl_ tyCl__ok nmCl_ rfl rfl inCl_ (by decide) flCl__24 rfl rfl rfl rfl (Nat.le_of_ble_eq_true rfl) dCl__makeRoom_79 (fun H locs hW => ?_)
        have hW : zw D zCl A s [(h0, .inr (1, [.int (zI (n + 1)), .ref a1, .ref a2, .ref a3, .ref a4])), (a1, .inl (cI, 24, .inl (fI x1))), (a2, .inl (cI, 24, .inl (fI x2))), (a3, .inl (cI, 24, .inl (fI x3))), (a4, .inl (cI, 24, .inl (fI x4)))] H locs := hW
        exact hQ _ H locs _ _ _ ls hW ⟨x1, x2, x3, x4, hx1, hx2, hx3, hx4, (fun k hk => hA k (by omega)), (fun k h1 h2 => hB k (by omega) h2), rfl⟩ (by omega) (by omega) dCl__makeRoom_82
      · refine lv_aload_n C.1 C.2.1 dCl__makeRoom_10 rfl (lv_at hl 1 rfl) ?_
        refine zget C hW 0 1 rfl rfl inCl_ (by decide) flCl__9 rfl dCl__makeRoom_11 ?_
        refine lv_iload_n C.1 C.2.1 dCl__makeRoom_14 rfl (lv_at hl 0 rfl) ?_
        refine lv_aload_n C.1 C.2.1 dCl__makeRoom_15 rfl (lv_at hl 1 rfl) ?_
        refine zget C hW 0 1 rfl rfl inCl_ (by decide) flCl__9 rfl dCl__makeRoom_16 ?_
        refine lv_iload_n C.1 C.2.1 dCl__makeRoom_19 rfl (lv_at hl 0 rfl) ?_
        refine lv_iconst (v := zI 1) C.1 C.2.1 dCl__makeRoom_20 (by decide) ?_
        refine zisub C dCl__makeRoom_21 ?_
        refine ziald C hW 1 0 rfl rfl (by omega) (by omega) (by decide) dCl__makeRoom_22 ?_
        have hb1 := hx1 (j - 1)
        refine ziast C hW 1 0 rfl rfl (by omega) (by omega) (by decide) dCl__makeRoom_23 (fun H locs hW => ?_)
        have hB2 : ∀ jj : Int, I32 ((upz x1 j (x1 (j - 1))) jj) := upz_b hx1 (by omega)
        have hW : zw D zCl A s [(h0, .inr (1, [.int (zI n), .ref a1, .ref a2, .ref a3, .ref a4])), (a1, .inl (cI, 24, .inl (fI (upz x1 j (x1 (j - 1)))))), (a2, .inl (cI, 24, .inl (fI x2))), (a3, .inl (cI, 24, .inl (fI x3))), (a4, .inl (cI, 24, .inl (fI x4)))] H locs := hW
        refine lv_aload_n C.1 C.2.1 dCl__makeRoom_24 rfl (lv_at hl 1 rfl) ?_
        refine zget C hW 0 2 rfl rfl inCl_ (by decide) flCl__15 rfl dCl__makeRoom_25 ?_
        refine lv_iload_n C.1 C.2.1 dCl__makeRoom_28 rfl (lv_at hl 0 rfl) ?_
        refine lv_aload_n C.1 C.2.1 dCl__makeRoom_29 rfl (lv_at hl 1 rfl) ?_
        refine zget C hW 0 2 rfl rfl inCl_ (by decide) flCl__15 rfl dCl__makeRoom_30 ?_
        refine lv_iload_n C.1 C.2.1 dCl__makeRoom_33 rfl (lv_at hl 0 rfl) ?_
        refine lv_iconst (v := zI 1) C.1 C.2.1 dCl__makeRoom_34 (by decide) ?_
        refine zisub C dCl__makeRoom_35 ?_
        refine ziald C hW 2 0 rfl rfl (by omega) (by omega) (by decide) dCl__makeRoom_36 ?_
        have hb3 := hx2 (j - 1)
        refine ziast C hW 2 0 rfl rfl (by omega) (by omega) (by decide) dCl__makeRoom_37 (fun H locs hW => ?_)
        have hB4 : ∀ jj : Int, I32 ((upz x2 j (x2 (j - 1))) jj) := upz_b hx2 (by omega)
        have hW : zw D zCl A s [(h0, .inr (1, [.int (zI n), .ref a1, .ref a2, .ref a3, .ref a4])), (a1, .inl (cI, 24, .inl (fI (upz x1 j (x1 (j - 1)))))), (a2, .inl (cI, 24, .inl (fI (upz x2 j (x2 (j - 1)))))), (a3, .inl (cI, 24, .inl (fI x3))), (a4, .inl (cI, 24, .inl (fI x4)))] H locs := hW
        refine lv_aload_n C.1 C.2.1 dCl__makeRoom_38 rfl (lv_at hl 1 rfl) ?_
        refine zget C hW 0 3 rfl rfl inCl_ (by decide) flCl__18 rfl dCl__makeRoom_39 ?_
        refine lv_iload_n C.1 C.2.1 dCl__makeRoom_42 rfl (lv_at hl 0 rfl) ?_
        refine lv_aload_n C.1 C.2.1 dCl__makeRoom_43 rfl (lv_at hl 1 rfl) ?_
        refine zget C hW 0 3 rfl rfl inCl_ (by decide) flCl__18 rfl dCl__makeRoom_44 ?_
        refine lv_iload_n C.1 C.2.1 dCl__makeRoom_47 rfl (lv_at hl 0 rfl) ?_
        refine lv_iconst (v := zI 1) C.1 C.2.1 dCl__makeRoom_48 (by decide) ?_
        refine zisub C dCl__makeRoom_49 ?_
        refine ziald C hW 3 0 rfl rfl (by omega) (by omega) (by decide) dCl__makeRoom_50 ?_
        have hb5 := hx3 (j - 1)
        refine ziast C hW 3 0 rfl rfl (by omega) (by omega) (by decide) dCl__makeRoom_51 (fun H locs hW => ?_)
        have hB6 : ∀ jj : Int, I32 ((upz x3 j (x3 (j - 1))) jj) := upz_b hx3 (by omega)
        have hW : zw D zCl A s [(h0, .inr (1, [.int (zI n), .ref a1, .ref a2, .ref a3, .ref a4])), (a1, .inl (cI, 24, .inl (fI (upz x1 j (x1 (j - 1)))))), (a2, .inl (cI, 24, .inl (fI (upz x2 j (x2 (j - 1)))))), (a3, .inl (cI, 24, .inl (fI (upz x3 j (x3 (j - 1)))))), (a4, .inl (cI, 24, .inl (fI x4)))] H locs := hW
        refine lv_aload_n C.1 C.2.1 dCl__makeRoom_52 rfl (lv_at hl 1 rfl) ?_
        refine zget C hW 0 4 rfl rfl inCl_ (by decide) flCl__21 rfl dCl__makeRoom_53 ?_
        refine lv_iload_n C.1 C.2.1 dCl__makeRoom_56 rfl (lv_at hl 0 rfl) ?_
        refine lv_aload_n C.1 C.2.1 dCl__makeRoom_57 rfl (lv_at hl 1 rfl) ?_
        refine zget C hW 0 4 rfl rfl inCl_ (by decide) flCl__21 rfl dCl__makeRoom_58 ?_
        refine lv_iload_n C.1 C.2.1 dCl__makeRoom_61 rfl (lv_at hl 0 rfl) ?_
        refine lv_iconst (v := zI 1) C.1 C.2.1 dCl__makeRoom_62 (by decide) ?_
        refine zisub C dCl__makeRoom_63 ?_
        refine ziald C hW 4 0 rfl rfl (by omega) (by omega) (by decide) dCl__makeRoom_64 ?_
        have hb7 := hx4 (j - 1)
        refine ziast C hW 4 0 rfl rfl (by omega) (by omega) (by decide) dCl__makeRoom_65 (fun H locs hW => ?_)
        have hB8 : ∀ jj : Int, I32 ((upz x4 j (x4 (j - 1))) jj) := upz_b hx4 (by omega)
        have hW : zw D zCl A s [(h0, .inr (1, [.int (zI n), .ref a1, .ref a2, .ref a3, .ref a4])), (a1, .inl (cI, 24, .inl (fI (upz x1 j (x1 (j - 1)))))), (a2, .inl (cI, 24, .inl (fI (upz x2 j (x2 (j - 1)))))), (a3, .inl (cI, 24, .inl (fI (upz x3 j (x3 (j - 1)))))), (a4, .inl (cI, 24, .inl (fI (upz x4 j (x4 (j - 1))))))] H locs := hW
        refine lv_iinc (v := zI (j + (-1))) (lv' := [(2, .int (zI (j + (-1)))), (0, .ref h0), (1, .int (zI at_))]) C.1 C.2.1 dCl__makeRoom_66 hl (k := 0) rfl (zI_add j (-1)) (by decide) rfl (fun ls hl => ?_)
        refine lv_goto (tgt := 5) C.1 C.2.1 dCl__makeRoom_69 (by decide) ?_
        exact ih5 (j + (-1)) (upz x1 j (x1 (j - 1))) (upz x2 j (x2 (j - 1))) (upz x3 j (x3 (j - 1))) (upz x4 j (x4 (j - 1))) (by omega) (by omega) (by omega) hB2 hB4 hB6 hB8 (fun k hk => by rw [upz_n (by omega), upz_n (by omega), upz_n (by omega), upz_n (by omega)]; exact hA k (by omega)) (fun k h1 h2 => by by_cases h : k = j; subst h; rw [upz_s, upz_s, upz_s, upz_s]; exact hA (k - 1) (by omega); rw [upz_n h, upz_n h, upz_n h, upz_n h]; exact hB k (by omega) h2) ls H locs (lv_sub hl [0, 1, 2] rfl) hW
  exact L5 _ n A1 A2 A3 A4 (Nat.lt_succ_self _) (by omega) (by omega) bA1 bA2 bA3 bA4 (fun _ _ => ⟨rfl, rfl, rfl, rfl⟩) (fun k h1 h2 => absurd h2 (by omega)) ls H locs (lv_sub hl [0, 1, 2] rfl) hW
set_option maxHeartbeats 4000000 in
set_option maxRecDepth 100000 in
theorem c_CutList_put (l : Launch) (D : va_G) (cI cG cL cB : ClassId) (h0 : Nat) (a1 : Nat) (a2 : Nat) (a3 : Nat) (a4 : Nat) (n : Int) (A1 : Int → Int) (A2 : Int → Int) (A3 : Int → Int) (A4 : Int → Int) (mo : Int) (mi : Int) (le : Int) (L : List (Int × Int × Int × Int)) (bA1 : ∀ j : Int, I32 (A1 j)) (bA2 : ∀ j : Int, I32 (A2 j)) (bA3 : ∀ j : Int, I32 (A3 j)) (bA4 : ∀ j : Int, I32 (A4 j)) (hImo : I32 mo) (hImi : I32 mi) (hIle : I32 le) (hL : arrS n A1 A2 A3 A4 L) (hlen : L.length < 24) (hal : ∀ z ∈ L, 1 ≤ z.2.2.2 ∧ z.2.2.2 ≤ 24) : Cv l yCl__put cCl__put 5 none 2 0 0 D zCl (zT cI cG cL cB) [.ref h0, .int (zI mo), .int (zI mi), .int (zI le)] [(h0, .inr (1, [.int (zI n), .ref a1, .ref a2, .ref a3, .ref a4])), (a1, .inl (cI, 24, .inl (fI A1))), (a2, .inl (cI, 24, .inl (fI A2))), (a3, .inl (cI, 24, .inl (fI A3))), (a4, .inl (cI, 24, .inl (fI A4)))] (fun w => ∃ n2 : Int, ∃ B1 : Int → Int, ∃ B2 : Int → Int, ∃ B3 : Int → Int, ∃ B4 : Int → Int, (∀ j : Int, I32 (B1 j)) ∧ (∀ j : Int, I32 (B2 j)) ∧ (∀ j : Int, I32 (B3 j)) ∧ (∀ j : Int, I32 (B4 j)) ∧ (arrS n2 B1 B2 B3 B4 (insC mo mi le L)) ∧ w = [(h0, .inr (1, [.int (zI n2), .ref a1, .ref a2, .ref a3, .ref a4])), (a1, .inl (cI, 24, .inl (fI B1))), (a2, .inl (cI, 24, .inl (fI B2))), (a3, .inl (cI, 24, .inl (fI B3))), (a4, .inl (cI, 24, .inl (fI B4)))]) := by
  refine zBv (by decide) (Nat.le_of_ble_eq_true rfl) ?_
  intro p e s m args below meth c ls A H locs Q C hin hl hW hQ
  have hl : lv_has ls 5 [(0, .ref h0), (1, .int (zI mo)), (2, .int (zI mi)), (3, .int (zI le))] := hl
  have hn := hL.1
  refine lv_iconst (v := zI 0) C.1 C.2.1 dCl__put_0 (by decide) ?_
  refine lv_istore (lv' := [(4, .int (zI 0)), (0, .ref h0), (1, .int (zI mo)), (2, .int (zI mi)), (3, .int (zI le))]) C.1 C.2.1 dCl__put_1 hl (by decide) rfl (fun ls hl => ?_)
  have L3 : ∀ (N : Nat) (i : Nat), L.length - i < N → (i ≤ L.length) → (∀ k : Nat, k < i → cmC (gD L k) mo mi le = 1) → ∀ (ls : Array Slot) (H : Heap) (locs : List Loc), lv_has ls 5 [(4, .int (zI (i : Int))), (0, .ref h0), (1, .int (zI mo)), (2, .int (zI mi)), (3, .int (zI le))] → zw D zCl A s [(h0, .inr (1, [.int (zI n), .ref a1, .ref a2, .ref a3, .ref a4])), (a1, .inl (cI, 24, .inl (fI A1))), (a2, .inl (cI, 24, .inl (fI A2))), (a3, .inl (cI, 24, .inl (fI A3))), (a4, .inl (cI, 24, .inl (fI A4)))] H locs → W p l e (zr 2 0 0) s m args below meth c H locs 0 0 Q (F0 m 3 ls []) := by
    intro N
    induction N with
    | zero => intro i hm; exact absurd hm (Nat.not_lt_zero _)
    | succ N ih3 =>
      intro i hm3 hi hlo ls H locs hl hW
      have L30 : (i < L.length → cmC (gD L i) mo mi le ≠ 1) → ∀ (ls : Array Slot) (H : Heap) (locs : List Loc), lv_has ls 5 [(4, .int (zI (i : Int))), (0, .ref h0), (1, .int (zI mo)), (2, .int (zI mi)), (3, .int (zI le))] → zw D zCl A s [(h0, .inr (1, [.int (zI n), .ref a1, .ref a2, .ref a3, .ref a4])), (a1, .inl (cI, 24, .inl (fI A1))), (a2, .inl (cI, 24, .inl (fI A2))), (a3, .inl (cI, 24, .inl (fI A3))), (a4, .inl (cI, 24, .inl (fI A4)))] H locs → W p l e (zr 2 0 0) s m args below meth c H locs 0 0 Q (F0 m 30 ls []) := by
        intro  hup ls H locs hl hW
        have L63 : (i < L.length → cmC (gD L i) mo mi le = -1) → ∀ (ls : Array Slot) (H : Heap) (locs : List Loc), lv_has ls 5 [(4, .int (zI (i : Int))), (0, .ref h0), (1, .int (zI mo)), (2, .int (zI mi)), (3, .int (zI le))] → zw D zCl A s [(h0, .inr (1, [.int (zI n), .ref a1, .ref a2, .ref a3, .ref a4])), (a1, .inl (cI, 24, .inl (fI A1))), (a2, .inl (cI, 24, .inl (fI A2))), (a3, .inl (cI, 24, .inl (fI A3))), (a4, .inl (cI, 24, .inl (fI A4)))] H locs → W p l e (zr 2 0 0) s m args below meth c H locs 0 0 Q (F0 m 63 ls []) := by
          intro  hnw ls H locs hl hW
          refine lv_aload_n C.1 C.2.1 dCl__put_63 rfl (lv_at hl 1 rfl) ?_
          refine zget C hW 0 0 rfl rfl inCl_ (by decide) flCl__24 rfl dCl__put_64 ?_
          refine lv_bipush (v := zI 24) C.1 C.2.1 dCl__put_67 (by decide) ?_
          refine zicmp_lt (tgt := 73) C (by omega) (by omega) dCl__put_69 (by decide) (fun c69 => ?_) (fun c69 => ?_)
          · refine lv_aload_n C.1 C.2.1 dCl__put_73 rfl (lv_at hl 1 rfl) ?_
            refine lv_iload C.1 C.2.1 dCl__put_74 (lv_at hl 0 rfl) ?_
            refine zcallv (wr := []) C hW [0, 1, 2, 3, 4] [] rfl rfl (by decide) (by decide) (zRunV (k := 1) (As := [.int (zI (i : Int))]) (rest := []) C hW (c_CutList_makeRoom l D cI cG cL cB h0 a1 a2 a3 a4 n A1 A2 A3 A4 (i : Int) bA1 bA2 bA3 bA4 (by omega) (by omega) (by omega) H.size) [0, 1, 2, 3, 4] rfl (by decide) kCl__52 (by decide +kernel) ⟨by decide, by decide⟩ 0 rfl rfl rfl hl.1 (Nat.le_of_ble_eq_true rfl) dCl__put_76 ⟨by first | decide | omega, by first | decide | omega⟩) (fun w H locs hq hW => ?_)
            obtain ⟨B11, B22, B33, B44, hf5, hf6, hf7, hf8, hf9, hf10, rfl⟩ := hq
            have hW : zw D zCl A s [(h0, .inr (1, [.int (zI (n + 1)), .ref a1, .ref a2, .ref a3, .ref a4])), (a1, .inl (cI, 24, .inl (fI B11))), (a2, .inl (cI, 24, .inl (fI B22))), (a3, .inl (cI, 24, .inl (fI B33))), (a4, .inl (cI, 24, .inl (fI B44)))] H locs := hW
            refine lv_aload_n C.1 C.2.1 dCl__put_79 rfl (lv_at hl 1 rfl) ?_
            refine zget C hW 0 1 rfl rfl inCl_ (by decide) flCl__9 rfl dCl__put_80 ?_
            refine lv_iload C.1 C.2.1 dCl__put_83 (lv_at hl 0 rfl) ?_
            refine lv_iload_n C.1 C.2.1 dCl__put_85 rfl (lv_at hl 2 rfl) ?_
            refine ziast C hW 1 0 rfl rfl (by omega) (by omega) (by decide) dCl__put_86 (fun H locs hW => ?_)
            have hB11 : ∀ jj : Int, I32 ((upz B11 (i : Int) mo) jj) := upz_b hf5 (by omega)
            have hW : zw D zCl A s [(h0, .inr (1, [.int (zI (n + 1)), .ref a1, .ref a2, .ref a3, .ref a4])), (a1, .inl (cI, 24, .inl (fI (upz B11 (i : Int) mo)))), (a2, .inl (cI, 24, .inl (fI B22))), (a3, .inl (cI, 24, .inl (fI B33))), (a4, .inl (cI, 24, .inl (fI B44)))] H locs := hW
            refine lv_aload_n C.1 C.2.1 dCl__put_87 rfl (lv_at hl 1 rfl) ?_
            refine zget C hW 0 2 rfl rfl inCl_ (by decide) flCl__15 rfl dCl__put_88 ?_
            refine lv_iload C.1 C.2.1 dCl__put_91 (lv_at hl 0 rfl) ?_
            refine lv_iload_n C.1 C.2.1 dCl__put_93 rfl (lv_at hl 3 rfl) ?_
            refine ziast C hW 2 0 rfl rfl (by omega) (by omega) (by decide) dCl__put_94 (fun H locs hW => ?_)
            have hB12 : ∀ jj : Int, I32 ((upz B22 (i : Int) mi) jj) := upz_b hf6 (by omega)
            have hW : zw D zCl A s [(h0, .inr (1, [.int (zI (n + 1)), .ref a1, .ref a2, .ref a3, .ref a4])), (a1, .inl (cI, 24, .inl (fI (upz B11 (i : Int) mo)))), (a2, .inl (cI, 24, .inl (fI (upz B22 (i : Int) mi)))), (a3, .inl (cI, 24, .inl (fI B33))), (a4, .inl (cI, 24, .inl (fI B44)))] H locs := hW
            refine lv_aload_n C.1 C.2.1 dCl__put_95 rfl (lv_at hl 1 rfl) ?_
            refine zget C hW 0 3 rfl rfl inCl_ (by decide) flCl__18 rfl dCl__put_96 ?_
            refine lv_iload C.1 C.2.1 dCl__put_99 (lv_at hl 0 rfl) ?_
            refine lv_iload_n C.1 C.2.1 dCl__put_101 rfl (lv_at hl 4 rfl) ?_
            refine ziast C hW 3 0 rfl rfl (by omega) (by omega) (by decide) dCl__put_102 (fun H locs hW => ?_)
            have hB13 : ∀ jj : Int, I32 ((upz B33 (i : Int) le) jj) := upz_b hf7 (by omega)
            have hW : zw D zCl A s [(h0, .inr (1, [.int (zI (n + 1)), .ref a1, .ref a2, .ref a3, .ref a4])), (a1, .inl (cI, 24, .inl (fI (upz B11 (i : Int) mo)))), (a2, .inl (cI, 24, .inl (fI (upz B22 (i : Int) mi)))), (a3, .inl (cI, 24, .inl (fI (upz B33 (i : Int) le)))), (a4, .inl (cI, 24, .inl (fI B44)))] H locs := hW
            refine lv_aload_n C.1 C.2.1 dCl__put_103 rfl (lv_at hl 1 rfl) ?_
            refine zget C hW 0 4 rfl rfl inCl_ (by decide) flCl__21 rfl dCl__put_104 ?_
            refine lv_iload C.1 C.2.1 dCl__put_107 (lv_at hl 0 rfl) ?_
            refine lv_iconst (v := zI 1) C.1 C.2.1 dCl__put_109 (by decide) ?_
            refine ziast C hW 4 0 rfl rfl (by omega) (by omega) (by decide) dCl__put_110 (fun H locs hW => ?_)
            have hB14 : ∀ jj : Int, I32 ((upz B44 (i : Int) 1) jj) := upz_b hf8 (by omega)
            have hW : zw D zCl A s [(h0, .inr (1, [.int (zI (n + 1)), .ref a1, .ref a2, .ref a3, .ref a4])), (a1, .inl (cI, 24, .inl (fI (upz B11 (i : Int) mo)))), (a2, .inl (cI, 24, .inl (fI (upz B22 (i : Int) mi)))), (a3, .inl (cI, 24, .inl (fI (upz B33 (i : Int) le)))), (a4, .inl (cI, 24, .inl (fI (upz B44 (i : Int) 1))))] H locs := hW
            exact hQ _ H locs _ _ _ ls hW ⟨_, _, _, _, _, hB11, hB12, hB13, hB14, (by rw [insC_at hlo hi hnw]; exact arrS_ins hL hi (fun j a b => by rw [upz_n (by omega), upz_n (by omega), upz_n (by omega), upz_n (by omega)]; exact hf9 j (by omega)) ⟨upz_s, upz_s, upz_s, upz_s⟩ (fun j a b => by rw [upz_n (by omega), upz_n (by omega), upz_n (by omega), upz_n (by omega)]; exact hf10 j (by omega) b)), rfl⟩ (by omega) (by omega) dCl__put_111
          · exact False.elim (by omega)
        refine lv_iload C.1 C.2.1 dCl__put_30 (lv_at hl 0 rfl) ?_
        refine lv_aload_n C.1 C.2.1 dCl__put_32 rfl (lv_at hl 1 rfl) ?_
        refine zget C hW 0 0 rfl rfl inCl_ (by decide) flCl__24 rfl dCl__put_33 ?_
        refine zicmp_ge (tgt := 63) C (by omega) (by omega) dCl__put_36 (by decide) (fun c36 => ?_) (fun c36 => ?_)
        · exact L63  (fun h => by have h7 := hup h; omega) ls H locs (lv_sub hl [0, 1, 2, 3, 4] rfl) hW
        · have hil : i < L.length := by omega
          have hia := arrS_at hL hil
          have hce : cmC (gD L i) mo mi le = cmpS (A1 (i : Int)) (A2 (i : Int)) (A3 (i : Int)) mo mi le := by rw [hia.1, hia.2.1, hia.2.2.1]
          refine lv_aload_n C.1 C.2.1 dCl__put_39 rfl (lv_at hl 1 rfl) ?_
          refine lv_iload C.1 C.2.1 dCl__put_40 (lv_at hl 0 rfl) ?_
          refine lv_iload_n C.1 C.2.1 dCl__put_42 rfl (lv_at hl 2 rfl) ?_
          refine lv_iload_n C.1 C.2.1 dCl__put_43 rfl (lv_at hl 3 rfl) ?_
          refine lv_iload_n C.1 C.2.1 dCl__put_44 rfl (lv_at hl 4 rfl) ?_
          refine zcalli (wr := []) C hW [0, 1, 2, 3, 4] [] rfl rfl (by decide) (by decide) (zRunV (k := 4) (As := [.int (zI (i : Int)), .int (zI mo), .int (zI mi), .int (zI le)]) (rest := []) C hW (c_CutList_compare l D cI cG cL cB h0 a1 a2 a3 a4 n A1 A2 A3 A4 (i : Int) mo mi le bA1 bA2 bA3 bA4 (by omega) (by omega) (by omega) (by omega) (by omega) H.size) [0, 1, 2, 3, 4] rfl (by decide) kCl__48 (by decide +kernel) ⟨by decide, by decide⟩ 0 rfl rfl rfl hl.1 (Nat.le_of_ble_eq_true rfl) dCl__put_45 ⟨by first | decide | omega, by first | decide | omega⟩) (fun x w H locs hq hW => ?_)
          obtain ⟨rfl, rfl⟩ := hq
          have hW : zw D zCl A s [(h0, .inr (1, [.int (zI n), .ref a1, .ref a2, .ref a3, .ref a4])), (a1, .inl (cI, 24, .inl (fI A1))), (a2, .inl (cI, 24, .inl (fI A2))), (a3, .inl (cI, 24, .inl (fI A3))), (a4, .inl (cI, 24, .inl (fI A4)))] H locs := hW
          have hr15 := cmpS_in (A1 (i : Int)) (A2 (i : Int)) (A3 (i : Int)) mo mi le
          refine zif_ne (tgt := 63) C (by omega) dCl__put_48 (by decide) (fun c48 => ?_) (fun c48 => ?_)
          · exact L63  (fun h => by have h7 := hup h; omega) ls H locs (lv_sub hl [0, 1, 2, 3, 4] rfl) hW
          · have hae := hal (gD L i) (by rw [gD, List.getD_eq_getElem?_getD, List.getElem?_eq_getElem hil]; exact List.getElem_mem hil)
            refine lv_aload_n C.1 C.2.1 dCl__put_51 rfl (lv_at hl 1 rfl) ?_
            refine zget C hW 0 4 rfl rfl inCl_ (by decide) flCl__21 rfl dCl__put_52 ?_
            refine lv_iload C.1 C.2.1 dCl__put_55 (lv_at hl 0 rfl) ?_
            refine lv_dup2_11 C.1 C.2.1 dCl__put_57 rfl rfl ?_
            refine ziald C hW 4 0 rfl rfl (by omega) (by omega) (by decide) dCl__put_58 ?_
            have hb16 := bA4 (i : Int)
            refine lv_iconst (v := zI 1) C.1 C.2.1 dCl__put_59 (by decide) ?_
            refine ziadd C dCl__put_60 ?_
            refine ziast C hW 4 0 rfl rfl (by omega) (by omega) (by decide) dCl__put_61 (fun H locs hW => ?_)
            have hB17 : ∀ jj : Int, I32 ((upz A4 (i : Int) ((A4 (i : Int)) + 1)) jj) := upz_b bA4 (by omega)
            have hW : zw D zCl A s [(h0, .inr (1, [.int (zI n), .ref a1, .ref a2, .ref a3, .ref a4])), (a1, .inl (cI, 24, .inl (fI A1))), (a2, .inl (cI, 24, .inl (fI A2))), (a3, .inl (cI, 24, .inl (fI A3))), (a4, .inl (cI, 24, .inl (fI (upz A4 (i : Int) ((A4 (i : Int)) + 1)))))] H locs := hW
            exact hQ _ H locs _ _ _ ls hW ⟨n, A1, A2, A3, _, bA1, bA2, bA3, hB17, (by rw [insC_same hlo hil (by omega)]; exact arrS_set hL hil upz_s (fun j hj => upz_n hj)), rfl⟩ (by omega) (by omega) dCl__put_62
      refine lv_iload C.1 C.2.1 dCl__put_3 (lv_at hl 0 rfl) ?_
      refine lv_aload_n C.1 C.2.1 dCl__put_5 rfl (lv_at hl 1 rfl) ?_
      refine zget C hW 0 0 rfl rfl inCl_ (by decide) flCl__24 rfl dCl__put_6 ?_
      refine zicmp_ge (tgt := 30) C (by omega) (by omega) dCl__put_9 (by decide) (fun c9 => ?_) (fun c9 => ?_)
      · exact L30  (fun h => by omega) ls H locs (lv_sub hl [0, 1, 2, 3, 4] rfl) hW
      · have hil : i < L.length := by omega
        have hia := arrS_at hL hil
        have hce : cmC (gD L i) mo mi le = cmpS (A1 (i : Int)) (A2 (i : Int)) (A3 (i : Int)) mo mi le := by rw [hia.1, hia.2.1, hia.2.2.1]
        refine lv_aload_n C.1 C.2.1 dCl__put_12 rfl (lv_at hl 1 rfl) ?_
        refine lv_iload C.1 C.2.1 dCl__put_13 (lv_at hl 0 rfl) ?_
        refine lv_iload_n C.1 C.2.1 dCl__put_15 rfl (lv_at hl 2 rfl) ?_
        refine lv_iload_n C.1 C.2.1 dCl__put_16 rfl (lv_at hl 3 rfl) ?_
        refine lv_iload_n C.1 C.2.1 dCl__put_17 rfl (lv_at hl 4 rfl) ?_
        refine zcalli (wr := []) C hW [0, 1, 2, 3, 4] [] rfl rfl (by decide) (by decide) (zRunV (k := 4) (As := [.int (zI (i : Int)), .int (zI mo), .int (zI mi), .int (zI le)]) (rest := []) C hW (c_CutList_compare l D cI cG cL cB h0 a1 a2 a3 a4 n A1 A2 A3 A4 (i : Int) mo mi le bA1 bA2 bA3 bA4 (by omega) (by omega) (by omega) (by omega) (by omega) H.size) [0, 1, 2, 3, 4] rfl (by decide) kCl__48 (by decide +kernel) ⟨by decide, by decide⟩ 0 rfl rfl rfl hl.1 (Nat.le_of_ble_eq_true rfl) dCl__put_18 ⟨by first | decide | omega, by first | decide | omega⟩) (fun x w H locs hq hW => ?_)
        obtain ⟨rfl, rfl⟩ := hq
        have hW : zw D zCl A s [(h0, .inr (1, [.int (zI n), .ref a1, .ref a2, .ref a3, .ref a4])), (a1, .inl (cI, 24, .inl (fI A1))), (a2, .inl (cI, 24, .inl (fI A2))), (a3, .inl (cI, 24, .inl (fI A3))), (a4, .inl (cI, 24, .inl (fI A4)))] H locs := hW
        have hr18 := cmpS_in (A1 (i : Int)) (A2 (i : Int)) (A3 (i : Int)) mo mi le
        refine zif_le (tgt := 30) C (by omega) dCl__put_21 (by decide) (fun c21 => ?_) (fun c21 => ?_)
        · exact L30  (fun h => by omega) ls H locs (lv_sub hl [0, 1, 2, 3, 4] rfl) hW
        · refine lv_iinc (v := zI ((i : Int) + 1)) (lv' := [(4, .int (zI ((i : Int) + 1))), (0, .ref h0), (1, .int (zI mo)), (2, .int (zI mi)), (3, .int (zI le))]) C.1 C.2.1 dCl__put_24 hl (k := 0) rfl (zI_add (i : Int) 1) (by decide) rfl (fun ls hl => ?_)
          refine lv_goto (tgt := 3) C.1 C.2.1 dCl__put_27 (by decide) ?_
          exact ih3 (i + 1) (by omega) (by omega) (fun k hk => by rcases Nat.lt_succ_iff_lt_or_eq.mp hk with h | h; exact hlo k h; subst h; omega) ls H locs (lv_sub hl [0, 1, 2, 3, 4] rfl) hW
  exact L3 _ 0 (Nat.lt_succ_self _) (Nat.zero_le _) (fun k h => absurd h (Nat.not_lt_zero k)) ls H locs (lv_sub hl [0, 1, 2, 3, 4] rfl) hW
set_option maxHeartbeats 4000000 in
set_option maxRecDepth 100000 in
theorem c_CutList_gather (l : Launch) (D : va_G) (cI cG cL cB : ClassId) (h0 : Nat) (a1 : Nat) (a2 : Nat) (a3 : Nat) (a4 : Nat) (n : Int) (A1 : Int → Int) (A2 : Int → Int) (A3 : Int → Int) (A4 : Int → Int) (b0 : Nat) (hp : Nat) (hs : Nat) (p0 : Nat) (p1 : Nat) (p2 : Nat) (s0 : Nat) (s1 : Nat) (s2 : Nat) (bn : Int) (P0 : Int → Int) (P1 : Int → Int) (P2 : Int → Int) (S0 : Int → Int) (S1 : Int → Int) (S2 : Int → Int) (bA1 : ∀ j : Int, I32 (A1 j)) (bA2 : ∀ j : Int, I32 (A2 j)) (bA3 : ∀ j : Int, I32 (A3 j)) (bA4 : ∀ j : Int, I32 (A4 j)) (bP0 : ∀ j : Int, I32 (P0 j)) (bP1 : ∀ j : Int, I32 (P1 j)) (bP2 : ∀ j : Int, I32 (P2 j)) (bS0 : ∀ j : Int, I32 (S0 j)) (bS1 : ∀ j : Int, I32 (S1 j)) (bS2 : ∀ j : Int, I32 (S2 j)) (hBB : boxB bn P0 P1 P2 S0 S1 S2) (hbn0 : 0 ≤ bn) (hbn1 : bn ≤ 24) : Cv l yCl__gather cCl__gather 8 none 3 0 0 D zCl (zT cI cG cL cB) [.ref h0, .ref b0] [(h0, .inr (1, [.int (zI n), .ref a1, .ref a2, .ref a3, .ref a4])), (a1, .inl (cI, 24, .inl (fI A1))), (a2, .inl (cI, 24, .inl (fI A2))), (a3, .inl (cI, 24, .inl (fI A3))), (a4, .inl (cI, 24, .inl (fI A4))), (b0, .inr (0, [.ref hp, .ref hs, .int (zI bn)])), (hp, .inl (cG, 3, .inr (.inr (.inr (.inr (g3 p0 p1 p2)))))), (hs, .inl (cG, 3, .inr (.inr (.inr (.inr (g3 s0 s1 s2)))))), (p0, .inl (cI, 24, .inl (fI P0))), (p1, .inl (cI, 24, .inl (fI P1))), (p2, .inl (cI, 24, .inl (fI P2))), (s0, .inl (cI, 24, .inl (fI S0))), (s1, .inl (cI, 24, .inl (fI S1))), (s2, .inl (cI, 24, .inl (fI S2)))] (fun w => ∃ n2 : Int, ∃ B1 : Int → Int, ∃ B2 : Int → Int, ∃ B3 : Int → Int, ∃ B4 : Int → Int, (∀ j : Int, I32 (B1 j)) ∧ (∀ j : Int, I32 (B2 j)) ∧ (∀ j : Int, I32 (B3 j)) ∧ (∀ j : Int, I32 (B4 j)) ∧ (arrS n2 B1 B2 B3 B4 (listC S0 S1 S2 bn)) ∧ w = [(h0, .inr (1, [.int (zI n2), .ref a1, .ref a2, .ref a3, .ref a4])), (a1, .inl (cI, 24, .inl (fI B1))), (a2, .inl (cI, 24, .inl (fI B2))), (a3, .inl (cI, 24, .inl (fI B3))), (a4, .inl (cI, 24, .inl (fI B4))), (b0, .inr (0, [.ref hp, .ref hs, .int (zI bn)])), (hp, .inl (cG, 3, .inr (.inr (.inr (.inr (g3 p0 p1 p2)))))), (hs, .inl (cG, 3, .inr (.inr (.inr (.inr (g3 s0 s1 s2)))))), (p0, .inl (cI, 24, .inl (fI P0))), (p1, .inl (cI, 24, .inl (fI P1))), (p2, .inl (cI, 24, .inl (fI P2))), (s0, .inl (cI, 24, .inl (fI S0))), (s1, .inl (cI, 24, .inl (fI S1))), (s2, .inl (cI, 24, .inl (fI S2)))]) := by
  refine zBv (by decide) (Nat.le_of_ble_eq_true rfl) ?_
  intro p e s m args below meth c ls A H locs Q C hin hl hW hQ
  have hl : lv_has ls 8 [(0, .ref h0), (1, .ref b0)] := hl
  refine lv_aload_n C.1 C.2.1 dCl__gather_0 rfl (lv_at hl 0 rfl) ?_
  refine lv_iconst (v := zI 0) C.1 C.2.1 dCl__gather_1 (by decide) ?_
  refine zput C hW 0 0 tyCl_ tyCl__ok nmCl_ rfl rfl inCl_ (by decide) flCl__24 rfl rfl rfl rfl (Nat.le_of_ble_eq_true rfl) dCl__gather_2 (fun H locs hW => ?_)
  have hW : zw D zCl A s [(h0, .inr (1, [.int (zI 0), .ref a1, .ref a2, .ref a3, .ref a4])), (a1, .inl (cI, 24, .inl (fI A1))), (a2, .inl (cI, 24, .inl (fI A2))), (a3, .inl (cI, 24, .inl (fI A3))), (a4, .inl (cI, 24, .inl (fI A4))), (b0, .inr (0, [.ref hp, .ref hs, .int (zI bn)])), (hp, .inl (cG, 3, .inr (.inr (.inr (.inr (g3 p0 p1 p2)))))), (hs, .inl (cG, 3, .inr (.inr (.inr (.inr (g3 s0 s1 s2)))))), (p0, .inl (cI, 24, .inl (fI P0))), (p1, .inl (cI, 24, .inl (fI P1))), (p2, .inl (cI, 24, .inl (fI P2))), (s0, .inl (cI, 24, .inl (fI S0))), (s1, .inl (cI, 24, .inl (fI S1))), (s2, .inl (cI, 24, .inl (fI S2)))] H locs := hW
  refine lv_iconst (v := zI 0) C.1 C.2.1 dCl__gather_5 (by decide) ?_
  refine lv_istore_n (lv' := [(2, .int (zI 0)), (0, .ref h0), (1, .ref b0)]) C.1 C.2.1 dCl__gather_6 rfl hl (by decide) rfl (fun ls hl => ?_)
  have L7 : ∀ (N : Nat) (i : Int) (nc : Int) (x1 : Int → Int) (x2 : Int → Int) (x3 : Int → Int) (x4 : Int → Int), (bn - i).toNat < N → (0 ≤ i) → (i ≤ bn) → (∀ j : Int, I32 (x1 j)) → (∀ j : Int, I32 (x2 j)) → (∀ j : Int, I32 (x3 j)) → (∀ j : Int, I32 (x4 j)) → (arrS nc x1 x2 x3 x4 (listC S0 S1 S2 i)) → ∀ (ls : Array Slot) (H : Heap) (locs : List Loc), lv_has ls 8 [(2, .int (zI i)), (0, .ref h0), (1, .ref b0)] → zw D zCl A s [(h0, .inr (1, [.int (zI nc), .ref a1, .ref a2, .ref a3, .ref a4])), (a1, .inl (cI, 24, .inl (fI x1))), (a2, .inl (cI, 24, .inl (fI x2))), (a3, .inl (cI, 24, .inl (fI x3))), (a4, .inl (cI, 24, .inl (fI x4))), (b0, .inr (0, [.ref hp, .ref hs, .int (zI bn)])), (hp, .inl (cG, 3, .inr (.inr (.inr (.inr (g3 p0 p1 p2)))))), (hs, .inl (cG, 3, .inr (.inr (.inr (.inr (g3 s0 s1 s2)))))), (p0, .inl (cI, 24, .inl (fI P0))), (p1, .inl (cI, 24, .inl (fI P1))), (p2, .inl (cI, 24, .inl (fI P2))), (s0, .inl (cI, 24, .inl (fI S0))), (s1, .inl (cI, 24, .inl (fI S1))), (s2, .inl (cI, 24, .inl (fI S2)))] H locs → W p l e (zr 3 0 0) s m args below meth c H locs 0 0 Q (F0 m 7 ls []) := by
    intro N
    induction N with
    | zero => intro i nc x1 x2 x3 x4 hm; exact absurd hm (Nat.not_lt_zero _)
    | succ N ih7 =>
      intro i nc x1 x2 x3 x4 hm7 hi0 hi1 hx1 hx2 hx3 hx4 hL ls H locs hl hW
      refine lv_iload_n C.1 C.2.1 dCl__gather_7 rfl (lv_at hl 0 rfl) ?_
      refine lv_aload_n C.1 C.2.1 dCl__gather_8 rfl (lv_at hl 2 rfl) ?_
      refine zget C hW 5 2 rfl rfl inBx (by decide) flCl__28 rfl dCl__gather_9 ?_
      refine zicmp_ge (tgt := 97) C (by omega) (by omega) dCl__gather_12 (by decide) (fun c12 => ?_) (fun c12 => ?_)
      · exact hQ _ H locs _ _ _ ls hW ⟨nc, x1, x2, x3, x4, hx1, hx2, hx3, hx4, (by rw [show bn = i by omega]; exact hL), rfl⟩ (by omega) (by omega) dCl__gather_97
      · have hBx := hBB i hi0 (by omega)
        have hla := listC_al S0 S1 S2 i hi0
        refine lv_aload_n C.1 C.2.1 dCl__gather_15 rfl (lv_at hl 2 rfl) ?_
        refine zget C hW 5 1 rfl rfl inBx (by decide) flCl__31 rfl dCl__gather_16 ?_
        refine lv_iconst (v := zI 0) C.1 C.2.1 dCl__gather_19 (by decide) ?_
        refine zgald C hW 7 1 (r := s0) rfl rfl rfl (by omega) (by omega) (by decide) rfl dCl__gather_20 ?_
        refine lv_iload_n C.1 C.2.1 dCl__gather_21 rfl (lv_at hl 0 rfl) ?_
        refine ziald C hW 11 0 rfl rfl (by omega) (by omega) (by decide) dCl__gather_22 ?_
        have hb1 := bS0 i
        refine lv_istore_n (lv' := [(3, .int (zI (S0 i))), (2, .int (zI i)), (0, .ref h0), (1, .ref b0)]) C.1 C.2.1 dCl__gather_23 rfl hl (by decide) rfl (fun ls hl => ?_)
        refine lv_aload_n C.1 C.2.1 dCl__gather_24 rfl (lv_at hl 3 rfl) ?_
        refine zget C hW 5 1 rfl rfl inBx (by decide) flCl__31 rfl dCl__gather_25 ?_
        refine lv_iconst (v := zI 1) C.1 C.2.1 dCl__gather_28 (by decide) ?_
        refine zgald C hW 7 1 (r := s1) rfl rfl rfl (by omega) (by omega) (by decide) rfl dCl__gather_29 ?_
        refine lv_iload_n C.1 C.2.1 dCl__gather_30 rfl (lv_at hl 1 rfl) ?_
        refine ziald C hW 12 0 rfl rfl (by omega) (by omega) (by decide) dCl__gather_31 ?_
        have hb2 := bS1 i
        refine lv_istore (lv' := [(4, .int (zI (S1 i))), (3, .int (zI (S0 i))), (2, .int (zI i)), (0, .ref h0), (1, .ref b0)]) C.1 C.2.1 dCl__gather_32 hl (by decide) rfl (fun ls hl => ?_)
        refine lv_aload_n C.1 C.2.1 dCl__gather_34 rfl (lv_at hl 4 rfl) ?_
        refine zget C hW 5 1 rfl rfl inBx (by decide) flCl__31 rfl dCl__gather_35 ?_
        refine lv_iconst (v := zI 2) C.1 C.2.1 dCl__gather_38 (by decide) ?_
        refine zgald C hW 7 1 (r := s2) rfl rfl rfl (by omega) (by omega) (by decide) rfl dCl__gather_39 ?_
        refine lv_iload_n C.1 C.2.1 dCl__gather_40 rfl (lv_at hl 2 rfl) ?_
        refine ziald C hW 13 0 rfl rfl (by omega) (by omega) (by decide) dCl__gather_41 ?_
        have hb3 := bS2 i
        refine lv_istore (lv' := [(5, .int (zI (S2 i))), (4, .int (zI (S1 i))), (3, .int (zI (S0 i))), (2, .int (zI i)), (0, .ref h0), (1, .ref b0)]) C.1 C.2.1 dCl__gather_42 hl (by decide) rfl (fun ls hl => ?_)
        refine lv_iload_n C.1 C.2.1 dCl__gather_44 rfl (lv_at hl 2 rfl) ?_
        refine lv_iload C.1 C.2.1 dCl__gather_45 (lv_at hl 1 rfl) ?_
        refine lv_iload C.1 C.2.1 dCl__gather_47 (lv_at hl 0 rfl) ?_
        refine zmax C kmCl__35 hl.1 (by decide) (Nat.le_of_ble_eq_true rfl) (by first | decide | omega) (by first | decide | omega) (by omega) (by omega) dCl__gather_49 ?_
        refine zmax C kmCl__35 hl.1 (by decide) (Nat.le_of_ble_eq_true rfl) (by first | decide | omega) (by first | decide | omega) (by omega) (by omega) dCl__gather_52 ?_
        refine lv_istore (lv' := [(6, .int (zI (max (S0 i) (max (S1 i) (S2 i))))), (5, .int (zI (S2 i))), (4, .int (zI (S1 i))), (3, .int (zI (S0 i))), (2, .int (zI i)), (0, .ref h0), (1, .ref b0)]) C.1 C.2.1 dCl__gather_55 hl (by decide) rfl (fun ls hl => ?_)
        refine lv_iload_n C.1 C.2.1 dCl__gather_57 rfl (lv_at hl 3 rfl) ?_
        refine lv_iload C.1 C.2.1 dCl__gather_58 (lv_at hl 2 rfl) ?_
        refine lv_iload C.1 C.2.1 dCl__gather_60 (lv_at hl 1 rfl) ?_
        refine zmin C kmCl__41 hl.1 (by decide) (Nat.le_of_ble_eq_true rfl) (by first | decide | omega) (by first | decide | omega) (by omega) (by omega) dCl__gather_62 ?_
        refine zmin C kmCl__41 hl.1 (by decide) (Nat.le_of_ble_eq_true rfl) (by first | decide | omega) (by first | decide | omega) (by omega) (by omega) dCl__gather_65 ?_
        refine lv_istore (lv' := [(7, .int (zI (min (S0 i) (min (S1 i) (S2 i))))), (6, .int (zI (max (S0 i) (max (S1 i) (S2 i))))), (5, .int (zI (S2 i))), (4, .int (zI (S1 i))), (3, .int (zI (S0 i))), (2, .int (zI i)), (0, .ref h0), (1, .ref b0)]) C.1 C.2.1 dCl__gather_68 hl (by decide) rfl (fun ls hl => ?_)
        refine lv_aload_n C.1 C.2.1 dCl__gather_70 rfl (lv_at hl 6 rfl) ?_
        refine lv_iload C.1 C.2.1 dCl__gather_71 (lv_at hl 1 rfl) ?_
        refine lv_iload_n C.1 C.2.1 dCl__gather_73 rfl (lv_at hl 4 rfl) ?_
        refine lv_iload C.1 C.2.1 dCl__gather_74 (lv_at hl 3 rfl) ?_
        refine ziadd C dCl__gather_76 ?_
        refine lv_iload C.1 C.2.1 dCl__gather_77 (lv_at hl 2 rfl) ?_
        refine ziadd C dCl__gather_79 ?_
        refine lv_iload C.1 C.2.1 dCl__gather_80 (lv_at hl 1 rfl) ?_
        refine zisub C dCl__gather_82 ?_
        refine lv_iload C.1 C.2.1 dCl__gather_83 (lv_at hl 0 rfl) ?_
        refine zisub C dCl__gather_85 ?_
        refine lv_iload C.1 C.2.1 dCl__gather_86 (lv_at hl 0 rfl) ?_
        refine zcallv (wr := [(b0, .inr (0, [.ref hp, .ref hs, .int (zI bn)])), (hp, .inl (cG, 3, .inr (.inr (.inr (.inr (g3 p0 p1 p2)))))), (hs, .inl (cG, 3, .inr (.inr (.inr (.inr (g3 s0 s1 s2)))))), (p0, .inl (cI, 24, .inl (fI P0))), (p1, .inl (cI, 24, .inl (fI P1))), (p2, .inl (cI, 24, .inl (fI P2))), (s0, .inl (cI, 24, .inl (fI S0))), (s1, .inl (cI, 24, .inl (fI S1))), (s2, .inl (cI, 24, .inl (fI S2)))]) C hW [0, 1, 2, 3, 4] [5, 6, 7, 8, 9, 10, 11, 12, 13] rfl rfl (by decide) (by decide) (zRunV (k := 3) (As := [.int (zI (max (S0 i) (max (S1 i) (S2 i)))), .int (zI (((((S0 i) + (S1 i)) + (S2 i)) - (max (S0 i) (max (S1 i) (S2 i)))) - (min (S0 i) (min (S1 i) (S2 i))))), .int (zI (min (S0 i) (min (S1 i) (S2 i))))]) (rest := []) C hW (c_CutList_put l D cI cG cL cB h0 a1 a2 a3 a4 nc x1 x2 x3 x4 (max (S0 i) (max (S1 i) (S2 i))) (((((S0 i) + (S1 i)) + (S2 i)) - (max (S0 i) (max (S1 i) (S2 i)))) - (min (S0 i) (min (S1 i) (S2 i)))) (min (S0 i) (min (S1 i) (S2 i))) (listC S0 S1 S2 i) hx1 hx2 hx3 hx4 (by omega) (by omega) (by omega) hL (by omega) (fun z hz => by have := hla.1 z hz; omega) H.size) [0, 1, 2, 3, 4] rfl (by decide) kCl__44 (by decide +kernel) ⟨by decide, by decide⟩ 0 rfl rfl rfl hl.1 (Nat.le_of_ble_eq_true rfl) dCl__gather_88 ⟨by first | decide | omega, by first | decide | omega⟩) (fun w H locs hq hW => ?_)
        obtain ⟨n24, B15, B26, B37, B48, hf9, hf10, hf11, hf12, hf13, rfl⟩ := hq
        have hW : zw D zCl A s [(b0, .inr (0, [.ref hp, .ref hs, .int (zI bn)])), (hp, .inl (cG, 3, .inr (.inr (.inr (.inr (g3 p0 p1 p2)))))), (hs, .inl (cG, 3, .inr (.inr (.inr (.inr (g3 s0 s1 s2)))))), (p0, .inl (cI, 24, .inl (fI P0))), (p1, .inl (cI, 24, .inl (fI P1))), (p2, .inl (cI, 24, .inl (fI P2))), (s0, .inl (cI, 24, .inl (fI S0))), (s1, .inl (cI, 24, .inl (fI S1))), (s2, .inl (cI, 24, .inl (fI S2))), (h0, .inr (1, [.int (zI n24), .ref a1, .ref a2, .ref a3, .ref a4])), (a1, .inl (cI, 24, .inl (fI B15))), (a2, .inl (cI, 24, .inl (fI B26))), (a3, .inl (cI, 24, .inl (fI B37))), (a4, .inl (cI, 24, .inl (fI B48)))] H locs := hW
        refine lv_iinc (v := zI (i + 1)) (lv' := [(2, .int (zI (i + 1))), (7, .int (zI (min (S0 i) (min (S1 i) (S2 i))))), (6, .int (zI (max (S0 i) (max (S1 i) (S2 i))))), (5, .int (zI (S2 i))), (4, .int (zI (S1 i))), (3, .int (zI (S0 i))), (0, .ref h0), (1, .ref b0)]) C.1 C.2.1 dCl__gather_91 hl (k := 5) rfl (zI_add i 1) (by decide) rfl (fun ls hl => ?_)
        refine lv_goto (tgt := 7) C.1 C.2.1 dCl__gather_94 (by decide) ?_
        exact ih7 (i + 1) n24 B15 B26 B37 B48 (by omega) (by omega) (by omega) hf9 hf10 hf11 hf12 (by rw [listC_s _ _ _ hi0]; exact hf13) ls H locs (lv_sub hl [0, 6, 7] rfl) (zwp hW [9, 10, 11, 12, 13, 0, 1, 2, 3, 4, 5, 6, 7, 8] rfl (by decide))
  exact L7 _ 0 0 A1 A2 A3 A4 (Nat.lt_succ_self _) (by omega) (by omega) bA1 bA2 bA3 bA4 ⟨rfl, fun k h => absurd h (Nat.not_lt_zero k)⟩ ls H locs (lv_sub hl [0, 1, 2] rfl) hW
