theorem dX0_init_0 : decode cX0_init 0 = .ok (.aload_n 0, 1) := by decide +kernel
theorem dX0_init_1 : decode cX0_init 1 = .ok (.invokespecial 3, 3) := by decide +kernel
theorem dX0_init_4 : decode cX0_init 4 = .ok (.aload_n 0, 1) := by decide +kernel
theorem dX0_init_5 : decode cX0_init 5 = .ok (.bipush 12, 2) := by decide +kernel
theorem dX0_init_7 : decode cX0_init 7 = .ok (.newarray .int, 2) := by decide +kernel
theorem dX0_init_9 : decode cX0_init 9 = .ok (.putfield 9, 3) := by decide +kernel
theorem dX0_init_12 : decode cX0_init 12 = .ok (.aload_n 0, 1) := by decide +kernel
theorem dX0_init_13 : decode cX0_init 13 = .ok (.bipush 12, 2) := by decide +kernel
theorem dX0_init_15 : decode cX0_init 15 = .ok (.newarray .int, 2) := by decide +kernel
theorem dX0_init_17 : decode cX0_init 17 = .ok (.putfield 15, 3) := by decide +kernel
theorem dX0_init_20 : decode cX0_init 20 = .ok (.aload_n 0, 1) := by decide +kernel
theorem dX0_init_21 : decode cX0_init 21 = .ok (.bipush 12, 2) := by decide +kernel
theorem dX0_init_23 : decode cX0_init 23 = .ok (.newarray .int, 2) := by decide +kernel
theorem dX0_init_25 : decode cX0_init 25 = .ok (.putfield 18, 3) := by decide +kernel
theorem dX0_init_28 : decode cX0_init 28 = .ok (.aload_n 0, 1) := by decide +kernel
theorem dX0_init_29 : decode cX0_init 29 = .ok (.bipush 12, 2) := by decide +kernel
theorem dX0_init_31 : decode cX0_init 31 = .ok (.newarray .int, 2) := by decide +kernel
theorem dX0_init_33 : decode cX0_init 33 = .ok (.putfield 21, 3) := by decide +kernel
theorem dX0_init_36 : decode cX0_init 36 = .ok (.return_, 1) := by decide +kernel
theorem dX0_find_0 : decode cX0_find 0 = .ok (.iconst 0, 1) := by decide +kernel
theorem dX0_find_1 : decode cX0_find 1 = .ok (.istore_n 3, 1) := by decide +kernel
theorem dX0_find_2 : decode cX0_find 2 = .ok (.iload_n 3, 1) := by decide +kernel
theorem dX0_find_3 : decode cX0_find 3 = .ok (.aload_n 0, 1) := by decide +kernel
theorem dX0_find_4 : decode cX0_find 4 = .ok (.getfield 24, 3) := by decide +kernel
theorem dX0_find_7 : decode cX0_find 7 = .ok (.if_icmp .ge 31, 3) := by decide +kernel
theorem dX0_find_10 : decode cX0_find 10 = .ok (.aload_n 0, 1) := by decide +kernel
theorem dX0_find_11 : decode cX0_find 11 = .ok (.getfield 9, 3) := by decide +kernel
theorem dX0_find_14 : decode cX0_find 14 = .ok (.iload_n 3, 1) := by decide +kernel
theorem dX0_find_15 : decode cX0_find 15 = .ok (.iaload, 1) := by decide +kernel
theorem dX0_find_16 : decode cX0_find 16 = .ok (.iload_n 1, 1) := by decide +kernel
theorem dX0_find_17 : decode cX0_find 17 = .ok (.if_icmp .ne 15, 3) := by decide +kernel
theorem dX0_find_20 : decode cX0_find 20 = .ok (.aload_n 0, 1) := by decide +kernel
theorem dX0_find_21 : decode cX0_find 21 = .ok (.getfield 15, 3) := by decide +kernel
theorem dX0_find_24 : decode cX0_find 24 = .ok (.iload_n 3, 1) := by decide +kernel
theorem dX0_find_25 : decode cX0_find 25 = .ok (.iaload, 1) := by decide +kernel
theorem dX0_find_26 : decode cX0_find 26 = .ok (.iload_n 2, 1) := by decide +kernel
theorem dX0_find_27 : decode cX0_find 27 = .ok (.if_icmp .ne 5, 3) := by decide +kernel
theorem dX0_find_30 : decode cX0_find 30 = .ok (.iload_n 3, 1) := by decide +kernel
theorem dX0_find_31 : decode cX0_find 31 = .ok (.ireturn, 1) := by decide +kernel
theorem dX0_find_32 : decode cX0_find 32 = .ok (.iinc 3 1, 3) := by decide +kernel
theorem dX0_find_35 : decode cX0_find 35 = .ok (.goto (-33), 3) := by decide +kernel
theorem dX0_find_38 : decode cX0_find 38 = .ok (.iconst (-1), 1) := by decide +kernel
theorem dX0_find_39 : decode cX0_find 39 = .ok (.ireturn, 1) := by decide +kernel
theorem dX0_at_0 : decode cX0_at 0 = .ok (.iload_n 1, 1) := by decide +kernel
theorem dX0_at_1 : decode cX0_at 1 = .ok (.iconst (-1), 1) := by decide +kernel
theorem dX0_at_2 : decode cX0_at 2 = .ok (.if_icmp .eq 13, 3) := by decide +kernel
theorem dX0_at_5 : decode cX0_at 5 = .ok (.iload_n 2, 1) := by decide +kernel
theorem dX0_at_6 : decode cX0_at 6 = .ok (.aload_n 0, 1) := by decide +kernel
theorem dX0_at_7 : decode cX0_at 7 = .ok (.getfield 18, 3) := by decide +kernel
theorem dX0_at_10 : decode cX0_at 10 = .ok (.iload_n 1, 1) := by decide +kernel
theorem dX0_at_11 : decode cX0_at 11 = .ok (.iaload, 1) := by decide +kernel
theorem dX0_at_12 : decode cX0_at 12 = .ok (.if_icmp .ge 7, 3) := by decide +kernel
theorem dX0_at_15 : decode cX0_at 15 = .ok (.iconst 0, 1) := by decide +kernel
theorem dX0_at_16 : decode cX0_at 16 = .ok (.goto 9, 3) := by decide +kernel
theorem dX0_at_19 : decode cX0_at 19 = .ok (.aload_n 0, 1) := by decide +kernel
theorem dX0_at_20 : decode cX0_at 20 = .ok (.getfield 21, 3) := by decide +kernel
theorem dX0_at_23 : decode cX0_at 23 = .ok (.iload_n 1, 1) := by decide +kernel
theorem dX0_at_24 : decode cX0_at 24 = .ok (.iaload, 1) := by decide +kernel
theorem dX0_at_25 : decode cX0_at 25 = .ok (.ireturn, 1) := by decide +kernel
theorem dX1_init_0 : decode cX1_init 0 = .ok (.aload_n 0, 1) := by decide +kernel
theorem dX1_init_1 : decode cX1_init 1 = .ok (.invokespecial 3, 3) := by decide +kernel
theorem dX1_init_4 : decode cX1_init 4 = .ok (.aload_n 0, 1) := by decide +kernel
theorem dX1_init_5 : decode cX1_init 5 = .ok (.bipush 24, 2) := by decide +kernel
theorem dX1_init_7 : decode cX1_init 7 = .ok (.newarray .int, 2) := by decide +kernel
theorem dX1_init_9 : decode cX1_init 9 = .ok (.putfield 9, 3) := by decide +kernel
theorem dX1_init_12 : decode cX1_init 12 = .ok (.aload_n 0, 1) := by decide +kernel
theorem dX1_init_13 : decode cX1_init 13 = .ok (.bipush 24, 2) := by decide +kernel
theorem dX1_init_15 : decode cX1_init 15 = .ok (.newarray .int, 2) := by decide +kernel
theorem dX1_init_17 : decode cX1_init 17 = .ok (.putfield 15, 3) := by decide +kernel
theorem dX1_init_20 : decode cX1_init 20 = .ok (.aload_n 0, 1) := by decide +kernel
theorem dX1_init_21 : decode cX1_init 21 = .ok (.bipush 24, 2) := by decide +kernel
theorem dX1_init_23 : decode cX1_init 23 = .ok (.newarray .int, 2) := by decide +kernel
theorem dX1_init_25 : decode cX1_init 25 = .ok (.putfield 18, 3) := by decide +kernel
theorem dX1_init_28 : decode cX1_init 28 = .ok (.aload_n 0, 1) := by decide +kernel
theorem dX1_init_29 : decode cX1_init 29 = .ok (.bipush 24, 2) := by decide +kernel
theorem dX1_init_31 : decode cX1_init 31 = .ok (.newarray .int, 2) := by decide +kernel
theorem dX1_init_33 : decode cX1_init 33 = .ok (.putfield 21, 3) := by decide +kernel
theorem dX1_init_36 : decode cX1_init 36 = .ok (.aload_n 0, 1) := by decide +kernel
theorem dX1_init_37 : decode cX1_init 37 = .ok (.bipush 48, 2) := by decide +kernel
theorem dX1_init_39 : decode cX1_init 39 = .ok (.newarray .int, 2) := by decide +kernel
theorem dX1_init_41 : decode cX1_init 41 = .ok (.putfield 24, 3) := by decide +kernel
theorem dX1_init_44 : decode cX1_init 44 = .ok (.aload_n 0, 1) := by decide +kernel
theorem dX1_init_45 : decode cX1_init 45 = .ok (.bipush 48, 2) := by decide +kernel
theorem dX1_init_47 : decode cX1_init 47 = .ok (.newarray .int, 2) := by decide +kernel
theorem dX1_init_49 : decode cX1_init 49 = .ok (.putfield 27, 3) := by decide +kernel
theorem dX1_init_52 : decode cX1_init 52 = .ok (.aload_n 0, 1) := by decide +kernel
theorem dX1_init_53 : decode cX1_init 53 = .ok (.bipush 24, 2) := by decide +kernel
theorem dX1_init_55 : decode cX1_init 55 = .ok (.newarray .int, 2) := by decide +kernel
theorem dX1_init_57 : decode cX1_init 57 = .ok (.putfield 30, 3) := by decide +kernel
theorem dX1_init_60 : decode cX1_init 60 = .ok (.aload_n 0, 1) := by decide +kernel
theorem dX1_init_61 : decode cX1_init 61 = .ok (.bipush 24, 2) := by decide +kernel
theorem dX1_init_63 : decode cX1_init 63 = .ok (.newarray .int, 2) := by decide +kernel
theorem dX1_init_65 : decode cX1_init 65 = .ok (.putfield 33, 3) := by decide +kernel
theorem dX1_init_68 : decode cX1_init 68 = .ok (.aload_n 0, 1) := by decide +kernel
theorem dX1_init_69 : decode cX1_init 69 = .ok (.bipush 24, 2) := by decide +kernel
theorem dX1_init_71 : decode cX1_init 71 = .ok (.newarray .int, 2) := by decide +kernel
theorem dX1_init_73 : decode cX1_init 73 = .ok (.putfield 36, 3) := by decide +kernel
theorem dX1_init_76 : decode cX1_init 76 = .ok (.aload_n 0, 1) := by decide +kernel
theorem dX1_init_77 : decode cX1_init 77 = .ok (.bipush 24, 2) := by decide +kernel
theorem dX1_init_79 : decode cX1_init 79 = .ok (.newarray .int, 2) := by decide +kernel
theorem dX1_init_81 : decode cX1_init 81 = .ok (.putfield 39, 3) := by decide +kernel
theorem dX1_init_84 : decode cX1_init 84 = .ok (.return_, 1) := by decide +kernel
theorem dX1_gather_0 : decode cX1_gather 0 = .ok (.aload_n 0, 1) := by decide +kernel
theorem dX1_gather_1 : decode cX1_gather 1 = .ok (.iconst 0, 1) := by decide +kernel
theorem dX1_gather_2 : decode cX1_gather 2 = .ok (.putfield 42, 3) := by decide +kernel
theorem dX1_gather_5 : decode cX1_gather 5 = .ok (.iconst 0, 1) := by decide +kernel
theorem dX1_gather_6 : decode cX1_gather 6 = .ok (.istore 4, 2) := by decide +kernel
theorem dX1_gather_8 : decode cX1_gather 8 = .ok (.iload 4, 2) := by decide +kernel
theorem dX1_gather_10 : decode cX1_gather 10 = .ok (.aload_n 2, 1) := by decide +kernel
theorem dX1_gather_11 : decode cX1_gather 11 = .ok (.getfield 46, 3) := by decide +kernel
theorem dX1_gather_14 : decode cX1_gather 14 = .ok (.if_icmp .ge 121, 3) := by decide +kernel
theorem dX1_gather_17 : decode cX1_gather 17 = .ok (.aload_n 1, 1) := by decide +kernel
theorem dX1_gather_18 : decode cX1_gather 18 = .ok (.aload_n 2, 1) := by decide +kernel
theorem dX1_gather_19 : decode cX1_gather 19 = .ok (.getfield 49, 3) := by decide +kernel
theorem dX1_gather_22 : decode cX1_gather 22 = .ok (.iload 4, 2) := by decide +kernel
theorem dX1_gather_24 : decode cX1_gather 24 = .ok (.iaload, 1) := by decide +kernel
theorem dX1_gather_25 : decode cX1_gather 25 = .ok (.iload_n 3, 1) := by decide +kernel
theorem dX1_gather_26 : decode cX1_gather 26 = .ok (.invokevirtual 52, 3) := by decide +kernel
theorem dX1_gather_29 : decode cX1_gather 29 = .ok (.ifCond .eq 100, 3) := by decide +kernel
theorem dX1_gather_32 : decode cX1_gather 32 = .ok (.aload_n 2, 1) := by decide +kernel
theorem dX1_gather_33 : decode cX1_gather 33 = .ok (.getfield 58, 3) := by decide +kernel
theorem dX1_gather_36 : decode cX1_gather 36 = .ok (.iload 4, 2) := by decide +kernel
theorem dX1_gather_38 : decode cX1_gather 38 = .ok (.iaload, 1) := by decide +kernel
theorem dX1_gather_39 : decode cX1_gather 39 = .ok (.iconst 1, 1) := by decide +kernel
theorem dX1_gather_40 : decode cX1_gather 40 = .ok (.isub, 1) := by decide +kernel
theorem dX1_gather_41 : decode cX1_gather 41 = .ok (.istore 5, 2) := by decide +kernel
theorem dX1_gather_43 : decode cX1_gather 43 = .ok (.aload_n 0, 1) := by decide +kernel
theorem dX1_gather_44 : decode cX1_gather 44 = .ok (.getfield 9, 3) := by decide +kernel
theorem dX1_gather_47 : decode cX1_gather 47 = .ok (.aload_n 0, 1) := by decide +kernel
theorem dX1_gather_48 : decode cX1_gather 48 = .ok (.getfield 42, 3) := by decide +kernel
theorem dX1_gather_51 : decode cX1_gather 51 = .ok (.aload_n 2, 1) := by decide +kernel
theorem dX1_gather_52 : decode cX1_gather 52 = .ok (.getfield 61, 3) := by decide +kernel
theorem dX1_gather_55 : decode cX1_gather 55 = .ok (.iload 4, 2) := by decide +kernel
theorem dX1_gather_57 : decode cX1_gather 57 = .ok (.aaload, 1) := by decide +kernel
theorem dX1_gather_58 : decode cX1_gather 58 = .ok (.iconst 0, 1) := by decide +kernel
theorem dX1_gather_59 : decode cX1_gather 59 = .ok (.iaload, 1) := by decide +kernel
theorem dX1_gather_60 : decode cX1_gather 60 = .ok (.iastore, 1) := by decide +kernel
theorem dX1_gather_61 : decode cX1_gather 61 = .ok (.aload_n 0, 1) := by decide +kernel
theorem dX1_gather_62 : decode cX1_gather 62 = .ok (.getfield 15, 3) := by decide +kernel
theorem dX1_gather_65 : decode cX1_gather 65 = .ok (.aload_n 0, 1) := by decide +kernel
theorem dX1_gather_66 : decode cX1_gather 66 = .ok (.getfield 42, 3) := by decide +kernel
theorem dX1_gather_69 : decode cX1_gather 69 = .ok (.aload_n 2, 1) := by decide +kernel
theorem dX1_gather_70 : decode cX1_gather 70 = .ok (.getfield 61, 3) := by decide +kernel
theorem dX1_gather_73 : decode cX1_gather 73 = .ok (.iload 4, 2) := by decide +kernel
theorem dX1_gather_75 : decode cX1_gather 75 = .ok (.aaload, 1) := by decide +kernel
theorem dX1_gather_76 : decode cX1_gather 76 = .ok (.iload 5, 2) := by decide +kernel
theorem dX1_gather_78 : decode cX1_gather 78 = .ok (.iaload, 1) := by decide +kernel
theorem dX1_gather_79 : decode cX1_gather 79 = .ok (.iastore, 1) := by decide +kernel
theorem dX1_gather_80 : decode cX1_gather 80 = .ok (.aload_n 0, 1) := by decide +kernel
theorem dX1_gather_81 : decode cX1_gather 81 = .ok (.getfield 18, 3) := by decide +kernel
theorem dX1_gather_84 : decode cX1_gather 84 = .ok (.aload_n 0, 1) := by decide +kernel
theorem dX1_gather_85 : decode cX1_gather 85 = .ok (.getfield 42, 3) := by decide +kernel
theorem dX1_gather_88 : decode cX1_gather 88 = .ok (.aload_n 2, 1) := by decide +kernel
theorem dX1_gather_89 : decode cX1_gather 89 = .ok (.getfield 65, 3) := by decide +kernel
theorem dX1_gather_92 : decode cX1_gather 92 = .ok (.iload 4, 2) := by decide +kernel
theorem dX1_gather_94 : decode cX1_gather 94 = .ok (.aaload, 1) := by decide +kernel
theorem dX1_gather_95 : decode cX1_gather 95 = .ok (.iconst 0, 1) := by decide +kernel
theorem dX1_gather_96 : decode cX1_gather 96 = .ok (.iaload, 1) := by decide +kernel
theorem dX1_gather_97 : decode cX1_gather 97 = .ok (.iastore, 1) := by decide +kernel
theorem dX1_gather_98 : decode cX1_gather 98 = .ok (.aload_n 0, 1) := by decide +kernel
theorem dX1_gather_99 : decode cX1_gather 99 = .ok (.getfield 21, 3) := by decide +kernel
theorem dX1_gather_102 : decode cX1_gather 102 = .ok (.aload_n 0, 1) := by decide +kernel
theorem dX1_gather_103 : decode cX1_gather 103 = .ok (.getfield 42, 3) := by decide +kernel
theorem dX1_gather_106 : decode cX1_gather 106 = .ok (.aload_n 2, 1) := by decide +kernel
theorem dX1_gather_107 : decode cX1_gather 107 = .ok (.getfield 67, 3) := by decide +kernel
theorem dX1_gather_110 : decode cX1_gather 110 = .ok (.iload 4, 2) := by decide +kernel
theorem dX1_gather_112 : decode cX1_gather 112 = .ok (.aaload, 1) := by decide +kernel
theorem dX1_gather_113 : decode cX1_gather 113 = .ok (.iload 5, 2) := by decide +kernel
theorem dX1_gather_115 : decode cX1_gather 115 = .ok (.iaload, 1) := by decide +kernel
theorem dX1_gather_116 : decode cX1_gather 116 = .ok (.iconst 5, 1) := by decide +kernel
theorem dX1_gather_117 : decode cX1_gather 117 = .ok (.iadd, 1) := by decide +kernel
theorem dX1_gather_118 : decode cX1_gather 118 = .ok (.iastore, 1) := by decide +kernel
theorem dX1_gather_119 : decode cX1_gather 119 = .ok (.aload_n 0, 1) := by decide +kernel
theorem dX1_gather_120 : decode cX1_gather 120 = .ok (.dup, 1) := by decide +kernel
theorem dX1_gather_121 : decode cX1_gather 121 = .ok (.getfield 42, 3) := by decide +kernel
theorem dX1_gather_124 : decode cX1_gather 124 = .ok (.iconst 1, 1) := by decide +kernel
theorem dX1_gather_125 : decode cX1_gather 125 = .ok (.iadd, 1) := by decide +kernel
theorem dX1_gather_126 : decode cX1_gather 126 = .ok (.putfield 42, 3) := by decide +kernel
theorem dX1_gather_129 : decode cX1_gather 129 = .ok (.iinc 4 1, 3) := by decide +kernel
theorem dX1_gather_132 : decode cX1_gather 132 = .ok (.goto (-124), 3) := by decide +kernel
theorem dX1_gather_135 : decode cX1_gather 135 = .ok (.return_, 1) := by decide +kernel
theorem dX1_countByTimes_0 : decode cX1_countByTimes 0 = .ok (.iconst 0, 1) := by decide +kernel
theorem dX1_countByTimes_1 : decode cX1_countByTimes 1 = .ok (.istore_n 2, 1) := by decide +kernel
theorem dX1_countByTimes_2 : decode cX1_countByTimes 2 = .ok (.iconst 0, 1) := by decide +kernel
theorem dX1_countByTimes_3 : decode cX1_countByTimes 3 = .ok (.istore_n 3, 1) := by decide +kernel
theorem dX1_countByTimes_4 : decode cX1_countByTimes 4 = .ok (.iload_n 3, 1) := by decide +kernel
theorem dX1_countByTimes_5 : decode cX1_countByTimes 5 = .ok (.iload_n 1, 1) := by decide +kernel
theorem dX1_countByTimes_6 : decode cX1_countByTimes 6 = .ok (.if_icmp .ge 17, 3) := by decide +kernel
theorem dX1_countByTimes_9 : decode cX1_countByTimes 9 = .ok (.iload_n 2, 1) := by decide +kernel
theorem dX1_countByTimes_10 : decode cX1_countByTimes 10 = .ok (.aload_n 0, 1) := by decide +kernel
theorem dX1_countByTimes_11 : decode cX1_countByTimes 11 = .ok (.iload_n 3, 1) := by decide +kernel
theorem dX1_countByTimes_12 : decode cX1_countByTimes 12 = .ok (.invokevirtual 70, 3) := by decide +kernel
theorem dX1_countByTimes_15 : decode cX1_countByTimes 15 = .ok (.iadd, 1) := by decide +kernel
theorem dX1_countByTimes_16 : decode cX1_countByTimes 16 = .ok (.istore_n 2, 1) := by decide +kernel
theorem dX1_countByTimes_17 : decode cX1_countByTimes 17 = .ok (.iinc 3 1, 3) := by decide +kernel
theorem dX1_countByTimes_20 : decode cX1_countByTimes 20 = .ok (.goto (-16), 3) := by decide +kernel
theorem dX1_countByTimes_23 : decode cX1_countByTimes 23 = .ok (.iload_n 2, 1) := by decide +kernel
theorem dX1_countByTimes_24 : decode cX1_countByTimes 24 = .ok (.ireturn, 1) := by decide +kernel
theorem dX1_countAt_0 : decode cX1_countAt 0 = .ok (.iconst 0, 1) := by decide +kernel
theorem dX1_countAt_1 : decode cX1_countAt 1 = .ok (.istore_n 2, 1) := by decide +kernel
theorem dX1_countAt_2 : decode cX1_countAt 2 = .ok (.iconst 0, 1) := by decide +kernel
theorem dX1_countAt_3 : decode cX1_countAt 3 = .ok (.istore_n 3, 1) := by decide +kernel
theorem dX1_countAt_4 : decode cX1_countAt 4 = .ok (.iload_n 3, 1) := by decide +kernel
theorem dX1_countAt_5 : decode cX1_countAt 5 = .ok (.aload_n 0, 1) := by decide +kernel
theorem dX1_countAt_6 : decode cX1_countAt 6 = .ok (.getfield 42, 3) := by decide +kernel
theorem dX1_countAt_9 : decode cX1_countAt 9 = .ok (.if_icmp .ge 65, 3) := by decide +kernel
theorem dX1_countAt_12 : decode cX1_countAt 12 = .ok (.aload_n 0, 1) := by decide +kernel
theorem dX1_countAt_13 : decode cX1_countAt 13 = .ok (.getfield 15, 3) := by decide +kernel
theorem dX1_countAt_16 : decode cX1_countAt 16 = .ok (.iload_n 3, 1) := by decide +kernel
theorem dX1_countAt_17 : decode cX1_countAt 17 = .ok (.iaload, 1) := by decide +kernel
theorem dX1_countAt_18 : decode cX1_countAt 18 = .ok (.iload_n 1, 1) := by decide +kernel
theorem dX1_countAt_19 : decode cX1_countAt 19 = .ok (.if_icmp .ne 20, 3) := by decide +kernel
theorem dX1_countAt_22 : decode cX1_countAt 22 = .ok (.aload_n 0, 1) := by decide +kernel
theorem dX1_countAt_23 : decode cX1_countAt 23 = .ok (.getfield 24, 3) := by decide +kernel
theorem dX1_countAt_26 : decode cX1_countAt 26 = .ok (.iload_n 2, 1) := by decide +kernel
theorem dX1_countAt_27 : decode cX1_countAt 27 = .ok (.iconst 2, 1) := by decide +kernel
theorem dX1_countAt_28 : decode cX1_countAt 28 = .ok (.aload_n 0, 1) := by decide +kernel
theorem dX1_countAt_29 : decode cX1_countAt 29 = .ok (.getfield 21, 3) := by decide +kernel
theorem dX1_countAt_32 : decode cX1_countAt 32 = .ok (.iload_n 3, 1) := by decide +kernel
theorem dX1_countAt_33 : decode cX1_countAt 33 = .ok (.iaload, 1) := by decide +kernel
theorem dX1_countAt_34 : decode cX1_countAt 34 = .ok (.imul, 1) := by decide +kernel
theorem dX1_countAt_35 : decode cX1_countAt 35 = .ok (.iastore, 1) := by decide +kernel
theorem dX1_countAt_36 : decode cX1_countAt 36 = .ok (.iinc 2 1, 3) := by decide +kernel
theorem dX1_countAt_39 : decode cX1_countAt 39 = .ok (.aload_n 0, 1) := by decide +kernel
theorem dX1_countAt_40 : decode cX1_countAt 40 = .ok (.getfield 9, 3) := by decide +kernel
theorem dX1_countAt_43 : decode cX1_countAt 43 = .ok (.iload_n 3, 1) := by decide +kernel
theorem dX1_countAt_44 : decode cX1_countAt 44 = .ok (.iaload, 1) := by decide +kernel
theorem dX1_countAt_45 : decode cX1_countAt 45 = .ok (.iload_n 1, 1) := by decide +kernel
theorem dX1_countAt_46 : decode cX1_countAt 46 = .ok (.if_icmp .ne 22, 3) := by decide +kernel
theorem dX1_countAt_49 : decode cX1_countAt 49 = .ok (.aload_n 0, 1) := by decide +kernel
theorem dX1_countAt_50 : decode cX1_countAt 50 = .ok (.getfield 24, 3) := by decide +kernel
theorem dX1_countAt_53 : decode cX1_countAt 53 = .ok (.iload_n 2, 1) := by decide +kernel
theorem dX1_countAt_54 : decode cX1_countAt 54 = .ok (.iconst 2, 1) := by decide +kernel
theorem dX1_countAt_55 : decode cX1_countAt 55 = .ok (.aload_n 0, 1) := by decide +kernel
theorem dX1_countAt_56 : decode cX1_countAt 56 = .ok (.getfield 18, 3) := by decide +kernel
theorem dX1_countAt_59 : decode cX1_countAt 59 = .ok (.iload_n 3, 1) := by decide +kernel
theorem dX1_countAt_60 : decode cX1_countAt 60 = .ok (.iaload, 1) := by decide +kernel
theorem dX1_countAt_61 : decode cX1_countAt 61 = .ok (.imul, 1) := by decide +kernel
theorem dX1_countAt_62 : decode cX1_countAt 62 = .ok (.iconst 1, 1) := by decide +kernel
theorem dX1_countAt_63 : decode cX1_countAt 63 = .ok (.iadd, 1) := by decide +kernel
theorem dX1_countAt_64 : decode cX1_countAt 64 = .ok (.iastore, 1) := by decide +kernel
theorem dX1_countAt_65 : decode cX1_countAt 65 = .ok (.iinc 2 1, 3) := by decide +kernel
theorem dX1_countAt_68 : decode cX1_countAt 68 = .ok (.iinc 3 1, 3) := by decide +kernel
theorem dX1_countAt_71 : decode cX1_countAt 71 = .ok (.goto (-67), 3) := by decide +kernel
theorem dX1_countAt_74 : decode cX1_countAt 74 = .ok (.aload_n 0, 1) := by decide +kernel
theorem dX1_countAt_75 : decode cX1_countAt 75 = .ok (.getfield 24, 3) := by decide +kernel
theorem dX1_countAt_78 : decode cX1_countAt 78 = .ok (.aload_n 0, 1) := by decide +kernel
theorem dX1_countAt_79 : decode cX1_countAt 79 = .ok (.getfield 27, 3) := by decide +kernel
theorem dX1_countAt_82 : decode cX1_countAt 82 = .ok (.iload_n 2, 1) := by decide +kernel
theorem dX1_countAt_83 : decode cX1_countAt 83 = .ok (.invokestatic 74, 3) := by decide +kernel
theorem dX1_countAt_86 : decode cX1_countAt 86 = .ok (.iconst 0, 1) := by decide +kernel
theorem dX1_countAt_87 : decode cX1_countAt 87 = .ok (.istore_n 3, 1) := by decide +kernel
theorem dX1_countAt_88 : decode cX1_countAt 88 = .ok (.iconst 0, 1) := by decide +kernel
theorem dX1_countAt_89 : decode cX1_countAt 89 = .ok (.istore 4, 2) := by decide +kernel
theorem dX1_countAt_91 : decode cX1_countAt 91 = .ok (.iconst 0, 1) := by decide +kernel
theorem dX1_countAt_92 : decode cX1_countAt 92 = .ok (.istore 5, 2) := by decide +kernel
theorem dX1_countAt_94 : decode cX1_countAt 94 = .ok (.iload 5, 2) := by decide +kernel
theorem dX1_countAt_96 : decode cX1_countAt 96 = .ok (.iload_n 2, 1) := by decide +kernel
theorem dX1_countAt_97 : decode cX1_countAt 97 = .ok (.if_icmp .ge 40, 3) := by decide +kernel
theorem dX1_countAt_100 : decode cX1_countAt 100 = .ok (.aload_n 0, 1) := by decide +kernel
theorem dX1_countAt_101 : decode cX1_countAt 101 = .ok (.getfield 24, 3) := by decide +kernel
theorem dX1_countAt_104 : decode cX1_countAt 104 = .ok (.iload 5, 2) := by decide +kernel
theorem dX1_countAt_106 : decode cX1_countAt 106 = .ok (.iaload, 1) := by decide +kernel
theorem dX1_countAt_107 : decode cX1_countAt 107 = .ok (.iconst 2, 1) := by decide +kernel
theorem dX1_countAt_108 : decode cX1_countAt 108 = .ok (.irem, 1) := by decide +kernel
theorem dX1_countAt_109 : decode cX1_countAt 109 = .ok (.ifCond .ne 9, 3) := by decide +kernel
theorem dX1_countAt_112 : decode cX1_countAt 112 = .ok (.iinc 3 1, 3) := by decide +kernel
theorem dX1_countAt_115 : decode cX1_countAt 115 = .ok (.goto 16, 3) := by decide +kernel
theorem dX1_countAt_118 : decode cX1_countAt 118 = .ok (.iload_n 3, 1) := by decide +kernel
theorem dX1_countAt_119 : decode cX1_countAt 119 = .ok (.ifCond .le 9, 3) := by decide +kernel
theorem dX1_countAt_122 : decode cX1_countAt 122 = .ok (.iinc 3 (-1), 3) := by decide +kernel
theorem dX1_countAt_125 : decode cX1_countAt 125 = .ok (.goto 6, 3) := by decide +kernel
theorem dX1_countAt_128 : decode cX1_countAt 128 = .ok (.iinc 4 1, 3) := by decide +kernel
theorem dX1_countAt_131 : decode cX1_countAt 131 = .ok (.iinc 5 1, 3) := by decide +kernel
theorem dX1_countAt_134 : decode cX1_countAt 134 = .ok (.goto (-40), 3) := by decide +kernel
theorem dX1_countAt_137 : decode cX1_countAt 137 = .ok (.iload 4, 2) := by decide +kernel
theorem dX1_countAt_139 : decode cX1_countAt 139 = .ok (.ireturn, 1) := by decide +kernel
theorem dX1_countByMatching_0 : decode cX1_countByMatching 0 = .ok (.iconst 0, 1) := by decide +kernel
theorem dX1_countByMatching_1 : decode cX1_countByMatching 1 = .ok (.istore_n 1, 1) := by decide +kernel
theorem dX1_countByMatching_2 : decode cX1_countByMatching 2 = .ok (.iload_n 1, 1) := by decide +kernel
theorem dX1_countByMatching_3 : decode cX1_countByMatching 3 = .ok (.aload_n 0, 1) := by decide +kernel
theorem dX1_countByMatching_4 : decode cX1_countByMatching 4 = .ok (.getfield 42, 3) := by decide +kernel
theorem dX1_countByMatching_7 : decode cX1_countByMatching 7 = .ok (.if_icmp .ge 23, 3) := by decide +kernel
theorem dX1_countByMatching_10 : decode cX1_countByMatching 10 = .ok (.aload_n 0, 1) := by decide +kernel
theorem dX1_countByMatching_11 : decode cX1_countByMatching 11 = .ok (.getfield 30, 3) := by decide +kernel
theorem dX1_countByMatching_14 : decode cX1_countByMatching 14 = .ok (.iload_n 1, 1) := by decide +kernel
theorem dX1_countByMatching_15 : decode cX1_countByMatching 15 = .ok (.iconst (-1), 1) := by decide +kernel
theorem dX1_countByMatching_16 : decode cX1_countByMatching 16 = .ok (.iastore, 1) := by decide +kernel
theorem dX1_countByMatching_17 : decode cX1_countByMatching 17 = .ok (.aload_n 0, 1) := by decide +kernel
theorem dX1_countByMatching_18 : decode cX1_countByMatching 18 = .ok (.getfield 33, 3) := by decide +kernel
theorem dX1_countByMatching_21 : decode cX1_countByMatching 21 = .ok (.iload_n 1, 1) := by decide +kernel
theorem dX1_countByMatching_22 : decode cX1_countByMatching 22 = .ok (.iconst (-1), 1) := by decide +kernel
theorem dX1_countByMatching_23 : decode cX1_countByMatching 23 = .ok (.iastore, 1) := by decide +kernel
theorem dX1_countByMatching_24 : decode cX1_countByMatching 24 = .ok (.iinc 1 1, 3) := by decide +kernel
theorem dX1_countByMatching_27 : decode cX1_countByMatching 27 = .ok (.goto (-25), 3) := by decide +kernel
theorem dX1_countByMatching_30 : decode cX1_countByMatching 30 = .ok (.iconst 0, 1) := by decide +kernel
theorem dX1_countByMatching_31 : decode cX1_countByMatching 31 = .ok (.istore_n 1, 1) := by decide +kernel
theorem dX1_countByMatching_32 : decode cX1_countByMatching 32 = .ok (.iconst 0, 1) := by decide +kernel
theorem dX1_countByMatching_33 : decode cX1_countByMatching 33 = .ok (.istore_n 2, 1) := by decide +kernel
theorem dX1_countByMatching_34 : decode cX1_countByMatching 34 = .ok (.iload_n 2, 1) := by decide +kernel
theorem dX1_countByMatching_35 : decode cX1_countByMatching 35 = .ok (.aload_n 0, 1) := by decide +kernel
theorem dX1_countByMatching_36 : decode cX1_countByMatching 36 = .ok (.getfield 42, 3) := by decide +kernel
theorem dX1_countByMatching_39 : decode cX1_countByMatching 39 = .ok (.if_icmp .ge 28, 3) := by decide +kernel
theorem dX1_countByMatching_42 : decode cX1_countByMatching 42 = .ok (.aload_n 0, 1) := by decide +kernel
theorem dX1_countByMatching_43 : decode cX1_countByMatching 43 = .ok (.iload_n 2, 1) := by decide +kernel
theorem dX1_countByMatching_44 : decode cX1_countByMatching 44 = .ok (.invokevirtual 78, 3) := by decide +kernel
theorem dX1_countByMatching_47 : decode cX1_countByMatching 47 = .ok (.istore_n 3, 1) := by decide +kernel
theorem dX1_countByMatching_48 : decode cX1_countByMatching 48 = .ok (.iload_n 3, 1) := by decide +kernel
theorem dX1_countByMatching_49 : decode cX1_countByMatching 49 = .ok (.iconst (-1), 1) := by decide +kernel
theorem dX1_countByMatching_50 : decode cX1_countByMatching 50 = .ok (.if_icmp .eq 11, 3) := by decide +kernel
theorem dX1_countByMatching_53 : decode cX1_countByMatching 53 = .ok (.aload_n 0, 1) := by decide +kernel
theorem dX1_countByMatching_54 : decode cX1_countByMatching 54 = .ok (.iload_n 3, 1) := by decide +kernel
theorem dX1_countByMatching_55 : decode cX1_countByMatching 55 = .ok (.invokevirtual 81, 3) := by decide +kernel
theorem dX1_countByMatching_58 : decode cX1_countByMatching 58 = .ok (.iinc 1 1, 3) := by decide +kernel
theorem dX1_countByMatching_61 : decode cX1_countByMatching 61 = .ok (.iinc 2 1, 3) := by decide +kernel
theorem dX1_countByMatching_64 : decode cX1_countByMatching 64 = .ok (.goto (-30), 3) := by decide +kernel
theorem dX1_countByMatching_67 : decode cX1_countByMatching 67 = .ok (.aload_n 0, 1) := by decide +kernel
theorem dX1_countByMatching_68 : decode cX1_countByMatching 68 = .ok (.getfield 42, 3) := by decide +kernel
theorem dX1_countByMatching_71 : decode cX1_countByMatching 71 = .ok (.iload_n 1, 1) := by decide +kernel
theorem dX1_countByMatching_72 : decode cX1_countByMatching 72 = .ok (.isub, 1) := by decide +kernel
theorem dX1_countByMatching_73 : decode cX1_countByMatching 73 = .ok (.ireturn, 1) := by decide +kernel
theorem dX1_canFollow_0 : decode cX1_canFollow 0 = .ok (.aload_n 0, 1) := by decide +kernel
theorem dX1_canFollow_1 : decode cX1_canFollow 1 = .ok (.getfield 15, 3) := by decide +kernel
theorem dX1_canFollow_4 : decode cX1_canFollow 4 = .ok (.iload_n 1, 1) := by decide +kernel
theorem dX1_canFollow_5 : decode cX1_canFollow 5 = .ok (.iaload, 1) := by decide +kernel
theorem dX1_canFollow_6 : decode cX1_canFollow 6 = .ok (.aload_n 0, 1) := by decide +kernel
theorem dX1_canFollow_7 : decode cX1_canFollow 7 = .ok (.getfield 9, 3) := by decide +kernel
theorem dX1_canFollow_10 : decode cX1_canFollow 10 = .ok (.iload_n 2, 1) := by decide +kernel
theorem dX1_canFollow_11 : decode cX1_canFollow 11 = .ok (.iaload, 1) := by decide +kernel
theorem dX1_canFollow_12 : decode cX1_canFollow 12 = .ok (.if_icmp .ne 22, 3) := by decide +kernel
theorem dX1_canFollow_15 : decode cX1_canFollow 15 = .ok (.aload_n 0, 1) := by decide +kernel
theorem dX1_canFollow_16 : decode cX1_canFollow 16 = .ok (.getfield 21, 3) := by decide +kernel
theorem dX1_canFollow_19 : decode cX1_canFollow 19 = .ok (.iload_n 1, 1) := by decide +kernel
theorem dX1_canFollow_20 : decode cX1_canFollow 20 = .ok (.iaload, 1) := by decide +kernel
theorem dX1_canFollow_21 : decode cX1_canFollow 21 = .ok (.aload_n 0, 1) := by decide +kernel
theorem dX1_canFollow_22 : decode cX1_canFollow 22 = .ok (.getfield 18, 3) := by decide +kernel
theorem dX1_canFollow_25 : decode cX1_canFollow 25 = .ok (.iload_n 2, 1) := by decide +kernel
theorem dX1_canFollow_26 : decode cX1_canFollow 26 = .ok (.iaload, 1) := by decide +kernel
theorem dX1_canFollow_27 : decode cX1_canFollow 27 = .ok (.if_icmp .gt 7, 3) := by decide +kernel
theorem dX1_canFollow_30 : decode cX1_canFollow 30 = .ok (.iconst 1, 1) := by decide +kernel
theorem dX1_canFollow_31 : decode cX1_canFollow 31 = .ok (.goto 4, 3) := by decide +kernel
theorem dX1_canFollow_34 : decode cX1_canFollow 34 = .ok (.iconst 0, 1) := by decide +kernel
theorem dX1_canFollow_35 : decode cX1_canFollow 35 = .ok (.ireturn, 1) := by decide +kernel
theorem dX1_findFree_0 : decode cX1_findFree 0 = .ok (.iconst 0, 1) := by decide +kernel
theorem dX1_findFree_1 : decode cX1_findFree 1 = .ok (.istore_n 2, 1) := by decide +kernel
theorem dX1_findFree_2 : decode cX1_findFree 2 = .ok (.iload_n 2, 1) := by decide +kernel
theorem dX1_findFree_3 : decode cX1_findFree 3 = .ok (.aload_n 0, 1) := by decide +kernel
theorem dX1_findFree_4 : decode cX1_findFree 4 = .ok (.getfield 42, 3) := by decide +kernel
theorem dX1_findFree_7 : decode cX1_findFree 7 = .ok (.if_icmp .ge 16, 3) := by decide +kernel
theorem dX1_findFree_10 : decode cX1_findFree 10 = .ok (.aload_n 0, 1) := by decide +kernel
theorem dX1_findFree_11 : decode cX1_findFree 11 = .ok (.getfield 39, 3) := by decide +kernel
theorem dX1_findFree_14 : decode cX1_findFree 14 = .ok (.iload_n 2, 1) := by decide +kernel
theorem dX1_findFree_15 : decode cX1_findFree 15 = .ok (.iconst (-1), 1) := by decide +kernel
theorem dX1_findFree_16 : decode cX1_findFree 16 = .ok (.iastore, 1) := by decide +kernel
theorem dX1_findFree_17 : decode cX1_findFree 17 = .ok (.iinc 2 1, 3) := by decide +kernel
theorem dX1_findFree_20 : decode cX1_findFree 20 = .ok (.goto (-18), 3) := by decide +kernel
theorem dX1_findFree_23 : decode cX1_findFree 23 = .ok (.aload_n 0, 1) := by decide +kernel
theorem dX1_findFree_24 : decode cX1_findFree 24 = .ok (.getfield 36, 3) := by decide +kernel
theorem dX1_findFree_27 : decode cX1_findFree 27 = .ok (.iconst 0, 1) := by decide +kernel
theorem dX1_findFree_28 : decode cX1_findFree 28 = .ok (.iload_n 1, 1) := by decide +kernel
theorem dX1_findFree_29 : decode cX1_findFree 29 = .ok (.iastore, 1) := by decide +kernel
theorem dX1_findFree_30 : decode cX1_findFree 30 = .ok (.iconst 1, 1) := by decide +kernel
theorem dX1_findFree_31 : decode cX1_findFree 31 = .ok (.istore_n 2, 1) := by decide +kernel
theorem dX1_findFree_32 : decode cX1_findFree 32 = .ok (.iconst 0, 1) := by decide +kernel
theorem dX1_findFree_33 : decode cX1_findFree 33 = .ok (.istore_n 3, 1) := by decide +kernel
theorem dX1_findFree_34 : decode cX1_findFree 34 = .ok (.iload_n 3, 1) := by decide +kernel
theorem dX1_findFree_35 : decode cX1_findFree 35 = .ok (.iload_n 2, 1) := by decide +kernel
theorem dX1_findFree_36 : decode cX1_findFree 36 = .ok (.if_icmp .ge 102, 3) := by decide +kernel
theorem dX1_findFree_39 : decode cX1_findFree 39 = .ok (.iconst 0, 1) := by decide +kernel
theorem dX1_findFree_40 : decode cX1_findFree 40 = .ok (.istore 4, 2) := by decide +kernel
theorem dX1_findFree_42 : decode cX1_findFree 42 = .ok (.iload 4, 2) := by decide +kernel
theorem dX1_findFree_44 : decode cX1_findFree 44 = .ok (.aload_n 0, 1) := by decide +kernel
theorem dX1_findFree_45 : decode cX1_findFree 45 = .ok (.getfield 42, 3) := by decide +kernel
theorem dX1_findFree_48 : decode cX1_findFree 48 = .ok (.if_icmp .ge 84, 3) := by decide +kernel
theorem dX1_findFree_51 : decode cX1_findFree 51 = .ok (.aload_n 0, 1) := by decide +kernel
theorem dX1_findFree_52 : decode cX1_findFree 52 = .ok (.getfield 39, 3) := by decide +kernel
theorem dX1_findFree_55 : decode cX1_findFree 55 = .ok (.iload 4, 2) := by decide +kernel
theorem dX1_findFree_57 : decode cX1_findFree 57 = .ok (.iaload, 1) := by decide +kernel
theorem dX1_findFree_58 : decode cX1_findFree 58 = .ok (.iconst (-1), 1) := by decide +kernel
theorem dX1_findFree_59 : decode cX1_findFree 59 = .ok (.if_icmp .ne 67, 3) := by decide +kernel
theorem dX1_findFree_62 : decode cX1_findFree 62 = .ok (.aload_n 0, 1) := by decide +kernel
theorem dX1_findFree_63 : decode cX1_findFree 63 = .ok (.aload_n 0, 1) := by decide +kernel
theorem dX1_findFree_64 : decode cX1_findFree 64 = .ok (.getfield 36, 3) := by decide +kernel
theorem dX1_findFree_67 : decode cX1_findFree 67 = .ok (.iload_n 3, 1) := by decide +kernel
theorem dX1_findFree_68 : decode cX1_findFree 68 = .ok (.iaload, 1) := by decide +kernel
theorem dX1_findFree_69 : decode cX1_findFree 69 = .ok (.iload 4, 2) := by decide +kernel
theorem dX1_findFree_71 : decode cX1_findFree 71 = .ok (.invokevirtual 85, 3) := by decide +kernel
theorem dX1_findFree_74 : decode cX1_findFree 74 = .ok (.ifCond .eq 52, 3) := by decide +kernel
theorem dX1_findFree_77 : decode cX1_findFree 77 = .ok (.aload_n 0, 1) := by decide +kernel
theorem dX1_findFree_78 : decode cX1_findFree 78 = .ok (.getfield 39, 3) := by decide +kernel
theorem dX1_findFree_81 : decode cX1_findFree 81 = .ok (.iload 4, 2) := by decide +kernel
theorem dX1_findFree_83 : decode cX1_findFree 83 = .ok (.aload_n 0, 1) := by decide +kernel
theorem dX1_findFree_84 : decode cX1_findFree 84 = .ok (.getfield 36, 3) := by decide +kernel
theorem dX1_findFree_87 : decode cX1_findFree 87 = .ok (.iload_n 3, 1) := by decide +kernel
theorem dX1_findFree_88 : decode cX1_findFree 88 = .ok (.iaload, 1) := by decide +kernel
theorem dX1_findFree_89 : decode cX1_findFree 89 = .ok (.iastore, 1) := by decide +kernel
theorem dX1_findFree_90 : decode cX1_findFree 90 = .ok (.aload_n 0, 1) := by decide +kernel
theorem dX1_findFree_91 : decode cX1_findFree 91 = .ok (.getfield 33, 3) := by decide +kernel
theorem dX1_findFree_94 : decode cX1_findFree 94 = .ok (.iload 4, 2) := by decide +kernel
theorem dX1_findFree_96 : decode cX1_findFree 96 = .ok (.iaload, 1) := by decide +kernel
theorem dX1_findFree_97 : decode cX1_findFree 97 = .ok (.iconst (-1), 1) := by decide +kernel
theorem dX1_findFree_98 : decode cX1_findFree 98 = .ok (.if_icmp .ne 6, 3) := by decide +kernel
theorem dX1_findFree_101 : decode cX1_findFree 101 = .ok (.iload 4, 2) := by decide +kernel
theorem dX1_findFree_103 : decode cX1_findFree 103 = .ok (.ireturn, 1) := by decide +kernel
theorem dX1_findFree_104 : decode cX1_findFree 104 = .ok (.iload_n 2, 1) := by decide +kernel
theorem dX1_findFree_105 : decode cX1_findFree 105 = .ok (.bipush 24, 2) := by decide +kernel
theorem dX1_findFree_107 : decode cX1_findFree 107 = .ok (.if_icmp .ge 19, 3) := by decide +kernel
theorem dX1_findFree_110 : decode cX1_findFree 110 = .ok (.aload_n 0, 1) := by decide +kernel
theorem dX1_findFree_111 : decode cX1_findFree 111 = .ok (.getfield 36, 3) := by decide +kernel
theorem dX1_findFree_114 : decode cX1_findFree 114 = .ok (.iload_n 2, 1) := by decide +kernel
theorem dX1_findFree_115 : decode cX1_findFree 115 = .ok (.aload_n 0, 1) := by decide +kernel
theorem dX1_findFree_116 : decode cX1_findFree 116 = .ok (.getfield 33, 3) := by decide +kernel
theorem dX1_findFree_119 : decode cX1_findFree 119 = .ok (.iload 4, 2) := by decide +kernel
theorem dX1_findFree_121 : decode cX1_findFree 121 = .ok (.iaload, 1) := by decide +kernel
theorem dX1_findFree_122 : decode cX1_findFree 122 = .ok (.iastore, 1) := by decide +kernel
theorem dX1_findFree_123 : decode cX1_findFree 123 = .ok (.iinc 2 1, 3) := by decide +kernel
theorem dX1_findFree_126 : decode cX1_findFree 126 = .ok (.iinc 4 1, 3) := by decide +kernel
theorem dX1_findFree_129 : decode cX1_findFree 129 = .ok (.goto (-87), 3) := by decide +kernel
theorem dX1_findFree_132 : decode cX1_findFree 132 = .ok (.iinc 3 1, 3) := by decide +kernel
theorem dX1_findFree_135 : decode cX1_findFree 135 = .ok (.goto (-101), 3) := by decide +kernel
theorem dX1_findFree_138 : decode cX1_findFree 138 = .ok (.iconst (-1), 1) := by decide +kernel
theorem dX1_findFree_139 : decode cX1_findFree 139 = .ok (.ireturn, 1) := by decide +kernel
theorem dX1_matchBack_0 : decode cX1_matchBack 0 = .ok (.iload_n 1, 1) := by decide +kernel
theorem dX1_matchBack_1 : decode cX1_matchBack 1 = .ok (.istore_n 2, 1) := by decide +kernel
theorem dX1_matchBack_2 : decode cX1_matchBack 2 = .ok (.iconst 0, 1) := by decide +kernel
theorem dX1_matchBack_3 : decode cX1_matchBack 3 = .ok (.istore_n 3, 1) := by decide +kernel
theorem dX1_matchBack_4 : decode cX1_matchBack 4 = .ok (.iload_n 3, 1) := by decide +kernel
theorem dX1_matchBack_5 : decode cX1_matchBack 5 = .ok (.aload_n 0, 1) := by decide +kernel
theorem dX1_matchBack_6 : decode cX1_matchBack 6 = .ok (.getfield 42, 3) := by decide +kernel
theorem dX1_matchBack_9 : decode cX1_matchBack 9 = .ok (.if_icmp .ge 60, 3) := by decide +kernel
theorem dX1_matchBack_12 : decode cX1_matchBack 12 = .ok (.iload_n 2, 1) := by decide +kernel
theorem dX1_matchBack_13 : decode cX1_matchBack 13 = .ok (.iconst (-1), 1) := by decide +kernel
theorem dX1_matchBack_14 : decode cX1_matchBack 14 = .ok (.if_icmp .eq 55, 3) := by decide +kernel
theorem dX1_matchBack_17 : decode cX1_matchBack 17 = .ok (.aload_n 0, 1) := by decide +kernel
theorem dX1_matchBack_18 : decode cX1_matchBack 18 = .ok (.getfield 39, 3) := by decide +kernel
theorem dX1_matchBack_21 : decode cX1_matchBack 21 = .ok (.iload_n 2, 1) := by decide +kernel
theorem dX1_matchBack_22 : decode cX1_matchBack 22 = .ok (.iaload, 1) := by decide +kernel
theorem dX1_matchBack_23 : decode cX1_matchBack 23 = .ok (.iconst (-1), 1) := by decide +kernel
theorem dX1_matchBack_24 : decode cX1_matchBack 24 = .ok (.if_icmp .eq 45, 3) := by decide +kernel
theorem dX1_matchBack_27 : decode cX1_matchBack 27 = .ok (.aload_n 0, 1) := by decide +kernel
theorem dX1_matchBack_28 : decode cX1_matchBack 28 = .ok (.getfield 39, 3) := by decide +kernel
theorem dX1_matchBack_31 : decode cX1_matchBack 31 = .ok (.iload_n 2, 1) := by decide +kernel
theorem dX1_matchBack_32 : decode cX1_matchBack 32 = .ok (.iaload, 1) := by decide +kernel
theorem dX1_matchBack_33 : decode cX1_matchBack 33 = .ok (.istore 4, 2) := by decide +kernel
theorem dX1_matchBack_35 : decode cX1_matchBack 35 = .ok (.aload_n 0, 1) := by decide +kernel
theorem dX1_matchBack_36 : decode cX1_matchBack 36 = .ok (.getfield 30, 3) := by decide +kernel
theorem dX1_matchBack_39 : decode cX1_matchBack 39 = .ok (.iload 4, 2) := by decide +kernel
theorem dX1_matchBack_41 : decode cX1_matchBack 41 = .ok (.iaload, 1) := by decide +kernel
theorem dX1_matchBack_42 : decode cX1_matchBack 42 = .ok (.istore 5, 2) := by decide +kernel
theorem dX1_matchBack_44 : decode cX1_matchBack 44 = .ok (.aload_n 0, 1) := by decide +kernel
theorem dX1_matchBack_45 : decode cX1_matchBack 45 = .ok (.getfield 30, 3) := by decide +kernel
theorem dX1_matchBack_48 : decode cX1_matchBack 48 = .ok (.iload 4, 2) := by decide +kernel
theorem dX1_matchBack_50 : decode cX1_matchBack 50 = .ok (.iload_n 2, 1) := by decide +kernel
theorem dX1_matchBack_51 : decode cX1_matchBack 51 = .ok (.iastore, 1) := by decide +kernel
theorem dX1_matchBack_52 : decode cX1_matchBack 52 = .ok (.aload_n 0, 1) := by decide +kernel
theorem dX1_matchBack_53 : decode cX1_matchBack 53 = .ok (.getfield 33, 3) := by decide +kernel
theorem dX1_matchBack_56 : decode cX1_matchBack 56 = .ok (.iload_n 2, 1) := by decide +kernel
theorem dX1_matchBack_57 : decode cX1_matchBack 57 = .ok (.iload 4, 2) := by decide +kernel
theorem dX1_matchBack_59 : decode cX1_matchBack 59 = .ok (.iastore, 1) := by decide +kernel
theorem dX1_matchBack_60 : decode cX1_matchBack 60 = .ok (.iload 5, 2) := by decide +kernel
theorem dX1_matchBack_62 : decode cX1_matchBack 62 = .ok (.istore_n 2, 1) := by decide +kernel
theorem dX1_matchBack_63 : decode cX1_matchBack 63 = .ok (.iinc 3 1, 3) := by decide +kernel
theorem dX1_matchBack_66 : decode cX1_matchBack 66 = .ok (.goto (-62), 3) := by decide +kernel
theorem dX1_matchBack_69 : decode cX1_matchBack 69 = .ok (.return_, 1) := by decide +kernel
theorem dX2_init_0 : decode cX2_init 0 = .ok (.aload_n 0, 1) := by decide +kernel
theorem dX2_init_1 : decode cX2_init 1 = .ok (.invokespecial 3, 3) := by decide +kernel
theorem dX2_init_4 : decode cX2_init 4 = .ok (.aload_n 0, 1) := by decide +kernel
theorem dX2_init_5 : decode cX2_init 5 = .ok (.bipush 12, 2) := by decide +kernel
theorem dX2_init_7 : decode cX2_init 7 = .ok (.newarray .int, 2) := by decide +kernel
theorem dX2_init_9 : decode cX2_init 9 = .ok (.putfield 9, 3) := by decide +kernel
theorem dX2_init_12 : decode cX2_init 12 = .ok (.aload_n 0, 1) := by decide +kernel
theorem dX2_init_13 : decode cX2_init 13 = .ok (.bipush 12, 2) := by decide +kernel
theorem dX2_init_15 : decode cX2_init 15 = .ok (.newarray .int, 2) := by decide +kernel
theorem dX2_init_17 : decode cX2_init 17 = .ok (.putfield 15, 3) := by decide +kernel
theorem dX2_init_20 : decode cX2_init 20 = .ok (.aload_n 0, 1) := by decide +kernel
theorem dX2_init_21 : decode cX2_init 21 = .ok (.aload_n 1, 1) := by decide +kernel
theorem dX2_init_22 : decode cX2_init 22 = .ok (.putfield 18, 3) := by decide +kernel
theorem dX2_init_25 : decode cX2_init 25 = .ok (.return_, 1) := by decide +kernel
theorem dX2_clear_0 : decode cX2_clear 0 = .ok (.iconst 0, 1) := by decide +kernel
theorem dX2_clear_1 : decode cX2_clear 1 = .ok (.istore_n 1, 1) := by decide +kernel
theorem dX2_clear_2 : decode cX2_clear 2 = .ok (.iload_n 1, 1) := by decide +kernel
theorem dX2_clear_3 : decode cX2_clear 3 = .ok (.aload_n 0, 1) := by decide +kernel
theorem dX2_clear_4 : decode cX2_clear 4 = .ok (.getfield 18, 3) := by decide +kernel
theorem dX2_clear_7 : decode cX2_clear 7 = .ok (.getfield 22, 3) := by decide +kernel
theorem dX2_clear_10 : decode cX2_clear 10 = .ok (.if_icmp .ge 25, 3) := by decide +kernel
theorem dX2_clear_13 : decode cX2_clear 13 = .ok (.aload_n 0, 1) := by decide +kernel
theorem dX2_clear_14 : decode cX2_clear 14 = .ok (.getfield 9, 3) := by decide +kernel
theorem dX2_clear_17 : decode cX2_clear 17 = .ok (.iload_n 1, 1) := by decide +kernel
theorem dX2_clear_18 : decode cX2_clear 18 = .ok (.ldc 28, 2) := by decide +kernel
theorem dX2_clear_20 : decode cX2_clear 20 = .ok (.iastore, 1) := by decide +kernel
theorem dX2_clear_21 : decode cX2_clear 21 = .ok (.aload_n 0, 1) := by decide +kernel
theorem dX2_clear_22 : decode cX2_clear 22 = .ok (.getfield 15, 3) := by decide +kernel
theorem dX2_clear_25 : decode cX2_clear 25 = .ok (.iload_n 1, 1) := by decide +kernel
theorem dX2_clear_26 : decode cX2_clear 26 = .ok (.ldc 28, 2) := by decide +kernel
theorem dX2_clear_28 : decode cX2_clear 28 = .ok (.iastore, 1) := by decide +kernel
theorem dX2_clear_29 : decode cX2_clear 29 = .ok (.iinc 1 1, 3) := by decide +kernel
theorem dX2_clear_32 : decode cX2_clear 32 = .ok (.goto (-30), 3) := by decide +kernel
theorem dX2_clear_35 : decode cX2_clear 35 = .ok (.return_, 1) := by decide +kernel
theorem dX2_copy_0 : decode cX2_copy 0 = .ok (.iconst 0, 1) := by decide +kernel
theorem dX2_copy_1 : decode cX2_copy 1 = .ok (.istore_n 2, 1) := by decide +kernel
theorem dX2_copy_2 : decode cX2_copy 2 = .ok (.iload_n 2, 1) := by decide +kernel
theorem dX2_copy_3 : decode cX2_copy 3 = .ok (.aload_n 0, 1) := by decide +kernel
theorem dX2_copy_4 : decode cX2_copy 4 = .ok (.getfield 18, 3) := by decide +kernel
theorem dX2_copy_7 : decode cX2_copy 7 = .ok (.getfield 22, 3) := by decide +kernel
theorem dX2_copy_10 : decode cX2_copy 10 = .ok (.if_icmp .ge 33, 3) := by decide +kernel
theorem dX2_copy_13 : decode cX2_copy 13 = .ok (.aload_n 0, 1) := by decide +kernel
theorem dX2_copy_14 : decode cX2_copy 14 = .ok (.getfield 9, 3) := by decide +kernel
theorem dX2_copy_17 : decode cX2_copy 17 = .ok (.iload_n 2, 1) := by decide +kernel
theorem dX2_copy_18 : decode cX2_copy 18 = .ok (.aload_n 1, 1) := by decide +kernel
theorem dX2_copy_19 : decode cX2_copy 19 = .ok (.getfield 9, 3) := by decide +kernel
theorem dX2_copy_22 : decode cX2_copy 22 = .ok (.iload_n 2, 1) := by decide +kernel
theorem dX2_copy_23 : decode cX2_copy 23 = .ok (.iaload, 1) := by decide +kernel
theorem dX2_copy_24 : decode cX2_copy 24 = .ok (.iastore, 1) := by decide +kernel
theorem dX2_copy_25 : decode cX2_copy 25 = .ok (.aload_n 0, 1) := by decide +kernel
theorem dX2_copy_26 : decode cX2_copy 26 = .ok (.getfield 15, 3) := by decide +kernel
theorem dX2_copy_29 : decode cX2_copy 29 = .ok (.iload_n 2, 1) := by decide +kernel
theorem dX2_copy_30 : decode cX2_copy 30 = .ok (.aload_n 1, 1) := by decide +kernel
theorem dX2_copy_31 : decode cX2_copy 31 = .ok (.getfield 15, 3) := by decide +kernel
theorem dX2_copy_34 : decode cX2_copy 34 = .ok (.iload_n 2, 1) := by decide +kernel
theorem dX2_copy_35 : decode cX2_copy 35 = .ok (.iaload, 1) := by decide +kernel
theorem dX2_copy_36 : decode cX2_copy 36 = .ok (.iastore, 1) := by decide +kernel
theorem dX2_copy_37 : decode cX2_copy 37 = .ok (.iinc 2 1, 3) := by decide +kernel
theorem dX2_copy_40 : decode cX2_copy 40 = .ok (.goto (-38), 3) := by decide +kernel
theorem dX2_copy_43 : decode cX2_copy 43 = .ok (.return_, 1) := by decide +kernel
theorem dX2_begin_0 : decode cX2_begin 0 = .ok (.aload_n 0, 1) := by decide +kernel
theorem dX2_begin_1 : decode cX2_begin 1 = .ok (.invokevirtual 29, 3) := by decide +kernel
theorem dX2_begin_4 : decode cX2_begin 4 = .ok (.aload_n 0, 1) := by decide +kernel
theorem dX2_begin_5 : decode cX2_begin 5 = .ok (.getfield 15, 3) := by decide +kernel
theorem dX2_begin_8 : decode cX2_begin 8 = .ok (.iload_n 1, 1) := by decide +kernel
theorem dX2_begin_9 : decode cX2_begin 9 = .ok (.iload_n 2, 1) := by decide +kernel
theorem dX2_begin_10 : decode cX2_begin 10 = .ok (.iastore, 1) := by decide +kernel
theorem dX2_begin_11 : decode cX2_begin 11 = .ok (.aload_n 0, 1) := by decide +kernel
theorem dX2_begin_12 : decode cX2_begin 12 = .ok (.iload_n 1, 1) := by decide +kernel
theorem dX2_begin_13 : decode cX2_begin 13 = .ok (.iload_n 2, 1) := by decide +kernel
theorem dX2_begin_14 : decode cX2_begin 14 = .ok (.invokevirtual 32, 3) := by decide +kernel
theorem dX2_begin_17 : decode cX2_begin 17 = .ok (.return_, 1) := by decide +kernel
theorem dX2_canGetOn_0 : decode cX2_canGetOn 0 = .ok (.iload_n 2, 1) := by decide +kernel
theorem dX2_canGetOn_1 : decode cX2_canGetOn 1 = .ok (.ifCond .lt 37, 3) := by decide +kernel
theorem dX2_canGetOn_4 : decode cX2_canGetOn 4 = .ok (.aload_n 0, 1) := by decide +kernel
theorem dX2_canGetOn_5 : decode cX2_canGetOn 5 = .ok (.getfield 15, 3) := by decide +kernel
theorem dX2_canGetOn_8 : decode cX2_canGetOn 8 = .ok (.iload_n 1, 1) := by decide +kernel
theorem dX2_canGetOn_9 : decode cX2_canGetOn 9 = .ok (.iaload, 1) := by decide +kernel
theorem dX2_canGetOn_10 : decode cX2_canGetOn 10 = .ok (.iload_n 2, 1) := by decide +kernel
theorem dX2_canGetOn_11 : decode cX2_canGetOn 11 = .ok (.if_icmp .le 23, 3) := by decide +kernel
theorem dX2_canGetOn_14 : decode cX2_canGetOn 14 = .ok (.aload_n 0, 1) := by decide +kernel
theorem dX2_canGetOn_15 : decode cX2_canGetOn 15 = .ok (.getfield 9, 3) := by decide +kernel
theorem dX2_canGetOn_18 : decode cX2_canGetOn 18 = .ok (.iload_n 1, 1) := by decide +kernel
theorem dX2_canGetOn_19 : decode cX2_canGetOn 19 = .ok (.iaload, 1) := by decide +kernel
theorem dX2_canGetOn_20 : decode cX2_canGetOn 20 = .ok (.aload_n 0, 1) := by decide +kernel
theorem dX2_canGetOn_21 : decode cX2_canGetOn 21 = .ok (.getfield 18, 3) := by decide +kernel
theorem dX2_canGetOn_24 : decode cX2_canGetOn 24 = .ok (.getfield 36, 3) := by decide +kernel
theorem dX2_canGetOn_27 : decode cX2_canGetOn 27 = .ok (.iload_n 1, 1) := by decide +kernel
theorem dX2_canGetOn_28 : decode cX2_canGetOn 28 = .ok (.iaload, 1) := by decide +kernel
theorem dX2_canGetOn_29 : decode cX2_canGetOn 29 = .ok (.iadd, 1) := by decide +kernel
theorem dX2_canGetOn_30 : decode cX2_canGetOn 30 = .ok (.iload_n 2, 1) := by decide +kernel
theorem dX2_canGetOn_31 : decode cX2_canGetOn 31 = .ok (.if_icmp .gt 7, 3) := by decide +kernel
theorem dX2_canGetOn_34 : decode cX2_canGetOn 34 = .ok (.iconst 1, 1) := by decide +kernel
theorem dX2_canGetOn_35 : decode cX2_canGetOn 35 = .ok (.goto 4, 3) := by decide +kernel
theorem dX2_canGetOn_38 : decode cX2_canGetOn 38 = .ok (.iconst 0, 1) := by decide +kernel
theorem dX2_canGetOn_39 : decode cX2_canGetOn 39 = .ok (.ireturn, 1) := by decide +kernel
theorem dX2_getOff_0 : decode cX2_getOff 0 = .ok (.iload_n 1, 1) := by decide +kernel
theorem dX2_getOff_1 : decode cX2_getOff 1 = .ok (.aload_n 0, 1) := by decide +kernel
theorem dX2_getOff_2 : decode cX2_getOff 2 = .ok (.getfield 18, 3) := by decide +kernel
theorem dX2_getOff_5 : decode cX2_getOff 5 = .ok (.getfield 39, 3) := by decide +kernel
theorem dX2_getOff_8 : decode cX2_getOff 8 = .ok (.if_icmp .eq 13, 3) := by decide +kernel
theorem dX2_getOff_11 : decode cX2_getOff 11 = .ok (.iload_n 2, 1) := by decide +kernel
theorem dX2_getOff_12 : decode cX2_getOff 12 = .ok (.aload_n 0, 1) := by decide +kernel
theorem dX2_getOff_13 : decode cX2_getOff 13 = .ok (.getfield 9, 3) := by decide +kernel
theorem dX2_getOff_16 : decode cX2_getOff 16 = .ok (.iload_n 1, 1) := by decide +kernel
theorem dX2_getOff_17 : decode cX2_getOff 17 = .ok (.iaload, 1) := by decide +kernel
theorem dX2_getOff_18 : decode cX2_getOff 18 = .ok (.if_icmp .lt 5, 3) := by decide +kernel
theorem dX2_getOff_21 : decode cX2_getOff 21 = .ok (.iconst 0, 1) := by decide +kernel
theorem dX2_getOff_22 : decode cX2_getOff 22 = .ok (.ireturn, 1) := by decide +kernel
theorem dX2_getOff_23 : decode cX2_getOff 23 = .ok (.aload_n 0, 1) := by decide +kernel
theorem dX2_getOff_24 : decode cX2_getOff 24 = .ok (.getfield 9, 3) := by decide +kernel
theorem dX2_getOff_27 : decode cX2_getOff 27 = .ok (.iload_n 1, 1) := by decide +kernel
theorem dX2_getOff_28 : decode cX2_getOff 28 = .ok (.iload_n 2, 1) := by decide +kernel
theorem dX2_getOff_29 : decode cX2_getOff 29 = .ok (.iastore, 1) := by decide +kernel
theorem dX2_getOff_30 : decode cX2_getOff 30 = .ok (.aload_n 0, 1) := by decide +kernel
theorem dX2_getOff_31 : decode cX2_getOff 31 = .ok (.iload_n 1, 1) := by decide +kernel
theorem dX2_getOff_32 : decode cX2_getOff 32 = .ok (.iload_n 2, 1) := by decide +kernel
theorem dX2_getOff_33 : decode cX2_getOff 33 = .ok (.invokevirtual 32, 3) := by decide +kernel
theorem dX2_getOff_36 : decode cX2_getOff 36 = .ok (.iconst 1, 1) := by decide +kernel
theorem dX2_getOff_37 : decode cX2_getOff 37 = .ok (.ireturn, 1) := by decide +kernel
theorem dX2_walkOn_0 : decode cX2_walkOn 0 = .ok (.iconst 0, 1) := by decide +kernel
theorem dX2_walkOn_1 : decode cX2_walkOn 1 = .ok (.istore_n 3, 1) := by decide +kernel
theorem dX2_walkOn_2 : decode cX2_walkOn 2 = .ok (.iload_n 3, 1) := by decide +kernel
theorem dX2_walkOn_3 : decode cX2_walkOn 3 = .ok (.aload_n 0, 1) := by decide +kernel
theorem dX2_walkOn_4 : decode cX2_walkOn 4 = .ok (.getfield 18, 3) := by decide +kernel
theorem dX2_walkOn_7 : decode cX2_walkOn 7 = .ok (.getfield 22, 3) := by decide +kernel
theorem dX2_walkOn_10 : decode cX2_walkOn 10 = .ok (.if_icmp .ge 43, 3) := by decide +kernel
theorem dX2_walkOn_13 : decode cX2_walkOn 13 = .ok (.iload_n 2, 1) := by decide +kernel
theorem dX2_walkOn_14 : decode cX2_walkOn 14 = .ok (.aload_n 0, 1) := by decide +kernel
theorem dX2_walkOn_15 : decode cX2_walkOn 15 = .ok (.getfield 18, 3) := by decide +kernel
theorem dX2_walkOn_18 : decode cX2_walkOn 18 = .ok (.getfield 42, 3) := by decide +kernel
theorem dX2_walkOn_21 : decode cX2_walkOn 21 = .ok (.iload_n 1, 1) := by decide +kernel
theorem dX2_walkOn_22 : decode cX2_walkOn 22 = .ok (.aaload, 1) := by decide +kernel
theorem dX2_walkOn_23 : decode cX2_walkOn 23 = .ok (.iload_n 3, 1) := by decide +kernel
theorem dX2_walkOn_24 : decode cX2_walkOn 24 = .ok (.iaload, 1) := by decide +kernel
theorem dX2_walkOn_25 : decode cX2_walkOn 25 = .ok (.iadd, 1) := by decide +kernel
theorem dX2_walkOn_26 : decode cX2_walkOn 26 = .ok (.istore 4, 2) := by decide +kernel
theorem dX2_walkOn_28 : decode cX2_walkOn 28 = .ok (.iload 4, 2) := by decide +kernel
theorem dX2_walkOn_30 : decode cX2_walkOn 30 = .ok (.aload_n 0, 1) := by decide +kernel
theorem dX2_walkOn_31 : decode cX2_walkOn 31 = .ok (.getfield 15, 3) := by decide +kernel
theorem dX2_walkOn_34 : decode cX2_walkOn 34 = .ok (.iload_n 3, 1) := by decide +kernel
theorem dX2_walkOn_35 : decode cX2_walkOn 35 = .ok (.iaload, 1) := by decide +kernel
theorem dX2_walkOn_36 : decode cX2_walkOn 36 = .ok (.if_icmp .ge 11, 3) := by decide +kernel
theorem dX2_walkOn_39 : decode cX2_walkOn 39 = .ok (.aload_n 0, 1) := by decide +kernel
theorem dX2_walkOn_40 : decode cX2_walkOn 40 = .ok (.getfield 15, 3) := by decide +kernel
theorem dX2_walkOn_43 : decode cX2_walkOn 43 = .ok (.iload_n 3, 1) := by decide +kernel
theorem dX2_walkOn_44 : decode cX2_walkOn 44 = .ok (.iload 4, 2) := by decide +kernel
theorem dX2_walkOn_46 : decode cX2_walkOn 46 = .ok (.iastore, 1) := by decide +kernel
theorem dX2_walkOn_47 : decode cX2_walkOn 47 = .ok (.iinc 3 1, 3) := by decide +kernel
theorem dX2_walkOn_50 : decode cX2_walkOn 50 = .ok (.goto (-48), 3) := by decide +kernel
theorem dX2_walkOn_53 : decode cX2_walkOn 53 = .ok (.return_, 1) := by decide +kernel
theorem dX2_at_0 : decode cX2_at 0 = .ok (.aload_n 0, 1) := by decide +kernel
theorem dX2_at_1 : decode cX2_at 1 = .ok (.getfield 9, 3) := by decide +kernel
theorem dX2_at_4 : decode cX2_at 4 = .ok (.iload_n 1, 1) := by decide +kernel
theorem dX2_at_5 : decode cX2_at 5 = .ok (.iaload, 1) := by decide +kernel
theorem dX2_at_6 : decode cX2_at 6 = .ok (.aload_n 0, 1) := by decide +kernel
theorem dX2_at_7 : decode cX2_at 7 = .ok (.getfield 15, 3) := by decide +kernel
theorem dX2_at_10 : decode cX2_at 10 = .ok (.iload_n 1, 1) := by decide +kernel
theorem dX2_at_11 : decode cX2_at 11 = .ok (.iaload, 1) := by decide +kernel
theorem dX2_at_12 : decode cX2_at 12 = .ok (.invokestatic 46, 3) := by decide +kernel
theorem dX2_at_15 : decode cX2_at 15 = .ok (.ireturn, 1) := by decide +kernel
theorem dX2_atByRides_0 : decode cX2_atByRides 0 = .ok (.aload_n 0, 1) := by decide +kernel
theorem dX2_atByRides_1 : decode cX2_atByRides 1 = .ok (.getfield 9, 3) := by decide +kernel
theorem dX2_atByRides_4 : decode cX2_atByRides 4 = .ok (.iload_n 1, 1) := by decide +kernel
theorem dX2_atByRides_5 : decode cX2_atByRides 5 = .ok (.iaload, 1) := by decide +kernel
theorem dX2_atByRides_6 : decode cX2_atByRides 6 = .ok (.istore_n 2, 1) := by decide +kernel
theorem dX2_atByRides_7 : decode cX2_atByRides 7 = .ok (.iconst 0, 1) := by decide +kernel
theorem dX2_atByRides_8 : decode cX2_atByRides 8 = .ok (.istore_n 3, 1) := by decide +kernel
theorem dX2_atByRides_9 : decode cX2_atByRides 9 = .ok (.iload_n 3, 1) := by decide +kernel
theorem dX2_atByRides_10 : decode cX2_atByRides 10 = .ok (.aload_n 0, 1) := by decide +kernel
theorem dX2_atByRides_11 : decode cX2_atByRides 11 = .ok (.getfield 18, 3) := by decide +kernel
theorem dX2_atByRides_14 : decode cX2_atByRides 14 = .ok (.getfield 22, 3) := by decide +kernel
theorem dX2_atByRides_17 : decode cX2_atByRides 17 = .ok (.if_icmp .ge 32, 3) := by decide +kernel
theorem dX2_atByRides_20 : decode cX2_atByRides 20 = .ok (.iload_n 2, 1) := by decide +kernel
theorem dX2_atByRides_21 : decode cX2_atByRides 21 = .ok (.aload_n 0, 1) := by decide +kernel
theorem dX2_atByRides_22 : decode cX2_atByRides 22 = .ok (.getfield 9, 3) := by decide +kernel
theorem dX2_atByRides_25 : decode cX2_atByRides 25 = .ok (.iload_n 3, 1) := by decide +kernel
theorem dX2_atByRides_26 : decode cX2_atByRides 26 = .ok (.iaload, 1) := by decide +kernel
theorem dX2_atByRides_27 : decode cX2_atByRides 27 = .ok (.aload_n 0, 1) := by decide +kernel
theorem dX2_atByRides_28 : decode cX2_atByRides 28 = .ok (.getfield 18, 3) := by decide +kernel
theorem dX2_atByRides_31 : decode cX2_atByRides 31 = .ok (.getfield 42, 3) := by decide +kernel
theorem dX2_atByRides_34 : decode cX2_atByRides 34 = .ok (.iload_n 3, 1) := by decide +kernel
theorem dX2_atByRides_35 : decode cX2_atByRides 35 = .ok (.aaload, 1) := by decide +kernel
theorem dX2_atByRides_36 : decode cX2_atByRides 36 = .ok (.iload_n 1, 1) := by decide +kernel
theorem dX2_atByRides_37 : decode cX2_atByRides 37 = .ok (.iaload, 1) := by decide +kernel
theorem dX2_atByRides_38 : decode cX2_atByRides 38 = .ok (.iadd, 1) := by decide +kernel
theorem dX2_atByRides_39 : decode cX2_atByRides 39 = .ok (.invokestatic 46, 3) := by decide +kernel
theorem dX2_atByRides_42 : decode cX2_atByRides 42 = .ok (.istore_n 2, 1) := by decide +kernel
theorem dX2_atByRides_43 : decode cX2_atByRides 43 = .ok (.iinc 3 1, 3) := by decide +kernel
theorem dX2_atByRides_46 : decode cX2_atByRides 46 = .ok (.goto (-37), 3) := by decide +kernel
theorem dX2_atByRides_49 : decode cX2_atByRides 49 = .ok (.iload_n 2, 1) := by decide +kernel
theorem dX2_atByRides_50 : decode cX2_atByRides 50 = .ok (.ireturn, 1) := by decide +kernel
theorem dX3_init_0 : decode cX3_init 0 = .ok (.aload_n 0, 1) := by decide +kernel
theorem dX3_init_1 : decode cX3_init 1 = .ok (.invokespecial 3, 3) := by decide +kernel
theorem dX3_init_4 : decode cX3_init 4 = .ok (.aload_n 0, 1) := by decide +kernel
theorem dX3_init_5 : decode cX3_init 5 = .ok (.bipush 72, 2) := by decide +kernel
theorem dX3_init_7 : decode cX3_init 7 = .ok (.newarray .int, 2) := by decide +kernel
theorem dX3_init_9 : decode cX3_init 9 = .ok (.putfield 9, 3) := by decide +kernel
theorem dX3_init_12 : decode cX3_init 12 = .ok (.aload_n 0, 1) := by decide +kernel
theorem dX3_init_13 : decode cX3_init 13 = .ok (.bipush 72, 2) := by decide +kernel
theorem dX3_init_15 : decode cX3_init 15 = .ok (.newarray .int, 2) := by decide +kernel
theorem dX3_init_17 : decode cX3_init 17 = .ok (.putfield 15, 3) := by decide +kernel
theorem dX3_init_20 : decode cX3_init 20 = .ok (.aload_n 0, 1) := by decide +kernel
theorem dX3_init_21 : decode cX3_init 21 = .ok (.bipush 72, 2) := by decide +kernel
theorem dX3_init_23 : decode cX3_init 23 = .ok (.newarray .int, 2) := by decide +kernel
theorem dX3_init_25 : decode cX3_init 25 = .ok (.putfield 18, 3) := by decide +kernel
theorem dX3_init_28 : decode cX3_init 28 = .ok (.aload_n 0, 1) := by decide +kernel
theorem dX3_init_29 : decode cX3_init 29 = .ok (.bipush 72, 2) := by decide +kernel
theorem dX3_init_31 : decode cX3_init 31 = .ok (.bipush 8, 2) := by decide +kernel
theorem dX3_init_33 : decode cX3_init 33 = .ok (.multianewarray 21 2, 4) := by decide +kernel
theorem dX3_init_37 : decode cX3_init 37 = .ok (.putfield 23, 3) := by decide +kernel
theorem dX3_init_40 : decode cX3_init 40 = .ok (.aload_n 0, 1) := by decide +kernel
theorem dX3_init_41 : decode cX3_init 41 = .ok (.bipush 72, 2) := by decide +kernel
theorem dX3_init_43 : decode cX3_init 43 = .ok (.bipush 8, 2) := by decide +kernel
theorem dX3_init_45 : decode cX3_init 45 = .ok (.multianewarray 21 2, 4) := by decide +kernel
theorem dX3_init_49 : decode cX3_init 49 = .ok (.putfield 26, 3) := by decide +kernel
theorem dX3_init_52 : decode cX3_init 52 = .ok (.aload_n 0, 1) := by decide +kernel
theorem dX3_init_53 : decode cX3_init 53 = .ok (.bipush 72, 2) := by decide +kernel
theorem dX3_init_55 : decode cX3_init 55 = .ok (.bipush 8, 2) := by decide +kernel
theorem dX3_init_57 : decode cX3_init 57 = .ok (.multianewarray 21 2, 4) := by decide +kernel
theorem dX3_init_61 : decode cX3_init 61 = .ok (.putfield 29, 3) := by decide +kernel
theorem dX3_init_64 : decode cX3_init 64 = .ok (.aload_n 0, 1) := by decide +kernel
theorem dX3_init_65 : decode cX3_init 65 = .ok (.sipush 576, 3) := by decide +kernel
theorem dX3_init_68 : decode cX3_init 68 = .ok (.newarray .int, 2) := by decide +kernel
theorem dX3_init_70 : decode cX3_init 70 = .ok (.putfield 32, 3) := by decide +kernel
theorem dX3_init_73 : decode cX3_init 73 = .ok (.aload_n 0, 1) := by decide +kernel
theorem dX3_init_74 : decode cX3_init 74 = .ok (.sipush 576, 3) := by decide +kernel
theorem dX3_init_77 : decode cX3_init 77 = .ok (.newarray .int, 2) := by decide +kernel
theorem dX3_init_79 : decode cX3_init 79 = .ok (.putfield 35, 3) := by decide +kernel
theorem dX3_init_82 : decode cX3_init 82 = .ok (.aload_n 0, 1) := by decide +kernel
theorem dX3_init_83 : decode cX3_init 83 = .ok (.sipush 576, 3) := by decide +kernel
theorem dX3_init_86 : decode cX3_init 86 = .ok (.newarray .int, 2) := by decide +kernel
theorem dX3_init_88 : decode cX3_init 88 = .ok (.putfield 38, 3) := by decide +kernel
theorem dX3_init_91 : decode cX3_init 91 = .ok (.aload_n 0, 1) := by decide +kernel
theorem dX3_init_92 : decode cX3_init 92 = .ok (.aload_n 1, 1) := by decide +kernel
theorem dX3_init_93 : decode cX3_init 93 = .ok (.putfield 41, 3) := by decide +kernel
theorem dX3_init_96 : decode cX3_init 96 = .ok (.aload_n 0, 1) := by decide +kernel
theorem dX3_init_97 : decode cX3_init 97 = .ok (.aload_n 2, 1) := by decide +kernel
theorem dX3_init_98 : decode cX3_init 98 = .ok (.putfield 45, 3) := by decide +kernel
theorem dX3_init_101 : decode cX3_init 101 = .ok (.aload_n 0, 1) := by decide +kernel
theorem dX3_init_102 : decode cX3_init 102 = .ok (.aload_n 3, 1) := by decide +kernel
theorem dX3_init_103 : decode cX3_init 103 = .ok (.putfield 49, 3) := by decide +kernel
theorem dX3_init_106 : decode cX3_init 106 = .ok (.aload_n 0, 1) := by decide +kernel
theorem dX3_init_107 : decode cX3_init 107 = .ok (.aload 4, 2) := by decide +kernel
theorem dX3_init_109 : decode cX3_init 109 = .ok (.putfield 53, 3) := by decide +kernel
theorem dX3_init_112 : decode cX3_init 112 = .ok (.return_, 1) := by decide +kernel
theorem dX3_lay_0 : decode cX3_lay 0 = .ok (.aload_n 0, 1) := by decide +kernel
theorem dX3_lay_1 : decode cX3_lay 1 = .ok (.getfield 41, 3) := by decide +kernel
theorem dX3_lay_4 : decode cX3_lay 4 = .ok (.iconst (-1), 1) := by decide +kernel
theorem dX3_lay_5 : decode cX3_lay 5 = .ok (.invokevirtual 57, 3) := by decide +kernel
theorem dX3_lay_8 : decode cX3_lay 8 = .ok (.aload_n 0, 1) := by decide +kernel
theorem dX3_lay_9 : decode cX3_lay 9 = .ok (.iconst 0, 1) := by decide +kernel
theorem dX3_lay_10 : decode cX3_lay 10 = .ok (.putfield 63, 3) := by decide +kernel
theorem dX3_lay_13 : decode cX3_lay 13 = .ok (.aload_n 0, 1) := by decide +kernel
theorem dX3_lay_14 : decode cX3_lay 14 = .ok (.iconst 0, 1) := by decide +kernel
theorem dX3_lay_15 : decode cX3_lay 15 = .ok (.putfield 67, 3) := by decide +kernel
theorem dX3_lay_18 : decode cX3_lay 18 = .ok (.iconst (-1), 1) := by decide +kernel
theorem dX3_lay_19 : decode cX3_lay 19 = .ok (.istore 4, 2) := by decide +kernel
theorem dX3_lay_21 : decode cX3_lay 21 = .ok (.iload 4, 2) := by decide +kernel
theorem dX3_lay_23 : decode cX3_lay 23 = .ok (.iconst 1, 1) := by decide +kernel
theorem dX3_lay_24 : decode cX3_lay 24 = .ok (.if_icmp .gt 97, 3) := by decide +kernel
theorem dX3_lay_27 : decode cX3_lay 27 = .ok (.iconst 0, 1) := by decide +kernel
theorem dX3_lay_28 : decode cX3_lay 28 = .ok (.istore 5, 2) := by decide +kernel
theorem dX3_lay_30 : decode cX3_lay 30 = .ok (.iload 5, 2) := by decide +kernel
theorem dX3_lay_32 : decode cX3_lay 32 = .ok (.aload_n 0, 1) := by decide +kernel
theorem dX3_lay_33 : decode cX3_lay 33 = .ok (.getfield 49, 3) := by decide +kernel
theorem dX3_lay_36 : decode cX3_lay 36 = .ok (.getfield 70, 3) := by decide +kernel
theorem dX3_lay_39 : decode cX3_lay 39 = .ok (.if_icmp .ge 76, 3) := by decide +kernel
theorem dX3_lay_42 : decode cX3_lay 42 = .ok (.aload_n 0, 1) := by decide +kernel
theorem dX3_lay_43 : decode cX3_lay 43 = .ok (.getfield 45, 3) := by decide +kernel
theorem dX3_lay_46 : decode cX3_lay 46 = .ok (.aload_n 0, 1) := by decide +kernel
theorem dX3_lay_47 : decode cX3_lay 47 = .ok (.getfield 49, 3) := by decide +kernel
theorem dX3_lay_50 : decode cX3_lay 50 = .ok (.getfield 75, 3) := by decide +kernel
theorem dX3_lay_53 : decode cX3_lay 53 = .ok (.iload 5, 2) := by decide +kernel
theorem dX3_lay_55 : decode cX3_lay 55 = .ok (.iaload, 1) := by decide +kernel
theorem dX3_lay_56 : decode cX3_lay 56 = .ok (.iload_n 1, 1) := by decide +kernel
theorem dX3_lay_57 : decode cX3_lay 57 = .ok (.iload 4, 2) := by decide +kernel
theorem dX3_lay_59 : decode cX3_lay 59 = .ok (.iadd, 1) := by decide +kernel
theorem dX3_lay_60 : decode cX3_lay 60 = .ok (.invokevirtual 78, 3) := by decide +kernel
theorem dX3_lay_63 : decode cX3_lay 63 = .ok (.ifCond .eq 46, 3) := by decide +kernel
theorem dX3_lay_66 : decode cX3_lay 66 = .ok (.iload 5, 2) := by decide +kernel
theorem dX3_lay_68 : decode cX3_lay 68 = .ok (.iload_n 2, 1) := by decide +kernel
theorem dX3_lay_69 : decode cX3_lay 69 = .ok (.if_icmp .ne 7, 3) := by decide +kernel
theorem dX3_lay_72 : decode cX3_lay 72 = .ok (.iload_n 3, 1) := by decide +kernel
theorem dX3_lay_73 : decode cX3_lay 73 = .ok (.goto 4, 3) := by decide +kernel
theorem dX3_lay_76 : decode cX3_lay 76 = .ok (.iconst 0, 1) := by decide +kernel
theorem dX3_lay_77 : decode cX3_lay 77 = .ok (.istore 6, 2) := by decide +kernel
theorem dX3_lay_79 : decode cX3_lay 79 = .ok (.aload_n 0, 1) := by decide +kernel
theorem dX3_lay_80 : decode cX3_lay 80 = .ok (.iload 5, 2) := by decide +kernel
theorem dX3_lay_82 : decode cX3_lay 82 = .ok (.iload 4, 2) := by decide +kernel
theorem dX3_lay_84 : decode cX3_lay 84 = .ok (.aload_n 0, 1) := by decide +kernel
theorem dX3_lay_85 : decode cX3_lay 85 = .ok (.getfield 53, 3) := by decide +kernel
theorem dX3_lay_88 : decode cX3_lay 88 = .ok (.iload_n 1, 1) := by decide +kernel
theorem dX3_lay_89 : decode cX3_lay 89 = .ok (.iload 4, 2) := by decide +kernel
theorem dX3_lay_91 : decode cX3_lay 91 = .ok (.iadd, 1) := by decide +kernel
theorem dX3_lay_92 : decode cX3_lay 92 = .ok (.iload 5, 2) := by decide +kernel
theorem dX3_lay_94 : decode cX3_lay 94 = .ok (.invokevirtual 84, 3) := by decide +kernel
theorem dX3_lay_97 : decode cX3_lay 97 = .ok (.sipush 1440, 3) := by decide +kernel
theorem dX3_lay_100 : decode cX3_lay 100 = .ok (.iload 4, 2) := by decide +kernel
theorem dX3_lay_102 : decode cX3_lay 102 = .ok (.imul, 1) := by decide +kernel
theorem dX3_lay_103 : decode cX3_lay 103 = .ok (.iload 6, 2) := by decide +kernel
theorem dX3_lay_105 : decode cX3_lay 105 = .ok (.iadd, 1) := by decide +kernel
theorem dX3_lay_106 : decode cX3_lay 106 = .ok (.invokevirtual 90, 3) := by decide +kernel
theorem dX3_lay_109 : decode cX3_lay 109 = .ok (.iinc 5 1, 3) := by decide +kernel
theorem dX3_lay_112 : decode cX3_lay 112 = .ok (.goto (-82), 3) := by decide +kernel
theorem dX3_lay_115 : decode cX3_lay 115 = .ok (.iinc 4 1, 3) := by decide +kernel
theorem dX3_lay_118 : decode cX3_lay 118 = .ok (.goto (-97), 3) := by decide +kernel
theorem dX3_lay_121 : decode cX3_lay 121 = .ok (.aload_n 0, 1) := by decide +kernel
theorem dX3_lay_122 : decode cX3_lay 122 = .ok (.getfield 32, 3) := by decide +kernel
theorem dX3_lay_125 : decode cX3_lay 125 = .ok (.aload_n 0, 1) := by decide +kernel
theorem dX3_lay_126 : decode cX3_lay 126 = .ok (.getfield 38, 3) := by decide +kernel
theorem dX3_lay_129 : decode cX3_lay 129 = .ok (.aload_n 0, 1) := by decide +kernel
theorem dX3_lay_130 : decode cX3_lay 130 = .ok (.getfield 67, 3) := by decide +kernel
theorem dX3_lay_133 : decode cX3_lay 133 = .ok (.invokestatic 94, 3) := by decide +kernel
theorem dX3_lay_136 : decode cX3_lay 136 = .ok (.aload_n 0, 1) := by decide +kernel
theorem dX3_lay_137 : decode cX3_lay 137 = .ok (.getfield 35, 3) := by decide +kernel
theorem dX3_lay_140 : decode cX3_lay 140 = .ok (.aload_n 0, 1) := by decide +kernel
theorem dX3_lay_141 : decode cX3_lay 141 = .ok (.getfield 38, 3) := by decide +kernel
theorem dX3_lay_144 : decode cX3_lay 144 = .ok (.aload_n 0, 1) := by decide +kernel
theorem dX3_lay_145 : decode cX3_lay 145 = .ok (.getfield 67, 3) := by decide +kernel
theorem dX3_lay_148 : decode cX3_lay 148 = .ok (.invokestatic 94, 3) := by decide +kernel
theorem dX3_lay_151 : decode cX3_lay 151 = .ok (.return_, 1) := by decide +kernel
theorem dX3_addRun_0 : decode cX3_addRun 0 = .ok (.aload_n 0, 1) := by decide +kernel
theorem dX3_addRun_1 : decode cX3_addRun 1 = .ok (.getfield 63, 3) := by decide +kernel
theorem dX3_addRun_4 : decode cX3_addRun 4 = .ok (.istore 5, 2) := by decide +kernel
theorem dX3_addRun_6 : decode cX3_addRun 6 = .ok (.aload_n 0, 1) := by decide +kernel
theorem dX3_addRun_7 : decode cX3_addRun 7 = .ok (.dup, 1) := by decide +kernel
theorem dX3_addRun_8 : decode cX3_addRun 8 = .ok (.getfield 63, 3) := by decide +kernel
theorem dX3_addRun_11 : decode cX3_addRun 11 = .ok (.iconst 1, 1) := by decide +kernel
theorem dX3_addRun_12 : decode cX3_addRun 12 = .ok (.iadd, 1) := by decide +kernel
theorem dX3_addRun_13 : decode cX3_addRun 13 = .ok (.putfield 63, 3) := by decide +kernel
theorem dX3_addRun_16 : decode cX3_addRun 16 = .ok (.aload_n 0, 1) := by decide +kernel
theorem dX3_addRun_17 : decode cX3_addRun 17 = .ok (.getfield 9, 3) := by decide +kernel
theorem dX3_addRun_20 : decode cX3_addRun 20 = .ok (.iload 5, 2) := by decide +kernel
theorem dX3_addRun_22 : decode cX3_addRun 22 = .ok (.iload_n 1, 1) := by decide +kernel
theorem dX3_addRun_23 : decode cX3_addRun 23 = .ok (.iastore, 1) := by decide +kernel
theorem dX3_addRun_24 : decode cX3_addRun 24 = .ok (.aload_n 0, 1) := by decide +kernel
theorem dX3_addRun_25 : decode cX3_addRun 25 = .ok (.getfield 15, 3) := by decide +kernel
theorem dX3_addRun_28 : decode cX3_addRun 28 = .ok (.iload 5, 2) := by decide +kernel
theorem dX3_addRun_30 : decode cX3_addRun 30 = .ok (.iload_n 2, 1) := by decide +kernel
theorem dX3_addRun_31 : decode cX3_addRun 31 = .ok (.iastore, 1) := by decide +kernel
theorem dX3_addRun_32 : decode cX3_addRun 32 = .ok (.aload_n 0, 1) := by decide +kernel
theorem dX3_addRun_33 : decode cX3_addRun 33 = .ok (.getfield 18, 3) := by decide +kernel
theorem dX3_addRun_36 : decode cX3_addRun 36 = .ok (.iload 5, 2) := by decide +kernel
theorem dX3_addRun_38 : decode cX3_addRun 38 = .ok (.aload_n 0, 1) := by decide +kernel
theorem dX3_addRun_39 : decode cX3_addRun 39 = .ok (.getfield 49, 3) := by decide +kernel
theorem dX3_addRun_42 : decode cX3_addRun 42 = .ok (.getfield 98, 3) := by decide +kernel
theorem dX3_addRun_45 : decode cX3_addRun 45 = .ok (.iload_n 1, 1) := by decide +kernel
theorem dX3_addRun_46 : decode cX3_addRun 46 = .ok (.iaload, 1) := by decide +kernel
theorem dX3_addRun_47 : decode cX3_addRun 47 = .ok (.iastore, 1) := by decide +kernel
theorem dX3_addRun_48 : decode cX3_addRun 48 = .ok (.iconst 0, 1) := by decide +kernel
theorem dX3_addRun_49 : decode cX3_addRun 49 = .ok (.istore 6, 2) := by decide +kernel
theorem dX3_addRun_51 : decode cX3_addRun 51 = .ok (.iload 6, 2) := by decide +kernel
theorem dX3_addRun_53 : decode cX3_addRun 53 = .ok (.aload_n 0, 1) := by decide +kernel
theorem dX3_addRun_54 : decode cX3_addRun 54 = .ok (.getfield 18, 3) := by decide +kernel
theorem dX3_addRun_57 : decode cX3_addRun 57 = .ok (.iload 5, 2) := by decide +kernel
theorem dX3_addRun_59 : decode cX3_addRun 59 = .ok (.iaload, 1) := by decide +kernel
theorem dX3_addRun_60 : decode cX3_addRun 60 = .ok (.if_icmp .ge 120, 3) := by decide +kernel
theorem dX3_addRun_63 : decode cX3_addRun 63 = .ok (.aload_n 0, 1) := by decide +kernel
theorem dX3_addRun_64 : decode cX3_addRun 64 = .ok (.getfield 23, 3) := by decide +kernel
theorem dX3_addRun_67 : decode cX3_addRun 67 = .ok (.iload 5, 2) := by decide +kernel
theorem dX3_addRun_69 : decode cX3_addRun 69 = .ok (.aaload, 1) := by decide +kernel
theorem dX3_addRun_70 : decode cX3_addRun 70 = .ok (.iload 6, 2) := by decide +kernel
theorem dX3_addRun_72 : decode cX3_addRun 72 = .ok (.aload_n 0, 1) := by decide +kernel
theorem dX3_addRun_73 : decode cX3_addRun 73 = .ok (.getfield 49, 3) := by decide +kernel
theorem dX3_addRun_76 : decode cX3_addRun 76 = .ok (.getfield 99, 3) := by decide +kernel
theorem dX3_addRun_79 : decode cX3_addRun 79 = .ok (.iload_n 1, 1) := by decide +kernel
theorem dX3_addRun_80 : decode cX3_addRun 80 = .ok (.aaload, 1) := by decide +kernel
theorem dX3_addRun_81 : decode cX3_addRun 81 = .ok (.iload 6, 2) := by decide +kernel
theorem dX3_addRun_83 : decode cX3_addRun 83 = .ok (.iaload, 1) := by decide +kernel
theorem dX3_addRun_84 : decode cX3_addRun 84 = .ok (.iastore, 1) := by decide +kernel
theorem dX3_addRun_85 : decode cX3_addRun 85 = .ok (.aload_n 0, 1) := by decide +kernel
theorem dX3_addRun_86 : decode cX3_addRun 86 = .ok (.getfield 26, 3) := by decide +kernel
theorem dX3_addRun_89 : decode cX3_addRun 89 = .ok (.iload 5, 2) := by decide +kernel
theorem dX3_addRun_91 : decode cX3_addRun 91 = .ok (.aaload, 1) := by decide +kernel
theorem dX3_addRun_92 : decode cX3_addRun 92 = .ok (.iload 6, 2) := by decide +kernel
theorem dX3_addRun_94 : decode cX3_addRun 94 = .ok (.aload_n 0, 1) := by decide +kernel
theorem dX3_addRun_95 : decode cX3_addRun 95 = .ok (.getfield 49, 3) := by decide +kernel
theorem dX3_addRun_98 : decode cX3_addRun 98 = .ok (.getfield 100, 3) := by decide +kernel
theorem dX3_addRun_101 : decode cX3_addRun 101 = .ok (.iload_n 1, 1) := by decide +kernel
theorem dX3_addRun_102 : decode cX3_addRun 102 = .ok (.aaload, 1) := by decide +kernel
theorem dX3_addRun_103 : decode cX3_addRun 103 = .ok (.iload 6, 2) := by decide +kernel
theorem dX3_addRun_105 : decode cX3_addRun 105 = .ok (.iaload, 1) := by decide +kernel
theorem dX3_addRun_106 : decode cX3_addRun 106 = .ok (.iload 4, 2) := by decide +kernel
theorem dX3_addRun_108 : decode cX3_addRun 108 = .ok (.iadd, 1) := by decide +kernel
theorem dX3_addRun_109 : decode cX3_addRun 109 = .ok (.aload_n 0, 1) := by decide +kernel
theorem dX3_addRun_110 : decode cX3_addRun 110 = .ok (.getfield 53, 3) := by decide +kernel
theorem dX3_addRun_113 : decode cX3_addRun 113 = .ok (.iload_n 3, 1) := by decide +kernel
theorem dX3_addRun_114 : decode cX3_addRun 114 = .ok (.iload 6, 2) := by decide +kernel
theorem dX3_addRun_116 : decode cX3_addRun 116 = .ok (.iconst 1, 1) := by decide +kernel
theorem dX3_addRun_117 : decode cX3_addRun 117 = .ok (.isub, 1) := by decide +kernel
theorem dX3_addRun_118 : decode cX3_addRun 118 = .ok (.invokevirtual 101, 3) := by decide +kernel
theorem dX3_addRun_121 : decode cX3_addRun 121 = .ok (.iadd, 1) := by decide +kernel
theorem dX3_addRun_122 : decode cX3_addRun 122 = .ok (.iastore, 1) := by decide +kernel
theorem dX3_addRun_123 : decode cX3_addRun 123 = .ok (.aload_n 0, 1) := by decide +kernel
theorem dX3_addRun_124 : decode cX3_addRun 124 = .ok (.getfield 29, 3) := by decide +kernel
theorem dX3_addRun_127 : decode cX3_addRun 127 = .ok (.iload 5, 2) := by decide +kernel
theorem dX3_addRun_129 : decode cX3_addRun 129 = .ok (.aaload, 1) := by decide +kernel
theorem dX3_addRun_130 : decode cX3_addRun 130 = .ok (.iload 6, 2) := by decide +kernel
theorem dX3_addRun_132 : decode cX3_addRun 132 = .ok (.aload_n 0, 1) := by decide +kernel
theorem dX3_addRun_133 : decode cX3_addRun 133 = .ok (.getfield 49, 3) := by decide +kernel
theorem dX3_addRun_136 : decode cX3_addRun 136 = .ok (.getfield 104, 3) := by decide +kernel
theorem dX3_addRun_139 : decode cX3_addRun 139 = .ok (.iload_n 1, 1) := by decide +kernel
theorem dX3_addRun_140 : decode cX3_addRun 140 = .ok (.aaload, 1) := by decide +kernel
theorem dX3_addRun_141 : decode cX3_addRun 141 = .ok (.iload 6, 2) := by decide +kernel
theorem dX3_addRun_143 : decode cX3_addRun 143 = .ok (.iaload, 1) := by decide +kernel
theorem dX3_addRun_144 : decode cX3_addRun 144 = .ok (.iload 4, 2) := by decide +kernel
theorem dX3_addRun_146 : decode cX3_addRun 146 = .ok (.iadd, 1) := by decide +kernel
theorem dX3_addRun_147 : decode cX3_addRun 147 = .ok (.aload_n 0, 1) := by decide +kernel
theorem dX3_addRun_148 : decode cX3_addRun 148 = .ok (.getfield 53, 3) := by decide +kernel
theorem dX3_addRun_151 : decode cX3_addRun 151 = .ok (.iload_n 3, 1) := by decide +kernel
theorem dX3_addRun_152 : decode cX3_addRun 152 = .ok (.iload 6, 2) := by decide +kernel
theorem dX3_addRun_154 : decode cX3_addRun 154 = .ok (.invokevirtual 101, 3) := by decide +kernel
theorem dX3_addRun_157 : decode cX3_addRun 157 = .ok (.iadd, 1) := by decide +kernel
theorem dX3_addRun_158 : decode cX3_addRun 158 = .ok (.iastore, 1) := by decide +kernel
theorem dX3_addRun_159 : decode cX3_addRun 159 = .ok (.iload 6, 2) := by decide +kernel
theorem dX3_addRun_161 : decode cX3_addRun 161 = .ok (.ifCond .le 13, 3) := by decide +kernel
theorem dX3_addRun_164 : decode cX3_addRun 164 = .ok (.aload_n 0, 1) := by decide +kernel
theorem dX3_addRun_165 : decode cX3_addRun 165 = .ok (.iload 5, 2) := by decide +kernel
theorem dX3_addRun_167 : decode cX3_addRun 167 = .ok (.iload 6, 2) := by decide +kernel
theorem dX3_addRun_169 : decode cX3_addRun 169 = .ok (.iconst 1, 1) := by decide +kernel
theorem dX3_addRun_170 : decode cX3_addRun 170 = .ok (.isub, 1) := by decide +kernel
theorem dX3_addRun_171 : decode cX3_addRun 171 = .ok (.invokevirtual 105, 3) := by decide +kernel
theorem dX3_addRun_174 : decode cX3_addRun 174 = .ok (.iinc 6 1, 3) := by decide +kernel
theorem dX3_addRun_177 : decode cX3_addRun 177 = .ok (.goto (-126), 3) := by decide +kernel
theorem dX3_addRun_180 : decode cX3_addRun 180 = .ok (.return_, 1) := by decide +kernel
theorem dX3_addHop_0 : decode cX3_addHop 0 = .ok (.aload_n 0, 1) := by decide +kernel
theorem dX3_addHop_1 : decode cX3_addHop 1 = .ok (.getfield 29, 3) := by decide +kernel
theorem dX3_addHop_4 : decode cX3_addHop 4 = .ok (.iload_n 1, 1) := by decide +kernel
theorem dX3_addHop_5 : decode cX3_addHop 5 = .ok (.aaload, 1) := by decide +kernel
theorem dX3_addHop_6 : decode cX3_addHop 6 = .ok (.iload_n 2, 1) := by decide +kernel
theorem dX3_addHop_7 : decode cX3_addHop 7 = .ok (.iaload, 1) := by decide +kernel
theorem dX3_addHop_8 : decode cX3_addHop 8 = .ok (.ifCond .ge 4, 3) := by decide +kernel
theorem dX3_addHop_11 : decode cX3_addHop 11 = .ok (.return_, 1) := by decide +kernel
theorem dX3_addHop_12 : decode cX3_addHop 12 = .ok (.iload_n 1, 1) := by decide +kernel
theorem dX3_addHop_13 : decode cX3_addHop 13 = .ok (.bipush 8, 2) := by decide +kernel
theorem dX3_addHop_15 : decode cX3_addHop 15 = .ok (.imul, 1) := by decide +kernel
theorem dX3_addHop_16 : decode cX3_addHop 16 = .ok (.iload_n 2, 1) := by decide +kernel
theorem dX3_addHop_17 : decode cX3_addHop 17 = .ok (.iadd, 1) := by decide +kernel
theorem dX3_addHop_18 : decode cX3_addHop 18 = .ok (.istore_n 3, 1) := by decide +kernel
theorem dX3_addHop_19 : decode cX3_addHop 19 = .ok (.aload_n 0, 1) := by decide +kernel
theorem dX3_addHop_20 : decode cX3_addHop 20 = .ok (.getfield 32, 3) := by decide +kernel
theorem dX3_addHop_23 : decode cX3_addHop 23 = .ok (.aload_n 0, 1) := by decide +kernel
theorem dX3_addHop_24 : decode cX3_addHop 24 = .ok (.getfield 67, 3) := by decide +kernel
theorem dX3_addHop_27 : decode cX3_addHop 27 = .ok (.aload_n 0, 1) := by decide +kernel
theorem dX3_addHop_28 : decode cX3_addHop 28 = .ok (.getfield 29, 3) := by decide +kernel
theorem dX3_addHop_31 : decode cX3_addHop 31 = .ok (.iload_n 1, 1) := by decide +kernel
theorem dX3_addHop_32 : decode cX3_addHop 32 = .ok (.aaload, 1) := by decide +kernel
theorem dX3_addHop_33 : decode cX3_addHop 33 = .ok (.iload_n 2, 1) := by decide +kernel
theorem dX3_addHop_34 : decode cX3_addHop 34 = .ok (.iaload, 1) := by decide +kernel
theorem dX3_addHop_35 : decode cX3_addHop 35 = .ok (.sipush 1024, 3) := by decide +kernel
theorem dX3_addHop_38 : decode cX3_addHop 38 = .ok (.imul, 1) := by decide +kernel
theorem dX3_addHop_39 : decode cX3_addHop 39 = .ok (.iload_n 3, 1) := by decide +kernel
theorem dX3_addHop_40 : decode cX3_addHop 40 = .ok (.iadd, 1) := by decide +kernel
theorem dX3_addHop_41 : decode cX3_addHop 41 = .ok (.iastore, 1) := by decide +kernel
theorem dX3_addHop_42 : decode cX3_addHop 42 = .ok (.aload_n 0, 1) := by decide +kernel
theorem dX3_addHop_43 : decode cX3_addHop 43 = .ok (.getfield 35, 3) := by decide +kernel
theorem dX3_addHop_46 : decode cX3_addHop 46 = .ok (.aload_n 0, 1) := by decide +kernel
theorem dX3_addHop_47 : decode cX3_addHop 47 = .ok (.getfield 67, 3) := by decide +kernel
theorem dX3_addHop_50 : decode cX3_addHop 50 = .ok (.aload_n 0, 1) := by decide +kernel
theorem dX3_addHop_51 : decode cX3_addHop 51 = .ok (.getfield 26, 3) := by decide +kernel
theorem dX3_addHop_54 : decode cX3_addHop 54 = .ok (.iload_n 1, 1) := by decide +kernel
theorem dX3_addHop_55 : decode cX3_addHop 55 = .ok (.aaload, 1) := by decide +kernel
theorem dX3_addHop_56 : decode cX3_addHop 56 = .ok (.iload_n 2, 1) := by decide +kernel
theorem dX3_addHop_57 : decode cX3_addHop 57 = .ok (.iconst 1, 1) := by decide +kernel
theorem dX3_addHop_58 : decode cX3_addHop 58 = .ok (.iadd, 1) := by decide +kernel
theorem dX3_addHop_59 : decode cX3_addHop 59 = .ok (.iaload, 1) := by decide +kernel
theorem dX3_addHop_60 : decode cX3_addHop 60 = .ok (.sipush 1024, 3) := by decide +kernel
theorem dX3_addHop_63 : decode cX3_addHop 63 = .ok (.imul, 1) := by decide +kernel
theorem dX3_addHop_64 : decode cX3_addHop 64 = .ok (.iload_n 3, 1) := by decide +kernel
theorem dX3_addHop_65 : decode cX3_addHop 65 = .ok (.iadd, 1) := by decide +kernel
theorem dX3_addHop_66 : decode cX3_addHop 66 = .ok (.iastore, 1) := by decide +kernel
theorem dX3_addHop_67 : decode cX3_addHop 67 = .ok (.aload_n 0, 1) := by decide +kernel
theorem dX3_addHop_68 : decode cX3_addHop 68 = .ok (.dup, 1) := by decide +kernel
theorem dX3_addHop_69 : decode cX3_addHop 69 = .ok (.getfield 67, 3) := by decide +kernel
theorem dX3_addHop_72 : decode cX3_addHop 72 = .ok (.iconst 1, 1) := by decide +kernel
theorem dX3_addHop_73 : decode cX3_addHop 73 = .ok (.iadd, 1) := by decide +kernel
theorem dX3_addHop_74 : decode cX3_addHop 74 = .ok (.putfield 67, 3) := by decide +kernel
theorem dX3_addHop_77 : decode cX3_addHop 77 = .ok (.return_, 1) := by decide +kernel
theorem dX3_runOf_0 : decode cX3_runOf 0 = .ok (.iload_n 0, 1) := by decide +kernel
theorem dX3_runOf_1 : decode cX3_runOf 1 = .ok (.sipush 1024, 3) := by decide +kernel
theorem dX3_runOf_4 : decode cX3_runOf 4 = .ok (.irem, 1) := by decide +kernel
theorem dX3_runOf_5 : decode cX3_runOf 5 = .ok (.bipush 8, 2) := by decide +kernel
theorem dX3_runOf_7 : decode cX3_runOf 7 = .ok (.idiv, 1) := by decide +kernel
theorem dX3_runOf_8 : decode cX3_runOf 8 = .ok (.ireturn, 1) := by decide +kernel
theorem dX3_callOf_0 : decode cX3_callOf 0 = .ok (.iload_n 0, 1) := by decide +kernel
theorem dX3_callOf_1 : decode cX3_callOf 1 = .ok (.bipush 8, 2) := by decide +kernel
theorem dX3_callOf_3 : decode cX3_callOf 3 = .ok (.irem, 1) := by decide +kernel
theorem dX3_callOf_4 : decode cX3_callOf 4 = .ok (.ireturn, 1) := by decide +kernel
theorem dX4_init_0 : decode cX4_init 0 = .ok (.aload_n 0, 1) := by decide +kernel
theorem dX4_init_1 : decode cX4_init 1 = .ok (.invokespecial 3, 3) := by decide +kernel
theorem dX4_init_4 : decode cX4_init 4 = .ok (.aload_n 0, 1) := by decide +kernel
theorem dX4_init_5 : decode cX4_init 5 = .ok (.bipush 13, 2) := by decide +kernel
theorem dX4_init_7 : decode cX4_init 7 = .ok (.anewarray 9, 3) := by decide +kernel
theorem dX4_init_10 : decode cX4_init 10 = .ok (.putfield 11, 3) := by decide +kernel
theorem dX4_init_13 : decode cX4_init 13 = .ok (.aload_n 0, 1) := by decide +kernel
theorem dX4_init_14 : decode cX4_init 14 = .ok (.bipush 12, 2) := by decide +kernel
theorem dX4_init_16 : decode cX4_init 16 = .ok (.newarray .int, 2) := by decide +kernel
theorem dX4_init_18 : decode cX4_init 18 = .ok (.putfield 17, 3) := by decide +kernel
theorem dX4_init_21 : decode cX4_init 21 = .ok (.aload_n 0, 1) := by decide +kernel
theorem dX4_init_22 : decode cX4_init 22 = .ok (.bipush 12, 2) := by decide +kernel
theorem dX4_init_24 : decode cX4_init 24 = .ok (.newarray .int, 2) := by decide +kernel
theorem dX4_init_26 : decode cX4_init 26 = .ok (.putfield 21, 3) := by decide +kernel
theorem dX4_init_29 : decode cX4_init 29 = .ok (.aload_n 0, 1) := by decide +kernel
theorem dX4_init_30 : decode cX4_init 30 = .ok (.bipush 12, 2) := by decide +kernel
theorem dX4_init_32 : decode cX4_init 32 = .ok (.newarray .int, 2) := by decide +kernel
theorem dX4_init_34 : decode cX4_init 34 = .ok (.putfield 24, 3) := by decide +kernel
theorem dX4_init_37 : decode cX4_init 37 = .ok (.aload_n 0, 1) := by decide +kernel
theorem dX4_init_38 : decode cX4_init 38 = .ok (.bipush 12, 2) := by decide +kernel
theorem dX4_init_40 : decode cX4_init 40 = .ok (.newarray .int, 2) := by decide +kernel
theorem dX4_init_42 : decode cX4_init 42 = .ok (.putfield 27, 3) := by decide +kernel
theorem dX4_init_45 : decode cX4_init 45 = .ok (.aload_n 0, 1) := by decide +kernel
theorem dX4_init_46 : decode cX4_init 46 = .ok (.aload_n 1, 1) := by decide +kernel
theorem dX4_init_47 : decode cX4_init 47 = .ok (.putfield 30, 3) := by decide +kernel
theorem dX4_init_50 : decode cX4_init 50 = .ok (.aload_n 0, 1) := by decide +kernel
theorem dX4_init_51 : decode cX4_init 51 = .ok (.aload_n 2, 1) := by decide +kernel
theorem dX4_init_52 : decode cX4_init 52 = .ok (.putfield 34, 3) := by decide +kernel
theorem dX4_init_55 : decode cX4_init 55 = .ok (.iconst 0, 1) := by decide +kernel
theorem dX4_init_56 : decode cX4_init 56 = .ok (.istore_n 3, 1) := by decide +kernel
theorem dX4_init_57 : decode cX4_init 57 = .ok (.iload_n 3, 1) := by decide +kernel
theorem dX4_init_58 : decode cX4_init 58 = .ok (.bipush 12, 2) := by decide +kernel
theorem dX4_init_60 : decode cX4_init 60 = .ok (.if_icmp .gt 23, 3) := by decide +kernel
theorem dX4_init_63 : decode cX4_init 63 = .ok (.aload_n 0, 1) := by decide +kernel
theorem dX4_init_64 : decode cX4_init 64 = .ok (.getfield 11, 3) := by decide +kernel
theorem dX4_init_67 : decode cX4_init 67 = .ok (.iload_n 3, 1) := by decide +kernel
theorem dX4_init_68 : decode cX4_init 68 = .ok (.new 9, 3) := by decide +kernel
theorem dX4_init_71 : decode cX4_init 71 = .ok (.dup, 1) := by decide +kernel
theorem dX4_init_72 : decode cX4_init 72 = .ok (.aload_n 1, 1) := by decide +kernel
theorem dX4_init_73 : decode cX4_init 73 = .ok (.invokespecial 38, 3) := by decide +kernel
theorem dX4_init_76 : decode cX4_init 76 = .ok (.aastore, 1) := by decide +kernel
theorem dX4_init_77 : decode cX4_init 77 = .ok (.iinc 3 1, 3) := by decide +kernel
theorem dX4_init_80 : decode cX4_init 80 = .ok (.goto (-23), 3) := by decide +kernel
theorem dX4_init_83 : decode cX4_init 83 = .ok (.return_, 1) := by decide +kernel
theorem dX4_fill_0 : decode cX4_fill 0 = .ok (.aload_n 0, 1) := by decide +kernel
theorem dX4_fill_1 : decode cX4_fill 1 = .ok (.getfield 11, 3) := by decide +kernel
theorem dX4_fill_4 : decode cX4_fill 4 = .ok (.iconst 0, 1) := by decide +kernel
theorem dX4_fill_5 : decode cX4_fill 5 = .ok (.aaload, 1) := by decide +kernel
theorem dX4_fill_6 : decode cX4_fill 6 = .ok (.iload_n 1, 1) := by decide +kernel
theorem dX4_fill_7 : decode cX4_fill 7 = .ok (.iload_n 2, 1) := by decide +kernel
theorem dX4_fill_8 : decode cX4_fill 8 = .ok (.invokevirtual 41, 3) := by decide +kernel
theorem dX4_fill_11 : decode cX4_fill 11 = .ok (.aload_n 0, 1) := by decide +kernel
theorem dX4_fill_12 : decode cX4_fill 12 = .ok (.iconst 0, 1) := by decide +kernel
theorem dX4_fill_13 : decode cX4_fill 13 = .ok (.putfield 45, 3) := by decide +kernel
theorem dX4_fill_16 : decode cX4_fill 16 = .ok (.iconst 1, 1) := by decide +kernel
theorem dX4_fill_17 : decode cX4_fill 17 = .ok (.istore_n 3, 1) := by decide +kernel
theorem dX4_fill_18 : decode cX4_fill 18 = .ok (.iload_n 3, 1) := by decide +kernel
theorem dX4_fill_19 : decode cX4_fill 19 = .ok (.bipush 12, 2) := by decide +kernel
theorem dX4_fill_21 : decode cX4_fill 21 = .ok (.if_icmp .gt 53, 3) := by decide +kernel
theorem dX4_fill_24 : decode cX4_fill 24 = .ok (.aload_n 0, 1) := by decide +kernel
theorem dX4_fill_25 : decode cX4_fill 25 = .ok (.getfield 11, 3) := by decide +kernel
theorem dX4_fill_28 : decode cX4_fill 28 = .ok (.iload_n 3, 1) := by decide +kernel
theorem dX4_fill_29 : decode cX4_fill 29 = .ok (.aaload, 1) := by decide +kernel
theorem dX4_fill_30 : decode cX4_fill 30 = .ok (.aload_n 0, 1) := by decide +kernel
theorem dX4_fill_31 : decode cX4_fill 31 = .ok (.getfield 11, 3) := by decide +kernel
theorem dX4_fill_34 : decode cX4_fill 34 = .ok (.iload_n 3, 1) := by decide +kernel
theorem dX4_fill_35 : decode cX4_fill 35 = .ok (.iconst 1, 1) := by decide +kernel
theorem dX4_fill_36 : decode cX4_fill 36 = .ok (.isub, 1) := by decide +kernel
theorem dX4_fill_37 : decode cX4_fill 37 = .ok (.aaload, 1) := by decide +kernel
theorem dX4_fill_38 : decode cX4_fill 38 = .ok (.invokevirtual 49, 3) := by decide +kernel
theorem dX4_fill_41 : decode cX4_fill 41 = .ok (.aload_n 0, 1) := by decide +kernel
theorem dX4_fill_42 : decode cX4_fill 42 = .ok (.aload_n 0, 1) := by decide +kernel
theorem dX4_fill_43 : decode cX4_fill 43 = .ok (.getfield 11, 3) := by decide +kernel
theorem dX4_fill_46 : decode cX4_fill 46 = .ok (.iload_n 3, 1) := by decide +kernel
theorem dX4_fill_47 : decode cX4_fill 47 = .ok (.iconst 1, 1) := by decide +kernel
theorem dX4_fill_48 : decode cX4_fill 48 = .ok (.isub, 1) := by decide +kernel
theorem dX4_fill_49 : decode cX4_fill 49 = .ok (.aaload, 1) := by decide +kernel
theorem dX4_fill_50 : decode cX4_fill 50 = .ok (.aload_n 0, 1) := by decide +kernel
theorem dX4_fill_51 : decode cX4_fill 51 = .ok (.getfield 11, 3) := by decide +kernel
theorem dX4_fill_54 : decode cX4_fill 54 = .ok (.iload_n 3, 1) := by decide +kernel
theorem dX4_fill_55 : decode cX4_fill 55 = .ok (.aaload, 1) := by decide +kernel
theorem dX4_fill_56 : decode cX4_fill 56 = .ok (.invokevirtual 53, 3) := by decide +kernel
theorem dX4_fill_59 : decode cX4_fill 59 = .ok (.ifCond .ne 4, 3) := by decide +kernel
theorem dX4_fill_62 : decode cX4_fill 62 = .ok (.return_, 1) := by decide +kernel
theorem dX4_fill_63 : decode cX4_fill 63 = .ok (.aload_n 0, 1) := by decide +kernel
theorem dX4_fill_64 : decode cX4_fill 64 = .ok (.iload_n 3, 1) := by decide +kernel
theorem dX4_fill_65 : decode cX4_fill 65 = .ok (.putfield 45, 3) := by decide +kernel
theorem dX4_fill_68 : decode cX4_fill 68 = .ok (.iinc 3 1, 3) := by decide +kernel
theorem dX4_fill_71 : decode cX4_fill 71 = .ok (.goto (-53), 3) := by decide +kernel
theorem dX4_fill_74 : decode cX4_fill 74 = .ok (.return_, 1) := by decide +kernel
theorem dX4_rideOnce_0 : decode cX4_rideOnce 0 = .ok (.iconst 0, 1) := by decide +kernel
theorem dX4_rideOnce_1 : decode cX4_rideOnce 1 = .ok (.istore_n 3, 1) := by decide +kernel
theorem dX4_rideOnce_2 : decode cX4_rideOnce 2 = .ok (.iconst 0, 1) := by decide +kernel
theorem dX4_rideOnce_3 : decode cX4_rideOnce 3 = .ok (.istore 4, 2) := by decide +kernel
theorem dX4_rideOnce_5 : decode cX4_rideOnce 5 = .ok (.iload 4, 2) := by decide +kernel
theorem dX4_rideOnce_7 : decode cX4_rideOnce 7 = .ok (.aload_n 0, 1) := by decide +kernel
theorem dX4_rideOnce_8 : decode cX4_rideOnce 8 = .ok (.getfield 34, 3) := by decide +kernel
theorem dX4_rideOnce_11 : decode cX4_rideOnce 11 = .ok (.getfield 57, 3) := by decide +kernel
theorem dX4_rideOnce_14 : decode cX4_rideOnce 14 = .ok (.if_icmp .ge 121, 3) := by decide +kernel
theorem dX4_rideOnce_17 : decode cX4_rideOnce 17 = .ok (.iconst 0, 1) := by decide +kernel
theorem dX4_rideOnce_18 : decode cX4_rideOnce 18 = .ok (.istore 5, 2) := by decide +kernel
theorem dX4_rideOnce_20 : decode cX4_rideOnce 20 = .ok (.iconst 0, 1) := by decide +kernel
theorem dX4_rideOnce_21 : decode cX4_rideOnce 21 = .ok (.istore 6, 2) := by decide +kernel
theorem dX4_rideOnce_23 : decode cX4_rideOnce 23 = .ok (.iload 6, 2) := by decide +kernel
theorem dX4_rideOnce_25 : decode cX4_rideOnce 25 = .ok (.aload_n 0, 1) := by decide +kernel
theorem dX4_rideOnce_26 : decode cX4_rideOnce 26 = .ok (.getfield 34, 3) := by decide +kernel
theorem dX4_rideOnce_29 : decode cX4_rideOnce 29 = .ok (.getfield 62, 3) := by decide +kernel
theorem dX4_rideOnce_32 : decode cX4_rideOnce 32 = .ok (.iload 4, 2) := by decide +kernel
theorem dX4_rideOnce_34 : decode cX4_rideOnce 34 = .ok (.iaload, 1) := by decide +kernel
theorem dX4_rideOnce_35 : decode cX4_rideOnce 35 = .ok (.if_icmp .ge 94, 3) := by decide +kernel
theorem dX4_rideOnce_38 : decode cX4_rideOnce 38 = .ok (.iload 5, 2) := by decide +kernel
theorem dX4_rideOnce_40 : decode cX4_rideOnce 40 = .ok (.ifCond .eq 38, 3) := by decide +kernel
theorem dX4_rideOnce_43 : decode cX4_rideOnce 43 = .ok (.aload_n 2, 1) := by decide +kernel
theorem dX4_rideOnce_44 : decode cX4_rideOnce 44 = .ok (.aload_n 0, 1) := by decide +kernel
theorem dX4_rideOnce_45 : decode cX4_rideOnce 45 = .ok (.getfield 34, 3) := by decide +kernel
theorem dX4_rideOnce_48 : decode cX4_rideOnce 48 = .ok (.getfield 65, 3) := by decide +kernel
theorem dX4_rideOnce_51 : decode cX4_rideOnce 51 = .ok (.iload 4, 2) := by decide +kernel
theorem dX4_rideOnce_53 : decode cX4_rideOnce 53 = .ok (.aaload, 1) := by decide +kernel
theorem dX4_rideOnce_54 : decode cX4_rideOnce 54 = .ok (.iload 6, 2) := by decide +kernel
theorem dX4_rideOnce_56 : decode cX4_rideOnce 56 = .ok (.iaload, 1) := by decide +kernel
theorem dX4_rideOnce_57 : decode cX4_rideOnce 57 = .ok (.aload_n 0, 1) := by decide +kernel
theorem dX4_rideOnce_58 : decode cX4_rideOnce 58 = .ok (.getfield 34, 3) := by decide +kernel
theorem dX4_rideOnce_61 : decode cX4_rideOnce 61 = .ok (.getfield 69, 3) := by decide +kernel
theorem dX4_rideOnce_64 : decode cX4_rideOnce 64 = .ok (.iload 4, 2) := by decide +kernel
theorem dX4_rideOnce_66 : decode cX4_rideOnce 66 = .ok (.aaload, 1) := by decide +kernel
theorem dX4_rideOnce_67 : decode cX4_rideOnce 67 = .ok (.iload 6, 2) := by decide +kernel
theorem dX4_rideOnce_69 : decode cX4_rideOnce 69 = .ok (.iaload, 1) := by decide +kernel
theorem dX4_rideOnce_70 : decode cX4_rideOnce 70 = .ok (.invokevirtual 72, 3) := by decide +kernel
theorem dX4_rideOnce_73 : decode cX4_rideOnce 73 = .ok (.ifCond .eq 5, 3) := by decide +kernel
theorem dX4_rideOnce_76 : decode cX4_rideOnce 76 = .ok (.iconst 1, 1) := by decide +kernel
theorem dX4_rideOnce_77 : decode cX4_rideOnce 77 = .ok (.istore_n 3, 1) := by decide +kernel
theorem dX4_rideOnce_78 : decode cX4_rideOnce 78 = .ok (.iload 5, 2) := by decide +kernel
theorem dX4_rideOnce_80 : decode cX4_rideOnce 80 = .ok (.ifCond .ne 36, 3) := by decide +kernel
theorem dX4_rideOnce_83 : decode cX4_rideOnce 83 = .ok (.aload_n 1, 1) := by decide +kernel
theorem dX4_rideOnce_84 : decode cX4_rideOnce 84 = .ok (.aload_n 0, 1) := by decide +kernel
theorem dX4_rideOnce_85 : decode cX4_rideOnce 85 = .ok (.getfield 34, 3) := by decide +kernel
theorem dX4_rideOnce_88 : decode cX4_rideOnce 88 = .ok (.getfield 65, 3) := by decide +kernel
theorem dX4_rideOnce_91 : decode cX4_rideOnce 91 = .ok (.iload 4, 2) := by decide +kernel
theorem dX4_rideOnce_93 : decode cX4_rideOnce 93 = .ok (.aaload, 1) := by decide +kernel
theorem dX4_rideOnce_94 : decode cX4_rideOnce 94 = .ok (.iload 6, 2) := by decide +kernel
theorem dX4_rideOnce_96 : decode cX4_rideOnce 96 = .ok (.iaload, 1) := by decide +kernel
theorem dX4_rideOnce_97 : decode cX4_rideOnce 97 = .ok (.aload_n 0, 1) := by decide +kernel
theorem dX4_rideOnce_98 : decode cX4_rideOnce 98 = .ok (.getfield 34, 3) := by decide +kernel
theorem dX4_rideOnce_101 : decode cX4_rideOnce 101 = .ok (.getfield 76, 3) := by decide +kernel
theorem dX4_rideOnce_104 : decode cX4_rideOnce 104 = .ok (.iload 4, 2) := by decide +kernel
theorem dX4_rideOnce_106 : decode cX4_rideOnce 106 = .ok (.aaload, 1) := by decide +kernel
theorem dX4_rideOnce_107 : decode cX4_rideOnce 107 = .ok (.iload 6, 2) := by decide +kernel
theorem dX4_rideOnce_109 : decode cX4_rideOnce 109 = .ok (.iaload, 1) := by decide +kernel
theorem dX4_rideOnce_110 : decode cX4_rideOnce 110 = .ok (.invokevirtual 79, 3) := by decide +kernel
theorem dX4_rideOnce_113 : decode cX4_rideOnce 113 = .ok (.ifCond .eq 7, 3) := by decide +kernel
theorem dX4_rideOnce_116 : decode cX4_rideOnce 116 = .ok (.iconst 1, 1) := by decide +kernel
theorem dX4_rideOnce_117 : decode cX4_rideOnce 117 = .ok (.goto 4, 3) := by decide +kernel
theorem dX4_rideOnce_120 : decode cX4_rideOnce 120 = .ok (.iconst 0, 1) := by decide +kernel
theorem dX4_rideOnce_121 : decode cX4_rideOnce 121 = .ok (.istore 5, 2) := by decide +kernel
theorem dX4_rideOnce_123 : decode cX4_rideOnce 123 = .ok (.iinc 6 1, 3) := by decide +kernel
theorem dX4_rideOnce_126 : decode cX4_rideOnce 126 = .ok (.goto (-103), 3) := by decide +kernel
theorem dX4_rideOnce_129 : decode cX4_rideOnce 129 = .ok (.iinc 4 1, 3) := by decide +kernel
theorem dX4_rideOnce_132 : decode cX4_rideOnce 132 = .ok (.goto (-127), 3) := by decide +kernel
theorem dX4_rideOnce_135 : decode cX4_rideOnce 135 = .ok (.iload_n 3, 1) := by decide +kernel
theorem dX4_rideOnce_136 : decode cX4_rideOnce 136 = .ok (.ireturn, 1) := by decide +kernel
theorem dX4_least_0 : decode cX4_least 0 = .ok (.aload_n 0, 1) := by decide +kernel
theorem dX4_least_1 : decode cX4_least 1 = .ok (.getfield 11, 3) := by decide +kernel
theorem dX4_least_4 : decode cX4_least 4 = .ok (.aload_n 0, 1) := by decide +kernel
theorem dX4_least_5 : decode cX4_least 5 = .ok (.getfield 45, 3) := by decide +kernel
theorem dX4_least_8 : decode cX4_least 8 = .ok (.aaload, 1) := by decide +kernel
theorem dX4_least_9 : decode cX4_least 9 = .ok (.iload_n 1, 1) := by decide +kernel
theorem dX4_least_10 : decode cX4_least 10 = .ok (.invokevirtual 82, 3) := by decide +kernel
theorem dX4_least_13 : decode cX4_least 13 = .ok (.ireturn, 1) := by decide +kernel
theorem dX4_isChoice_0 : decode cX4_isChoice 0 = .ok (.iload_n 1, 1) := by decide +kernel
theorem dX4_isChoice_1 : decode cX4_isChoice 1 = .ok (.ifCond .ne 8, 3) := by decide +kernel
theorem dX4_isChoice_4 : decode cX4_isChoice 4 = .ok (.ldc 86, 2) := by decide +kernel
theorem dX4_isChoice_6 : decode cX4_isChoice 6 = .ok (.goto 15, 3) := by decide +kernel
theorem dX4_isChoice_9 : decode cX4_isChoice 9 = .ok (.aload_n 0, 1) := by decide +kernel
theorem dX4_isChoice_10 : decode cX4_isChoice 10 = .ok (.getfield 11, 3) := by decide +kernel
theorem dX4_isChoice_13 : decode cX4_isChoice 13 = .ok (.iload_n 1, 1) := by decide +kernel
theorem dX4_isChoice_14 : decode cX4_isChoice 14 = .ok (.iconst 1, 1) := by decide +kernel
theorem dX4_isChoice_15 : decode cX4_isChoice 15 = .ok (.isub, 1) := by decide +kernel
theorem dX4_isChoice_16 : decode cX4_isChoice 16 = .ok (.aaload, 1) := by decide +kernel
theorem dX4_isChoice_17 : decode cX4_isChoice 17 = .ok (.iload_n 2, 1) := by decide +kernel
theorem dX4_isChoice_18 : decode cX4_isChoice 18 = .ok (.invokevirtual 82, 3) := by decide +kernel
theorem dX4_isChoice_21 : decode cX4_isChoice 21 = .ok (.istore_n 3, 1) := by decide +kernel
theorem dX4_isChoice_22 : decode cX4_isChoice 22 = .ok (.aload_n 0, 1) := by decide +kernel
theorem dX4_isChoice_23 : decode cX4_isChoice 23 = .ok (.getfield 11, 3) := by decide +kernel
theorem dX4_isChoice_26 : decode cX4_isChoice 26 = .ok (.iload_n 1, 1) := by decide +kernel
theorem dX4_isChoice_27 : decode cX4_isChoice 27 = .ok (.aaload, 1) := by decide +kernel
theorem dX4_isChoice_28 : decode cX4_isChoice 28 = .ok (.iload_n 2, 1) := by decide +kernel
theorem dX4_isChoice_29 : decode cX4_isChoice 29 = .ok (.invokevirtual 82, 3) := by decide +kernel
theorem dX4_isChoice_32 : decode cX4_isChoice 32 = .ok (.iload_n 3, 1) := by decide +kernel
theorem dX4_isChoice_33 : decode cX4_isChoice 33 = .ok (.if_icmp .ge 7, 3) := by decide +kernel
theorem dX4_isChoice_36 : decode cX4_isChoice 36 = .ok (.iconst 1, 1) := by decide +kernel
theorem dX4_isChoice_37 : decode cX4_isChoice 37 = .ok (.goto 4, 3) := by decide +kernel
theorem dX4_isChoice_40 : decode cX4_isChoice 40 = .ok (.iconst 0, 1) := by decide +kernel
theorem dX4_isChoice_41 : decode cX4_isChoice 41 = .ok (.ireturn, 1) := by decide +kernel
theorem dX4_fewestRides_0 : decode cX4_fewestRides 0 = .ok (.iconst 0, 1) := by decide +kernel
theorem dX4_fewestRides_1 : decode cX4_fewestRides 1 = .ok (.istore_n 2, 1) := by decide +kernel
theorem dX4_fewestRides_2 : decode cX4_fewestRides 2 = .ok (.iload_n 2, 1) := by decide +kernel
theorem dX4_fewestRides_3 : decode cX4_fewestRides 3 = .ok (.aload_n 0, 1) := by decide +kernel
theorem dX4_fewestRides_4 : decode cX4_fewestRides 4 = .ok (.getfield 45, 3) := by decide +kernel
theorem dX4_fewestRides_7 : decode cX4_fewestRides 7 = .ok (.if_icmp .ge 29, 3) := by decide +kernel
theorem dX4_fewestRides_10 : decode cX4_fewestRides 10 = .ok (.aload_n 0, 1) := by decide +kernel
theorem dX4_fewestRides_11 : decode cX4_fewestRides 11 = .ok (.getfield 11, 3) := by decide +kernel
theorem dX4_fewestRides_14 : decode cX4_fewestRides 14 = .ok (.iload_n 2, 1) := by decide +kernel
theorem dX4_fewestRides_15 : decode cX4_fewestRides 15 = .ok (.aaload, 1) := by decide +kernel
theorem dX4_fewestRides_16 : decode cX4_fewestRides 16 = .ok (.iload_n 1, 1) := by decide +kernel
theorem dX4_fewestRides_17 : decode cX4_fewestRides 17 = .ok (.invokevirtual 82, 3) := by decide +kernel
theorem dX4_fewestRides_20 : decode cX4_fewestRides 20 = .ok (.aload_n 0, 1) := by decide +kernel
theorem dX4_fewestRides_21 : decode cX4_fewestRides 21 = .ok (.iload_n 1, 1) := by decide +kernel
theorem dX4_fewestRides_22 : decode cX4_fewestRides 22 = .ok (.invokevirtual 87, 3) := by decide +kernel
theorem dX4_fewestRides_25 : decode cX4_fewestRides 25 = .ok (.if_icmp .ne 5, 3) := by decide +kernel
theorem dX4_fewestRides_28 : decode cX4_fewestRides 28 = .ok (.iload_n 2, 1) := by decide +kernel
theorem dX4_fewestRides_29 : decode cX4_fewestRides 29 = .ok (.ireturn, 1) := by decide +kernel
theorem dX4_fewestRides_30 : decode cX4_fewestRides 30 = .ok (.iinc 2 1, 3) := by decide +kernel
theorem dX4_fewestRides_33 : decode cX4_fewestRides 33 = .ok (.goto (-31), 3) := by decide +kernel
theorem dX4_fewestRides_36 : decode cX4_fewestRides 36 = .ok (.aload_n 0, 1) := by decide +kernel
theorem dX4_fewestRides_37 : decode cX4_fewestRides 37 = .ok (.getfield 45, 3) := by decide +kernel
theorem dX4_fewestRides_40 : decode cX4_fewestRides 40 = .ok (.ireturn, 1) := by decide +kernel
theorem dX4_keepChain_0 : decode cX4_keepChain 0 = .ok (.aload_n 0, 1) := by decide +kernel
theorem dX4_keepChain_1 : decode cX4_keepChain 1 = .ok (.aload_n 0, 1) := by decide +kernel
theorem dX4_keepChain_2 : decode cX4_keepChain 2 = .ok (.iload_n 1, 1) := by decide +kernel
theorem dX4_keepChain_3 : decode cX4_keepChain 3 = .ok (.invokevirtual 90, 3) := by decide +kernel
theorem dX4_keepChain_6 : decode cX4_keepChain 6 = .ok (.putfield 93, 3) := by decide +kernel
theorem dX4_keepChain_9 : decode cX4_keepChain 9 = .ok (.iload_n 1, 1) := by decide +kernel
theorem dX4_keepChain_10 : decode cX4_keepChain 10 = .ok (.istore_n 2, 1) := by decide +kernel
theorem dX4_keepChain_11 : decode cX4_keepChain 11 = .ok (.aload_n 0, 1) := by decide +kernel
theorem dX4_keepChain_12 : decode cX4_keepChain 12 = .ok (.iload_n 1, 1) := by decide +kernel
theorem dX4_keepChain_13 : decode cX4_keepChain 13 = .ok (.invokevirtual 87, 3) := by decide +kernel
theorem dX4_keepChain_16 : decode cX4_keepChain 16 = .ok (.istore_n 3, 1) := by decide +kernel
theorem dX4_keepChain_17 : decode cX4_keepChain 17 = .ok (.iconst 0, 1) := by decide +kernel
theorem dX4_keepChain_18 : decode cX4_keepChain 18 = .ok (.istore 4, 2) := by decide +kernel
theorem dX4_keepChain_20 : decode cX4_keepChain 20 = .ok (.aload_n 0, 1) := by decide +kernel
theorem dX4_keepChain_21 : decode cX4_keepChain 21 = .ok (.getfield 93, 3) := by decide +kernel
theorem dX4_keepChain_24 : decode cX4_keepChain 24 = .ok (.iconst 1, 1) := by decide +kernel
theorem dX4_keepChain_25 : decode cX4_keepChain 25 = .ok (.isub, 1) := by decide +kernel
theorem dX4_keepChain_26 : decode cX4_keepChain 26 = .ok (.istore 5, 2) := by decide +kernel
theorem dX4_keepChain_28 : decode cX4_keepChain 28 = .ok (.iload 5, 2) := by decide +kernel
theorem dX4_keepChain_30 : decode cX4_keepChain 30 = .ok (.ifCond .lt 145, 3) := by decide +kernel
theorem dX4_keepChain_33 : decode cX4_keepChain 33 = .ok (.aload_n 0, 1) := by decide +kernel
theorem dX4_keepChain_34 : decode cX4_keepChain 34 = .ok (.iload 5, 2) := by decide +kernel
theorem dX4_keepChain_36 : decode cX4_keepChain 36 = .ok (.iload_n 2, 1) := by decide +kernel
theorem dX4_keepChain_37 : decode cX4_keepChain 37 = .ok (.iload_n 3, 1) := by decide +kernel
theorem dX4_keepChain_38 : decode cX4_keepChain 38 = .ok (.iload 4, 2) := by decide +kernel
theorem dX4_keepChain_40 : decode cX4_keepChain 40 = .ok (.invokevirtual 96, 3) := by decide +kernel
theorem dX4_keepChain_43 : decode cX4_keepChain 43 = .ok (.istore 6, 2) := by decide +kernel
theorem dX4_keepChain_45 : decode cX4_keepChain 45 = .ok (.aload_n 0, 1) := by decide +kernel
theorem dX4_keepChain_46 : decode cX4_keepChain 46 = .ok (.getfield 17, 3) := by decide +kernel
theorem dX4_keepChain_49 : decode cX4_keepChain 49 = .ok (.iload 5, 2) := by decide +kernel
theorem dX4_keepChain_51 : decode cX4_keepChain 51 = .ok (.aload_n 0, 1) := by decide +kernel
theorem dX4_keepChain_52 : decode cX4_keepChain 52 = .ok (.getfield 34, 3) := by decide +kernel
theorem dX4_keepChain_55 : decode cX4_keepChain 55 = .ok (.getfield 100, 3) := by decide +kernel
theorem dX4_keepChain_58 : decode cX4_keepChain 58 = .ok (.iload 6, 2) := by decide +kernel
theorem dX4_keepChain_60 : decode cX4_keepChain 60 = .ok (.iaload, 1) := by decide +kernel
theorem dX4_keepChain_61 : decode cX4_keepChain 61 = .ok (.iastore, 1) := by decide +kernel
theorem dX4_keepChain_62 : decode cX4_keepChain 62 = .ok (.aload_n 0, 1) := by decide +kernel
theorem dX4_keepChain_63 : decode cX4_keepChain 63 = .ok (.getfield 21, 3) := by decide +kernel
theorem dX4_keepChain_66 : decode cX4_keepChain 66 = .ok (.iload 5, 2) := by decide +kernel
theorem dX4_keepChain_68 : decode cX4_keepChain 68 = .ok (.aload_n 0, 1) := by decide +kernel
theorem dX4_keepChain_69 : decode cX4_keepChain 69 = .ok (.getfield 34, 3) := by decide +kernel
theorem dX4_keepChain_72 : decode cX4_keepChain 72 = .ok (.getfield 103, 3) := by decide +kernel
theorem dX4_keepChain_75 : decode cX4_keepChain 75 = .ok (.iload 6, 2) := by decide +kernel
theorem dX4_keepChain_77 : decode cX4_keepChain 77 = .ok (.iaload, 1) := by decide +kernel
theorem dX4_keepChain_78 : decode cX4_keepChain 78 = .ok (.iastore, 1) := by decide +kernel
theorem dX4_keepChain_79 : decode cX4_keepChain 79 = .ok (.aload_n 0, 1) := by decide +kernel
theorem dX4_keepChain_80 : decode cX4_keepChain 80 = .ok (.getfield 27, 3) := by decide +kernel
theorem dX4_keepChain_83 : decode cX4_keepChain 83 = .ok (.iload 5, 2) := by decide +kernel
theorem dX4_keepChain_85 : decode cX4_keepChain 85 = .ok (.aload_n 0, 1) := by decide +kernel
theorem dX4_keepChain_86 : decode cX4_keepChain 86 = .ok (.iload 6, 2) := by decide +kernel
theorem dX4_keepChain_88 : decode cX4_keepChain 88 = .ok (.iload 5, 2) := by decide +kernel
theorem dX4_keepChain_90 : decode cX4_keepChain 90 = .ok (.iload_n 2, 1) := by decide +kernel
theorem dX4_keepChain_91 : decode cX4_keepChain 91 = .ok (.iload_n 3, 1) := by decide +kernel
theorem dX4_keepChain_92 : decode cX4_keepChain 92 = .ok (.iload 4, 2) := by decide +kernel
theorem dX4_keepChain_94 : decode cX4_keepChain 94 = .ok (.invokevirtual 106, 3) := by decide +kernel
theorem dX4_keepChain_97 : decode cX4_keepChain 97 = .ok (.iastore, 1) := by decide +kernel
theorem dX4_keepChain_98 : decode cX4_keepChain 98 = .ok (.aload_n 0, 1) := by decide +kernel
theorem dX4_keepChain_99 : decode cX4_keepChain 99 = .ok (.getfield 24, 3) := by decide +kernel
theorem dX4_keepChain_102 : decode cX4_keepChain 102 = .ok (.iload 5, 2) := by decide +kernel
theorem dX4_keepChain_104 : decode cX4_keepChain 104 = .ok (.aload_n 0, 1) := by decide +kernel
theorem dX4_keepChain_105 : decode cX4_keepChain 105 = .ok (.iload 6, 2) := by decide +kernel
theorem dX4_keepChain_107 : decode cX4_keepChain 107 = .ok (.iload 5, 2) := by decide +kernel
theorem dX4_keepChain_109 : decode cX4_keepChain 109 = .ok (.aload_n 0, 1) := by decide +kernel
theorem dX4_keepChain_110 : decode cX4_keepChain 110 = .ok (.getfield 27, 3) := by decide +kernel
theorem dX4_keepChain_113 : decode cX4_keepChain 113 = .ok (.iload 5, 2) := by decide +kernel
theorem dX4_keepChain_115 : decode cX4_keepChain 115 = .ok (.iaload, 1) := by decide +kernel
theorem dX4_keepChain_116 : decode cX4_keepChain 116 = .ok (.invokevirtual 110, 3) := by decide +kernel
theorem dX4_keepChain_119 : decode cX4_keepChain 119 = .ok (.iastore, 1) := by decide +kernel
theorem dX4_keepChain_120 : decode cX4_keepChain 120 = .ok (.aload_n 0, 1) := by decide +kernel
theorem dX4_keepChain_121 : decode cX4_keepChain 121 = .ok (.getfield 34, 3) := by decide +kernel
theorem dX4_keepChain_124 : decode cX4_keepChain 124 = .ok (.getfield 65, 3) := by decide +kernel
theorem dX4_keepChain_127 : decode cX4_keepChain 127 = .ok (.iload 6, 2) := by decide +kernel
theorem dX4_keepChain_129 : decode cX4_keepChain 129 = .ok (.aaload, 1) := by decide +kernel
theorem dX4_keepChain_130 : decode cX4_keepChain 130 = .ok (.aload_n 0, 1) := by decide +kernel
theorem dX4_keepChain_131 : decode cX4_keepChain 131 = .ok (.getfield 24, 3) := by decide +kernel
theorem dX4_keepChain_134 : decode cX4_keepChain 134 = .ok (.iload 5, 2) := by decide +kernel
theorem dX4_keepChain_136 : decode cX4_keepChain 136 = .ok (.iaload, 1) := by decide +kernel
theorem dX4_keepChain_137 : decode cX4_keepChain 137 = .ok (.iaload, 1) := by decide +kernel
theorem dX4_keepChain_138 : decode cX4_keepChain 138 = .ok (.istore_n 2, 1) := by decide +kernel
theorem dX4_keepChain_139 : decode cX4_keepChain 139 = .ok (.aload_n 0, 1) := by decide +kernel
theorem dX4_keepChain_140 : decode cX4_keepChain 140 = .ok (.getfield 34, 3) := by decide +kernel
theorem dX4_keepChain_143 : decode cX4_keepChain 143 = .ok (.getfield 76, 3) := by decide +kernel
theorem dX4_keepChain_146 : decode cX4_keepChain 146 = .ok (.iload 6, 2) := by decide +kernel
theorem dX4_keepChain_148 : decode cX4_keepChain 148 = .ok (.aaload, 1) := by decide +kernel
theorem dX4_keepChain_149 : decode cX4_keepChain 149 = .ok (.aload_n 0, 1) := by decide +kernel
theorem dX4_keepChain_150 : decode cX4_keepChain 150 = .ok (.getfield 24, 3) := by decide +kernel
theorem dX4_keepChain_153 : decode cX4_keepChain 153 = .ok (.iload 5, 2) := by decide +kernel
theorem dX4_keepChain_155 : decode cX4_keepChain 155 = .ok (.iaload, 1) := by decide +kernel
theorem dX4_keepChain_156 : decode cX4_keepChain 156 = .ok (.iaload, 1) := by decide +kernel
theorem dX4_keepChain_157 : decode cX4_keepChain 157 = .ok (.istore_n 3, 1) := by decide +kernel
theorem dX4_keepChain_158 : decode cX4_keepChain 158 = .ok (.aload_n 0, 1) := by decide +kernel
theorem dX4_keepChain_159 : decode cX4_keepChain 159 = .ok (.getfield 30, 3) := by decide +kernel
theorem dX4_keepChain_162 : decode cX4_keepChain 162 = .ok (.getfield 114, 3) := by decide +kernel
theorem dX4_keepChain_165 : decode cX4_keepChain 165 = .ok (.iload_n 2, 1) := by decide +kernel
theorem dX4_keepChain_166 : decode cX4_keepChain 166 = .ok (.iaload, 1) := by decide +kernel
theorem dX4_keepChain_167 : decode cX4_keepChain 167 = .ok (.istore 4, 2) := by decide +kernel
theorem dX4_keepChain_169 : decode cX4_keepChain 169 = .ok (.iinc 5 (-1), 3) := by decide +kernel
theorem dX4_keepChain_172 : decode cX4_keepChain 172 = .ok (.goto (-144), 3) := by decide +kernel
theorem dX4_keepChain_175 : decode cX4_keepChain 175 = .ok (.return_, 1) := by decide +kernel
theorem dX4_findRide_0 : decode cX4_findRide 0 = .ok (.iconst 0, 1) := by decide +kernel
theorem dX4_findRide_1 : decode cX4_findRide 1 = .ok (.istore 5, 2) := by decide +kernel
theorem dX4_findRide_3 : decode cX4_findRide 3 = .ok (.iload 5, 2) := by decide +kernel
theorem dX4_findRide_5 : decode cX4_findRide 5 = .ok (.aload_n 0, 1) := by decide +kernel
theorem dX4_findRide_6 : decode cX4_findRide 6 = .ok (.getfield 34, 3) := by decide +kernel
theorem dX4_findRide_9 : decode cX4_findRide 9 = .ok (.getfield 57, 3) := by decide +kernel
theorem dX4_findRide_12 : decode cX4_findRide 12 = .ok (.if_icmp .ge 27, 3) := by decide +kernel
theorem dX4_findRide_15 : decode cX4_findRide 15 = .ok (.aload_n 0, 1) := by decide +kernel
theorem dX4_findRide_16 : decode cX4_findRide 16 = .ok (.iload 5, 2) := by decide +kernel
theorem dX4_findRide_18 : decode cX4_findRide 18 = .ok (.iload_n 1, 1) := by decide +kernel
theorem dX4_findRide_19 : decode cX4_findRide 19 = .ok (.iload_n 2, 1) := by decide +kernel
theorem dX4_findRide_20 : decode cX4_findRide 20 = .ok (.iload_n 3, 1) := by decide +kernel
theorem dX4_findRide_21 : decode cX4_findRide 21 = .ok (.iload 4, 2) := by decide +kernel
theorem dX4_findRide_23 : decode cX4_findRide 23 = .ok (.invokevirtual 106, 3) := by decide +kernel
theorem dX4_findRide_26 : decode cX4_findRide 26 = .ok (.iconst (-1), 1) := by decide +kernel
theorem dX4_findRide_27 : decode cX4_findRide 27 = .ok (.if_icmp .eq 6, 3) := by decide +kernel
theorem dX4_findRide_30 : decode cX4_findRide 30 = .ok (.iload 5, 2) := by decide +kernel
theorem dX4_findRide_32 : decode cX4_findRide 32 = .ok (.ireturn, 1) := by decide +kernel
theorem dX4_findRide_33 : decode cX4_findRide 33 = .ok (.iinc 5 1, 3) := by decide +kernel
theorem dX4_findRide_36 : decode cX4_findRide 36 = .ok (.goto (-33), 3) := by decide +kernel
theorem dX4_findRide_39 : decode cX4_findRide 39 = .ok (.iconst 0, 1) := by decide +kernel
theorem dX4_findRide_40 : decode cX4_findRide 40 = .ok (.ireturn, 1) := by decide +kernel
theorem dX4_offCall_0 : decode cX4_offCall 0 = .ok (.iconst 0, 1) := by decide +kernel
theorem dX4_offCall_1 : decode cX4_offCall 1 = .ok (.istore 6, 2) := by decide +kernel
theorem dX4_offCall_3 : decode cX4_offCall 3 = .ok (.iconst 0, 1) := by decide +kernel
theorem dX4_offCall_4 : decode cX4_offCall 4 = .ok (.istore 7, 2) := by decide +kernel
theorem dX4_offCall_6 : decode cX4_offCall 6 = .ok (.iload 7, 2) := by decide +kernel
theorem dX4_offCall_8 : decode cX4_offCall 8 = .ok (.aload_n 0, 1) := by decide +kernel
theorem dX4_offCall_9 : decode cX4_offCall 9 = .ok (.getfield 34, 3) := by decide +kernel
theorem dX4_offCall_12 : decode cX4_offCall 12 = .ok (.getfield 62, 3) := by decide +kernel
theorem dX4_offCall_15 : decode cX4_offCall 15 = .ok (.iload_n 1, 1) := by decide +kernel
theorem dX4_offCall_16 : decode cX4_offCall 16 = .ok (.iaload, 1) := by decide +kernel
theorem dX4_offCall_17 : decode cX4_offCall 17 = .ok (.if_icmp .ge 130, 3) := by decide +kernel
theorem dX4_offCall_20 : decode cX4_offCall 20 = .ok (.aload_n 0, 1) := by decide +kernel
theorem dX4_offCall_21 : decode cX4_offCall 21 = .ok (.getfield 34, 3) := by decide +kernel
theorem dX4_offCall_24 : decode cX4_offCall 24 = .ok (.getfield 65, 3) := by decide +kernel
theorem dX4_offCall_27 : decode cX4_offCall 27 = .ok (.iload_n 1, 1) := by decide +kernel
theorem dX4_offCall_28 : decode cX4_offCall 28 = .ok (.aaload, 1) := by decide +kernel
theorem dX4_offCall_29 : decode cX4_offCall 29 = .ok (.iload 7, 2) := by decide +kernel
theorem dX4_offCall_31 : decode cX4_offCall 31 = .ok (.iaload, 1) := by decide +kernel
theorem dX4_offCall_32 : decode cX4_offCall 32 = .ok (.iload_n 3, 1) := by decide +kernel
theorem dX4_offCall_33 : decode cX4_offCall 33 = .ok (.if_icmp .ne 8, 3) := by decide +kernel
theorem dX4_offCall_36 : decode cX4_offCall 36 = .ok (.iload 5, 2) := by decide +kernel
theorem dX4_offCall_38 : decode cX4_offCall 38 = .ok (.goto 25, 3) := by decide +kernel
theorem dX4_offCall_41 : decode cX4_offCall 41 = .ok (.aload_n 0, 1) := by decide +kernel
theorem dX4_offCall_42 : decode cX4_offCall 42 = .ok (.getfield 30, 3) := by decide +kernel
theorem dX4_offCall_45 : decode cX4_offCall 45 = .ok (.getfield 119, 3) := by decide +kernel
theorem dX4_offCall_48 : decode cX4_offCall 48 = .ok (.aload_n 0, 1) := by decide +kernel
theorem dX4_offCall_49 : decode cX4_offCall 49 = .ok (.getfield 34, 3) := by decide +kernel
theorem dX4_offCall_52 : decode cX4_offCall 52 = .ok (.getfield 65, 3) := by decide +kernel
theorem dX4_offCall_55 : decode cX4_offCall 55 = .ok (.iload_n 1, 1) := by decide +kernel
theorem dX4_offCall_56 : decode cX4_offCall 56 = .ok (.aaload, 1) := by decide +kernel
theorem dX4_offCall_57 : decode cX4_offCall 57 = .ok (.iload 7, 2) := by decide +kernel
theorem dX4_offCall_59 : decode cX4_offCall 59 = .ok (.iaload, 1) := by decide +kernel
theorem dX4_offCall_60 : decode cX4_offCall 60 = .ok (.aaload, 1) := by decide +kernel
theorem dX4_offCall_61 : decode cX4_offCall 61 = .ok (.iload_n 3, 1) := by decide +kernel
theorem dX4_offCall_62 : decode cX4_offCall 62 = .ok (.iaload, 1) := by decide +kernel
theorem dX4_offCall_63 : decode cX4_offCall 63 = .ok (.istore 8, 2) := by decide +kernel
theorem dX4_offCall_65 : decode cX4_offCall 65 = .ok (.iload 6, 2) := by decide +kernel
theorem dX4_offCall_67 : decode cX4_offCall 67 = .ok (.ifCond .eq 26, 3) := by decide +kernel
theorem dX4_offCall_70 : decode cX4_offCall 70 = .ok (.aload_n 0, 1) := by decide +kernel
theorem dX4_offCall_71 : decode cX4_offCall 71 = .ok (.getfield 34, 3) := by decide +kernel
theorem dX4_offCall_74 : decode cX4_offCall 74 = .ok (.getfield 69, 3) := by decide +kernel
theorem dX4_offCall_77 : decode cX4_offCall 77 = .ok (.iload_n 1, 1) := by decide +kernel
theorem dX4_offCall_78 : decode cX4_offCall 78 = .ok (.aaload, 1) := by decide +kernel
theorem dX4_offCall_79 : decode cX4_offCall 79 = .ok (.iload 7, 2) := by decide +kernel
theorem dX4_offCall_81 : decode cX4_offCall 81 = .ok (.iaload, 1) := by decide +kernel
theorem dX4_offCall_82 : decode cX4_offCall 82 = .ok (.iload 8, 2) := by decide +kernel
theorem dX4_offCall_84 : decode cX4_offCall 84 = .ok (.iadd, 1) := by decide +kernel
theorem dX4_offCall_85 : decode cX4_offCall 85 = .ok (.iload 4, 2) := by decide +kernel
theorem dX4_offCall_87 : decode cX4_offCall 87 = .ok (.if_icmp .gt 6, 3) := by decide +kernel
theorem dX4_offCall_90 : decode cX4_offCall 90 = .ok (.iload 7, 2) := by decide +kernel
theorem dX4_offCall_92 : decode cX4_offCall 92 = .ok (.ireturn, 1) := by decide +kernel
theorem dX4_offCall_93 : decode cX4_offCall 93 = .ok (.iload 6, 2) := by decide +kernel
theorem dX4_offCall_95 : decode cX4_offCall 95 = .ok (.ifCond .ne 39, 3) := by decide +kernel
theorem dX4_offCall_98 : decode cX4_offCall 98 = .ok (.aload_n 0, 1) := by decide +kernel
theorem dX4_offCall_99 : decode cX4_offCall 99 = .ok (.getfield 11, 3) := by decide +kernel
theorem dX4_offCall_102 : decode cX4_offCall 102 = .ok (.iload_n 2, 1) := by decide +kernel
theorem dX4_offCall_103 : decode cX4_offCall 103 = .ok (.aaload, 1) := by decide +kernel
theorem dX4_offCall_104 : decode cX4_offCall 104 = .ok (.aload_n 0, 1) := by decide +kernel
theorem dX4_offCall_105 : decode cX4_offCall 105 = .ok (.getfield 34, 3) := by decide +kernel
theorem dX4_offCall_108 : decode cX4_offCall 108 = .ok (.getfield 65, 3) := by decide +kernel
theorem dX4_offCall_111 : decode cX4_offCall 111 = .ok (.iload_n 1, 1) := by decide +kernel
theorem dX4_offCall_112 : decode cX4_offCall 112 = .ok (.aaload, 1) := by decide +kernel
theorem dX4_offCall_113 : decode cX4_offCall 113 = .ok (.iload 7, 2) := by decide +kernel
theorem dX4_offCall_115 : decode cX4_offCall 115 = .ok (.iaload, 1) := by decide +kernel
theorem dX4_offCall_116 : decode cX4_offCall 116 = .ok (.aload_n 0, 1) := by decide +kernel
theorem dX4_offCall_117 : decode cX4_offCall 117 = .ok (.getfield 34, 3) := by decide +kernel
theorem dX4_offCall_120 : decode cX4_offCall 120 = .ok (.getfield 76, 3) := by decide +kernel
theorem dX4_offCall_123 : decode cX4_offCall 123 = .ok (.iload_n 1, 1) := by decide +kernel
theorem dX4_offCall_124 : decode cX4_offCall 124 = .ok (.aaload, 1) := by decide +kernel
theorem dX4_offCall_125 : decode cX4_offCall 125 = .ok (.iload 7, 2) := by decide +kernel
theorem dX4_offCall_127 : decode cX4_offCall 127 = .ok (.iaload, 1) := by decide +kernel
theorem dX4_offCall_128 : decode cX4_offCall 128 = .ok (.invokevirtual 79, 3) := by decide +kernel
theorem dX4_offCall_131 : decode cX4_offCall 131 = .ok (.ifCond .eq 7, 3) := by decide +kernel
theorem dX4_offCall_134 : decode cX4_offCall 134 = .ok (.iconst 1, 1) := by decide +kernel
theorem dX4_offCall_135 : decode cX4_offCall 135 = .ok (.goto 4, 3) := by decide +kernel
theorem dX4_offCall_138 : decode cX4_offCall 138 = .ok (.iconst 0, 1) := by decide +kernel
theorem dX4_offCall_139 : decode cX4_offCall 139 = .ok (.istore 6, 2) := by decide +kernel
theorem dX4_offCall_141 : decode cX4_offCall 141 = .ok (.iinc 7 1, 3) := by decide +kernel
theorem dX4_offCall_144 : decode cX4_offCall 144 = .ok (.goto (-138), 3) := by decide +kernel
theorem dX4_offCall_147 : decode cX4_offCall 147 = .ok (.iconst (-1), 1) := by decide +kernel
theorem dX4_offCall_148 : decode cX4_offCall 148 = .ok (.ireturn, 1) := by decide +kernel
theorem dX4_onCall_0 : decode cX4_onCall 0 = .ok (.iload_n 3, 1) := by decide +kernel
theorem dX4_onCall_1 : decode cX4_onCall 1 = .ok (.iconst 1, 1) := by decide +kernel
theorem dX4_onCall_2 : decode cX4_onCall 2 = .ok (.isub, 1) := by decide +kernel
theorem dX4_onCall_3 : decode cX4_onCall 3 = .ok (.istore 4, 2) := by decide +kernel
theorem dX4_onCall_5 : decode cX4_onCall 5 = .ok (.iload 4, 2) := by decide +kernel
theorem dX4_onCall_7 : decode cX4_onCall 7 = .ok (.ifCond .le 48, 3) := by decide +kernel
theorem dX4_onCall_10 : decode cX4_onCall 10 = .ok (.aload_n 0, 1) := by decide +kernel
theorem dX4_onCall_11 : decode cX4_onCall 11 = .ok (.getfield 11, 3) := by decide +kernel
theorem dX4_onCall_14 : decode cX4_onCall 14 = .ok (.iload_n 2, 1) := by decide +kernel
theorem dX4_onCall_15 : decode cX4_onCall 15 = .ok (.aaload, 1) := by decide +kernel
theorem dX4_onCall_16 : decode cX4_onCall 16 = .ok (.aload_n 0, 1) := by decide +kernel
theorem dX4_onCall_17 : decode cX4_onCall 17 = .ok (.getfield 34, 3) := by decide +kernel
theorem dX4_onCall_20 : decode cX4_onCall 20 = .ok (.getfield 65, 3) := by decide +kernel
theorem dX4_onCall_23 : decode cX4_onCall 23 = .ok (.iload_n 1, 1) := by decide +kernel
theorem dX4_onCall_24 : decode cX4_onCall 24 = .ok (.aaload, 1) := by decide +kernel
theorem dX4_onCall_25 : decode cX4_onCall 25 = .ok (.iload 4, 2) := by decide +kernel
theorem dX4_onCall_27 : decode cX4_onCall 27 = .ok (.iaload, 1) := by decide +kernel
theorem dX4_onCall_28 : decode cX4_onCall 28 = .ok (.aload_n 0, 1) := by decide +kernel
theorem dX4_onCall_29 : decode cX4_onCall 29 = .ok (.getfield 34, 3) := by decide +kernel
theorem dX4_onCall_32 : decode cX4_onCall 32 = .ok (.getfield 76, 3) := by decide +kernel
theorem dX4_onCall_35 : decode cX4_onCall 35 = .ok (.iload_n 1, 1) := by decide +kernel
theorem dX4_onCall_36 : decode cX4_onCall 36 = .ok (.aaload, 1) := by decide +kernel
theorem dX4_onCall_37 : decode cX4_onCall 37 = .ok (.iload 4, 2) := by decide +kernel
theorem dX4_onCall_39 : decode cX4_onCall 39 = .ok (.iaload, 1) := by decide +kernel
theorem dX4_onCall_40 : decode cX4_onCall 40 = .ok (.invokevirtual 79, 3) := by decide +kernel
theorem dX4_onCall_43 : decode cX4_onCall 43 = .ok (.ifCond .eq 6, 3) := by decide +kernel
theorem dX4_onCall_46 : decode cX4_onCall 46 = .ok (.iload 4, 2) := by decide +kernel
theorem dX4_onCall_48 : decode cX4_onCall 48 = .ok (.ireturn, 1) := by decide +kernel
theorem dX4_onCall_49 : decode cX4_onCall 49 = .ok (.iinc 4 (-1), 3) := by decide +kernel
theorem dX4_onCall_52 : decode cX4_onCall 52 = .ok (.goto (-47), 3) := by decide +kernel
theorem dX4_onCall_55 : decode cX4_onCall 55 = .ok (.iconst 0, 1) := by decide +kernel
theorem dX4_onCall_56 : decode cX4_onCall 56 = .ok (.ireturn, 1) := by decide +kernel
theorem dX5_init_0 : decode cX5_init 0 = .ok (.aload_n 0, 1) := by decide +kernel
theorem dX5_init_1 : decode cX5_init 1 = .ok (.invokespecial 3, 3) := by decide +kernel
theorem dX5_init_4 : decode cX5_init 4 = .ok (.aload_n 0, 1) := by decide +kernel
theorem dX5_init_5 : decode cX5_init 5 = .ok (.bipush 80, 2) := by decide +kernel
theorem dX5_init_7 : decode cX5_init 7 = .ok (.newarray .char, 2) := by decide +kernel
theorem dX5_init_9 : decode cX5_init 9 = .ok (.putfield 9, 3) := by decide +kernel
theorem dX5_init_12 : decode cX5_init 12 = .ok (.aload_n 0, 1) := by decide +kernel
theorem dX5_init_13 : decode cX5_init 13 = .ok (.iconst (-1), 1) := by decide +kernel
theorem dX5_init_14 : decode cX5_init 14 = .ok (.putfield 15, 3) := by decide +kernel
theorem dX5_init_17 : decode cX5_init 17 = .ok (.aload_n 0, 1) := by decide +kernel
theorem dX5_init_18 : decode cX5_init 18 = .ok (.bipush 8, 2) := by decide +kernel
theorem dX5_init_20 : decode cX5_init 20 = .ok (.newarray .int, 2) := by decide +kernel
theorem dX5_init_22 : decode cX5_init 22 = .ok (.putfield 19, 3) := by decide +kernel
theorem dX5_init_25 : decode cX5_init 25 = .ok (.aload_n 0, 1) := by decide +kernel
theorem dX5_init_26 : decode cX5_init 26 = .ok (.bipush 8, 2) := by decide +kernel
theorem dX5_init_28 : decode cX5_init 28 = .ok (.newarray .int, 2) := by decide +kernel
theorem dX5_init_30 : decode cX5_init 30 = .ok (.putfield 23, 3) := by decide +kernel
theorem dX5_init_33 : decode cX5_init 33 = .ok (.aload_n 0, 1) := by decide +kernel
theorem dX5_init_34 : decode cX5_init 34 = .ok (.bipush 8, 2) := by decide +kernel
theorem dX5_init_36 : decode cX5_init 36 = .ok (.newarray .int, 2) := by decide +kernel
theorem dX5_init_38 : decode cX5_init 38 = .ok (.putfield 26, 3) := by decide +kernel
theorem dX5_init_41 : decode cX5_init 41 = .ok (.return_, 1) := by decide +kernel
theorem dX6_init_0 : decode cX6_init 0 = .ok (.aload_n 0, 1) := by decide +kernel
theorem dX6_init_1 : decode cX6_init 1 = .ok (.invokespecial 3, 3) := by decide +kernel
theorem dX6_init_4 : decode cX6_init 4 = .ok (.aload_n 0, 1) := by decide +kernel
theorem dX6_init_5 : decode cX6_init 5 = .ok (.bipush 72, 2) := by decide +kernel
theorem dX6_init_7 : decode cX6_init 7 = .ok (.newarray .boolean, 2) := by decide +kernel
theorem dX6_init_9 : decode cX6_init 9 = .ok (.putfield 9, 3) := by decide +kernel
theorem dX6_init_12 : decode cX6_init 12 = .ok (.aload_n 0, 1) := by decide +kernel
theorem dX6_init_13 : decode cX6_init 13 = .ok (.bipush 12, 2) := by decide +kernel
theorem dX6_init_15 : decode cX6_init 15 = .ok (.newarray .int, 2) := by decide +kernel
theorem dX6_init_17 : decode cX6_init 17 = .ok (.putfield 15, 3) := by decide +kernel
theorem dX6_init_20 : decode cX6_init 20 = .ok (.aload_n 0, 1) := by decide +kernel
theorem dX6_init_21 : decode cX6_init 21 = .ok (.bipush 12, 2) := by decide +kernel
theorem dX6_init_23 : decode cX6_init 23 = .ok (.newarray .int, 2) := by decide +kernel
theorem dX6_init_25 : decode cX6_init 25 = .ok (.putfield 19, 3) := by decide +kernel
theorem dX6_init_28 : decode cX6_init 28 = .ok (.aload_n 0, 1) := by decide +kernel
theorem dX6_init_29 : decode cX6_init 29 = .ok (.bipush 24, 2) := by decide +kernel
theorem dX6_init_31 : decode cX6_init 31 = .ok (.newarray .boolean, 2) := by decide +kernel
theorem dX6_init_33 : decode cX6_init 33 = .ok (.putfield 22, 3) := by decide +kernel
theorem dX6_init_36 : decode cX6_init 36 = .ok (.aload_n 0, 1) := by decide +kernel
theorem dX6_init_37 : decode cX6_init 37 = .ok (.sipush 576, 3) := by decide +kernel
theorem dX6_init_40 : decode cX6_init 40 = .ok (.newarray .int, 2) := by decide +kernel
theorem dX6_init_42 : decode cX6_init 42 = .ok (.putfield 25, 3) := by decide +kernel
theorem dX6_init_45 : decode cX6_init 45 = .ok (.aload_n 0, 1) := by decide +kernel
theorem dX6_init_46 : decode cX6_init 46 = .ok (.sipush 576, 3) := by decide +kernel
theorem dX6_init_49 : decode cX6_init 49 = .ok (.newarray .int, 2) := by decide +kernel
theorem dX6_init_51 : decode cX6_init 51 = .ok (.putfield 28, 3) := by decide +kernel
theorem dX6_init_54 : decode cX6_init 54 = .ok (.aload_n 0, 1) := by decide +kernel
theorem dX6_init_55 : decode cX6_init 55 = .ok (.aload_n 1, 1) := by decide +kernel
theorem dX6_init_56 : decode cX6_init 56 = .ok (.putfield 31, 3) := by decide +kernel
theorem dX6_init_59 : decode cX6_init 59 = .ok (.aload_n 0, 1) := by decide +kernel
theorem dX6_init_60 : decode cX6_init 60 = .ok (.aload_n 2, 1) := by decide +kernel
theorem dX6_init_61 : decode cX6_init 61 = .ok (.putfield 35, 3) := by decide +kernel
theorem dX6_init_64 : decode cX6_init 64 = .ok (.aload_n 0, 1) := by decide +kernel
theorem dX6_init_65 : decode cX6_init 65 = .ok (.new 39, 3) := by decide +kernel
theorem dX6_init_68 : decode cX6_init 68 = .ok (.dup, 1) := by decide +kernel
theorem dX6_init_69 : decode cX6_init 69 = .ok (.aload_n 1, 1) := by decide +kernel
theorem dX6_init_70 : decode cX6_init 70 = .ok (.invokespecial 41, 3) := by decide +kernel
theorem dX6_init_73 : decode cX6_init 73 = .ok (.putfield 44, 3) := by decide +kernel
theorem dX6_init_76 : decode cX6_init 76 = .ok (.return_, 1) := by decide +kernel
theorem dX6_scan_0 : decode cX6_scan 0 = .ok (.aload_n 0, 1) := by decide +kernel
theorem dX6_scan_1 : decode cX6_scan 1 = .ok (.getfield 44, 3) := by decide +kernel
theorem dX6_scan_4 : decode cX6_scan 4 = .ok (.iload_n 1, 1) := by decide +kernel
theorem dX6_scan_5 : decode cX6_scan 5 = .ok (.iload_n 2, 1) := by decide +kernel
theorem dX6_scan_6 : decode cX6_scan 6 = .ok (.invokevirtual 48, 3) := by decide +kernel
theorem dX6_scan_9 : decode cX6_scan 9 = .ok (.aload_n 0, 1) := by decide +kernel
theorem dX6_scan_10 : decode cX6_scan 10 = .ok (.iload_n 2, 1) := by decide +kernel
theorem dX6_scan_11 : decode cX6_scan 11 = .ok (.invokevirtual 52, 3) := by decide +kernel
theorem dX6_scan_14 : decode cX6_scan 14 = .ok (.return_, 1) := by decide +kernel
theorem dX6_leaveRuns_0 : decode cX6_leaveRuns 0 = .ok (.iconst 0, 1) := by decide +kernel
theorem dX6_leaveRuns_1 : decode cX6_leaveRuns 1 = .ok (.istore_n 1, 1) := by decide +kernel
theorem dX6_leaveRuns_2 : decode cX6_leaveRuns 2 = .ok (.iload_n 1, 1) := by decide +kernel
theorem dX6_leaveRuns_3 : decode cX6_leaveRuns 3 = .ok (.aload_n 0, 1) := by decide +kernel
theorem dX6_leaveRuns_4 : decode cX6_leaveRuns 4 = .ok (.getfield 35, 3) := by decide +kernel
theorem dX6_leaveRuns_7 : decode cX6_leaveRuns 7 = .ok (.getfield 59, 3) := by decide +kernel
theorem dX6_leaveRuns_10 : decode cX6_leaveRuns 10 = .ok (.if_icmp .ge 16, 3) := by decide +kernel
theorem dX6_leaveRuns_13 : decode cX6_leaveRuns 13 = .ok (.aload_n 0, 1) := by decide +kernel
theorem dX6_leaveRuns_14 : decode cX6_leaveRuns 14 = .ok (.getfield 9, 3) := by decide +kernel
theorem dX6_leaveRuns_17 : decode cX6_leaveRuns 17 = .ok (.iload_n 1, 1) := by decide +kernel
theorem dX6_leaveRuns_18 : decode cX6_leaveRuns 18 = .ok (.iconst 0, 1) := by decide +kernel
theorem dX6_leaveRuns_19 : decode cX6_leaveRuns 19 = .ok (.bastore, 1) := by decide +kernel
theorem dX6_leaveRuns_20 : decode cX6_leaveRuns 20 = .ok (.iinc 1 1, 3) := by decide +kernel
theorem dX6_leaveRuns_23 : decode cX6_leaveRuns 23 = .ok (.goto (-21), 3) := by decide +kernel
theorem dX6_leaveRuns_26 : decode cX6_leaveRuns 26 = .ok (.return_, 1) := by decide +kernel
theorem dX6_readHops_0 : decode cX6_readHops 0 = .ok (.aload_n 0, 1) := by decide +kernel
theorem dX6_readHops_1 : decode cX6_readHops 1 = .ok (.invokevirtual 85, 3) := by decide +kernel
theorem dX6_readHops_4 : decode cX6_readHops 4 = .ok (.iconst 0, 1) := by decide +kernel
theorem dX6_readHops_5 : decode cX6_readHops 5 = .ok (.istore_n 2, 1) := by decide +kernel
theorem dX6_readHops_6 : decode cX6_readHops 6 = .ok (.iload_n 2, 1) := by decide +kernel
theorem dX6_readHops_7 : decode cX6_readHops 7 = .ok (.aload_n 0, 1) := by decide +kernel
theorem dX6_readHops_8 : decode cX6_readHops 8 = .ok (.getfield 35, 3) := by decide +kernel
theorem dX6_readHops_11 : decode cX6_readHops 11 = .ok (.getfield 88, 3) := by decide +kernel
theorem dX6_readHops_14 : decode cX6_readHops 14 = .ok (.if_icmp .ge 131, 3) := by decide +kernel
theorem dX6_readHops_17 : decode cX6_readHops 17 = .ok (.aload_n 0, 1) := by decide +kernel
theorem dX6_readHops_18 : decode cX6_readHops 18 = .ok (.getfield 35, 3) := by decide +kernel
theorem dX6_readHops_21 : decode cX6_readHops 21 = .ok (.getfield 91, 3) := by decide +kernel
theorem dX6_readHops_24 : decode cX6_readHops 24 = .ok (.iload_n 2, 1) := by decide +kernel
theorem dX6_readHops_25 : decode cX6_readHops 25 = .ok (.iaload, 1) := by decide +kernel
theorem dX6_readHops_26 : decode cX6_readHops 26 = .ok (.istore_n 3, 1) := by decide +kernel
theorem dX6_readHops_27 : decode cX6_readHops 27 = .ok (.iload_n 3, 1) := by decide +kernel
theorem dX6_readHops_28 : decode cX6_readHops 28 = .ok (.sipush 1024, 3) := by decide +kernel
theorem dX6_readHops_31 : decode cX6_readHops 31 = .ok (.idiv, 1) := by decide +kernel
theorem dX6_readHops_32 : decode cX6_readHops 32 = .ok (.istore 4, 2) := by decide +kernel
theorem dX6_readHops_34 : decode cX6_readHops 34 = .ok (.iload_n 3, 1) := by decide +kernel
theorem dX6_readHops_35 : decode cX6_readHops 35 = .ok (.invokestatic 94, 3) := by decide +kernel
theorem dX6_readHops_38 : decode cX6_readHops 38 = .ok (.istore 5, 2) := by decide +kernel
theorem dX6_readHops_40 : decode cX6_readHops 40 = .ok (.iload_n 3, 1) := by decide +kernel
theorem dX6_readHops_41 : decode cX6_readHops 41 = .ok (.invokestatic 98, 3) := by decide +kernel
theorem dX6_readHops_44 : decode cX6_readHops 44 = .ok (.istore 6, 2) := by decide +kernel
theorem dX6_readHops_46 : decode cX6_readHops 46 = .ok (.iload 4, 2) := by decide +kernel
theorem dX6_readHops_48 : decode cX6_readHops 48 = .ok (.iload_n 1, 1) := by decide +kernel
theorem dX6_readHops_49 : decode cX6_readHops 49 = .ok (.if_icmp .lt 42, 3) := by decide +kernel
theorem dX6_readHops_52 : decode cX6_readHops 52 = .ok (.aload_n 0, 1) := by decide +kernel
theorem dX6_readHops_53 : decode cX6_readHops 53 = .ok (.getfield 9, 3) := by decide +kernel
theorem dX6_readHops_56 : decode cX6_readHops 56 = .ok (.iload 5, 2) := by decide +kernel
theorem dX6_readHops_58 : decode cX6_readHops 58 = .ok (.baload, 1) := by decide +kernel
theorem dX6_readHops_59 : decode cX6_readHops 59 = .ok (.ifCond .ne 32, 3) := by decide +kernel
theorem dX6_readHops_62 : decode cX6_readHops 62 = .ok (.aload_n 0, 1) := by decide +kernel
theorem dX6_readHops_63 : decode cX6_readHops 63 = .ok (.getfield 9, 3) := by decide +kernel
theorem dX6_readHops_66 : decode cX6_readHops 66 = .ok (.iload 5, 2) := by decide +kernel
theorem dX6_readHops_68 : decode cX6_readHops 68 = .ok (.aload_n 0, 1) := by decide +kernel
theorem dX6_readHops_69 : decode cX6_readHops 69 = .ok (.getfield 44, 3) := by decide +kernel
theorem dX6_readHops_72 : decode cX6_readHops 72 = .ok (.aload_n 0, 1) := by decide +kernel
theorem dX6_readHops_73 : decode cX6_readHops 73 = .ok (.getfield 35, 3) := by decide +kernel
theorem dX6_readHops_76 : decode cX6_readHops 76 = .ok (.getfield 74, 3) := by decide +kernel
theorem dX6_readHops_79 : decode cX6_readHops 79 = .ok (.iload 5, 2) := by decide +kernel
theorem dX6_readHops_81 : decode cX6_readHops 81 = .ok (.aaload, 1) := by decide +kernel
theorem dX6_readHops_82 : decode cX6_readHops 82 = .ok (.iload 6, 2) := by decide +kernel
theorem dX6_readHops_84 : decode cX6_readHops 84 = .ok (.iaload, 1) := by decide +kernel
theorem dX6_readHops_85 : decode cX6_readHops 85 = .ok (.iload 4, 2) := by decide +kernel
theorem dX6_readHops_87 : decode cX6_readHops 87 = .ok (.invokevirtual 101, 3) := by decide +kernel
theorem dX6_readHops_90 : decode cX6_readHops 90 = .ok (.bastore, 1) := by decide +kernel
theorem dX6_readHops_91 : decode cX6_readHops 91 = .ok (.aload_n 0, 1) := by decide +kernel
theorem dX6_readHops_92 : decode cX6_readHops 92 = .ok (.getfield 9, 3) := by decide +kernel
theorem dX6_readHops_95 : decode cX6_readHops 95 = .ok (.iload 5, 2) := by decide +kernel
theorem dX6_readHops_97 : decode cX6_readHops 97 = .ok (.baload, 1) := by decide +kernel
theorem dX6_readHops_98 : decode cX6_readHops 98 = .ok (.ifCond .eq 41, 3) := by decide +kernel
theorem dX6_readHops_101 : decode cX6_readHops 101 = .ok (.aload_n 0, 1) := by decide +kernel
theorem dX6_readHops_102 : decode cX6_readHops 102 = .ok (.getfield 44, 3) := by decide +kernel
theorem dX6_readHops_105 : decode cX6_readHops 105 = .ok (.aload_n 0, 1) := by decide +kernel
theorem dX6_readHops_106 : decode cX6_readHops 106 = .ok (.getfield 35, 3) := by decide +kernel
theorem dX6_readHops_109 : decode cX6_readHops 109 = .ok (.getfield 74, 3) := by decide +kernel
theorem dX6_readHops_112 : decode cX6_readHops 112 = .ok (.iload 5, 2) := by decide +kernel
theorem dX6_readHops_114 : decode cX6_readHops 114 = .ok (.aaload, 1) := by decide +kernel
theorem dX6_readHops_115 : decode cX6_readHops 115 = .ok (.iload 6, 2) := by decide +kernel
theorem dX6_readHops_117 : decode cX6_readHops 117 = .ok (.iconst 1, 1) := by decide +kernel
theorem dX6_readHops_118 : decode cX6_readHops 118 = .ok (.iadd, 1) := by decide +kernel
theorem dX6_readHops_119 : decode cX6_readHops 119 = .ok (.iaload, 1) := by decide +kernel
theorem dX6_readHops_120 : decode cX6_readHops 120 = .ok (.aload_n 0, 1) := by decide +kernel
theorem dX6_readHops_121 : decode cX6_readHops 121 = .ok (.getfield 35, 3) := by decide +kernel
theorem dX6_readHops_124 : decode cX6_readHops 124 = .ok (.getfield 78, 3) := by decide +kernel
theorem dX6_readHops_127 : decode cX6_readHops 127 = .ok (.iload 5, 2) := by decide +kernel
theorem dX6_readHops_129 : decode cX6_readHops 129 = .ok (.aaload, 1) := by decide +kernel
theorem dX6_readHops_130 : decode cX6_readHops 130 = .ok (.iload 6, 2) := by decide +kernel
theorem dX6_readHops_132 : decode cX6_readHops 132 = .ok (.iconst 1, 1) := by decide +kernel
theorem dX6_readHops_133 : decode cX6_readHops 133 = .ok (.iadd, 1) := by decide +kernel
theorem dX6_readHops_134 : decode cX6_readHops 134 = .ok (.iaload, 1) := by decide +kernel
theorem dX6_readHops_135 : decode cX6_readHops 135 = .ok (.invokevirtual 81, 3) := by decide +kernel
theorem dX6_readHops_138 : decode cX6_readHops 138 = .ok (.pop, 1) := by decide +kernel
theorem dX6_readHops_139 : decode cX6_readHops 139 = .ok (.iinc 2 1, 3) := by decide +kernel
theorem dX6_readHops_142 : decode cX6_readHops 142 = .ok (.goto (-136), 3) := by decide +kernel
theorem dX6_readHops_145 : decode cX6_readHops 145 = .ok (.return_, 1) := by decide +kernel
theorem dX6_lastLeave_0 : decode cX6_lastLeave 0 = .ok (.aload_n 0, 1) := by decide +kernel
theorem dX6_lastLeave_1 : decode cX6_lastLeave 1 = .ok (.iload_n 1, 1) := by decide +kernel
theorem dX6_lastLeave_2 : decode cX6_lastLeave 2 = .ok (.iload_n 2, 1) := by decide +kernel
theorem dX6_lastLeave_3 : decode cX6_lastLeave 3 = .ok (.iload_n 3, 1) := by decide +kernel
theorem dX6_lastLeave_4 : decode cX6_lastLeave 4 = .ok (.invokevirtual 104, 3) := by decide +kernel
theorem dX6_lastLeave_7 : decode cX6_lastLeave 7 = .ok (.istore 4, 2) := by decide +kernel
theorem dX6_lastLeave_9 : decode cX6_lastLeave 9 = .ok (.iload_n 1, 1) := by decide +kernel
theorem dX6_lastLeave_10 : decode cX6_lastLeave 10 = .ok (.iload_n 2, 1) := by decide +kernel
theorem dX6_lastLeave_11 : decode cX6_lastLeave 11 = .ok (.if_icmp .ne 7, 3) := by decide +kernel
theorem dX6_lastLeave_14 : decode cX6_lastLeave 14 = .ok (.iload_n 3, 1) := by decide +kernel
theorem dX6_lastLeave_15 : decode cX6_lastLeave 15 = .ok (.goto 16, 3) := by decide +kernel
theorem dX6_lastLeave_18 : decode cX6_lastLeave 18 = .ok (.iload_n 3, 1) := by decide +kernel
theorem dX6_lastLeave_19 : decode cX6_lastLeave 19 = .ok (.aload_n 0, 1) := by decide +kernel
theorem dX6_lastLeave_20 : decode cX6_lastLeave 20 = .ok (.getfield 31, 3) := by decide +kernel
theorem dX6_lastLeave_23 : decode cX6_lastLeave 23 = .ok (.getfield 108, 3) := by decide +kernel
theorem dX6_lastLeave_26 : decode cX6_lastLeave 26 = .ok (.iload_n 1, 1) := by decide +kernel
theorem dX6_lastLeave_27 : decode cX6_lastLeave 27 = .ok (.aaload, 1) := by decide +kernel
theorem dX6_lastLeave_28 : decode cX6_lastLeave 28 = .ok (.iload_n 2, 1) := by decide +kernel
theorem dX6_lastLeave_29 : decode cX6_lastLeave 29 = .ok (.iaload, 1) := by decide +kernel
theorem dX6_lastLeave_30 : decode cX6_lastLeave 30 = .ok (.isub, 1) := by decide +kernel
theorem dX6_lastLeave_31 : decode cX6_lastLeave 31 = .ok (.istore 5, 2) := by decide +kernel
theorem dX6_lastLeave_33 : decode cX6_lastLeave 33 = .ok (.iload 4, 2) := by decide +kernel
theorem dX6_lastLeave_35 : decode cX6_lastLeave 35 = .ok (.iload 5, 2) := by decide +kernel
theorem dX6_lastLeave_37 : decode cX6_lastLeave 37 = .ok (.invokestatic 113, 3) := by decide +kernel
theorem dX6_lastLeave_40 : decode cX6_lastLeave 40 = .ok (.ireturn, 1) := by decide +kernel
theorem dX6_lastLeaveByRides_0 : decode cX6_lastLeaveByRides 0 = .ok (.aload_n 0, 1) := by decide +kernel
theorem dX6_lastLeaveByRides_1 : decode cX6_lastLeaveByRides 1 = .ok (.iload_n 2, 1) := by decide +kernel
theorem dX6_lastLeaveByRides_2 : decode cX6_lastLeaveByRides 2 = .ok (.iload_n 3, 1) := by decide +kernel
theorem dX6_lastLeaveByRides_3 : decode cX6_lastLeaveByRides 3 = .ok (.invokevirtual 119, 3) := by decide +kernel
theorem dX6_lastLeaveByRides_6 : decode cX6_lastLeaveByRides 6 = .ok (.aload_n 0, 1) := by decide +kernel
theorem dX6_lastLeaveByRides_7 : decode cX6_lastLeaveByRides 7 = .ok (.getfield 15, 3) := by decide +kernel
theorem dX6_lastLeaveByRides_10 : decode cX6_lastLeaveByRides 10 = .ok (.iload_n 1, 1) := by decide +kernel
theorem dX6_lastLeaveByRides_11 : decode cX6_lastLeaveByRides 11 = .ok (.iaload, 1) := by decide +kernel
theorem dX6_lastLeaveByRides_12 : decode cX6_lastLeaveByRides 12 = .ok (.istore 4, 2) := by decide +kernel
theorem dX6_lastLeaveByRides_14 : decode cX6_lastLeaveByRides 14 = .ok (.iconst 0, 1) := by decide +kernel
theorem dX6_lastLeaveByRides_15 : decode cX6_lastLeaveByRides 15 = .ok (.istore 5, 2) := by decide +kernel
theorem dX6_lastLeaveByRides_17 : decode cX6_lastLeaveByRides 17 = .ok (.iload 5, 2) := by decide +kernel
theorem dX6_lastLeaveByRides_19 : decode cX6_lastLeaveByRides 19 = .ok (.aload_n 0, 1) := by decide +kernel
theorem dX6_lastLeaveByRides_20 : decode cX6_lastLeaveByRides 20 = .ok (.getfield 31, 3) := by decide +kernel
theorem dX6_lastLeaveByRides_23 : decode cX6_lastLeaveByRides 23 = .ok (.getfield 122, 3) := by decide +kernel
theorem dX6_lastLeaveByRides_26 : decode cX6_lastLeaveByRides 26 = .ok (.if_icmp .ge 36, 3) := by decide +kernel
theorem dX6_lastLeaveByRides_29 : decode cX6_lastLeaveByRides 29 = .ok (.iload 4, 2) := by decide +kernel
theorem dX6_lastLeaveByRides_31 : decode cX6_lastLeaveByRides 31 = .ok (.aload_n 0, 1) := by decide +kernel
theorem dX6_lastLeaveByRides_32 : decode cX6_lastLeaveByRides 32 = .ok (.getfield 15, 3) := by decide +kernel
theorem dX6_lastLeaveByRides_35 : decode cX6_lastLeaveByRides 35 = .ok (.iload 5, 2) := by decide +kernel
theorem dX6_lastLeaveByRides_37 : decode cX6_lastLeaveByRides 37 = .ok (.iaload, 1) := by decide +kernel
theorem dX6_lastLeaveByRides_38 : decode cX6_lastLeaveByRides 38 = .ok (.aload_n 0, 1) := by decide +kernel
theorem dX6_lastLeaveByRides_39 : decode cX6_lastLeaveByRides 39 = .ok (.getfield 31, 3) := by decide +kernel
theorem dX6_lastLeaveByRides_42 : decode cX6_lastLeaveByRides 42 = .ok (.getfield 108, 3) := by decide +kernel
theorem dX6_lastLeaveByRides_45 : decode cX6_lastLeaveByRides 45 = .ok (.iload_n 1, 1) := by decide +kernel
theorem dX6_lastLeaveByRides_46 : decode cX6_lastLeaveByRides 46 = .ok (.aaload, 1) := by decide +kernel
theorem dX6_lastLeaveByRides_47 : decode cX6_lastLeaveByRides 47 = .ok (.iload 5, 2) := by decide +kernel
theorem dX6_lastLeaveByRides_49 : decode cX6_lastLeaveByRides 49 = .ok (.iaload, 1) := by decide +kernel
theorem dX6_lastLeaveByRides_50 : decode cX6_lastLeaveByRides 50 = .ok (.isub, 1) := by decide +kernel
theorem dX6_lastLeaveByRides_51 : decode cX6_lastLeaveByRides 51 = .ok (.invokestatic 113, 3) := by decide +kernel
theorem dX6_lastLeaveByRides_54 : decode cX6_lastLeaveByRides 54 = .ok (.istore 4, 2) := by decide +kernel
theorem dX6_lastLeaveByRides_56 : decode cX6_lastLeaveByRides 56 = .ok (.iinc 5 1, 3) := by decide +kernel
theorem dX6_lastLeaveByRides_59 : decode cX6_lastLeaveByRides 59 = .ok (.goto (-42), 3) := by decide +kernel
theorem dX6_lastLeaveByRides_62 : decode cX6_lastLeaveByRides 62 = .ok (.iload 4, 2) := by decide +kernel
theorem dX6_lastLeaveByRides_64 : decode cX6_lastLeaveByRides 64 = .ok (.ireturn, 1) := by decide +kernel
theorem dX6_scanBack_0 : decode cX6_scanBack 0 = .ok (.aload_n 0, 1) := by decide +kernel
theorem dX6_scanBack_1 : decode cX6_scanBack 1 = .ok (.invokevirtual 85, 3) := by decide +kernel
theorem dX6_scanBack_4 : decode cX6_scanBack 4 = .ok (.iconst 0, 1) := by decide +kernel
theorem dX6_scanBack_5 : decode cX6_scanBack 5 = .ok (.istore_n 3, 1) := by decide +kernel
theorem dX6_scanBack_6 : decode cX6_scanBack 6 = .ok (.iload_n 3, 1) := by decide +kernel
theorem dX6_scanBack_7 : decode cX6_scanBack 7 = .ok (.aload_n 0, 1) := by decide +kernel
theorem dX6_scanBack_8 : decode cX6_scanBack 8 = .ok (.getfield 31, 3) := by decide +kernel
theorem dX6_scanBack_11 : decode cX6_scanBack 11 = .ok (.getfield 122, 3) := by decide +kernel
theorem dX6_scanBack_14 : decode cX6_scanBack 14 = .ok (.if_icmp .ge 44, 3) := by decide +kernel
theorem dX6_scanBack_17 : decode cX6_scanBack 17 = .ok (.aload_n 0, 1) := by decide +kernel
theorem dX6_scanBack_18 : decode cX6_scanBack 18 = .ok (.getfield 15, 3) := by decide +kernel
theorem dX6_scanBack_21 : decode cX6_scanBack 21 = .ok (.iload_n 3, 1) := by decide +kernel
theorem dX6_scanBack_22 : decode cX6_scanBack 22 = .ok (.iconst (-1), 1) := by decide +kernel
theorem dX6_scanBack_23 : decode cX6_scanBack 23 = .ok (.iastore, 1) := by decide +kernel
theorem dX6_scanBack_24 : decode cX6_scanBack 24 = .ok (.aload_n 0, 1) := by decide +kernel
theorem dX6_scanBack_25 : decode cX6_scanBack 25 = .ok (.getfield 19, 3) := by decide +kernel
theorem dX6_scanBack_28 : decode cX6_scanBack 28 = .ok (.iload_n 3, 1) := by decide +kernel
theorem dX6_scanBack_29 : decode cX6_scanBack 29 = .ok (.iload_n 3, 1) := by decide +kernel
theorem dX6_scanBack_30 : decode cX6_scanBack 30 = .ok (.iload_n 1, 1) := by decide +kernel
theorem dX6_scanBack_31 : decode cX6_scanBack 31 = .ok (.if_icmp .ne 7, 3) := by decide +kernel
theorem dX6_scanBack_34 : decode cX6_scanBack 34 = .ok (.iload_n 2, 1) := by decide +kernel
theorem dX6_scanBack_35 : decode cX6_scanBack 35 = .ok (.goto 16, 3) := by decide +kernel
theorem dX6_scanBack_38 : decode cX6_scanBack 38 = .ok (.iload_n 2, 1) := by decide +kernel
theorem dX6_scanBack_39 : decode cX6_scanBack 39 = .ok (.aload_n 0, 1) := by decide +kernel
theorem dX6_scanBack_40 : decode cX6_scanBack 40 = .ok (.getfield 31, 3) := by decide +kernel
theorem dX6_scanBack_43 : decode cX6_scanBack 43 = .ok (.getfield 108, 3) := by decide +kernel
theorem dX6_scanBack_46 : decode cX6_scanBack 46 = .ok (.iload_n 3, 1) := by decide +kernel
theorem dX6_scanBack_47 : decode cX6_scanBack 47 = .ok (.aaload, 1) := by decide +kernel
theorem dX6_scanBack_48 : decode cX6_scanBack 48 = .ok (.iload_n 1, 1) := by decide +kernel
theorem dX6_scanBack_49 : decode cX6_scanBack 49 = .ok (.iaload, 1) := by decide +kernel
theorem dX6_scanBack_50 : decode cX6_scanBack 50 = .ok (.isub, 1) := by decide +kernel
theorem dX6_scanBack_51 : decode cX6_scanBack 51 = .ok (.iastore, 1) := by decide +kernel
theorem dX6_scanBack_52 : decode cX6_scanBack 52 = .ok (.iinc 3 1, 3) := by decide +kernel
theorem dX6_scanBack_55 : decode cX6_scanBack 55 = .ok (.goto (-49), 3) := by decide +kernel
theorem dX6_scanBack_58 : decode cX6_scanBack 58 = .ok (.aload_n 0, 1) := by decide +kernel
theorem dX6_scanBack_59 : decode cX6_scanBack 59 = .ok (.getfield 35, 3) := by decide +kernel
theorem dX6_scanBack_62 : decode cX6_scanBack 62 = .ok (.getfield 88, 3) := by decide +kernel
theorem dX6_scanBack_65 : decode cX6_scanBack 65 = .ok (.iconst 1, 1) := by decide +kernel
theorem dX6_scanBack_66 : decode cX6_scanBack 66 = .ok (.isub, 1) := by decide +kernel
theorem dX6_scanBack_67 : decode cX6_scanBack 67 = .ok (.istore_n 3, 1) := by decide +kernel
theorem dX6_scanBack_68 : decode cX6_scanBack 68 = .ok (.iload_n 3, 1) := by decide +kernel
theorem dX6_scanBack_69 : decode cX6_scanBack 69 = .ok (.ifCond .lt 111, 3) := by decide +kernel
theorem dX6_scanBack_72 : decode cX6_scanBack 72 = .ok (.aload_n 0, 1) := by decide +kernel
theorem dX6_scanBack_73 : decode cX6_scanBack 73 = .ok (.getfield 35, 3) := by decide +kernel
theorem dX6_scanBack_76 : decode cX6_scanBack 76 = .ok (.getfield 125, 3) := by decide +kernel
theorem dX6_scanBack_79 : decode cX6_scanBack 79 = .ok (.iload_n 3, 1) := by decide +kernel
theorem dX6_scanBack_80 : decode cX6_scanBack 80 = .ok (.iaload, 1) := by decide +kernel
theorem dX6_scanBack_81 : decode cX6_scanBack 81 = .ok (.istore 4, 2) := by decide +kernel
theorem dX6_scanBack_83 : decode cX6_scanBack 83 = .ok (.iload 4, 2) := by decide +kernel
theorem dX6_scanBack_85 : decode cX6_scanBack 85 = .ok (.invokestatic 94, 3) := by decide +kernel
theorem dX6_scanBack_88 : decode cX6_scanBack 88 = .ok (.istore 5, 2) := by decide +kernel
theorem dX6_scanBack_90 : decode cX6_scanBack 90 = .ok (.iload 4, 2) := by decide +kernel
theorem dX6_scanBack_92 : decode cX6_scanBack 92 = .ok (.invokestatic 98, 3) := by decide +kernel
theorem dX6_scanBack_95 : decode cX6_scanBack 95 = .ok (.istore 6, 2) := by decide +kernel
theorem dX6_scanBack_97 : decode cX6_scanBack 97 = .ok (.iload 4, 2) := by decide +kernel
theorem dX6_scanBack_99 : decode cX6_scanBack 99 = .ok (.sipush 1024, 3) := by decide +kernel
theorem dX6_scanBack_102 : decode cX6_scanBack 102 = .ok (.idiv, 1) := by decide +kernel
theorem dX6_scanBack_103 : decode cX6_scanBack 103 = .ok (.aload_n 0, 1) := by decide +kernel
theorem dX6_scanBack_104 : decode cX6_scanBack 104 = .ok (.getfield 19, 3) := by decide +kernel
theorem dX6_scanBack_107 : decode cX6_scanBack 107 = .ok (.aload_n 0, 1) := by decide +kernel
theorem dX6_scanBack_108 : decode cX6_scanBack 108 = .ok (.getfield 35, 3) := by decide +kernel
theorem dX6_scanBack_111 : decode cX6_scanBack 111 = .ok (.getfield 74, 3) := by decide +kernel
theorem dX6_scanBack_114 : decode cX6_scanBack 114 = .ok (.iload 5, 2) := by decide +kernel
theorem dX6_scanBack_116 : decode cX6_scanBack 116 = .ok (.aaload, 1) := by decide +kernel
theorem dX6_scanBack_117 : decode cX6_scanBack 117 = .ok (.iload 6, 2) := by decide +kernel
theorem dX6_scanBack_119 : decode cX6_scanBack 119 = .ok (.iconst 1, 1) := by decide +kernel
theorem dX6_scanBack_120 : decode cX6_scanBack 120 = .ok (.iadd, 1) := by decide +kernel
theorem dX6_scanBack_121 : decode cX6_scanBack 121 = .ok (.iaload, 1) := by decide +kernel
theorem dX6_scanBack_122 : decode cX6_scanBack 122 = .ok (.iaload, 1) := by decide +kernel
theorem dX6_scanBack_123 : decode cX6_scanBack 123 = .ok (.if_icmp .gt 11, 3) := by decide +kernel
theorem dX6_scanBack_126 : decode cX6_scanBack 126 = .ok (.aload_n 0, 1) := by decide +kernel
theorem dX6_scanBack_127 : decode cX6_scanBack 127 = .ok (.getfield 9, 3) := by decide +kernel
theorem dX6_scanBack_130 : decode cX6_scanBack 130 = .ok (.iload 5, 2) := by decide +kernel
theorem dX6_scanBack_132 : decode cX6_scanBack 132 = .ok (.iconst 1, 1) := by decide +kernel
theorem dX6_scanBack_133 : decode cX6_scanBack 133 = .ok (.bastore, 1) := by decide +kernel
theorem dX6_scanBack_134 : decode cX6_scanBack 134 = .ok (.aload_n 0, 1) := by decide +kernel
theorem dX6_scanBack_135 : decode cX6_scanBack 135 = .ok (.getfield 9, 3) := by decide +kernel
theorem dX6_scanBack_138 : decode cX6_scanBack 138 = .ok (.iload 5, 2) := by decide +kernel
theorem dX6_scanBack_140 : decode cX6_scanBack 140 = .ok (.baload, 1) := by decide +kernel
theorem dX6_scanBack_141 : decode cX6_scanBack 141 = .ok (.ifCond .eq 33, 3) := by decide +kernel
theorem dX6_scanBack_144 : decode cX6_scanBack 144 = .ok (.aload_n 0, 1) := by decide +kernel
theorem dX6_scanBack_145 : decode cX6_scanBack 145 = .ok (.aload_n 0, 1) := by decide +kernel
theorem dX6_scanBack_146 : decode cX6_scanBack 146 = .ok (.getfield 35, 3) := by decide +kernel
theorem dX6_scanBack_149 : decode cX6_scanBack 149 = .ok (.getfield 74, 3) := by decide +kernel
theorem dX6_scanBack_152 : decode cX6_scanBack 152 = .ok (.iload 5, 2) := by decide +kernel
theorem dX6_scanBack_154 : decode cX6_scanBack 154 = .ok (.aaload, 1) := by decide +kernel
theorem dX6_scanBack_155 : decode cX6_scanBack 155 = .ok (.iload 6, 2) := by decide +kernel
theorem dX6_scanBack_157 : decode cX6_scanBack 157 = .ok (.iaload, 1) := by decide +kernel
theorem dX6_scanBack_158 : decode cX6_scanBack 158 = .ok (.aload_n 0, 1) := by decide +kernel
theorem dX6_scanBack_159 : decode cX6_scanBack 159 = .ok (.getfield 35, 3) := by decide +kernel
theorem dX6_scanBack_162 : decode cX6_scanBack 162 = .ok (.getfield 128, 3) := by decide +kernel
theorem dX6_scanBack_165 : decode cX6_scanBack 165 = .ok (.iload 5, 2) := by decide +kernel
theorem dX6_scanBack_167 : decode cX6_scanBack 167 = .ok (.aaload, 1) := by decide +kernel
theorem dX6_scanBack_168 : decode cX6_scanBack 168 = .ok (.iload 6, 2) := by decide +kernel
theorem dX6_scanBack_170 : decode cX6_scanBack 170 = .ok (.iaload, 1) := by decide +kernel
theorem dX6_scanBack_171 : decode cX6_scanBack 171 = .ok (.invokevirtual 131, 3) := by decide +kernel
theorem dX6_scanBack_174 : decode cX6_scanBack 174 = .ok (.iinc 3 (-1), 3) := by decide +kernel
theorem dX6_scanBack_177 : decode cX6_scanBack 177 = .ok (.goto (-109), 3) := by decide +kernel
theorem dX6_scanBack_180 : decode cX6_scanBack 180 = .ok (.return_, 1) := by decide +kernel
theorem dX6_getOnBack_0 : decode cX6_getOnBack 0 = .ok (.iload_n 2, 1) := by decide +kernel
theorem dX6_getOnBack_1 : decode cX6_getOnBack 1 = .ok (.aload_n 0, 1) := by decide +kernel
theorem dX6_getOnBack_2 : decode cX6_getOnBack 2 = .ok (.getfield 15, 3) := by decide +kernel
theorem dX6_getOnBack_5 : decode cX6_getOnBack 5 = .ok (.iload_n 1, 1) := by decide +kernel
theorem dX6_getOnBack_6 : decode cX6_getOnBack 6 = .ok (.iaload, 1) := by decide +kernel
theorem dX6_getOnBack_7 : decode cX6_getOnBack 7 = .ok (.if_icmp .gt 4, 3) := by decide +kernel
theorem dX6_getOnBack_10 : decode cX6_getOnBack 10 = .ok (.return_, 1) := by decide +kernel
theorem dX6_getOnBack_11 : decode cX6_getOnBack 11 = .ok (.aload_n 0, 1) := by decide +kernel
theorem dX6_getOnBack_12 : decode cX6_getOnBack 12 = .ok (.getfield 15, 3) := by decide +kernel
theorem dX6_getOnBack_15 : decode cX6_getOnBack 15 = .ok (.iload_n 1, 1) := by decide +kernel
theorem dX6_getOnBack_16 : decode cX6_getOnBack 16 = .ok (.iload_n 2, 1) := by decide +kernel
theorem dX6_getOnBack_17 : decode cX6_getOnBack 17 = .ok (.iastore, 1) := by decide +kernel
theorem dX6_getOnBack_18 : decode cX6_getOnBack 18 = .ok (.aload_n 0, 1) := by decide +kernel
theorem dX6_getOnBack_19 : decode cX6_getOnBack 19 = .ok (.getfield 19, 3) := by decide +kernel
theorem dX6_getOnBack_22 : decode cX6_getOnBack 22 = .ok (.iload_n 1, 1) := by decide +kernel
theorem dX6_getOnBack_23 : decode cX6_getOnBack 23 = .ok (.aload_n 0, 1) := by decide +kernel
theorem dX6_getOnBack_24 : decode cX6_getOnBack 24 = .ok (.getfield 19, 3) := by decide +kernel
theorem dX6_getOnBack_27 : decode cX6_getOnBack 27 = .ok (.iload_n 1, 1) := by decide +kernel
theorem dX6_getOnBack_28 : decode cX6_getOnBack 28 = .ok (.iaload, 1) := by decide +kernel
theorem dX6_getOnBack_29 : decode cX6_getOnBack 29 = .ok (.iload_n 2, 1) := by decide +kernel
theorem dX6_getOnBack_30 : decode cX6_getOnBack 30 = .ok (.aload_n 0, 1) := by decide +kernel
theorem dX6_getOnBack_31 : decode cX6_getOnBack 31 = .ok (.getfield 31, 3) := by decide +kernel
theorem dX6_getOnBack_34 : decode cX6_getOnBack 34 = .ok (.getfield 134, 3) := by decide +kernel
theorem dX6_getOnBack_37 : decode cX6_getOnBack 37 = .ok (.iload_n 1, 1) := by decide +kernel
theorem dX6_getOnBack_38 : decode cX6_getOnBack 38 = .ok (.iaload, 1) := by decide +kernel
theorem dX6_getOnBack_39 : decode cX6_getOnBack 39 = .ok (.isub, 1) := by decide +kernel
theorem dX6_getOnBack_40 : decode cX6_getOnBack 40 = .ok (.invokestatic 113, 3) := by decide +kernel
theorem dX6_getOnBack_43 : decode cX6_getOnBack 43 = .ok (.iastore, 1) := by decide +kernel
theorem dX6_getOnBack_44 : decode cX6_getOnBack 44 = .ok (.iconst 0, 1) := by decide +kernel
theorem dX6_getOnBack_45 : decode cX6_getOnBack 45 = .ok (.istore_n 3, 1) := by decide +kernel
theorem dX6_getOnBack_46 : decode cX6_getOnBack 46 = .ok (.iload_n 3, 1) := by decide +kernel
theorem dX6_getOnBack_47 : decode cX6_getOnBack 47 = .ok (.aload_n 0, 1) := by decide +kernel
theorem dX6_getOnBack_48 : decode cX6_getOnBack 48 = .ok (.getfield 31, 3) := by decide +kernel
theorem dX6_getOnBack_51 : decode cX6_getOnBack 51 = .ok (.getfield 122, 3) := by decide +kernel
theorem dX6_getOnBack_54 : decode cX6_getOnBack 54 = .ok (.if_icmp .ge 37, 3) := by decide +kernel
theorem dX6_getOnBack_57 : decode cX6_getOnBack 57 = .ok (.aload_n 0, 1) := by decide +kernel
theorem dX6_getOnBack_58 : decode cX6_getOnBack 58 = .ok (.getfield 19, 3) := by decide +kernel
theorem dX6_getOnBack_61 : decode cX6_getOnBack 61 = .ok (.iload_n 3, 1) := by decide +kernel
theorem dX6_getOnBack_62 : decode cX6_getOnBack 62 = .ok (.aload_n 0, 1) := by decide +kernel
theorem dX6_getOnBack_63 : decode cX6_getOnBack 63 = .ok (.getfield 19, 3) := by decide +kernel
theorem dX6_getOnBack_66 : decode cX6_getOnBack 66 = .ok (.iload_n 3, 1) := by decide +kernel
theorem dX6_getOnBack_67 : decode cX6_getOnBack 67 = .ok (.iaload, 1) := by decide +kernel
theorem dX6_getOnBack_68 : decode cX6_getOnBack 68 = .ok (.iload_n 2, 1) := by decide +kernel
theorem dX6_getOnBack_69 : decode cX6_getOnBack 69 = .ok (.aload_n 0, 1) := by decide +kernel
theorem dX6_getOnBack_70 : decode cX6_getOnBack 70 = .ok (.getfield 31, 3) := by decide +kernel
theorem dX6_getOnBack_73 : decode cX6_getOnBack 73 = .ok (.getfield 108, 3) := by decide +kernel
theorem dX6_getOnBack_76 : decode cX6_getOnBack 76 = .ok (.iload_n 3, 1) := by decide +kernel
theorem dX6_getOnBack_77 : decode cX6_getOnBack 77 = .ok (.aaload, 1) := by decide +kernel
theorem dX6_getOnBack_78 : decode cX6_getOnBack 78 = .ok (.iload_n 1, 1) := by decide +kernel
theorem dX6_getOnBack_79 : decode cX6_getOnBack 79 = .ok (.iaload, 1) := by decide +kernel
theorem dX6_getOnBack_80 : decode cX6_getOnBack 80 = .ok (.isub, 1) := by decide +kernel
theorem dX6_getOnBack_81 : decode cX6_getOnBack 81 = .ok (.invokestatic 113, 3) := by decide +kernel
theorem dX6_getOnBack_84 : decode cX6_getOnBack 84 = .ok (.iastore, 1) := by decide +kernel
theorem dX6_getOnBack_85 : decode cX6_getOnBack 85 = .ok (.iinc 3 1, 3) := by decide +kernel
theorem dX6_getOnBack_88 : decode cX6_getOnBack 88 = .ok (.goto (-42), 3) := by decide +kernel
theorem dX6_getOnBack_91 : decode cX6_getOnBack 91 = .ok (.return_, 1) := by decide +kernel
theorem dX6_goOnFromNearest_0 : decode cX6_goOnFromNearest 0 = .ok (.aload_n 0, 1) := by decide +kernel
theorem dX6_goOnFromNearest_1 : decode cX6_goOnFromNearest 1 = .ok (.getfield 44, 3) := by decide +kernel
theorem dX6_goOnFromNearest_4 : decode cX6_goOnFromNearest 4 = .ok (.iload_n 1, 1) := by decide +kernel
theorem dX6_goOnFromNearest_5 : decode cX6_goOnFromNearest 5 = .ok (.iload_n 2, 1) := by decide +kernel
theorem dX6_goOnFromNearest_6 : decode cX6_goOnFromNearest 6 = .ok (.invokevirtual 48, 3) := by decide +kernel
theorem dX6_goOnFromNearest_9 : decode cX6_goOnFromNearest 9 = .ok (.iconst 0, 1) := by decide +kernel
theorem dX6_goOnFromNearest_10 : decode cX6_goOnFromNearest 10 = .ok (.istore_n 3, 1) := by decide +kernel
theorem dX6_goOnFromNearest_11 : decode cX6_goOnFromNearest 11 = .ok (.iload_n 3, 1) := by decide +kernel
theorem dX6_goOnFromNearest_12 : decode cX6_goOnFromNearest 12 = .ok (.bipush 24, 2) := by decide +kernel
theorem dX6_goOnFromNearest_14 : decode cX6_goOnFromNearest 14 = .ok (.if_icmp .ge 16, 3) := by decide +kernel
theorem dX6_goOnFromNearest_17 : decode cX6_goOnFromNearest 17 = .ok (.aload_n 0, 1) := by decide +kernel
theorem dX6_goOnFromNearest_18 : decode cX6_goOnFromNearest 18 = .ok (.getfield 22, 3) := by decide +kernel
theorem dX6_goOnFromNearest_21 : decode cX6_goOnFromNearest 21 = .ok (.iload_n 3, 1) := by decide +kernel
theorem dX6_goOnFromNearest_22 : decode cX6_goOnFromNearest 22 = .ok (.iconst 0, 1) := by decide +kernel
theorem dX6_goOnFromNearest_23 : decode cX6_goOnFromNearest 23 = .ok (.bastore, 1) := by decide +kernel
theorem dX6_goOnFromNearest_24 : decode cX6_goOnFromNearest 24 = .ok (.iinc 3 1, 3) := by decide +kernel
theorem dX6_goOnFromNearest_27 : decode cX6_goOnFromNearest 27 = .ok (.goto (-16), 3) := by decide +kernel
theorem dX6_goOnFromNearest_30 : decode cX6_goOnFromNearest 30 = .ok (.iconst 0, 1) := by decide +kernel
theorem dX6_goOnFromNearest_31 : decode cX6_goOnFromNearest 31 = .ok (.istore_n 3, 1) := by decide +kernel
theorem dX6_goOnFromNearest_32 : decode cX6_goOnFromNearest 32 = .ok (.iload_n 3, 1) := by decide +kernel
theorem dX6_goOnFromNearest_33 : decode cX6_goOnFromNearest 33 = .ok (.bipush 24, 2) := by decide +kernel
theorem dX6_goOnFromNearest_35 : decode cX6_goOnFromNearest 35 = .ok (.if_icmp .ge 75, 3) := by decide +kernel
theorem dX6_goOnFromNearest_38 : decode cX6_goOnFromNearest 38 = .ok (.aload_n 0, 1) := by decide +kernel
theorem dX6_goOnFromNearest_39 : decode cX6_goOnFromNearest 39 = .ok (.invokevirtual 137, 3) := by decide +kernel
theorem dX6_goOnFromNearest_42 : decode cX6_goOnFromNearest 42 = .ok (.istore 4, 2) := by decide +kernel
theorem dX6_goOnFromNearest_44 : decode cX6_goOnFromNearest 44 = .ok (.iload 4, 2) := by decide +kernel
theorem dX6_goOnFromNearest_46 : decode cX6_goOnFromNearest 46 = .ok (.iconst (-1), 1) := by decide +kernel
theorem dX6_goOnFromNearest_47 : decode cX6_goOnFromNearest 47 = .ok (.if_icmp .ne 4, 3) := by decide +kernel
theorem dX6_goOnFromNearest_50 : decode cX6_goOnFromNearest 50 = .ok (.return_, 1) := by decide +kernel
theorem dX6_goOnFromNearest_51 : decode cX6_goOnFromNearest 51 = .ok (.aload_n 0, 1) := by decide +kernel
theorem dX6_goOnFromNearest_52 : decode cX6_goOnFromNearest 52 = .ok (.getfield 22, 3) := by decide +kernel
theorem dX6_goOnFromNearest_55 : decode cX6_goOnFromNearest 55 = .ok (.iload 4, 2) := by decide +kernel
theorem dX6_goOnFromNearest_57 : decode cX6_goOnFromNearest 57 = .ok (.iconst 1, 1) := by decide +kernel
theorem dX6_goOnFromNearest_58 : decode cX6_goOnFromNearest 58 = .ok (.bastore, 1) := by decide +kernel
theorem dX6_goOnFromNearest_59 : decode cX6_goOnFromNearest 59 = .ok (.iload 4, 2) := by decide +kernel
theorem dX6_goOnFromNearest_61 : decode cX6_goOnFromNearest 61 = .ok (.bipush 12, 2) := by decide +kernel
theorem dX6_goOnFromNearest_63 : decode cX6_goOnFromNearest 63 = .ok (.irem, 1) := by decide +kernel
theorem dX6_goOnFromNearest_64 : decode cX6_goOnFromNearest 64 = .ok (.istore 5, 2) := by decide +kernel
theorem dX6_goOnFromNearest_66 : decode cX6_goOnFromNearest 66 = .ok (.iload 4, 2) := by decide +kernel
theorem dX6_goOnFromNearest_68 : decode cX6_goOnFromNearest 68 = .ok (.bipush 12, 2) := by decide +kernel
theorem dX6_goOnFromNearest_70 : decode cX6_goOnFromNearest 70 = .ok (.if_icmp .ge 7, 3) := by decide +kernel
theorem dX6_goOnFromNearest_73 : decode cX6_goOnFromNearest 73 = .ok (.iconst 0, 1) := by decide +kernel
theorem dX6_goOnFromNearest_74 : decode cX6_goOnFromNearest 74 = .ok (.goto 13, 3) := by decide +kernel
theorem dX6_goOnFromNearest_77 : decode cX6_goOnFromNearest 77 = .ok (.aload_n 0, 1) := by decide +kernel
theorem dX6_goOnFromNearest_78 : decode cX6_goOnFromNearest 78 = .ok (.getfield 31, 3) := by decide +kernel
theorem dX6_goOnFromNearest_81 : decode cX6_goOnFromNearest 81 = .ok (.getfield 134, 3) := by decide +kernel
theorem dX6_goOnFromNearest_84 : decode cX6_goOnFromNearest 84 = .ok (.iload 5, 2) := by decide +kernel
theorem dX6_goOnFromNearest_86 : decode cX6_goOnFromNearest 86 = .ok (.iaload, 1) := by decide +kernel
theorem dX6_goOnFromNearest_87 : decode cX6_goOnFromNearest 87 = .ok (.istore 6, 2) := by decide +kernel
theorem dX6_goOnFromNearest_89 : decode cX6_goOnFromNearest 89 = .ok (.aload_n 0, 1) := by decide +kernel
theorem dX6_goOnFromNearest_90 : decode cX6_goOnFromNearest 90 = .ok (.iload 5, 2) := by decide +kernel
theorem dX6_goOnFromNearest_92 : decode cX6_goOnFromNearest 92 = .ok (.aload_n 0, 1) := by decide +kernel
theorem dX6_goOnFromNearest_93 : decode cX6_goOnFromNearest 93 = .ok (.iload 4, 2) := by decide +kernel
theorem dX6_goOnFromNearest_95 : decode cX6_goOnFromNearest 95 = .ok (.invokevirtual 141, 3) := by decide +kernel
theorem dX6_goOnFromNearest_98 : decode cX6_goOnFromNearest 98 = .ok (.iload 6, 2) := by decide +kernel
theorem dX6_goOnFromNearest_100 : decode cX6_goOnFromNearest 100 = .ok (.iadd, 1) := by decide +kernel
theorem dX6_goOnFromNearest_101 : decode cX6_goOnFromNearest 101 = .ok (.invokevirtual 144, 3) := by decide +kernel
theorem dX6_goOnFromNearest_104 : decode cX6_goOnFromNearest 104 = .ok (.iinc 3 1, 3) := by decide +kernel
theorem dX6_goOnFromNearest_107 : decode cX6_goOnFromNearest 107 = .ok (.goto (-75), 3) := by decide +kernel
theorem dX6_goOnFromNearest_110 : decode cX6_goOnFromNearest 110 = .ok (.return_, 1) := by decide +kernel
theorem dX6_minuteAt_0 : decode cX6_minuteAt 0 = .ok (.iload_n 1, 1) := by decide +kernel
theorem dX6_minuteAt_1 : decode cX6_minuteAt 1 = .ok (.bipush 12, 2) := by decide +kernel
theorem dX6_minuteAt_3 : decode cX6_minuteAt 3 = .ok (.if_icmp .ge 15, 3) := by decide +kernel
theorem dX6_minuteAt_6 : decode cX6_minuteAt 6 = .ok (.aload_n 0, 1) := by decide +kernel
theorem dX6_minuteAt_7 : decode cX6_minuteAt 7 = .ok (.getfield 44, 3) := by decide +kernel
theorem dX6_minuteAt_10 : decode cX6_minuteAt 10 = .ok (.getfield 147, 3) := by decide +kernel
theorem dX6_minuteAt_13 : decode cX6_minuteAt 13 = .ok (.iload_n 1, 1) := by decide +kernel
theorem dX6_minuteAt_14 : decode cX6_minuteAt 14 = .ok (.iaload, 1) := by decide +kernel
theorem dX6_minuteAt_15 : decode cX6_minuteAt 15 = .ok (.goto 15, 3) := by decide +kernel
theorem dX6_minuteAt_18 : decode cX6_minuteAt 18 = .ok (.aload_n 0, 1) := by decide +kernel
theorem dX6_minuteAt_19 : decode cX6_minuteAt 19 = .ok (.getfield 44, 3) := by decide +kernel
theorem dX6_minuteAt_22 : decode cX6_minuteAt 22 = .ok (.getfield 150, 3) := by decide +kernel
theorem dX6_minuteAt_25 : decode cX6_minuteAt 25 = .ok (.iload_n 1, 1) := by decide +kernel
theorem dX6_minuteAt_26 : decode cX6_minuteAt 26 = .ok (.bipush 12, 2) := by decide +kernel
theorem dX6_minuteAt_28 : decode cX6_minuteAt 28 = .ok (.isub, 1) := by decide +kernel
theorem dX6_minuteAt_29 : decode cX6_minuteAt 29 = .ok (.iaload, 1) := by decide +kernel
theorem dX6_minuteAt_30 : decode cX6_minuteAt 30 = .ok (.ireturn, 1) := by decide +kernel
theorem dX6_nearest_0 : decode cX6_nearest 0 = .ok (.iconst (-1), 1) := by decide +kernel
theorem dX6_nearest_1 : decode cX6_nearest 1 = .ok (.istore_n 1, 1) := by decide +kernel
theorem dX6_nearest_2 : decode cX6_nearest 2 = .ok (.ldc 153, 2) := by decide +kernel
theorem dX6_nearest_4 : decode cX6_nearest 4 = .ok (.istore_n 2, 1) := by decide +kernel
theorem dX6_nearest_5 : decode cX6_nearest 5 = .ok (.iconst 0, 1) := by decide +kernel
theorem dX6_nearest_6 : decode cX6_nearest 6 = .ok (.istore_n 3, 1) := by decide +kernel
theorem dX6_nearest_7 : decode cX6_nearest 7 = .ok (.iload_n 3, 1) := by decide +kernel
theorem dX6_nearest_8 : decode cX6_nearest 8 = .ok (.bipush 24, 2) := by decide +kernel
theorem dX6_nearest_10 : decode cX6_nearest 10 = .ok (.if_icmp .ge 61, 3) := by decide +kernel
theorem dX6_nearest_13 : decode cX6_nearest 13 = .ok (.iload_n 3, 1) := by decide +kernel
theorem dX6_nearest_14 : decode cX6_nearest 14 = .ok (.bipush 12, 2) := by decide +kernel
theorem dX6_nearest_16 : decode cX6_nearest 16 = .ok (.irem, 1) := by decide +kernel
theorem dX6_nearest_17 : decode cX6_nearest 17 = .ok (.aload_n 0, 1) := by decide +kernel
theorem dX6_nearest_18 : decode cX6_nearest 18 = .ok (.getfield 31, 3) := by decide +kernel
theorem dX6_nearest_21 : decode cX6_nearest 21 = .ok (.getfield 122, 3) := by decide +kernel
theorem dX6_nearest_24 : decode cX6_nearest 24 = .ok (.if_icmp .ge 16, 3) := by decide +kernel
theorem dX6_nearest_27 : decode cX6_nearest 27 = .ok (.aload_n 0, 1) := by decide +kernel
theorem dX6_nearest_28 : decode cX6_nearest 28 = .ok (.getfield 22, 3) := by decide +kernel
theorem dX6_nearest_31 : decode cX6_nearest 31 = .ok (.iload_n 3, 1) := by decide +kernel
theorem dX6_nearest_32 : decode cX6_nearest 32 = .ok (.baload, 1) := by decide +kernel
theorem dX6_nearest_33 : decode cX6_nearest 33 = .ok (.ifCond .ne 7, 3) := by decide +kernel
theorem dX6_nearest_36 : decode cX6_nearest 36 = .ok (.iconst 1, 1) := by decide +kernel
theorem dX6_nearest_37 : decode cX6_nearest 37 = .ok (.goto 4, 3) := by decide +kernel
theorem dX6_nearest_40 : decode cX6_nearest 40 = .ok (.iconst 0, 1) := by decide +kernel
theorem dX6_nearest_41 : decode cX6_nearest 41 = .ok (.istore 4, 2) := by decide +kernel
theorem dX6_nearest_43 : decode cX6_nearest 43 = .ok (.iload 4, 2) := by decide +kernel
theorem dX6_nearest_45 : decode cX6_nearest 45 = .ok (.ifCond .eq 20, 3) := by decide +kernel
theorem dX6_nearest_48 : decode cX6_nearest 48 = .ok (.aload_n 0, 1) := by decide +kernel
theorem dX6_nearest_49 : decode cX6_nearest 49 = .ok (.iload_n 3, 1) := by decide +kernel
theorem dX6_nearest_50 : decode cX6_nearest 50 = .ok (.invokevirtual 141, 3) := by decide +kernel
theorem dX6_nearest_53 : decode cX6_nearest 53 = .ok (.iload_n 2, 1) := by decide +kernel
theorem dX6_nearest_54 : decode cX6_nearest 54 = .ok (.if_icmp .ge 11, 3) := by decide +kernel
theorem dX6_nearest_57 : decode cX6_nearest 57 = .ok (.aload_n 0, 1) := by decide +kernel
theorem dX6_nearest_58 : decode cX6_nearest 58 = .ok (.iload_n 3, 1) := by decide +kernel
theorem dX6_nearest_59 : decode cX6_nearest 59 = .ok (.invokevirtual 141, 3) := by decide +kernel
theorem dX6_nearest_62 : decode cX6_nearest 62 = .ok (.istore_n 2, 1) := by decide +kernel
theorem dX6_nearest_63 : decode cX6_nearest 63 = .ok (.iload_n 3, 1) := by decide +kernel
theorem dX6_nearest_64 : decode cX6_nearest 64 = .ok (.istore_n 1, 1) := by decide +kernel
theorem dX6_nearest_65 : decode cX6_nearest 65 = .ok (.iinc 3 1, 3) := by decide +kernel
theorem dX6_nearest_68 : decode cX6_nearest 68 = .ok (.goto (-61), 3) := by decide +kernel
theorem dX6_nearest_71 : decode cX6_nearest 71 = .ok (.iload_n 1, 1) := by decide +kernel
theorem dX6_nearest_72 : decode cX6_nearest 72 = .ok (.ireturn, 1) := by decide +kernel
theorem dX6_getOnAll_0 : decode cX6_getOnAll 0 = .ok (.iconst 0, 1) := by decide +kernel
theorem dX6_getOnAll_1 : decode cX6_getOnAll 1 = .ok (.istore_n 3, 1) := by decide +kernel
theorem dX6_getOnAll_2 : decode cX6_getOnAll 2 = .ok (.iload_n 3, 1) := by decide +kernel
theorem dX6_getOnAll_3 : decode cX6_getOnAll 3 = .ok (.aload_n 0, 1) := by decide +kernel
theorem dX6_getOnAll_4 : decode cX6_getOnAll 4 = .ok (.getfield 35, 3) := by decide +kernel
theorem dX6_getOnAll_7 : decode cX6_getOnAll 7 = .ok (.getfield 59, 3) := by decide +kernel
theorem dX6_getOnAll_10 : decode cX6_getOnAll 10 = .ok (.if_icmp .ge 114, 3) := by decide +kernel
theorem dX6_getOnAll_13 : decode cX6_getOnAll 13 = .ok (.iconst 0, 1) := by decide +kernel
theorem dX6_getOnAll_14 : decode cX6_getOnAll 14 = .ok (.istore 4, 2) := by decide +kernel
theorem dX6_getOnAll_16 : decode cX6_getOnAll 16 = .ok (.iconst 0, 1) := by decide +kernel
theorem dX6_getOnAll_17 : decode cX6_getOnAll 17 = .ok (.istore 5, 2) := by decide +kernel
theorem dX6_getOnAll_19 : decode cX6_getOnAll 19 = .ok (.iload 5, 2) := by decide +kernel
theorem dX6_getOnAll_21 : decode cX6_getOnAll 21 = .ok (.aload_n 0, 1) := by decide +kernel
theorem dX6_getOnAll_22 : decode cX6_getOnAll 22 = .ok (.getfield 35, 3) := by decide +kernel
theorem dX6_getOnAll_25 : decode cX6_getOnAll 25 = .ok (.getfield 71, 3) := by decide +kernel
theorem dX6_getOnAll_28 : decode cX6_getOnAll 28 = .ok (.iload_n 3, 1) := by decide +kernel
theorem dX6_getOnAll_29 : decode cX6_getOnAll 29 = .ok (.iaload, 1) := by decide +kernel
theorem dX6_getOnAll_30 : decode cX6_getOnAll 30 = .ok (.if_icmp .ge 88, 3) := by decide +kernel
theorem dX6_getOnAll_33 : decode cX6_getOnAll 33 = .ok (.iload 4, 2) := by decide +kernel
theorem dX6_getOnAll_35 : decode cX6_getOnAll 35 = .ok (.ifCond .eq 38, 3) := by decide +kernel
theorem dX6_getOnAll_38 : decode cX6_getOnAll 38 = .ok (.aload_n 0, 1) := by decide +kernel
theorem dX6_getOnAll_39 : decode cX6_getOnAll 39 = .ok (.getfield 44, 3) := by decide +kernel
theorem dX6_getOnAll_42 : decode cX6_getOnAll 42 = .ok (.aload_n 0, 1) := by decide +kernel
theorem dX6_getOnAll_43 : decode cX6_getOnAll 43 = .ok (.getfield 35, 3) := by decide +kernel
theorem dX6_getOnAll_46 : decode cX6_getOnAll 46 = .ok (.getfield 74, 3) := by decide +kernel
theorem dX6_getOnAll_49 : decode cX6_getOnAll 49 = .ok (.iload_n 3, 1) := by decide +kernel
theorem dX6_getOnAll_50 : decode cX6_getOnAll 50 = .ok (.aaload, 1) := by decide +kernel
theorem dX6_getOnAll_51 : decode cX6_getOnAll 51 = .ok (.iload 5, 2) := by decide +kernel
theorem dX6_getOnAll_53 : decode cX6_getOnAll 53 = .ok (.iaload, 1) := by decide +kernel
theorem dX6_getOnAll_54 : decode cX6_getOnAll 54 = .ok (.aload_n 0, 1) := by decide +kernel
theorem dX6_getOnAll_55 : decode cX6_getOnAll 55 = .ok (.getfield 35, 3) := by decide +kernel
theorem dX6_getOnAll_58 : decode cX6_getOnAll 58 = .ok (.getfield 78, 3) := by decide +kernel
theorem dX6_getOnAll_61 : decode cX6_getOnAll 61 = .ok (.iload_n 3, 1) := by decide +kernel
theorem dX6_getOnAll_62 : decode cX6_getOnAll 62 = .ok (.aaload, 1) := by decide +kernel
theorem dX6_getOnAll_63 : decode cX6_getOnAll 63 = .ok (.iload 5, 2) := by decide +kernel
theorem dX6_getOnAll_65 : decode cX6_getOnAll 65 = .ok (.iaload, 1) := by decide +kernel
theorem dX6_getOnAll_66 : decode cX6_getOnAll 66 = .ok (.invokevirtual 81, 3) := by decide +kernel
theorem dX6_getOnAll_69 : decode cX6_getOnAll 69 = .ok (.pop, 1) := by decide +kernel
theorem dX6_getOnAll_70 : decode cX6_getOnAll 70 = .ok (.goto 42, 3) := by decide +kernel
theorem dX6_getOnAll_73 : decode cX6_getOnAll 73 = .ok (.aload_n 0, 1) := by decide +kernel
theorem dX6_getOnAll_74 : decode cX6_getOnAll 74 = .ok (.getfield 35, 3) := by decide +kernel
theorem dX6_getOnAll_77 : decode cX6_getOnAll 77 = .ok (.getfield 74, 3) := by decide +kernel
theorem dX6_getOnAll_80 : decode cX6_getOnAll 80 = .ok (.iload_n 3, 1) := by decide +kernel
theorem dX6_getOnAll_81 : decode cX6_getOnAll 81 = .ok (.aaload, 1) := by decide +kernel
theorem dX6_getOnAll_82 : decode cX6_getOnAll 82 = .ok (.iload 5, 2) := by decide +kernel
theorem dX6_getOnAll_84 : decode cX6_getOnAll 84 = .ok (.iaload, 1) := by decide +kernel
theorem dX6_getOnAll_85 : decode cX6_getOnAll 85 = .ok (.iload_n 1, 1) := by decide +kernel
theorem dX6_getOnAll_86 : decode cX6_getOnAll 86 = .ok (.if_icmp .ne 23, 3) := by decide +kernel
theorem dX6_getOnAll_89 : decode cX6_getOnAll 89 = .ok (.aload_n 0, 1) := by decide +kernel
theorem dX6_getOnAll_90 : decode cX6_getOnAll 90 = .ok (.getfield 35, 3) := by decide +kernel
theorem dX6_getOnAll_93 : decode cX6_getOnAll 93 = .ok (.getfield 128, 3) := by decide +kernel
theorem dX6_getOnAll_96 : decode cX6_getOnAll 96 = .ok (.iload_n 3, 1) := by decide +kernel
theorem dX6_getOnAll_97 : decode cX6_getOnAll 97 = .ok (.aaload, 1) := by decide +kernel
theorem dX6_getOnAll_98 : decode cX6_getOnAll 98 = .ok (.iload 5, 2) := by decide +kernel
theorem dX6_getOnAll_100 : decode cX6_getOnAll 100 = .ok (.iaload, 1) := by decide +kernel
theorem dX6_getOnAll_101 : decode cX6_getOnAll 101 = .ok (.iload_n 2, 1) := by decide +kernel
theorem dX6_getOnAll_102 : decode cX6_getOnAll 102 = .ok (.if_icmp .lt 7, 3) := by decide +kernel
theorem dX6_getOnAll_105 : decode cX6_getOnAll 105 = .ok (.iconst 1, 1) := by decide +kernel
theorem dX6_getOnAll_106 : decode cX6_getOnAll 106 = .ok (.goto 4, 3) := by decide +kernel
theorem dX6_getOnAll_109 : decode cX6_getOnAll 109 = .ok (.iconst 0, 1) := by decide +kernel
theorem dX6_getOnAll_110 : decode cX6_getOnAll 110 = .ok (.istore 4, 2) := by decide +kernel
theorem dX6_getOnAll_112 : decode cX6_getOnAll 112 = .ok (.iinc 5 1, 3) := by decide +kernel
theorem dX6_getOnAll_115 : decode cX6_getOnAll 115 = .ok (.goto (-96), 3) := by decide +kernel
theorem dX6_getOnAll_118 : decode cX6_getOnAll 118 = .ok (.iinc 3 1, 3) := by decide +kernel
theorem dX6_getOnAll_121 : decode cX6_getOnAll 121 = .ok (.goto (-119), 3) := by decide +kernel
theorem dX6_getOnAll_124 : decode cX6_getOnAll 124 = .ok (.return_, 1) := by decide +kernel
theorem dX6_collectPairs_0 : decode cX6_collectPairs 0 = .ok (.aload_n 0, 1) := by decide +kernel
theorem dX6_collectPairs_1 : decode cX6_collectPairs 1 = .ok (.iconst 0, 1) := by decide +kernel
theorem dX6_collectPairs_2 : decode cX6_collectPairs 2 = .ok (.putfield 154, 3) := by decide +kernel
theorem dX6_collectPairs_5 : decode cX6_collectPairs 5 = .ok (.iconst 0, 1) := by decide +kernel
theorem dX6_collectPairs_6 : decode cX6_collectPairs 6 = .ok (.istore_n 3, 1) := by decide +kernel
theorem dX6_collectPairs_7 : decode cX6_collectPairs 7 = .ok (.iconst 0, 1) := by decide +kernel
theorem dX6_collectPairs_8 : decode cX6_collectPairs 8 = .ok (.istore 4, 2) := by decide +kernel
theorem dX6_collectPairs_10 : decode cX6_collectPairs 10 = .ok (.iload 4, 2) := by decide +kernel
theorem dX6_collectPairs_12 : decode cX6_collectPairs 12 = .ok (.sipush 576, 3) := by decide +kernel
theorem dX6_collectPairs_15 : decode cX6_collectPairs 15 = .ok (.if_icmp .ge 83, 3) := by decide +kernel
theorem dX6_collectPairs_18 : decode cX6_collectPairs 18 = .ok (.aload_n 0, 1) := by decide +kernel
theorem dX6_collectPairs_19 : decode cX6_collectPairs 19 = .ok (.iload_n 1, 1) := by decide +kernel
theorem dX6_collectPairs_20 : decode cX6_collectPairs 20 = .ok (.iload_n 3, 1) := by decide +kernel
theorem dX6_collectPairs_21 : decode cX6_collectPairs 21 = .ok (.invokevirtual 157, 3) := by decide +kernel
theorem dX6_collectPairs_24 : decode cX6_collectPairs 24 = .ok (.aload_n 0, 1) := by decide +kernel
theorem dX6_collectPairs_25 : decode cX6_collectPairs 25 = .ok (.getfield 44, 3) := by decide +kernel
theorem dX6_collectPairs_28 : decode cX6_collectPairs 28 = .ok (.iload_n 2, 1) := by decide +kernel
theorem dX6_collectPairs_29 : decode cX6_collectPairs 29 = .ok (.invokevirtual 160, 3) := by decide +kernel
theorem dX6_collectPairs_32 : decode cX6_collectPairs 32 = .ok (.istore 5, 2) := by decide +kernel
theorem dX6_collectPairs_34 : decode cX6_collectPairs 34 = .ok (.iload 5, 2) := by decide +kernel
theorem dX6_collectPairs_36 : decode cX6_collectPairs 36 = .ok (.ldc 153, 2) := by decide +kernel
theorem dX6_collectPairs_38 : decode cX6_collectPairs 38 = .ok (.if_icmp .lt 4, 3) := by decide +kernel
theorem dX6_collectPairs_41 : decode cX6_collectPairs 41 = .ok (.return_, 1) := by decide +kernel
theorem dX6_collectPairs_42 : decode cX6_collectPairs 42 = .ok (.aload_n 0, 1) := by decide +kernel
theorem dX6_collectPairs_43 : decode cX6_collectPairs 43 = .ok (.getfield 25, 3) := by decide +kernel
theorem dX6_collectPairs_46 : decode cX6_collectPairs 46 = .ok (.aload_n 0, 1) := by decide +kernel
theorem dX6_collectPairs_47 : decode cX6_collectPairs 47 = .ok (.getfield 154, 3) := by decide +kernel
theorem dX6_collectPairs_50 : decode cX6_collectPairs 50 = .ok (.aload_n 0, 1) := by decide +kernel
theorem dX6_collectPairs_51 : decode cX6_collectPairs 51 = .ok (.iload_n 1, 1) := by decide +kernel
theorem dX6_collectPairs_52 : decode cX6_collectPairs 52 = .ok (.iload_n 2, 1) := by decide +kernel
theorem dX6_collectPairs_53 : decode cX6_collectPairs 53 = .ok (.iload 5, 2) := by decide +kernel
theorem dX6_collectPairs_55 : decode cX6_collectPairs 55 = .ok (.invokevirtual 104, 3) := by decide +kernel
theorem dX6_collectPairs_58 : decode cX6_collectPairs 58 = .ok (.iastore, 1) := by decide +kernel
theorem dX6_collectPairs_59 : decode cX6_collectPairs 59 = .ok (.aload_n 0, 1) := by decide +kernel
theorem dX6_collectPairs_60 : decode cX6_collectPairs 60 = .ok (.getfield 28, 3) := by decide +kernel
theorem dX6_collectPairs_63 : decode cX6_collectPairs 63 = .ok (.aload_n 0, 1) := by decide +kernel
theorem dX6_collectPairs_64 : decode cX6_collectPairs 64 = .ok (.getfield 154, 3) := by decide +kernel
theorem dX6_collectPairs_67 : decode cX6_collectPairs 67 = .ok (.iload 5, 2) := by decide +kernel
theorem dX6_collectPairs_69 : decode cX6_collectPairs 69 = .ok (.iastore, 1) := by decide +kernel
theorem dX6_collectPairs_70 : decode cX6_collectPairs 70 = .ok (.aload_n 0, 1) := by decide +kernel
theorem dX6_collectPairs_71 : decode cX6_collectPairs 71 = .ok (.getfield 25, 3) := by decide +kernel
theorem dX6_collectPairs_74 : decode cX6_collectPairs 74 = .ok (.aload_n 0, 1) := by decide +kernel
theorem dX6_collectPairs_75 : decode cX6_collectPairs 75 = .ok (.getfield 154, 3) := by decide +kernel
theorem dX6_collectPairs_78 : decode cX6_collectPairs 78 = .ok (.iaload, 1) := by decide +kernel
theorem dX6_collectPairs_79 : decode cX6_collectPairs 79 = .ok (.iconst 1, 1) := by decide +kernel
theorem dX6_collectPairs_80 : decode cX6_collectPairs 80 = .ok (.iadd, 1) := by decide +kernel
theorem dX6_collectPairs_81 : decode cX6_collectPairs 81 = .ok (.istore_n 3, 1) := by decide +kernel
theorem dX6_collectPairs_82 : decode cX6_collectPairs 82 = .ok (.aload_n 0, 1) := by decide +kernel
theorem dX6_collectPairs_83 : decode cX6_collectPairs 83 = .ok (.dup, 1) := by decide +kernel
theorem dX6_collectPairs_84 : decode cX6_collectPairs 84 = .ok (.getfield 154, 3) := by decide +kernel
theorem dX6_collectPairs_87 : decode cX6_collectPairs 87 = .ok (.iconst 1, 1) := by decide +kernel
theorem dX6_collectPairs_88 : decode cX6_collectPairs 88 = .ok (.iadd, 1) := by decide +kernel
theorem dX6_collectPairs_89 : decode cX6_collectPairs 89 = .ok (.putfield 154, 3) := by decide +kernel
theorem dX6_collectPairs_92 : decode cX6_collectPairs 92 = .ok (.iinc 4 1, 3) := by decide +kernel
theorem dX6_collectPairs_95 : decode cX6_collectPairs 95 = .ok (.goto (-85), 3) := by decide +kernel
theorem dX6_collectPairs_98 : decode cX6_collectPairs 98 = .ok (.return_, 1) := by decide +kernel
theorem dX6_pairArrivalFrom_0 : decode cX6_pairArrivalFrom 0 = .ok (.iconst 0, 1) := by decide +kernel
theorem dX6_pairArrivalFrom_1 : decode cX6_pairArrivalFrom 1 = .ok (.istore_n 2, 1) := by decide +kernel
theorem dX6_pairArrivalFrom_2 : decode cX6_pairArrivalFrom 2 = .ok (.aload_n 0, 1) := by decide +kernel
theorem dX6_pairArrivalFrom_3 : decode cX6_pairArrivalFrom 3 = .ok (.getfield 154, 3) := by decide +kernel
theorem dX6_pairArrivalFrom_6 : decode cX6_pairArrivalFrom 6 = .ok (.istore_n 3, 1) := by decide +kernel
theorem dX6_pairArrivalFrom_7 : decode cX6_pairArrivalFrom 7 = .ok (.iconst 0, 1) := by decide +kernel
theorem dX6_pairArrivalFrom_8 : decode cX6_pairArrivalFrom 8 = .ok (.istore 4, 2) := by decide +kernel
theorem dX6_pairArrivalFrom_10 : decode cX6_pairArrivalFrom 10 = .ok (.iload 4, 2) := by decide +kernel
theorem dX6_pairArrivalFrom_12 : decode cX6_pairArrivalFrom 12 = .ok (.sipush 576, 3) := by decide +kernel
theorem dX6_pairArrivalFrom_15 : decode cX6_pairArrivalFrom 15 = .ok (.if_icmp .ge 43, 3) := by decide +kernel
theorem dX6_pairArrivalFrom_18 : decode cX6_pairArrivalFrom 18 = .ok (.iload_n 2, 1) := by decide +kernel
theorem dX6_pairArrivalFrom_19 : decode cX6_pairArrivalFrom 19 = .ok (.iload_n 3, 1) := by decide +kernel
theorem dX6_pairArrivalFrom_20 : decode cX6_pairArrivalFrom 20 = .ok (.if_icmp .ge 38, 3) := by decide +kernel
theorem dX6_pairArrivalFrom_23 : decode cX6_pairArrivalFrom 23 = .ok (.iload_n 2, 1) := by decide +kernel
theorem dX6_pairArrivalFrom_24 : decode cX6_pairArrivalFrom 24 = .ok (.iload_n 3, 1) := by decide +kernel
theorem dX6_pairArrivalFrom_25 : decode cX6_pairArrivalFrom 25 = .ok (.iadd, 1) := by decide +kernel
theorem dX6_pairArrivalFrom_26 : decode cX6_pairArrivalFrom 26 = .ok (.iconst 2, 1) := by decide +kernel
theorem dX6_pairArrivalFrom_27 : decode cX6_pairArrivalFrom 27 = .ok (.idiv, 1) := by decide +kernel
theorem dX6_pairArrivalFrom_28 : decode cX6_pairArrivalFrom 28 = .ok (.istore 5, 2) := by decide +kernel
theorem dX6_pairArrivalFrom_30 : decode cX6_pairArrivalFrom 30 = .ok (.aload_n 0, 1) := by decide +kernel
theorem dX6_pairArrivalFrom_31 : decode cX6_pairArrivalFrom 31 = .ok (.getfield 25, 3) := by decide +kernel
theorem dX6_pairArrivalFrom_34 : decode cX6_pairArrivalFrom 34 = .ok (.iload 5, 2) := by decide +kernel
theorem dX6_pairArrivalFrom_36 : decode cX6_pairArrivalFrom 36 = .ok (.iaload, 1) := by decide +kernel
theorem dX6_pairArrivalFrom_37 : decode cX6_pairArrivalFrom 37 = .ok (.iload_n 1, 1) := by decide +kernel
theorem dX6_pairArrivalFrom_38 : decode cX6_pairArrivalFrom 38 = .ok (.if_icmp .ge 11, 3) := by decide +kernel
theorem dX6_pairArrivalFrom_41 : decode cX6_pairArrivalFrom 41 = .ok (.iload 5, 2) := by decide +kernel
theorem dX6_pairArrivalFrom_43 : decode cX6_pairArrivalFrom 43 = .ok (.iconst 1, 1) := by decide +kernel
theorem dX6_pairArrivalFrom_44 : decode cX6_pairArrivalFrom 44 = .ok (.iadd, 1) := by decide +kernel
theorem dX6_pairArrivalFrom_45 : decode cX6_pairArrivalFrom 45 = .ok (.istore_n 2, 1) := by decide +kernel
theorem dX6_pairArrivalFrom_46 : decode cX6_pairArrivalFrom 46 = .ok (.goto 6, 3) := by decide +kernel
theorem dX6_pairArrivalFrom_49 : decode cX6_pairArrivalFrom 49 = .ok (.iload 5, 2) := by decide +kernel
theorem dX6_pairArrivalFrom_51 : decode cX6_pairArrivalFrom 51 = .ok (.istore_n 3, 1) := by decide +kernel
theorem dX6_pairArrivalFrom_52 : decode cX6_pairArrivalFrom 52 = .ok (.iinc 4 1, 3) := by decide +kernel
theorem dX6_pairArrivalFrom_55 : decode cX6_pairArrivalFrom 55 = .ok (.goto (-45), 3) := by decide +kernel
theorem dX6_pairArrivalFrom_58 : decode cX6_pairArrivalFrom 58 = .ok (.iload_n 2, 1) := by decide +kernel
theorem dX6_pairArrivalFrom_59 : decode cX6_pairArrivalFrom 59 = .ok (.aload_n 0, 1) := by decide +kernel
theorem dX6_pairArrivalFrom_60 : decode cX6_pairArrivalFrom 60 = .ok (.getfield 154, 3) := by decide +kernel
theorem dX6_pairArrivalFrom_63 : decode cX6_pairArrivalFrom 63 = .ok (.if_icmp .ge 12, 3) := by decide +kernel
theorem dX6_pairArrivalFrom_66 : decode cX6_pairArrivalFrom 66 = .ok (.aload_n 0, 1) := by decide +kernel
theorem dX6_pairArrivalFrom_67 : decode cX6_pairArrivalFrom 67 = .ok (.getfield 28, 3) := by decide +kernel
theorem dX6_pairArrivalFrom_70 : decode cX6_pairArrivalFrom 70 = .ok (.iload_n 2, 1) := by decide +kernel
theorem dX6_pairArrivalFrom_71 : decode cX6_pairArrivalFrom 71 = .ok (.iaload, 1) := by decide +kernel
theorem dX6_pairArrivalFrom_72 : decode cX6_pairArrivalFrom 72 = .ok (.goto 5, 3) := by decide +kernel
theorem dX6_pairArrivalFrom_75 : decode cX6_pairArrivalFrom 75 = .ok (.ldc 153, 2) := by decide +kernel
theorem dX6_pairArrivalFrom_77 : decode cX6_pairArrivalFrom 77 = .ok (.ireturn, 1) := by decide +kernel
theorem dX7_init_0 : decode cX7_init 0 = .ok (.aload_n 0, 1) := by decide +kernel
theorem dX7_init_1 : decode cX7_init 1 = .ok (.invokespecial 3, 3) := by decide +kernel
theorem dX7_init_4 : decode cX7_init 4 = .ok (.aload_n 0, 1) := by decide +kernel
theorem dX7_init_5 : decode cX7_init 5 = .ok (.bipush 6, 2) := by decide +kernel
theorem dX7_init_7 : decode cX7_init 7 = .ok (.newarray .int, 2) := by decide +kernel
theorem dX7_init_9 : decode cX7_init 9 = .ok (.putfield 9, 3) := by decide +kernel
theorem dX7_init_12 : decode cX7_init 12 = .ok (.return_, 1) := by decide +kernel
theorem dX7_has_0 : decode cX7_has 0 = .ok (.iload_n 1, 1) := by decide +kernel
theorem dX7_has_1 : decode cX7_has 1 = .ok (.ifCond .lt 15, 3) := by decide +kernel
theorem dX7_has_4 : decode cX7_has 4 = .ok (.iload_n 1, 1) := by decide +kernel
theorem dX7_has_5 : decode cX7_has 5 = .ok (.aload_n 0, 1) := by decide +kernel
theorem dX7_has_6 : decode cX7_has 6 = .ok (.getfield 15, 3) := by decide +kernel
theorem dX7_has_9 : decode cX7_has 9 = .ok (.if_icmp .ge 7, 3) := by decide +kernel
theorem dX7_has_12 : decode cX7_has 12 = .ok (.iconst 1, 1) := by decide +kernel
theorem dX7_has_13 : decode cX7_has 13 = .ok (.goto 4, 3) := by decide +kernel
theorem dX7_has_16 : decode cX7_has 16 = .ok (.iconst 0, 1) := by decide +kernel
theorem dX7_has_17 : decode cX7_has 17 = .ok (.ireturn, 1) := by decide +kernel
theorem dX7_add_0 : decode cX7_add 0 = .ok (.aload_n 0, 1) := by decide +kernel
theorem dX7_add_1 : decode cX7_add 1 = .ok (.getfield 9, 3) := by decide +kernel
theorem dX7_add_4 : decode cX7_add 4 = .ok (.aload_n 0, 1) := by decide +kernel
theorem dX7_add_5 : decode cX7_add 5 = .ok (.getfield 15, 3) := by decide +kernel
theorem dX7_add_8 : decode cX7_add 8 = .ok (.iconst 0, 1) := by decide +kernel
theorem dX7_add_9 : decode cX7_add 9 = .ok (.iastore, 1) := by decide +kernel
theorem dX7_add_10 : decode cX7_add 10 = .ok (.aload_n 0, 1) := by decide +kernel
theorem dX7_add_11 : decode cX7_add 11 = .ok (.dup, 1) := by decide +kernel
theorem dX7_add_12 : decode cX7_add 12 = .ok (.getfield 15, 3) := by decide +kernel
theorem dX7_add_15 : decode cX7_add 15 = .ok (.iconst 1, 1) := by decide +kernel
theorem dX7_add_16 : decode cX7_add 16 = .ok (.iadd, 1) := by decide +kernel
theorem dX7_add_17 : decode cX7_add 17 = .ok (.putfield 15, 3) := by decide +kernel
theorem dX7_add_20 : decode cX7_add 20 = .ok (.aload_n 0, 1) := by decide +kernel
theorem dX7_add_21 : decode cX7_add 21 = .ok (.getfield 15, 3) := by decide +kernel
theorem dX7_add_24 : decode cX7_add 24 = .ok (.iconst 1, 1) := by decide +kernel
theorem dX7_add_25 : decode cX7_add 25 = .ok (.isub, 1) := by decide +kernel
theorem dX7_add_26 : decode cX7_add 26 = .ok (.ireturn, 1) := by decide +kernel
theorem dX7_put_0 : decode cX7_put 0 = .ok (.iconst 1, 1) := by decide +kernel
theorem dX7_put_1 : decode cX7_put 1 = .ok (.iload_n 2, 1) := by decide +kernel
theorem dX7_put_2 : decode cX7_put 2 = .ok (.ishl, 1) := by decide +kernel
theorem dX7_put_3 : decode cX7_put 3 = .ok (.istore 4, 2) := by decide +kernel
theorem dX7_put_5 : decode cX7_put 5 = .ok (.aload_n 0, 1) := by decide +kernel
theorem dX7_put_6 : decode cX7_put 6 = .ok (.getfield 9, 3) := by decide +kernel
theorem dX7_put_9 : decode cX7_put 9 = .ok (.iload_n 1, 1) := by decide +kernel
theorem dX7_put_10 : decode cX7_put 10 = .ok (.iload_n 3, 1) := by decide +kernel
theorem dX7_put_11 : decode cX7_put 11 = .ok (.ifCond .eq 15, 3) := by decide +kernel
theorem dX7_put_14 : decode cX7_put 14 = .ok (.aload_n 0, 1) := by decide +kernel
theorem dX7_put_15 : decode cX7_put 15 = .ok (.getfield 9, 3) := by decide +kernel
theorem dX7_put_18 : decode cX7_put 18 = .ok (.iload_n 1, 1) := by decide +kernel
theorem dX7_put_19 : decode cX7_put 19 = .ok (.iaload, 1) := by decide +kernel
theorem dX7_put_20 : decode cX7_put 20 = .ok (.iload 4, 2) := by decide +kernel
theorem dX7_put_22 : decode cX7_put 22 = .ok (.ior, 1) := by decide +kernel
theorem dX7_put_23 : decode cX7_put 23 = .ok (.goto 14, 3) := by decide +kernel
theorem dX7_put_26 : decode cX7_put 26 = .ok (.aload_n 0, 1) := by decide +kernel
theorem dX7_put_27 : decode cX7_put 27 = .ok (.getfield 9, 3) := by decide +kernel
theorem dX7_put_30 : decode cX7_put 30 = .ok (.iload_n 1, 1) := by decide +kernel
theorem dX7_put_31 : decode cX7_put 31 = .ok (.iaload, 1) := by decide +kernel
theorem dX7_put_32 : decode cX7_put 32 = .ok (.iload 4, 2) := by decide +kernel
theorem dX7_put_34 : decode cX7_put 34 = .ok (.iconst (-1), 1) := by decide +kernel
theorem dX7_put_35 : decode cX7_put 35 = .ok (.ixor, 1) := by decide +kernel
theorem dX7_put_36 : decode cX7_put 36 = .ok (.iand, 1) := by decide +kernel
theorem dX7_put_37 : decode cX7_put 37 = .ok (.iastore, 1) := by decide +kernel
theorem dX7_put_38 : decode cX7_put 38 = .ok (.return_, 1) := by decide +kernel
theorem dX7_isOn_0 : decode cX7_isOn 0 = .ok (.iload_n 2, 1) := by decide +kernel
theorem dX7_isOn_1 : decode cX7_isOn 1 = .ok (.ifCond .lt 27, 3) := by decide +kernel
theorem dX7_isOn_4 : decode cX7_isOn 4 = .ok (.iload_n 2, 1) := by decide +kernel
theorem dX7_isOn_5 : decode cX7_isOn 5 = .ok (.bipush 28, 2) := by decide +kernel
theorem dX7_isOn_7 : decode cX7_isOn 7 = .ok (.if_icmp .ge 21, 3) := by decide +kernel
theorem dX7_isOn_10 : decode cX7_isOn 10 = .ok (.aload_n 0, 1) := by decide +kernel
theorem dX7_isOn_11 : decode cX7_isOn 11 = .ok (.getfield 9, 3) := by decide +kernel
theorem dX7_isOn_14 : decode cX7_isOn 14 = .ok (.iload_n 1, 1) := by decide +kernel
theorem dX7_isOn_15 : decode cX7_isOn 15 = .ok (.iaload, 1) := by decide +kernel
theorem dX7_isOn_16 : decode cX7_isOn 16 = .ok (.iload_n 2, 1) := by decide +kernel
theorem dX7_isOn_17 : decode cX7_isOn 17 = .ok (.ishr, 1) := by decide +kernel
theorem dX7_isOn_18 : decode cX7_isOn 18 = .ok (.iconst 1, 1) := by decide +kernel
theorem dX7_isOn_19 : decode cX7_isOn 19 = .ok (.iand, 1) := by decide +kernel
theorem dX7_isOn_20 : decode cX7_isOn 20 = .ok (.iconst 1, 1) := by decide +kernel
theorem dX7_isOn_21 : decode cX7_isOn 21 = .ok (.if_icmp .ne 7, 3) := by decide +kernel
theorem dX7_isOn_24 : decode cX7_isOn 24 = .ok (.iconst 1, 1) := by decide +kernel
theorem dX7_isOn_25 : decode cX7_isOn 25 = .ok (.goto 4, 3) := by decide +kernel
theorem dX7_isOn_28 : decode cX7_isOn 28 = .ok (.iconst 0, 1) := by decide +kernel
theorem dX7_isOn_29 : decode cX7_isOn 29 = .ok (.ireturn, 1) := by decide +kernel
theorem dX8_init_0 : decode cX8_init 0 = .ok (.aload_n 0, 1) := by decide +kernel
theorem dX8_init_1 : decode cX8_init 1 = .ok (.invokespecial 3, 3) := by decide +kernel
theorem dX8_init_4 : decode cX8_init 4 = .ok (.aload_n 0, 1) := by decide +kernel
theorem dX8_init_5 : decode cX8_init 5 = .ok (.bipush 12, 2) := by decide +kernel
theorem dX8_init_7 : decode cX8_init 7 = .ok (.newarray .int, 2) := by decide +kernel
theorem dX8_init_9 : decode cX8_init 9 = .ok (.putfield 9, 3) := by decide +kernel
theorem dX8_init_12 : decode cX8_init 12 = .ok (.aload_n 0, 1) := by decide +kernel
theorem dX8_init_13 : decode cX8_init 13 = .ok (.bipush 12, 2) := by decide +kernel
theorem dX8_init_15 : decode cX8_init 15 = .ok (.bipush 12, 2) := by decide +kernel
theorem dX8_init_17 : decode cX8_init 17 = .ok (.multianewarray 15 2, 4) := by decide +kernel
theorem dX8_init_21 : decode cX8_init 21 = .ok (.putfield 17, 3) := by decide +kernel
theorem dX8_init_24 : decode cX8_init 24 = .ok (.aload_n 0, 1) := by decide +kernel
theorem dX8_init_25 : decode cX8_init 25 = .ok (.bipush 12, 2) := by decide +kernel
theorem dX8_init_27 : decode cX8_init 27 = .ok (.bipush 12, 2) := by decide +kernel
theorem dX8_init_29 : decode cX8_init 29 = .ok (.multianewarray 15 2, 4) := by decide +kernel
theorem dX8_init_33 : decode cX8_init 33 = .ok (.putfield 20, 3) := by decide +kernel
theorem dX8_init_36 : decode cX8_init 36 = .ok (.aload_n 0, 1) := by decide +kernel
theorem dX8_init_37 : decode cX8_init 37 = .ok (.iconst (-1), 1) := by decide +kernel
theorem dX8_init_38 : decode cX8_init 38 = .ok (.putfield 23, 3) := by decide +kernel
theorem dX8_init_41 : decode cX8_init 41 = .ok (.return_, 1) := by decide +kernel
theorem dX8_has_0 : decode cX8_has 0 = .ok (.iload_n 1, 1) := by decide +kernel
theorem dX8_has_1 : decode cX8_has 1 = .ok (.ifCond .lt 15, 3) := by decide +kernel
theorem dX8_has_4 : decode cX8_has 4 = .ok (.iload_n 1, 1) := by decide +kernel
theorem dX8_has_5 : decode cX8_has 5 = .ok (.aload_n 0, 1) := by decide +kernel
theorem dX8_has_6 : decode cX8_has 6 = .ok (.getfield 27, 3) := by decide +kernel
theorem dX8_has_9 : decode cX8_has 9 = .ok (.if_icmp .ge 7, 3) := by decide +kernel
theorem dX8_has_12 : decode cX8_has 12 = .ok (.iconst 1, 1) := by decide +kernel
theorem dX8_has_13 : decode cX8_has 13 = .ok (.goto 4, 3) := by decide +kernel
theorem dX8_has_16 : decode cX8_has 16 = .ok (.iconst 0, 1) := by decide +kernel
theorem dX8_has_17 : decode cX8_has 17 = .ok (.ireturn, 1) := by decide +kernel
theorem dX8_add_0 : decode cX8_add 0 = .ok (.aload_n 0, 1) := by decide +kernel
theorem dX8_add_1 : decode cX8_add 1 = .ok (.getfield 9, 3) := by decide +kernel
theorem dX8_add_4 : decode cX8_add 4 = .ok (.aload_n 0, 1) := by decide +kernel
theorem dX8_add_5 : decode cX8_add 5 = .ok (.getfield 27, 3) := by decide +kernel
theorem dX8_add_8 : decode cX8_add 8 = .ok (.iload_n 1, 1) := by decide +kernel
theorem dX8_add_9 : decode cX8_add 9 = .ok (.iastore, 1) := by decide +kernel
theorem dX8_add_10 : decode cX8_add 10 = .ok (.aload_n 0, 1) := by decide +kernel
theorem dX8_add_11 : decode cX8_add 11 = .ok (.dup, 1) := by decide +kernel
theorem dX8_add_12 : decode cX8_add 12 = .ok (.getfield 27, 3) := by decide +kernel
theorem dX8_add_15 : decode cX8_add 15 = .ok (.iconst 1, 1) := by decide +kernel
theorem dX8_add_16 : decode cX8_add 16 = .ok (.iadd, 1) := by decide +kernel
theorem dX8_add_17 : decode cX8_add 17 = .ok (.putfield 27, 3) := by decide +kernel
theorem dX8_add_20 : decode cX8_add 20 = .ok (.aload_n 0, 1) := by decide +kernel
theorem dX8_add_21 : decode cX8_add 21 = .ok (.getfield 27, 3) := by decide +kernel
theorem dX8_add_24 : decode cX8_add 24 = .ok (.iconst 1, 1) := by decide +kernel
theorem dX8_add_25 : decode cX8_add 25 = .ok (.isub, 1) := by decide +kernel
theorem dX8_add_26 : decode cX8_add 26 = .ok (.ireturn, 1) := by decide +kernel
theorem dX8_link_0 : decode cX8_link 0 = .ok (.aload_n 0, 1) := by decide +kernel
theorem dX8_link_1 : decode cX8_link 1 = .ok (.iload_n 1, 1) := by decide +kernel
theorem dX8_link_2 : decode cX8_link 2 = .ok (.putfield 23, 3) := by decide +kernel
theorem dX8_link_5 : decode cX8_link 5 = .ok (.iconst 0, 1) := by decide +kernel
theorem dX8_link_6 : decode cX8_link 6 = .ok (.istore_n 2, 1) := by decide +kernel
theorem dX8_link_7 : decode cX8_link 7 = .ok (.iload_n 2, 1) := by decide +kernel
theorem dX8_link_8 : decode cX8_link 8 = .ok (.aload_n 0, 1) := by decide +kernel
theorem dX8_link_9 : decode cX8_link 9 = .ok (.getfield 27, 3) := by decide +kernel
theorem dX8_link_12 : decode cX8_link 12 = .ok (.if_icmp .ge 85, 3) := by decide +kernel
theorem dX8_link_15 : decode cX8_link 15 = .ok (.iconst 0, 1) := by decide +kernel
theorem dX8_link_16 : decode cX8_link 16 = .ok (.istore_n 3, 1) := by decide +kernel
theorem dX8_link_17 : decode cX8_link 17 = .ok (.iload_n 3, 1) := by decide +kernel
theorem dX8_link_18 : decode cX8_link 18 = .ok (.aload_n 0, 1) := by decide +kernel
theorem dX8_link_19 : decode cX8_link 19 = .ok (.getfield 27, 3) := by decide +kernel
theorem dX8_link_22 : decode cX8_link 22 = .ok (.if_icmp .ge 69, 3) := by decide +kernel
theorem dX8_link_25 : decode cX8_link 25 = .ok (.aload_n 0, 1) := by decide +kernel
theorem dX8_link_26 : decode cX8_link 26 = .ok (.getfield 17, 3) := by decide +kernel
theorem dX8_link_29 : decode cX8_link 29 = .ok (.iload_n 2, 1) := by decide +kernel
theorem dX8_link_30 : decode cX8_link 30 = .ok (.aaload, 1) := by decide +kernel
theorem dX8_link_31 : decode cX8_link 31 = .ok (.iload_n 3, 1) := by decide +kernel
theorem dX8_link_32 : decode cX8_link 32 = .ok (.iaload, 1) := by decide +kernel
theorem dX8_link_33 : decode cX8_link 33 = .ok (.ifCond .le 23, 3) := by decide +kernel
theorem dX8_link_36 : decode cX8_link 36 = .ok (.iload_n 2, 1) := by decide +kernel
theorem dX8_link_37 : decode cX8_link 37 = .ok (.aload_n 0, 1) := by decide +kernel
theorem dX8_link_38 : decode cX8_link 38 = .ok (.getfield 23, 3) := by decide +kernel
theorem dX8_link_41 : decode cX8_link 41 = .ok (.if_icmp .eq 15, 3) := by decide +kernel
theorem dX8_link_44 : decode cX8_link 44 = .ok (.iload_n 3, 1) := by decide +kernel
theorem dX8_link_45 : decode cX8_link 45 = .ok (.aload_n 0, 1) := by decide +kernel
theorem dX8_link_46 : decode cX8_link 46 = .ok (.getfield 23, 3) := by decide +kernel
theorem dX8_link_49 : decode cX8_link 49 = .ok (.if_icmp .eq 7, 3) := by decide +kernel
theorem dX8_link_52 : decode cX8_link 52 = .ok (.iconst 1, 1) := by decide +kernel
theorem dX8_link_53 : decode cX8_link 53 = .ok (.goto 4, 3) := by decide +kernel
theorem dX8_link_56 : decode cX8_link 56 = .ok (.iconst 0, 1) := by decide +kernel
theorem dX8_link_57 : decode cX8_link 57 = .ok (.istore 4, 2) := by decide +kernel
theorem dX8_link_59 : decode cX8_link 59 = .ok (.aload_n 0, 1) := by decide +kernel
theorem dX8_link_60 : decode cX8_link 60 = .ok (.getfield 20, 3) := by decide +kernel
theorem dX8_link_63 : decode cX8_link 63 = .ok (.iload_n 2, 1) := by decide +kernel
theorem dX8_link_64 : decode cX8_link 64 = .ok (.aaload, 1) := by decide +kernel
theorem dX8_link_65 : decode cX8_link 65 = .ok (.iload_n 3, 1) := by decide +kernel
theorem dX8_link_66 : decode cX8_link 66 = .ok (.iload 4, 2) := by decide +kernel
theorem dX8_link_68 : decode cX8_link 68 = .ok (.ifCond .eq 14, 3) := by decide +kernel
theorem dX8_link_71 : decode cX8_link 71 = .ok (.aload_n 0, 1) := by decide +kernel
theorem dX8_link_72 : decode cX8_link 72 = .ok (.getfield 17, 3) := by decide +kernel
theorem dX8_link_75 : decode cX8_link 75 = .ok (.iload_n 2, 1) := by decide +kernel
theorem dX8_link_76 : decode cX8_link 76 = .ok (.aaload, 1) := by decide +kernel
theorem dX8_link_77 : decode cX8_link 77 = .ok (.iload_n 3, 1) := by decide +kernel
theorem dX8_link_78 : decode cX8_link 78 = .ok (.iaload, 1) := by decide +kernel
theorem dX8_link_79 : decode cX8_link 79 = .ok (.goto 5, 3) := by decide +kernel
theorem dX8_link_82 : decode cX8_link 82 = .ok (.ldc 30, 2) := by decide +kernel
theorem dX8_link_84 : decode cX8_link 84 = .ok (.iastore, 1) := by decide +kernel
theorem dX8_link_85 : decode cX8_link 85 = .ok (.iinc 3 1, 3) := by decide +kernel
theorem dX8_link_88 : decode cX8_link 88 = .ok (.goto (-71), 3) := by decide +kernel
theorem dX8_link_91 : decode cX8_link 91 = .ok (.iinc 2 1, 3) := by decide +kernel
theorem dX8_link_94 : decode cX8_link 94 = .ok (.goto (-87), 3) := by decide +kernel
theorem dX8_link_97 : decode cX8_link 97 = .ok (.iconst 0, 1) := by decide +kernel
theorem dX8_link_98 : decode cX8_link 98 = .ok (.istore_n 2, 1) := by decide +kernel
theorem dX8_link_99 : decode cX8_link 99 = .ok (.iload_n 2, 1) := by decide +kernel
theorem dX8_link_100 : decode cX8_link 100 = .ok (.aload_n 0, 1) := by decide +kernel
theorem dX8_link_101 : decode cX8_link 101 = .ok (.getfield 27, 3) := by decide +kernel
theorem dX8_link_104 : decode cX8_link 104 = .ok (.if_icmp .ge 44, 3) := by decide +kernel
theorem dX8_link_107 : decode cX8_link 107 = .ok (.iconst 0, 1) := by decide +kernel
theorem dX8_link_108 : decode cX8_link 108 = .ok (.istore_n 3, 1) := by decide +kernel
theorem dX8_link_109 : decode cX8_link 109 = .ok (.iload_n 3, 1) := by decide +kernel
theorem dX8_link_110 : decode cX8_link 110 = .ok (.aload_n 0, 1) := by decide +kernel
theorem dX8_link_111 : decode cX8_link 111 = .ok (.getfield 27, 3) := by decide +kernel
theorem dX8_link_114 : decode cX8_link 114 = .ok (.if_icmp .ge 28, 3) := by decide +kernel
theorem dX8_link_117 : decode cX8_link 117 = .ok (.aload_n 0, 1) := by decide +kernel
theorem dX8_link_118 : decode cX8_link 118 = .ok (.getfield 20, 3) := by decide +kernel
theorem dX8_link_121 : decode cX8_link 121 = .ok (.iload_n 3, 1) := by decide +kernel
theorem dX8_link_122 : decode cX8_link 122 = .ok (.aaload, 1) := by decide +kernel
theorem dX8_link_123 : decode cX8_link 123 = .ok (.iload_n 2, 1) := by decide +kernel
theorem dX8_link_124 : decode cX8_link 124 = .ok (.iaload, 1) := by decide +kernel
theorem dX8_link_125 : decode cX8_link 125 = .ok (.ldc 30, 2) := by decide +kernel
theorem dX8_link_127 : decode cX8_link 127 = .ok (.if_icmp .ge 9, 3) := by decide +kernel
theorem dX8_link_130 : decode cX8_link 130 = .ok (.aload_n 0, 1) := by decide +kernel
theorem dX8_link_131 : decode cX8_link 131 = .ok (.iload_n 3, 1) := by decide +kernel
theorem dX8_link_132 : decode cX8_link 132 = .ok (.iload_n 2, 1) := by decide +kernel
theorem dX8_link_133 : decode cX8_link 133 = .ok (.invokevirtual 31, 3) := by decide +kernel
theorem dX8_link_136 : decode cX8_link 136 = .ok (.iinc 3 1, 3) := by decide +kernel
theorem dX8_link_139 : decode cX8_link 139 = .ok (.goto (-30), 3) := by decide +kernel
theorem dX8_link_142 : decode cX8_link 142 = .ok (.iinc 2 1, 3) := by decide +kernel
theorem dX8_link_145 : decode cX8_link 145 = .ok (.goto (-46), 3) := by decide +kernel
theorem dX8_link_148 : decode cX8_link 148 = .ok (.return_, 1) := by decide +kernel
theorem dX8_linkVia_0 : decode cX8_linkVia 0 = .ok (.iconst 0, 1) := by decide +kernel
theorem dX8_linkVia_1 : decode cX8_linkVia 1 = .ok (.istore_n 3, 1) := by decide +kernel
theorem dX8_linkVia_2 : decode cX8_linkVia 2 = .ok (.iload_n 3, 1) := by decide +kernel
theorem dX8_linkVia_3 : decode cX8_linkVia 3 = .ok (.aload_n 0, 1) := by decide +kernel
theorem dX8_linkVia_4 : decode cX8_linkVia 4 = .ok (.getfield 27, 3) := by decide +kernel
theorem dX8_linkVia_7 : decode cX8_linkVia 7 = .ok (.if_icmp .ge 56, 3) := by decide +kernel
theorem dX8_linkVia_10 : decode cX8_linkVia 10 = .ok (.aload_n 0, 1) := by decide +kernel
theorem dX8_linkVia_11 : decode cX8_linkVia 11 = .ok (.getfield 20, 3) := by decide +kernel
theorem dX8_linkVia_14 : decode cX8_linkVia 14 = .ok (.iload_n 1, 1) := by decide +kernel
theorem dX8_linkVia_15 : decode cX8_linkVia 15 = .ok (.aaload, 1) := by decide +kernel
theorem dX8_linkVia_16 : decode cX8_linkVia 16 = .ok (.iload_n 2, 1) := by decide +kernel
theorem dX8_linkVia_17 : decode cX8_linkVia 17 = .ok (.iaload, 1) := by decide +kernel
theorem dX8_linkVia_18 : decode cX8_linkVia 18 = .ok (.aload_n 0, 1) := by decide +kernel
theorem dX8_linkVia_19 : decode cX8_linkVia 19 = .ok (.getfield 20, 3) := by decide +kernel
theorem dX8_linkVia_22 : decode cX8_linkVia 22 = .ok (.iload_n 2, 1) := by decide +kernel
theorem dX8_linkVia_23 : decode cX8_linkVia 23 = .ok (.aaload, 1) := by decide +kernel
theorem dX8_linkVia_24 : decode cX8_linkVia 24 = .ok (.iload_n 3, 1) := by decide +kernel
theorem dX8_linkVia_25 : decode cX8_linkVia 25 = .ok (.iaload, 1) := by decide +kernel
theorem dX8_linkVia_26 : decode cX8_linkVia 26 = .ok (.iadd, 1) := by decide +kernel
theorem dX8_linkVia_27 : decode cX8_linkVia 27 = .ok (.istore 4, 2) := by decide +kernel
theorem dX8_linkVia_29 : decode cX8_linkVia 29 = .ok (.iload_n 3, 1) := by decide +kernel
theorem dX8_linkVia_30 : decode cX8_linkVia 30 = .ok (.iload_n 1, 1) := by decide +kernel
theorem dX8_linkVia_31 : decode cX8_linkVia 31 = .ok (.if_icmp .eq 26, 3) := by decide +kernel
theorem dX8_linkVia_34 : decode cX8_linkVia 34 = .ok (.iload 4, 2) := by decide +kernel
theorem dX8_linkVia_36 : decode cX8_linkVia 36 = .ok (.aload_n 0, 1) := by decide +kernel
theorem dX8_linkVia_37 : decode cX8_linkVia 37 = .ok (.getfield 20, 3) := by decide +kernel
theorem dX8_linkVia_40 : decode cX8_linkVia 40 = .ok (.iload_n 1, 1) := by decide +kernel
theorem dX8_linkVia_41 : decode cX8_linkVia 41 = .ok (.aaload, 1) := by decide +kernel
theorem dX8_linkVia_42 : decode cX8_linkVia 42 = .ok (.iload_n 3, 1) := by decide +kernel
theorem dX8_linkVia_43 : decode cX8_linkVia 43 = .ok (.iaload, 1) := by decide +kernel
theorem dX8_linkVia_44 : decode cX8_linkVia 44 = .ok (.if_icmp .ge 13, 3) := by decide +kernel
theorem dX8_linkVia_47 : decode cX8_linkVia 47 = .ok (.aload_n 0, 1) := by decide +kernel
theorem dX8_linkVia_48 : decode cX8_linkVia 48 = .ok (.getfield 20, 3) := by decide +kernel
theorem dX8_linkVia_51 : decode cX8_linkVia 51 = .ok (.iload_n 1, 1) := by decide +kernel
theorem dX8_linkVia_52 : decode cX8_linkVia 52 = .ok (.aaload, 1) := by decide +kernel
theorem dX8_linkVia_53 : decode cX8_linkVia 53 = .ok (.iload_n 3, 1) := by decide +kernel
theorem dX8_linkVia_54 : decode cX8_linkVia 54 = .ok (.iload 4, 2) := by decide +kernel
theorem dX8_linkVia_56 : decode cX8_linkVia 56 = .ok (.iastore, 1) := by decide +kernel
theorem dX8_linkVia_57 : decode cX8_linkVia 57 = .ok (.iinc 3 1, 3) := by decide +kernel
theorem dX8_linkVia_60 : decode cX8_linkVia 60 = .ok (.goto (-58), 3) := by decide +kernel
theorem dX8_linkVia_63 : decode cX8_linkVia 63 = .ok (.return_, 1) := by decide +kernel
theorem dX9_init_0 : decode cX9_init 0 = .ok (.aload_n 0, 1) := by decide +kernel
theorem dX9_init_1 : decode cX9_init 1 = .ok (.invokespecial 3, 3) := by decide +kernel
theorem dX9_init_4 : decode cX9_init 4 = .ok (.aload_n 0, 1) := by decide +kernel
theorem dX9_init_5 : decode cX9_init 5 = .ok (.bipush 24, 2) := by decide +kernel
theorem dX9_init_7 : decode cX9_init 7 = .ok (.newarray .int, 2) := by decide +kernel
theorem dX9_init_9 : decode cX9_init 9 = .ok (.putfield 9, 3) := by decide +kernel
theorem dX9_init_12 : decode cX9_init 12 = .ok (.aload_n 0, 1) := by decide +kernel
theorem dX9_init_13 : decode cX9_init 13 = .ok (.bipush 24, 2) := by decide +kernel
theorem dX9_init_15 : decode cX9_init 15 = .ok (.newarray .int, 2) := by decide +kernel
theorem dX9_init_17 : decode cX9_init 17 = .ok (.putfield 15, 3) := by decide +kernel
theorem dX9_init_20 : decode cX9_init 20 = .ok (.aload_n 0, 1) := by decide +kernel
theorem dX9_init_21 : decode cX9_init 21 = .ok (.bipush 24, 2) := by decide +kernel
theorem dX9_init_23 : decode cX9_init 23 = .ok (.bipush 8, 2) := by decide +kernel
theorem dX9_init_25 : decode cX9_init 25 = .ok (.multianewarray 18 2, 4) := by decide +kernel
theorem dX9_init_29 : decode cX9_init 29 = .ok (.putfield 20, 3) := by decide +kernel
theorem dX9_init_32 : decode cX9_init 32 = .ok (.aload_n 0, 1) := by decide +kernel
theorem dX9_init_33 : decode cX9_init 33 = .ok (.bipush 24, 2) := by decide +kernel
theorem dX9_init_35 : decode cX9_init 35 = .ok (.bipush 8, 2) := by decide +kernel
theorem dX9_init_37 : decode cX9_init 37 = .ok (.multianewarray 18 2, 4) := by decide +kernel
theorem dX9_init_41 : decode cX9_init 41 = .ok (.putfield 23, 3) := by decide +kernel
theorem dX9_init_44 : decode cX9_init 44 = .ok (.aload_n 0, 1) := by decide +kernel
theorem dX9_init_45 : decode cX9_init 45 = .ok (.bipush 24, 2) := by decide +kernel
theorem dX9_init_47 : decode cX9_init 47 = .ok (.bipush 8, 2) := by decide +kernel
theorem dX9_init_49 : decode cX9_init 49 = .ok (.multianewarray 18 2, 4) := by decide +kernel
theorem dX9_init_53 : decode cX9_init 53 = .ok (.putfield 26, 3) := by decide +kernel
theorem dX9_init_56 : decode cX9_init 56 = .ok (.return_, 1) := by decide +kernel
theorem dX9_has_0 : decode cX9_has 0 = .ok (.iload_n 1, 1) := by decide +kernel
theorem dX9_has_1 : decode cX9_has 1 = .ok (.ifCond .lt 15, 3) := by decide +kernel
theorem dX9_has_4 : decode cX9_has 4 = .ok (.iload_n 1, 1) := by decide +kernel
theorem dX9_has_5 : decode cX9_has 5 = .ok (.aload_n 0, 1) := by decide +kernel
theorem dX9_has_6 : decode cX9_has 6 = .ok (.getfield 29, 3) := by decide +kernel
theorem dX9_has_9 : decode cX9_has 9 = .ok (.if_icmp .ge 7, 3) := by decide +kernel
theorem dX9_has_12 : decode cX9_has 12 = .ok (.iconst 1, 1) := by decide +kernel
theorem dX9_has_13 : decode cX9_has 13 = .ok (.goto 4, 3) := by decide +kernel
theorem dX9_has_16 : decode cX9_has 16 = .ok (.iconst 0, 1) := by decide +kernel
theorem dX9_has_17 : decode cX9_has 17 = .ok (.ireturn, 1) := by decide +kernel
theorem dX9_begin_0 : decode cX9_begin 0 = .ok (.aload_n 0, 1) := by decide +kernel
theorem dX9_begin_1 : decode cX9_begin 1 = .ok (.getfield 9, 3) := by decide +kernel
theorem dX9_begin_4 : decode cX9_begin 4 = .ok (.aload_n 0, 1) := by decide +kernel
theorem dX9_begin_5 : decode cX9_begin 5 = .ok (.getfield 29, 3) := by decide +kernel
theorem dX9_begin_8 : decode cX9_begin 8 = .ok (.iload_n 1, 1) := by decide +kernel
theorem dX9_begin_9 : decode cX9_begin 9 = .ok (.iastore, 1) := by decide +kernel
theorem dX9_begin_10 : decode cX9_begin 10 = .ok (.aload_n 0, 1) := by decide +kernel
theorem dX9_begin_11 : decode cX9_begin 11 = .ok (.getfield 15, 3) := by decide +kernel
theorem dX9_begin_14 : decode cX9_begin 14 = .ok (.aload_n 0, 1) := by decide +kernel
theorem dX9_begin_15 : decode cX9_begin 15 = .ok (.getfield 29, 3) := by decide +kernel
theorem dX9_begin_18 : decode cX9_begin 18 = .ok (.iconst 0, 1) := by decide +kernel
theorem dX9_begin_19 : decode cX9_begin 19 = .ok (.iastore, 1) := by decide +kernel
theorem dX9_begin_20 : decode cX9_begin 20 = .ok (.aload_n 0, 1) := by decide +kernel
theorem dX9_begin_21 : decode cX9_begin 21 = .ok (.aload_n 0, 1) := by decide +kernel
theorem dX9_begin_22 : decode cX9_begin 22 = .ok (.getfield 29, 3) := by decide +kernel
theorem dX9_begin_25 : decode cX9_begin 25 = .ok (.iload_n 2, 1) := by decide +kernel
theorem dX9_begin_26 : decode cX9_begin 26 = .ok (.iload_n 3, 1) := by decide +kernel
theorem dX9_begin_27 : decode cX9_begin 27 = .ok (.iload_n 3, 1) := by decide +kernel
theorem dX9_begin_28 : decode cX9_begin 28 = .ok (.invokevirtual 33, 3) := by decide +kernel
theorem dX9_begin_31 : decode cX9_begin 31 = .ok (.aload_n 0, 1) := by decide +kernel
theorem dX9_begin_32 : decode cX9_begin 32 = .ok (.dup, 1) := by decide +kernel
theorem dX9_begin_33 : decode cX9_begin 33 = .ok (.getfield 29, 3) := by decide +kernel
theorem dX9_begin_36 : decode cX9_begin 36 = .ok (.iconst 1, 1) := by decide +kernel
theorem dX9_begin_37 : decode cX9_begin 37 = .ok (.iadd, 1) := by decide +kernel
theorem dX9_begin_38 : decode cX9_begin 38 = .ok (.putfield 29, 3) := by decide +kernel
theorem dX9_begin_41 : decode cX9_begin 41 = .ok (.aload_n 0, 1) := by decide +kernel
theorem dX9_begin_42 : decode cX9_begin 42 = .ok (.getfield 29, 3) := by decide +kernel
theorem dX9_begin_45 : decode cX9_begin 45 = .ok (.iconst 1, 1) := by decide +kernel
theorem dX9_begin_46 : decode cX9_begin 46 = .ok (.isub, 1) := by decide +kernel
theorem dX9_begin_47 : decode cX9_begin 47 = .ok (.ireturn, 1) := by decide +kernel
theorem dX9_add_0 : decode cX9_add 0 = .ok (.aload_n 0, 1) := by decide +kernel
theorem dX9_add_1 : decode cX9_add 1 = .ok (.getfield 15, 3) := by decide +kernel
theorem dX9_add_4 : decode cX9_add 4 = .ok (.iload_n 1, 1) := by decide +kernel
theorem dX9_add_5 : decode cX9_add 5 = .ok (.iaload, 1) := by decide +kernel
theorem dX9_add_6 : decode cX9_add 6 = .ok (.istore 5, 2) := by decide +kernel
theorem dX9_add_8 : decode cX9_add 8 = .ok (.aload_n 0, 1) := by decide +kernel
theorem dX9_add_9 : decode cX9_add 9 = .ok (.getfield 20, 3) := by decide +kernel
theorem dX9_add_12 : decode cX9_add 12 = .ok (.iload_n 1, 1) := by decide +kernel
theorem dX9_add_13 : decode cX9_add 13 = .ok (.aaload, 1) := by decide +kernel
theorem dX9_add_14 : decode cX9_add 14 = .ok (.iload 5, 2) := by decide +kernel
theorem dX9_add_16 : decode cX9_add 16 = .ok (.iload_n 2, 1) := by decide +kernel
theorem dX9_add_17 : decode cX9_add 17 = .ok (.iastore, 1) := by decide +kernel
theorem dX9_add_18 : decode cX9_add 18 = .ok (.aload_n 0, 1) := by decide +kernel
theorem dX9_add_19 : decode cX9_add 19 = .ok (.getfield 23, 3) := by decide +kernel
theorem dX9_add_22 : decode cX9_add 22 = .ok (.iload_n 1, 1) := by decide +kernel
theorem dX9_add_23 : decode cX9_add 23 = .ok (.aaload, 1) := by decide +kernel
theorem dX9_add_24 : decode cX9_add 24 = .ok (.iload 5, 2) := by decide +kernel
theorem dX9_add_26 : decode cX9_add 26 = .ok (.iload_n 3, 1) := by decide +kernel
theorem dX9_add_27 : decode cX9_add 27 = .ok (.iastore, 1) := by decide +kernel
theorem dX9_add_28 : decode cX9_add 28 = .ok (.aload_n 0, 1) := by decide +kernel
theorem dX9_add_29 : decode cX9_add 29 = .ok (.getfield 26, 3) := by decide +kernel
theorem dX9_add_32 : decode cX9_add 32 = .ok (.iload_n 1, 1) := by decide +kernel
theorem dX9_add_33 : decode cX9_add 33 = .ok (.aaload, 1) := by decide +kernel
theorem dX9_add_34 : decode cX9_add 34 = .ok (.iload 5, 2) := by decide +kernel
theorem dX9_add_36 : decode cX9_add 36 = .ok (.iload 4, 2) := by decide +kernel
theorem dX9_add_38 : decode cX9_add 38 = .ok (.iastore, 1) := by decide +kernel
theorem dX9_add_39 : decode cX9_add 39 = .ok (.aload_n 0, 1) := by decide +kernel
theorem dX9_add_40 : decode cX9_add 40 = .ok (.getfield 15, 3) := by decide +kernel
theorem dX9_add_43 : decode cX9_add 43 = .ok (.iload_n 1, 1) := by decide +kernel
theorem dX9_add_44 : decode cX9_add 44 = .ok (.dup2, 1) := by decide +kernel
theorem dX9_add_45 : decode cX9_add 45 = .ok (.iaload, 1) := by decide +kernel
theorem dX9_add_46 : decode cX9_add 46 = .ok (.iconst 1, 1) := by decide +kernel
theorem dX9_add_47 : decode cX9_add 47 = .ok (.iadd, 1) := by decide +kernel
theorem dX9_add_48 : decode cX9_add 48 = .ok (.iastore, 1) := by decide +kernel
theorem dX9_add_49 : decode cX9_add 49 = .ok (.return_, 1) := by decide +kernel
theorem dX10_init_0 : decode cX10_init 0 = .ok (.aload_n 0, 1) := by decide +kernel
theorem dX10_init_1 : decode cX10_init 1 = .ok (.invokespecial 3, 3) := by decide +kernel
theorem dX10_init_4 : decode cX10_init 4 = .ok (.aload_n 0, 1) := by decide +kernel
theorem dX10_init_5 : decode cX10_init 5 = .ok (.bipush 6, 2) := by decide +kernel
theorem dX10_init_7 : decode cX10_init 7 = .ok (.newarray .int, 2) := by decide +kernel
theorem dX10_init_9 : decode cX10_init 9 = .ok (.putfield 9, 3) := by decide +kernel
theorem dX10_init_12 : decode cX10_init 12 = .ok (.aload_n 0, 1) := by decide +kernel
theorem dX10_init_13 : decode cX10_init 13 = .ok (.bipush 6, 2) := by decide +kernel
theorem dX10_init_15 : decode cX10_init 15 = .ok (.newarray .int, 2) := by decide +kernel
theorem dX10_init_17 : decode cX10_init 17 = .ok (.putfield 15, 3) := by decide +kernel
theorem dX10_init_20 : decode cX10_init 20 = .ok (.aload_n 0, 1) := by decide +kernel
theorem dX10_init_21 : decode cX10_init 21 = .ok (.bipush 6, 2) := by decide +kernel
theorem dX10_init_23 : decode cX10_init 23 = .ok (.newarray .int, 2) := by decide +kernel
theorem dX10_init_25 : decode cX10_init 25 = .ok (.putfield 18, 3) := by decide +kernel
theorem dX10_init_28 : decode cX10_init 28 = .ok (.aload_n 0, 1) := by decide +kernel
theorem dX10_init_29 : decode cX10_init 29 = .ok (.bipush 6, 2) := by decide +kernel
theorem dX10_init_31 : decode cX10_init 31 = .ok (.newarray .int, 2) := by decide +kernel
theorem dX10_init_33 : decode cX10_init 33 = .ok (.putfield 21, 3) := by decide +kernel
theorem dX10_init_36 : decode cX10_init 36 = .ok (.aload_n 0, 1) := by decide +kernel
theorem dX10_init_37 : decode cX10_init 37 = .ok (.bipush 6, 2) := by decide +kernel
theorem dX10_init_39 : decode cX10_init 39 = .ok (.newarray .int, 2) := by decide +kernel
theorem dX10_init_41 : decode cX10_init 41 = .ok (.putfield 24, 3) := by decide +kernel
theorem dX10_init_44 : decode cX10_init 44 = .ok (.aload_n 0, 1) := by decide +kernel
theorem dX10_init_45 : decode cX10_init 45 = .ok (.bipush 24, 2) := by decide +kernel
theorem dX10_init_47 : decode cX10_init 47 = .ok (.bipush 8, 2) := by decide +kernel
theorem dX10_init_49 : decode cX10_init 49 = .ok (.multianewarray 27 2, 4) := by decide +kernel
theorem dX10_init_53 : decode cX10_init 53 = .ok (.putfield 29, 3) := by decide +kernel
theorem dX10_init_56 : decode cX10_init 56 = .ok (.aload_n 0, 1) := by decide +kernel
theorem dX10_init_57 : decode cX10_init 57 = .ok (.aload_n 1, 1) := by decide +kernel
theorem dX10_init_58 : decode cX10_init 58 = .ok (.putfield 32, 3) := by decide +kernel
theorem dX10_init_61 : decode cX10_init 61 = .ok (.aload_n 0, 1) := by decide +kernel
theorem dX10_init_62 : decode cX10_init 62 = .ok (.aload_n 2, 1) := by decide +kernel
theorem dX10_init_63 : decode cX10_init 63 = .ok (.putfield 36, 3) := by decide +kernel
theorem dX10_init_66 : decode cX10_init 66 = .ok (.aload_n 0, 1) := by decide +kernel
theorem dX10_init_67 : decode cX10_init 67 = .ok (.aload_n 3, 1) := by decide +kernel
theorem dX10_init_68 : decode cX10_init 68 = .ok (.putfield 40, 3) := by decide +kernel
theorem dX10_init_71 : decode cX10_init 71 = .ok (.aload_n 0, 1) := by decide +kernel
theorem dX10_init_72 : decode cX10_init 72 = .ok (.aload 4, 2) := by decide +kernel
theorem dX10_init_74 : decode cX10_init 74 = .ok (.putfield 44, 3) := by decide +kernel
theorem dX10_init_77 : decode cX10_init 77 = .ok (.return_, 1) := by decide +kernel
theorem dX11_init_0 : decode cX11_init 0 = .ok (.aload_n 0, 1) := by decide +kernel
theorem dX11_init_1 : decode cX11_init 1 = .ok (.invokespecial 3, 3) := by decide +kernel
theorem dX11_init_4 : decode cX11_init 4 = .ok (.aload_n 0, 1) := by decide +kernel
theorem dX11_init_5 : decode cX11_init 5 = .ok (.new 9, 3) := by decide +kernel
theorem dX11_init_8 : decode cX11_init 8 = .ok (.dup, 1) := by decide +kernel
theorem dX11_init_9 : decode cX11_init 9 = .ok (.invokespecial 11, 3) := by decide +kernel
theorem dX11_init_12 : decode cX11_init 12 = .ok (.putfield 12, 3) := by decide +kernel
theorem dX11_init_15 : decode cX11_init 15 = .ok (.aload_n 0, 1) := by decide +kernel
theorem dX11_init_16 : decode cX11_init 16 = .ok (.new 16, 3) := by decide +kernel
theorem dX11_init_19 : decode cX11_init 19 = .ok (.dup, 1) := by decide +kernel
theorem dX11_init_20 : decode cX11_init 20 = .ok (.invokespecial 18, 3) := by decide +kernel
theorem dX11_init_23 : decode cX11_init 23 = .ok (.putfield 19, 3) := by decide +kernel
theorem dX11_init_26 : decode cX11_init 26 = .ok (.aload_n 0, 1) := by decide +kernel
theorem dX11_init_27 : decode cX11_init 27 = .ok (.new 23, 3) := by decide +kernel
theorem dX11_init_30 : decode cX11_init 30 = .ok (.dup, 1) := by decide +kernel
theorem dX11_init_31 : decode cX11_init 31 = .ok (.invokespecial 25, 3) := by decide +kernel
theorem dX11_init_34 : decode cX11_init 34 = .ok (.putfield 26, 3) := by decide +kernel
theorem dX11_init_37 : decode cX11_init 37 = .ok (.aload_n 0, 1) := by decide +kernel
theorem dX11_init_38 : decode cX11_init 38 = .ok (.new 30, 3) := by decide +kernel
theorem dX11_init_41 : decode cX11_init 41 = .ok (.dup, 1) := by decide +kernel
theorem dX11_init_42 : decode cX11_init 42 = .ok (.invokespecial 32, 3) := by decide +kernel
theorem dX11_init_45 : decode cX11_init 45 = .ok (.putfield 33, 3) := by decide +kernel
theorem dX11_init_48 : decode cX11_init 48 = .ok (.aload_n 0, 1) := by decide +kernel
theorem dX11_init_49 : decode cX11_init 49 = .ok (.new 37, 3) := by decide +kernel
theorem dX11_init_52 : decode cX11_init 52 = .ok (.dup, 1) := by decide +kernel
theorem dX11_init_53 : decode cX11_init 53 = .ok (.invokespecial 39, 3) := by decide +kernel
theorem dX11_init_56 : decode cX11_init 56 = .ok (.putfield 40, 3) := by decide +kernel
theorem dX11_init_59 : decode cX11_init 59 = .ok (.aload_n 0, 1) := by decide +kernel
theorem dX11_init_60 : decode cX11_init 60 = .ok (.new 44, 3) := by decide +kernel
theorem dX11_init_63 : decode cX11_init 63 = .ok (.dup, 1) := by decide +kernel
theorem dX11_init_64 : decode cX11_init 64 = .ok (.aload_n 0, 1) := by decide +kernel
theorem dX11_init_65 : decode cX11_init 65 = .ok (.getfield 12, 3) := by decide +kernel
theorem dX11_init_68 : decode cX11_init 68 = .ok (.aload_n 0, 1) := by decide +kernel
theorem dX11_init_69 : decode cX11_init 69 = .ok (.getfield 19, 3) := by decide +kernel
theorem dX11_init_72 : decode cX11_init 72 = .ok (.aload_n 0, 1) := by decide +kernel
theorem dX11_init_73 : decode cX11_init 73 = .ok (.getfield 26, 3) := by decide +kernel
theorem dX11_init_76 : decode cX11_init 76 = .ok (.aload_n 0, 1) := by decide +kernel
theorem dX11_init_77 : decode cX11_init 77 = .ok (.getfield 33, 3) := by decide +kernel
theorem dX11_init_80 : decode cX11_init 80 = .ok (.invokespecial 46, 3) := by decide +kernel
theorem dX11_init_83 : decode cX11_init 83 = .ok (.putfield 49, 3) := by decide +kernel
theorem dX11_init_86 : decode cX11_init 86 = .ok (.aload_n 0, 1) := by decide +kernel
theorem dX11_init_87 : decode cX11_init 87 = .ok (.new 53, 3) := by decide +kernel
theorem dX11_init_90 : decode cX11_init 90 = .ok (.dup, 1) := by decide +kernel
theorem dX11_init_91 : decode cX11_init 91 = .ok (.aload_n 0, 1) := by decide +kernel
theorem dX11_init_92 : decode cX11_init 92 = .ok (.getfield 12, 3) := by decide +kernel
theorem dX11_init_95 : decode cX11_init 95 = .ok (.aload_n 0, 1) := by decide +kernel
theorem dX11_init_96 : decode cX11_init 96 = .ok (.getfield 49, 3) := by decide +kernel
theorem dX11_init_99 : decode cX11_init 99 = .ok (.invokespecial 55, 3) := by decide +kernel
theorem dX11_init_102 : decode cX11_init 102 = .ok (.putfield 58, 3) := by decide +kernel
theorem dX11_init_105 : decode cX11_init 105 = .ok (.aload_n 0, 1) := by decide +kernel
theorem dX11_init_106 : decode cX11_init 106 = .ok (.new 62, 3) := by decide +kernel
theorem dX11_init_109 : decode cX11_init 109 = .ok (.dup, 1) := by decide +kernel
theorem dX11_init_110 : decode cX11_init 110 = .ok (.aload_n 0, 1) := by decide +kernel
theorem dX11_init_111 : decode cX11_init 111 = .ok (.getfield 12, 3) := by decide +kernel
theorem dX11_init_114 : decode cX11_init 114 = .ok (.aload_n 0, 1) := by decide +kernel
theorem dX11_init_115 : decode cX11_init 115 = .ok (.getfield 49, 3) := by decide +kernel
theorem dX11_init_118 : decode cX11_init 118 = .ok (.invokespecial 64, 3) := by decide +kernel
theorem dX11_init_121 : decode cX11_init 121 = .ok (.putfield 65, 3) := by decide +kernel
theorem dX11_init_124 : decode cX11_init 124 = .ok (.aload_n 0, 1) := by decide +kernel
theorem dX11_init_125 : decode cX11_init 125 = .ok (.new 69, 3) := by decide +kernel
theorem dX11_init_128 : decode cX11_init 128 = .ok (.dup, 1) := by decide +kernel
theorem dX11_init_129 : decode cX11_init 129 = .ok (.aload_n 0, 1) := by decide +kernel
theorem dX11_init_130 : decode cX11_init 130 = .ok (.getfield 12, 3) := by decide +kernel
theorem dX11_init_133 : decode cX11_init 133 = .ok (.aload_n 0, 1) := by decide +kernel
theorem dX11_init_134 : decode cX11_init 134 = .ok (.getfield 19, 3) := by decide +kernel
theorem dX11_init_137 : decode cX11_init 137 = .ok (.aload_n 0, 1) := by decide +kernel
theorem dX11_init_138 : decode cX11_init 138 = .ok (.getfield 26, 3) := by decide +kernel
theorem dX11_init_141 : decode cX11_init 141 = .ok (.aload_n 0, 1) := by decide +kernel
theorem dX11_init_142 : decode cX11_init 142 = .ok (.getfield 33, 3) := by decide +kernel
theorem dX11_init_145 : decode cX11_init 145 = .ok (.invokespecial 71, 3) := by decide +kernel
theorem dX11_init_148 : decode cX11_init 148 = .ok (.putfield 72, 3) := by decide +kernel
theorem dX11_init_151 : decode cX11_init 151 = .ok (.aload_n 0, 1) := by decide +kernel
theorem dX11_init_152 : decode cX11_init 152 = .ok (.new 76, 3) := by decide +kernel
theorem dX11_init_155 : decode cX11_init 155 = .ok (.dup, 1) := by decide +kernel
theorem dX11_init_156 : decode cX11_init 156 = .ok (.invokespecial 78, 3) := by decide +kernel
theorem dX11_init_159 : decode cX11_init 159 = .ok (.putfield 79, 3) := by decide +kernel
theorem dX11_init_162 : decode cX11_init 162 = .ok (.aload_n 0, 1) := by decide +kernel
theorem dX11_init_163 : decode cX11_init 163 = .ok (.bipush 12, 2) := by decide +kernel
theorem dX11_init_165 : decode cX11_init 165 = .ok (.bipush 12, 2) := by decide +kernel
theorem dX11_init_167 : decode cX11_init 167 = .ok (.multianewarray 83 2, 4) := by decide +kernel
theorem dX11_init_171 : decode cX11_init 171 = .ok (.putfield 85, 3) := by decide +kernel
theorem dX11_init_174 : decode cX11_init 174 = .ok (.return_, 1) := by decide +kernel
theorem dX11_stop_0 : decode cX11_stop 0 = .ok (.iload_n 1, 1) := by decide +kernel
theorem dX11_stop_1 : decode cX11_stop 1 = .ok (.iconst 0, 1) := by decide +kernel
theorem dX11_stop_2 : decode cX11_stop 2 = .ok (.bipush 30, 2) := by decide +kernel
theorem dX11_stop_4 : decode cX11_stop 4 = .ok (.invokestatic 88, 3) := by decide +kernel
theorem dX11_stop_7 : decode cX11_stop 7 = .ok (.aload_n 0, 1) := by decide +kernel
theorem dX11_stop_8 : decode cX11_stop 8 = .ok (.getfield 12, 3) := by decide +kernel
theorem dX11_stop_11 : decode cX11_stop 11 = .ok (.getfield 92, 3) := by decide +kernel
theorem dX11_stop_14 : decode cX11_stop 14 = .ok (.bipush 12, 2) := by decide +kernel
theorem dX11_stop_16 : decode cX11_stop 16 = .ok (.if_icmp .lt 13, 3) := by decide +kernel
theorem dX11_stop_19 : decode cX11_stop 19 = .ok (.new 96, 3) := by decide +kernel
theorem dX11_stop_22 : decode cX11_stop 22 = .ok (.dup, 1) := by decide +kernel
theorem dX11_stop_23 : decode cX11_stop 23 = .ok (.ldc 98, 2) := by decide +kernel
theorem dX11_stop_25 : decode cX11_stop 25 = .ok (.invokespecial 100, 3) := by decide +kernel
theorem dX11_stop_28 : decode cX11_stop 28 = .ok (.athrow, 1) := by decide +kernel
theorem dX11_stop_29 : decode cX11_stop 29 = .ok (.aload_n 0, 1) := by decide +kernel
theorem dX11_stop_30 : decode cX11_stop 30 = .ok (.getfield 12, 3) := by decide +kernel
theorem dX11_stop_33 : decode cX11_stop 33 = .ok (.iload_n 1, 1) := by decide +kernel
theorem dX11_stop_34 : decode cX11_stop 34 = .ok (.invokevirtual 103, 3) := by decide +kernel
theorem dX11_stop_37 : decode cX11_stop 37 = .ok (.ireturn, 1) := by decide +kernel
theorem dX11_walk_0 : decode cX11_walk 0 = .ok (.aload_n 0, 1) := by decide +kernel
theorem dX11_walk_1 : decode cX11_walk 1 = .ok (.iload_n 1, 1) := by decide +kernel
theorem dX11_walk_2 : decode cX11_walk 2 = .ok (.invokevirtual 107, 3) := by decide +kernel
theorem dX11_walk_5 : decode cX11_walk 5 = .ok (.aload_n 0, 1) := by decide +kernel
theorem dX11_walk_6 : decode cX11_walk 6 = .ok (.iload_n 2, 1) := by decide +kernel
theorem dX11_walk_7 : decode cX11_walk 7 = .ok (.invokevirtual 107, 3) := by decide +kernel
theorem dX11_walk_10 : decode cX11_walk 10 = .ok (.iload_n 1, 1) := by decide +kernel
theorem dX11_walk_11 : decode cX11_walk 11 = .ok (.iload_n 2, 1) := by decide +kernel
theorem dX11_walk_12 : decode cX11_walk 12 = .ok (.invokestatic 115, 3) := by decide +kernel
theorem dX11_walk_15 : decode cX11_walk 15 = .ok (.iload_n 3, 1) := by decide +kernel
theorem dX11_walk_16 : decode cX11_walk 16 = .ok (.iconst 0, 1) := by decide +kernel
theorem dX11_walk_17 : decode cX11_walk 17 = .ok (.bipush 60, 2) := by decide +kernel
theorem dX11_walk_19 : decode cX11_walk 19 = .ok (.invokestatic 88, 3) := by decide +kernel
theorem dX11_walk_22 : decode cX11_walk 22 = .ok (.aload_n 0, 1) := by decide +kernel
theorem dX11_walk_23 : decode cX11_walk 23 = .ok (.getfield 12, 3) := by decide +kernel
theorem dX11_walk_26 : decode cX11_walk 26 = .ok (.getfield 119, 3) := by decide +kernel
theorem dX11_walk_29 : decode cX11_walk 29 = .ok (.iload_n 1, 1) := by decide +kernel
theorem dX11_walk_30 : decode cX11_walk 30 = .ok (.aaload, 1) := by decide +kernel
theorem dX11_walk_31 : decode cX11_walk 31 = .ok (.iload_n 2, 1) := by decide +kernel
theorem dX11_walk_32 : decode cX11_walk 32 = .ok (.iaload, 1) := by decide +kernel
theorem dX11_walk_33 : decode cX11_walk 33 = .ok (.istore 4, 2) := by decide +kernel
theorem dX11_walk_35 : decode cX11_walk 35 = .ok (.aload_n 0, 1) := by decide +kernel
theorem dX11_walk_36 : decode cX11_walk 36 = .ok (.getfield 12, 3) := by decide +kernel
theorem dX11_walk_39 : decode cX11_walk 39 = .ok (.getfield 119, 3) := by decide +kernel
theorem dX11_walk_42 : decode cX11_walk 42 = .ok (.iload_n 1, 1) := by decide +kernel
theorem dX11_walk_43 : decode cX11_walk 43 = .ok (.aaload, 1) := by decide +kernel
theorem dX11_walk_44 : decode cX11_walk 44 = .ok (.iload_n 2, 1) := by decide +kernel
theorem dX11_walk_45 : decode cX11_walk 45 = .ok (.iload_n 3, 1) := by decide +kernel
theorem dX11_walk_46 : decode cX11_walk 46 = .ok (.iastore, 1) := by decide +kernel
theorem dX11_walk_47 : decode cX11_walk 47 = .ok (.aload_n 0, 1) := by decide +kernel
theorem dX11_walk_48 : decode cX11_walk 48 = .ok (.getfield 12, 3) := by decide +kernel
theorem dX11_walk_51 : decode cX11_walk 51 = .ok (.getfield 119, 3) := by decide +kernel
theorem dX11_walk_54 : decode cX11_walk 54 = .ok (.iload_n 2, 1) := by decide +kernel
theorem dX11_walk_55 : decode cX11_walk 55 = .ok (.aaload, 1) := by decide +kernel
theorem dX11_walk_56 : decode cX11_walk 56 = .ok (.iload_n 1, 1) := by decide +kernel
theorem dX11_walk_57 : decode cX11_walk 57 = .ok (.iload_n 3, 1) := by decide +kernel
theorem dX11_walk_58 : decode cX11_walk 58 = .ok (.iastore, 1) := by decide +kernel
theorem dX11_walk_59 : decode cX11_walk 59 = .ok (.iload 4, 2) := by decide +kernel
theorem dX11_walk_61 : decode cX11_walk 61 = .ok (.ireturn, 1) := by decide +kernel
theorem dX11_service_0 : decode cX11_service 0 = .ok (.aload_n 0, 1) := by decide +kernel
theorem dX11_service_1 : decode cX11_service 1 = .ok (.getfield 19, 3) := by decide +kernel
theorem dX11_service_4 : decode cX11_service 4 = .ok (.getfield 131, 3) := by decide +kernel
theorem dX11_service_7 : decode cX11_service 7 = .ok (.bipush 6, 2) := by decide +kernel
theorem dX11_service_9 : decode cX11_service 9 = .ok (.if_icmp .lt 13, 3) := by decide +kernel
theorem dX11_service_12 : decode cX11_service 12 = .ok (.new 96, 3) := by decide +kernel
theorem dX11_service_15 : decode cX11_service 15 = .ok (.dup, 1) := by decide +kernel
theorem dX11_service_16 : decode cX11_service 16 = .ok (.ldc 132, 2) := by decide +kernel
theorem dX11_service_18 : decode cX11_service 18 = .ok (.invokespecial 100, 3) := by decide +kernel
theorem dX11_service_21 : decode cX11_service 21 = .ok (.athrow, 1) := by decide +kernel
theorem dX11_service_22 : decode cX11_service 22 = .ok (.aload_n 0, 1) := by decide +kernel
theorem dX11_service_23 : decode cX11_service 23 = .ok (.getfield 19, 3) := by decide +kernel
theorem dX11_service_26 : decode cX11_service 26 = .ok (.invokevirtual 134, 3) := by decide +kernel
theorem dX11_service_29 : decode cX11_service 29 = .ok (.ireturn, 1) := by decide +kernel
theorem dX11_week_0 : decode cX11_week 0 = .ok (.aload_n 0, 1) := by decide +kernel
theorem dX11_week_1 : decode cX11_week 1 = .ok (.iload_n 1, 1) := by decide +kernel
theorem dX11_week_2 : decode cX11_week 2 = .ok (.invokevirtual 137, 3) := by decide +kernel
theorem dX11_week_5 : decode cX11_week 5 = .ok (.iload_n 2, 1) := by decide +kernel
theorem dX11_week_6 : decode cX11_week 6 = .ok (.iconst 0, 1) := by decide +kernel
theorem dX11_week_7 : decode cX11_week 7 = .ok (.bipush 127, 2) := by decide +kernel
theorem dX11_week_9 : decode cX11_week 9 = .ok (.invokestatic 88, 3) := by decide +kernel
theorem dX11_week_12 : decode cX11_week 12 = .ok (.iload_n 3, 1) := by decide +kernel
theorem dX11_week_13 : decode cX11_week 13 = .ok (.invokestatic 140, 3) := by decide +kernel
theorem dX11_week_16 : decode cX11_week 16 = .ok (.iload 4, 2) := by decide +kernel
theorem dX11_week_18 : decode cX11_week 18 = .ok (.invokestatic 140, 3) := by decide +kernel
theorem dX11_week_21 : decode cX11_week 21 = .ok (.iload 4, 2) := by decide +kernel
theorem dX11_week_23 : decode cX11_week 23 = .ok (.iload_n 3, 1) := by decide +kernel
theorem dX11_week_24 : decode cX11_week 24 = .ok (.if_icmp .ge 13, 3) := by decide +kernel
theorem dX11_week_27 : decode cX11_week 27 = .ok (.new 143, 3) := by decide +kernel
theorem dX11_week_30 : decode cX11_week 30 = .ok (.dup, 1) := by decide +kernel
theorem dX11_week_31 : decode cX11_week 31 = .ok (.ldc 145, 2) := by decide +kernel
theorem dX11_week_33 : decode cX11_week 33 = .ok (.invokespecial 147, 3) := by decide +kernel
theorem dX11_week_36 : decode cX11_week 36 = .ok (.athrow, 1) := by decide +kernel
theorem dX11_week_37 : decode cX11_week 37 = .ok (.iload_n 3, 1) := by decide +kernel
theorem dX11_week_38 : decode cX11_week 38 = .ok (.istore 5, 2) := by decide +kernel
theorem dX11_week_40 : decode cX11_week 40 = .ok (.iload 5, 2) := by decide +kernel
theorem dX11_week_42 : decode cX11_week 42 = .ok (.iload 4, 2) := by decide +kernel
theorem dX11_week_44 : decode cX11_week 44 = .ok (.if_icmp .gt 33, 3) := by decide +kernel
theorem dX11_week_47 : decode cX11_week 47 = .ok (.iload_n 2, 1) := by decide +kernel
theorem dX11_week_48 : decode cX11_week 48 = .ok (.iload 5, 2) := by decide +kernel
theorem dX11_week_50 : decode cX11_week 50 = .ok (.bipush 7, 2) := by decide +kernel
theorem dX11_week_52 : decode cX11_week 52 = .ok (.irem, 1) := by decide +kernel
theorem dX11_week_53 : decode cX11_week 53 = .ok (.ishr, 1) := by decide +kernel
theorem dX11_week_54 : decode cX11_week 54 = .ok (.iconst 1, 1) := by decide +kernel
theorem dX11_week_55 : decode cX11_week 55 = .ok (.iand, 1) := by decide +kernel
theorem dX11_week_56 : decode cX11_week 56 = .ok (.iconst 1, 1) := by decide +kernel
theorem dX11_week_57 : decode cX11_week 57 = .ok (.if_icmp .ne 14, 3) := by decide +kernel
theorem dX11_week_60 : decode cX11_week 60 = .ok (.aload_n 0, 1) := by decide +kernel
theorem dX11_week_61 : decode cX11_week 61 = .ok (.getfield 19, 3) := by decide +kernel
theorem dX11_week_64 : decode cX11_week 64 = .ok (.iload_n 1, 1) := by decide +kernel
theorem dX11_week_65 : decode cX11_week 65 = .ok (.iload 5, 2) := by decide +kernel
theorem dX11_week_67 : decode cX11_week 67 = .ok (.iconst 1, 1) := by decide +kernel
theorem dX11_week_68 : decode cX11_week 68 = .ok (.invokevirtual 148, 3) := by decide +kernel
theorem dX11_week_71 : decode cX11_week 71 = .ok (.iinc 5 1, 3) := by decide +kernel
theorem dX11_week_74 : decode cX11_week 74 = .ok (.goto (-34), 3) := by decide +kernel
theorem dX11_week_77 : decode cX11_week 77 = .ok (.aload_n 0, 1) := by decide +kernel
theorem dX11_week_78 : decode cX11_week 78 = .ok (.getfield 19, 3) := by decide +kernel
theorem dX11_week_81 : decode cX11_week 81 = .ok (.getfield 152, 3) := by decide +kernel
theorem dX11_week_84 : decode cX11_week 84 = .ok (.iload_n 1, 1) := by decide +kernel
theorem dX11_week_85 : decode cX11_week 85 = .ok (.iaload, 1) := by decide +kernel
theorem dX11_week_86 : decode cX11_week 86 = .ok (.invokestatic 155, 3) := by decide +kernel
theorem dX11_week_89 : decode cX11_week 89 = .ok (.ireturn, 1) := by decide +kernel
theorem dX11_putDay_0 : decode cX11_putDay 0 = .ok (.aload_n 0, 1) := by decide +kernel
theorem dX11_putDay_1 : decode cX11_putDay 1 = .ok (.iload_n 1, 1) := by decide +kernel
theorem dX11_putDay_2 : decode cX11_putDay 2 = .ok (.invokevirtual 137, 3) := by decide +kernel
theorem dX11_putDay_5 : decode cX11_putDay 5 = .ok (.iload_n 2, 1) := by decide +kernel
theorem dX11_putDay_6 : decode cX11_putDay 6 = .ok (.invokestatic 140, 3) := by decide +kernel
theorem dX11_putDay_9 : decode cX11_putDay 9 = .ok (.aload_n 0, 1) := by decide +kernel
theorem dX11_putDay_10 : decode cX11_putDay 10 = .ok (.getfield 19, 3) := by decide +kernel
theorem dX11_putDay_13 : decode cX11_putDay 13 = .ok (.iload_n 1, 1) := by decide +kernel
theorem dX11_putDay_14 : decode cX11_putDay 14 = .ok (.iload_n 2, 1) := by decide +kernel
theorem dX11_putDay_15 : decode cX11_putDay 15 = .ok (.invokevirtual 160, 3) := by decide +kernel
theorem dX11_putDay_18 : decode cX11_putDay 18 = .ok (.istore 4, 2) := by decide +kernel
theorem dX11_putDay_20 : decode cX11_putDay 20 = .ok (.aload_n 0, 1) := by decide +kernel
theorem dX11_putDay_21 : decode cX11_putDay 21 = .ok (.getfield 19, 3) := by decide +kernel
theorem dX11_putDay_24 : decode cX11_putDay 24 = .ok (.iload_n 1, 1) := by decide +kernel
theorem dX11_putDay_25 : decode cX11_putDay 25 = .ok (.iload_n 2, 1) := by decide +kernel
theorem dX11_putDay_26 : decode cX11_putDay 26 = .ok (.iload_n 3, 1) := by decide +kernel
theorem dX11_putDay_27 : decode cX11_putDay 27 = .ok (.invokevirtual 148, 3) := by decide +kernel
theorem dX11_putDay_30 : decode cX11_putDay 30 = .ok (.iload 4, 2) := by decide +kernel
theorem dX11_putDay_32 : decode cX11_putDay 32 = .ok (.ireturn, 1) := by decide +kernel
theorem dX11_trip_0 : decode cX11_trip 0 = .ok (.aload_n 0, 1) := by decide +kernel
theorem dX11_trip_1 : decode cX11_trip 1 = .ok (.iload_n 1, 1) := by decide +kernel
theorem dX11_trip_2 : decode cX11_trip 2 = .ok (.invokevirtual 137, 3) := by decide +kernel
theorem dX11_trip_5 : decode cX11_trip 5 = .ok (.aload_n 0, 1) := by decide +kernel
theorem dX11_trip_6 : decode cX11_trip 6 = .ok (.iload_n 2, 1) := by decide +kernel
theorem dX11_trip_7 : decode cX11_trip 7 = .ok (.invokevirtual 107, 3) := by decide +kernel
theorem dX11_trip_10 : decode cX11_trip 10 = .ok (.iload_n 3, 1) := by decide +kernel
theorem dX11_trip_11 : decode cX11_trip 11 = .ok (.iconst 0, 1) := by decide +kernel
theorem dX11_trip_12 : decode cX11_trip 12 = .ok (.sipush 2879, 3) := by decide +kernel
theorem dX11_trip_15 : decode cX11_trip 15 = .ok (.invokestatic 88, 3) := by decide +kernel
theorem dX11_trip_18 : decode cX11_trip 18 = .ok (.aload_n 0, 1) := by decide +kernel
theorem dX11_trip_19 : decode cX11_trip 19 = .ok (.invokevirtual 173, 3) := by decide +kernel
theorem dX11_trip_22 : decode cX11_trip 22 = .ok (.aload_n 0, 1) := by decide +kernel
theorem dX11_trip_23 : decode cX11_trip 23 = .ok (.getfield 26, 3) := by decide +kernel
theorem dX11_trip_26 : decode cX11_trip 26 = .ok (.iload_n 1, 1) := by decide +kernel
theorem dX11_trip_27 : decode cX11_trip 27 = .ok (.iload_n 2, 1) := by decide +kernel
theorem dX11_trip_28 : decode cX11_trip 28 = .ok (.iload_n 3, 1) := by decide +kernel
theorem dX11_trip_29 : decode cX11_trip 29 = .ok (.invokevirtual 176, 3) := by decide +kernel
theorem dX11_trip_32 : decode cX11_trip 32 = .ok (.ireturn, 1) := by decide +kernel
theorem dX11_call_0 : decode cX11_call 0 = .ok (.aload_n 0, 1) := by decide +kernel
theorem dX11_call_1 : decode cX11_call 1 = .ok (.iload_n 1, 1) := by decide +kernel
theorem dX11_call_2 : decode cX11_call 2 = .ok (.invokevirtual 180, 3) := by decide +kernel
theorem dX11_call_5 : decode cX11_call 5 = .ok (.aload_n 0, 1) := by decide +kernel
theorem dX11_call_6 : decode cX11_call 6 = .ok (.iload_n 2, 1) := by decide +kernel
theorem dX11_call_7 : decode cX11_call 7 = .ok (.invokevirtual 107, 3) := by decide +kernel
theorem dX11_call_10 : decode cX11_call 10 = .ok (.aload_n 0, 1) := by decide +kernel
theorem dX11_call_11 : decode cX11_call 11 = .ok (.getfield 26, 3) := by decide +kernel
theorem dX11_call_14 : decode cX11_call 14 = .ok (.getfield 183, 3) := by decide +kernel
theorem dX11_call_17 : decode cX11_call 17 = .ok (.iload_n 1, 1) := by decide +kernel
theorem dX11_call_18 : decode cX11_call 18 = .ok (.iaload, 1) := by decide +kernel
theorem dX11_call_19 : decode cX11_call 19 = .ok (.iconst 1, 1) := by decide +kernel
theorem dX11_call_20 : decode cX11_call 20 = .ok (.isub, 1) := by decide +kernel
theorem dX11_call_21 : decode cX11_call 21 = .ok (.istore 5, 2) := by decide +kernel
theorem dX11_call_23 : decode cX11_call 23 = .ok (.aload_n 0, 1) := by decide +kernel
theorem dX11_call_24 : decode cX11_call 24 = .ok (.getfield 26, 3) := by decide +kernel
theorem dX11_call_27 : decode cX11_call 27 = .ok (.getfield 186, 3) := by decide +kernel
theorem dX11_call_30 : decode cX11_call 30 = .ok (.iload_n 1, 1) := by decide +kernel
theorem dX11_call_31 : decode cX11_call 31 = .ok (.aaload, 1) := by decide +kernel
theorem dX11_call_32 : decode cX11_call 32 = .ok (.iload 5, 2) := by decide +kernel
theorem dX11_call_34 : decode cX11_call 34 = .ok (.iaload, 1) := by decide +kernel
theorem dX11_call_35 : decode cX11_call 35 = .ok (.iload_n 3, 1) := by decide +kernel
theorem dX11_call_36 : decode cX11_call 36 = .ok (.iload 4, 2) := by decide +kernel
theorem dX11_call_38 : decode cX11_call 38 = .ok (.invokestatic 189, 3) := by decide +kernel
theorem dX11_call_41 : decode cX11_call 41 = .ok (.ifCond .ne 13, 3) := by decide +kernel
theorem dX11_call_44 : decode cX11_call 44 = .ok (.new 143, 3) := by decide +kernel
theorem dX11_call_47 : decode cX11_call 47 = .ok (.dup, 1) := by decide +kernel
theorem dX11_call_48 : decode cX11_call 48 = .ok (.ldc 193, 2) := by decide +kernel
theorem dX11_call_50 : decode cX11_call 50 = .ok (.invokespecial 147, 3) := by decide +kernel
theorem dX11_call_53 : decode cX11_call 53 = .ok (.athrow, 1) := by decide +kernel
theorem dX11_call_54 : decode cX11_call 54 = .ok (.iload_n 2, 1) := by decide +kernel
theorem dX11_call_55 : decode cX11_call 55 = .ok (.aload_n 0, 1) := by decide +kernel
theorem dX11_call_56 : decode cX11_call 56 = .ok (.getfield 26, 3) := by decide +kernel
theorem dX11_call_59 : decode cX11_call 59 = .ok (.getfield 195, 3) := by decide +kernel
theorem dX11_call_62 : decode cX11_call 62 = .ok (.iload_n 1, 1) := by decide +kernel
theorem dX11_call_63 : decode cX11_call 63 = .ok (.aaload, 1) := by decide +kernel
theorem dX11_call_64 : decode cX11_call 64 = .ok (.iload 5, 2) := by decide +kernel
theorem dX11_call_66 : decode cX11_call 66 = .ok (.iaload, 1) := by decide +kernel
theorem dX11_call_67 : decode cX11_call 67 = .ok (.invokestatic 115, 3) := by decide +kernel
theorem dX11_call_70 : decode cX11_call 70 = .ok (.aload_n 0, 1) := by decide +kernel
theorem dX11_call_71 : decode cX11_call 71 = .ok (.getfield 26, 3) := by decide +kernel
theorem dX11_call_74 : decode cX11_call 74 = .ok (.getfield 183, 3) := by decide +kernel
theorem dX11_call_77 : decode cX11_call 77 = .ok (.iload_n 1, 1) := by decide +kernel
theorem dX11_call_78 : decode cX11_call 78 = .ok (.iaload, 1) := by decide +kernel
theorem dX11_call_79 : decode cX11_call 79 = .ok (.bipush 8, 2) := by decide +kernel
theorem dX11_call_81 : decode cX11_call 81 = .ok (.if_icmp .lt 13, 3) := by decide +kernel
theorem dX11_call_84 : decode cX11_call 84 = .ok (.new 96, 3) := by decide +kernel
theorem dX11_call_87 : decode cX11_call 87 = .ok (.dup, 1) := by decide +kernel
theorem dX11_call_88 : decode cX11_call 88 = .ok (.ldc 198, 2) := by decide +kernel
theorem dX11_call_90 : decode cX11_call 90 = .ok (.invokespecial 100, 3) := by decide +kernel
theorem dX11_call_93 : decode cX11_call 93 = .ok (.athrow, 1) := by decide +kernel
theorem dX11_call_94 : decode cX11_call 94 = .ok (.aload_n 0, 1) := by decide +kernel
theorem dX11_call_95 : decode cX11_call 95 = .ok (.getfield 26, 3) := by decide +kernel
theorem dX11_call_98 : decode cX11_call 98 = .ok (.iload_n 1, 1) := by decide +kernel
theorem dX11_call_99 : decode cX11_call 99 = .ok (.iload_n 2, 1) := by decide +kernel
theorem dX11_call_100 : decode cX11_call 100 = .ok (.iload_n 3, 1) := by decide +kernel
theorem dX11_call_101 : decode cX11_call 101 = .ok (.iload 4, 2) := by decide +kernel
theorem dX11_call_103 : decode cX11_call 103 = .ok (.invokevirtual 200, 3) := by decide +kernel
theorem dX11_call_106 : decode cX11_call 106 = .ok (.aload_n 0, 1) := by decide +kernel
theorem dX11_call_107 : decode cX11_call 107 = .ok (.getfield 26, 3) := by decide +kernel
theorem dX11_call_110 : decode cX11_call 110 = .ok (.getfield 183, 3) := by decide +kernel
theorem dX11_call_113 : decode cX11_call 113 = .ok (.iload_n 1, 1) := by decide +kernel
theorem dX11_call_114 : decode cX11_call 114 = .ok (.iaload, 1) := by decide +kernel
theorem dX11_call_115 : decode cX11_call 115 = .ok (.ireturn, 1) := by decide +kernel
theorem dX11_earliest_0 : decode cX11_earliest 0 = .ok (.aload_n 0, 1) := by decide +kernel
theorem dX11_earliest_1 : decode cX11_earliest 1 = .ok (.iload_n 1, 1) := by decide +kernel
theorem dX11_earliest_2 : decode cX11_earliest 2 = .ok (.iload_n 2, 1) := by decide +kernel
theorem dX11_earliest_3 : decode cX11_earliest 3 = .ok (.iload_n 3, 1) := by decide +kernel
theorem dX11_earliest_4 : decode cX11_earliest 4 = .ok (.iload 4, 2) := by decide +kernel
theorem dX11_earliest_6 : decode cX11_earliest 6 = .ok (.invokevirtual 277, 3) := by decide +kernel
theorem dX11_earliest_9 : decode cX11_earliest 9 = .ok (.aload_n 0, 1) := by decide +kernel
theorem dX11_earliest_10 : decode cX11_earliest 10 = .ok (.getfield 49, 3) := by decide +kernel
theorem dX11_earliest_13 : decode cX11_earliest 13 = .ok (.iload_n 3, 1) := by decide +kernel
theorem dX11_earliest_14 : decode cX11_earliest 14 = .ok (.iconst (-1), 1) := by decide +kernel
theorem dX11_earliest_15 : decode cX11_earliest 15 = .ok (.iconst 0, 1) := by decide +kernel
theorem dX11_earliest_16 : decode cX11_earliest 16 = .ok (.invokevirtual 280, 3) := by decide +kernel
theorem dX11_earliest_19 : decode cX11_earliest 19 = .ok (.aload_n 0, 1) := by decide +kernel
theorem dX11_earliest_20 : decode cX11_earliest 20 = .ok (.getfield 58, 3) := by decide +kernel
theorem dX11_earliest_23 : decode cX11_earliest 23 = .ok (.iload_n 1, 1) := by decide +kernel
theorem dX11_earliest_24 : decode cX11_earliest 24 = .ok (.iload 4, 2) := by decide +kernel
theorem dX11_earliest_26 : decode cX11_earliest 26 = .ok (.invokevirtual 283, 3) := by decide +kernel
theorem dX11_earliest_29 : decode cX11_earliest 29 = .ok (.aload_n 0, 1) := by decide +kernel
theorem dX11_earliest_30 : decode cX11_earliest 30 = .ok (.getfield 58, 3) := by decide +kernel
theorem dX11_earliest_33 : decode cX11_earliest 33 = .ok (.getfield 286, 3) := by decide +kernel
theorem dX11_earliest_36 : decode cX11_earliest 36 = .ok (.iload_n 2, 1) := by decide +kernel
theorem dX11_earliest_37 : decode cX11_earliest 37 = .ok (.invokevirtual 290, 3) := by decide +kernel
theorem dX11_earliest_40 : decode cX11_earliest 40 = .ok (.invokestatic 128, 3) := by decide +kernel
theorem dX11_earliest_43 : decode cX11_earliest 43 = .ok (.aload_n 0, 1) := by decide +kernel
theorem dX11_earliest_44 : decode cX11_earliest 44 = .ok (.getfield 58, 3) := by decide +kernel
theorem dX11_earliest_47 : decode cX11_earliest 47 = .ok (.getfield 286, 3) := by decide +kernel
theorem dX11_earliest_50 : decode cX11_earliest 50 = .ok (.iload_n 2, 1) := by decide +kernel
theorem dX11_earliest_51 : decode cX11_earliest 51 = .ok (.invokevirtual 290, 3) := by decide +kernel
theorem dX11_earliest_54 : decode cX11_earliest 54 = .ok (.ireturn, 1) := by decide +kernel
theorem dX11_earliestByQueue_0 : decode cX11_earliestByQueue 0 = .ok (.aload_n 0, 1) := by decide +kernel
theorem dX11_earliestByQueue_1 : decode cX11_earliestByQueue 1 = .ok (.iload_n 1, 1) := by decide +kernel
theorem dX11_earliestByQueue_2 : decode cX11_earliestByQueue 2 = .ok (.iload_n 2, 1) := by decide +kernel
theorem dX11_earliestByQueue_3 : decode cX11_earliestByQueue 3 = .ok (.iload_n 3, 1) := by decide +kernel
theorem dX11_earliestByQueue_4 : decode cX11_earliestByQueue 4 = .ok (.iload 4, 2) := by decide +kernel
theorem dX11_earliestByQueue_6 : decode cX11_earliestByQueue 6 = .ok (.invokevirtual 277, 3) := by decide +kernel
theorem dX11_earliestByQueue_9 : decode cX11_earliestByQueue 9 = .ok (.aload_n 0, 1) := by decide +kernel
theorem dX11_earliestByQueue_10 : decode cX11_earliestByQueue 10 = .ok (.getfield 49, 3) := by decide +kernel
theorem dX11_earliestByQueue_13 : decode cX11_earliestByQueue 13 = .ok (.iload_n 3, 1) := by decide +kernel
theorem dX11_earliestByQueue_14 : decode cX11_earliestByQueue 14 = .ok (.iconst (-1), 1) := by decide +kernel
theorem dX11_earliestByQueue_15 : decode cX11_earliestByQueue 15 = .ok (.iconst 0, 1) := by decide +kernel
theorem dX11_earliestByQueue_16 : decode cX11_earliestByQueue 16 = .ok (.invokevirtual 280, 3) := by decide +kernel
theorem dX11_earliestByQueue_19 : decode cX11_earliestByQueue 19 = .ok (.aload_n 0, 1) := by decide +kernel
theorem dX11_earliestByQueue_20 : decode cX11_earliestByQueue 20 = .ok (.getfield 58, 3) := by decide +kernel
theorem dX11_earliestByQueue_23 : decode cX11_earliestByQueue 23 = .ok (.iload_n 1, 1) := by decide +kernel
theorem dX11_earliestByQueue_24 : decode cX11_earliestByQueue 24 = .ok (.iload 4, 2) := by decide +kernel
theorem dX11_earliestByQueue_26 : decode cX11_earliestByQueue 26 = .ok (.invokevirtual 294, 3) := by decide +kernel
theorem dX11_earliestByQueue_29 : decode cX11_earliestByQueue 29 = .ok (.aload_n 0, 1) := by decide +kernel
theorem dX11_earliestByQueue_30 : decode cX11_earliestByQueue 30 = .ok (.getfield 58, 3) := by decide +kernel
theorem dX11_earliestByQueue_33 : decode cX11_earliestByQueue 33 = .ok (.getfield 286, 3) := by decide +kernel
theorem dX11_earliestByQueue_36 : decode cX11_earliestByQueue 36 = .ok (.iload_n 2, 1) := by decide +kernel
theorem dX11_earliestByQueue_37 : decode cX11_earliestByQueue 37 = .ok (.invokevirtual 290, 3) := by decide +kernel
theorem dX11_earliestByQueue_40 : decode cX11_earliestByQueue 40 = .ok (.invokestatic 128, 3) := by decide +kernel
theorem dX11_earliestByQueue_43 : decode cX11_earliestByQueue 43 = .ok (.aload_n 0, 1) := by decide +kernel
theorem dX11_earliestByQueue_44 : decode cX11_earliestByQueue 44 = .ok (.getfield 58, 3) := by decide +kernel
theorem dX11_earliestByQueue_47 : decode cX11_earliestByQueue 47 = .ok (.getfield 286, 3) := by decide +kernel
theorem dX11_earliestByQueue_50 : decode cX11_earliestByQueue 50 = .ok (.iload_n 2, 1) := by decide +kernel
theorem dX11_earliestByQueue_51 : decode cX11_earliestByQueue 51 = .ok (.invokevirtual 290, 3) := by decide +kernel
theorem dX11_earliestByQueue_54 : decode cX11_earliestByQueue 54 = .ok (.ireturn, 1) := by decide +kernel
theorem dX11_earliestByRounds_0 : decode cX11_earliestByRounds 0 = .ok (.aload_n 0, 1) := by decide +kernel
theorem dX11_earliestByRounds_1 : decode cX11_earliestByRounds 1 = .ok (.iload_n 1, 1) := by decide +kernel
theorem dX11_earliestByRounds_2 : decode cX11_earliestByRounds 2 = .ok (.iload_n 2, 1) := by decide +kernel
theorem dX11_earliestByRounds_3 : decode cX11_earliestByRounds 3 = .ok (.iload_n 3, 1) := by decide +kernel
theorem dX11_earliestByRounds_4 : decode cX11_earliestByRounds 4 = .ok (.iload 4, 2) := by decide +kernel
theorem dX11_earliestByRounds_6 : decode cX11_earliestByRounds 6 = .ok (.invokevirtual 277, 3) := by decide +kernel
theorem dX11_earliestByRounds_9 : decode cX11_earliestByRounds 9 = .ok (.aload_n 0, 1) := by decide +kernel
theorem dX11_earliestByRounds_10 : decode cX11_earliestByRounds 10 = .ok (.getfield 49, 3) := by decide +kernel
theorem dX11_earliestByRounds_13 : decode cX11_earliestByRounds 13 = .ok (.iload_n 3, 1) := by decide +kernel
theorem dX11_earliestByRounds_14 : decode cX11_earliestByRounds 14 = .ok (.iconst (-1), 1) := by decide +kernel
theorem dX11_earliestByRounds_15 : decode cX11_earliestByRounds 15 = .ok (.iconst 0, 1) := by decide +kernel
theorem dX11_earliestByRounds_16 : decode cX11_earliestByRounds 16 = .ok (.invokevirtual 280, 3) := by decide +kernel
theorem dX11_earliestByRounds_19 : decode cX11_earliestByRounds 19 = .ok (.aload_n 0, 1) := by decide +kernel
theorem dX11_earliestByRounds_20 : decode cX11_earliestByRounds 20 = .ok (.getfield 65, 3) := by decide +kernel
theorem dX11_earliestByRounds_23 : decode cX11_earliestByRounds 23 = .ok (.iload_n 1, 1) := by decide +kernel
theorem dX11_earliestByRounds_24 : decode cX11_earliestByRounds 24 = .ok (.iload 4, 2) := by decide +kernel
theorem dX11_earliestByRounds_26 : decode cX11_earliestByRounds 26 = .ok (.invokevirtual 297, 3) := by decide +kernel
theorem dX11_earliestByRounds_29 : decode cX11_earliestByRounds 29 = .ok (.aload_n 0, 1) := by decide +kernel
theorem dX11_earliestByRounds_30 : decode cX11_earliestByRounds 30 = .ok (.getfield 65, 3) := by decide +kernel
theorem dX11_earliestByRounds_33 : decode cX11_earliestByRounds 33 = .ok (.iload_n 2, 1) := by decide +kernel
theorem dX11_earliestByRounds_34 : decode cX11_earliestByRounds 34 = .ok (.invokevirtual 300, 3) := by decide +kernel
theorem dX11_earliestByRounds_37 : decode cX11_earliestByRounds 37 = .ok (.invokestatic 128, 3) := by decide +kernel
theorem dX11_earliestByRounds_40 : decode cX11_earliestByRounds 40 = .ok (.aload_n 0, 1) := by decide +kernel
theorem dX11_earliestByRounds_41 : decode cX11_earliestByRounds 41 = .ok (.getfield 65, 3) := by decide +kernel
theorem dX11_earliestByRounds_44 : decode cX11_earliestByRounds 44 = .ok (.iload_n 2, 1) := by decide +kernel
theorem dX11_earliestByRounds_45 : decode cX11_earliestByRounds 45 = .ok (.invokevirtual 300, 3) := by decide +kernel
theorem dX11_earliestByRounds_48 : decode cX11_earliestByRounds 48 = .ok (.ireturn, 1) := by decide +kernel
theorem dX11_wall_0 : decode cX11_wall 0 = .ok (.aload_n 0, 1) := by decide +kernel
theorem dX11_wall_1 : decode cX11_wall 1 = .ok (.iload_n 1, 1) := by decide +kernel
theorem dX11_wall_2 : decode cX11_wall 2 = .ok (.invokevirtual 107, 3) := by decide +kernel
theorem dX11_wall_5 : decode cX11_wall 5 = .ok (.iload_n 2, 1) := by decide +kernel
theorem dX11_wall_6 : decode cX11_wall 6 = .ok (.invokestatic 140, 3) := by decide +kernel
theorem dX11_wall_9 : decode cX11_wall 9 = .ok (.iload_n 3, 1) := by decide +kernel
theorem dX11_wall_10 : decode cX11_wall 10 = .ok (.iconst 0, 1) := by decide +kernel
theorem dX11_wall_11 : decode cX11_wall 11 = .ok (.sipush 1439, 3) := by decide +kernel
theorem dX11_wall_14 : decode cX11_wall 14 = .ok (.invokestatic 88, 3) := by decide +kernel
theorem dX11_wall_17 : decode cX11_wall 17 = .ok (.iload 4, 2) := by decide +kernel
theorem dX11_wall_19 : decode cX11_wall 19 = .ok (.iconst 0, 1) := by decide +kernel
theorem dX11_wall_20 : decode cX11_wall 20 = .ok (.sipush 4319, 3) := by decide +kernel
theorem dX11_wall_23 : decode cX11_wall 23 = .ok (.invokestatic 88, 3) := by decide +kernel
theorem dX11_wall_26 : decode cX11_wall 26 = .ok (.aload_n 0, 1) := by decide +kernel
theorem dX11_wall_27 : decode cX11_wall 27 = .ok (.getfield 49, 3) := by decide +kernel
theorem dX11_wall_30 : decode cX11_wall 30 = .ok (.iload_n 2, 1) := by decide +kernel
theorem dX11_wall_31 : decode cX11_wall 31 = .ok (.iconst (-1), 1) := by decide +kernel
theorem dX11_wall_32 : decode cX11_wall 32 = .ok (.iconst 0, 1) := by decide +kernel
theorem dX11_wall_33 : decode cX11_wall 33 = .ok (.invokevirtual 280, 3) := by decide +kernel
theorem dX11_wall_36 : decode cX11_wall 36 = .ok (.aload_n 0, 1) := by decide +kernel
theorem dX11_wall_37 : decode cX11_wall 37 = .ok (.getfield 58, 3) := by decide +kernel
theorem dX11_wall_40 : decode cX11_wall 40 = .ok (.iload_n 1, 1) := by decide +kernel
theorem dX11_wall_41 : decode cX11_wall 41 = .ok (.iload_n 3, 1) := by decide +kernel
theorem dX11_wall_42 : decode cX11_wall 42 = .ok (.invokevirtual 283, 3) := by decide +kernel
theorem dX11_wall_45 : decode cX11_wall 45 = .ok (.iconst 0, 1) := by decide +kernel
theorem dX11_wall_46 : decode cX11_wall 46 = .ok (.istore 5, 2) := by decide +kernel
theorem dX11_wall_48 : decode cX11_wall 48 = .ok (.iconst 0, 1) := by decide +kernel
theorem dX11_wall_49 : decode cX11_wall 49 = .ok (.istore 6, 2) := by decide +kernel
theorem dX11_wall_51 : decode cX11_wall 51 = .ok (.iload 6, 2) := by decide +kernel
theorem dX11_wall_53 : decode cX11_wall 53 = .ok (.aload_n 0, 1) := by decide +kernel
theorem dX11_wall_54 : decode cX11_wall 54 = .ok (.getfield 12, 3) := by decide +kernel
theorem dX11_wall_57 : decode cX11_wall 57 = .ok (.getfield 92, 3) := by decide +kernel
theorem dX11_wall_60 : decode cX11_wall 60 = .ok (.if_icmp .ge 35, 3) := by decide +kernel
theorem dX11_wall_63 : decode cX11_wall 63 = .ok (.aload_n 0, 1) := by decide +kernel
theorem dX11_wall_64 : decode cX11_wall 64 = .ok (.getfield 58, 3) := by decide +kernel
theorem dX11_wall_67 : decode cX11_wall 67 = .ok (.getfield 286, 3) := by decide +kernel
theorem dX11_wall_70 : decode cX11_wall 70 = .ok (.iload 6, 2) := by decide +kernel
theorem dX11_wall_72 : decode cX11_wall 72 = .ok (.invokevirtual 290, 3) := by decide +kernel
theorem dX11_wall_75 : decode cX11_wall 75 = .ok (.iload 4, 2) := by decide +kernel
theorem dX11_wall_77 : decode cX11_wall 77 = .ok (.if_icmp .ge 12, 3) := by decide +kernel
theorem dX11_wall_80 : decode cX11_wall 80 = .ok (.iload 5, 2) := by decide +kernel
theorem dX11_wall_82 : decode cX11_wall 82 = .ok (.iconst 1, 1) := by decide +kernel
theorem dX11_wall_83 : decode cX11_wall 83 = .ok (.iload 6, 2) := by decide +kernel
theorem dX11_wall_85 : decode cX11_wall 85 = .ok (.ishl, 1) := by decide +kernel
theorem dX11_wall_86 : decode cX11_wall 86 = .ok (.ior, 1) := by decide +kernel
theorem dX11_wall_87 : decode cX11_wall 87 = .ok (.istore 5, 2) := by decide +kernel
theorem dX11_wall_89 : decode cX11_wall 89 = .ok (.iinc 6 1, 3) := by decide +kernel
theorem dX11_wall_92 : decode cX11_wall 92 = .ok (.goto (-41), 3) := by decide +kernel
theorem dX11_wall_95 : decode cX11_wall 95 = .ok (.iload 5, 2) := by decide +kernel
theorem dX11_wall_97 : decode cX11_wall 97 = .ok (.ireturn, 1) := by decide +kernel
theorem dX11_last_0 : decode cX11_last 0 = .ok (.aload_n 0, 1) := by decide +kernel
theorem dX11_last_1 : decode cX11_last 1 = .ok (.iload_n 1, 1) := by decide +kernel
theorem dX11_last_2 : decode cX11_last 2 = .ok (.invokevirtual 107, 3) := by decide +kernel
theorem dX11_last_5 : decode cX11_last 5 = .ok (.aload_n 0, 1) := by decide +kernel
theorem dX11_last_6 : decode cX11_last 6 = .ok (.iload_n 2, 1) := by decide +kernel
theorem dX11_last_7 : decode cX11_last 7 = .ok (.invokevirtual 107, 3) := by decide +kernel
theorem dX11_last_10 : decode cX11_last 10 = .ok (.iload_n 3, 1) := by decide +kernel
theorem dX11_last_11 : decode cX11_last 11 = .ok (.invokestatic 140, 3) := by decide +kernel
theorem dX11_last_14 : decode cX11_last 14 = .ok (.iload 4, 2) := by decide +kernel
theorem dX11_last_16 : decode cX11_last 16 = .ok (.iconst 0, 1) := by decide +kernel
theorem dX11_last_17 : decode cX11_last 17 = .ok (.sipush 2879, 3) := by decide +kernel
theorem dX11_last_20 : decode cX11_last 20 = .ok (.invokestatic 88, 3) := by decide +kernel
theorem dX11_last_23 : decode cX11_last 23 = .ok (.aload_n 0, 1) := by decide +kernel
theorem dX11_last_24 : decode cX11_last 24 = .ok (.getfield 49, 3) := by decide +kernel
theorem dX11_last_27 : decode cX11_last 27 = .ok (.iload_n 3, 1) := by decide +kernel
theorem dX11_last_28 : decode cX11_last 28 = .ok (.iconst (-1), 1) := by decide +kernel
theorem dX11_last_29 : decode cX11_last 29 = .ok (.iconst 0, 1) := by decide +kernel
theorem dX11_last_30 : decode cX11_last 30 = .ok (.invokevirtual 280, 3) := by decide +kernel
theorem dX11_last_33 : decode cX11_last 33 = .ok (.aload_n 0, 1) := by decide +kernel
theorem dX11_last_34 : decode cX11_last 34 = .ok (.getfield 58, 3) := by decide +kernel
theorem dX11_last_37 : decode cX11_last 37 = .ok (.iload_n 1, 1) := by decide +kernel
theorem dX11_last_38 : decode cX11_last 38 = .ok (.iload_n 2, 1) := by decide +kernel
theorem dX11_last_39 : decode cX11_last 39 = .ok (.iload 4, 2) := by decide +kernel
theorem dX11_last_41 : decode cX11_last 41 = .ok (.invokevirtual 303, 3) := by decide +kernel
theorem dX11_last_44 : decode cX11_last 44 = .ok (.istore 5, 2) := by decide +kernel
theorem dX11_last_46 : decode cX11_last 46 = .ok (.iload 5, 2) := by decide +kernel
theorem dX11_last_48 : decode cX11_last 48 = .ok (.ifCond .ge 14, 3) := by decide +kernel
theorem dX11_last_51 : decode cX11_last 51 = .ok (.new 168, 3) := by decide +kernel
theorem dX11_last_54 : decode cX11_last 54 = .ok (.dup, 1) := by decide +kernel
theorem dX11_last_55 : decode cX11_last 55 = .ok (.ldc_w 306, 3) := by decide +kernel
theorem dX11_last_58 : decode cX11_last 58 = .ok (.invokespecial 172, 3) := by decide +kernel
theorem dX11_last_61 : decode cX11_last 61 = .ok (.athrow, 1) := by decide +kernel
theorem dX11_last_62 : decode cX11_last 62 = .ok (.iload 5, 2) := by decide +kernel
theorem dX11_last_64 : decode cX11_last 64 = .ok (.ireturn, 1) := by decide +kernel
theorem dX11_chain_0 : decode cX11_chain 0 = .ok (.aload_n 0, 1) := by decide +kernel
theorem dX11_chain_1 : decode cX11_chain 1 = .ok (.iload_n 1, 1) := by decide +kernel
theorem dX11_chain_2 : decode cX11_chain 2 = .ok (.iload_n 2, 1) := by decide +kernel
theorem dX11_chain_3 : decode cX11_chain 3 = .ok (.iload_n 3, 1) := by decide +kernel
theorem dX11_chain_4 : decode cX11_chain 4 = .ok (.iload 4, 2) := by decide +kernel
theorem dX11_chain_6 : decode cX11_chain 6 = .ok (.invokevirtual 277, 3) := by decide +kernel
theorem dX11_chain_9 : decode cX11_chain 9 = .ok (.aload_n 0, 1) := by decide +kernel
theorem dX11_chain_10 : decode cX11_chain 10 = .ok (.getfield 49, 3) := by decide +kernel
theorem dX11_chain_13 : decode cX11_chain 13 = .ok (.iload_n 3, 1) := by decide +kernel
theorem dX11_chain_14 : decode cX11_chain 14 = .ok (.iconst (-1), 1) := by decide +kernel
theorem dX11_chain_15 : decode cX11_chain 15 = .ok (.iconst 0, 1) := by decide +kernel
theorem dX11_chain_16 : decode cX11_chain 16 = .ok (.invokevirtual 280, 3) := by decide +kernel
theorem dX11_chain_19 : decode cX11_chain 19 = .ok (.aload_n 0, 1) := by decide +kernel
theorem dX11_chain_20 : decode cX11_chain 20 = .ok (.getfield 65, 3) := by decide +kernel
theorem dX11_chain_23 : decode cX11_chain 23 = .ok (.iload_n 1, 1) := by decide +kernel
theorem dX11_chain_24 : decode cX11_chain 24 = .ok (.iload 4, 2) := by decide +kernel
theorem dX11_chain_26 : decode cX11_chain 26 = .ok (.invokevirtual 297, 3) := by decide +kernel
theorem dX11_chain_29 : decode cX11_chain 29 = .ok (.aload_n 0, 1) := by decide +kernel
theorem dX11_chain_30 : decode cX11_chain 30 = .ok (.getfield 65, 3) := by decide +kernel
theorem dX11_chain_33 : decode cX11_chain 33 = .ok (.iload_n 2, 1) := by decide +kernel
theorem dX11_chain_34 : decode cX11_chain 34 = .ok (.invokevirtual 300, 3) := by decide +kernel
theorem dX11_chain_37 : decode cX11_chain 37 = .ok (.invokestatic 128, 3) := by decide +kernel
theorem dX11_chain_40 : decode cX11_chain 40 = .ok (.aload_n 0, 1) := by decide +kernel
theorem dX11_chain_41 : decode cX11_chain 41 = .ok (.getfield 65, 3) := by decide +kernel
theorem dX11_chain_44 : decode cX11_chain 44 = .ok (.iload_n 2, 1) := by decide +kernel
theorem dX11_chain_45 : decode cX11_chain 45 = .ok (.invokevirtual 308, 3) := by decide +kernel
theorem dX11_chain_48 : decode cX11_chain 48 = .ok (.aload_n 0, 1) := by decide +kernel
theorem dX11_chain_49 : decode cX11_chain 49 = .ok (.getfield 65, 3) := by decide +kernel
theorem dX11_chain_52 : decode cX11_chain 52 = .ok (.getfield 311, 3) := by decide +kernel
theorem dX11_chain_55 : decode cX11_chain 55 = .ok (.ireturn, 1) := by decide +kernel
theorem dX11_ride_0 : decode cX11_ride 0 = .ok (.iload_n 2, 1) := by decide +kernel
theorem dX11_ride_1 : decode cX11_ride 1 = .ok (.bipush 116, 2) := by decide +kernel
theorem dX11_ride_3 : decode cX11_ride 3 = .ok (.if_icmp .eq 32, 3) := by decide +kernel
theorem dX11_ride_6 : decode cX11_ride 6 = .ok (.iload_n 2, 1) := by decide +kernel
theorem dX11_ride_7 : decode cX11_ride 7 = .ok (.bipush 100, 2) := by decide +kernel
theorem dX11_ride_9 : decode cX11_ride 9 = .ok (.if_icmp .eq 26, 3) := by decide +kernel
theorem dX11_ride_12 : decode cX11_ride 12 = .ok (.iload_n 2, 1) := by decide +kernel
theorem dX11_ride_13 : decode cX11_ride 13 = .ok (.bipush 111, 2) := by decide +kernel
theorem dX11_ride_15 : decode cX11_ride 15 = .ok (.if_icmp .eq 20, 3) := by decide +kernel
theorem dX11_ride_18 : decode cX11_ride 18 = .ok (.iload_n 2, 1) := by decide +kernel
theorem dX11_ride_19 : decode cX11_ride 19 = .ok (.bipush 102, 2) := by decide +kernel
theorem dX11_ride_21 : decode cX11_ride 21 = .ok (.if_icmp .eq 14, 3) := by decide +kernel
theorem dX11_ride_24 : decode cX11_ride 24 = .ok (.new 143, 3) := by decide +kernel
theorem dX11_ride_27 : decode cX11_ride 27 = .ok (.dup, 1) := by decide +kernel
theorem dX11_ride_28 : decode cX11_ride 28 = .ok (.ldc_w 314, 3) := by decide +kernel
theorem dX11_ride_31 : decode cX11_ride 31 = .ok (.invokespecial 147, 3) := by decide +kernel
theorem dX11_ride_34 : decode cX11_ride 34 = .ok (.athrow, 1) := by decide +kernel
theorem dX11_ride_35 : decode cX11_ride 35 = .ok (.iload_n 1, 1) := by decide +kernel
theorem dX11_ride_36 : decode cX11_ride 36 = .ok (.ifCond .lt 14, 3) := by decide +kernel
theorem dX11_ride_39 : decode cX11_ride 39 = .ok (.iload_n 1, 1) := by decide +kernel
theorem dX11_ride_40 : decode cX11_ride 40 = .ok (.aload_n 0, 1) := by decide +kernel
theorem dX11_ride_41 : decode cX11_ride 41 = .ok (.getfield 65, 3) := by decide +kernel
theorem dX11_ride_44 : decode cX11_ride 44 = .ok (.getfield 311, 3) := by decide +kernel
theorem dX11_ride_47 : decode cX11_ride 47 = .ok (.if_icmp .lt 14, 3) := by decide +kernel
theorem dX11_ride_50 : decode cX11_ride 50 = .ok (.new 168, 3) := by decide +kernel
theorem dX11_ride_53 : decode cX11_ride 53 = .ok (.dup, 1) := by decide +kernel
theorem dX11_ride_54 : decode cX11_ride 54 = .ok (.ldc_w 316, 3) := by decide +kernel
theorem dX11_ride_57 : decode cX11_ride 57 = .ok (.invokespecial 172, 3) := by decide +kernel
theorem dX11_ride_60 : decode cX11_ride 60 = .ok (.athrow, 1) := by decide +kernel
theorem dX11_ride_61 : decode cX11_ride 61 = .ok (.iload_n 2, 1) := by decide +kernel
theorem dX11_ride_62 : decode cX11_ride 62 = .ok (.bipush 116, 2) := by decide +kernel
theorem dX11_ride_64 : decode cX11_ride 64 = .ok (.if_icmp .ne 13, 3) := by decide +kernel
theorem dX11_ride_67 : decode cX11_ride 67 = .ok (.aload_n 0, 1) := by decide +kernel
theorem dX11_ride_68 : decode cX11_ride 68 = .ok (.getfield 65, 3) := by decide +kernel
theorem dX11_ride_71 : decode cX11_ride 71 = .ok (.getfield 318, 3) := by decide +kernel
theorem dX11_ride_74 : decode cX11_ride 74 = .ok (.iload_n 1, 1) := by decide +kernel
theorem dX11_ride_75 : decode cX11_ride 75 = .ok (.iaload, 1) := by decide +kernel
theorem dX11_ride_76 : decode cX11_ride 76 = .ok (.ireturn, 1) := by decide +kernel
theorem dX11_ride_77 : decode cX11_ride 77 = .ok (.iload_n 2, 1) := by decide +kernel
theorem dX11_ride_78 : decode cX11_ride 78 = .ok (.bipush 100, 2) := by decide +kernel
theorem dX11_ride_80 : decode cX11_ride 80 = .ok (.if_icmp .ne 13, 3) := by decide +kernel
theorem dX11_ride_83 : decode cX11_ride 83 = .ok (.aload_n 0, 1) := by decide +kernel
theorem dX11_ride_84 : decode cX11_ride 84 = .ok (.getfield 65, 3) := by decide +kernel
theorem dX11_ride_87 : decode cX11_ride 87 = .ok (.getfield 321, 3) := by decide +kernel
theorem dX11_ride_90 : decode cX11_ride 90 = .ok (.iload_n 1, 1) := by decide +kernel
theorem dX11_ride_91 : decode cX11_ride 91 = .ok (.iaload, 1) := by decide +kernel
theorem dX11_ride_92 : decode cX11_ride 92 = .ok (.ireturn, 1) := by decide +kernel
theorem dX11_ride_93 : decode cX11_ride 93 = .ok (.iload_n 2, 1) := by decide +kernel
theorem dX11_ride_94 : decode cX11_ride 94 = .ok (.bipush 111, 2) := by decide +kernel
theorem dX11_ride_96 : decode cX11_ride 96 = .ok (.if_icmp .ne 15, 3) := by decide +kernel
theorem dX11_ride_99 : decode cX11_ride 99 = .ok (.aload_n 0, 1) := by decide +kernel
theorem dX11_ride_100 : decode cX11_ride 100 = .ok (.getfield 65, 3) := by decide +kernel
theorem dX11_ride_103 : decode cX11_ride 103 = .ok (.getfield 324, 3) := by decide +kernel
theorem dX11_ride_106 : decode cX11_ride 106 = .ok (.iload_n 1, 1) := by decide +kernel
theorem dX11_ride_107 : decode cX11_ride 107 = .ok (.iaload, 1) := by decide +kernel
theorem dX11_ride_108 : decode cX11_ride 108 = .ok (.goto 12, 3) := by decide +kernel
theorem dX11_ride_111 : decode cX11_ride 111 = .ok (.aload_n 0, 1) := by decide +kernel
theorem dX11_ride_112 : decode cX11_ride 112 = .ok (.getfield 65, 3) := by decide +kernel
theorem dX11_ride_115 : decode cX11_ride 115 = .ok (.getfield 327, 3) := by decide +kernel
theorem dX11_ride_118 : decode cX11_ride 118 = .ok (.iload_n 1, 1) := by decide +kernel
theorem dX11_ride_119 : decode cX11_ride 119 = .ok (.iaload, 1) := by decide +kernel
theorem dX11_ride_120 : decode cX11_ride 120 = .ok (.ireturn, 1) := by decide +kernel
theorem dX11_pairs_0 : decode cX11_pairs 0 = .ok (.aload_n 0, 1) := by decide +kernel
theorem dX11_pairs_1 : decode cX11_pairs 1 = .ok (.iload_n 1, 1) := by decide +kernel
theorem dX11_pairs_2 : decode cX11_pairs 2 = .ok (.iload_n 2, 1) := by decide +kernel
theorem dX11_pairs_3 : decode cX11_pairs 3 = .ok (.iload_n 3, 1) := by decide +kernel
theorem dX11_pairs_4 : decode cX11_pairs 4 = .ok (.invokevirtual 338, 3) := by decide +kernel
theorem dX11_pairs_7 : decode cX11_pairs 7 = .ok (.aload_n 0, 1) := by decide +kernel
theorem dX11_pairs_8 : decode cX11_pairs 8 = .ok (.getfield 58, 3) := by decide +kernel
theorem dX11_pairs_11 : decode cX11_pairs 11 = .ok (.getfield 341, 3) := by decide +kernel
theorem dX11_pairs_14 : decode cX11_pairs 14 = .ok (.ireturn, 1) := by decide +kernel
theorem dX11_pair_0 : decode cX11_pair 0 = .ok (.aload_n 0, 1) := by decide +kernel
theorem dX11_pair_1 : decode cX11_pair 1 = .ok (.iload_n 1, 1) := by decide +kernel
theorem dX11_pair_2 : decode cX11_pair 2 = .ok (.iload_n 2, 1) := by decide +kernel
theorem dX11_pair_3 : decode cX11_pair 3 = .ok (.iload_n 3, 1) := by decide +kernel
theorem dX11_pair_4 : decode cX11_pair 4 = .ok (.invokevirtual 338, 3) := by decide +kernel
theorem dX11_pair_7 : decode cX11_pair 7 = .ok (.iload 4, 2) := by decide +kernel
theorem dX11_pair_9 : decode cX11_pair 9 = .ok (.ifCond .lt 15, 3) := by decide +kernel
theorem dX11_pair_12 : decode cX11_pair 12 = .ok (.iload 4, 2) := by decide +kernel
theorem dX11_pair_14 : decode cX11_pair 14 = .ok (.aload_n 0, 1) := by decide +kernel
theorem dX11_pair_15 : decode cX11_pair 15 = .ok (.getfield 58, 3) := by decide +kernel
theorem dX11_pair_18 : decode cX11_pair 18 = .ok (.getfield 341, 3) := by decide +kernel
theorem dX11_pair_21 : decode cX11_pair 21 = .ok (.if_icmp .lt 14, 3) := by decide +kernel
theorem dX11_pair_24 : decode cX11_pair 24 = .ok (.new 168, 3) := by decide +kernel
theorem dX11_pair_27 : decode cX11_pair 27 = .ok (.dup, 1) := by decide +kernel
theorem dX11_pair_28 : decode cX11_pair 28 = .ok (.ldc_w 344, 3) := by decide +kernel
theorem dX11_pair_31 : decode cX11_pair 31 = .ok (.invokespecial 172, 3) := by decide +kernel
theorem dX11_pair_34 : decode cX11_pair 34 = .ok (.athrow, 1) := by decide +kernel
theorem dX11_pair_35 : decode cX11_pair 35 = .ok (.iload 5, 2) := by decide +kernel
theorem dX11_pair_37 : decode cX11_pair 37 = .ok (.ifCond .eq 16, 3) := by decide +kernel
theorem dX11_pair_40 : decode cX11_pair 40 = .ok (.aload_n 0, 1) := by decide +kernel
theorem dX11_pair_41 : decode cX11_pair 41 = .ok (.getfield 58, 3) := by decide +kernel
theorem dX11_pair_44 : decode cX11_pair 44 = .ok (.getfield 346, 3) := by decide +kernel
theorem dX11_pair_47 : decode cX11_pair 47 = .ok (.iload 4, 2) := by decide +kernel
theorem dX11_pair_49 : decode cX11_pair 49 = .ok (.iaload, 1) := by decide +kernel
theorem dX11_pair_50 : decode cX11_pair 50 = .ok (.goto 13, 3) := by decide +kernel
theorem dX11_pair_53 : decode cX11_pair 53 = .ok (.aload_n 0, 1) := by decide +kernel
theorem dX11_pair_54 : decode cX11_pair 54 = .ok (.getfield 58, 3) := by decide +kernel
theorem dX11_pair_57 : decode cX11_pair 57 = .ok (.getfield 349, 3) := by decide +kernel
theorem dX11_pair_60 : decode cX11_pair 60 = .ok (.iload 4, 2) := by decide +kernel
theorem dX11_pair_62 : decode cX11_pair 62 = .ok (.iaload, 1) := by decide +kernel
theorem dX11_pair_63 : decode cX11_pair 63 = .ok (.ireturn, 1) := by decide +kernel
theorem dX11_byPairs_0 : decode cX11_byPairs 0 = .ok (.aload_n 0, 1) := by decide +kernel
theorem dX11_byPairs_1 : decode cX11_byPairs 1 = .ok (.iload_n 1, 1) := by decide +kernel
theorem dX11_byPairs_2 : decode cX11_byPairs 2 = .ok (.iload_n 2, 1) := by decide +kernel
theorem dX11_byPairs_3 : decode cX11_byPairs 3 = .ok (.iload_n 3, 1) := by decide +kernel
theorem dX11_byPairs_4 : decode cX11_byPairs 4 = .ok (.iload 4, 2) := by decide +kernel
theorem dX11_byPairs_6 : decode cX11_byPairs 6 = .ok (.invokevirtual 277, 3) := by decide +kernel
theorem dX11_byPairs_9 : decode cX11_byPairs 9 = .ok (.iload_n 1, 1) := by decide +kernel
theorem dX11_byPairs_10 : decode cX11_byPairs 10 = .ok (.iload_n 2, 1) := by decide +kernel
theorem dX11_byPairs_11 : decode cX11_byPairs 11 = .ok (.if_icmp .ne 6, 3) := by decide +kernel
theorem dX11_byPairs_14 : decode cX11_byPairs 14 = .ok (.iload 4, 2) := by decide +kernel
theorem dX11_byPairs_16 : decode cX11_byPairs 16 = .ok (.ireturn, 1) := by decide +kernel
theorem dX11_byPairs_17 : decode cX11_byPairs 17 = .ok (.aload_n 0, 1) := by decide +kernel
theorem dX11_byPairs_18 : decode cX11_byPairs 18 = .ok (.getfield 49, 3) := by decide +kernel
theorem dX11_byPairs_21 : decode cX11_byPairs 21 = .ok (.iload_n 3, 1) := by decide +kernel
theorem dX11_byPairs_22 : decode cX11_byPairs 22 = .ok (.iconst (-1), 1) := by decide +kernel
theorem dX11_byPairs_23 : decode cX11_byPairs 23 = .ok (.iconst 0, 1) := by decide +kernel
theorem dX11_byPairs_24 : decode cX11_byPairs 24 = .ok (.invokevirtual 280, 3) := by decide +kernel
theorem dX11_byPairs_27 : decode cX11_byPairs 27 = .ok (.aload_n 0, 1) := by decide +kernel
theorem dX11_byPairs_28 : decode cX11_byPairs 28 = .ok (.getfield 58, 3) := by decide +kernel
theorem dX11_byPairs_31 : decode cX11_byPairs 31 = .ok (.iload_n 1, 1) := by decide +kernel
theorem dX11_byPairs_32 : decode cX11_byPairs 32 = .ok (.iload_n 2, 1) := by decide +kernel
theorem dX11_byPairs_33 : decode cX11_byPairs 33 = .ok (.invokevirtual 352, 3) := by decide +kernel
theorem dX11_byPairs_36 : decode cX11_byPairs 36 = .ok (.aload_n 0, 1) := by decide +kernel
theorem dX11_byPairs_37 : decode cX11_byPairs 37 = .ok (.getfield 58, 3) := by decide +kernel
theorem dX11_byPairs_40 : decode cX11_byPairs 40 = .ok (.iload 4, 2) := by decide +kernel
theorem dX11_byPairs_42 : decode cX11_byPairs 42 = .ok (.invokevirtual 355, 3) := by decide +kernel
theorem dX11_byPairs_45 : decode cX11_byPairs 45 = .ok (.iload 4, 2) := by decide +kernel
theorem dX11_byPairs_47 : decode cX11_byPairs 47 = .ok (.aload_n 0, 1) := by decide +kernel
theorem dX11_byPairs_48 : decode cX11_byPairs 48 = .ok (.getfield 12, 3) := by decide +kernel
theorem dX11_byPairs_51 : decode cX11_byPairs 51 = .ok (.getfield 125, 3) := by decide +kernel
theorem dX11_byPairs_54 : decode cX11_byPairs 54 = .ok (.iload_n 1, 1) := by decide +kernel
theorem dX11_byPairs_55 : decode cX11_byPairs 55 = .ok (.aaload, 1) := by decide +kernel
theorem dX11_byPairs_56 : decode cX11_byPairs 56 = .ok (.iload_n 2, 1) := by decide +kernel
theorem dX11_byPairs_57 : decode cX11_byPairs 57 = .ok (.iaload, 1) := by decide +kernel
theorem dX11_byPairs_58 : decode cX11_byPairs 58 = .ok (.iadd, 1) := by decide +kernel
theorem dX11_byPairs_59 : decode cX11_byPairs 59 = .ok (.invokestatic 358, 3) := by decide +kernel
theorem dX11_byPairs_62 : decode cX11_byPairs 62 = .ok (.istore 5, 2) := by decide +kernel
theorem dX11_byPairs_64 : decode cX11_byPairs 64 = .ok (.iload 5, 2) := by decide +kernel
theorem dX11_byPairs_66 : decode cX11_byPairs 66 = .ok (.invokestatic 128, 3) := by decide +kernel
theorem dX11_byPairs_69 : decode cX11_byPairs 69 = .ok (.iload 5, 2) := by decide +kernel
theorem dX11_byPairs_71 : decode cX11_byPairs 71 = .ok (.ireturn, 1) := by decide +kernel
theorem dX11_choices_0 : decode cX11_choices 0 = .ok (.aload_n 0, 1) := by decide +kernel
theorem dX11_choices_1 : decode cX11_choices 1 = .ok (.iload_n 1, 1) := by decide +kernel
theorem dX11_choices_2 : decode cX11_choices 2 = .ok (.iload_n 2, 1) := by decide +kernel
theorem dX11_choices_3 : decode cX11_choices 3 = .ok (.iload_n 3, 1) := by decide +kernel
theorem dX11_choices_4 : decode cX11_choices 4 = .ok (.iload 4, 2) := by decide +kernel
theorem dX11_choices_6 : decode cX11_choices 6 = .ok (.invokevirtual 277, 3) := by decide +kernel
theorem dX11_choices_9 : decode cX11_choices 9 = .ok (.aload_n 0, 1) := by decide +kernel
theorem dX11_choices_10 : decode cX11_choices 10 = .ok (.getfield 49, 3) := by decide +kernel
theorem dX11_choices_13 : decode cX11_choices 13 = .ok (.iload_n 3, 1) := by decide +kernel
theorem dX11_choices_14 : decode cX11_choices 14 = .ok (.iconst (-1), 1) := by decide +kernel
theorem dX11_choices_15 : decode cX11_choices 15 = .ok (.iconst 0, 1) := by decide +kernel
theorem dX11_choices_16 : decode cX11_choices 16 = .ok (.invokevirtual 280, 3) := by decide +kernel
theorem dX11_choices_19 : decode cX11_choices 19 = .ok (.aload_n 0, 1) := by decide +kernel
theorem dX11_choices_20 : decode cX11_choices 20 = .ok (.getfield 65, 3) := by decide +kernel
theorem dX11_choices_23 : decode cX11_choices 23 = .ok (.iload_n 1, 1) := by decide +kernel
theorem dX11_choices_24 : decode cX11_choices 24 = .ok (.iload 4, 2) := by decide +kernel
theorem dX11_choices_26 : decode cX11_choices 26 = .ok (.invokevirtual 297, 3) := by decide +kernel
theorem dX11_choices_29 : decode cX11_choices 29 = .ok (.iconst 0, 1) := by decide +kernel
theorem dX11_choices_30 : decode cX11_choices 30 = .ok (.istore 5, 2) := by decide +kernel
theorem dX11_choices_32 : decode cX11_choices 32 = .ok (.iconst 0, 1) := by decide +kernel
theorem dX11_choices_33 : decode cX11_choices 33 = .ok (.istore 6, 2) := by decide +kernel
theorem dX11_choices_35 : decode cX11_choices 35 = .ok (.iload 6, 2) := by decide +kernel
theorem dX11_choices_37 : decode cX11_choices 37 = .ok (.aload_n 0, 1) := by decide +kernel
theorem dX11_choices_38 : decode cX11_choices 38 = .ok (.getfield 65, 3) := by decide +kernel
theorem dX11_choices_41 : decode cX11_choices 41 = .ok (.getfield 363, 3) := by decide +kernel
theorem dX11_choices_44 : decode cX11_choices 44 = .ok (.if_icmp .gt 25, 3) := by decide +kernel
theorem dX11_choices_47 : decode cX11_choices 47 = .ok (.aload_n 0, 1) := by decide +kernel
theorem dX11_choices_48 : decode cX11_choices 48 = .ok (.getfield 65, 3) := by decide +kernel
theorem dX11_choices_51 : decode cX11_choices 51 = .ok (.iload 6, 2) := by decide +kernel
theorem dX11_choices_53 : decode cX11_choices 53 = .ok (.iload_n 2, 1) := by decide +kernel
theorem dX11_choices_54 : decode cX11_choices 54 = .ok (.invokevirtual 366, 3) := by decide +kernel
theorem dX11_choices_57 : decode cX11_choices 57 = .ok (.ifCond .eq 6, 3) := by decide +kernel
theorem dX11_choices_60 : decode cX11_choices 60 = .ok (.iinc 5 1, 3) := by decide +kernel
theorem dX11_choices_63 : decode cX11_choices 63 = .ok (.iinc 6 1, 3) := by decide +kernel
theorem dX11_choices_66 : decode cX11_choices 66 = .ok (.goto (-31), 3) := by decide +kernel
theorem dX11_choices_69 : decode cX11_choices 69 = .ok (.iload 5, 2) := by decide +kernel
theorem dX11_choices_71 : decode cX11_choices 71 = .ok (.ireturn, 1) := by decide +kernel
theorem dX11_choice_0 : decode cX11_choice 0 = .ok (.aload_n 0, 1) := by decide +kernel
theorem dX11_choice_1 : decode cX11_choice 1 = .ok (.iload_n 1, 1) := by decide +kernel
theorem dX11_choice_2 : decode cX11_choice 2 = .ok (.iload_n 2, 1) := by decide +kernel
theorem dX11_choice_3 : decode cX11_choice 3 = .ok (.iload_n 3, 1) := by decide +kernel
theorem dX11_choice_4 : decode cX11_choice 4 = .ok (.iload 4, 2) := by decide +kernel
theorem dX11_choice_6 : decode cX11_choice 6 = .ok (.invokevirtual 277, 3) := by decide +kernel
theorem dX11_choice_9 : decode cX11_choice 9 = .ok (.aload_n 0, 1) := by decide +kernel
theorem dX11_choice_10 : decode cX11_choice 10 = .ok (.getfield 49, 3) := by decide +kernel
theorem dX11_choice_13 : decode cX11_choice 13 = .ok (.iload_n 3, 1) := by decide +kernel
theorem dX11_choice_14 : decode cX11_choice 14 = .ok (.iconst (-1), 1) := by decide +kernel
theorem dX11_choice_15 : decode cX11_choice 15 = .ok (.iconst 0, 1) := by decide +kernel
theorem dX11_choice_16 : decode cX11_choice 16 = .ok (.invokevirtual 280, 3) := by decide +kernel
theorem dX11_choice_19 : decode cX11_choice 19 = .ok (.aload_n 0, 1) := by decide +kernel
theorem dX11_choice_20 : decode cX11_choice 20 = .ok (.getfield 65, 3) := by decide +kernel
theorem dX11_choice_23 : decode cX11_choice 23 = .ok (.iload_n 1, 1) := by decide +kernel
theorem dX11_choice_24 : decode cX11_choice 24 = .ok (.iload 4, 2) := by decide +kernel
theorem dX11_choice_26 : decode cX11_choice 26 = .ok (.invokevirtual 297, 3) := by decide +kernel
theorem dX11_choice_29 : decode cX11_choice 29 = .ok (.iload 5, 2) := by decide +kernel
theorem dX11_choice_31 : decode cX11_choice 31 = .ok (.istore 6, 2) := by decide +kernel
theorem dX11_choice_33 : decode cX11_choice 33 = .ok (.iconst 0, 1) := by decide +kernel
theorem dX11_choice_34 : decode cX11_choice 34 = .ok (.istore 7, 2) := by decide +kernel
theorem dX11_choice_36 : decode cX11_choice 36 = .ok (.iload 7, 2) := by decide +kernel
theorem dX11_choice_38 : decode cX11_choice 38 = .ok (.aload_n 0, 1) := by decide +kernel
theorem dX11_choice_39 : decode cX11_choice 39 = .ok (.getfield 65, 3) := by decide +kernel
theorem dX11_choice_42 : decode cX11_choice 42 = .ok (.getfield 363, 3) := by decide +kernel
theorem dX11_choice_45 : decode cX11_choice 45 = .ok (.if_icmp .gt 57, 3) := by decide +kernel
theorem dX11_choice_48 : decode cX11_choice 48 = .ok (.iload 6, 2) := by decide +kernel
theorem dX11_choice_50 : decode cX11_choice 50 = .ok (.ifCond .lt 52, 3) := by decide +kernel
theorem dX11_choice_53 : decode cX11_choice 53 = .ok (.aload_n 0, 1) := by decide +kernel
theorem dX11_choice_54 : decode cX11_choice 54 = .ok (.getfield 65, 3) := by decide +kernel
theorem dX11_choice_57 : decode cX11_choice 57 = .ok (.iload 7, 2) := by decide +kernel
theorem dX11_choice_59 : decode cX11_choice 59 = .ok (.iload_n 2, 1) := by decide +kernel
theorem dX11_choice_60 : decode cX11_choice 60 = .ok (.invokevirtual 366, 3) := by decide +kernel
theorem dX11_choice_63 : decode cX11_choice 63 = .ok (.ifCond .eq 33, 3) := by decide +kernel
theorem dX11_choice_66 : decode cX11_choice 66 = .ok (.iload 6, 2) := by decide +kernel
theorem dX11_choice_68 : decode cX11_choice 68 = .ok (.ifCond .ne 25, 3) := by decide +kernel
theorem dX11_choice_71 : decode cX11_choice 71 = .ok (.sipush 5000, 3) := by decide +kernel
theorem dX11_choice_74 : decode cX11_choice 74 = .ok (.iload 7, 2) := by decide +kernel
theorem dX11_choice_76 : decode cX11_choice 76 = .ok (.imul, 1) := by decide +kernel
theorem dX11_choice_77 : decode cX11_choice 77 = .ok (.aload_n 0, 1) := by decide +kernel
theorem dX11_choice_78 : decode cX11_choice 78 = .ok (.getfield 65, 3) := by decide +kernel
theorem dX11_choice_81 : decode cX11_choice 81 = .ok (.getfield 369, 3) := by decide +kernel
theorem dX11_choice_84 : decode cX11_choice 84 = .ok (.iload 7, 2) := by decide +kernel
theorem dX11_choice_86 : decode cX11_choice 86 = .ok (.aaload, 1) := by decide +kernel
theorem dX11_choice_87 : decode cX11_choice 87 = .ok (.iload_n 2, 1) := by decide +kernel
theorem dX11_choice_88 : decode cX11_choice 88 = .ok (.invokevirtual 290, 3) := by decide +kernel
theorem dX11_choice_91 : decode cX11_choice 91 = .ok (.iadd, 1) := by decide +kernel
theorem dX11_choice_92 : decode cX11_choice 92 = .ok (.ireturn, 1) := by decide +kernel
theorem dX11_choice_93 : decode cX11_choice 93 = .ok (.iinc 6 (-1), 3) := by decide +kernel
theorem dX11_choice_96 : decode cX11_choice 96 = .ok (.iinc 7 1, 3) := by decide +kernel
theorem dX11_choice_99 : decode cX11_choice 99 = .ok (.goto (-63), 3) := by decide +kernel
theorem dX11_choice_102 : decode cX11_choice 102 = .ok (.new 168, 3) := by decide +kernel
theorem dX11_choice_105 : decode cX11_choice 105 = .ok (.dup, 1) := by decide +kernel
theorem dX11_choice_106 : decode cX11_choice 106 = .ok (.ldc_w 373, 3) := by decide +kernel
theorem dX11_choice_109 : decode cX11_choice 109 = .ok (.invokespecial 172, 3) := by decide +kernel
theorem dX11_choice_112 : decode cX11_choice 112 = .ok (.athrow, 1) := by decide +kernel
theorem dX11_vehicles_0 : decode cX11_vehicles 0 = .ok (.iload_n 1, 1) := by decide +kernel
theorem dX11_vehicles_1 : decode cX11_vehicles 1 = .ok (.invokestatic 140, 3) := by decide +kernel
theorem dX11_vehicles_4 : decode cX11_vehicles 4 = .ok (.aload_n 0, 1) := by decide +kernel
theorem dX11_vehicles_5 : decode cX11_vehicles 5 = .ok (.getfield 79, 3) := by decide +kernel
theorem dX11_vehicles_8 : decode cX11_vehicles 8 = .ok (.aload_n 0, 1) := by decide +kernel
theorem dX11_vehicles_9 : decode cX11_vehicles 9 = .ok (.getfield 19, 3) := by decide +kernel
theorem dX11_vehicles_12 : decode cX11_vehicles 12 = .ok (.aload_n 0, 1) := by decide +kernel
theorem dX11_vehicles_13 : decode cX11_vehicles 13 = .ok (.getfield 26, 3) := by decide +kernel
theorem dX11_vehicles_16 : decode cX11_vehicles 16 = .ok (.iload_n 1, 1) := by decide +kernel
theorem dX11_vehicles_17 : decode cX11_vehicles 17 = .ok (.invokevirtual 398, 3) := by decide +kernel
theorem dX11_vehicles_20 : decode cX11_vehicles 20 = .ok (.aload_n 0, 1) := by decide +kernel
theorem dX11_vehicles_21 : decode cX11_vehicles 21 = .ok (.getfield 79, 3) := by decide +kernel
theorem dX11_vehicles_24 : decode cX11_vehicles 24 = .ok (.aload_n 0, 1) := by decide +kernel
theorem dX11_vehicles_25 : decode cX11_vehicles 25 = .ok (.getfield 12, 3) := by decide +kernel
theorem dX11_vehicles_28 : decode cX11_vehicles 28 = .ok (.getfield 92, 3) := by decide +kernel
theorem dX11_vehicles_31 : decode cX11_vehicles 31 = .ok (.invokevirtual 402, 3) := by decide +kernel
theorem dX11_vehicles_34 : decode cX11_vehicles 34 = .ok (.ireturn, 1) := by decide +kernel
theorem dX11_vehiclesByMatching_0 : decode cX11_vehiclesByMatching 0 = .ok (.iload_n 1, 1) := by decide +kernel
theorem dX11_vehiclesByMatching_1 : decode cX11_vehiclesByMatching 1 = .ok (.invokestatic 140, 3) := by decide +kernel
theorem dX11_vehiclesByMatching_4 : decode cX11_vehiclesByMatching 4 = .ok (.aload_n 0, 1) := by decide +kernel
theorem dX11_vehiclesByMatching_5 : decode cX11_vehiclesByMatching 5 = .ok (.getfield 79, 3) := by decide +kernel
theorem dX11_vehiclesByMatching_8 : decode cX11_vehiclesByMatching 8 = .ok (.aload_n 0, 1) := by decide +kernel
theorem dX11_vehiclesByMatching_9 : decode cX11_vehiclesByMatching 9 = .ok (.getfield 19, 3) := by decide +kernel
theorem dX11_vehiclesByMatching_12 : decode cX11_vehiclesByMatching 12 = .ok (.aload_n 0, 1) := by decide +kernel
theorem dX11_vehiclesByMatching_13 : decode cX11_vehiclesByMatching 13 = .ok (.getfield 26, 3) := by decide +kernel
theorem dX11_vehiclesByMatching_16 : decode cX11_vehiclesByMatching 16 = .ok (.iload_n 1, 1) := by decide +kernel
theorem dX11_vehiclesByMatching_17 : decode cX11_vehiclesByMatching 17 = .ok (.invokevirtual 398, 3) := by decide +kernel
theorem dX11_vehiclesByMatching_20 : decode cX11_vehiclesByMatching 20 = .ok (.aload_n 0, 1) := by decide +kernel
theorem dX11_vehiclesByMatching_21 : decode cX11_vehiclesByMatching 21 = .ok (.getfield 79, 3) := by decide +kernel
theorem dX11_vehiclesByMatching_24 : decode cX11_vehiclesByMatching 24 = .ok (.invokevirtual 405, 3) := by decide +kernel
theorem dX11_vehiclesByMatching_27 : decode cX11_vehiclesByMatching 27 = .ok (.ireturn, 1) := by decide +kernel
theorem dX11_isSound_0 : decode cX11_isSound 0 = .ok (.iload_n 1, 1) := by decide +kernel
theorem dX11_isSound_1 : decode cX11_isSound 1 = .ok (.invokestatic 140, 3) := by decide +kernel
theorem dX11_isSound_4 : decode cX11_isSound 4 = .ok (.aload_n 0, 1) := by decide +kernel
theorem dX11_isSound_5 : decode cX11_isSound 5 = .ok (.getfield 49, 3) := by decide +kernel
theorem dX11_isSound_8 : decode cX11_isSound 8 = .ok (.iload_n 1, 1) := by decide +kernel
theorem dX11_isSound_9 : decode cX11_isSound 9 = .ok (.iconst (-1), 1) := by decide +kernel
theorem dX11_isSound_10 : decode cX11_isSound 10 = .ok (.iconst 0, 1) := by decide +kernel
theorem dX11_isSound_11 : decode cX11_isSound 11 = .ok (.invokevirtual 280, 3) := by decide +kernel
theorem dX11_isSound_14 : decode cX11_isSound 14 = .ok (.aload_n 0, 1) := by decide +kernel
theorem dX11_isSound_15 : decode cX11_isSound 15 = .ok (.getfield 12, 3) := by decide +kernel
theorem dX11_isSound_18 : decode cX11_isSound 18 = .ok (.getfield 92, 3) := by decide +kernel
theorem dX11_isSound_21 : decode cX11_isSound 21 = .ok (.ifCond .le 12, 3) := by decide +kernel
theorem dX11_isSound_24 : decode cX11_isSound 24 = .ok (.aload_n 0, 1) := by decide +kernel
theorem dX11_isSound_25 : decode cX11_isSound 25 = .ok (.invokevirtual 435, 3) := by decide +kernel
theorem dX11_isSound_28 : decode cX11_isSound 28 = .ok (.ifCond .ne 5, 3) := by decide +kernel
theorem dX11_isSound_31 : decode cX11_isSound 31 = .ok (.iconst 0, 1) := by decide +kernel
theorem dX11_isSound_32 : decode cX11_isSound 32 = .ok (.ireturn, 1) := by decide +kernel
theorem dX11_isSound_33 : decode cX11_isSound 33 = .ok (.aload_n 0, 1) := by decide +kernel
theorem dX11_isSound_34 : decode cX11_isSound 34 = .ok (.getfield 12, 3) := by decide +kernel
theorem dX11_isSound_37 : decode cX11_isSound 37 = .ok (.getfield 92, 3) := by decide +kernel
theorem dX11_isSound_40 : decode cX11_isSound 40 = .ok (.iconst 1, 1) := by decide +kernel
theorem dX11_isSound_41 : decode cX11_isSound 41 = .ok (.if_icmp .le 21, 3) := by decide +kernel
theorem dX11_isSound_44 : decode cX11_isSound 44 = .ok (.aload_n 0, 1) := by decide +kernel
theorem dX11_isSound_45 : decode cX11_isSound 45 = .ok (.aload_n 0, 1) := by decide +kernel
theorem dX11_isSound_46 : decode cX11_isSound 46 = .ok (.getfield 12, 3) := by decide +kernel
theorem dX11_isSound_49 : decode cX11_isSound 49 = .ok (.getfield 92, 3) := by decide +kernel
theorem dX11_isSound_52 : decode cX11_isSound 52 = .ok (.iconst 1, 1) := by decide +kernel
theorem dX11_isSound_53 : decode cX11_isSound 53 = .ok (.isub, 1) := by decide +kernel
theorem dX11_isSound_54 : decode cX11_isSound 54 = .ok (.invokevirtual 438, 3) := by decide +kernel
theorem dX11_isSound_57 : decode cX11_isSound 57 = .ok (.ifCond .ne 5, 3) := by decide +kernel
theorem dX11_isSound_60 : decode cX11_isSound 60 = .ok (.iconst 0, 1) := by decide +kernel
theorem dX11_isSound_61 : decode cX11_isSound 61 = .ok (.ireturn, 1) := by decide +kernel
theorem dX11_isSound_62 : decode cX11_isSound 62 = .ok (.aload_n 0, 1) := by decide +kernel
theorem dX11_isSound_63 : decode cX11_isSound 63 = .ok (.getfield 79, 3) := by decide +kernel
theorem dX11_isSound_66 : decode cX11_isSound 66 = .ok (.aload_n 0, 1) := by decide +kernel
theorem dX11_isSound_67 : decode cX11_isSound 67 = .ok (.getfield 19, 3) := by decide +kernel
theorem dX11_isSound_70 : decode cX11_isSound 70 = .ok (.aload_n 0, 1) := by decide +kernel
theorem dX11_isSound_71 : decode cX11_isSound 71 = .ok (.getfield 26, 3) := by decide +kernel
theorem dX11_isSound_74 : decode cX11_isSound 74 = .ok (.iload_n 1, 1) := by decide +kernel
theorem dX11_isSound_75 : decode cX11_isSound 75 = .ok (.invokevirtual 398, 3) := by decide +kernel
theorem dX11_isSound_78 : decode cX11_isSound 78 = .ok (.aload_n 0, 1) := by decide +kernel
theorem dX11_isSound_79 : decode cX11_isSound 79 = .ok (.getfield 79, 3) := by decide +kernel
theorem dX11_isSound_82 : decode cX11_isSound 82 = .ok (.aload_n 0, 1) := by decide +kernel
theorem dX11_isSound_83 : decode cX11_isSound 83 = .ok (.getfield 12, 3) := by decide +kernel
theorem dX11_isSound_86 : decode cX11_isSound 86 = .ok (.getfield 92, 3) := by decide +kernel
theorem dX11_isSound_89 : decode cX11_isSound 89 = .ok (.invokevirtual 402, 3) := by decide +kernel
theorem dX11_isSound_92 : decode cX11_isSound 92 = .ok (.aload_n 0, 1) := by decide +kernel
theorem dX11_isSound_93 : decode cX11_isSound 93 = .ok (.getfield 79, 3) := by decide +kernel
theorem dX11_isSound_96 : decode cX11_isSound 96 = .ok (.invokevirtual 405, 3) := by decide +kernel
theorem dX11_isSound_99 : decode cX11_isSound 99 = .ok (.if_icmp .ne 7, 3) := by decide +kernel
theorem dX11_isSound_102 : decode cX11_isSound 102 = .ok (.iconst 1, 1) := by decide +kernel
theorem dX11_isSound_103 : decode cX11_isSound 103 = .ok (.goto 4, 3) := by decide +kernel
theorem dX11_isSound_106 : decode cX11_isSound 106 = .ok (.iconst 0, 1) := by decide +kernel
theorem dX11_isSound_107 : decode cX11_isSound 107 = .ok (.ireturn, 1) := by decide +kernel
theorem dX11_needNumber_0 : decode cX11_needNumber 0 = .ok (.iload_n 0, 1) := by decide +kernel
theorem dX11_needNumber_1 : decode cX11_needNumber 1 = .ok (.iload_n 1, 1) := by decide +kernel
theorem dX11_needNumber_2 : decode cX11_needNumber 2 = .ok (.if_icmp .lt 8, 3) := by decide +kernel
theorem dX11_needNumber_5 : decode cX11_needNumber 5 = .ok (.iload_n 0, 1) := by decide +kernel
theorem dX11_needNumber_6 : decode cX11_needNumber 6 = .ok (.iload_n 2, 1) := by decide +kernel
theorem dX11_needNumber_7 : decode cX11_needNumber 7 = .ok (.if_icmp .le 14, 3) := by decide +kernel
theorem dX11_needNumber_10 : decode cX11_needNumber 10 = .ok (.new 143, 3) := by decide +kernel
theorem dX11_needNumber_13 : decode cX11_needNumber 13 = .ok (.dup, 1) := by decide +kernel
theorem dX11_needNumber_14 : decode cX11_needNumber 14 = .ok (.ldc_w 442, 3) := by decide +kernel
theorem dX11_needNumber_17 : decode cX11_needNumber 17 = .ok (.invokespecial 147, 3) := by decide +kernel
theorem dX11_needNumber_20 : decode cX11_needNumber 20 = .ok (.athrow, 1) := by decide +kernel
theorem dX11_needNumber_21 : decode cX11_needNumber 21 = .ok (.return_, 1) := by decide +kernel
theorem dX11_needDay_0 : decode cX11_needDay 0 = .ok (.iload_n 0, 1) := by decide +kernel
theorem dX11_needDay_1 : decode cX11_needDay 1 = .ok (.iconst 0, 1) := by decide +kernel
theorem dX11_needDay_2 : decode cX11_needDay 2 = .ok (.bipush 27, 2) := by decide +kernel
theorem dX11_needDay_4 : decode cX11_needDay 4 = .ok (.invokestatic 88, 3) := by decide +kernel
theorem dX11_needDay_7 : decode cX11_needDay 7 = .ok (.return_, 1) := by decide +kernel
theorem dX11_needUnlike_0 : decode cX11_needUnlike 0 = .ok (.iload_n 0, 1) := by decide +kernel
theorem dX11_needUnlike_1 : decode cX11_needUnlike 1 = .ok (.iload_n 1, 1) := by decide +kernel
theorem dX11_needUnlike_2 : decode cX11_needUnlike 2 = .ok (.if_icmp .ne 14, 3) := by decide +kernel
theorem dX11_needUnlike_5 : decode cX11_needUnlike 5 = .ok (.new 143, 3) := by decide +kernel
theorem dX11_needUnlike_8 : decode cX11_needUnlike 8 = .ok (.dup, 1) := by decide +kernel
theorem dX11_needUnlike_9 : decode cX11_needUnlike 9 = .ok (.ldc_w 444, 3) := by decide +kernel
theorem dX11_needUnlike_12 : decode cX11_needUnlike 12 = .ok (.invokespecial 147, 3) := by decide +kernel
theorem dX11_needUnlike_15 : decode cX11_needUnlike 15 = .ok (.athrow, 1) := by decide +kernel
theorem dX11_needUnlike_16 : decode cX11_needUnlike 16 = .ok (.return_, 1) := by decide +kernel
theorem dX11_needFound_0 : decode cX11_needFound 0 = .ok (.iload_n 0, 1) := by decide +kernel
theorem dX11_needFound_1 : decode cX11_needFound 1 = .ok (.ldc_w 420, 3) := by decide +kernel
theorem dX11_needFound_4 : decode cX11_needFound 4 = .ok (.if_icmp .lt 14, 3) := by decide +kernel
theorem dX11_needFound_7 : decode cX11_needFound 7 = .ok (.new 168, 3) := by decide +kernel
theorem dX11_needFound_10 : decode cX11_needFound 10 = .ok (.dup, 1) := by decide +kernel
theorem dX11_needFound_11 : decode cX11_needFound 11 = .ok (.ldc_w 446, 3) := by decide +kernel
theorem dX11_needFound_14 : decode cX11_needFound 14 = .ok (.invokespecial 172, 3) := by decide +kernel
theorem dX11_needFound_17 : decode cX11_needFound 17 = .ok (.athrow, 1) := by decide +kernel
theorem dX11_needFound_18 : decode cX11_needFound 18 = .ok (.return_, 1) := by decide +kernel
theorem dX11_needStop_0 : decode cX11_needStop 0 = .ok (.aload_n 0, 1) := by decide +kernel
theorem dX11_needStop_1 : decode cX11_needStop 1 = .ok (.getfield 12, 3) := by decide +kernel
theorem dX11_needStop_4 : decode cX11_needStop 4 = .ok (.iload_n 1, 1) := by decide +kernel
theorem dX11_needStop_5 : decode cX11_needStop 5 = .ok (.invokevirtual 448, 3) := by decide +kernel
theorem dX11_needStop_8 : decode cX11_needStop 8 = .ok (.ifCond .ne 14, 3) := by decide +kernel
theorem dX11_needStop_11 : decode cX11_needStop 11 = .ok (.new 451, 3) := by decide +kernel
theorem dX11_needStop_14 : decode cX11_needStop 14 = .ok (.dup, 1) := by decide +kernel
theorem dX11_needStop_15 : decode cX11_needStop 15 = .ok (.ldc_w 453, 3) := by decide +kernel
theorem dX11_needStop_18 : decode cX11_needStop 18 = .ok (.invokespecial 455, 3) := by decide +kernel
theorem dX11_needStop_21 : decode cX11_needStop 21 = .ok (.athrow, 1) := by decide +kernel
theorem dX11_needStop_22 : decode cX11_needStop 22 = .ok (.return_, 1) := by decide +kernel
theorem dX11_needService_0 : decode cX11_needService 0 = .ok (.aload_n 0, 1) := by decide +kernel
theorem dX11_needService_1 : decode cX11_needService 1 = .ok (.getfield 19, 3) := by decide +kernel
theorem dX11_needService_4 : decode cX11_needService 4 = .ok (.iload_n 1, 1) := by decide +kernel
theorem dX11_needService_5 : decode cX11_needService 5 = .ok (.invokevirtual 456, 3) := by decide +kernel
theorem dX11_needService_8 : decode cX11_needService 8 = .ok (.ifCond .ne 14, 3) := by decide +kernel
theorem dX11_needService_11 : decode cX11_needService 11 = .ok (.new 451, 3) := by decide +kernel
theorem dX11_needService_14 : decode cX11_needService 14 = .ok (.dup, 1) := by decide +kernel
theorem dX11_needService_15 : decode cX11_needService 15 = .ok (.ldc_w 457, 3) := by decide +kernel
theorem dX11_needService_18 : decode cX11_needService 18 = .ok (.invokespecial 455, 3) := by decide +kernel
theorem dX11_needService_21 : decode cX11_needService 21 = .ok (.athrow, 1) := by decide +kernel
theorem dX11_needService_22 : decode cX11_needService 22 = .ok (.return_, 1) := by decide +kernel
theorem dX11_needTrip_0 : decode cX11_needTrip 0 = .ok (.aload_n 0, 1) := by decide +kernel
theorem dX11_needTrip_1 : decode cX11_needTrip 1 = .ok (.getfield 26, 3) := by decide +kernel
theorem dX11_needTrip_4 : decode cX11_needTrip 4 = .ok (.iload_n 1, 1) := by decide +kernel
theorem dX11_needTrip_5 : decode cX11_needTrip 5 = .ok (.invokevirtual 459, 3) := by decide +kernel
theorem dX11_needTrip_8 : decode cX11_needTrip 8 = .ok (.ifCond .ne 14, 3) := by decide +kernel
theorem dX11_needTrip_11 : decode cX11_needTrip 11 = .ok (.new 451, 3) := by decide +kernel
theorem dX11_needTrip_14 : decode cX11_needTrip 14 = .ok (.dup, 1) := by decide +kernel
theorem dX11_needTrip_15 : decode cX11_needTrip 15 = .ok (.ldc_w 460, 3) := by decide +kernel
theorem dX11_needTrip_18 : decode cX11_needTrip 18 = .ok (.invokespecial 455, 3) := by decide +kernel
theorem dX11_needTrip_21 : decode cX11_needTrip 21 = .ok (.athrow, 1) := by decide +kernel
theorem dX11_needTrip_22 : decode cX11_needTrip 22 = .ok (.return_, 1) := by decide +kernel
theorem dX11_needWay_0 : decode cX11_needWay 0 = .ok (.aload_n 0, 1) := by decide +kernel
theorem dX11_needWay_1 : decode cX11_needWay 1 = .ok (.iload_n 1, 1) := by decide +kernel
theorem dX11_needWay_2 : decode cX11_needWay 2 = .ok (.invokevirtual 107, 3) := by decide +kernel
theorem dX11_needWay_5 : decode cX11_needWay 5 = .ok (.aload_n 0, 1) := by decide +kernel
theorem dX11_needWay_6 : decode cX11_needWay 6 = .ok (.iload_n 2, 1) := by decide +kernel
theorem dX11_needWay_7 : decode cX11_needWay 7 = .ok (.invokevirtual 107, 3) := by decide +kernel
theorem dX11_needWay_10 : decode cX11_needWay 10 = .ok (.iload_n 3, 1) := by decide +kernel
theorem dX11_needWay_11 : decode cX11_needWay 11 = .ok (.invokestatic 140, 3) := by decide +kernel
theorem dX11_needWay_14 : decode cX11_needWay 14 = .ok (.iload 4, 2) := by decide +kernel
theorem dX11_needWay_16 : decode cX11_needWay 16 = .ok (.iconst 0, 1) := by decide +kernel
theorem dX11_needWay_17 : decode cX11_needWay 17 = .ok (.sipush 1439, 3) := by decide +kernel
theorem dX11_needWay_20 : decode cX11_needWay 20 = .ok (.invokestatic 88, 3) := by decide +kernel
theorem dX11_needWay_23 : decode cX11_needWay 23 = .ok (.return_, 1) := by decide +kernel
theorem dX11_needRoomForTrip_0 : decode cX11_needRoomForTrip 0 = .ok (.aload_n 0, 1) := by decide +kernel
theorem dX11_needRoomForTrip_1 : decode cX11_needRoomForTrip 1 = .ok (.getfield 26, 3) := by decide +kernel
theorem dX11_needRoomForTrip_4 : decode cX11_needRoomForTrip 4 = .ok (.getfield 203, 3) := by decide +kernel
theorem dX11_needRoomForTrip_7 : decode cX11_needRoomForTrip 7 = .ok (.bipush 24, 2) := by decide +kernel
theorem dX11_needRoomForTrip_9 : decode cX11_needRoomForTrip 9 = .ok (.if_icmp .lt 14, 3) := by decide +kernel
theorem dX11_needRoomForTrip_12 : decode cX11_needRoomForTrip 12 = .ok (.new 96, 3) := by decide +kernel
theorem dX11_needRoomForTrip_15 : decode cX11_needRoomForTrip 15 = .ok (.dup, 1) := by decide +kernel
theorem dX11_needRoomForTrip_16 : decode cX11_needRoomForTrip 16 = .ok (.ldc_w 470, 3) := by decide +kernel
theorem dX11_needRoomForTrip_19 : decode cX11_needRoomForTrip 19 = .ok (.invokespecial 100, 3) := by decide +kernel
theorem dX11_needRoomForTrip_22 : decode cX11_needRoomForTrip 22 = .ok (.athrow, 1) := by decide +kernel
theorem dX11_needRoomForTrip_23 : decode cX11_needRoomForTrip 23 = .ok (.return_, 1) := by decide +kernel
theorem dX11_goesOn_0 : decode cX11_goesOn 0 = .ok (.iload_n 1, 1) := by decide +kernel
theorem dX11_goesOn_1 : decode cX11_goesOn 1 = .ok (.iload_n 0, 1) := by decide +kernel
theorem dX11_goesOn_2 : decode cX11_goesOn 2 = .ok (.if_icmp .le 19, 3) := by decide +kernel
theorem dX11_goesOn_5 : decode cX11_goesOn 5 = .ok (.iload_n 2, 1) := by decide +kernel
theorem dX11_goesOn_6 : decode cX11_goesOn 6 = .ok (.iload_n 1, 1) := by decide +kernel
theorem dX11_goesOn_7 : decode cX11_goesOn 7 = .ok (.if_icmp .lt 14, 3) := by decide +kernel
theorem dX11_goesOn_10 : decode cX11_goesOn 10 = .ok (.iload_n 2, 1) := by decide +kernel
theorem dX11_goesOn_11 : decode cX11_goesOn 11 = .ok (.sipush 2880, 3) := by decide +kernel
theorem dX11_goesOn_14 : decode cX11_goesOn 14 = .ok (.if_icmp .ge 7, 3) := by decide +kernel
theorem dX11_goesOn_17 : decode cX11_goesOn 17 = .ok (.iconst 1, 1) := by decide +kernel
theorem dX11_goesOn_18 : decode cX11_goesOn 18 = .ok (.goto 4, 3) := by decide +kernel
theorem dX11_goesOn_21 : decode cX11_goesOn 21 = .ok (.iconst 0, 1) := by decide +kernel
theorem dX11_goesOn_22 : decode cX11_goesOn 22 = .ok (.ireturn, 1) := by decide +kernel
theorem dX11_findPairs_0 : decode cX11_findPairs 0 = .ok (.aload_n 0, 1) := by decide +kernel
theorem dX11_findPairs_1 : decode cX11_findPairs 1 = .ok (.iload_n 1, 1) := by decide +kernel
theorem dX11_findPairs_2 : decode cX11_findPairs 2 = .ok (.invokevirtual 107, 3) := by decide +kernel
theorem dX11_findPairs_5 : decode cX11_findPairs 5 = .ok (.aload_n 0, 1) := by decide +kernel
theorem dX11_findPairs_6 : decode cX11_findPairs 6 = .ok (.iload_n 2, 1) := by decide +kernel
theorem dX11_findPairs_7 : decode cX11_findPairs 7 = .ok (.invokevirtual 107, 3) := by decide +kernel
theorem dX11_findPairs_10 : decode cX11_findPairs 10 = .ok (.iload_n 1, 1) := by decide +kernel
theorem dX11_findPairs_11 : decode cX11_findPairs 11 = .ok (.iload_n 2, 1) := by decide +kernel
theorem dX11_findPairs_12 : decode cX11_findPairs 12 = .ok (.invokestatic 115, 3) := by decide +kernel
theorem dX11_findPairs_15 : decode cX11_findPairs 15 = .ok (.iload_n 3, 1) := by decide +kernel
theorem dX11_findPairs_16 : decode cX11_findPairs 16 = .ok (.invokestatic 140, 3) := by decide +kernel
theorem dX11_findPairs_19 : decode cX11_findPairs 19 = .ok (.aload_n 0, 1) := by decide +kernel
theorem dX11_findPairs_20 : decode cX11_findPairs 20 = .ok (.getfield 49, 3) := by decide +kernel
theorem dX11_findPairs_23 : decode cX11_findPairs 23 = .ok (.iload_n 3, 1) := by decide +kernel
theorem dX11_findPairs_24 : decode cX11_findPairs 24 = .ok (.iconst (-1), 1) := by decide +kernel
theorem dX11_findPairs_25 : decode cX11_findPairs 25 = .ok (.iconst 0, 1) := by decide +kernel
theorem dX11_findPairs_26 : decode cX11_findPairs 26 = .ok (.invokevirtual 280, 3) := by decide +kernel
theorem dX11_findPairs_29 : decode cX11_findPairs 29 = .ok (.aload_n 0, 1) := by decide +kernel
theorem dX11_findPairs_30 : decode cX11_findPairs 30 = .ok (.getfield 58, 3) := by decide +kernel
theorem dX11_findPairs_33 : decode cX11_findPairs 33 = .ok (.iload_n 1, 1) := by decide +kernel
theorem dX11_findPairs_34 : decode cX11_findPairs 34 = .ok (.iload_n 2, 1) := by decide +kernel
theorem dX11_findPairs_35 : decode cX11_findPairs 35 = .ok (.invokevirtual 352, 3) := by decide +kernel
theorem dX11_findPairs_38 : decode cX11_findPairs 38 = .ok (.return_, 1) := by decide +kernel
theorem dX11_waysAreSound_0 : decode cX11_waysAreSound 0 = .ok (.aload_n 0, 1) := by decide +kernel
theorem dX11_waysAreSound_1 : decode cX11_waysAreSound 1 = .ok (.getfield 58, 3) := by decide +kernel
theorem dX11_waysAreSound_4 : decode cX11_waysAreSound 4 = .ok (.iconst 0, 1) := by decide +kernel
theorem dX11_waysAreSound_5 : decode cX11_waysAreSound 5 = .ok (.sipush 480, 3) := by decide +kernel
theorem dX11_waysAreSound_8 : decode cX11_waysAreSound 8 = .ok (.invokevirtual 283, 3) := by decide +kernel
theorem dX11_waysAreSound_11 : decode cX11_waysAreSound 11 = .ok (.aload_n 0, 1) := by decide +kernel
theorem dX11_waysAreSound_12 : decode cX11_waysAreSound 12 = .ok (.getfield 85, 3) := by decide +kernel
theorem dX11_waysAreSound_15 : decode cX11_waysAreSound 15 = .ok (.iconst 0, 1) := by decide +kernel
theorem dX11_waysAreSound_16 : decode cX11_waysAreSound 16 = .ok (.aaload, 1) := by decide +kernel
theorem dX11_waysAreSound_17 : decode cX11_waysAreSound 17 = .ok (.astore_n 1, 1) := by decide +kernel
theorem dX11_waysAreSound_18 : decode cX11_waysAreSound 18 = .ok (.iconst 0, 1) := by decide +kernel
theorem dX11_waysAreSound_19 : decode cX11_waysAreSound 19 = .ok (.istore_n 2, 1) := by decide +kernel
theorem dX11_waysAreSound_20 : decode cX11_waysAreSound 20 = .ok (.iload_n 2, 1) := by decide +kernel
theorem dX11_waysAreSound_21 : decode cX11_waysAreSound 21 = .ok (.aload_n 0, 1) := by decide +kernel
theorem dX11_waysAreSound_22 : decode cX11_waysAreSound 22 = .ok (.getfield 12, 3) := by decide +kernel
theorem dX11_waysAreSound_25 : decode cX11_waysAreSound 25 = .ok (.getfield 92, 3) := by decide +kernel
theorem dX11_waysAreSound_28 : decode cX11_waysAreSound 28 = .ok (.if_icmp .ge 23, 3) := by decide +kernel
theorem dX11_waysAreSound_31 : decode cX11_waysAreSound 31 = .ok (.aload_n 1, 1) := by decide +kernel
theorem dX11_waysAreSound_32 : decode cX11_waysAreSound 32 = .ok (.iload_n 2, 1) := by decide +kernel
theorem dX11_waysAreSound_33 : decode cX11_waysAreSound 33 = .ok (.aload_n 0, 1) := by decide +kernel
theorem dX11_waysAreSound_34 : decode cX11_waysAreSound 34 = .ok (.getfield 58, 3) := by decide +kernel
theorem dX11_waysAreSound_37 : decode cX11_waysAreSound 37 = .ok (.getfield 286, 3) := by decide +kernel
theorem dX11_waysAreSound_40 : decode cX11_waysAreSound 40 = .ok (.iload_n 2, 1) := by decide +kernel
theorem dX11_waysAreSound_41 : decode cX11_waysAreSound 41 = .ok (.invokevirtual 290, 3) := by decide +kernel
theorem dX11_waysAreSound_44 : decode cX11_waysAreSound 44 = .ok (.iastore, 1) := by decide +kernel
theorem dX11_waysAreSound_45 : decode cX11_waysAreSound 45 = .ok (.iinc 2 1, 3) := by decide +kernel
theorem dX11_waysAreSound_48 : decode cX11_waysAreSound 48 = .ok (.goto (-28), 3) := by decide +kernel
theorem dX11_waysAreSound_51 : decode cX11_waysAreSound 51 = .ok (.aload_n 0, 1) := by decide +kernel
theorem dX11_waysAreSound_52 : decode cX11_waysAreSound 52 = .ok (.getfield 58, 3) := by decide +kernel
theorem dX11_waysAreSound_55 : decode cX11_waysAreSound 55 = .ok (.iconst 0, 1) := by decide +kernel
theorem dX11_waysAreSound_56 : decode cX11_waysAreSound 56 = .ok (.sipush 480, 3) := by decide +kernel
theorem dX11_waysAreSound_59 : decode cX11_waysAreSound 59 = .ok (.invokevirtual 294, 3) := by decide +kernel
theorem dX11_waysAreSound_62 : decode cX11_waysAreSound 62 = .ok (.aload_n 0, 1) := by decide +kernel
theorem dX11_waysAreSound_63 : decode cX11_waysAreSound 63 = .ok (.getfield 65, 3) := by decide +kernel
theorem dX11_waysAreSound_66 : decode cX11_waysAreSound 66 = .ok (.iconst 0, 1) := by decide +kernel
theorem dX11_waysAreSound_67 : decode cX11_waysAreSound 67 = .ok (.sipush 480, 3) := by decide +kernel
theorem dX11_waysAreSound_70 : decode cX11_waysAreSound 70 = .ok (.invokevirtual 297, 3) := by decide +kernel
theorem dX11_waysAreSound_73 : decode cX11_waysAreSound 73 = .ok (.iconst 0, 1) := by decide +kernel
theorem dX11_waysAreSound_74 : decode cX11_waysAreSound 74 = .ok (.istore_n 2, 1) := by decide +kernel
theorem dX11_waysAreSound_75 : decode cX11_waysAreSound 75 = .ok (.iload_n 2, 1) := by decide +kernel
theorem dX11_waysAreSound_76 : decode cX11_waysAreSound 76 = .ok (.aload_n 0, 1) := by decide +kernel
theorem dX11_waysAreSound_77 : decode cX11_waysAreSound 77 = .ok (.getfield 12, 3) := by decide +kernel
theorem dX11_waysAreSound_80 : decode cX11_waysAreSound 80 = .ok (.getfield 92, 3) := by decide +kernel
theorem dX11_waysAreSound_83 : decode cX11_waysAreSound 83 = .ok (.if_icmp .ge 42, 3) := by decide +kernel
theorem dX11_waysAreSound_86 : decode cX11_waysAreSound 86 = .ok (.aload_n 0, 1) := by decide +kernel
theorem dX11_waysAreSound_87 : decode cX11_waysAreSound 87 = .ok (.getfield 58, 3) := by decide +kernel
theorem dX11_waysAreSound_90 : decode cX11_waysAreSound 90 = .ok (.getfield 286, 3) := by decide +kernel
theorem dX11_waysAreSound_93 : decode cX11_waysAreSound 93 = .ok (.iload_n 2, 1) := by decide +kernel
theorem dX11_waysAreSound_94 : decode cX11_waysAreSound 94 = .ok (.invokevirtual 290, 3) := by decide +kernel
theorem dX11_waysAreSound_97 : decode cX11_waysAreSound 97 = .ok (.aload_n 1, 1) := by decide +kernel
theorem dX11_waysAreSound_98 : decode cX11_waysAreSound 98 = .ok (.iload_n 2, 1) := by decide +kernel
theorem dX11_waysAreSound_99 : decode cX11_waysAreSound 99 = .ok (.iaload, 1) := by decide +kernel
theorem dX11_waysAreSound_100 : decode cX11_waysAreSound 100 = .ok (.if_icmp .ne 17, 3) := by decide +kernel
theorem dX11_waysAreSound_103 : decode cX11_waysAreSound 103 = .ok (.aload_n 0, 1) := by decide +kernel
theorem dX11_waysAreSound_104 : decode cX11_waysAreSound 104 = .ok (.getfield 65, 3) := by decide +kernel
theorem dX11_waysAreSound_107 : decode cX11_waysAreSound 107 = .ok (.iload_n 2, 1) := by decide +kernel
theorem dX11_waysAreSound_108 : decode cX11_waysAreSound 108 = .ok (.invokevirtual 300, 3) := by decide +kernel
theorem dX11_waysAreSound_111 : decode cX11_waysAreSound 111 = .ok (.aload_n 1, 1) := by decide +kernel
theorem dX11_waysAreSound_112 : decode cX11_waysAreSound 112 = .ok (.iload_n 2, 1) := by decide +kernel
theorem dX11_waysAreSound_113 : decode cX11_waysAreSound 113 = .ok (.iaload, 1) := by decide +kernel
theorem dX11_waysAreSound_114 : decode cX11_waysAreSound 114 = .ok (.if_icmp .eq 5, 3) := by decide +kernel
theorem dX11_waysAreSound_117 : decode cX11_waysAreSound 117 = .ok (.iconst 0, 1) := by decide +kernel
theorem dX11_waysAreSound_118 : decode cX11_waysAreSound 118 = .ok (.ireturn, 1) := by decide +kernel
theorem dX11_waysAreSound_119 : decode cX11_waysAreSound 119 = .ok (.iinc 2 1, 3) := by decide +kernel
theorem dX11_waysAreSound_122 : decode cX11_waysAreSound 122 = .ok (.goto (-47), 3) := by decide +kernel
theorem dX11_waysAreSound_125 : decode cX11_waysAreSound 125 = .ok (.iconst 0, 1) := by decide +kernel
theorem dX11_waysAreSound_126 : decode cX11_waysAreSound 126 = .ok (.istore_n 2, 1) := by decide +kernel
theorem dX11_waysAreSound_127 : decode cX11_waysAreSound 127 = .ok (.iload_n 2, 1) := by decide +kernel
theorem dX11_waysAreSound_128 : decode cX11_waysAreSound 128 = .ok (.aload_n 0, 1) := by decide +kernel
theorem dX11_waysAreSound_129 : decode cX11_waysAreSound 129 = .ok (.getfield 12, 3) := by decide +kernel
theorem dX11_waysAreSound_132 : decode cX11_waysAreSound 132 = .ok (.getfield 92, 3) := by decide +kernel
theorem dX11_waysAreSound_135 : decode cX11_waysAreSound 135 = .ok (.if_icmp .ge 31, 3) := by decide +kernel
theorem dX11_waysAreSound_138 : decode cX11_waysAreSound 138 = .ok (.aload_n 1, 1) := by decide +kernel
theorem dX11_waysAreSound_139 : decode cX11_waysAreSound 139 = .ok (.iload_n 2, 1) := by decide +kernel
theorem dX11_waysAreSound_140 : decode cX11_waysAreSound 140 = .ok (.iaload, 1) := by decide +kernel
theorem dX11_waysAreSound_141 : decode cX11_waysAreSound 141 = .ok (.ldc_w 420, 3) := by decide +kernel
theorem dX11_waysAreSound_144 : decode cX11_waysAreSound 144 = .ok (.if_icmp .ge 16, 3) := by decide +kernel
theorem dX11_waysAreSound_147 : decode cX11_waysAreSound 147 = .ok (.aload_n 0, 1) := by decide +kernel
theorem dX11_waysAreSound_148 : decode cX11_waysAreSound 148 = .ok (.iload_n 2, 1) := by decide +kernel
theorem dX11_waysAreSound_149 : decode cX11_waysAreSound 149 = .ok (.aload_n 1, 1) := by decide +kernel
theorem dX11_waysAreSound_150 : decode cX11_waysAreSound 150 = .ok (.iload_n 2, 1) := by decide +kernel
theorem dX11_waysAreSound_151 : decode cX11_waysAreSound 151 = .ok (.iaload, 1) := by decide +kernel
theorem dX11_waysAreSound_152 : decode cX11_waysAreSound 152 = .ok (.invokevirtual 483, 3) := by decide +kernel
theorem dX11_waysAreSound_155 : decode cX11_waysAreSound 155 = .ok (.ifCond .ne 5, 3) := by decide +kernel
theorem dX11_waysAreSound_158 : decode cX11_waysAreSound 158 = .ok (.iconst 0, 1) := by decide +kernel
theorem dX11_waysAreSound_159 : decode cX11_waysAreSound 159 = .ok (.ireturn, 1) := by decide +kernel
theorem dX11_waysAreSound_160 : decode cX11_waysAreSound 160 = .ok (.iinc 2 1, 3) := by decide +kernel
theorem dX11_waysAreSound_163 : decode cX11_waysAreSound 163 = .ok (.goto (-36), 3) := by decide +kernel
theorem dX11_waysAreSound_166 : decode cX11_waysAreSound 166 = .ok (.iconst 1, 1) := by decide +kernel
theorem dX11_waysAreSound_167 : decode cX11_waysAreSound 167 = .ok (.ireturn, 1) := by decide +kernel
theorem dX11_lastIsSound_0 : decode cX11_lastIsSound 0 = .ok (.aload_n 0, 1) := by decide +kernel
theorem dX11_lastIsSound_1 : decode cX11_lastIsSound 1 = .ok (.getfield 58, 3) := by decide +kernel
theorem dX11_lastIsSound_4 : decode cX11_lastIsSound 4 = .ok (.iconst 0, 1) := by decide +kernel
theorem dX11_lastIsSound_5 : decode cX11_lastIsSound 5 = .ok (.iload_n 1, 1) := by decide +kernel
theorem dX11_lastIsSound_6 : decode cX11_lastIsSound 6 = .ok (.iload_n 2, 1) := by decide +kernel
theorem dX11_lastIsSound_7 : decode cX11_lastIsSound 7 = .ok (.invokevirtual 303, 3) := by decide +kernel
theorem dX11_lastIsSound_10 : decode cX11_lastIsSound 10 = .ok (.istore_n 3, 1) := by decide +kernel
theorem dX11_lastIsSound_11 : decode cX11_lastIsSound 11 = .ok (.iload_n 3, 1) := by decide +kernel
theorem dX11_lastIsSound_12 : decode cX11_lastIsSound 12 = .ok (.ifCond .ge 5, 3) := by decide +kernel
theorem dX11_lastIsSound_15 : decode cX11_lastIsSound 15 = .ok (.iconst 0, 1) := by decide +kernel
theorem dX11_lastIsSound_16 : decode cX11_lastIsSound 16 = .ok (.ireturn, 1) := by decide +kernel
theorem dX11_lastIsSound_17 : decode cX11_lastIsSound 17 = .ok (.aload_n 0, 1) := by decide +kernel
theorem dX11_lastIsSound_18 : decode cX11_lastIsSound 18 = .ok (.getfield 58, 3) := by decide +kernel
theorem dX11_lastIsSound_21 : decode cX11_lastIsSound 21 = .ok (.iconst 0, 1) := by decide +kernel
theorem dX11_lastIsSound_22 : decode cX11_lastIsSound 22 = .ok (.iload_n 3, 1) := by decide +kernel
theorem dX11_lastIsSound_23 : decode cX11_lastIsSound 23 = .ok (.invokevirtual 283, 3) := by decide +kernel
theorem dX11_lastIsSound_26 : decode cX11_lastIsSound 26 = .ok (.aload_n 0, 1) := by decide +kernel
theorem dX11_lastIsSound_27 : decode cX11_lastIsSound 27 = .ok (.getfield 58, 3) := by decide +kernel
theorem dX11_lastIsSound_30 : decode cX11_lastIsSound 30 = .ok (.getfield 286, 3) := by decide +kernel
theorem dX11_lastIsSound_33 : decode cX11_lastIsSound 33 = .ok (.iload_n 1, 1) := by decide +kernel
theorem dX11_lastIsSound_34 : decode cX11_lastIsSound 34 = .ok (.invokevirtual 290, 3) := by decide +kernel
theorem dX11_lastIsSound_37 : decode cX11_lastIsSound 37 = .ok (.iload_n 2, 1) := by decide +kernel
theorem dX11_lastIsSound_38 : decode cX11_lastIsSound 38 = .ok (.if_icmp .gt 7, 3) := by decide +kernel
theorem dX11_lastIsSound_41 : decode cX11_lastIsSound 41 = .ok (.iconst 1, 1) := by decide +kernel
theorem dX11_lastIsSound_42 : decode cX11_lastIsSound 42 = .ok (.goto 4, 3) := by decide +kernel
theorem dX11_lastIsSound_45 : decode cX11_lastIsSound 45 = .ok (.iconst 0, 1) := by decide +kernel
theorem dX11_lastIsSound_46 : decode cX11_lastIsSound 46 = .ok (.istore 4, 2) := by decide +kernel
theorem dX11_lastIsSound_48 : decode cX11_lastIsSound 48 = .ok (.aload_n 0, 1) := by decide +kernel
theorem dX11_lastIsSound_49 : decode cX11_lastIsSound 49 = .ok (.getfield 58, 3) := by decide +kernel
theorem dX11_lastIsSound_52 : decode cX11_lastIsSound 52 = .ok (.iconst 0, 1) := by decide +kernel
theorem dX11_lastIsSound_53 : decode cX11_lastIsSound 53 = .ok (.iload_n 3, 1) := by decide +kernel
theorem dX11_lastIsSound_54 : decode cX11_lastIsSound 54 = .ok (.iconst 1, 1) := by decide +kernel
theorem dX11_lastIsSound_55 : decode cX11_lastIsSound 55 = .ok (.iadd, 1) := by decide +kernel
theorem dX11_lastIsSound_56 : decode cX11_lastIsSound 56 = .ok (.invokevirtual 283, 3) := by decide +kernel
theorem dX11_lastIsSound_59 : decode cX11_lastIsSound 59 = .ok (.iload 4, 2) := by decide +kernel
theorem dX11_lastIsSound_61 : decode cX11_lastIsSound 61 = .ok (.ifCond .eq 22, 3) := by decide +kernel
theorem dX11_lastIsSound_64 : decode cX11_lastIsSound 64 = .ok (.aload_n 0, 1) := by decide +kernel
theorem dX11_lastIsSound_65 : decode cX11_lastIsSound 65 = .ok (.getfield 58, 3) := by decide +kernel
theorem dX11_lastIsSound_68 : decode cX11_lastIsSound 68 = .ok (.getfield 286, 3) := by decide +kernel
theorem dX11_lastIsSound_71 : decode cX11_lastIsSound 71 = .ok (.iload_n 1, 1) := by decide +kernel
theorem dX11_lastIsSound_72 : decode cX11_lastIsSound 72 = .ok (.invokevirtual 290, 3) := by decide +kernel
theorem dX11_lastIsSound_75 : decode cX11_lastIsSound 75 = .ok (.iload_n 2, 1) := by decide +kernel
theorem dX11_lastIsSound_76 : decode cX11_lastIsSound 76 = .ok (.if_icmp .le 7, 3) := by decide +kernel
theorem dX11_lastIsSound_79 : decode cX11_lastIsSound 79 = .ok (.iconst 1, 1) := by decide +kernel
theorem dX11_lastIsSound_80 : decode cX11_lastIsSound 80 = .ok (.goto 4, 3) := by decide +kernel
theorem dX11_lastIsSound_83 : decode cX11_lastIsSound 83 = .ok (.iconst 0, 1) := by decide +kernel
theorem dX11_lastIsSound_84 : decode cX11_lastIsSound 84 = .ok (.ireturn, 1) := by decide +kernel
theorem dX11_pairsAreSound_0 : decode cX11_pairsAreSound 0 = .ok (.aload_n 0, 1) := by decide +kernel
theorem dX11_pairsAreSound_1 : decode cX11_pairsAreSound 1 = .ok (.getfield 58, 3) := by decide +kernel
theorem dX11_pairsAreSound_4 : decode cX11_pairsAreSound 4 = .ok (.iconst 0, 1) := by decide +kernel
theorem dX11_pairsAreSound_5 : decode cX11_pairsAreSound 5 = .ok (.iload_n 1, 1) := by decide +kernel
theorem dX11_pairsAreSound_6 : decode cX11_pairsAreSound 6 = .ok (.invokevirtual 352, 3) := by decide +kernel
theorem dX11_pairsAreSound_9 : decode cX11_pairsAreSound 9 = .ok (.iconst 1, 1) := by decide +kernel
theorem dX11_pairsAreSound_10 : decode cX11_pairsAreSound 10 = .ok (.istore_n 2, 1) := by decide +kernel
theorem dX11_pairsAreSound_11 : decode cX11_pairsAreSound 11 = .ok (.iload_n 2, 1) := by decide +kernel
theorem dX11_pairsAreSound_12 : decode cX11_pairsAreSound 12 = .ok (.aload_n 0, 1) := by decide +kernel
theorem dX11_pairsAreSound_13 : decode cX11_pairsAreSound 13 = .ok (.getfield 58, 3) := by decide +kernel
theorem dX11_pairsAreSound_16 : decode cX11_pairsAreSound 16 = .ok (.getfield 341, 3) := by decide +kernel
theorem dX11_pairsAreSound_19 : decode cX11_pairsAreSound 19 = .ok (.if_icmp .ge 67, 3) := by decide +kernel
theorem dX11_pairsAreSound_22 : decode cX11_pairsAreSound 22 = .ok (.aload_n 0, 1) := by decide +kernel
theorem dX11_pairsAreSound_23 : decode cX11_pairsAreSound 23 = .ok (.getfield 58, 3) := by decide +kernel
theorem dX11_pairsAreSound_26 : decode cX11_pairsAreSound 26 = .ok (.getfield 349, 3) := by decide +kernel
theorem dX11_pairsAreSound_29 : decode cX11_pairsAreSound 29 = .ok (.iload_n 2, 1) := by decide +kernel
theorem dX11_pairsAreSound_30 : decode cX11_pairsAreSound 30 = .ok (.iaload, 1) := by decide +kernel
theorem dX11_pairsAreSound_31 : decode cX11_pairsAreSound 31 = .ok (.aload_n 0, 1) := by decide +kernel
theorem dX11_pairsAreSound_32 : decode cX11_pairsAreSound 32 = .ok (.getfield 58, 3) := by decide +kernel
theorem dX11_pairsAreSound_35 : decode cX11_pairsAreSound 35 = .ok (.getfield 349, 3) := by decide +kernel
theorem dX11_pairsAreSound_38 : decode cX11_pairsAreSound 38 = .ok (.iload_n 2, 1) := by decide +kernel
theorem dX11_pairsAreSound_39 : decode cX11_pairsAreSound 39 = .ok (.iconst 1, 1) := by decide +kernel
theorem dX11_pairsAreSound_40 : decode cX11_pairsAreSound 40 = .ok (.isub, 1) := by decide +kernel
theorem dX11_pairsAreSound_41 : decode cX11_pairsAreSound 41 = .ok (.iaload, 1) := by decide +kernel
theorem dX11_pairsAreSound_42 : decode cX11_pairsAreSound 42 = .ok (.if_icmp .le 7, 3) := by decide +kernel
theorem dX11_pairsAreSound_45 : decode cX11_pairsAreSound 45 = .ok (.iconst 1, 1) := by decide +kernel
theorem dX11_pairsAreSound_46 : decode cX11_pairsAreSound 46 = .ok (.goto 4, 3) := by decide +kernel
theorem dX11_pairsAreSound_49 : decode cX11_pairsAreSound 49 = .ok (.iconst 0, 1) := by decide +kernel
theorem dX11_pairsAreSound_50 : decode cX11_pairsAreSound 50 = .ok (.istore_n 3, 1) := by decide +kernel
theorem dX11_pairsAreSound_51 : decode cX11_pairsAreSound 51 = .ok (.iload_n 3, 1) := by decide +kernel
theorem dX11_pairsAreSound_52 : decode cX11_pairsAreSound 52 = .ok (.ifCond .eq 26, 3) := by decide +kernel
theorem dX11_pairsAreSound_55 : decode cX11_pairsAreSound 55 = .ok (.aload_n 0, 1) := by decide +kernel
theorem dX11_pairsAreSound_56 : decode cX11_pairsAreSound 56 = .ok (.getfield 58, 3) := by decide +kernel
theorem dX11_pairsAreSound_59 : decode cX11_pairsAreSound 59 = .ok (.getfield 346, 3) := by decide +kernel
theorem dX11_pairsAreSound_62 : decode cX11_pairsAreSound 62 = .ok (.iload_n 2, 1) := by decide +kernel
theorem dX11_pairsAreSound_63 : decode cX11_pairsAreSound 63 = .ok (.iaload, 1) := by decide +kernel
theorem dX11_pairsAreSound_64 : decode cX11_pairsAreSound 64 = .ok (.aload_n 0, 1) := by decide +kernel
theorem dX11_pairsAreSound_65 : decode cX11_pairsAreSound 65 = .ok (.getfield 58, 3) := by decide +kernel
theorem dX11_pairsAreSound_68 : decode cX11_pairsAreSound 68 = .ok (.getfield 346, 3) := by decide +kernel
theorem dX11_pairsAreSound_71 : decode cX11_pairsAreSound 71 = .ok (.iload_n 2, 1) := by decide +kernel
theorem dX11_pairsAreSound_72 : decode cX11_pairsAreSound 72 = .ok (.iconst 1, 1) := by decide +kernel
theorem dX11_pairsAreSound_73 : decode cX11_pairsAreSound 73 = .ok (.isub, 1) := by decide +kernel
theorem dX11_pairsAreSound_74 : decode cX11_pairsAreSound 74 = .ok (.iaload, 1) := by decide +kernel
theorem dX11_pairsAreSound_75 : decode cX11_pairsAreSound 75 = .ok (.if_icmp .gt 5, 3) := by decide +kernel
theorem dX11_pairsAreSound_78 : decode cX11_pairsAreSound 78 = .ok (.iconst 0, 1) := by decide +kernel
theorem dX11_pairsAreSound_79 : decode cX11_pairsAreSound 79 = .ok (.ireturn, 1) := by decide +kernel
theorem dX11_pairsAreSound_80 : decode cX11_pairsAreSound 80 = .ok (.iinc 2 1, 3) := by decide +kernel
theorem dX11_pairsAreSound_83 : decode cX11_pairsAreSound 83 = .ok (.goto (-72), 3) := by decide +kernel
theorem dX11_pairsAreSound_86 : decode cX11_pairsAreSound 86 = .ok (.aload_n 0, 1) := by decide +kernel
theorem dX11_pairsAreSound_87 : decode cX11_pairsAreSound 87 = .ok (.getfield 58, 3) := by decide +kernel
theorem dX11_pairsAreSound_90 : decode cX11_pairsAreSound 90 = .ok (.sipush 480, 3) := by decide +kernel
theorem dX11_pairsAreSound_93 : decode cX11_pairsAreSound 93 = .ok (.invokevirtual 355, 3) := by decide +kernel
theorem dX11_pairsAreSound_96 : decode cX11_pairsAreSound 96 = .ok (.istore_n 2, 1) := by decide +kernel
theorem dX11_pairsAreSound_97 : decode cX11_pairsAreSound 97 = .ok (.aload_n 0, 1) := by decide +kernel
theorem dX11_pairsAreSound_98 : decode cX11_pairsAreSound 98 = .ok (.getfield 58, 3) := by decide +kernel
theorem dX11_pairsAreSound_101 : decode cX11_pairsAreSound 101 = .ok (.iconst 0, 1) := by decide +kernel
theorem dX11_pairsAreSound_102 : decode cX11_pairsAreSound 102 = .ok (.sipush 480, 3) := by decide +kernel
theorem dX11_pairsAreSound_105 : decode cX11_pairsAreSound 105 = .ok (.invokevirtual 283, 3) := by decide +kernel
theorem dX11_pairsAreSound_108 : decode cX11_pairsAreSound 108 = .ok (.iload_n 2, 1) := by decide +kernel
theorem dX11_pairsAreSound_109 : decode cX11_pairsAreSound 109 = .ok (.sipush 480, 3) := by decide +kernel
theorem dX11_pairsAreSound_112 : decode cX11_pairsAreSound 112 = .ok (.aload_n 0, 1) := by decide +kernel
theorem dX11_pairsAreSound_113 : decode cX11_pairsAreSound 113 = .ok (.getfield 12, 3) := by decide +kernel
theorem dX11_pairsAreSound_116 : decode cX11_pairsAreSound 116 = .ok (.getfield 125, 3) := by decide +kernel
theorem dX11_pairsAreSound_119 : decode cX11_pairsAreSound 119 = .ok (.iconst 0, 1) := by decide +kernel
theorem dX11_pairsAreSound_120 : decode cX11_pairsAreSound 120 = .ok (.aaload, 1) := by decide +kernel
theorem dX11_pairsAreSound_121 : decode cX11_pairsAreSound 121 = .ok (.iload_n 1, 1) := by decide +kernel
theorem dX11_pairsAreSound_122 : decode cX11_pairsAreSound 122 = .ok (.iaload, 1) := by decide +kernel
theorem dX11_pairsAreSound_123 : decode cX11_pairsAreSound 123 = .ok (.iadd, 1) := by decide +kernel
theorem dX11_pairsAreSound_124 : decode cX11_pairsAreSound 124 = .ok (.invokestatic 358, 3) := by decide +kernel
theorem dX11_pairsAreSound_127 : decode cX11_pairsAreSound 127 = .ok (.aload_n 0, 1) := by decide +kernel
theorem dX11_pairsAreSound_128 : decode cX11_pairsAreSound 128 = .ok (.getfield 58, 3) := by decide +kernel
theorem dX11_pairsAreSound_131 : decode cX11_pairsAreSound 131 = .ok (.getfield 286, 3) := by decide +kernel
theorem dX11_pairsAreSound_134 : decode cX11_pairsAreSound 134 = .ok (.iload_n 1, 1) := by decide +kernel
theorem dX11_pairsAreSound_135 : decode cX11_pairsAreSound 135 = .ok (.invokevirtual 290, 3) := by decide +kernel
theorem dX11_pairsAreSound_138 : decode cX11_pairsAreSound 138 = .ok (.if_icmp .eq 27, 3) := by decide +kernel
theorem dX11_pairsAreSound_141 : decode cX11_pairsAreSound 141 = .ok (.iload_n 2, 1) := by decide +kernel
theorem dX11_pairsAreSound_142 : decode cX11_pairsAreSound 142 = .ok (.ldc_w 420, 3) := by decide +kernel
theorem dX11_pairsAreSound_145 : decode cX11_pairsAreSound 145 = .ok (.if_icmp .lt 24, 3) := by decide +kernel
theorem dX11_pairsAreSound_148 : decode cX11_pairsAreSound 148 = .ok (.aload_n 0, 1) := by decide +kernel
theorem dX11_pairsAreSound_149 : decode cX11_pairsAreSound 149 = .ok (.getfield 58, 3) := by decide +kernel
theorem dX11_pairsAreSound_152 : decode cX11_pairsAreSound 152 = .ok (.getfield 286, 3) := by decide +kernel
theorem dX11_pairsAreSound_155 : decode cX11_pairsAreSound 155 = .ok (.iload_n 1, 1) := by decide +kernel
theorem dX11_pairsAreSound_156 : decode cX11_pairsAreSound 156 = .ok (.invokevirtual 290, 3) := by decide +kernel
theorem dX11_pairsAreSound_159 : decode cX11_pairsAreSound 159 = .ok (.ldc_w 420, 3) := by decide +kernel
theorem dX11_pairsAreSound_162 : decode cX11_pairsAreSound 162 = .ok (.if_icmp .lt 7, 3) := by decide +kernel
theorem dX11_pairsAreSound_165 : decode cX11_pairsAreSound 165 = .ok (.iconst 1, 1) := by decide +kernel
theorem dX11_pairsAreSound_166 : decode cX11_pairsAreSound 166 = .ok (.goto 4, 3) := by decide +kernel
theorem dX11_pairsAreSound_169 : decode cX11_pairsAreSound 169 = .ok (.iconst 0, 1) := by decide +kernel
theorem dX11_pairsAreSound_170 : decode cX11_pairsAreSound 170 = .ok (.ireturn, 1) := by decide +kernel
theorem dX11_sortUp_0 : decode cX11_sortUp 0 = .ok (.iconst 1, 1) := by decide +kernel
theorem dX11_sortUp_1 : decode cX11_sortUp 1 = .ok (.istore_n 3, 1) := by decide +kernel
theorem dX11_sortUp_2 : decode cX11_sortUp 2 = .ok (.iload_n 3, 1) := by decide +kernel
theorem dX11_sortUp_3 : decode cX11_sortUp 3 = .ok (.iload_n 2, 1) := by decide +kernel
theorem dX11_sortUp_4 : decode cX11_sortUp 4 = .ok (.if_icmp .ge 65, 3) := by decide +kernel
theorem dX11_sortUp_7 : decode cX11_sortUp 7 = .ok (.iconst 0, 1) := by decide +kernel
theorem dX11_sortUp_8 : decode cX11_sortUp 8 = .ok (.istore 4, 2) := by decide +kernel
theorem dX11_sortUp_10 : decode cX11_sortUp 10 = .ok (.iload 4, 2) := by decide +kernel
theorem dX11_sortUp_12 : decode cX11_sortUp 12 = .ok (.iload_n 2, 1) := by decide +kernel
theorem dX11_sortUp_13 : decode cX11_sortUp 13 = .ok (.if_icmp .ge 41, 3) := by decide +kernel
theorem dX11_sortUp_16 : decode cX11_sortUp 16 = .ok (.iload 4, 2) := by decide +kernel
theorem dX11_sortUp_18 : decode cX11_sortUp 18 = .ok (.iload_n 3, 1) := by decide +kernel
theorem dX11_sortUp_19 : decode cX11_sortUp 19 = .ok (.iadd, 1) := by decide +kernel
theorem dX11_sortUp_20 : decode cX11_sortUp 20 = .ok (.iload_n 2, 1) := by decide +kernel
theorem dX11_sortUp_21 : decode cX11_sortUp 21 = .ok (.invokestatic 358, 3) := by decide +kernel
theorem dX11_sortUp_24 : decode cX11_sortUp 24 = .ok (.istore 5, 2) := by decide +kernel
theorem dX11_sortUp_26 : decode cX11_sortUp 26 = .ok (.aload_n 0, 1) := by decide +kernel
theorem dX11_sortUp_27 : decode cX11_sortUp 27 = .ok (.aload_n 1, 1) := by decide +kernel
theorem dX11_sortUp_28 : decode cX11_sortUp 28 = .ok (.iload 4, 2) := by decide +kernel
theorem dX11_sortUp_30 : decode cX11_sortUp 30 = .ok (.iload 5, 2) := by decide +kernel
theorem dX11_sortUp_32 : decode cX11_sortUp 32 = .ok (.iload 5, 2) := by decide +kernel
theorem dX11_sortUp_34 : decode cX11_sortUp 34 = .ok (.iload_n 3, 1) := by decide +kernel
theorem dX11_sortUp_35 : decode cX11_sortUp 35 = .ok (.iadd, 1) := by decide +kernel
theorem dX11_sortUp_36 : decode cX11_sortUp 36 = .ok (.iload_n 2, 1) := by decide +kernel
theorem dX11_sortUp_37 : decode cX11_sortUp 37 = .ok (.invokestatic 358, 3) := by decide +kernel
theorem dX11_sortUp_40 : decode cX11_sortUp 40 = .ok (.invokestatic 486, 3) := by decide +kernel
theorem dX11_sortUp_43 : decode cX11_sortUp 43 = .ok (.iload 4, 2) := by decide +kernel
theorem dX11_sortUp_45 : decode cX11_sortUp 45 = .ok (.iconst 2, 1) := by decide +kernel
theorem dX11_sortUp_46 : decode cX11_sortUp 46 = .ok (.iload_n 3, 1) := by decide +kernel
theorem dX11_sortUp_47 : decode cX11_sortUp 47 = .ok (.imul, 1) := by decide +kernel
theorem dX11_sortUp_48 : decode cX11_sortUp 48 = .ok (.iadd, 1) := by decide +kernel
theorem dX11_sortUp_49 : decode cX11_sortUp 49 = .ok (.istore 4, 2) := by decide +kernel
theorem dX11_sortUp_51 : decode cX11_sortUp 51 = .ok (.goto (-41), 3) := by decide +kernel
theorem dX11_sortUp_54 : decode cX11_sortUp 54 = .ok (.aload_n 1, 1) := by decide +kernel
theorem dX11_sortUp_55 : decode cX11_sortUp 55 = .ok (.iconst 0, 1) := by decide +kernel
theorem dX11_sortUp_56 : decode cX11_sortUp 56 = .ok (.aload_n 0, 1) := by decide +kernel
theorem dX11_sortUp_57 : decode cX11_sortUp 57 = .ok (.iconst 0, 1) := by decide +kernel
theorem dX11_sortUp_58 : decode cX11_sortUp 58 = .ok (.iload_n 2, 1) := by decide +kernel
theorem dX11_sortUp_59 : decode cX11_sortUp 59 = .ok (.invokestatic 490, 3) := by decide +kernel
theorem dX11_sortUp_62 : decode cX11_sortUp 62 = .ok (.iload_n 3, 1) := by decide +kernel
theorem dX11_sortUp_63 : decode cX11_sortUp 63 = .ok (.iconst 2, 1) := by decide +kernel
theorem dX11_sortUp_64 : decode cX11_sortUp 64 = .ok (.imul, 1) := by decide +kernel
theorem dX11_sortUp_65 : decode cX11_sortUp 65 = .ok (.istore_n 3, 1) := by decide +kernel
theorem dX11_sortUp_66 : decode cX11_sortUp 66 = .ok (.goto (-64), 3) := by decide +kernel
theorem dX11_sortUp_69 : decode cX11_sortUp 69 = .ok (.return_, 1) := by decide +kernel
theorem dX11_merge_0 : decode cX11_merge 0 = .ok (.iload_n 2, 1) := by decide +kernel
theorem dX11_merge_1 : decode cX11_merge 1 = .ok (.istore 5, 2) := by decide +kernel
theorem dX11_merge_3 : decode cX11_merge 3 = .ok (.iload_n 3, 1) := by decide +kernel
theorem dX11_merge_4 : decode cX11_merge 4 = .ok (.istore 6, 2) := by decide +kernel
theorem dX11_merge_6 : decode cX11_merge 6 = .ok (.iload_n 2, 1) := by decide +kernel
theorem dX11_merge_7 : decode cX11_merge 7 = .ok (.istore 7, 2) := by decide +kernel
theorem dX11_merge_9 : decode cX11_merge 9 = .ok (.iload 7, 2) := by decide +kernel
theorem dX11_merge_11 : decode cX11_merge 11 = .ok (.iload 4, 2) := by decide +kernel
theorem dX11_merge_13 : decode cX11_merge 13 = .ok (.if_icmp .ge 58, 3) := by decide +kernel
theorem dX11_merge_16 : decode cX11_merge 16 = .ok (.iload 5, 2) := by decide +kernel
theorem dX11_merge_18 : decode cX11_merge 18 = .ok (.iload_n 3, 1) := by decide +kernel
theorem dX11_merge_19 : decode cX11_merge 19 = .ok (.if_icmp .ge 35, 3) := by decide +kernel
theorem dX11_merge_22 : decode cX11_merge 22 = .ok (.iload 6, 2) := by decide +kernel
theorem dX11_merge_24 : decode cX11_merge 24 = .ok (.iload 4, 2) := by decide +kernel
theorem dX11_merge_26 : decode cX11_merge 26 = .ok (.if_icmp .ge 14, 3) := by decide +kernel
theorem dX11_merge_29 : decode cX11_merge 29 = .ok (.aload_n 0, 1) := by decide +kernel
theorem dX11_merge_30 : decode cX11_merge 30 = .ok (.iload 5, 2) := by decide +kernel
theorem dX11_merge_32 : decode cX11_merge 32 = .ok (.iaload, 1) := by decide +kernel
theorem dX11_merge_33 : decode cX11_merge 33 = .ok (.aload_n 0, 1) := by decide +kernel
theorem dX11_merge_34 : decode cX11_merge 34 = .ok (.iload 6, 2) := by decide +kernel
theorem dX11_merge_36 : decode cX11_merge 36 = .ok (.iaload, 1) := by decide +kernel
theorem dX11_merge_37 : decode cX11_merge 37 = .ok (.if_icmp .gt 17, 3) := by decide +kernel
theorem dX11_merge_40 : decode cX11_merge 40 = .ok (.aload_n 1, 1) := by decide +kernel
theorem dX11_merge_41 : decode cX11_merge 41 = .ok (.iload 7, 2) := by decide +kernel
theorem dX11_merge_43 : decode cX11_merge 43 = .ok (.aload_n 0, 1) := by decide +kernel
theorem dX11_merge_44 : decode cX11_merge 44 = .ok (.iload 5, 2) := by decide +kernel
theorem dX11_merge_46 : decode cX11_merge 46 = .ok (.iaload, 1) := by decide +kernel
theorem dX11_merge_47 : decode cX11_merge 47 = .ok (.iastore, 1) := by decide +kernel
theorem dX11_merge_48 : decode cX11_merge 48 = .ok (.iinc 5 1, 3) := by decide +kernel
theorem dX11_merge_51 : decode cX11_merge 51 = .ok (.goto 14, 3) := by decide +kernel
theorem dX11_merge_54 : decode cX11_merge 54 = .ok (.aload_n 1, 1) := by decide +kernel
theorem dX11_merge_55 : decode cX11_merge 55 = .ok (.iload 7, 2) := by decide +kernel
theorem dX11_merge_57 : decode cX11_merge 57 = .ok (.aload_n 0, 1) := by decide +kernel
theorem dX11_merge_58 : decode cX11_merge 58 = .ok (.iload 6, 2) := by decide +kernel
theorem dX11_merge_60 : decode cX11_merge 60 = .ok (.iaload, 1) := by decide +kernel
theorem dX11_merge_61 : decode cX11_merge 61 = .ok (.iastore, 1) := by decide +kernel
theorem dX11_merge_62 : decode cX11_merge 62 = .ok (.iinc 6 1, 3) := by decide +kernel
theorem dX11_merge_65 : decode cX11_merge 65 = .ok (.iinc 7 1, 3) := by decide +kernel
theorem dX11_merge_68 : decode cX11_merge 68 = .ok (.goto (-59), 3) := by decide +kernel
theorem dX11_merge_71 : decode cX11_merge 71 = .ok (.return_, 1) := by decide +kernel
