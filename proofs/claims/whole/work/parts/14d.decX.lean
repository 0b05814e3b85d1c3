theorem dX1_init_0 : decode cX1_init 0 = .ok (.aload_n 0, 1) := by decide +kernel
theorem dX1_init_1 : decode cX1_init 1 = .ok (.invokespecial 3, 3) := by decide +kernel
theorem dX1_init_4 : decode cX1_init 4 = .ok (.aload_n 0, 1) := by decide +kernel
theorem dX1_init_5 : decode cX1_init 5 = .ok (.bipush 10, 2) := by decide +kernel
theorem dX1_init_7 : decode cX1_init 7 = .ok (.newarray .int, 2) := by decide +kernel
theorem dX1_init_9 : decode cX1_init 9 = .ok (.putfield 9, 3) := by decide +kernel
theorem dX1_init_12 : decode cX1_init 12 = .ok (.aload_n 0, 1) := by decide +kernel
theorem dX1_init_13 : decode cX1_init 13 = .ok (.bipush 10, 2) := by decide +kernel
theorem dX1_init_15 : decode cX1_init 15 = .ok (.newarray .int, 2) := by decide +kernel
theorem dX1_init_17 : decode cX1_init 17 = .ok (.putfield 15, 3) := by decide +kernel
theorem dX1_init_20 : decode cX1_init 20 = .ok (.aload_n 0, 1) := by decide +kernel
theorem dX1_init_21 : decode cX1_init 21 = .ok (.bipush 10, 2) := by decide +kernel
theorem dX1_init_23 : decode cX1_init 23 = .ok (.newarray .boolean, 2) := by decide +kernel
theorem dX1_init_25 : decode cX1_init 25 = .ok (.putfield 18, 3) := by decide +kernel
theorem dX1_init_28 : decode cX1_init 28 = .ok (.aload_n 0, 1) := by decide +kernel
theorem dX1_init_29 : decode cX1_init 29 = .ok (.bipush 10, 2) := by decide +kernel
theorem dX1_init_31 : decode cX1_init 31 = .ok (.newarray .boolean, 2) := by decide +kernel
theorem dX1_init_33 : decode cX1_init 33 = .ok (.putfield 22, 3) := by decide +kernel
theorem dX1_init_36 : decode cX1_init 36 = .ok (.return_, 1) := by decide +kernel
theorem dX1_begin_0 : decode cX1_begin 0 = .ok (.iconst 0, 1) := by decide +kernel
theorem dX1_begin_1 : decode cX1_begin 1 = .ok (.istore_n 3, 1) := by decide +kernel
theorem dX1_begin_2 : decode cX1_begin 2 = .ok (.iload_n 3, 1) := by decide +kernel
theorem dX1_begin_3 : decode cX1_begin 3 = .ok (.bipush 10, 2) := by decide +kernel
theorem dX1_begin_5 : decode cX1_begin 5 = .ok (.if_icmp .ge 39, 3) := by decide +kernel
theorem dX1_begin_8 : decode cX1_begin 8 = .ok (.aload_n 0, 1) := by decide +kernel
theorem dX1_begin_9 : decode cX1_begin 9 = .ok (.getfield 9, 3) := by decide +kernel
theorem dX1_begin_12 : decode cX1_begin 12 = .ok (.iload_n 3, 1) := by decide +kernel
theorem dX1_begin_13 : decode cX1_begin 13 = .ok (.ldc 25, 2) := by decide +kernel
theorem dX1_begin_15 : decode cX1_begin 15 = .ok (.iastore, 1) := by decide +kernel
theorem dX1_begin_16 : decode cX1_begin 16 = .ok (.aload_n 0, 1) := by decide +kernel
theorem dX1_begin_17 : decode cX1_begin 17 = .ok (.getfield 15, 3) := by decide +kernel
theorem dX1_begin_20 : decode cX1_begin 20 = .ok (.iload_n 3, 1) := by decide +kernel
theorem dX1_begin_21 : decode cX1_begin 21 = .ok (.ldc 25, 2) := by decide +kernel
theorem dX1_begin_23 : decode cX1_begin 23 = .ok (.iastore, 1) := by decide +kernel
theorem dX1_begin_24 : decode cX1_begin 24 = .ok (.aload_n 0, 1) := by decide +kernel
theorem dX1_begin_25 : decode cX1_begin 25 = .ok (.getfield 18, 3) := by decide +kernel
theorem dX1_begin_28 : decode cX1_begin 28 = .ok (.iload_n 3, 1) := by decide +kernel
theorem dX1_begin_29 : decode cX1_begin 29 = .ok (.iconst 0, 1) := by decide +kernel
theorem dX1_begin_30 : decode cX1_begin 30 = .ok (.bastore, 1) := by decide +kernel
theorem dX1_begin_31 : decode cX1_begin 31 = .ok (.aload_n 0, 1) := by decide +kernel
theorem dX1_begin_32 : decode cX1_begin 32 = .ok (.getfield 22, 3) := by decide +kernel
theorem dX1_begin_35 : decode cX1_begin 35 = .ok (.iload_n 3, 1) := by decide +kernel
theorem dX1_begin_36 : decode cX1_begin 36 = .ok (.iconst 0, 1) := by decide +kernel
theorem dX1_begin_37 : decode cX1_begin 37 = .ok (.bastore, 1) := by decide +kernel
theorem dX1_begin_38 : decode cX1_begin 38 = .ok (.iinc 3 1, 3) := by decide +kernel
theorem dX1_begin_41 : decode cX1_begin 41 = .ok (.goto (-39), 3) := by decide +kernel
theorem dX1_begin_44 : decode cX1_begin 44 = .ok (.aload_n 0, 1) := by decide +kernel
theorem dX1_begin_45 : decode cX1_begin 45 = .ok (.getfield 9, 3) := by decide +kernel
theorem dX1_begin_48 : decode cX1_begin 48 = .ok (.iload_n 1, 1) := by decide +kernel
theorem dX1_begin_49 : decode cX1_begin 49 = .ok (.iload_n 2, 1) := by decide +kernel
theorem dX1_begin_50 : decode cX1_begin 50 = .ok (.iastore, 1) := by decide +kernel
theorem dX1_begin_51 : decode cX1_begin 51 = .ok (.aload_n 0, 1) := by decide +kernel
theorem dX1_begin_52 : decode cX1_begin 52 = .ok (.getfield 15, 3) := by decide +kernel
theorem dX1_begin_55 : decode cX1_begin 55 = .ok (.iload_n 1, 1) := by decide +kernel
theorem dX1_begin_56 : decode cX1_begin 56 = .ok (.iload_n 2, 1) := by decide +kernel
theorem dX1_begin_57 : decode cX1_begin 57 = .ok (.iastore, 1) := by decide +kernel
theorem dX1_begin_58 : decode cX1_begin 58 = .ok (.return_, 1) := by decide +kernel
theorem dX1_searchEarliest_0 : decode cX1_searchEarliest 0 = .ok (.aload_n 0, 1) := by decide +kernel
theorem dX1_searchEarliest_1 : decode cX1_searchEarliest 1 = .ok (.iload_n 2, 1) := by decide +kernel
theorem dX1_searchEarliest_2 : decode cX1_searchEarliest 2 = .ok (.iload_n 3, 1) := by decide +kernel
theorem dX1_searchEarliest_3 : decode cX1_searchEarliest 3 = .ok (.invokevirtual 26, 3) := by decide +kernel
theorem dX1_searchEarliest_6 : decode cX1_searchEarliest 6 = .ok (.iconst 0, 1) := by decide +kernel
theorem dX1_searchEarliest_7 : decode cX1_searchEarliest 7 = .ok (.istore 4, 2) := by decide +kernel
theorem dX1_searchEarliest_9 : decode cX1_searchEarliest 9 = .ok (.iload 4, 2) := by decide +kernel
theorem dX1_searchEarliest_11 : decode cX1_searchEarliest 11 = .ok (.bipush 20, 2) := by decide +kernel
theorem dX1_searchEarliest_13 : decode cX1_searchEarliest 13 = .ok (.if_icmp .ge 120, 3) := by decide +kernel
theorem dX1_searchEarliest_16 : decode cX1_searchEarliest 16 = .ok (.aload_n 0, 1) := by decide +kernel
theorem dX1_searchEarliest_17 : decode cX1_searchEarliest 17 = .ok (.getfield 9, 3) := by decide +kernel
theorem dX1_searchEarliest_20 : decode cX1_searchEarliest 20 = .ok (.aload_n 0, 1) := by decide +kernel
theorem dX1_searchEarliest_21 : decode cX1_searchEarliest 21 = .ok (.getfield 18, 3) := by decide +kernel
theorem dX1_searchEarliest_24 : decode cX1_searchEarliest 24 = .ok (.aload_n 1, 1) := by decide +kernel
theorem dX1_searchEarliest_25 : decode cX1_searchEarliest 25 = .ok (.getfield 30, 3) := by decide +kernel
theorem dX1_searchEarliest_28 : decode cX1_searchEarliest 28 = .ok (.invokestatic 36, 3) := by decide +kernel
theorem dX1_searchEarliest_31 : decode cX1_searchEarliest 31 = .ok (.istore 5, 2) := by decide +kernel
theorem dX1_searchEarliest_33 : decode cX1_searchEarliest 33 = .ok (.aload_n 0, 1) := by decide +kernel
theorem dX1_searchEarliest_34 : decode cX1_searchEarliest 34 = .ok (.getfield 15, 3) := by decide +kernel
theorem dX1_searchEarliest_37 : decode cX1_searchEarliest 37 = .ok (.aload_n 0, 1) := by decide +kernel
theorem dX1_searchEarliest_38 : decode cX1_searchEarliest 38 = .ok (.getfield 22, 3) := by decide +kernel
theorem dX1_searchEarliest_41 : decode cX1_searchEarliest 41 = .ok (.aload_n 1, 1) := by decide +kernel
theorem dX1_searchEarliest_42 : decode cX1_searchEarliest 42 = .ok (.getfield 30, 3) := by decide +kernel
theorem dX1_searchEarliest_45 : decode cX1_searchEarliest 45 = .ok (.invokestatic 36, 3) := by decide +kernel
theorem dX1_searchEarliest_48 : decode cX1_searchEarliest 48 = .ok (.istore 6, 2) := by decide +kernel
theorem dX1_searchEarliest_50 : decode cX1_searchEarliest 50 = .ok (.iload 5, 2) := by decide +kernel
theorem dX1_searchEarliest_52 : decode cX1_searchEarliest 52 = .ok (.iconst (-1), 1) := by decide +kernel
theorem dX1_searchEarliest_53 : decode cX1_searchEarliest 53 = .ok (.if_icmp .ne 10, 3) := by decide +kernel
theorem dX1_searchEarliest_56 : decode cX1_searchEarliest 56 = .ok (.iload 6, 2) := by decide +kernel
theorem dX1_searchEarliest_58 : decode cX1_searchEarliest 58 = .ok (.iconst (-1), 1) := by decide +kernel
theorem dX1_searchEarliest_59 : decode cX1_searchEarliest 59 = .ok (.if_icmp .ne 4, 3) := by decide +kernel
theorem dX1_searchEarliest_62 : decode cX1_searchEarliest 62 = .ok (.return_, 1) := by decide +kernel
theorem dX1_searchEarliest_63 : decode cX1_searchEarliest 63 = .ok (.iload 6, 2) := by decide +kernel
theorem dX1_searchEarliest_65 : decode cX1_searchEarliest 65 = .ok (.iconst (-1), 1) := by decide +kernel
theorem dX1_searchEarliest_66 : decode cX1_searchEarliest 66 = .ok (.if_icmp .eq 26, 3) := by decide +kernel
theorem dX1_searchEarliest_69 : decode cX1_searchEarliest 69 = .ok (.iload 5, 2) := by decide +kernel
theorem dX1_searchEarliest_71 : decode cX1_searchEarliest 71 = .ok (.iconst (-1), 1) := by decide +kernel
theorem dX1_searchEarliest_72 : decode cX1_searchEarliest 72 = .ok (.if_icmp .eq 39, 3) := by decide +kernel
theorem dX1_searchEarliest_75 : decode cX1_searchEarliest 75 = .ok (.aload_n 0, 1) := by decide +kernel
theorem dX1_searchEarliest_76 : decode cX1_searchEarliest 76 = .ok (.getfield 9, 3) := by decide +kernel
theorem dX1_searchEarliest_79 : decode cX1_searchEarliest 79 = .ok (.iload 5, 2) := by decide +kernel
theorem dX1_searchEarliest_81 : decode cX1_searchEarliest 81 = .ok (.iaload, 1) := by decide +kernel
theorem dX1_searchEarliest_82 : decode cX1_searchEarliest 82 = .ok (.aload_n 0, 1) := by decide +kernel
theorem dX1_searchEarliest_83 : decode cX1_searchEarliest 83 = .ok (.getfield 15, 3) := by decide +kernel
theorem dX1_searchEarliest_86 : decode cX1_searchEarliest 86 = .ok (.iload 6, 2) := by decide +kernel
theorem dX1_searchEarliest_88 : decode cX1_searchEarliest 88 = .ok (.iaload, 1) := by decide +kernel
theorem dX1_searchEarliest_89 : decode cX1_searchEarliest 89 = .ok (.if_icmp .gt 22, 3) := by decide +kernel
theorem dX1_searchEarliest_92 : decode cX1_searchEarliest 92 = .ok (.aload_n 0, 1) := by decide +kernel
theorem dX1_searchEarliest_93 : decode cX1_searchEarliest 93 = .ok (.getfield 18, 3) := by decide +kernel
theorem dX1_searchEarliest_96 : decode cX1_searchEarliest 96 = .ok (.iload 5, 2) := by decide +kernel
theorem dX1_searchEarliest_98 : decode cX1_searchEarliest 98 = .ok (.iconst 1, 1) := by decide +kernel
theorem dX1_searchEarliest_99 : decode cX1_searchEarliest 99 = .ok (.bastore, 1) := by decide +kernel
theorem dX1_searchEarliest_100 : decode cX1_searchEarliest 100 = .ok (.aload_n 0, 1) := by decide +kernel
theorem dX1_searchEarliest_101 : decode cX1_searchEarliest 101 = .ok (.aload_n 1, 1) := by decide +kernel
theorem dX1_searchEarliest_102 : decode cX1_searchEarliest 102 = .ok (.iload 5, 2) := by decide +kernel
theorem dX1_searchEarliest_104 : decode cX1_searchEarliest 104 = .ok (.invokevirtual 40, 3) := by decide +kernel
theorem dX1_searchEarliest_107 : decode cX1_searchEarliest 107 = .ok (.pop, 1) := by decide +kernel
theorem dX1_searchEarliest_108 : decode cX1_searchEarliest 108 = .ok (.goto 19, 3) := by decide +kernel
theorem dX1_searchEarliest_111 : decode cX1_searchEarliest 111 = .ok (.aload_n 0, 1) := by decide +kernel
theorem dX1_searchEarliest_112 : decode cX1_searchEarliest 112 = .ok (.getfield 22, 3) := by decide +kernel
theorem dX1_searchEarliest_115 : decode cX1_searchEarliest 115 = .ok (.iload 6, 2) := by decide +kernel
theorem dX1_searchEarliest_117 : decode cX1_searchEarliest 117 = .ok (.iconst 1, 1) := by decide +kernel
theorem dX1_searchEarliest_118 : decode cX1_searchEarliest 118 = .ok (.bastore, 1) := by decide +kernel
theorem dX1_searchEarliest_119 : decode cX1_searchEarliest 119 = .ok (.aload_n 0, 1) := by decide +kernel
theorem dX1_searchEarliest_120 : decode cX1_searchEarliest 120 = .ok (.aload_n 1, 1) := by decide +kernel
theorem dX1_searchEarliest_121 : decode cX1_searchEarliest 121 = .ok (.iload 6, 2) := by decide +kernel
theorem dX1_searchEarliest_123 : decode cX1_searchEarliest 123 = .ok (.invokevirtual 44, 3) := by decide +kernel
theorem dX1_searchEarliest_126 : decode cX1_searchEarliest 126 = .ok (.pop, 1) := by decide +kernel
theorem dX1_searchEarliest_127 : decode cX1_searchEarliest 127 = .ok (.iinc 4 1, 3) := by decide +kernel
theorem dX1_searchEarliest_130 : decode cX1_searchEarliest 130 = .ok (.goto (-121), 3) := by decide +kernel
theorem dX1_searchEarliest_133 : decode cX1_searchEarliest 133 = .ok (.return_, 1) := by decide +kernel
theorem dX1_searchRounds_0 : decode cX1_searchRounds 0 = .ok (.aload_n 0, 1) := by decide +kernel
theorem dX1_searchRounds_1 : decode cX1_searchRounds 1 = .ok (.iload_n 2, 1) := by decide +kernel
theorem dX1_searchRounds_2 : decode cX1_searchRounds 2 = .ok (.iload_n 3, 1) := by decide +kernel
theorem dX1_searchRounds_3 : decode cX1_searchRounds 3 = .ok (.invokevirtual 26, 3) := by decide +kernel
theorem dX1_searchRounds_6 : decode cX1_searchRounds 6 = .ok (.iconst 1, 1) := by decide +kernel
theorem dX1_searchRounds_7 : decode cX1_searchRounds 7 = .ok (.istore 4, 2) := by decide +kernel
theorem dX1_searchRounds_9 : decode cX1_searchRounds 9 = .ok (.iconst 0, 1) := by decide +kernel
theorem dX1_searchRounds_10 : decode cX1_searchRounds 10 = .ok (.istore 5, 2) := by decide +kernel
theorem dX1_searchRounds_12 : decode cX1_searchRounds 12 = .ok (.iload 5, 2) := by decide +kernel
theorem dX1_searchRounds_14 : decode cX1_searchRounds 14 = .ok (.bipush 20, 2) := by decide +kernel
theorem dX1_searchRounds_16 : decode cX1_searchRounds 16 = .ok (.if_icmp .gt 75, 3) := by decide +kernel
theorem dX1_searchRounds_19 : decode cX1_searchRounds 19 = .ok (.iload 4, 2) := by decide +kernel
theorem dX1_searchRounds_21 : decode cX1_searchRounds 21 = .ok (.ifCond .eq 70, 3) := by decide +kernel
theorem dX1_searchRounds_24 : decode cX1_searchRounds 24 = .ok (.iconst 0, 1) := by decide +kernel
theorem dX1_searchRounds_25 : decode cX1_searchRounds 25 = .ok (.istore 4, 2) := by decide +kernel
theorem dX1_searchRounds_27 : decode cX1_searchRounds 27 = .ok (.iconst 0, 1) := by decide +kernel
theorem dX1_searchRounds_28 : decode cX1_searchRounds 28 = .ok (.istore 6, 2) := by decide +kernel
theorem dX1_searchRounds_30 : decode cX1_searchRounds 30 = .ok (.iload 6, 2) := by decide +kernel
theorem dX1_searchRounds_32 : decode cX1_searchRounds 32 = .ok (.aload_n 1, 1) := by decide +kernel
theorem dX1_searchRounds_33 : decode cX1_searchRounds 33 = .ok (.getfield 30, 3) := by decide +kernel
theorem dX1_searchRounds_36 : decode cX1_searchRounds 36 = .ok (.if_icmp .ge 49, 3) := by decide +kernel
theorem dX1_searchRounds_39 : decode cX1_searchRounds 39 = .ok (.aload_n 0, 1) := by decide +kernel
theorem dX1_searchRounds_40 : decode cX1_searchRounds 40 = .ok (.aload_n 1, 1) := by decide +kernel
theorem dX1_searchRounds_41 : decode cX1_searchRounds 41 = .ok (.iload 6, 2) := by decide +kernel
theorem dX1_searchRounds_43 : decode cX1_searchRounds 43 = .ok (.invokevirtual 40, 3) := by decide +kernel
theorem dX1_searchRounds_46 : decode cX1_searchRounds 46 = .ok (.istore 7, 2) := by decide +kernel
theorem dX1_searchRounds_48 : decode cX1_searchRounds 48 = .ok (.aload_n 0, 1) := by decide +kernel
theorem dX1_searchRounds_49 : decode cX1_searchRounds 49 = .ok (.aload_n 1, 1) := by decide +kernel
theorem dX1_searchRounds_50 : decode cX1_searchRounds 50 = .ok (.iload 6, 2) := by decide +kernel
theorem dX1_searchRounds_52 : decode cX1_searchRounds 52 = .ok (.invokevirtual 44, 3) := by decide +kernel
theorem dX1_searchRounds_55 : decode cX1_searchRounds 55 = .ok (.istore 8, 2) := by decide +kernel
theorem dX1_searchRounds_57 : decode cX1_searchRounds 57 = .ok (.iload 4, 2) := by decide +kernel
theorem dX1_searchRounds_59 : decode cX1_searchRounds 59 = .ok (.ifCond .ne 13, 3) := by decide +kernel
theorem dX1_searchRounds_62 : decode cX1_searchRounds 62 = .ok (.iload 7, 2) := by decide +kernel
theorem dX1_searchRounds_64 : decode cX1_searchRounds 64 = .ok (.ifCond .ne 8, 3) := by decide +kernel
theorem dX1_searchRounds_67 : decode cX1_searchRounds 67 = .ok (.iload 8, 2) := by decide +kernel
theorem dX1_searchRounds_69 : decode cX1_searchRounds 69 = .ok (.ifCond .eq 7, 3) := by decide +kernel
theorem dX1_searchRounds_72 : decode cX1_searchRounds 72 = .ok (.iconst 1, 1) := by decide +kernel
theorem dX1_searchRounds_73 : decode cX1_searchRounds 73 = .ok (.goto 4, 3) := by decide +kernel
theorem dX1_searchRounds_76 : decode cX1_searchRounds 76 = .ok (.iconst 0, 1) := by decide +kernel
theorem dX1_searchRounds_77 : decode cX1_searchRounds 77 = .ok (.istore 4, 2) := by decide +kernel
theorem dX1_searchRounds_79 : decode cX1_searchRounds 79 = .ok (.iinc 6 1, 3) := by decide +kernel
theorem dX1_searchRounds_82 : decode cX1_searchRounds 82 = .ok (.goto (-52), 3) := by decide +kernel
theorem dX1_searchRounds_85 : decode cX1_searchRounds 85 = .ok (.iinc 5 1, 3) := by decide +kernel
theorem dX1_searchRounds_88 : decode cX1_searchRounds 88 = .ok (.goto (-76), 3) := by decide +kernel
theorem dX1_searchRounds_91 : decode cX1_searchRounds 91 = .ok (.return_, 1) := by decide +kernel
theorem dX1_earliest_0 : decode cX1_earliest 0 = .ok (.iconst (-1), 1) := by decide +kernel
theorem dX1_earliest_1 : decode cX1_earliest 1 = .ok (.istore_n 3, 1) := by decide +kernel
theorem dX1_earliest_2 : decode cX1_earliest 2 = .ok (.iconst 0, 1) := by decide +kernel
theorem dX1_earliest_3 : decode cX1_earliest 3 = .ok (.istore 4, 2) := by decide +kernel
theorem dX1_earliest_5 : decode cX1_earliest 5 = .ok (.iload 4, 2) := by decide +kernel
theorem dX1_earliest_7 : decode cX1_earliest 7 = .ok (.iload_n 2, 1) := by decide +kernel
theorem dX1_earliest_8 : decode cX1_earliest 8 = .ok (.if_icmp .ge 55, 3) := by decide +kernel
theorem dX1_earliest_11 : decode cX1_earliest 11 = .ok (.aload_n 1, 1) := by decide +kernel
theorem dX1_earliest_12 : decode cX1_earliest 12 = .ok (.iload 4, 2) := by decide +kernel
theorem dX1_earliest_14 : decode cX1_earliest 14 = .ok (.baload, 1) := by decide +kernel
theorem dX1_earliest_15 : decode cX1_earliest 15 = .ok (.ifCond .ne 16, 3) := by decide +kernel
theorem dX1_earliest_18 : decode cX1_earliest 18 = .ok (.aload_n 0, 1) := by decide +kernel
theorem dX1_earliest_19 : decode cX1_earliest 19 = .ok (.iload 4, 2) := by decide +kernel
theorem dX1_earliest_21 : decode cX1_earliest 21 = .ok (.iaload, 1) := by decide +kernel
theorem dX1_earliest_22 : decode cX1_earliest 22 = .ok (.ldc 25, 2) := by decide +kernel
theorem dX1_earliest_24 : decode cX1_earliest 24 = .ok (.if_icmp .ge 7, 3) := by decide +kernel
theorem dX1_earliest_27 : decode cX1_earliest 27 = .ok (.iconst 1, 1) := by decide +kernel
theorem dX1_earliest_28 : decode cX1_earliest 28 = .ok (.goto 4, 3) := by decide +kernel
theorem dX1_earliest_31 : decode cX1_earliest 31 = .ok (.iconst 0, 1) := by decide +kernel
theorem dX1_earliest_32 : decode cX1_earliest 32 = .ok (.istore 5, 2) := by decide +kernel
theorem dX1_earliest_34 : decode cX1_earliest 34 = .ok (.iload 5, 2) := by decide +kernel
theorem dX1_earliest_36 : decode cX1_earliest 36 = .ok (.ifCond .eq 21, 3) := by decide +kernel
theorem dX1_earliest_39 : decode cX1_earliest 39 = .ok (.iload_n 3, 1) := by decide +kernel
theorem dX1_earliest_40 : decode cX1_earliest 40 = .ok (.iconst (-1), 1) := by decide +kernel
theorem dX1_earliest_41 : decode cX1_earliest 41 = .ok (.if_icmp .eq 13, 3) := by decide +kernel
theorem dX1_earliest_44 : decode cX1_earliest 44 = .ok (.aload_n 0, 1) := by decide +kernel
theorem dX1_earliest_45 : decode cX1_earliest 45 = .ok (.iload 4, 2) := by decide +kernel
theorem dX1_earliest_47 : decode cX1_earliest 47 = .ok (.iaload, 1) := by decide +kernel
theorem dX1_earliest_48 : decode cX1_earliest 48 = .ok (.aload_n 0, 1) := by decide +kernel
theorem dX1_earliest_49 : decode cX1_earliest 49 = .ok (.iload_n 3, 1) := by decide +kernel
theorem dX1_earliest_50 : decode cX1_earliest 50 = .ok (.iaload, 1) := by decide +kernel
theorem dX1_earliest_51 : decode cX1_earliest 51 = .ok (.if_icmp .ge 6, 3) := by decide +kernel
theorem dX1_earliest_54 : decode cX1_earliest 54 = .ok (.iload 4, 2) := by decide +kernel
theorem dX1_earliest_56 : decode cX1_earliest 56 = .ok (.istore_n 3, 1) := by decide +kernel
theorem dX1_earliest_57 : decode cX1_earliest 57 = .ok (.iinc 4 1, 3) := by decide +kernel
theorem dX1_earliest_60 : decode cX1_earliest 60 = .ok (.goto (-55), 3) := by decide +kernel
theorem dX1_earliest_63 : decode cX1_earliest 63 = .ok (.iload_n 3, 1) := by decide +kernel
theorem dX1_earliest_64 : decode cX1_earliest 64 = .ok (.ireturn, 1) := by decide +kernel
theorem dX1_walkOn_0 : decode cX1_walkOn 0 = .ok (.iconst 0, 1) := by decide +kernel
theorem dX1_walkOn_1 : decode cX1_walkOn 1 = .ok (.istore_n 3, 1) := by decide +kernel
theorem dX1_walkOn_2 : decode cX1_walkOn 2 = .ok (.iconst 0, 1) := by decide +kernel
theorem dX1_walkOn_3 : decode cX1_walkOn 3 = .ok (.istore 4, 2) := by decide +kernel
theorem dX1_walkOn_5 : decode cX1_walkOn 5 = .ok (.aload_n 0, 1) := by decide +kernel
theorem dX1_walkOn_6 : decode cX1_walkOn 6 = .ok (.getfield 9, 3) := by decide +kernel
theorem dX1_walkOn_9 : decode cX1_walkOn 9 = .ok (.iload_n 2, 1) := by decide +kernel
theorem dX1_walkOn_10 : decode cX1_walkOn 10 = .ok (.iaload, 1) := by decide +kernel
theorem dX1_walkOn_11 : decode cX1_walkOn 11 = .ok (.ldc 25, 2) := by decide +kernel
theorem dX1_walkOn_13 : decode cX1_walkOn 13 = .ok (.if_icmp .ge 67, 3) := by decide +kernel
theorem dX1_walkOn_16 : decode cX1_walkOn 16 = .ok (.iload 4, 2) := by decide +kernel
theorem dX1_walkOn_18 : decode cX1_walkOn 18 = .ok (.aload_n 1, 1) := by decide +kernel
theorem dX1_walkOn_19 : decode cX1_walkOn 19 = .ok (.getfield 30, 3) := by decide +kernel
theorem dX1_walkOn_22 : decode cX1_walkOn 22 = .ok (.if_icmp .ge 58, 3) := by decide +kernel
theorem dX1_walkOn_25 : decode cX1_walkOn 25 = .ok (.aload_n 1, 1) := by decide +kernel
theorem dX1_walkOn_26 : decode cX1_walkOn 26 = .ok (.iload_n 2, 1) := by decide +kernel
theorem dX1_walkOn_27 : decode cX1_walkOn 27 = .ok (.iload 4, 2) := by decide +kernel
theorem dX1_walkOn_29 : decode cX1_walkOn 29 = .ok (.invokevirtual 47, 3) := by decide +kernel
theorem dX1_walkOn_32 : decode cX1_walkOn 32 = .ok (.ifCond .eq 42, 3) := by decide +kernel
theorem dX1_walkOn_35 : decode cX1_walkOn 35 = .ok (.aload_n 0, 1) := by decide +kernel
theorem dX1_walkOn_36 : decode cX1_walkOn 36 = .ok (.getfield 9, 3) := by decide +kernel
theorem dX1_walkOn_39 : decode cX1_walkOn 39 = .ok (.iload_n 2, 1) := by decide +kernel
theorem dX1_walkOn_40 : decode cX1_walkOn 40 = .ok (.iaload, 1) := by decide +kernel
theorem dX1_walkOn_41 : decode cX1_walkOn 41 = .ok (.aload_n 1, 1) := by decide +kernel
theorem dX1_walkOn_42 : decode cX1_walkOn 42 = .ok (.iload_n 2, 1) := by decide +kernel
theorem dX1_walkOn_43 : decode cX1_walkOn 43 = .ok (.iload 4, 2) := by decide +kernel
theorem dX1_walkOn_45 : decode cX1_walkOn 45 = .ok (.invokevirtual 51, 3) := by decide +kernel
theorem dX1_walkOn_48 : decode cX1_walkOn 48 = .ok (.iadd, 1) := by decide +kernel
theorem dX1_walkOn_49 : decode cX1_walkOn 49 = .ok (.istore 5, 2) := by decide +kernel
theorem dX1_walkOn_51 : decode cX1_walkOn 51 = .ok (.aload_n 0, 1) := by decide +kernel
theorem dX1_walkOn_52 : decode cX1_walkOn 52 = .ok (.iload 4, 2) := by decide +kernel
theorem dX1_walkOn_54 : decode cX1_walkOn 54 = .ok (.iload 5, 2) := by decide +kernel
theorem dX1_walkOn_56 : decode cX1_walkOn 56 = .ok (.iload 5, 2) := by decide +kernel
theorem dX1_walkOn_58 : decode cX1_walkOn 58 = .ok (.invokevirtual 55, 3) := by decide +kernel
theorem dX1_walkOn_61 : decode cX1_walkOn 61 = .ok (.ifCond .ne 7, 3) := by decide +kernel
theorem dX1_walkOn_64 : decode cX1_walkOn 64 = .ok (.iload_n 3, 1) := by decide +kernel
theorem dX1_walkOn_65 : decode cX1_walkOn 65 = .ok (.ifCond .eq 7, 3) := by decide +kernel
theorem dX1_walkOn_68 : decode cX1_walkOn 68 = .ok (.iconst 1, 1) := by decide +kernel
theorem dX1_walkOn_69 : decode cX1_walkOn 69 = .ok (.goto 4, 3) := by decide +kernel
theorem dX1_walkOn_72 : decode cX1_walkOn 72 = .ok (.iconst 0, 1) := by decide +kernel
theorem dX1_walkOn_73 : decode cX1_walkOn 73 = .ok (.istore_n 3, 1) := by decide +kernel
theorem dX1_walkOn_74 : decode cX1_walkOn 74 = .ok (.iinc 4 1, 3) := by decide +kernel
theorem dX1_walkOn_77 : decode cX1_walkOn 77 = .ok (.goto (-72), 3) := by decide +kernel
theorem dX1_walkOn_80 : decode cX1_walkOn 80 = .ok (.iload_n 3, 1) := by decide +kernel
theorem dX1_walkOn_81 : decode cX1_walkOn 81 = .ok (.ireturn, 1) := by decide +kernel
theorem dX1_rideOn_0 : decode cX1_rideOn 0 = .ok (.aload_n 0, 1) := by decide +kernel
theorem dX1_rideOn_1 : decode cX1_rideOn 1 = .ok (.getfield 15, 3) := by decide +kernel
theorem dX1_rideOn_4 : decode cX1_rideOn 4 = .ok (.iload_n 2, 1) := by decide +kernel
theorem dX1_rideOn_5 : decode cX1_rideOn 5 = .ok (.iaload, 1) := by decide +kernel
theorem dX1_rideOn_6 : decode cX1_rideOn 6 = .ok (.ldc 25, 2) := by decide +kernel
theorem dX1_rideOn_8 : decode cX1_rideOn 8 = .ok (.if_icmp .ge 12, 3) := by decide +kernel
theorem dX1_rideOn_11 : decode cX1_rideOn 11 = .ok (.aload_n 1, 1) := by decide +kernel
theorem dX1_rideOn_12 : decode cX1_rideOn 12 = .ok (.getfield 59, 3) := by decide +kernel
theorem dX1_rideOn_15 : decode cX1_rideOn 15 = .ok (.iload_n 2, 1) := by decide +kernel
theorem dX1_rideOn_16 : decode cX1_rideOn 16 = .ok (.baload, 1) := by decide +kernel
theorem dX1_rideOn_17 : decode cX1_rideOn 17 = .ok (.ifCond .eq 5, 3) := by decide +kernel
theorem dX1_rideOn_20 : decode cX1_rideOn 20 = .ok (.iconst 0, 1) := by decide +kernel
theorem dX1_rideOn_21 : decode cX1_rideOn 21 = .ok (.ireturn, 1) := by decide +kernel
theorem dX1_rideOn_22 : decode cX1_rideOn 22 = .ok (.iconst 0, 1) := by decide +kernel
theorem dX1_rideOn_23 : decode cX1_rideOn 23 = .ok (.istore_n 3, 1) := by decide +kernel
theorem dX1_rideOn_24 : decode cX1_rideOn 24 = .ok (.iconst 0, 1) := by decide +kernel
theorem dX1_rideOn_25 : decode cX1_rideOn 25 = .ok (.istore 4, 2) := by decide +kernel
theorem dX1_rideOn_27 : decode cX1_rideOn 27 = .ok (.iload 4, 2) := by decide +kernel
theorem dX1_rideOn_29 : decode cX1_rideOn 29 = .ok (.aload_n 1, 1) := by decide +kernel
theorem dX1_rideOn_30 : decode cX1_rideOn 30 = .ok (.getfield 62, 3) := by decide +kernel
theorem dX1_rideOn_33 : decode cX1_rideOn 33 = .ok (.if_icmp .ge 68, 3) := by decide +kernel
theorem dX1_rideOn_36 : decode cX1_rideOn 36 = .ok (.aload_n 1, 1) := by decide +kernel
theorem dX1_rideOn_37 : decode cX1_rideOn 37 = .ok (.getfield 65, 3) := by decide +kernel
theorem dX1_rideOn_40 : decode cX1_rideOn 40 = .ok (.iload 4, 2) := by decide +kernel
theorem dX1_rideOn_42 : decode cX1_rideOn 42 = .ok (.aaload, 1) := by decide +kernel
theorem dX1_rideOn_43 : decode cX1_rideOn 43 = .ok (.astore 5, 2) := by decide +kernel
theorem dX1_rideOn_45 : decode cX1_rideOn 45 = .ok (.aload 5, 2) := by decide +kernel
theorem dX1_rideOn_47 : decode cX1_rideOn 47 = .ok (.iload_n 2, 1) := by decide +kernel
theorem dX1_rideOn_48 : decode cX1_rideOn 48 = .ok (.invokevirtual 69, 3) := by decide +kernel
theorem dX1_rideOn_51 : decode cX1_rideOn 51 = .ok (.istore 6, 2) := by decide +kernel
theorem dX1_rideOn_53 : decode cX1_rideOn 53 = .ok (.iload 6, 2) := by decide +kernel
theorem dX1_rideOn_55 : decode cX1_rideOn 55 = .ok (.iconst (-1), 1) := by decide +kernel
theorem dX1_rideOn_56 : decode cX1_rideOn 56 = .ok (.if_icmp .eq 39, 3) := by decide +kernel
theorem dX1_rideOn_59 : decode cX1_rideOn 59 = .ok (.aload 5, 2) := by decide +kernel
theorem dX1_rideOn_61 : decode cX1_rideOn 61 = .ok (.invokevirtual 75, 3) := by decide +kernel
theorem dX1_rideOn_64 : decode cX1_rideOn 64 = .ok (.ifCond .eq 31, 3) := by decide +kernel
theorem dX1_rideOn_67 : decode cX1_rideOn 67 = .ok (.aload_n 0, 1) := by decide +kernel
theorem dX1_rideOn_68 : decode cX1_rideOn 68 = .ok (.aload_n 1, 1) := by decide +kernel
theorem dX1_rideOn_69 : decode cX1_rideOn 69 = .ok (.aload 5, 2) := by decide +kernel
theorem dX1_rideOn_71 : decode cX1_rideOn 71 = .ok (.iload 6, 2) := by decide +kernel
theorem dX1_rideOn_73 : decode cX1_rideOn 73 = .ok (.aload_n 0, 1) := by decide +kernel
theorem dX1_rideOn_74 : decode cX1_rideOn 74 = .ok (.getfield 15, 3) := by decide +kernel
theorem dX1_rideOn_77 : decode cX1_rideOn 77 = .ok (.iload_n 2, 1) := by decide +kernel
theorem dX1_rideOn_78 : decode cX1_rideOn 78 = .ok (.iaload, 1) := by decide +kernel
theorem dX1_rideOn_79 : decode cX1_rideOn 79 = .ok (.invokevirtual 79, 3) := by decide +kernel
theorem dX1_rideOn_82 : decode cX1_rideOn 82 = .ok (.ifCond .ne 7, 3) := by decide +kernel
theorem dX1_rideOn_85 : decode cX1_rideOn 85 = .ok (.iload_n 3, 1) := by decide +kernel
theorem dX1_rideOn_86 : decode cX1_rideOn 86 = .ok (.ifCond .eq 7, 3) := by decide +kernel
theorem dX1_rideOn_89 : decode cX1_rideOn 89 = .ok (.iconst 1, 1) := by decide +kernel
theorem dX1_rideOn_90 : decode cX1_rideOn 90 = .ok (.goto 4, 3) := by decide +kernel
theorem dX1_rideOn_93 : decode cX1_rideOn 93 = .ok (.iconst 0, 1) := by decide +kernel
theorem dX1_rideOn_94 : decode cX1_rideOn 94 = .ok (.istore_n 3, 1) := by decide +kernel
theorem dX1_rideOn_95 : decode cX1_rideOn 95 = .ok (.iinc 4 1, 3) := by decide +kernel
theorem dX1_rideOn_98 : decode cX1_rideOn 98 = .ok (.goto (-71), 3) := by decide +kernel
theorem dX1_rideOn_101 : decode cX1_rideOn 101 = .ok (.iload_n 3, 1) := by decide +kernel
theorem dX1_rideOn_102 : decode cX1_rideOn 102 = .ok (.ireturn, 1) := by decide +kernel
theorem dX1_rideLine_0 : decode cX1_rideLine 0 = .ok (.iconst 0, 1) := by decide +kernel
theorem dX1_rideLine_1 : decode cX1_rideLine 1 = .ok (.istore 5, 2) := by decide +kernel
theorem dX1_rideLine_3 : decode cX1_rideLine 3 = .ok (.aload_n 2, 1) := by decide +kernel
theorem dX1_rideLine_4 : decode cX1_rideLine 4 = .ok (.iload_n 3, 1) := by decide +kernel
theorem dX1_rideLine_5 : decode cX1_rideLine 5 = .ok (.iload 4, 2) := by decide +kernel
theorem dX1_rideLine_7 : decode cX1_rideLine 7 = .ok (.aload_n 1, 1) := by decide +kernel
theorem dX1_rideLine_8 : decode cX1_rideLine 8 = .ok (.getfield 83, 3) := by decide +kernel
theorem dX1_rideLine_11 : decode cX1_rideLine 11 = .ok (.invokevirtual 87, 3) := by decide +kernel
theorem dX1_rideLine_14 : decode cX1_rideLine 14 = .ok (.istore 6, 2) := by decide +kernel
theorem dX1_rideLine_16 : decode cX1_rideLine 16 = .ok (.iload_n 3, 1) := by decide +kernel
theorem dX1_rideLine_17 : decode cX1_rideLine 17 = .ok (.iconst 1, 1) := by decide +kernel
theorem dX1_rideLine_18 : decode cX1_rideLine 18 = .ok (.iadd, 1) := by decide +kernel
theorem dX1_rideLine_19 : decode cX1_rideLine 19 = .ok (.istore 7, 2) := by decide +kernel
theorem dX1_rideLine_21 : decode cX1_rideLine 21 = .ok (.iload 7, 2) := by decide +kernel
theorem dX1_rideLine_23 : decode cX1_rideLine 23 = .ok (.aload_n 2, 1) := by decide +kernel
theorem dX1_rideLine_24 : decode cX1_rideLine 24 = .ok (.getfield 91, 3) := by decide +kernel
theorem dX1_rideLine_27 : decode cX1_rideLine 27 = .ok (.if_icmp .gt 74, 3) := by decide +kernel
theorem dX1_rideLine_30 : decode cX1_rideLine 30 = .ok (.aload_n 2, 1) := by decide +kernel
theorem dX1_rideLine_31 : decode cX1_rideLine 31 = .ok (.iload 7, 2) := by decide +kernel
theorem dX1_rideLine_33 : decode cX1_rideLine 33 = .ok (.invokevirtual 94, 3) := by decide +kernel
theorem dX1_rideLine_36 : decode cX1_rideLine 36 = .ok (.istore 8, 2) := by decide +kernel
theorem dX1_rideLine_38 : decode cX1_rideLine 38 = .ok (.aload_n 1, 1) := by decide +kernel
theorem dX1_rideLine_39 : decode cX1_rideLine 39 = .ok (.getfield 59, 3) := by decide +kernel
theorem dX1_rideLine_42 : decode cX1_rideLine 42 = .ok (.iload 8, 2) := by decide +kernel
theorem dX1_rideLine_44 : decode cX1_rideLine 44 = .ok (.baload, 1) := by decide +kernel
theorem dX1_rideLine_45 : decode cX1_rideLine 45 = .ok (.ifCond .ne 50, 3) := by decide +kernel
theorem dX1_rideLine_48 : decode cX1_rideLine 48 = .ok (.aload_n 2, 1) := by decide +kernel
theorem dX1_rideLine_49 : decode cX1_rideLine 49 = .ok (.iload 6, 2) := by decide +kernel
theorem dX1_rideLine_51 : decode cX1_rideLine 51 = .ok (.iload 7, 2) := by decide +kernel
theorem dX1_rideLine_53 : decode cX1_rideLine 53 = .ok (.aload_n 1, 1) := by decide +kernel
theorem dX1_rideLine_54 : decode cX1_rideLine 54 = .ok (.getfield 83, 3) := by decide +kernel
theorem dX1_rideLine_57 : decode cX1_rideLine 57 = .ok (.invokevirtual 97, 3) := by decide +kernel
theorem dX1_rideLine_60 : decode cX1_rideLine 60 = .ok (.istore 9, 2) := by decide +kernel
theorem dX1_rideLine_62 : decode cX1_rideLine 62 = .ok (.aload_n 0, 1) := by decide +kernel
theorem dX1_rideLine_63 : decode cX1_rideLine 63 = .ok (.iload 8, 2) := by decide +kernel
theorem dX1_rideLine_65 : decode cX1_rideLine 65 = .ok (.iload 9, 2) := by decide +kernel
theorem dX1_rideLine_67 : decode cX1_rideLine 67 = .ok (.iload 9, 2) := by decide +kernel
theorem dX1_rideLine_69 : decode cX1_rideLine 69 = .ok (.aload_n 1, 1) := by decide +kernel
theorem dX1_rideLine_70 : decode cX1_rideLine 70 = .ok (.getfield 100, 3) := by decide +kernel
theorem dX1_rideLine_73 : decode cX1_rideLine 73 = .ok (.iload 8, 2) := by decide +kernel
theorem dX1_rideLine_75 : decode cX1_rideLine 75 = .ok (.iaload, 1) := by decide +kernel
theorem dX1_rideLine_76 : decode cX1_rideLine 76 = .ok (.iadd, 1) := by decide +kernel
theorem dX1_rideLine_77 : decode cX1_rideLine 77 = .ok (.invokevirtual 55, 3) := by decide +kernel
theorem dX1_rideLine_80 : decode cX1_rideLine 80 = .ok (.ifCond .ne 8, 3) := by decide +kernel
theorem dX1_rideLine_83 : decode cX1_rideLine 83 = .ok (.iload 5, 2) := by decide +kernel
theorem dX1_rideLine_85 : decode cX1_rideLine 85 = .ok (.ifCond .eq 7, 3) := by decide +kernel
theorem dX1_rideLine_88 : decode cX1_rideLine 88 = .ok (.iconst 1, 1) := by decide +kernel
theorem dX1_rideLine_89 : decode cX1_rideLine 89 = .ok (.goto 4, 3) := by decide +kernel
theorem dX1_rideLine_92 : decode cX1_rideLine 92 = .ok (.iconst 0, 1) := by decide +kernel
theorem dX1_rideLine_93 : decode cX1_rideLine 93 = .ok (.istore 5, 2) := by decide +kernel
theorem dX1_rideLine_95 : decode cX1_rideLine 95 = .ok (.iinc 7 1, 3) := by decide +kernel
theorem dX1_rideLine_98 : decode cX1_rideLine 98 = .ok (.goto (-77), 3) := by decide +kernel
theorem dX1_rideLine_101 : decode cX1_rideLine 101 = .ok (.iload 5, 2) := by decide +kernel
theorem dX1_rideLine_103 : decode cX1_rideLine 103 = .ok (.ireturn, 1) := by decide +kernel
theorem dX1_reach_0 : decode cX1_reach 0 = .ok (.iload_n 2, 1) := by decide +kernel
theorem dX1_reach_1 : decode cX1_reach 1 = .ok (.aload_n 0, 1) := by decide +kernel
theorem dX1_reach_2 : decode cX1_reach 2 = .ok (.getfield 9, 3) := by decide +kernel
theorem dX1_reach_5 : decode cX1_reach 5 = .ok (.iload_n 1, 1) := by decide +kernel
theorem dX1_reach_6 : decode cX1_reach 6 = .ok (.iaload, 1) := by decide +kernel
theorem dX1_reach_7 : decode cX1_reach 7 = .ok (.if_icmp .lt 13, 3) := by decide +kernel
theorem dX1_reach_10 : decode cX1_reach 10 = .ok (.iload_n 3, 1) := by decide +kernel
theorem dX1_reach_11 : decode cX1_reach 11 = .ok (.aload_n 0, 1) := by decide +kernel
theorem dX1_reach_12 : decode cX1_reach 12 = .ok (.getfield 15, 3) := by decide +kernel
theorem dX1_reach_15 : decode cX1_reach 15 = .ok (.iload_n 1, 1) := by decide +kernel
theorem dX1_reach_16 : decode cX1_reach 16 = .ok (.iaload, 1) := by decide +kernel
theorem dX1_reach_17 : decode cX1_reach 17 = .ok (.if_icmp .ge 7, 3) := by decide +kernel
theorem dX1_reach_20 : decode cX1_reach 20 = .ok (.iconst 1, 1) := by decide +kernel
theorem dX1_reach_21 : decode cX1_reach 21 = .ok (.goto 4, 3) := by decide +kernel
theorem dX1_reach_24 : decode cX1_reach 24 = .ok (.iconst 0, 1) := by decide +kernel
theorem dX1_reach_25 : decode cX1_reach 25 = .ok (.istore 4, 2) := by decide +kernel
theorem dX1_reach_27 : decode cX1_reach 27 = .ok (.aload_n 0, 1) := by decide +kernel
theorem dX1_reach_28 : decode cX1_reach 28 = .ok (.getfield 9, 3) := by decide +kernel
theorem dX1_reach_31 : decode cX1_reach 31 = .ok (.iload_n 1, 1) := by decide +kernel
theorem dX1_reach_32 : decode cX1_reach 32 = .ok (.aload_n 0, 1) := by decide +kernel
theorem dX1_reach_33 : decode cX1_reach 33 = .ok (.getfield 9, 3) := by decide +kernel
theorem dX1_reach_36 : decode cX1_reach 36 = .ok (.iload_n 1, 1) := by decide +kernel
theorem dX1_reach_37 : decode cX1_reach 37 = .ok (.iaload, 1) := by decide +kernel
theorem dX1_reach_38 : decode cX1_reach 38 = .ok (.iload_n 2, 1) := by decide +kernel
theorem dX1_reach_39 : decode cX1_reach 39 = .ok (.invokestatic 103, 3) := by decide +kernel
theorem dX1_reach_42 : decode cX1_reach 42 = .ok (.iastore, 1) := by decide +kernel
theorem dX1_reach_43 : decode cX1_reach 43 = .ok (.aload_n 0, 1) := by decide +kernel
theorem dX1_reach_44 : decode cX1_reach 44 = .ok (.getfield 15, 3) := by decide +kernel
theorem dX1_reach_47 : decode cX1_reach 47 = .ok (.iload_n 1, 1) := by decide +kernel
theorem dX1_reach_48 : decode cX1_reach 48 = .ok (.aload_n 0, 1) := by decide +kernel
theorem dX1_reach_49 : decode cX1_reach 49 = .ok (.getfield 15, 3) := by decide +kernel
theorem dX1_reach_52 : decode cX1_reach 52 = .ok (.iload_n 1, 1) := by decide +kernel
theorem dX1_reach_53 : decode cX1_reach 53 = .ok (.iaload, 1) := by decide +kernel
theorem dX1_reach_54 : decode cX1_reach 54 = .ok (.iload_n 3, 1) := by decide +kernel
theorem dX1_reach_55 : decode cX1_reach 55 = .ok (.invokestatic 103, 3) := by decide +kernel
theorem dX1_reach_58 : decode cX1_reach 58 = .ok (.iastore, 1) := by decide +kernel
theorem dX1_reach_59 : decode cX1_reach 59 = .ok (.iload 4, 2) := by decide +kernel
theorem dX1_reach_61 : decode cX1_reach 61 = .ok (.ireturn, 1) := by decide +kernel
theorem dX2_init_0 : decode cX2_init 0 = .ok (.aload_n 0, 1) := by decide +kernel
theorem dX2_init_1 : decode cX2_init 1 = .ok (.invokespecial 3, 3) := by decide +kernel
theorem dX2_init_4 : decode cX2_init 4 = .ok (.aload_n 0, 1) := by decide +kernel
theorem dX2_init_5 : decode cX2_init 5 = .ok (.bipush 10, 2) := by decide +kernel
theorem dX2_init_7 : decode cX2_init 7 = .ok (.newarray .int, 2) := by decide +kernel
theorem dX2_init_9 : decode cX2_init 9 = .ok (.putfield 9, 3) := by decide +kernel
theorem dX2_init_12 : decode cX2_init 12 = .ok (.aload_n 0, 1) := by decide +kernel
theorem dX2_init_13 : decode cX2_init 13 = .ok (.bipush 100, 2) := by decide +kernel
theorem dX2_init_15 : decode cX2_init 15 = .ok (.newarray .int, 2) := by decide +kernel
theorem dX2_init_17 : decode cX2_init 17 = .ok (.putfield 15, 3) := by decide +kernel
theorem dX2_init_20 : decode cX2_init 20 = .ok (.return_, 1) := by decide +kernel
theorem dX2_searchRounds_0 : decode cX2_searchRounds 0 = .ok (.aload_n 0, 1) := by decide +kernel
theorem dX2_searchRounds_1 : decode cX2_searchRounds 1 = .ok (.getfield 9, 3) := by decide +kernel
theorem dX2_searchRounds_4 : decode cX2_searchRounds 4 = .ok (.ldc 18, 2) := by decide +kernel
theorem dX2_searchRounds_6 : decode cX2_searchRounds 6 = .ok (.invokestatic 19, 3) := by decide +kernel
theorem dX2_searchRounds_9 : decode cX2_searchRounds 9 = .ok (.aload_n 0, 1) := by decide +kernel
theorem dX2_searchRounds_10 : decode cX2_searchRounds 10 = .ok (.getfield 9, 3) := by decide +kernel
theorem dX2_searchRounds_13 : decode cX2_searchRounds 13 = .ok (.iload_n 2, 1) := by decide +kernel
theorem dX2_searchRounds_14 : decode cX2_searchRounds 14 = .ok (.iconst 0, 1) := by decide +kernel
theorem dX2_searchRounds_15 : decode cX2_searchRounds 15 = .ok (.iastore, 1) := by decide +kernel
theorem dX2_searchRounds_16 : decode cX2_searchRounds 16 = .ok (.iconst 0, 1) := by decide +kernel
theorem dX2_searchRounds_17 : decode cX2_searchRounds 17 = .ok (.istore_n 3, 1) := by decide +kernel
theorem dX2_searchRounds_18 : decode cX2_searchRounds 18 = .ok (.iload_n 3, 1) := by decide +kernel
theorem dX2_searchRounds_19 : decode cX2_searchRounds 19 = .ok (.bipush 10, 2) := by decide +kernel
theorem dX2_searchRounds_21 : decode cX2_searchRounds 21 = .ok (.if_icmp .ge 54, 3) := by decide +kernel
theorem dX2_searchRounds_24 : decode cX2_searchRounds 24 = .ok (.aload_n 0, 1) := by decide +kernel
theorem dX2_searchRounds_25 : decode cX2_searchRounds 25 = .ok (.aload_n 1, 1) := by decide +kernel
theorem dX2_searchRounds_26 : decode cX2_searchRounds 26 = .ok (.iload_n 3, 1) := by decide +kernel
theorem dX2_searchRounds_27 : decode cX2_searchRounds 27 = .ok (.invokevirtual 25, 3) := by decide +kernel
theorem dX2_searchRounds_30 : decode cX2_searchRounds 30 = .ok (.iconst 0, 1) := by decide +kernel
theorem dX2_searchRounds_31 : decode cX2_searchRounds 31 = .ok (.istore 4, 2) := by decide +kernel
theorem dX2_searchRounds_33 : decode cX2_searchRounds 33 = .ok (.iload 4, 2) := by decide +kernel
theorem dX2_searchRounds_35 : decode cX2_searchRounds 35 = .ok (.aload_n 1, 1) := by decide +kernel
theorem dX2_searchRounds_36 : decode cX2_searchRounds 36 = .ok (.getfield 29, 3) := by decide +kernel
theorem dX2_searchRounds_39 : decode cX2_searchRounds 39 = .ok (.if_icmp .ge 30, 3) := by decide +kernel
theorem dX2_searchRounds_42 : decode cX2_searchRounds 42 = .ok (.aload_n 0, 1) := by decide +kernel
theorem dX2_searchRounds_43 : decode cX2_searchRounds 43 = .ok (.getfield 9, 3) := by decide +kernel
theorem dX2_searchRounds_46 : decode cX2_searchRounds 46 = .ok (.iload 4, 2) := by decide +kernel
theorem dX2_searchRounds_48 : decode cX2_searchRounds 48 = .ok (.iaload, 1) := by decide +kernel
theorem dX2_searchRounds_49 : decode cX2_searchRounds 49 = .ok (.iload_n 3, 1) := by decide +kernel
theorem dX2_searchRounds_50 : decode cX2_searchRounds 50 = .ok (.if_icmp .ne 13, 3) := by decide +kernel
theorem dX2_searchRounds_53 : decode cX2_searchRounds 53 = .ok (.aload_n 0, 1) := by decide +kernel
theorem dX2_searchRounds_54 : decode cX2_searchRounds 54 = .ok (.aload_n 1, 1) := by decide +kernel
theorem dX2_searchRounds_55 : decode cX2_searchRounds 55 = .ok (.iload 4, 2) := by decide +kernel
theorem dX2_searchRounds_57 : decode cX2_searchRounds 57 = .ok (.iload_n 3, 1) := by decide +kernel
theorem dX2_searchRounds_58 : decode cX2_searchRounds 58 = .ok (.iconst 1, 1) := by decide +kernel
theorem dX2_searchRounds_59 : decode cX2_searchRounds 59 = .ok (.iadd, 1) := by decide +kernel
theorem dX2_searchRounds_60 : decode cX2_searchRounds 60 = .ok (.invokevirtual 35, 3) := by decide +kernel
theorem dX2_searchRounds_63 : decode cX2_searchRounds 63 = .ok (.iinc 4 1, 3) := by decide +kernel
theorem dX2_searchRounds_66 : decode cX2_searchRounds 66 = .ok (.goto (-33), 3) := by decide +kernel
theorem dX2_searchRounds_69 : decode cX2_searchRounds 69 = .ok (.iinc 3 1, 3) := by decide +kernel
theorem dX2_searchRounds_72 : decode cX2_searchRounds 72 = .ok (.goto (-54), 3) := by decide +kernel
theorem dX2_searchRounds_75 : decode cX2_searchRounds 75 = .ok (.return_, 1) := by decide +kernel
theorem dX2_tableEntry_0 : decode cX2_tableEntry 0 = .ok (.aload_n 0, 1) := by decide +kernel
theorem dX2_tableEntry_1 : decode cX2_tableEntry 1 = .ok (.getfield 15, 3) := by decide +kernel
theorem dX2_tableEntry_4 : decode cX2_tableEntry 4 = .ok (.iload_n 1, 1) := by decide +kernel
theorem dX2_tableEntry_5 : decode cX2_tableEntry 5 = .ok (.bipush 10, 2) := by decide +kernel
theorem dX2_tableEntry_7 : decode cX2_tableEntry 7 = .ok (.imul, 1) := by decide +kernel
theorem dX2_tableEntry_8 : decode cX2_tableEntry 8 = .ok (.iload_n 2, 1) := by decide +kernel
theorem dX2_tableEntry_9 : decode cX2_tableEntry 9 = .ok (.iadd, 1) := by decide +kernel
theorem dX2_tableEntry_10 : decode cX2_tableEntry 10 = .ok (.iaload, 1) := by decide +kernel
theorem dX2_tableEntry_11 : decode cX2_tableEntry 11 = .ok (.ireturn, 1) := by decide +kernel
theorem dX2_fillTable_0 : decode cX2_fillTable 0 = .ok (.iconst 0, 1) := by decide +kernel
theorem dX2_fillTable_1 : decode cX2_fillTable 1 = .ok (.istore_n 2, 1) := by decide +kernel
theorem dX2_fillTable_2 : decode cX2_fillTable 2 = .ok (.iload_n 2, 1) := by decide +kernel
theorem dX2_fillTable_3 : decode cX2_fillTable 3 = .ok (.aload_n 1, 1) := by decide +kernel
theorem dX2_fillTable_4 : decode cX2_fillTable 4 = .ok (.getfield 29, 3) := by decide +kernel
theorem dX2_fillTable_7 : decode cX2_fillTable 7 = .ok (.if_icmp .ge 42, 3) := by decide +kernel
theorem dX2_fillTable_10 : decode cX2_fillTable 10 = .ok (.iconst 0, 1) := by decide +kernel
theorem dX2_fillTable_11 : decode cX2_fillTable 11 = .ok (.istore_n 3, 1) := by decide +kernel
theorem dX2_fillTable_12 : decode cX2_fillTable 12 = .ok (.iload_n 3, 1) := by decide +kernel
theorem dX2_fillTable_13 : decode cX2_fillTable 13 = .ok (.aload_n 1, 1) := by decide +kernel
theorem dX2_fillTable_14 : decode cX2_fillTable 14 = .ok (.getfield 29, 3) := by decide +kernel
theorem dX2_fillTable_17 : decode cX2_fillTable 17 = .ok (.if_icmp .ge 26, 3) := by decide +kernel
theorem dX2_fillTable_20 : decode cX2_fillTable 20 = .ok (.aload_n 0, 1) := by decide +kernel
theorem dX2_fillTable_21 : decode cX2_fillTable 21 = .ok (.getfield 15, 3) := by decide +kernel
theorem dX2_fillTable_24 : decode cX2_fillTable 24 = .ok (.iload_n 2, 1) := by decide +kernel
theorem dX2_fillTable_25 : decode cX2_fillTable 25 = .ok (.bipush 10, 2) := by decide +kernel
theorem dX2_fillTable_27 : decode cX2_fillTable 27 = .ok (.imul, 1) := by decide +kernel
theorem dX2_fillTable_28 : decode cX2_fillTable 28 = .ok (.iload_n 3, 1) := by decide +kernel
theorem dX2_fillTable_29 : decode cX2_fillTable 29 = .ok (.iadd, 1) := by decide +kernel
theorem dX2_fillTable_30 : decode cX2_fillTable 30 = .ok (.aload_n 1, 1) := by decide +kernel
theorem dX2_fillTable_31 : decode cX2_fillTable 31 = .ok (.iload_n 2, 1) := by decide +kernel
theorem dX2_fillTable_32 : decode cX2_fillTable 32 = .ok (.iload_n 3, 1) := by decide +kernel
theorem dX2_fillTable_33 : decode cX2_fillTable 33 = .ok (.invokestatic 39, 3) := by decide +kernel
theorem dX2_fillTable_36 : decode cX2_fillTable 36 = .ok (.iastore, 1) := by decide +kernel
theorem dX2_fillTable_37 : decode cX2_fillTable 37 = .ok (.iinc 3 1, 3) := by decide +kernel
theorem dX2_fillTable_40 : decode cX2_fillTable 40 = .ok (.goto (-28), 3) := by decide +kernel
theorem dX2_fillTable_43 : decode cX2_fillTable 43 = .ok (.iinc 2 1, 3) := by decide +kernel
theorem dX2_fillTable_46 : decode cX2_fillTable 46 = .ok (.goto (-44), 3) := by decide +kernel
theorem dX2_fillTable_49 : decode cX2_fillTable 49 = .ok (.iconst 1, 1) := by decide +kernel
theorem dX2_fillTable_50 : decode cX2_fillTable 50 = .ok (.istore_n 2, 1) := by decide +kernel
theorem dX2_fillTable_51 : decode cX2_fillTable 51 = .ok (.iload_n 2, 1) := by decide +kernel
theorem dX2_fillTable_52 : decode cX2_fillTable 52 = .ok (.bipush 10, 2) := by decide +kernel
theorem dX2_fillTable_54 : decode cX2_fillTable 54 = .ok (.if_icmp .ge 18, 3) := by decide +kernel
theorem dX2_fillTable_57 : decode cX2_fillTable 57 = .ok (.aload_n 0, 1) := by decide +kernel
theorem dX2_fillTable_58 : decode cX2_fillTable 58 = .ok (.aload_n 1, 1) := by decide +kernel
theorem dX2_fillTable_59 : decode cX2_fillTable 59 = .ok (.getfield 29, 3) := by decide +kernel
theorem dX2_fillTable_62 : decode cX2_fillTable 62 = .ok (.invokevirtual 43, 3) := by decide +kernel
theorem dX2_fillTable_65 : decode cX2_fillTable 65 = .ok (.iload_n 2, 1) := by decide +kernel
theorem dX2_fillTable_66 : decode cX2_fillTable 66 = .ok (.iconst 2, 1) := by decide +kernel
theorem dX2_fillTable_67 : decode cX2_fillTable 67 = .ok (.imul, 1) := by decide +kernel
theorem dX2_fillTable_68 : decode cX2_fillTable 68 = .ok (.istore_n 2, 1) := by decide +kernel
theorem dX2_fillTable_69 : decode cX2_fillTable 69 = .ok (.goto (-18), 3) := by decide +kernel
theorem dX2_fillTable_72 : decode cX2_fillTable 72 = .ok (.return_, 1) := by decide +kernel
theorem dX2_walkAll_0 : decode cX2_walkAll 0 = .ok (.iconst 1, 1) := by decide +kernel
theorem dX2_walkAll_1 : decode cX2_walkAll 1 = .ok (.istore_n 3, 1) := by decide +kernel
theorem dX2_walkAll_2 : decode cX2_walkAll 2 = .ok (.iconst 0, 1) := by decide +kernel
theorem dX2_walkAll_3 : decode cX2_walkAll 3 = .ok (.istore 4, 2) := by decide +kernel
theorem dX2_walkAll_5 : decode cX2_walkAll 5 = .ok (.iload 4, 2) := by decide +kernel
theorem dX2_walkAll_7 : decode cX2_walkAll 7 = .ok (.bipush 10, 2) := by decide +kernel
theorem dX2_walkAll_9 : decode cX2_walkAll 9 = .ok (.if_icmp .gt 94, 3) := by decide +kernel
theorem dX2_walkAll_12 : decode cX2_walkAll 12 = .ok (.iload_n 3, 1) := by decide +kernel
theorem dX2_walkAll_13 : decode cX2_walkAll 13 = .ok (.ifCond .eq 90, 3) := by decide +kernel
theorem dX2_walkAll_16 : decode cX2_walkAll 16 = .ok (.iconst 0, 1) := by decide +kernel
theorem dX2_walkAll_17 : decode cX2_walkAll 17 = .ok (.istore_n 3, 1) := by decide +kernel
theorem dX2_walkAll_18 : decode cX2_walkAll 18 = .ok (.iconst 0, 1) := by decide +kernel
theorem dX2_walkAll_19 : decode cX2_walkAll 19 = .ok (.istore 5, 2) := by decide +kernel
theorem dX2_walkAll_21 : decode cX2_walkAll 21 = .ok (.iload 5, 2) := by decide +kernel
theorem dX2_walkAll_23 : decode cX2_walkAll 23 = .ok (.aload_n 1, 1) := by decide +kernel
theorem dX2_walkAll_24 : decode cX2_walkAll 24 = .ok (.getfield 29, 3) := by decide +kernel
theorem dX2_walkAll_27 : decode cX2_walkAll 27 = .ok (.if_icmp .ge 70, 3) := by decide +kernel
theorem dX2_walkAll_30 : decode cX2_walkAll 30 = .ok (.iconst 0, 1) := by decide +kernel
theorem dX2_walkAll_31 : decode cX2_walkAll 31 = .ok (.istore 6, 2) := by decide +kernel
theorem dX2_walkAll_33 : decode cX2_walkAll 33 = .ok (.iload 6, 2) := by decide +kernel
theorem dX2_walkAll_35 : decode cX2_walkAll 35 = .ok (.aload_n 1, 1) := by decide +kernel
theorem dX2_walkAll_36 : decode cX2_walkAll 36 = .ok (.getfield 29, 3) := by decide +kernel
theorem dX2_walkAll_39 : decode cX2_walkAll 39 = .ok (.if_icmp .ge 52, 3) := by decide +kernel
theorem dX2_walkAll_42 : decode cX2_walkAll 42 = .ok (.aload_n 0, 1) := by decide +kernel
theorem dX2_walkAll_43 : decode cX2_walkAll 43 = .ok (.getfield 9, 3) := by decide +kernel
theorem dX2_walkAll_46 : decode cX2_walkAll 46 = .ok (.iload 5, 2) := by decide +kernel
theorem dX2_walkAll_48 : decode cX2_walkAll 48 = .ok (.iaload, 1) := by decide +kernel
theorem dX2_walkAll_49 : decode cX2_walkAll 49 = .ok (.iload_n 2, 1) := by decide +kernel
theorem dX2_walkAll_50 : decode cX2_walkAll 50 = .ok (.if_icmp .ne 41, 3) := by decide +kernel
theorem dX2_walkAll_53 : decode cX2_walkAll 53 = .ok (.aload_n 1, 1) := by decide +kernel
theorem dX2_walkAll_54 : decode cX2_walkAll 54 = .ok (.iload 5, 2) := by decide +kernel
theorem dX2_walkAll_56 : decode cX2_walkAll 56 = .ok (.iload 6, 2) := by decide +kernel
theorem dX2_walkAll_58 : decode cX2_walkAll 58 = .ok (.invokevirtual 47, 3) := by decide +kernel
theorem dX2_walkAll_61 : decode cX2_walkAll 61 = .ok (.ifCond .eq 24, 3) := by decide +kernel
theorem dX2_walkAll_64 : decode cX2_walkAll 64 = .ok (.aload_n 0, 1) := by decide +kernel
theorem dX2_walkAll_65 : decode cX2_walkAll 65 = .ok (.getfield 9, 3) := by decide +kernel
theorem dX2_walkAll_68 : decode cX2_walkAll 68 = .ok (.iload 6, 2) := by decide +kernel
theorem dX2_walkAll_70 : decode cX2_walkAll 70 = .ok (.iaload, 1) := by decide +kernel
theorem dX2_walkAll_71 : decode cX2_walkAll 71 = .ok (.iload_n 2, 1) := by decide +kernel
theorem dX2_walkAll_72 : decode cX2_walkAll 72 = .ok (.if_icmp .le 13, 3) := by decide +kernel
theorem dX2_walkAll_75 : decode cX2_walkAll 75 = .ok (.aload_n 0, 1) := by decide +kernel
theorem dX2_walkAll_76 : decode cX2_walkAll 76 = .ok (.getfield 9, 3) := by decide +kernel
theorem dX2_walkAll_79 : decode cX2_walkAll 79 = .ok (.iload 6, 2) := by decide +kernel
theorem dX2_walkAll_81 : decode cX2_walkAll 81 = .ok (.iload_n 2, 1) := by decide +kernel
theorem dX2_walkAll_82 : decode cX2_walkAll 82 = .ok (.iastore, 1) := by decide +kernel
theorem dX2_walkAll_83 : decode cX2_walkAll 83 = .ok (.iconst 1, 1) := by decide +kernel
theorem dX2_walkAll_84 : decode cX2_walkAll 84 = .ok (.istore_n 3, 1) := by decide +kernel
theorem dX2_walkAll_85 : decode cX2_walkAll 85 = .ok (.iinc 6 1, 3) := by decide +kernel
theorem dX2_walkAll_88 : decode cX2_walkAll 88 = .ok (.goto (-55), 3) := by decide +kernel
theorem dX2_walkAll_91 : decode cX2_walkAll 91 = .ok (.iinc 5 1, 3) := by decide +kernel
theorem dX2_walkAll_94 : decode cX2_walkAll 94 = .ok (.goto (-73), 3) := by decide +kernel
theorem dX2_walkAll_97 : decode cX2_walkAll 97 = .ok (.iinc 4 1, 3) := by decide +kernel
theorem dX2_walkAll_100 : decode cX2_walkAll 100 = .ok (.goto (-95), 3) := by decide +kernel
theorem dX2_walkAll_103 : decode cX2_walkAll 103 = .ok (.return_, 1) := by decide +kernel
theorem dX2_rideAll_0 : decode cX2_rideAll 0 = .ok (.iconst 0, 1) := by decide +kernel
theorem dX2_rideAll_1 : decode cX2_rideAll 1 = .ok (.istore 4, 2) := by decide +kernel
theorem dX2_rideAll_3 : decode cX2_rideAll 3 = .ok (.iload 4, 2) := by decide +kernel
theorem dX2_rideAll_5 : decode cX2_rideAll 5 = .ok (.aload_n 1, 1) := by decide +kernel
theorem dX2_rideAll_6 : decode cX2_rideAll 6 = .ok (.getfield 29, 3) := by decide +kernel
theorem dX2_rideAll_9 : decode cX2_rideAll 9 = .ok (.if_icmp .ge 38, 3) := by decide +kernel
theorem dX2_rideAll_12 : decode cX2_rideAll 12 = .ok (.aload_n 0, 1) := by decide +kernel
theorem dX2_rideAll_13 : decode cX2_rideAll 13 = .ok (.getfield 9, 3) := by decide +kernel
theorem dX2_rideAll_16 : decode cX2_rideAll 16 = .ok (.iload 4, 2) := by decide +kernel
theorem dX2_rideAll_18 : decode cX2_rideAll 18 = .ok (.iaload, 1) := by decide +kernel
theorem dX2_rideAll_19 : decode cX2_rideAll 19 = .ok (.iload_n 3, 1) := by decide +kernel
theorem dX2_rideAll_20 : decode cX2_rideAll 20 = .ok (.if_icmp .le 21, 3) := by decide +kernel
theorem dX2_rideAll_23 : decode cX2_rideAll 23 = .ok (.aload_n 1, 1) := by decide +kernel
theorem dX2_rideAll_24 : decode cX2_rideAll 24 = .ok (.iload_n 2, 1) := by decide +kernel
theorem dX2_rideAll_25 : decode cX2_rideAll 25 = .ok (.iload 4, 2) := by decide +kernel
theorem dX2_rideAll_27 : decode cX2_rideAll 27 = .ok (.invokestatic 51, 3) := by decide +kernel
theorem dX2_rideAll_30 : decode cX2_rideAll 30 = .ok (.ifCond .eq 11, 3) := by decide +kernel
theorem dX2_rideAll_33 : decode cX2_rideAll 33 = .ok (.aload_n 0, 1) := by decide +kernel
theorem dX2_rideAll_34 : decode cX2_rideAll 34 = .ok (.getfield 9, 3) := by decide +kernel
theorem dX2_rideAll_37 : decode cX2_rideAll 37 = .ok (.iload 4, 2) := by decide +kernel
theorem dX2_rideAll_39 : decode cX2_rideAll 39 = .ok (.iload_n 3, 1) := by decide +kernel
theorem dX2_rideAll_40 : decode cX2_rideAll 40 = .ok (.iastore, 1) := by decide +kernel
theorem dX2_rideAll_41 : decode cX2_rideAll 41 = .ok (.iinc 4 1, 3) := by decide +kernel
theorem dX2_rideAll_44 : decode cX2_rideAll 44 = .ok (.goto (-41), 3) := by decide +kernel
theorem dX2_rideAll_47 : decode cX2_rideAll 47 = .ok (.return_, 1) := by decide +kernel
theorem dX2_canRide_0 : decode cX2_canRide 0 = .ok (.aload_n 0, 1) := by decide +kernel
theorem dX2_canRide_1 : decode cX2_canRide 1 = .ok (.getfield 55, 3) := by decide +kernel
theorem dX2_canRide_4 : decode cX2_canRide 4 = .ok (.iload_n 1, 1) := by decide +kernel
theorem dX2_canRide_5 : decode cX2_canRide 5 = .ok (.baload, 1) := by decide +kernel
theorem dX2_canRide_6 : decode cX2_canRide 6 = .ok (.ifCond .ne 12, 3) := by decide +kernel
theorem dX2_canRide_9 : decode cX2_canRide 9 = .ok (.aload_n 0, 1) := by decide +kernel
theorem dX2_canRide_10 : decode cX2_canRide 10 = .ok (.getfield 55, 3) := by decide +kernel
theorem dX2_canRide_13 : decode cX2_canRide 13 = .ok (.iload_n 2, 1) := by decide +kernel
theorem dX2_canRide_14 : decode cX2_canRide 14 = .ok (.baload, 1) := by decide +kernel
theorem dX2_canRide_15 : decode cX2_canRide 15 = .ok (.ifCond .eq 5, 3) := by decide +kernel
theorem dX2_canRide_18 : decode cX2_canRide 18 = .ok (.iconst 0, 1) := by decide +kernel
theorem dX2_canRide_19 : decode cX2_canRide 19 = .ok (.ireturn, 1) := by decide +kernel
theorem dX2_canRide_20 : decode cX2_canRide 20 = .ok (.iconst 0, 1) := by decide +kernel
theorem dX2_canRide_21 : decode cX2_canRide 21 = .ok (.istore_n 3, 1) := by decide +kernel
theorem dX2_canRide_22 : decode cX2_canRide 22 = .ok (.iload_n 3, 1) := by decide +kernel
theorem dX2_canRide_23 : decode cX2_canRide 23 = .ok (.aload_n 0, 1) := by decide +kernel
theorem dX2_canRide_24 : decode cX2_canRide 24 = .ok (.getfield 59, 3) := by decide +kernel
theorem dX2_canRide_27 : decode cX2_canRide 27 = .ok (.if_icmp .ge 67, 3) := by decide +kernel
theorem dX2_canRide_30 : decode cX2_canRide 30 = .ok (.aload_n 0, 1) := by decide +kernel
theorem dX2_canRide_31 : decode cX2_canRide 31 = .ok (.getfield 62, 3) := by decide +kernel
theorem dX2_canRide_34 : decode cX2_canRide 34 = .ok (.iload_n 3, 1) := by decide +kernel
theorem dX2_canRide_35 : decode cX2_canRide 35 = .ok (.aaload, 1) := by decide +kernel
theorem dX2_canRide_36 : decode cX2_canRide 36 = .ok (.astore 4, 2) := by decide +kernel
theorem dX2_canRide_38 : decode cX2_canRide 38 = .ok (.aload 4, 2) := by decide +kernel
theorem dX2_canRide_40 : decode cX2_canRide 40 = .ok (.iload_n 1, 1) := by decide +kernel
theorem dX2_canRide_41 : decode cX2_canRide 41 = .ok (.invokevirtual 66, 3) := by decide +kernel
theorem dX2_canRide_44 : decode cX2_canRide 44 = .ok (.istore 5, 2) := by decide +kernel
theorem dX2_canRide_46 : decode cX2_canRide 46 = .ok (.aload 4, 2) := by decide +kernel
theorem dX2_canRide_48 : decode cX2_canRide 48 = .ok (.iload_n 2, 1) := by decide +kernel
theorem dX2_canRide_49 : decode cX2_canRide 49 = .ok (.invokevirtual 66, 3) := by decide +kernel
theorem dX2_canRide_52 : decode cX2_canRide 52 = .ok (.istore 6, 2) := by decide +kernel
theorem dX2_canRide_54 : decode cX2_canRide 54 = .ok (.aload 4, 2) := by decide +kernel
theorem dX2_canRide_56 : decode cX2_canRide 56 = .ok (.invokevirtual 72, 3) := by decide +kernel
theorem dX2_canRide_59 : decode cX2_canRide 59 = .ok (.ifCond .eq 29, 3) := by decide +kernel
theorem dX2_canRide_62 : decode cX2_canRide 62 = .ok (.iload 5, 2) := by decide +kernel
theorem dX2_canRide_64 : decode cX2_canRide 64 = .ok (.iconst (-1), 1) := by decide +kernel
theorem dX2_canRide_65 : decode cX2_canRide 65 = .ok (.if_icmp .eq 23, 3) := by decide +kernel
theorem dX2_canRide_68 : decode cX2_canRide 68 = .ok (.iload 6, 2) := by decide +kernel
theorem dX2_canRide_70 : decode cX2_canRide 70 = .ok (.iconst (-1), 1) := by decide +kernel
theorem dX2_canRide_71 : decode cX2_canRide 71 = .ok (.if_icmp .eq 17, 3) := by decide +kernel
theorem dX2_canRide_74 : decode cX2_canRide 74 = .ok (.iload 6, 2) := by decide +kernel
theorem dX2_canRide_76 : decode cX2_canRide 76 = .ok (.ifCond .eq 10, 3) := by decide +kernel
theorem dX2_canRide_79 : decode cX2_canRide 79 = .ok (.iload 6, 2) := by decide +kernel
theorem dX2_canRide_81 : decode cX2_canRide 81 = .ok (.iload 5, 2) := by decide +kernel
theorem dX2_canRide_83 : decode cX2_canRide 83 = .ok (.if_icmp .le 5, 3) := by decide +kernel
theorem dX2_canRide_86 : decode cX2_canRide 86 = .ok (.iconst 1, 1) := by decide +kernel
theorem dX2_canRide_87 : decode cX2_canRide 87 = .ok (.ireturn, 1) := by decide +kernel
theorem dX2_canRide_88 : decode cX2_canRide 88 = .ok (.iinc 3 1, 3) := by decide +kernel
theorem dX2_canRide_91 : decode cX2_canRide 91 = .ok (.goto (-69), 3) := by decide +kernel
theorem dX2_canRide_94 : decode cX2_canRide 94 = .ok (.iconst 0, 1) := by decide +kernel
theorem dX2_canRide_95 : decode cX2_canRide 95 = .ok (.ireturn, 1) := by decide +kernel
theorem dX2_directly_0 : decode cX2_directly 0 = .ok (.iload_n 1, 1) := by decide +kernel
theorem dX2_directly_1 : decode cX2_directly 1 = .ok (.iload_n 2, 1) := by decide +kernel
theorem dX2_directly_2 : decode cX2_directly 2 = .ok (.if_icmp .eq 12, 3) := by decide +kernel
theorem dX2_directly_5 : decode cX2_directly 5 = .ok (.aload_n 0, 1) := by decide +kernel
theorem dX2_directly_6 : decode cX2_directly 6 = .ok (.iload_n 1, 1) := by decide +kernel
theorem dX2_directly_7 : decode cX2_directly 7 = .ok (.iload_n 2, 1) := by decide +kernel
theorem dX2_directly_8 : decode cX2_directly 8 = .ok (.invokevirtual 47, 3) := by decide +kernel
theorem dX2_directly_11 : decode cX2_directly 11 = .ok (.ifCond .eq 5, 3) := by decide +kernel
theorem dX2_directly_14 : decode cX2_directly 14 = .ok (.iconst 0, 1) := by decide +kernel
theorem dX2_directly_15 : decode cX2_directly 15 = .ok (.ireturn, 1) := by decide +kernel
theorem dX2_directly_16 : decode cX2_directly 16 = .ok (.aload_n 0, 1) := by decide +kernel
theorem dX2_directly_17 : decode cX2_directly 17 = .ok (.iload_n 1, 1) := by decide +kernel
theorem dX2_directly_18 : decode cX2_directly 18 = .ok (.iload_n 2, 1) := by decide +kernel
theorem dX2_directly_19 : decode cX2_directly 19 = .ok (.invokestatic 51, 3) := by decide +kernel
theorem dX2_directly_22 : decode cX2_directly 22 = .ok (.ifCond .eq 7, 3) := by decide +kernel
theorem dX2_directly_25 : decode cX2_directly 25 = .ok (.iconst 1, 1) := by decide +kernel
theorem dX2_directly_26 : decode cX2_directly 26 = .ok (.goto 5, 3) := by decide +kernel
theorem dX2_directly_29 : decode cX2_directly 29 = .ok (.ldc 18, 2) := by decide +kernel
theorem dX2_directly_31 : decode cX2_directly 31 = .ok (.ireturn, 1) := by decide +kernel
theorem dX2_combine_0 : decode cX2_combine 0 = .ok (.iconst 0, 1) := by decide +kernel
theorem dX2_combine_1 : decode cX2_combine 1 = .ok (.istore_n 2, 1) := by decide +kernel
theorem dX2_combine_2 : decode cX2_combine 2 = .ok (.iload_n 2, 1) := by decide +kernel
theorem dX2_combine_3 : decode cX2_combine 3 = .ok (.iload_n 1, 1) := by decide +kernel
theorem dX2_combine_4 : decode cX2_combine 4 = .ok (.if_icmp .ge 79, 3) := by decide +kernel
theorem dX2_combine_7 : decode cX2_combine 7 = .ok (.iconst 0, 1) := by decide +kernel
theorem dX2_combine_8 : decode cX2_combine 8 = .ok (.istore_n 3, 1) := by decide +kernel
theorem dX2_combine_9 : decode cX2_combine 9 = .ok (.iload_n 3, 1) := by decide +kernel
theorem dX2_combine_10 : decode cX2_combine 10 = .ok (.iload_n 1, 1) := by decide +kernel
theorem dX2_combine_11 : decode cX2_combine 11 = .ok (.if_icmp .ge 66, 3) := by decide +kernel
theorem dX2_combine_14 : decode cX2_combine 14 = .ok (.iconst 0, 1) := by decide +kernel
theorem dX2_combine_15 : decode cX2_combine 15 = .ok (.istore 4, 2) := by decide +kernel
theorem dX2_combine_17 : decode cX2_combine 17 = .ok (.iload 4, 2) := by decide +kernel
theorem dX2_combine_19 : decode cX2_combine 19 = .ok (.iload_n 1, 1) := by decide +kernel
theorem dX2_combine_20 : decode cX2_combine 20 = .ok (.if_icmp .ge 51, 3) := by decide +kernel
theorem dX2_combine_23 : decode cX2_combine 23 = .ok (.aload_n 0, 1) := by decide +kernel
theorem dX2_combine_24 : decode cX2_combine 24 = .ok (.iload_n 3, 1) := by decide +kernel
theorem dX2_combine_25 : decode cX2_combine 25 = .ok (.iload_n 2, 1) := by decide +kernel
theorem dX2_combine_26 : decode cX2_combine 26 = .ok (.invokevirtual 76, 3) := by decide +kernel
theorem dX2_combine_29 : decode cX2_combine 29 = .ok (.aload_n 0, 1) := by decide +kernel
theorem dX2_combine_30 : decode cX2_combine 30 = .ok (.iload_n 2, 1) := by decide +kernel
theorem dX2_combine_31 : decode cX2_combine 31 = .ok (.iload 4, 2) := by decide +kernel
theorem dX2_combine_33 : decode cX2_combine 33 = .ok (.invokevirtual 76, 3) := by decide +kernel
theorem dX2_combine_36 : decode cX2_combine 36 = .ok (.iadd, 1) := by decide +kernel
theorem dX2_combine_37 : decode cX2_combine 37 = .ok (.istore 5, 2) := by decide +kernel
theorem dX2_combine_39 : decode cX2_combine 39 = .ok (.iload 5, 2) := by decide +kernel
theorem dX2_combine_41 : decode cX2_combine 41 = .ok (.aload_n 0, 1) := by decide +kernel
theorem dX2_combine_42 : decode cX2_combine 42 = .ok (.iload_n 3, 1) := by decide +kernel
theorem dX2_combine_43 : decode cX2_combine 43 = .ok (.iload 4, 2) := by decide +kernel
theorem dX2_combine_45 : decode cX2_combine 45 = .ok (.invokevirtual 76, 3) := by decide +kernel
theorem dX2_combine_48 : decode cX2_combine 48 = .ok (.if_icmp .ge 17, 3) := by decide +kernel
theorem dX2_combine_51 : decode cX2_combine 51 = .ok (.aload_n 0, 1) := by decide +kernel
theorem dX2_combine_52 : decode cX2_combine 52 = .ok (.getfield 15, 3) := by decide +kernel
theorem dX2_combine_55 : decode cX2_combine 55 = .ok (.iload_n 3, 1) := by decide +kernel
theorem dX2_combine_56 : decode cX2_combine 56 = .ok (.bipush 10, 2) := by decide +kernel
theorem dX2_combine_58 : decode cX2_combine 58 = .ok (.imul, 1) := by decide +kernel
theorem dX2_combine_59 : decode cX2_combine 59 = .ok (.iload 4, 2) := by decide +kernel
theorem dX2_combine_61 : decode cX2_combine 61 = .ok (.iadd, 1) := by decide +kernel
theorem dX2_combine_62 : decode cX2_combine 62 = .ok (.iload 5, 2) := by decide +kernel
theorem dX2_combine_64 : decode cX2_combine 64 = .ok (.iastore, 1) := by decide +kernel
theorem dX2_combine_65 : decode cX2_combine 65 = .ok (.iinc 4 1, 3) := by decide +kernel
theorem dX2_combine_68 : decode cX2_combine 68 = .ok (.goto (-51), 3) := by decide +kernel
theorem dX2_combine_71 : decode cX2_combine 71 = .ok (.iinc 3 1, 3) := by decide +kernel
theorem dX2_combine_74 : decode cX2_combine 74 = .ok (.goto (-65), 3) := by decide +kernel
theorem dX2_combine_77 : decode cX2_combine 77 = .ok (.iinc 2 1, 3) := by decide +kernel
theorem dX2_combine_80 : decode cX2_combine 80 = .ok (.goto (-78), 3) := by decide +kernel
theorem dX2_combine_83 : decode cX2_combine 83 = .ok (.return_, 1) := by decide +kernel
theorem dX5_init_0 : decode cX5_init 0 = .ok (.aload_n 0, 1) := by decide +kernel
theorem dX5_init_1 : decode cX5_init 1 = .ok (.invokespecial 3, 3) := by decide +kernel
theorem dX5_init_4 : decode cX5_init 4 = .ok (.aload_n 0, 1) := by decide +kernel
theorem dX5_init_5 : decode cX5_init 5 = .ok (.bipush 100, 2) := by decide +kernel
theorem dX5_init_7 : decode cX5_init 7 = .ok (.newarray .int, 2) := by decide +kernel
theorem dX5_init_9 : decode cX5_init 9 = .ok (.putfield 9, 3) := by decide +kernel
theorem dX5_init_12 : decode cX5_init 12 = .ok (.aload_n 0, 1) := by decide +kernel
theorem dX5_init_13 : decode cX5_init 13 = .ok (.bipush 10, 2) := by decide +kernel
theorem dX5_init_15 : decode cX5_init 15 = .ok (.newarray .int, 2) := by decide +kernel
theorem dX5_init_17 : decode cX5_init 17 = .ok (.putfield 15, 3) := by decide +kernel
theorem dX5_init_20 : decode cX5_init 20 = .ok (.aload_n 0, 1) := by decide +kernel
theorem dX5_init_21 : decode cX5_init 21 = .ok (.bipush 10, 2) := by decide +kernel
theorem dX5_init_23 : decode cX5_init 23 = .ok (.newarray .int, 2) := by decide +kernel
theorem dX5_init_25 : decode cX5_init 25 = .ok (.putfield 18, 3) := by decide +kernel
theorem dX5_init_28 : decode cX5_init 28 = .ok (.aload_n 0, 1) := by decide +kernel
theorem dX5_init_29 : decode cX5_init 29 = .ok (.iconst 0, 1) := by decide +kernel
theorem dX5_init_30 : decode cX5_init 30 = .ok (.putfield 21, 3) := by decide +kernel
theorem dX5_init_33 : decode cX5_init 33 = .ok (.aload_n 0, 1) := by decide +kernel
theorem dX5_init_34 : decode cX5_init 34 = .ok (.bipush 30, 2) := by decide +kernel
theorem dX5_init_36 : decode cX5_init 36 = .ok (.newarray .int, 2) := by decide +kernel
theorem dX5_init_38 : decode cX5_init 38 = .ok (.putfield 25, 3) := by decide +kernel
theorem dX5_init_41 : decode cX5_init 41 = .ok (.aload_n 0, 1) := by decide +kernel
theorem dX5_init_42 : decode cX5_init 42 = .ok (.bipush 30, 2) := by decide +kernel
theorem dX5_init_44 : decode cX5_init 44 = .ok (.newarray .int, 2) := by decide +kernel
theorem dX5_init_46 : decode cX5_init 46 = .ok (.putfield 28, 3) := by decide +kernel
theorem dX5_init_49 : decode cX5_init 49 = .ok (.aload_n 0, 1) := by decide +kernel
theorem dX5_init_50 : decode cX5_init 50 = .ok (.bipush 30, 2) := by decide +kernel
theorem dX5_init_52 : decode cX5_init 52 = .ok (.newarray .int, 2) := by decide +kernel
theorem dX5_init_54 : decode cX5_init 54 = .ok (.putfield 31, 3) := by decide +kernel
theorem dX5_init_57 : decode cX5_init 57 = .ok (.return_, 1) := by decide +kernel
theorem dX5_greatest_0 : decode cX5_greatest 0 = .ok (.aload_n 0, 1) := by decide +kernel
theorem dX5_greatest_1 : decode cX5_greatest 1 = .ok (.aload_n 1, 1) := by decide +kernel
theorem dX5_greatest_2 : decode cX5_greatest 2 = .ok (.invokevirtual 34, 3) := by decide +kernel
theorem dX5_greatest_5 : decode cX5_greatest 5 = .ok (.aload_n 0, 1) := by decide +kernel
theorem dX5_greatest_6 : decode cX5_greatest 6 = .ok (.getfield 9, 3) := by decide +kernel
theorem dX5_greatest_9 : decode cX5_greatest 9 = .ok (.iconst 0, 1) := by decide +kernel
theorem dX5_greatest_10 : decode cX5_greatest 10 = .ok (.invokestatic 38, 3) := by decide +kernel
theorem dX5_greatest_13 : decode cX5_greatest 13 = .ok (.iconst 0, 1) := by decide +kernel
theorem dX5_greatest_14 : decode cX5_greatest 14 = .ok (.istore 4, 2) := by decide +kernel
theorem dX5_greatest_16 : decode cX5_greatest 16 = .ok (.iload 4, 2) := by decide +kernel
theorem dX5_greatest_18 : decode cX5_greatest 18 = .ok (.aload_n 0, 1) := by decide +kernel
theorem dX5_greatest_19 : decode cX5_greatest 19 = .ok (.getfield 21, 3) := by decide +kernel
theorem dX5_greatest_22 : decode cX5_greatest 22 = .ok (.if_icmp .ge 42, 3) := by decide +kernel
theorem dX5_greatest_25 : decode cX5_greatest 25 = .ok (.aload_n 0, 1) := by decide +kernel
theorem dX5_greatest_26 : decode cX5_greatest 26 = .ok (.getfield 9, 3) := by decide +kernel
theorem dX5_greatest_29 : decode cX5_greatest 29 = .ok (.aload_n 0, 1) := by decide +kernel
theorem dX5_greatest_30 : decode cX5_greatest 30 = .ok (.getfield 25, 3) := by decide +kernel
theorem dX5_greatest_33 : decode cX5_greatest 33 = .ok (.iload 4, 2) := by decide +kernel
theorem dX5_greatest_35 : decode cX5_greatest 35 = .ok (.iaload, 1) := by decide +kernel
theorem dX5_greatest_36 : decode cX5_greatest 36 = .ok (.bipush 10, 2) := by decide +kernel
theorem dX5_greatest_38 : decode cX5_greatest 38 = .ok (.imul, 1) := by decide +kernel
theorem dX5_greatest_39 : decode cX5_greatest 39 = .ok (.aload_n 0, 1) := by decide +kernel
theorem dX5_greatest_40 : decode cX5_greatest 40 = .ok (.getfield 28, 3) := by decide +kernel
theorem dX5_greatest_43 : decode cX5_greatest 43 = .ok (.iload 4, 2) := by decide +kernel
theorem dX5_greatest_45 : decode cX5_greatest 45 = .ok (.iaload, 1) := by decide +kernel
theorem dX5_greatest_46 : decode cX5_greatest 46 = .ok (.iadd, 1) := by decide +kernel
theorem dX5_greatest_47 : decode cX5_greatest 47 = .ok (.dup2, 1) := by decide +kernel
theorem dX5_greatest_48 : decode cX5_greatest 48 = .ok (.iaload, 1) := by decide +kernel
theorem dX5_greatest_49 : decode cX5_greatest 49 = .ok (.aload_n 0, 1) := by decide +kernel
theorem dX5_greatest_50 : decode cX5_greatest 50 = .ok (.getfield 31, 3) := by decide +kernel
theorem dX5_greatest_53 : decode cX5_greatest 53 = .ok (.iload 4, 2) := by decide +kernel
theorem dX5_greatest_55 : decode cX5_greatest 55 = .ok (.iaload, 1) := by decide +kernel
theorem dX5_greatest_56 : decode cX5_greatest 56 = .ok (.iadd, 1) := by decide +kernel
theorem dX5_greatest_57 : decode cX5_greatest 57 = .ok (.iastore, 1) := by decide +kernel
theorem dX5_greatest_58 : decode cX5_greatest 58 = .ok (.iinc 4 1, 3) := by decide +kernel
theorem dX5_greatest_61 : decode cX5_greatest 61 = .ok (.goto (-45), 3) := by decide +kernel
theorem dX5_greatest_64 : decode cX5_greatest 64 = .ok (.iconst 0, 1) := by decide +kernel
theorem dX5_greatest_65 : decode cX5_greatest 65 = .ok (.istore 4, 2) := by decide +kernel
theorem dX5_greatest_67 : decode cX5_greatest 67 = .ok (.iconst 0, 1) := by decide +kernel
theorem dX5_greatest_68 : decode cX5_greatest 68 = .ok (.istore 5, 2) := by decide +kernel
theorem dX5_greatest_70 : decode cX5_greatest 70 = .ok (.iload 5, 2) := by decide +kernel
theorem dX5_greatest_72 : decode cX5_greatest 72 = .ok (.sipush 1000, 3) := by decide +kernel
theorem dX5_greatest_75 : decode cX5_greatest 75 = .ok (.if_icmp .ge 33, 3) := by decide +kernel
theorem dX5_greatest_78 : decode cX5_greatest 78 = .ok (.aload_n 0, 1) := by decide +kernel
theorem dX5_greatest_79 : decode cX5_greatest 79 = .ok (.aload_n 1, 1) := by decide +kernel
theorem dX5_greatest_80 : decode cX5_greatest 80 = .ok (.getfield 44, 3) := by decide +kernel
theorem dX5_greatest_83 : decode cX5_greatest 83 = .ok (.iload_n 2, 1) := by decide +kernel
theorem dX5_greatest_84 : decode cX5_greatest 84 = .ok (.iload_n 3, 1) := by decide +kernel
theorem dX5_greatest_85 : decode cX5_greatest 85 = .ok (.invokevirtual 49, 3) := by decide +kernel
theorem dX5_greatest_88 : decode cX5_greatest 88 = .ok (.ifCond .eq 20, 3) := by decide +kernel
theorem dX5_greatest_91 : decode cX5_greatest 91 = .ok (.iload 4, 2) := by decide +kernel
theorem dX5_greatest_93 : decode cX5_greatest 93 = .ok (.aload_n 0, 1) := by decide +kernel
theorem dX5_greatest_94 : decode cX5_greatest 94 = .ok (.iload_n 2, 1) := by decide +kernel
theorem dX5_greatest_95 : decode cX5_greatest 95 = .ok (.iload_n 3, 1) := by decide +kernel
theorem dX5_greatest_96 : decode cX5_greatest 96 = .ok (.invokevirtual 53, 3) := by decide +kernel
theorem dX5_greatest_99 : decode cX5_greatest 99 = .ok (.iadd, 1) := by decide +kernel
theorem dX5_greatest_100 : decode cX5_greatest 100 = .ok (.istore 4, 2) := by decide +kernel
theorem dX5_greatest_102 : decode cX5_greatest 102 = .ok (.iinc 5 1, 3) := by decide +kernel
theorem dX5_greatest_105 : decode cX5_greatest 105 = .ok (.goto (-35), 3) := by decide +kernel
theorem dX5_greatest_108 : decode cX5_greatest 108 = .ok (.iload 4, 2) := by decide +kernel
theorem dX5_greatest_110 : decode cX5_greatest 110 = .ok (.ireturn, 1) := by decide +kernel
theorem dX5_leastCut_0 : decode cX5_leastCut 0 = .ok (.aload_n 0, 1) := by decide +kernel
theorem dX5_leastCut_1 : decode cX5_leastCut 1 = .ok (.aload_n 1, 1) := by decide +kernel
theorem dX5_leastCut_2 : decode cX5_leastCut 2 = .ok (.invokevirtual 34, 3) := by decide +kernel
theorem dX5_leastCut_5 : decode cX5_leastCut 5 = .ok (.ldc 57, 2) := by decide +kernel
theorem dX5_leastCut_7 : decode cX5_leastCut 7 = .ok (.istore 4, 2) := by decide +kernel
theorem dX5_leastCut_9 : decode cX5_leastCut 9 = .ok (.iconst 1, 1) := by decide +kernel
theorem dX5_leastCut_10 : decode cX5_leastCut 10 = .ok (.aload_n 1, 1) := by decide +kernel
theorem dX5_leastCut_11 : decode cX5_leastCut 11 = .ok (.getfield 44, 3) := by decide +kernel
theorem dX5_leastCut_14 : decode cX5_leastCut 14 = .ok (.ishl, 1) := by decide +kernel
theorem dX5_leastCut_15 : decode cX5_leastCut 15 = .ok (.istore 5, 2) := by decide +kernel
theorem dX5_leastCut_17 : decode cX5_leastCut 17 = .ok (.iconst 0, 1) := by decide +kernel
theorem dX5_leastCut_18 : decode cX5_leastCut 18 = .ok (.istore 6, 2) := by decide +kernel
theorem dX5_leastCut_20 : decode cX5_leastCut 20 = .ok (.iload 6, 2) := by decide +kernel
theorem dX5_leastCut_22 : decode cX5_leastCut 22 = .ok (.iload 5, 2) := by decide +kernel
theorem dX5_leastCut_24 : decode cX5_leastCut 24 = .ok (.if_icmp .ge 41, 3) := by decide +kernel
theorem dX5_leastCut_27 : decode cX5_leastCut 27 = .ok (.iload 6, 2) := by decide +kernel
theorem dX5_leastCut_29 : decode cX5_leastCut 29 = .ok (.iload_n 2, 1) := by decide +kernel
theorem dX5_leastCut_30 : decode cX5_leastCut 30 = .ok (.ishr, 1) := by decide +kernel
theorem dX5_leastCut_31 : decode cX5_leastCut 31 = .ok (.iconst 1, 1) := by decide +kernel
theorem dX5_leastCut_32 : decode cX5_leastCut 32 = .ok (.iand, 1) := by decide +kernel
theorem dX5_leastCut_33 : decode cX5_leastCut 33 = .ok (.iconst 1, 1) := by decide +kernel
theorem dX5_leastCut_34 : decode cX5_leastCut 34 = .ok (.if_icmp .ne 25, 3) := by decide +kernel
theorem dX5_leastCut_37 : decode cX5_leastCut 37 = .ok (.iload 6, 2) := by decide +kernel
theorem dX5_leastCut_39 : decode cX5_leastCut 39 = .ok (.iload_n 3, 1) := by decide +kernel
theorem dX5_leastCut_40 : decode cX5_leastCut 40 = .ok (.ishr, 1) := by decide +kernel
theorem dX5_leastCut_41 : decode cX5_leastCut 41 = .ok (.iconst 1, 1) := by decide +kernel
theorem dX5_leastCut_42 : decode cX5_leastCut 42 = .ok (.iand, 1) := by decide +kernel
theorem dX5_leastCut_43 : decode cX5_leastCut 43 = .ok (.ifCond .ne 16, 3) := by decide +kernel
theorem dX5_leastCut_46 : decode cX5_leastCut 46 = .ok (.iload 4, 2) := by decide +kernel
theorem dX5_leastCut_48 : decode cX5_leastCut 48 = .ok (.aload_n 0, 1) := by decide +kernel
theorem dX5_leastCut_49 : decode cX5_leastCut 49 = .ok (.iload 6, 2) := by decide +kernel
theorem dX5_leastCut_51 : decode cX5_leastCut 51 = .ok (.invokevirtual 58, 3) := by decide +kernel
theorem dX5_leastCut_54 : decode cX5_leastCut 54 = .ok (.invokestatic 62, 3) := by decide +kernel
theorem dX5_leastCut_57 : decode cX5_leastCut 57 = .ok (.istore 4, 2) := by decide +kernel
theorem dX5_leastCut_59 : decode cX5_leastCut 59 = .ok (.iinc 6 1, 3) := by decide +kernel
theorem dX5_leastCut_62 : decode cX5_leastCut 62 = .ok (.goto (-42), 3) := by decide +kernel
theorem dX5_leastCut_65 : decode cX5_leastCut 65 = .ok (.iload 4, 2) := by decide +kernel
theorem dX5_leastCut_67 : decode cX5_leastCut 67 = .ok (.ireturn, 1) := by decide +kernel
theorem dX5_gatherHops_0 : decode cX5_gatherHops 0 = .ok (.aload_n 0, 1) := by decide +kernel
theorem dX5_gatherHops_1 : decode cX5_gatherHops 1 = .ok (.iconst 0, 1) := by decide +kernel
theorem dX5_gatherHops_2 : decode cX5_gatherHops 2 = .ok (.putfield 21, 3) := by decide +kernel
theorem dX5_gatherHops_5 : decode cX5_gatherHops 5 = .ok (.iconst 0, 1) := by decide +kernel
theorem dX5_gatherHops_6 : decode cX5_gatherHops 6 = .ok (.istore_n 2, 1) := by decide +kernel
theorem dX5_gatherHops_7 : decode cX5_gatherHops 7 = .ok (.iload_n 2, 1) := by decide +kernel
theorem dX5_gatherHops_8 : decode cX5_gatherHops 8 = .ok (.aload_n 1, 1) := by decide +kernel
theorem dX5_gatherHops_9 : decode cX5_gatherHops 9 = .ok (.getfield 67, 3) := by decide +kernel
theorem dX5_gatherHops_12 : decode cX5_gatherHops 12 = .ok (.if_icmp .ge 113, 3) := by decide +kernel
theorem dX5_gatherHops_15 : decode cX5_gatherHops 15 = .ok (.aload_n 1, 1) := by decide +kernel
theorem dX5_gatherHops_16 : decode cX5_gatherHops 16 = .ok (.getfield 70, 3) := by decide +kernel
theorem dX5_gatherHops_19 : decode cX5_gatherHops 19 = .ok (.iload_n 2, 1) := by decide +kernel
theorem dX5_gatherHops_20 : decode cX5_gatherHops 20 = .ok (.aaload, 1) := by decide +kernel
theorem dX5_gatherHops_21 : decode cX5_gatherHops 21 = .ok (.astore_n 3, 1) := by decide +kernel
theorem dX5_gatherHops_22 : decode cX5_gatherHops 22 = .ok (.aload_n 3, 1) := by decide +kernel
theorem dX5_gatherHops_23 : decode cX5_gatherHops 23 = .ok (.invokevirtual 74, 3) := by decide +kernel
theorem dX5_gatherHops_26 : decode cX5_gatherHops 26 = .ok (.ifCond .eq 10, 3) := by decide +kernel
theorem dX5_gatherHops_29 : decode cX5_gatherHops 29 = .ok (.aload_n 3, 1) := by decide +kernel
theorem dX5_gatherHops_30 : decode cX5_gatherHops 30 = .ok (.getfield 80, 3) := by decide +kernel
theorem dX5_gatherHops_33 : decode cX5_gatherHops 33 = .ok (.goto 4, 3) := by decide +kernel
theorem dX5_gatherHops_36 : decode cX5_gatherHops 36 = .ok (.iconst 0, 1) := by decide +kernel
theorem dX5_gatherHops_37 : decode cX5_gatherHops 37 = .ok (.istore 4, 2) := by decide +kernel
theorem dX5_gatherHops_39 : decode cX5_gatherHops 39 = .ok (.iconst 0, 1) := by decide +kernel
theorem dX5_gatherHops_40 : decode cX5_gatherHops 40 = .ok (.istore 5, 2) := by decide +kernel
theorem dX5_gatherHops_42 : decode cX5_gatherHops 42 = .ok (.iload 5, 2) := by decide +kernel
theorem dX5_gatherHops_44 : decode cX5_gatherHops 44 = .ok (.iload 4, 2) := by decide +kernel
theorem dX5_gatherHops_46 : decode cX5_gatherHops 46 = .ok (.if_icmp .ge 73, 3) := by decide +kernel
theorem dX5_gatherHops_49 : decode cX5_gatherHops 49 = .ok (.aload_n 0, 1) := by decide +kernel
theorem dX5_gatherHops_50 : decode cX5_gatherHops 50 = .ok (.getfield 21, 3) := by decide +kernel
theorem dX5_gatherHops_53 : decode cX5_gatherHops 53 = .ok (.bipush 30, 2) := by decide +kernel
theorem dX5_gatherHops_55 : decode cX5_gatherHops 55 = .ok (.if_icmp .ge 64, 3) := by decide +kernel
theorem dX5_gatherHops_58 : decode cX5_gatherHops 58 = .ok (.aload_n 0, 1) := by decide +kernel
theorem dX5_gatherHops_59 : decode cX5_gatherHops 59 = .ok (.getfield 25, 3) := by decide +kernel
theorem dX5_gatherHops_62 : decode cX5_gatherHops 62 = .ok (.aload_n 0, 1) := by decide +kernel
theorem dX5_gatherHops_63 : decode cX5_gatherHops 63 = .ok (.getfield 21, 3) := by decide +kernel
theorem dX5_gatherHops_66 : decode cX5_gatherHops 66 = .ok (.aload_n 3, 1) := by decide +kernel
theorem dX5_gatherHops_67 : decode cX5_gatherHops 67 = .ok (.iload 5, 2) := by decide +kernel
theorem dX5_gatherHops_69 : decode cX5_gatherHops 69 = .ok (.invokevirtual 83, 3) := by decide +kernel
theorem dX5_gatherHops_72 : decode cX5_gatherHops 72 = .ok (.iastore, 1) := by decide +kernel
theorem dX5_gatherHops_73 : decode cX5_gatherHops 73 = .ok (.aload_n 0, 1) := by decide +kernel
theorem dX5_gatherHops_74 : decode cX5_gatherHops 74 = .ok (.getfield 28, 3) := by decide +kernel
theorem dX5_gatherHops_77 : decode cX5_gatherHops 77 = .ok (.aload_n 0, 1) := by decide +kernel
theorem dX5_gatherHops_78 : decode cX5_gatherHops 78 = .ok (.getfield 21, 3) := by decide +kernel
theorem dX5_gatherHops_81 : decode cX5_gatherHops 81 = .ok (.aload_n 3, 1) := by decide +kernel
theorem dX5_gatherHops_82 : decode cX5_gatherHops 82 = .ok (.iload 5, 2) := by decide +kernel
theorem dX5_gatherHops_84 : decode cX5_gatherHops 84 = .ok (.iconst 1, 1) := by decide +kernel
theorem dX5_gatherHops_85 : decode cX5_gatherHops 85 = .ok (.iadd, 1) := by decide +kernel
theorem dX5_gatherHops_86 : decode cX5_gatherHops 86 = .ok (.invokevirtual 83, 3) := by decide +kernel
theorem dX5_gatherHops_89 : decode cX5_gatherHops 89 = .ok (.iastore, 1) := by decide +kernel
theorem dX5_gatherHops_90 : decode cX5_gatherHops 90 = .ok (.aload_n 0, 1) := by decide +kernel
theorem dX5_gatherHops_91 : decode cX5_gatherHops 91 = .ok (.getfield 31, 3) := by decide +kernel
theorem dX5_gatherHops_94 : decode cX5_gatherHops 94 = .ok (.aload_n 0, 1) := by decide +kernel
theorem dX5_gatherHops_95 : decode cX5_gatherHops 95 = .ok (.getfield 21, 3) := by decide +kernel
theorem dX5_gatherHops_98 : decode cX5_gatherHops 98 = .ok (.aload_n 3, 1) := by decide +kernel
theorem dX5_gatherHops_99 : decode cX5_gatherHops 99 = .ok (.getfield 86, 3) := by decide +kernel
theorem dX5_gatherHops_102 : decode cX5_gatherHops 102 = .ok (.iastore, 1) := by decide +kernel
theorem dX5_gatherHops_103 : decode cX5_gatherHops 103 = .ok (.aload_n 0, 1) := by decide +kernel
theorem dX5_gatherHops_104 : decode cX5_gatherHops 104 = .ok (.dup, 1) := by decide +kernel
theorem dX5_gatherHops_105 : decode cX5_gatherHops 105 = .ok (.getfield 21, 3) := by decide +kernel
theorem dX5_gatherHops_108 : decode cX5_gatherHops 108 = .ok (.iconst 1, 1) := by decide +kernel
theorem dX5_gatherHops_109 : decode cX5_gatherHops 109 = .ok (.iadd, 1) := by decide +kernel
theorem dX5_gatherHops_110 : decode cX5_gatherHops 110 = .ok (.putfield 21, 3) := by decide +kernel
theorem dX5_gatherHops_113 : decode cX5_gatherHops 113 = .ok (.iinc 5 1, 3) := by decide +kernel
theorem dX5_gatherHops_116 : decode cX5_gatherHops 116 = .ok (.goto (-74), 3) := by decide +kernel
theorem dX5_gatherHops_119 : decode cX5_gatherHops 119 = .ok (.iinc 2 1, 3) := by decide +kernel
theorem dX5_gatherHops_122 : decode cX5_gatherHops 122 = .ok (.goto (-115), 3) := by decide +kernel
theorem dX5_gatherHops_125 : decode cX5_gatherHops 125 = .ok (.return_, 1) := by decide +kernel
theorem dX5_seatsOut_0 : decode cX5_seatsOut 0 = .ok (.iconst 0, 1) := by decide +kernel
theorem dX5_seatsOut_1 : decode cX5_seatsOut 1 = .ok (.istore_n 2, 1) := by decide +kernel
theorem dX5_seatsOut_2 : decode cX5_seatsOut 2 = .ok (.iconst 0, 1) := by decide +kernel
theorem dX5_seatsOut_3 : decode cX5_seatsOut 3 = .ok (.istore_n 3, 1) := by decide +kernel
theorem dX5_seatsOut_4 : decode cX5_seatsOut 4 = .ok (.iload_n 3, 1) := by decide +kernel
theorem dX5_seatsOut_5 : decode cX5_seatsOut 5 = .ok (.aload_n 0, 1) := by decide +kernel
theorem dX5_seatsOut_6 : decode cX5_seatsOut 6 = .ok (.getfield 21, 3) := by decide +kernel
theorem dX5_seatsOut_9 : decode cX5_seatsOut 9 = .ok (.if_icmp .ge 45, 3) := by decide +kernel
theorem dX5_seatsOut_12 : decode cX5_seatsOut 12 = .ok (.iload_n 1, 1) := by decide +kernel
theorem dX5_seatsOut_13 : decode cX5_seatsOut 13 = .ok (.aload_n 0, 1) := by decide +kernel
theorem dX5_seatsOut_14 : decode cX5_seatsOut 14 = .ok (.getfield 25, 3) := by decide +kernel
theorem dX5_seatsOut_17 : decode cX5_seatsOut 17 = .ok (.iload_n 3, 1) := by decide +kernel
theorem dX5_seatsOut_18 : decode cX5_seatsOut 18 = .ok (.iaload, 1) := by decide +kernel
theorem dX5_seatsOut_19 : decode cX5_seatsOut 19 = .ok (.ishr, 1) := by decide +kernel
theorem dX5_seatsOut_20 : decode cX5_seatsOut 20 = .ok (.iconst 1, 1) := by decide +kernel
theorem dX5_seatsOut_21 : decode cX5_seatsOut 21 = .ok (.iand, 1) := by decide +kernel
theorem dX5_seatsOut_22 : decode cX5_seatsOut 22 = .ok (.iconst 1, 1) := by decide +kernel
theorem dX5_seatsOut_23 : decode cX5_seatsOut 23 = .ok (.if_icmp .ne 25, 3) := by decide +kernel
theorem dX5_seatsOut_26 : decode cX5_seatsOut 26 = .ok (.iload_n 1, 1) := by decide +kernel
theorem dX5_seatsOut_27 : decode cX5_seatsOut 27 = .ok (.aload_n 0, 1) := by decide +kernel
theorem dX5_seatsOut_28 : decode cX5_seatsOut 28 = .ok (.getfield 28, 3) := by decide +kernel
theorem dX5_seatsOut_31 : decode cX5_seatsOut 31 = .ok (.iload_n 3, 1) := by decide +kernel
theorem dX5_seatsOut_32 : decode cX5_seatsOut 32 = .ok (.iaload, 1) := by decide +kernel
theorem dX5_seatsOut_33 : decode cX5_seatsOut 33 = .ok (.ishr, 1) := by decide +kernel
theorem dX5_seatsOut_34 : decode cX5_seatsOut 34 = .ok (.iconst 1, 1) := by decide +kernel
theorem dX5_seatsOut_35 : decode cX5_seatsOut 35 = .ok (.iand, 1) := by decide +kernel
theorem dX5_seatsOut_36 : decode cX5_seatsOut 36 = .ok (.ifCond .ne 12, 3) := by decide +kernel
theorem dX5_seatsOut_39 : decode cX5_seatsOut 39 = .ok (.iload_n 2, 1) := by decide +kernel
theorem dX5_seatsOut_40 : decode cX5_seatsOut 40 = .ok (.aload_n 0, 1) := by decide +kernel
theorem dX5_seatsOut_41 : decode cX5_seatsOut 41 = .ok (.getfield 31, 3) := by decide +kernel
theorem dX5_seatsOut_44 : decode cX5_seatsOut 44 = .ok (.iload_n 3, 1) := by decide +kernel
theorem dX5_seatsOut_45 : decode cX5_seatsOut 45 = .ok (.iaload, 1) := by decide +kernel
theorem dX5_seatsOut_46 : decode cX5_seatsOut 46 = .ok (.iadd, 1) := by decide +kernel
theorem dX5_seatsOut_47 : decode cX5_seatsOut 47 = .ok (.istore_n 2, 1) := by decide +kernel
theorem dX5_seatsOut_48 : decode cX5_seatsOut 48 = .ok (.iinc 3 1, 3) := by decide +kernel
theorem dX5_seatsOut_51 : decode cX5_seatsOut 51 = .ok (.goto (-47), 3) := by decide +kernel
theorem dX5_seatsOut_54 : decode cX5_seatsOut 54 = .ok (.iload_n 2, 1) := by decide +kernel
theorem dX5_seatsOut_55 : decode cX5_seatsOut 55 = .ok (.ireturn, 1) := by decide +kernel
theorem dX5_findWay_0 : decode cX5_findWay 0 = .ok (.aload_n 0, 1) := by decide +kernel
theorem dX5_findWay_1 : decode cX5_findWay 1 = .ok (.getfield 15, 3) := by decide +kernel
theorem dX5_findWay_4 : decode cX5_findWay 4 = .ok (.iconst (-1), 1) := by decide +kernel
theorem dX5_findWay_5 : decode cX5_findWay 5 = .ok (.invokestatic 38, 3) := by decide +kernel
theorem dX5_findWay_8 : decode cX5_findWay 8 = .ok (.aload_n 0, 1) := by decide +kernel
theorem dX5_findWay_9 : decode cX5_findWay 9 = .ok (.getfield 15, 3) := by decide +kernel
theorem dX5_findWay_12 : decode cX5_findWay 12 = .ok (.iload_n 2, 1) := by decide +kernel
theorem dX5_findWay_13 : decode cX5_findWay 13 = .ok (.iload_n 2, 1) := by decide +kernel
theorem dX5_findWay_14 : decode cX5_findWay 14 = .ok (.iastore, 1) := by decide +kernel
theorem dX5_findWay_15 : decode cX5_findWay 15 = .ok (.aload_n 0, 1) := by decide +kernel
theorem dX5_findWay_16 : decode cX5_findWay 16 = .ok (.getfield 18, 3) := by decide +kernel
theorem dX5_findWay_19 : decode cX5_findWay 19 = .ok (.iconst 0, 1) := by decide +kernel
theorem dX5_findWay_20 : decode cX5_findWay 20 = .ok (.iload_n 2, 1) := by decide +kernel
theorem dX5_findWay_21 : decode cX5_findWay 21 = .ok (.iastore, 1) := by decide +kernel
theorem dX5_findWay_22 : decode cX5_findWay 22 = .ok (.iconst 1, 1) := by decide +kernel
theorem dX5_findWay_23 : decode cX5_findWay 23 = .ok (.istore 4, 2) := by decide +kernel
theorem dX5_findWay_25 : decode cX5_findWay 25 = .ok (.iconst 0, 1) := by decide +kernel
theorem dX5_findWay_26 : decode cX5_findWay 26 = .ok (.istore 5, 2) := by decide +kernel
theorem dX5_findWay_28 : decode cX5_findWay 28 = .ok (.iload 5, 2) := by decide +kernel
theorem dX5_findWay_30 : decode cX5_findWay 30 = .ok (.iload 4, 2) := by decide +kernel
theorem dX5_findWay_32 : decode cX5_findWay 32 = .ok (.if_icmp .ge 100, 3) := by decide +kernel
theorem dX5_findWay_35 : decode cX5_findWay 35 = .ok (.aload_n 0, 1) := by decide +kernel
theorem dX5_findWay_36 : decode cX5_findWay 36 = .ok (.getfield 18, 3) := by decide +kernel
theorem dX5_findWay_39 : decode cX5_findWay 39 = .ok (.iload 5, 2) := by decide +kernel
theorem dX5_findWay_41 : decode cX5_findWay 41 = .ok (.iaload, 1) := by decide +kernel
theorem dX5_findWay_42 : decode cX5_findWay 42 = .ok (.istore 6, 2) := by decide +kernel
theorem dX5_findWay_44 : decode cX5_findWay 44 = .ok (.iconst 0, 1) := by decide +kernel
theorem dX5_findWay_45 : decode cX5_findWay 45 = .ok (.istore 7, 2) := by decide +kernel
theorem dX5_findWay_47 : decode cX5_findWay 47 = .ok (.iload 7, 2) := by decide +kernel
theorem dX5_findWay_49 : decode cX5_findWay 49 = .ok (.iload_n 1, 1) := by decide +kernel
theorem dX5_findWay_50 : decode cX5_findWay 50 = .ok (.if_icmp .ge 76, 3) := by decide +kernel
theorem dX5_findWay_53 : decode cX5_findWay 53 = .ok (.aload_n 0, 1) := by decide +kernel
theorem dX5_findWay_54 : decode cX5_findWay 54 = .ok (.getfield 15, 3) := by decide +kernel
theorem dX5_findWay_57 : decode cX5_findWay 57 = .ok (.iload 7, 2) := by decide +kernel
theorem dX5_findWay_59 : decode cX5_findWay 59 = .ok (.iaload, 1) := by decide +kernel
theorem dX5_findWay_60 : decode cX5_findWay 60 = .ok (.iconst (-1), 1) := by decide +kernel
theorem dX5_findWay_61 : decode cX5_findWay 61 = .ok (.if_icmp .ne 23, 3) := by decide +kernel
theorem dX5_findWay_64 : decode cX5_findWay 64 = .ok (.aload_n 0, 1) := by decide +kernel
theorem dX5_findWay_65 : decode cX5_findWay 65 = .ok (.getfield 9, 3) := by decide +kernel
theorem dX5_findWay_68 : decode cX5_findWay 68 = .ok (.iload 6, 2) := by decide +kernel
theorem dX5_findWay_70 : decode cX5_findWay 70 = .ok (.bipush 10, 2) := by decide +kernel
theorem dX5_findWay_72 : decode cX5_findWay 72 = .ok (.imul, 1) := by decide +kernel
theorem dX5_findWay_73 : decode cX5_findWay 73 = .ok (.iload 7, 2) := by decide +kernel
theorem dX5_findWay_75 : decode cX5_findWay 75 = .ok (.iadd, 1) := by decide +kernel
theorem dX5_findWay_76 : decode cX5_findWay 76 = .ok (.iaload, 1) := by decide +kernel
theorem dX5_findWay_77 : decode cX5_findWay 77 = .ok (.ifCond .le 7, 3) := by decide +kernel
theorem dX5_findWay_80 : decode cX5_findWay 80 = .ok (.iconst 1, 1) := by decide +kernel
theorem dX5_findWay_81 : decode cX5_findWay 81 = .ok (.goto 4, 3) := by decide +kernel
theorem dX5_findWay_84 : decode cX5_findWay 84 = .ok (.iconst 0, 1) := by decide +kernel
theorem dX5_findWay_85 : decode cX5_findWay 85 = .ok (.istore 8, 2) := by decide +kernel
theorem dX5_findWay_87 : decode cX5_findWay 87 = .ok (.iload 8, 2) := by decide +kernel
theorem dX5_findWay_89 : decode cX5_findWay 89 = .ok (.ifCond .eq 31, 3) := by decide +kernel
theorem dX5_findWay_92 : decode cX5_findWay 92 = .ok (.iload 4, 2) := by decide +kernel
theorem dX5_findWay_94 : decode cX5_findWay 94 = .ok (.bipush 10, 2) := by decide +kernel
theorem dX5_findWay_96 : decode cX5_findWay 96 = .ok (.if_icmp .ge 24, 3) := by decide +kernel
theorem dX5_findWay_99 : decode cX5_findWay 99 = .ok (.aload_n 0, 1) := by decide +kernel
theorem dX5_findWay_100 : decode cX5_findWay 100 = .ok (.getfield 15, 3) := by decide +kernel
theorem dX5_findWay_103 : decode cX5_findWay 103 = .ok (.iload 7, 2) := by decide +kernel
theorem dX5_findWay_105 : decode cX5_findWay 105 = .ok (.iload 6, 2) := by decide +kernel
theorem dX5_findWay_107 : decode cX5_findWay 107 = .ok (.iastore, 1) := by decide +kernel
theorem dX5_findWay_108 : decode cX5_findWay 108 = .ok (.aload_n 0, 1) := by decide +kernel
theorem dX5_findWay_109 : decode cX5_findWay 109 = .ok (.getfield 18, 3) := by decide +kernel
theorem dX5_findWay_112 : decode cX5_findWay 112 = .ok (.iload 4, 2) := by decide +kernel
theorem dX5_findWay_114 : decode cX5_findWay 114 = .ok (.iload 7, 2) := by decide +kernel
theorem dX5_findWay_116 : decode cX5_findWay 116 = .ok (.iastore, 1) := by decide +kernel
theorem dX5_findWay_117 : decode cX5_findWay 117 = .ok (.iinc 4 1, 3) := by decide +kernel
theorem dX5_findWay_120 : decode cX5_findWay 120 = .ok (.iinc 7 1, 3) := by decide +kernel
theorem dX5_findWay_123 : decode cX5_findWay 123 = .ok (.goto (-76), 3) := by decide +kernel
theorem dX5_findWay_126 : decode cX5_findWay 126 = .ok (.iinc 5 1, 3) := by decide +kernel
theorem dX5_findWay_129 : decode cX5_findWay 129 = .ok (.goto (-101), 3) := by decide +kernel
theorem dX5_findWay_132 : decode cX5_findWay 132 = .ok (.aload_n 0, 1) := by decide +kernel
theorem dX5_findWay_133 : decode cX5_findWay 133 = .ok (.getfield 15, 3) := by decide +kernel
theorem dX5_findWay_136 : decode cX5_findWay 136 = .ok (.iload_n 3, 1) := by decide +kernel
theorem dX5_findWay_137 : decode cX5_findWay 137 = .ok (.iaload, 1) := by decide +kernel
theorem dX5_findWay_138 : decode cX5_findWay 138 = .ok (.iconst (-1), 1) := by decide +kernel
theorem dX5_findWay_139 : decode cX5_findWay 139 = .ok (.if_icmp .eq 7, 3) := by decide +kernel
theorem dX5_findWay_142 : decode cX5_findWay 142 = .ok (.iconst 1, 1) := by decide +kernel
theorem dX5_findWay_143 : decode cX5_findWay 143 = .ok (.goto 4, 3) := by decide +kernel
theorem dX5_findWay_146 : decode cX5_findWay 146 = .ok (.iconst 0, 1) := by decide +kernel
theorem dX5_findWay_147 : decode cX5_findWay 147 = .ok (.ireturn, 1) := by decide +kernel
theorem dX5_addTravellers_0 : decode cX5_addTravellers 0 = .ok (.ldc 57, 2) := by decide +kernel
theorem dX5_addTravellers_2 : decode cX5_addTravellers 2 = .ok (.istore_n 3, 1) := by decide +kernel
theorem dX5_addTravellers_3 : decode cX5_addTravellers 3 = .ok (.iload_n 2, 1) := by decide +kernel
theorem dX5_addTravellers_4 : decode cX5_addTravellers 4 = .ok (.istore 4, 2) := by decide +kernel
theorem dX5_addTravellers_6 : decode cX5_addTravellers 6 = .ok (.iconst 0, 1) := by decide +kernel
theorem dX5_addTravellers_7 : decode cX5_addTravellers 7 = .ok (.istore 5, 2) := by decide +kernel
theorem dX5_addTravellers_9 : decode cX5_addTravellers 9 = .ok (.iload 5, 2) := by decide +kernel
theorem dX5_addTravellers_11 : decode cX5_addTravellers 11 = .ok (.bipush 10, 2) := by decide +kernel
theorem dX5_addTravellers_13 : decode cX5_addTravellers 13 = .ok (.if_icmp .ge 47, 3) := by decide +kernel
theorem dX5_addTravellers_16 : decode cX5_addTravellers 16 = .ok (.iload 4, 2) := by decide +kernel
theorem dX5_addTravellers_18 : decode cX5_addTravellers 18 = .ok (.iload_n 1, 1) := by decide +kernel
theorem dX5_addTravellers_19 : decode cX5_addTravellers 19 = .ok (.if_icmp .eq 41, 3) := by decide +kernel
theorem dX5_addTravellers_22 : decode cX5_addTravellers 22 = .ok (.iload_n 3, 1) := by decide +kernel
theorem dX5_addTravellers_23 : decode cX5_addTravellers 23 = .ok (.aload_n 0, 1) := by decide +kernel
theorem dX5_addTravellers_24 : decode cX5_addTravellers 24 = .ok (.getfield 9, 3) := by decide +kernel
theorem dX5_addTravellers_27 : decode cX5_addTravellers 27 = .ok (.aload_n 0, 1) := by decide +kernel
theorem dX5_addTravellers_28 : decode cX5_addTravellers 28 = .ok (.getfield 15, 3) := by decide +kernel
theorem dX5_addTravellers_31 : decode cX5_addTravellers 31 = .ok (.iload 4, 2) := by decide +kernel
theorem dX5_addTravellers_33 : decode cX5_addTravellers 33 = .ok (.iaload, 1) := by decide +kernel
theorem dX5_addTravellers_34 : decode cX5_addTravellers 34 = .ok (.bipush 10, 2) := by decide +kernel
theorem dX5_addTravellers_36 : decode cX5_addTravellers 36 = .ok (.imul, 1) := by decide +kernel
theorem dX5_addTravellers_37 : decode cX5_addTravellers 37 = .ok (.iload 4, 2) := by decide +kernel
theorem dX5_addTravellers_39 : decode cX5_addTravellers 39 = .ok (.iadd, 1) := by decide +kernel
theorem dX5_addTravellers_40 : decode cX5_addTravellers 40 = .ok (.iaload, 1) := by decide +kernel
theorem dX5_addTravellers_41 : decode cX5_addTravellers 41 = .ok (.invokestatic 62, 3) := by decide +kernel
theorem dX5_addTravellers_44 : decode cX5_addTravellers 44 = .ok (.istore_n 3, 1) := by decide +kernel
theorem dX5_addTravellers_45 : decode cX5_addTravellers 45 = .ok (.aload_n 0, 1) := by decide +kernel
theorem dX5_addTravellers_46 : decode cX5_addTravellers 46 = .ok (.getfield 15, 3) := by decide +kernel
theorem dX5_addTravellers_49 : decode cX5_addTravellers 49 = .ok (.iload 4, 2) := by decide +kernel
theorem dX5_addTravellers_51 : decode cX5_addTravellers 51 = .ok (.iaload, 1) := by decide +kernel
theorem dX5_addTravellers_52 : decode cX5_addTravellers 52 = .ok (.istore 4, 2) := by decide +kernel
theorem dX5_addTravellers_54 : decode cX5_addTravellers 54 = .ok (.iinc 5 1, 3) := by decide +kernel
theorem dX5_addTravellers_57 : decode cX5_addTravellers 57 = .ok (.goto (-48), 3) := by decide +kernel
theorem dX5_addTravellers_60 : decode cX5_addTravellers 60 = .ok (.iload_n 2, 1) := by decide +kernel
theorem dX5_addTravellers_61 : decode cX5_addTravellers 61 = .ok (.istore 4, 2) := by decide +kernel
theorem dX5_addTravellers_63 : decode cX5_addTravellers 63 = .ok (.iconst 0, 1) := by decide +kernel
theorem dX5_addTravellers_64 : decode cX5_addTravellers 64 = .ok (.istore 5, 2) := by decide +kernel
theorem dX5_addTravellers_66 : decode cX5_addTravellers 66 = .ok (.iload 5, 2) := by decide +kernel
theorem dX5_addTravellers_68 : decode cX5_addTravellers 68 = .ok (.bipush 10, 2) := by decide +kernel
theorem dX5_addTravellers_70 : decode cX5_addTravellers 70 = .ok (.if_icmp .ge 62, 3) := by decide +kernel
theorem dX5_addTravellers_73 : decode cX5_addTravellers 73 = .ok (.iload 4, 2) := by decide +kernel
theorem dX5_addTravellers_75 : decode cX5_addTravellers 75 = .ok (.iload_n 1, 1) := by decide +kernel
theorem dX5_addTravellers_76 : decode cX5_addTravellers 76 = .ok (.if_icmp .eq 56, 3) := by decide +kernel
theorem dX5_addTravellers_79 : decode cX5_addTravellers 79 = .ok (.aload_n 0, 1) := by decide +kernel
theorem dX5_addTravellers_80 : decode cX5_addTravellers 80 = .ok (.getfield 15, 3) := by decide +kernel
theorem dX5_addTravellers_83 : decode cX5_addTravellers 83 = .ok (.iload 4, 2) := by decide +kernel
theorem dX5_addTravellers_85 : decode cX5_addTravellers 85 = .ok (.iaload, 1) := by decide +kernel
theorem dX5_addTravellers_86 : decode cX5_addTravellers 86 = .ok (.istore 6, 2) := by decide +kernel
theorem dX5_addTravellers_88 : decode cX5_addTravellers 88 = .ok (.aload_n 0, 1) := by decide +kernel
theorem dX5_addTravellers_89 : decode cX5_addTravellers 89 = .ok (.getfield 9, 3) := by decide +kernel
theorem dX5_addTravellers_92 : decode cX5_addTravellers 92 = .ok (.iload 6, 2) := by decide +kernel
theorem dX5_addTravellers_94 : decode cX5_addTravellers 94 = .ok (.bipush 10, 2) := by decide +kernel
theorem dX5_addTravellers_96 : decode cX5_addTravellers 96 = .ok (.imul, 1) := by decide +kernel
theorem dX5_addTravellers_97 : decode cX5_addTravellers 97 = .ok (.iload 4, 2) := by decide +kernel
theorem dX5_addTravellers_99 : decode cX5_addTravellers 99 = .ok (.iadd, 1) := by decide +kernel
theorem dX5_addTravellers_100 : decode cX5_addTravellers 100 = .ok (.dup2, 1) := by decide +kernel
theorem dX5_addTravellers_101 : decode cX5_addTravellers 101 = .ok (.iaload, 1) := by decide +kernel
theorem dX5_addTravellers_102 : decode cX5_addTravellers 102 = .ok (.iload_n 3, 1) := by decide +kernel
theorem dX5_addTravellers_103 : decode cX5_addTravellers 103 = .ok (.isub, 1) := by decide +kernel
theorem dX5_addTravellers_104 : decode cX5_addTravellers 104 = .ok (.iastore, 1) := by decide +kernel
theorem dX5_addTravellers_105 : decode cX5_addTravellers 105 = .ok (.aload_n 0, 1) := by decide +kernel
theorem dX5_addTravellers_106 : decode cX5_addTravellers 106 = .ok (.getfield 9, 3) := by decide +kernel
theorem dX5_addTravellers_109 : decode cX5_addTravellers 109 = .ok (.iload 4, 2) := by decide +kernel
theorem dX5_addTravellers_111 : decode cX5_addTravellers 111 = .ok (.bipush 10, 2) := by decide +kernel
theorem dX5_addTravellers_113 : decode cX5_addTravellers 113 = .ok (.imul, 1) := by decide +kernel
theorem dX5_addTravellers_114 : decode cX5_addTravellers 114 = .ok (.iload 6, 2) := by decide +kernel
theorem dX5_addTravellers_116 : decode cX5_addTravellers 116 = .ok (.iadd, 1) := by decide +kernel
theorem dX5_addTravellers_117 : decode cX5_addTravellers 117 = .ok (.dup2, 1) := by decide +kernel
theorem dX5_addTravellers_118 : decode cX5_addTravellers 118 = .ok (.iaload, 1) := by decide +kernel
theorem dX5_addTravellers_119 : decode cX5_addTravellers 119 = .ok (.iload_n 3, 1) := by decide +kernel
theorem dX5_addTravellers_120 : decode cX5_addTravellers 120 = .ok (.iadd, 1) := by decide +kernel
theorem dX5_addTravellers_121 : decode cX5_addTravellers 121 = .ok (.iastore, 1) := by decide +kernel
theorem dX5_addTravellers_122 : decode cX5_addTravellers 122 = .ok (.iload 6, 2) := by decide +kernel
theorem dX5_addTravellers_124 : decode cX5_addTravellers 124 = .ok (.istore 4, 2) := by decide +kernel
theorem dX5_addTravellers_126 : decode cX5_addTravellers 126 = .ok (.iinc 5 1, 3) := by decide +kernel
theorem dX5_addTravellers_129 : decode cX5_addTravellers 129 = .ok (.goto (-63), 3) := by decide +kernel
theorem dX5_addTravellers_132 : decode cX5_addTravellers 132 = .ok (.iload_n 3, 1) := by decide +kernel
theorem dX5_addTravellers_133 : decode cX5_addTravellers 133 = .ok (.ireturn, 1) := by decide +kernel
theorem dX6_init_0 : decode cX6_init 0 = .ok (.aload_n 0, 1) := by decide +kernel
theorem dX6_init_1 : decode cX6_init 1 = .ok (.invokespecial 3, 3) := by decide +kernel
theorem dX6_init_4 : decode cX6_init 4 = .ok (.aload_n 0, 1) := by decide +kernel
theorem dX6_init_5 : decode cX6_init 5 = .ok (.bipush 8, 2) := by decide +kernel
theorem dX6_init_7 : decode cX6_init 7 = .ok (.anewarray 9, 3) := by decide +kernel
theorem dX6_init_10 : decode cX6_init 10 = .ok (.putfield 11, 3) := by decide +kernel
theorem dX6_init_13 : decode cX6_init 13 = .ok (.aload_n 0, 1) := by decide +kernel
theorem dX6_init_14 : decode cX6_init 14 = .ok (.iconst 0, 1) := by decide +kernel
theorem dX6_init_15 : decode cX6_init 15 = .ok (.putfield 17, 3) := by decide +kernel
theorem dX6_init_18 : decode cX6_init 18 = .ok (.aload_n 0, 1) := by decide +kernel
theorem dX6_init_19 : decode cX6_init 19 = .ok (.iconst 0, 1) := by decide +kernel
theorem dX6_init_20 : decode cX6_init 20 = .ok (.putfield 21, 3) := by decide +kernel
theorem dX6_init_23 : decode cX6_init 23 = .ok (.iconst 0, 1) := by decide +kernel
theorem dX6_init_24 : decode cX6_init 24 = .ok (.istore_n 1, 1) := by decide +kernel
theorem dX6_init_25 : decode cX6_init 25 = .ok (.iload_n 1, 1) := by decide +kernel
theorem dX6_init_26 : decode cX6_init 26 = .ok (.bipush 8, 2) := by decide +kernel
theorem dX6_init_28 : decode cX6_init 28 = .ok (.if_icmp .ge 22, 3) := by decide +kernel
theorem dX6_init_31 : decode cX6_init 31 = .ok (.aload_n 0, 1) := by decide +kernel
theorem dX6_init_32 : decode cX6_init 32 = .ok (.getfield 11, 3) := by decide +kernel
theorem dX6_init_35 : decode cX6_init 35 = .ok (.iload_n 1, 1) := by decide +kernel
theorem dX6_init_36 : decode cX6_init 36 = .ok (.new 9, 3) := by decide +kernel
theorem dX6_init_39 : decode cX6_init 39 = .ok (.dup, 1) := by decide +kernel
theorem dX6_init_40 : decode cX6_init 40 = .ok (.invokespecial 24, 3) := by decide +kernel
theorem dX6_init_43 : decode cX6_init 43 = .ok (.aastore, 1) := by decide +kernel
theorem dX6_init_44 : decode cX6_init 44 = .ok (.iinc 1 1, 3) := by decide +kernel
theorem dX6_init_47 : decode cX6_init 47 = .ok (.goto (-22), 3) := by decide +kernel
theorem dX6_init_50 : decode cX6_init 50 = .ok (.return_, 1) := by decide +kernel
theorem dX6_keep_0 : decode cX6_keep 0 = .ok (.aload_n 0, 1) := by decide +kernel
theorem dX6_keep_1 : decode cX6_keep 1 = .ok (.getfield 11, 3) := by decide +kernel
theorem dX6_keep_4 : decode cX6_keep 4 = .ok (.aload_n 0, 1) := by decide +kernel
theorem dX6_keep_5 : decode cX6_keep 5 = .ok (.getfield 17, 3) := by decide +kernel
theorem dX6_keep_8 : decode cX6_keep 8 = .ok (.aaload, 1) := by decide +kernel
theorem dX6_keep_9 : decode cX6_keep 9 = .ok (.aload_n 1, 1) := by decide +kernel
theorem dX6_keep_10 : decode cX6_keep 10 = .ok (.invokevirtual 25, 3) := by decide +kernel
theorem dX6_keep_13 : decode cX6_keep 13 = .ok (.aload_n 0, 1) := by decide +kernel
theorem dX6_keep_14 : decode cX6_keep 14 = .ok (.aload_n 0, 1) := by decide +kernel
theorem dX6_keep_15 : decode cX6_keep 15 = .ok (.getfield 17, 3) := by decide +kernel
theorem dX6_keep_18 : decode cX6_keep 18 = .ok (.bipush 7, 2) := by decide +kernel
theorem dX6_keep_20 : decode cX6_keep 20 = .ok (.if_icmp .ne 7, 3) := by decide +kernel
theorem dX6_keep_23 : decode cX6_keep 23 = .ok (.iconst 0, 1) := by decide +kernel
theorem dX6_keep_24 : decode cX6_keep 24 = .ok (.goto 9, 3) := by decide +kernel
theorem dX6_keep_27 : decode cX6_keep 27 = .ok (.aload_n 0, 1) := by decide +kernel
theorem dX6_keep_28 : decode cX6_keep 28 = .ok (.getfield 17, 3) := by decide +kernel
theorem dX6_keep_31 : decode cX6_keep 31 = .ok (.iconst 1, 1) := by decide +kernel
theorem dX6_keep_32 : decode cX6_keep 32 = .ok (.iadd, 1) := by decide +kernel
theorem dX6_keep_33 : decode cX6_keep 33 = .ok (.putfield 17, 3) := by decide +kernel
theorem dX6_keep_36 : decode cX6_keep 36 = .ok (.aload_n 0, 1) := by decide +kernel
theorem dX6_keep_37 : decode cX6_keep 37 = .ok (.aload_n 0, 1) := by decide +kernel
theorem dX6_keep_38 : decode cX6_keep 38 = .ok (.getfield 21, 3) := by decide +kernel
theorem dX6_keep_41 : decode cX6_keep 41 = .ok (.iconst 1, 1) := by decide +kernel
theorem dX6_keep_42 : decode cX6_keep 42 = .ok (.iadd, 1) := by decide +kernel
theorem dX6_keep_43 : decode cX6_keep 43 = .ok (.bipush 8, 2) := by decide +kernel
theorem dX6_keep_45 : decode cX6_keep 45 = .ok (.invokestatic 29, 3) := by decide +kernel
theorem dX6_keep_48 : decode cX6_keep 48 = .ok (.putfield 21, 3) := by decide +kernel
theorem dX6_keep_51 : decode cX6_keep 51 = .ok (.return_, 1) := by decide +kernel
theorem dX6_bringBack_0 : decode cX6_bringBack 0 = .ok (.aload_n 0, 1) := by decide +kernel
theorem dX6_bringBack_1 : decode cX6_bringBack 1 = .ok (.aload_n 0, 1) := by decide +kernel
theorem dX6_bringBack_2 : decode cX6_bringBack 2 = .ok (.getfield 17, 3) := by decide +kernel
theorem dX6_bringBack_5 : decode cX6_bringBack 5 = .ok (.ifCond .ne 8, 3) := by decide +kernel
theorem dX6_bringBack_8 : decode cX6_bringBack 8 = .ok (.bipush 7, 2) := by decide +kernel
theorem dX6_bringBack_10 : decode cX6_bringBack 10 = .ok (.goto 9, 3) := by decide +kernel
theorem dX6_bringBack_13 : decode cX6_bringBack 13 = .ok (.aload_n 0, 1) := by decide +kernel
theorem dX6_bringBack_14 : decode cX6_bringBack 14 = .ok (.getfield 17, 3) := by decide +kernel
theorem dX6_bringBack_17 : decode cX6_bringBack 17 = .ok (.iconst 1, 1) := by decide +kernel
theorem dX6_bringBack_18 : decode cX6_bringBack 18 = .ok (.isub, 1) := by decide +kernel
theorem dX6_bringBack_19 : decode cX6_bringBack 19 = .ok (.putfield 17, 3) := by decide +kernel
theorem dX6_bringBack_22 : decode cX6_bringBack 22 = .ok (.aload_n 1, 1) := by decide +kernel
theorem dX6_bringBack_23 : decode cX6_bringBack 23 = .ok (.aload_n 0, 1) := by decide +kernel
theorem dX6_bringBack_24 : decode cX6_bringBack 24 = .ok (.getfield 11, 3) := by decide +kernel
theorem dX6_bringBack_27 : decode cX6_bringBack 27 = .ok (.aload_n 0, 1) := by decide +kernel
theorem dX6_bringBack_28 : decode cX6_bringBack 28 = .ok (.getfield 17, 3) := by decide +kernel
theorem dX6_bringBack_31 : decode cX6_bringBack 31 = .ok (.aaload, 1) := by decide +kernel
theorem dX6_bringBack_32 : decode cX6_bringBack 32 = .ok (.invokevirtual 25, 3) := by decide +kernel
theorem dX6_bringBack_35 : decode cX6_bringBack 35 = .ok (.aload_n 0, 1) := by decide +kernel
theorem dX6_bringBack_36 : decode cX6_bringBack 36 = .ok (.dup, 1) := by decide +kernel
theorem dX6_bringBack_37 : decode cX6_bringBack 37 = .ok (.getfield 21, 3) := by decide +kernel
theorem dX6_bringBack_40 : decode cX6_bringBack 40 = .ok (.iconst 1, 1) := by decide +kernel
theorem dX6_bringBack_41 : decode cX6_bringBack 41 = .ok (.isub, 1) := by decide +kernel
theorem dX6_bringBack_42 : decode cX6_bringBack 42 = .ok (.putfield 21, 3) := by decide +kernel
theorem dX6_bringBack_45 : decode cX6_bringBack 45 = .ok (.return_, 1) := by decide +kernel
theorem dX7_init_0 : decode cX7_init 0 = .ok (.aload_n 0, 1) := by decide +kernel
theorem dX7_init_1 : decode cX7_init 1 = .ok (.invokespecial 3, 3) := by decide +kernel
theorem dX7_init_4 : decode cX7_init 4 = .ok (.aload_n 0, 1) := by decide +kernel
theorem dX7_init_5 : decode cX7_init 5 = .ok (.iconst 1, 1) := by decide +kernel
theorem dX7_init_6 : decode cX7_init 6 = .ok (.putfield 9, 3) := by decide +kernel
theorem dX7_init_9 : decode cX7_init 9 = .ok (.aload_n 0, 1) := by decide +kernel
theorem dX7_init_10 : decode cX7_init 10 = .ok (.iconst 0, 1) := by decide +kernel
theorem dX7_init_11 : decode cX7_init 11 = .ok (.putfield 15, 3) := by decide +kernel
theorem dX7_init_14 : decode cX7_init 14 = .ok (.aload_n 0, 1) := by decide +kernel
theorem dX7_init_15 : decode cX7_init 15 = .ok (.iconst 1, 1) := by decide +kernel
theorem dX7_init_16 : decode cX7_init 16 = .ok (.putfield 18, 3) := by decide +kernel
theorem dX7_init_19 : decode cX7_init 19 = .ok (.aload_n 0, 1) := by decide +kernel
theorem dX7_init_20 : decode cX7_init 20 = .ok (.iconst 0, 1) := by decide +kernel
theorem dX7_init_21 : decode cX7_init 21 = .ok (.putfield 21, 3) := by decide +kernel
theorem dX7_init_24 : decode cX7_init 24 = .ok (.aload_n 0, 1) := by decide +kernel
theorem dX7_init_25 : decode cX7_init 25 = .ok (.iconst 1, 1) := by decide +kernel
theorem dX7_init_26 : decode cX7_init 26 = .ok (.putfield 24, 3) := by decide +kernel
theorem dX7_init_29 : decode cX7_init 29 = .ok (.aload_n 0, 1) := by decide +kernel
theorem dX7_init_30 : decode cX7_init 30 = .ok (.iconst 0, 1) := by decide +kernel
theorem dX7_init_31 : decode cX7_init 31 = .ok (.putfield 27, 3) := by decide +kernel
theorem dX7_init_34 : decode cX7_init 34 = .ok (.aload_n 0, 1) := by decide +kernel
theorem dX7_init_35 : decode cX7_init 35 = .ok (.iconst 0, 1) := by decide +kernel
theorem dX7_init_36 : decode cX7_init 36 = .ok (.putfield 31, 3) := by decide +kernel
theorem dX7_init_39 : decode cX7_init 39 = .ok (.aload_n 0, 1) := by decide +kernel
theorem dX7_init_40 : decode cX7_init 40 = .ok (.bipush 6, 2) := by decide +kernel
theorem dX7_init_42 : decode cX7_init 42 = .ok (.newarray .int, 2) := by decide +kernel
theorem dX7_init_44 : decode cX7_init 44 = .ok (.putfield 34, 3) := by decide +kernel
theorem dX7_init_47 : decode cX7_init 47 = .ok (.return_, 1) := by decide +kernel
theorem dX7_copyFrom_0 : decode cX7_copyFrom 0 = .ok (.aload_n 0, 1) := by decide +kernel
theorem dX7_copyFrom_1 : decode cX7_copyFrom 1 = .ok (.aload_n 1, 1) := by decide +kernel
theorem dX7_copyFrom_2 : decode cX7_copyFrom 2 = .ok (.getfield 9, 3) := by decide +kernel
theorem dX7_copyFrom_5 : decode cX7_copyFrom 5 = .ok (.putfield 9, 3) := by decide +kernel
theorem dX7_copyFrom_8 : decode cX7_copyFrom 8 = .ok (.aload_n 0, 1) := by decide +kernel
theorem dX7_copyFrom_9 : decode cX7_copyFrom 9 = .ok (.aload_n 1, 1) := by decide +kernel
theorem dX7_copyFrom_10 : decode cX7_copyFrom 10 = .ok (.getfield 15, 3) := by decide +kernel
theorem dX7_copyFrom_13 : decode cX7_copyFrom 13 = .ok (.putfield 15, 3) := by decide +kernel
theorem dX7_copyFrom_16 : decode cX7_copyFrom 16 = .ok (.aload_n 0, 1) := by decide +kernel
theorem dX7_copyFrom_17 : decode cX7_copyFrom 17 = .ok (.aload_n 1, 1) := by decide +kernel
theorem dX7_copyFrom_18 : decode cX7_copyFrom 18 = .ok (.getfield 18, 3) := by decide +kernel
theorem dX7_copyFrom_21 : decode cX7_copyFrom 21 = .ok (.putfield 18, 3) := by decide +kernel
theorem dX7_copyFrom_24 : decode cX7_copyFrom 24 = .ok (.aload_n 0, 1) := by decide +kernel
theorem dX7_copyFrom_25 : decode cX7_copyFrom 25 = .ok (.aload_n 1, 1) := by decide +kernel
theorem dX7_copyFrom_26 : decode cX7_copyFrom 26 = .ok (.getfield 21, 3) := by decide +kernel
theorem dX7_copyFrom_29 : decode cX7_copyFrom 29 = .ok (.putfield 21, 3) := by decide +kernel
theorem dX7_copyFrom_32 : decode cX7_copyFrom 32 = .ok (.aload_n 0, 1) := by decide +kernel
theorem dX7_copyFrom_33 : decode cX7_copyFrom 33 = .ok (.aload_n 1, 1) := by decide +kernel
theorem dX7_copyFrom_34 : decode cX7_copyFrom 34 = .ok (.getfield 24, 3) := by decide +kernel
theorem dX7_copyFrom_37 : decode cX7_copyFrom 37 = .ok (.putfield 24, 3) := by decide +kernel
theorem dX7_copyFrom_40 : decode cX7_copyFrom 40 = .ok (.aload_n 0, 1) := by decide +kernel
theorem dX7_copyFrom_41 : decode cX7_copyFrom 41 = .ok (.aload_n 1, 1) := by decide +kernel
theorem dX7_copyFrom_42 : decode cX7_copyFrom 42 = .ok (.getfield 27, 3) := by decide +kernel
theorem dX7_copyFrom_45 : decode cX7_copyFrom 45 = .ok (.putfield 27, 3) := by decide +kernel
theorem dX7_copyFrom_48 : decode cX7_copyFrom 48 = .ok (.aload_n 0, 1) := by decide +kernel
theorem dX7_copyFrom_49 : decode cX7_copyFrom 49 = .ok (.aload_n 1, 1) := by decide +kernel
theorem dX7_copyFrom_50 : decode cX7_copyFrom 50 = .ok (.getfield 31, 3) := by decide +kernel
theorem dX7_copyFrom_53 : decode cX7_copyFrom 53 = .ok (.putfield 31, 3) := by decide +kernel
theorem dX7_copyFrom_56 : decode cX7_copyFrom 56 = .ok (.aload_n 1, 1) := by decide +kernel
theorem dX7_copyFrom_57 : decode cX7_copyFrom 57 = .ok (.getfield 34, 3) := by decide +kernel
theorem dX7_copyFrom_60 : decode cX7_copyFrom 60 = .ok (.iconst 0, 1) := by decide +kernel
theorem dX7_copyFrom_61 : decode cX7_copyFrom 61 = .ok (.aload_n 0, 1) := by decide +kernel
theorem dX7_copyFrom_62 : decode cX7_copyFrom 62 = .ok (.getfield 34, 3) := by decide +kernel
theorem dX7_copyFrom_65 : decode cX7_copyFrom 65 = .ok (.iconst 0, 1) := by decide +kernel
theorem dX7_copyFrom_66 : decode cX7_copyFrom 66 = .ok (.bipush 6, 2) := by decide +kernel
theorem dX7_copyFrom_68 : decode cX7_copyFrom 68 = .ok (.invokestatic 38, 3) := by decide +kernel
theorem dX7_copyFrom_71 : decode cX7_copyFrom 71 = .ok (.return_, 1) := by decide +kernel
theorem dX7_begin_0 : decode cX7_begin 0 = .ok (.aload_n 0, 1) := by decide +kernel
theorem dX7_begin_1 : decode cX7_begin 1 = .ok (.iload_n 1, 1) := by decide +kernel
theorem dX7_begin_2 : decode cX7_begin 2 = .ok (.putfield 9, 3) := by decide +kernel
theorem dX7_begin_5 : decode cX7_begin 5 = .ok (.aload_n 0, 1) := by decide +kernel
theorem dX7_begin_6 : decode cX7_begin 6 = .ok (.iload_n 2, 1) := by decide +kernel
theorem dX7_begin_7 : decode cX7_begin 7 = .ok (.putfield 15, 3) := by decide +kernel
theorem dX7_begin_10 : decode cX7_begin 10 = .ok (.aload_n 0, 1) := by decide +kernel
theorem dX7_begin_11 : decode cX7_begin 11 = .ok (.iload_n 3, 1) := by decide +kernel
theorem dX7_begin_12 : decode cX7_begin 12 = .ok (.putfield 18, 3) := by decide +kernel
theorem dX7_begin_15 : decode cX7_begin 15 = .ok (.aload_n 0, 1) := by decide +kernel
theorem dX7_begin_16 : decode cX7_begin 16 = .ok (.iconst 0, 1) := by decide +kernel
theorem dX7_begin_17 : decode cX7_begin 17 = .ok (.putfield 21, 3) := by decide +kernel
theorem dX7_begin_20 : decode cX7_begin 20 = .ok (.aload_n 0, 1) := by decide +kernel
theorem dX7_begin_21 : decode cX7_begin 21 = .ok (.iload 4, 2) := by decide +kernel
theorem dX7_begin_23 : decode cX7_begin 23 = .ok (.putfield 24, 3) := by decide +kernel
theorem dX7_begin_26 : decode cX7_begin 26 = .ok (.aload_n 0, 1) := by decide +kernel
theorem dX7_begin_27 : decode cX7_begin 27 = .ok (.iconst 0, 1) := by decide +kernel
theorem dX7_begin_28 : decode cX7_begin 28 = .ok (.putfield 27, 3) := by decide +kernel
theorem dX7_begin_31 : decode cX7_begin 31 = .ok (.aload_n 0, 1) := by decide +kernel
theorem dX7_begin_32 : decode cX7_begin 32 = .ok (.iconst 0, 1) := by decide +kernel
theorem dX7_begin_33 : decode cX7_begin 33 = .ok (.putfield 31, 3) := by decide +kernel
theorem dX7_begin_36 : decode cX7_begin 36 = .ok (.return_, 1) := by decide +kernel
theorem dX7_append_0 : decode cX7_append 0 = .ok (.aload_n 0, 1) := by decide +kernel
theorem dX7_append_1 : decode cX7_append 1 = .ok (.getfield 31, 3) := by decide +kernel
theorem dX7_append_4 : decode cX7_append 4 = .ok (.bipush 6, 2) := by decide +kernel
theorem dX7_append_6 : decode cX7_append 6 = .ok (.if_icmp .ge 23, 3) := by decide +kernel
theorem dX7_append_9 : decode cX7_append 9 = .ok (.aload_n 0, 1) := by decide +kernel
theorem dX7_append_10 : decode cX7_append 10 = .ok (.getfield 34, 3) := by decide +kernel
theorem dX7_append_13 : decode cX7_append 13 = .ok (.aload_n 0, 1) := by decide +kernel
theorem dX7_append_14 : decode cX7_append 14 = .ok (.getfield 31, 3) := by decide +kernel
theorem dX7_append_17 : decode cX7_append 17 = .ok (.iload_n 1, 1) := by decide +kernel
theorem dX7_append_18 : decode cX7_append 18 = .ok (.iastore, 1) := by decide +kernel
theorem dX7_append_19 : decode cX7_append 19 = .ok (.aload_n 0, 1) := by decide +kernel
theorem dX7_append_20 : decode cX7_append 20 = .ok (.dup, 1) := by decide +kernel
theorem dX7_append_21 : decode cX7_append 21 = .ok (.getfield 31, 3) := by decide +kernel
theorem dX7_append_24 : decode cX7_append 24 = .ok (.iconst 1, 1) := by decide +kernel
theorem dX7_append_25 : decode cX7_append 25 = .ok (.iadd, 1) := by decide +kernel
theorem dX7_append_26 : decode cX7_append 26 = .ok (.putfield 31, 3) := by decide +kernel
theorem dX7_append_29 : decode cX7_append 29 = .ok (.aload_n 0, 1) := by decide +kernel
theorem dX7_append_30 : decode cX7_append 30 = .ok (.getfield 31, 3) := by decide +kernel
theorem dX7_append_33 : decode cX7_append 33 = .ok (.ireturn, 1) := by decide +kernel
theorem dX7_dropLast_0 : decode cX7_dropLast 0 = .ok (.aload_n 0, 1) := by decide +kernel
theorem dX7_dropLast_1 : decode cX7_dropLast 1 = .ok (.getfield 31, 3) := by decide +kernel
theorem dX7_dropLast_4 : decode cX7_dropLast 4 = .ok (.ifCond .ne 5, 3) := by decide +kernel
theorem dX7_dropLast_7 : decode cX7_dropLast 7 = .ok (.iconst (-1), 1) := by decide +kernel
theorem dX7_dropLast_8 : decode cX7_dropLast 8 = .ok (.ireturn, 1) := by decide +kernel
theorem dX7_dropLast_9 : decode cX7_dropLast 9 = .ok (.aload_n 0, 1) := by decide +kernel
theorem dX7_dropLast_10 : decode cX7_dropLast 10 = .ok (.dup, 1) := by decide +kernel
theorem dX7_dropLast_11 : decode cX7_dropLast 11 = .ok (.getfield 31, 3) := by decide +kernel
theorem dX7_dropLast_14 : decode cX7_dropLast 14 = .ok (.iconst 1, 1) := by decide +kernel
theorem dX7_dropLast_15 : decode cX7_dropLast 15 = .ok (.isub, 1) := by decide +kernel
theorem dX7_dropLast_16 : decode cX7_dropLast 16 = .ok (.putfield 31, 3) := by decide +kernel
theorem dX7_dropLast_19 : decode cX7_dropLast 19 = .ok (.aload_n 0, 1) := by decide +kernel
theorem dX7_dropLast_20 : decode cX7_dropLast 20 = .ok (.getfield 34, 3) := by decide +kernel
theorem dX7_dropLast_23 : decode cX7_dropLast 23 = .ok (.aload_n 0, 1) := by decide +kernel
theorem dX7_dropLast_24 : decode cX7_dropLast 24 = .ok (.getfield 31, 3) := by decide +kernel
theorem dX7_dropLast_27 : decode cX7_dropLast 27 = .ok (.iaload, 1) := by decide +kernel
theorem dX7_dropLast_28 : decode cX7_dropLast 28 = .ok (.ireturn, 1) := by decide +kernel
theorem dX7_isRunning_0 : decode cX7_isRunning 0 = .ok (.aload_n 0, 1) := by decide +kernel
theorem dX7_isRunning_1 : decode cX7_isRunning 1 = .ok (.getfield 31, 3) := by decide +kernel
theorem dX7_isRunning_4 : decode cX7_isRunning 4 = .ok (.iconst 2, 1) := by decide +kernel
theorem dX7_isRunning_5 : decode cX7_isRunning 5 = .ok (.if_icmp .lt 14, 3) := by decide +kernel
theorem dX7_isRunning_8 : decode cX7_isRunning 8 = .ok (.aload_n 0, 1) := by decide +kernel
theorem dX7_isRunning_9 : decode cX7_isRunning 9 = .ok (.getfield 27, 3) := by decide +kernel
theorem dX7_isRunning_12 : decode cX7_isRunning 12 = .ok (.ifCond .ne 7, 3) := by decide +kernel
theorem dX7_isRunning_15 : decode cX7_isRunning 15 = .ok (.iconst 1, 1) := by decide +kernel
theorem dX7_isRunning_16 : decode cX7_isRunning 16 = .ok (.goto 4, 3) := by decide +kernel
theorem dX7_isRunning_19 : decode cX7_isRunning 19 = .ok (.iconst 0, 1) := by decide +kernel
theorem dX7_isRunning_20 : decode cX7_isRunning 20 = .ok (.ireturn, 1) := by decide +kernel
theorem dX7_hasPosition_0 : decode cX7_hasPosition 0 = .ok (.iload_n 1, 1) := by decide +kernel
theorem dX7_hasPosition_1 : decode cX7_hasPosition 1 = .ok (.ifCond .lt 15, 3) := by decide +kernel
theorem dX7_hasPosition_4 : decode cX7_hasPosition 4 = .ok (.iload_n 1, 1) := by decide +kernel
theorem dX7_hasPosition_5 : decode cX7_hasPosition 5 = .ok (.aload_n 0, 1) := by decide +kernel
theorem dX7_hasPosition_6 : decode cX7_hasPosition 6 = .ok (.getfield 31, 3) := by decide +kernel
theorem dX7_hasPosition_9 : decode cX7_hasPosition 9 = .ok (.if_icmp .gt 7, 3) := by decide +kernel
theorem dX7_hasPosition_12 : decode cX7_hasPosition 12 = .ok (.iconst 1, 1) := by decide +kernel
theorem dX7_hasPosition_13 : decode cX7_hasPosition 13 = .ok (.goto 4, 3) := by decide +kernel
theorem dX7_hasPosition_16 : decode cX7_hasPosition 16 = .ok (.iconst 0, 1) := by decide +kernel
theorem dX7_hasPosition_17 : decode cX7_hasPosition 17 = .ok (.ireturn, 1) := by decide +kernel
theorem dX7_stopOn_0 : decode cX7_stopOn 0 = .ok (.iload_n 1, 1) := by decide +kernel
theorem dX7_stopOn_1 : decode cX7_stopOn 1 = .ok (.aload_n 0, 1) := by decide +kernel
theorem dX7_stopOn_2 : decode cX7_stopOn 2 = .ok (.getfield 31, 3) := by decide +kernel
theorem dX7_stopOn_5 : decode cX7_stopOn 5 = .ok (.if_icmp .ge 12, 3) := by decide +kernel
theorem dX7_stopOn_8 : decode cX7_stopOn 8 = .ok (.aload_n 0, 1) := by decide +kernel
theorem dX7_stopOn_9 : decode cX7_stopOn 9 = .ok (.getfield 34, 3) := by decide +kernel
theorem dX7_stopOn_12 : decode cX7_stopOn 12 = .ok (.iload_n 1, 1) := by decide +kernel
theorem dX7_stopOn_13 : decode cX7_stopOn 13 = .ok (.iaload, 1) := by decide +kernel
theorem dX7_stopOn_14 : decode cX7_stopOn 14 = .ok (.goto 9, 3) := by decide +kernel
theorem dX7_stopOn_17 : decode cX7_stopOn 17 = .ok (.aload_n 0, 1) := by decide +kernel
theorem dX7_stopOn_18 : decode cX7_stopOn 18 = .ok (.getfield 34, 3) := by decide +kernel
theorem dX7_stopOn_21 : decode cX7_stopOn 21 = .ok (.iconst 0, 1) := by decide +kernel
theorem dX7_stopOn_22 : decode cX7_stopOn 22 = .ok (.iaload, 1) := by decide +kernel
theorem dX7_stopOn_23 : decode cX7_stopOn 23 = .ok (.ireturn, 1) := by decide +kernel
theorem dX7_placeOf_0 : decode cX7_placeOf 0 = .ok (.iconst 0, 1) := by decide +kernel
theorem dX7_placeOf_1 : decode cX7_placeOf 1 = .ok (.istore_n 2, 1) := by decide +kernel
theorem dX7_placeOf_2 : decode cX7_placeOf 2 = .ok (.iload_n 2, 1) := by decide +kernel
theorem dX7_placeOf_3 : decode cX7_placeOf 3 = .ok (.aload_n 0, 1) := by decide +kernel
theorem dX7_placeOf_4 : decode cX7_placeOf 4 = .ok (.getfield 31, 3) := by decide +kernel
theorem dX7_placeOf_7 : decode cX7_placeOf 7 = .ok (.if_icmp .ge 21, 3) := by decide +kernel
theorem dX7_placeOf_10 : decode cX7_placeOf 10 = .ok (.aload_n 0, 1) := by decide +kernel
theorem dX7_placeOf_11 : decode cX7_placeOf 11 = .ok (.getfield 34, 3) := by decide +kernel
theorem dX7_placeOf_14 : decode cX7_placeOf 14 = .ok (.iload_n 2, 1) := by decide +kernel
theorem dX7_placeOf_15 : decode cX7_placeOf 15 = .ok (.iaload, 1) := by decide +kernel
theorem dX7_placeOf_16 : decode cX7_placeOf 16 = .ok (.iload_n 1, 1) := by decide +kernel
theorem dX7_placeOf_17 : decode cX7_placeOf 17 = .ok (.if_icmp .ne 5, 3) := by decide +kernel
theorem dX7_placeOf_20 : decode cX7_placeOf 20 = .ok (.iload_n 2, 1) := by decide +kernel
theorem dX7_placeOf_21 : decode cX7_placeOf 21 = .ok (.ireturn, 1) := by decide +kernel
theorem dX7_placeOf_22 : decode cX7_placeOf 22 = .ok (.iinc 2 1, 3) := by decide +kernel
theorem dX7_placeOf_25 : decode cX7_placeOf 25 = .ok (.goto (-23), 3) := by decide +kernel
theorem dX7_placeOf_28 : decode cX7_placeOf 28 = .ok (.iconst (-1), 1) := by decide +kernel
theorem dX7_placeOf_29 : decode cX7_placeOf 29 = .ok (.ireturn, 1) := by decide +kernel
theorem dX7_pace_0 : decode cX7_pace 0 = .ok (.iload_n 1, 1) := by decide +kernel
theorem dX7_pace_1 : decode cX7_pace 1 = .ok (.ifCond .eq 15, 3) := by decide +kernel
theorem dX7_pace_4 : decode cX7_pace 4 = .ok (.aload_n 0, 1) := by decide +kernel
theorem dX7_pace_5 : decode cX7_pace 5 = .ok (.getfield 18, 3) := by decide +kernel
theorem dX7_pace_8 : decode cX7_pace 8 = .ok (.aload_n 0, 1) := by decide +kernel
theorem dX7_pace_9 : decode cX7_pace 9 = .ok (.getfield 21, 3) := by decide +kernel
theorem dX7_pace_12 : decode cX7_pace 12 = .ok (.iadd, 1) := by decide +kernel
theorem dX7_pace_13 : decode cX7_pace 13 = .ok (.goto 7, 3) := by decide +kernel
theorem dX7_pace_16 : decode cX7_pace 16 = .ok (.aload_n 0, 1) := by decide +kernel
theorem dX7_pace_17 : decode cX7_pace 17 = .ok (.getfield 18, 3) := by decide +kernel
theorem dX7_pace_20 : decode cX7_pace 20 = .ok (.ireturn, 1) := by decide +kernel
theorem dX7_whenAt_0 : decode cX7_whenAt 0 = .ok (.aload_n 0, 1) := by decide +kernel
theorem dX7_whenAt_1 : decode cX7_whenAt 1 = .ok (.getfield 15, 3) := by decide +kernel
theorem dX7_whenAt_4 : decode cX7_whenAt 4 = .ok (.iload_n 1, 1) := by decide +kernel
theorem dX7_whenAt_5 : decode cX7_whenAt 5 = .ok (.aload_n 0, 1) := by decide +kernel
theorem dX7_whenAt_6 : decode cX7_whenAt 6 = .ok (.getfield 9, 3) := by decide +kernel
theorem dX7_whenAt_9 : decode cX7_whenAt 9 = .ok (.imul, 1) := by decide +kernel
theorem dX7_whenAt_10 : decode cX7_whenAt 10 = .ok (.iadd, 1) := by decide +kernel
theorem dX7_whenAt_11 : decode cX7_whenAt 11 = .ok (.iload_n 2, 1) := by decide +kernel
theorem dX7_whenAt_12 : decode cX7_whenAt 12 = .ok (.aload_n 0, 1) := by decide +kernel
theorem dX7_whenAt_13 : decode cX7_whenAt 13 = .ok (.iload_n 3, 1) := by decide +kernel
theorem dX7_whenAt_14 : decode cX7_whenAt 14 = .ok (.invokevirtual 44, 3) := by decide +kernel
theorem dX7_whenAt_17 : decode cX7_whenAt 17 = .ok (.imul, 1) := by decide +kernel
theorem dX7_whenAt_18 : decode cX7_whenAt 18 = .ok (.iadd, 1) := by decide +kernel
theorem dX7_whenAt_19 : decode cX7_whenAt 19 = .ok (.ireturn, 1) := by decide +kernel
theorem dX7_firstTrip_0 : decode cX7_firstTrip 0 = .ok (.iload_n 2, 1) := by decide +kernel
theorem dX7_firstTrip_1 : decode cX7_firstTrip 1 = .ok (.aload_n 0, 1) := by decide +kernel
theorem dX7_firstTrip_2 : decode cX7_firstTrip 2 = .ok (.getfield 15, 3) := by decide +kernel
theorem dX7_firstTrip_5 : decode cX7_firstTrip 5 = .ok (.isub, 1) := by decide +kernel
theorem dX7_firstTrip_6 : decode cX7_firstTrip 6 = .ok (.iload_n 1, 1) := by decide +kernel
theorem dX7_firstTrip_7 : decode cX7_firstTrip 7 = .ok (.aload_n 0, 1) := by decide +kernel
theorem dX7_firstTrip_8 : decode cX7_firstTrip 8 = .ok (.iload_n 3, 1) := by decide +kernel
theorem dX7_firstTrip_9 : decode cX7_firstTrip 9 = .ok (.invokevirtual 44, 3) := by decide +kernel
theorem dX7_firstTrip_12 : decode cX7_firstTrip 12 = .ok (.imul, 1) := by decide +kernel
theorem dX7_firstTrip_13 : decode cX7_firstTrip 13 = .ok (.isub, 1) := by decide +kernel
theorem dX7_firstTrip_14 : decode cX7_firstTrip 14 = .ok (.istore 4, 2) := by decide +kernel
theorem dX7_firstTrip_16 : decode cX7_firstTrip 16 = .ok (.iload 4, 2) := by decide +kernel
theorem dX7_firstTrip_18 : decode cX7_firstTrip 18 = .ok (.ifCond .le 11, 3) := by decide +kernel
theorem dX7_firstTrip_21 : decode cX7_firstTrip 21 = .ok (.aload_n 0, 1) := by decide +kernel
theorem dX7_firstTrip_22 : decode cX7_firstTrip 22 = .ok (.getfield 9, 3) := by decide +kernel
theorem dX7_firstTrip_25 : decode cX7_firstTrip 25 = .ok (.iconst 1, 1) := by decide +kernel
theorem dX7_firstTrip_26 : decode cX7_firstTrip 26 = .ok (.if_icmp .ge 5, 3) := by decide +kernel
theorem dX7_firstTrip_29 : decode cX7_firstTrip 29 = .ok (.iconst 0, 1) := by decide +kernel
theorem dX7_firstTrip_30 : decode cX7_firstTrip 30 = .ok (.ireturn, 1) := by decide +kernel
theorem dX7_firstTrip_31 : decode cX7_firstTrip 31 = .ok (.iload 4, 2) := by decide +kernel
theorem dX7_firstTrip_33 : decode cX7_firstTrip 33 = .ok (.aload_n 0, 1) := by decide +kernel
theorem dX7_firstTrip_34 : decode cX7_firstTrip 34 = .ok (.getfield 9, 3) := by decide +kernel
theorem dX7_firstTrip_37 : decode cX7_firstTrip 37 = .ok (.iadd, 1) := by decide +kernel
theorem dX7_firstTrip_38 : decode cX7_firstTrip 38 = .ok (.iconst 1, 1) := by decide +kernel
theorem dX7_firstTrip_39 : decode cX7_firstTrip 39 = .ok (.isub, 1) := by decide +kernel
theorem dX7_firstTrip_40 : decode cX7_firstTrip 40 = .ok (.aload_n 0, 1) := by decide +kernel
theorem dX7_firstTrip_41 : decode cX7_firstTrip 41 = .ok (.getfield 9, 3) := by decide +kernel
theorem dX7_firstTrip_44 : decode cX7_firstTrip 44 = .ok (.idiv, 1) := by decide +kernel
theorem dX7_firstTrip_45 : decode cX7_firstTrip 45 = .ok (.ireturn, 1) := by decide +kernel
theorem dX7_firstTripTried_0 : decode cX7_firstTripTried 0 = .ok (.iconst 0, 1) := by decide +kernel
theorem dX7_firstTripTried_1 : decode cX7_firstTripTried 1 = .ok (.istore 4, 2) := by decide +kernel
theorem dX7_firstTripTried_3 : decode cX7_firstTripTried 3 = .ok (.sipush 8192, 3) := by decide +kernel
theorem dX7_firstTripTried_6 : decode cX7_firstTripTried 6 = .ok (.istore 5, 2) := by decide +kernel
theorem dX7_firstTripTried_8 : decode cX7_firstTripTried 8 = .ok (.iload 5, 2) := by decide +kernel
theorem dX7_firstTripTried_10 : decode cX7_firstTripTried 10 = .ok (.iconst 1, 1) := by decide +kernel
theorem dX7_firstTripTried_11 : decode cX7_firstTripTried 11 = .ok (.if_icmp .lt 36, 3) := by decide +kernel
theorem dX7_firstTripTried_14 : decode cX7_firstTripTried 14 = .ok (.aload_n 0, 1) := by decide +kernel
theorem dX7_firstTripTried_15 : decode cX7_firstTripTried 15 = .ok (.iload 4, 2) := by decide +kernel
theorem dX7_firstTripTried_17 : decode cX7_firstTripTried 17 = .ok (.iload 5, 2) := by decide +kernel
theorem dX7_firstTripTried_19 : decode cX7_firstTripTried 19 = .ok (.iadd, 1) := by decide +kernel
theorem dX7_firstTripTried_20 : decode cX7_firstTripTried 20 = .ok (.iconst 1, 1) := by decide +kernel
theorem dX7_firstTripTried_21 : decode cX7_firstTripTried 21 = .ok (.isub, 1) := by decide +kernel
theorem dX7_firstTripTried_22 : decode cX7_firstTripTried 22 = .ok (.iload_n 1, 1) := by decide +kernel
theorem dX7_firstTripTried_23 : decode cX7_firstTripTried 23 = .ok (.iload_n 3, 1) := by decide +kernel
theorem dX7_firstTripTried_24 : decode cX7_firstTripTried 24 = .ok (.invokevirtual 48, 3) := by decide +kernel
theorem dX7_firstTripTried_27 : decode cX7_firstTripTried 27 = .ok (.iload_n 2, 1) := by decide +kernel
theorem dX7_firstTripTried_28 : decode cX7_firstTripTried 28 = .ok (.if_icmp .ge 10, 3) := by decide +kernel
theorem dX7_firstTripTried_31 : decode cX7_firstTripTried 31 = .ok (.iload 4, 2) := by decide +kernel
theorem dX7_firstTripTried_33 : decode cX7_firstTripTried 33 = .ok (.iload 5, 2) := by decide +kernel
theorem dX7_firstTripTried_35 : decode cX7_firstTripTried 35 = .ok (.iadd, 1) := by decide +kernel
theorem dX7_firstTripTried_36 : decode cX7_firstTripTried 36 = .ok (.istore 4, 2) := by decide +kernel
theorem dX7_firstTripTried_38 : decode cX7_firstTripTried 38 = .ok (.iload 5, 2) := by decide +kernel
theorem dX7_firstTripTried_40 : decode cX7_firstTripTried 40 = .ok (.iconst 2, 1) := by decide +kernel
theorem dX7_firstTripTried_41 : decode cX7_firstTripTried 41 = .ok (.idiv, 1) := by decide +kernel
theorem dX7_firstTripTried_42 : decode cX7_firstTripTried 42 = .ok (.istore 5, 2) := by decide +kernel
theorem dX7_firstTripTried_44 : decode cX7_firstTripTried 44 = .ok (.goto (-36), 3) := by decide +kernel
theorem dX7_firstTripTried_47 : decode cX7_firstTripTried 47 = .ok (.iload 4, 2) := by decide +kernel
theorem dX7_firstTripTried_49 : decode cX7_firstTripTried 49 = .ok (.ireturn, 1) := by decide +kernel
theorem dX8_init_0 : decode cX8_init 0 = .ok (.aload_n 0, 1) := by decide +kernel
theorem dX8_init_1 : decode cX8_init 1 = .ok (.invokespecial 3, 3) := by decide +kernel
theorem dX8_init_4 : decode cX8_init 4 = .ok (.aload_n 0, 1) := by decide +kernel
theorem dX8_init_5 : decode cX8_init 5 = .ok (.iconst 0, 1) := by decide +kernel
theorem dX8_init_6 : decode cX8_init 6 = .ok (.putfield 9, 3) := by decide +kernel
theorem dX8_init_9 : decode cX8_init 9 = .ok (.aload_n 0, 1) := by decide +kernel
theorem dX8_init_10 : decode cX8_init 10 = .ok (.iconst 0, 1) := by decide +kernel
theorem dX8_init_11 : decode cX8_init 11 = .ok (.putfield 15, 3) := by decide +kernel
theorem dX8_init_14 : decode cX8_init 14 = .ok (.aload_n 0, 1) := by decide +kernel
theorem dX8_init_15 : decode cX8_init 15 = .ok (.iconst 0, 1) := by decide +kernel
theorem dX8_init_16 : decode cX8_init 16 = .ok (.putfield 19, 3) := by decide +kernel
theorem dX8_init_19 : decode cX8_init 19 = .ok (.aload_n 0, 1) := by decide +kernel
theorem dX8_init_20 : decode cX8_init 20 = .ok (.bipush 10, 2) := by decide +kernel
theorem dX8_init_22 : decode cX8_init 22 = .ok (.newarray .int, 2) := by decide +kernel
theorem dX8_init_24 : decode cX8_init 24 = .ok (.putfield 22, 3) := by decide +kernel
theorem dX8_init_27 : decode cX8_init 27 = .ok (.aload_n 0, 1) := by decide +kernel
theorem dX8_init_28 : decode cX8_init 28 = .ok (.bipush 10, 2) := by decide +kernel
theorem dX8_init_30 : decode cX8_init 30 = .ok (.newarray .boolean, 2) := by decide +kernel
theorem dX8_init_32 : decode cX8_init 32 = .ok (.putfield 26, 3) := by decide +kernel
theorem dX8_init_35 : decode cX8_init 35 = .ok (.aload_n 0, 1) := by decide +kernel
theorem dX8_init_36 : decode cX8_init 36 = .ok (.iconst 0, 1) := by decide +kernel
theorem dX8_init_37 : decode cX8_init 37 = .ok (.putfield 30, 3) := by decide +kernel
theorem dX8_init_40 : decode cX8_init 40 = .ok (.aload_n 0, 1) := by decide +kernel
theorem dX8_init_41 : decode cX8_init 41 = .ok (.bipush 100, 2) := by decide +kernel
theorem dX8_init_43 : decode cX8_init 43 = .ok (.newarray .int, 2) := by decide +kernel
theorem dX8_init_45 : decode cX8_init 45 = .ok (.putfield 33, 3) := by decide +kernel
theorem dX8_init_48 : decode cX8_init 48 = .ok (.aload_n 0, 1) := by decide +kernel
theorem dX8_init_49 : decode cX8_init 49 = .ok (.iconst 0, 1) := by decide +kernel
theorem dX8_init_50 : decode cX8_init 50 = .ok (.putfield 36, 3) := by decide +kernel
theorem dX8_init_53 : decode cX8_init 53 = .ok (.aload_n 0, 1) := by decide +kernel
theorem dX8_init_54 : decode cX8_init 54 = .ok (.iconst 5, 1) := by decide +kernel
theorem dX8_init_55 : decode cX8_init 55 = .ok (.anewarray 39, 3) := by decide +kernel
theorem dX8_init_58 : decode cX8_init 58 = .ok (.putfield 41, 3) := by decide +kernel
theorem dX8_init_61 : decode cX8_init 61 = .ok (.aload_n 0, 1) := by decide +kernel
theorem dX8_init_62 : decode cX8_init 62 = .ok (.new 45, 3) := by decide +kernel
theorem dX8_init_65 : decode cX8_init 65 = .ok (.dup, 1) := by decide +kernel
theorem dX8_init_66 : decode cX8_init 66 = .ok (.invokespecial 47, 3) := by decide +kernel
theorem dX8_init_69 : decode cX8_init 69 = .ok (.putfield 48, 3) := by decide +kernel
theorem dX8_init_72 : decode cX8_init 72 = .ok (.iconst 0, 1) := by decide +kernel
theorem dX8_init_73 : decode cX8_init 73 = .ok (.istore_n 1, 1) := by decide +kernel
theorem dX8_init_74 : decode cX8_init 74 = .ok (.iload_n 1, 1) := by decide +kernel
theorem dX8_init_75 : decode cX8_init 75 = .ok (.iconst 5, 1) := by decide +kernel
theorem dX8_init_76 : decode cX8_init 76 = .ok (.if_icmp .ge 22, 3) := by decide +kernel
theorem dX8_init_79 : decode cX8_init 79 = .ok (.aload_n 0, 1) := by decide +kernel
theorem dX8_init_80 : decode cX8_init 80 = .ok (.getfield 41, 3) := by decide +kernel
theorem dX8_init_83 : decode cX8_init 83 = .ok (.iload_n 1, 1) := by decide +kernel
theorem dX8_init_84 : decode cX8_init 84 = .ok (.new 39, 3) := by decide +kernel
theorem dX8_init_87 : decode cX8_init 87 = .ok (.dup, 1) := by decide +kernel
theorem dX8_init_88 : decode cX8_init 88 = .ok (.invokespecial 52, 3) := by decide +kernel
theorem dX8_init_91 : decode cX8_init 91 = .ok (.aastore, 1) := by decide +kernel
theorem dX8_init_92 : decode cX8_init 92 = .ok (.iinc 1 1, 3) := by decide +kernel
theorem dX8_init_95 : decode cX8_init 95 = .ok (.goto (-21), 3) := by decide +kernel
theorem dX8_init_98 : decode cX8_init 98 = .ok (.return_, 1) := by decide +kernel
theorem dX8_copyFrom_0 : decode cX8_copyFrom 0 = .ok (.aload_n 0, 1) := by decide +kernel
theorem dX8_copyFrom_1 : decode cX8_copyFrom 1 = .ok (.aload_n 1, 1) := by decide +kernel
theorem dX8_copyFrom_2 : decode cX8_copyFrom 2 = .ok (.getfield 9, 3) := by decide +kernel
theorem dX8_copyFrom_5 : decode cX8_copyFrom 5 = .ok (.putfield 9, 3) := by decide +kernel
theorem dX8_copyFrom_8 : decode cX8_copyFrom 8 = .ok (.aload_n 0, 1) := by decide +kernel
theorem dX8_copyFrom_9 : decode cX8_copyFrom 9 = .ok (.aload_n 1, 1) := by decide +kernel
theorem dX8_copyFrom_10 : decode cX8_copyFrom 10 = .ok (.getfield 15, 3) := by decide +kernel
theorem dX8_copyFrom_13 : decode cX8_copyFrom 13 = .ok (.putfield 15, 3) := by decide +kernel
theorem dX8_copyFrom_16 : decode cX8_copyFrom 16 = .ok (.aload_n 0, 1) := by decide +kernel
theorem dX8_copyFrom_17 : decode cX8_copyFrom 17 = .ok (.aload_n 1, 1) := by decide +kernel
theorem dX8_copyFrom_18 : decode cX8_copyFrom 18 = .ok (.getfield 19, 3) := by decide +kernel
theorem dX8_copyFrom_21 : decode cX8_copyFrom 21 = .ok (.putfield 19, 3) := by decide +kernel
theorem dX8_copyFrom_24 : decode cX8_copyFrom 24 = .ok (.aload_n 1, 1) := by decide +kernel
theorem dX8_copyFrom_25 : decode cX8_copyFrom 25 = .ok (.getfield 22, 3) := by decide +kernel
theorem dX8_copyFrom_28 : decode cX8_copyFrom 28 = .ok (.iconst 0, 1) := by decide +kernel
theorem dX8_copyFrom_29 : decode cX8_copyFrom 29 = .ok (.aload_n 0, 1) := by decide +kernel
theorem dX8_copyFrom_30 : decode cX8_copyFrom 30 = .ok (.getfield 22, 3) := by decide +kernel
theorem dX8_copyFrom_33 : decode cX8_copyFrom 33 = .ok (.iconst 0, 1) := by decide +kernel
theorem dX8_copyFrom_34 : decode cX8_copyFrom 34 = .ok (.bipush 10, 2) := by decide +kernel
theorem dX8_copyFrom_36 : decode cX8_copyFrom 36 = .ok (.invokestatic 53, 3) := by decide +kernel
theorem dX8_copyFrom_39 : decode cX8_copyFrom 39 = .ok (.iconst 0, 1) := by decide +kernel
theorem dX8_copyFrom_40 : decode cX8_copyFrom 40 = .ok (.istore_n 2, 1) := by decide +kernel
theorem dX8_copyFrom_41 : decode cX8_copyFrom 41 = .ok (.iload_n 2, 1) := by decide +kernel
theorem dX8_copyFrom_42 : decode cX8_copyFrom 42 = .ok (.bipush 10, 2) := by decide +kernel
theorem dX8_copyFrom_44 : decode cX8_copyFrom 44 = .ok (.if_icmp .ge 21, 3) := by decide +kernel
theorem dX8_copyFrom_47 : decode cX8_copyFrom 47 = .ok (.aload_n 0, 1) := by decide +kernel
theorem dX8_copyFrom_48 : decode cX8_copyFrom 48 = .ok (.getfield 26, 3) := by decide +kernel
theorem dX8_copyFrom_51 : decode cX8_copyFrom 51 = .ok (.iload_n 2, 1) := by decide +kernel
theorem dX8_copyFrom_52 : decode cX8_copyFrom 52 = .ok (.aload_n 1, 1) := by decide +kernel
theorem dX8_copyFrom_53 : decode cX8_copyFrom 53 = .ok (.getfield 26, 3) := by decide +kernel
theorem dX8_copyFrom_56 : decode cX8_copyFrom 56 = .ok (.iload_n 2, 1) := by decide +kernel
theorem dX8_copyFrom_57 : decode cX8_copyFrom 57 = .ok (.baload, 1) := by decide +kernel
theorem dX8_copyFrom_58 : decode cX8_copyFrom 58 = .ok (.bastore, 1) := by decide +kernel
theorem dX8_copyFrom_59 : decode cX8_copyFrom 59 = .ok (.iinc 2 1, 3) := by decide +kernel
theorem dX8_copyFrom_62 : decode cX8_copyFrom 62 = .ok (.goto (-21), 3) := by decide +kernel
theorem dX8_copyFrom_65 : decode cX8_copyFrom 65 = .ok (.aload_n 0, 1) := by decide +kernel
theorem dX8_copyFrom_66 : decode cX8_copyFrom 66 = .ok (.aload_n 1, 1) := by decide +kernel
theorem dX8_copyFrom_67 : decode cX8_copyFrom 67 = .ok (.getfield 30, 3) := by decide +kernel
theorem dX8_copyFrom_70 : decode cX8_copyFrom 70 = .ok (.putfield 30, 3) := by decide +kernel
theorem dX8_copyFrom_73 : decode cX8_copyFrom 73 = .ok (.aload_n 1, 1) := by decide +kernel
theorem dX8_copyFrom_74 : decode cX8_copyFrom 74 = .ok (.getfield 33, 3) := by decide +kernel
theorem dX8_copyFrom_77 : decode cX8_copyFrom 77 = .ok (.iconst 0, 1) := by decide +kernel
theorem dX8_copyFrom_78 : decode cX8_copyFrom 78 = .ok (.aload_n 0, 1) := by decide +kernel
theorem dX8_copyFrom_79 : decode cX8_copyFrom 79 = .ok (.getfield 33, 3) := by decide +kernel
theorem dX8_copyFrom_82 : decode cX8_copyFrom 82 = .ok (.iconst 0, 1) := by decide +kernel
theorem dX8_copyFrom_83 : decode cX8_copyFrom 83 = .ok (.bipush 100, 2) := by decide +kernel
theorem dX8_copyFrom_85 : decode cX8_copyFrom 85 = .ok (.invokestatic 53, 3) := by decide +kernel
theorem dX8_copyFrom_88 : decode cX8_copyFrom 88 = .ok (.aload_n 0, 1) := by decide +kernel
theorem dX8_copyFrom_89 : decode cX8_copyFrom 89 = .ok (.aload_n 1, 1) := by decide +kernel
theorem dX8_copyFrom_90 : decode cX8_copyFrom 90 = .ok (.getfield 36, 3) := by decide +kernel
theorem dX8_copyFrom_93 : decode cX8_copyFrom 93 = .ok (.putfield 36, 3) := by decide +kernel
theorem dX8_copyFrom_96 : decode cX8_copyFrom 96 = .ok (.iconst 0, 1) := by decide +kernel
theorem dX8_copyFrom_97 : decode cX8_copyFrom 97 = .ok (.istore_n 2, 1) := by decide +kernel
theorem dX8_copyFrom_98 : decode cX8_copyFrom 98 = .ok (.iload_n 2, 1) := by decide +kernel
theorem dX8_copyFrom_99 : decode cX8_copyFrom 99 = .ok (.aload_n 0, 1) := by decide +kernel
theorem dX8_copyFrom_100 : decode cX8_copyFrom 100 = .ok (.getfield 36, 3) := by decide +kernel
theorem dX8_copyFrom_103 : decode cX8_copyFrom 103 = .ok (.if_icmp .ge 24, 3) := by decide +kernel
theorem dX8_copyFrom_106 : decode cX8_copyFrom 106 = .ok (.aload_n 0, 1) := by decide +kernel
theorem dX8_copyFrom_107 : decode cX8_copyFrom 107 = .ok (.getfield 41, 3) := by decide +kernel
theorem dX8_copyFrom_110 : decode cX8_copyFrom 110 = .ok (.iload_n 2, 1) := by decide +kernel
theorem dX8_copyFrom_111 : decode cX8_copyFrom 111 = .ok (.aaload, 1) := by decide +kernel
theorem dX8_copyFrom_112 : decode cX8_copyFrom 112 = .ok (.aload_n 1, 1) := by decide +kernel
theorem dX8_copyFrom_113 : decode cX8_copyFrom 113 = .ok (.getfield 41, 3) := by decide +kernel
theorem dX8_copyFrom_116 : decode cX8_copyFrom 116 = .ok (.iload_n 2, 1) := by decide +kernel
theorem dX8_copyFrom_117 : decode cX8_copyFrom 117 = .ok (.aaload, 1) := by decide +kernel
theorem dX8_copyFrom_118 : decode cX8_copyFrom 118 = .ok (.invokevirtual 59, 3) := by decide +kernel
theorem dX8_copyFrom_121 : decode cX8_copyFrom 121 = .ok (.iinc 2 1, 3) := by decide +kernel
theorem dX8_copyFrom_124 : decode cX8_copyFrom 124 = .ok (.goto (-26), 3) := by decide +kernel
theorem dX8_copyFrom_127 : decode cX8_copyFrom 127 = .ok (.aload_n 0, 1) := by decide +kernel
theorem dX8_copyFrom_128 : decode cX8_copyFrom 128 = .ok (.getfield 48, 3) := by decide +kernel
theorem dX8_copyFrom_131 : decode cX8_copyFrom 131 = .ok (.aload_n 1, 1) := by decide +kernel
theorem dX8_copyFrom_132 : decode cX8_copyFrom 132 = .ok (.getfield 48, 3) := by decide +kernel
theorem dX8_copyFrom_135 : decode cX8_copyFrom 135 = .ok (.invokevirtual 63, 3) := by decide +kernel
theorem dX8_copyFrom_138 : decode cX8_copyFrom 138 = .ok (.return_, 1) := by decide +kernel
theorem dX8_hasStop_0 : decode cX8_hasStop 0 = .ok (.iload_n 1, 1) := by decide +kernel
theorem dX8_hasStop_1 : decode cX8_hasStop 1 = .ok (.ifCond .lt 15, 3) := by decide +kernel
theorem dX8_hasStop_4 : decode cX8_hasStop 4 = .ok (.iload_n 1, 1) := by decide +kernel
theorem dX8_hasStop_5 : decode cX8_hasStop 5 = .ok (.aload_n 0, 1) := by decide +kernel
theorem dX8_hasStop_6 : decode cX8_hasStop 6 = .ok (.getfield 19, 3) := by decide +kernel
theorem dX8_hasStop_9 : decode cX8_hasStop 9 = .ok (.if_icmp .ge 7, 3) := by decide +kernel
theorem dX8_hasStop_12 : decode cX8_hasStop 12 = .ok (.iconst 1, 1) := by decide +kernel
theorem dX8_hasStop_13 : decode cX8_hasStop 13 = .ok (.goto 4, 3) := by decide +kernel
theorem dX8_hasStop_16 : decode cX8_hasStop 16 = .ok (.iconst 0, 1) := by decide +kernel
theorem dX8_hasStop_17 : decode cX8_hasStop 17 = .ok (.ireturn, 1) := by decide +kernel
theorem dX8_hasLine_0 : decode cX8_hasLine 0 = .ok (.iload_n 1, 1) := by decide +kernel
theorem dX8_hasLine_1 : decode cX8_hasLine 1 = .ok (.ifCond .lt 15, 3) := by decide +kernel
theorem dX8_hasLine_4 : decode cX8_hasLine 4 = .ok (.iload_n 1, 1) := by decide +kernel
theorem dX8_hasLine_5 : decode cX8_hasLine 5 = .ok (.aload_n 0, 1) := by decide +kernel
theorem dX8_hasLine_6 : decode cX8_hasLine 6 = .ok (.getfield 36, 3) := by decide +kernel
theorem dX8_hasLine_9 : decode cX8_hasLine 9 = .ok (.if_icmp .ge 7, 3) := by decide +kernel
theorem dX8_hasLine_12 : decode cX8_hasLine 12 = .ok (.iconst 1, 1) := by decide +kernel
theorem dX8_hasLine_13 : decode cX8_hasLine 13 = .ok (.goto 4, 3) := by decide +kernel
theorem dX8_hasLine_16 : decode cX8_hasLine 16 = .ok (.iconst 0, 1) := by decide +kernel
theorem dX8_hasLine_17 : decode cX8_hasLine 17 = .ok (.ireturn, 1) := by decide +kernel
theorem dX8_stopIndexFault_0 : decode cX8_stopIndexFault 0 = .ok (.aload_n 0, 1) := by decide +kernel
theorem dX8_stopIndexFault_1 : decode cX8_stopIndexFault 1 = .ok (.iload_n 1, 1) := by decide +kernel
theorem dX8_stopIndexFault_2 : decode cX8_stopIndexFault 2 = .ok (.invokevirtual 66, 3) := by decide +kernel
theorem dX8_stopIndexFault_5 : decode cX8_stopIndexFault 5 = .ok (.ifCond .eq 9, 3) := by decide +kernel
theorem dX8_stopIndexFault_8 : decode cX8_stopIndexFault 8 = .ok (.getstatic 70, 3) := by decide +kernel
theorem dX8_stopIndexFault_11 : decode cX8_stopIndexFault 11 = .ok (.goto 6, 3) := by decide +kernel
theorem dX8_stopIndexFault_14 : decode cX8_stopIndexFault 14 = .ok (.getstatic 76, 3) := by decide +kernel
theorem dX8_stopIndexFault_17 : decode cX8_stopIndexFault 17 = .ok (.areturn, 1) := by decide +kernel
theorem dX8_stopPairFault_0 : decode cX8_stopPairFault 0 = .ok (.aload_n 0, 1) := by decide +kernel
theorem dX8_stopPairFault_1 : decode cX8_stopPairFault 1 = .ok (.iload_n 1, 1) := by decide +kernel
theorem dX8_stopPairFault_2 : decode cX8_stopPairFault 2 = .ok (.invokevirtual 66, 3) := by decide +kernel
theorem dX8_stopPairFault_5 : decode cX8_stopPairFault 5 = .ok (.ifCond .eq 17, 3) := by decide +kernel
theorem dX8_stopPairFault_8 : decode cX8_stopPairFault 8 = .ok (.aload_n 0, 1) := by decide +kernel
theorem dX8_stopPairFault_9 : decode cX8_stopPairFault 9 = .ok (.iload_n 2, 1) := by decide +kernel
theorem dX8_stopPairFault_10 : decode cX8_stopPairFault 10 = .ok (.invokevirtual 66, 3) := by decide +kernel
theorem dX8_stopPairFault_13 : decode cX8_stopPairFault 13 = .ok (.ifCond .eq 9, 3) := by decide +kernel
theorem dX8_stopPairFault_16 : decode cX8_stopPairFault 16 = .ok (.getstatic 70, 3) := by decide +kernel
theorem dX8_stopPairFault_19 : decode cX8_stopPairFault 19 = .ok (.goto 6, 3) := by decide +kernel
theorem dX8_stopPairFault_22 : decode cX8_stopPairFault 22 = .ok (.getstatic 76, 3) := by decide +kernel
theorem dX8_stopPairFault_25 : decode cX8_stopPairFault 25 = .ok (.areturn, 1) := by decide +kernel
theorem dX8_lineIndexFault_0 : decode cX8_lineIndexFault 0 = .ok (.aload_n 0, 1) := by decide +kernel
theorem dX8_lineIndexFault_1 : decode cX8_lineIndexFault 1 = .ok (.iload_n 1, 1) := by decide +kernel
theorem dX8_lineIndexFault_2 : decode cX8_lineIndexFault 2 = .ok (.invokevirtual 79, 3) := by decide +kernel
theorem dX8_lineIndexFault_5 : decode cX8_lineIndexFault 5 = .ok (.ifCond .eq 9, 3) := by decide +kernel
theorem dX8_lineIndexFault_8 : decode cX8_lineIndexFault 8 = .ok (.getstatic 70, 3) := by decide +kernel
theorem dX8_lineIndexFault_11 : decode cX8_lineIndexFault 11 = .ok (.goto 6, 3) := by decide +kernel
theorem dX8_lineIndexFault_14 : decode cX8_lineIndexFault 14 = .ok (.getstatic 76, 3) := by decide +kernel
theorem dX8_lineIndexFault_17 : decode cX8_lineIndexFault 17 = .ok (.areturn, 1) := by decide +kernel
theorem dX8_lineAndStopFault_0 : decode cX8_lineAndStopFault 0 = .ok (.aload_n 0, 1) := by decide +kernel
theorem dX8_lineAndStopFault_1 : decode cX8_lineAndStopFault 1 = .ok (.iload_n 1, 1) := by decide +kernel
theorem dX8_lineAndStopFault_2 : decode cX8_lineAndStopFault 2 = .ok (.invokevirtual 79, 3) := by decide +kernel
theorem dX8_lineAndStopFault_5 : decode cX8_lineAndStopFault 5 = .ok (.ifCond .eq 17, 3) := by decide +kernel
theorem dX8_lineAndStopFault_8 : decode cX8_lineAndStopFault 8 = .ok (.aload_n 0, 1) := by decide +kernel
theorem dX8_lineAndStopFault_9 : decode cX8_lineAndStopFault 9 = .ok (.iload_n 2, 1) := by decide +kernel
theorem dX8_lineAndStopFault_10 : decode cX8_lineAndStopFault 10 = .ok (.invokevirtual 66, 3) := by decide +kernel
theorem dX8_lineAndStopFault_13 : decode cX8_lineAndStopFault 13 = .ok (.ifCond .eq 9, 3) := by decide +kernel
theorem dX8_lineAndStopFault_16 : decode cX8_lineAndStopFault 16 = .ok (.getstatic 70, 3) := by decide +kernel
theorem dX8_lineAndStopFault_19 : decode cX8_lineAndStopFault 19 = .ok (.goto 6, 3) := by decide +kernel
theorem dX8_lineAndStopFault_22 : decode cX8_lineAndStopFault 22 = .ok (.getstatic 76, 3) := by decide +kernel
theorem dX8_lineAndStopFault_25 : decode cX8_lineAndStopFault 25 = .ok (.areturn, 1) := by decide +kernel
theorem dX8_stopFault_0 : decode cX8_stopFault 0 = .ok (.iload_n 1, 1) := by decide +kernel
theorem dX8_stopFault_1 : decode cX8_stopFault 1 = .ok (.ifCond .lt 9, 3) := by decide +kernel
theorem dX8_stopFault_4 : decode cX8_stopFault 4 = .ok (.iload_n 1, 1) := by decide +kernel
theorem dX8_stopFault_5 : decode cX8_stopFault 5 = .ok (.bipush 9, 2) := by decide +kernel
theorem dX8_stopFault_7 : decode cX8_stopFault 7 = .ok (.if_icmp .le 7, 3) := by decide +kernel
theorem dX8_stopFault_10 : decode cX8_stopFault 10 = .ok (.getstatic 82, 3) := by decide +kernel
theorem dX8_stopFault_13 : decode cX8_stopFault 13 = .ok (.areturn, 1) := by decide +kernel
theorem dX8_stopFault_14 : decode cX8_stopFault 14 = .ok (.aload_n 0, 1) := by decide +kernel
theorem dX8_stopFault_15 : decode cX8_stopFault 15 = .ok (.getfield 19, 3) := by decide +kernel
theorem dX8_stopFault_18 : decode cX8_stopFault 18 = .ok (.bipush 10, 2) := by decide +kernel
theorem dX8_stopFault_20 : decode cX8_stopFault 20 = .ok (.if_icmp .ge 9, 3) := by decide +kernel
theorem dX8_stopFault_23 : decode cX8_stopFault 23 = .ok (.getstatic 70, 3) := by decide +kernel
theorem dX8_stopFault_26 : decode cX8_stopFault 26 = .ok (.goto 6, 3) := by decide +kernel
theorem dX8_stopFault_29 : decode cX8_stopFault 29 = .ok (.getstatic 85, 3) := by decide +kernel
theorem dX8_stopFault_32 : decode cX8_stopFault 32 = .ok (.areturn, 1) := by decide +kernel
theorem dX8_putStop_0 : decode cX8_putStop 0 = .ok (.aload_n 0, 1) := by decide +kernel
theorem dX8_putStop_1 : decode cX8_putStop 1 = .ok (.getfield 19, 3) := by decide +kernel
theorem dX8_putStop_4 : decode cX8_putStop 4 = .ok (.bipush 10, 2) := by decide +kernel
theorem dX8_putStop_6 : decode cX8_putStop 6 = .ok (.if_icmp .lt 5, 3) := by decide +kernel
theorem dX8_putStop_9 : decode cX8_putStop 9 = .ok (.iconst (-1), 1) := by decide +kernel
theorem dX8_putStop_10 : decode cX8_putStop 10 = .ok (.ireturn, 1) := by decide +kernel
theorem dX8_putStop_11 : decode cX8_putStop 11 = .ok (.aload_n 0, 1) := by decide +kernel
theorem dX8_putStop_12 : decode cX8_putStop 12 = .ok (.getfield 22, 3) := by decide +kernel
theorem dX8_putStop_15 : decode cX8_putStop 15 = .ok (.aload_n 0, 1) := by decide +kernel
theorem dX8_putStop_16 : decode cX8_putStop 16 = .ok (.getfield 19, 3) := by decide +kernel
theorem dX8_putStop_19 : decode cX8_putStop 19 = .ok (.iload_n 1, 1) := by decide +kernel
theorem dX8_putStop_20 : decode cX8_putStop 20 = .ok (.iastore, 1) := by decide +kernel
theorem dX8_putStop_21 : decode cX8_putStop 21 = .ok (.aload_n 0, 1) := by decide +kernel
theorem dX8_putStop_22 : decode cX8_putStop 22 = .ok (.getfield 26, 3) := by decide +kernel
theorem dX8_putStop_25 : decode cX8_putStop 25 = .ok (.aload_n 0, 1) := by decide +kernel
theorem dX8_putStop_26 : decode cX8_putStop 26 = .ok (.getfield 19, 3) := by decide +kernel
theorem dX8_putStop_29 : decode cX8_putStop 29 = .ok (.iconst 0, 1) := by decide +kernel
theorem dX8_putStop_30 : decode cX8_putStop 30 = .ok (.bastore, 1) := by decide +kernel
theorem dX8_putStop_31 : decode cX8_putStop 31 = .ok (.aload_n 0, 1) := by decide +kernel
theorem dX8_putStop_32 : decode cX8_putStop 32 = .ok (.dup, 1) := by decide +kernel
theorem dX8_putStop_33 : decode cX8_putStop 33 = .ok (.getfield 19, 3) := by decide +kernel
theorem dX8_putStop_36 : decode cX8_putStop 36 = .ok (.iconst 1, 1) := by decide +kernel
theorem dX8_putStop_37 : decode cX8_putStop 37 = .ok (.iadd, 1) := by decide +kernel
theorem dX8_putStop_38 : decode cX8_putStop 38 = .ok (.putfield 19, 3) := by decide +kernel
theorem dX8_putStop_41 : decode cX8_putStop 41 = .ok (.aload_n 0, 1) := by decide +kernel
theorem dX8_putStop_42 : decode cX8_putStop 42 = .ok (.getfield 19, 3) := by decide +kernel
theorem dX8_putStop_45 : decode cX8_putStop 45 = .ok (.iconst 1, 1) := by decide +kernel
theorem dX8_putStop_46 : decode cX8_putStop 46 = .ok (.isub, 1) := by decide +kernel
theorem dX8_putStop_47 : decode cX8_putStop 47 = .ok (.ireturn, 1) := by decide +kernel
theorem dX8_walkBetween_0 : decode cX8_walkBetween 0 = .ok (.aload_n 0, 1) := by decide +kernel
theorem dX8_walkBetween_1 : decode cX8_walkBetween 1 = .ok (.getfield 33, 3) := by decide +kernel
theorem dX8_walkBetween_4 : decode cX8_walkBetween 4 = .ok (.iload_n 1, 1) := by decide +kernel
theorem dX8_walkBetween_5 : decode cX8_walkBetween 5 = .ok (.bipush 10, 2) := by decide +kernel
theorem dX8_walkBetween_7 : decode cX8_walkBetween 7 = .ok (.imul, 1) := by decide +kernel
theorem dX8_walkBetween_8 : decode cX8_walkBetween 8 = .ok (.iload_n 2, 1) := by decide +kernel
theorem dX8_walkBetween_9 : decode cX8_walkBetween 9 = .ok (.iadd, 1) := by decide +kernel
theorem dX8_walkBetween_10 : decode cX8_walkBetween 10 = .ok (.iaload, 1) := by decide +kernel
theorem dX8_walkBetween_11 : decode cX8_walkBetween 11 = .ok (.ireturn, 1) := by decide +kernel
theorem dX8_canWalk_0 : decode cX8_canWalk 0 = .ok (.aload_n 0, 1) := by decide +kernel
theorem dX8_canWalk_1 : decode cX8_canWalk 1 = .ok (.iload_n 1, 1) := by decide +kernel
theorem dX8_canWalk_2 : decode cX8_canWalk 2 = .ok (.iload_n 2, 1) := by decide +kernel
theorem dX8_canWalk_3 : decode cX8_canWalk 3 = .ok (.invokevirtual 88, 3) := by decide +kernel
theorem dX8_canWalk_6 : decode cX8_canWalk 6 = .ok (.ifCond .le 25, 3) := by decide +kernel
theorem dX8_canWalk_9 : decode cX8_canWalk 9 = .ok (.aload_n 0, 1) := by decide +kernel
theorem dX8_canWalk_10 : decode cX8_canWalk 10 = .ok (.getfield 26, 3) := by decide +kernel
theorem dX8_canWalk_13 : decode cX8_canWalk 13 = .ok (.iload_n 1, 1) := by decide +kernel
theorem dX8_canWalk_14 : decode cX8_canWalk 14 = .ok (.baload, 1) := by decide +kernel
theorem dX8_canWalk_15 : decode cX8_canWalk 15 = .ok (.ifCond .ne 16, 3) := by decide +kernel
theorem dX8_canWalk_18 : decode cX8_canWalk 18 = .ok (.aload_n 0, 1) := by decide +kernel
theorem dX8_canWalk_19 : decode cX8_canWalk 19 = .ok (.getfield 26, 3) := by decide +kernel
theorem dX8_canWalk_22 : decode cX8_canWalk 22 = .ok (.iload_n 2, 1) := by decide +kernel
theorem dX8_canWalk_23 : decode cX8_canWalk 23 = .ok (.baload, 1) := by decide +kernel
theorem dX8_canWalk_24 : decode cX8_canWalk 24 = .ok (.ifCond .ne 7, 3) := by decide +kernel
theorem dX8_canWalk_27 : decode cX8_canWalk 27 = .ok (.iconst 1, 1) := by decide +kernel
theorem dX8_canWalk_28 : decode cX8_canWalk 28 = .ok (.goto 4, 3) := by decide +kernel
theorem dX8_canWalk_31 : decode cX8_canWalk 31 = .ok (.iconst 0, 1) := by decide +kernel
theorem dX8_canWalk_32 : decode cX8_canWalk 32 = .ok (.ireturn, 1) := by decide +kernel
theorem dX8_walkFault_0 : decode cX8_walkFault 0 = .ok (.aload_n 0, 1) := by decide +kernel
theorem dX8_walkFault_1 : decode cX8_walkFault 1 = .ok (.iload_n 1, 1) := by decide +kernel
theorem dX8_walkFault_2 : decode cX8_walkFault 2 = .ok (.invokevirtual 66, 3) := by decide +kernel
theorem dX8_walkFault_5 : decode cX8_walkFault 5 = .ok (.ifCond .eq 11, 3) := by decide +kernel
theorem dX8_walkFault_8 : decode cX8_walkFault 8 = .ok (.aload_n 0, 1) := by decide +kernel
theorem dX8_walkFault_9 : decode cX8_walkFault 9 = .ok (.iload_n 2, 1) := by decide +kernel
theorem dX8_walkFault_10 : decode cX8_walkFault 10 = .ok (.invokevirtual 66, 3) := by decide +kernel
theorem dX8_walkFault_13 : decode cX8_walkFault 13 = .ok (.ifCond .ne 7, 3) := by decide +kernel
theorem dX8_walkFault_16 : decode cX8_walkFault 16 = .ok (.getstatic 76, 3) := by decide +kernel
theorem dX8_walkFault_19 : decode cX8_walkFault 19 = .ok (.areturn, 1) := by decide +kernel
theorem dX8_walkFault_20 : decode cX8_walkFault 20 = .ok (.iload_n 1, 1) := by decide +kernel
theorem dX8_walkFault_21 : decode cX8_walkFault 21 = .ok (.iload_n 2, 1) := by decide +kernel
theorem dX8_walkFault_22 : decode cX8_walkFault 22 = .ok (.if_icmp .eq 14, 3) := by decide +kernel
theorem dX8_walkFault_25 : decode cX8_walkFault 25 = .ok (.iload_n 3, 1) := by decide +kernel
theorem dX8_walkFault_26 : decode cX8_walkFault 26 = .ok (.iconst 1, 1) := by decide +kernel
theorem dX8_walkFault_27 : decode cX8_walkFault 27 = .ok (.if_icmp .lt 9, 3) := by decide +kernel
theorem dX8_walkFault_30 : decode cX8_walkFault 30 = .ok (.iload_n 3, 1) := by decide +kernel
theorem dX8_walkFault_31 : decode cX8_walkFault 31 = .ok (.bipush 30, 2) := by decide +kernel
theorem dX8_walkFault_33 : decode cX8_walkFault 33 = .ok (.if_icmp .le 7, 3) := by decide +kernel
theorem dX8_walkFault_36 : decode cX8_walkFault 36 = .ok (.getstatic 82, 3) := by decide +kernel
theorem dX8_walkFault_39 : decode cX8_walkFault 39 = .ok (.areturn, 1) := by decide +kernel
theorem dX8_walkFault_40 : decode cX8_walkFault 40 = .ok (.aload_n 0, 1) := by decide +kernel
theorem dX8_walkFault_41 : decode cX8_walkFault 41 = .ok (.iload_n 1, 1) := by decide +kernel
theorem dX8_walkFault_42 : decode cX8_walkFault 42 = .ok (.iload_n 2, 1) := by decide +kernel
theorem dX8_walkFault_43 : decode cX8_walkFault 43 = .ok (.invokevirtual 88, 3) := by decide +kernel
theorem dX8_walkFault_46 : decode cX8_walkFault 46 = .ok (.ifCond .ne 16, 3) := by decide +kernel
theorem dX8_walkFault_49 : decode cX8_walkFault 49 = .ok (.aload_n 0, 1) := by decide +kernel
theorem dX8_walkFault_50 : decode cX8_walkFault 50 = .ok (.getfield 30, 3) := by decide +kernel
theorem dX8_walkFault_53 : decode cX8_walkFault 53 = .ok (.bipush 15, 2) := by decide +kernel
theorem dX8_walkFault_55 : decode cX8_walkFault 55 = .ok (.if_icmp .ge 7, 3) := by decide +kernel
theorem dX8_walkFault_58 : decode cX8_walkFault 58 = .ok (.iconst 1, 1) := by decide +kernel
theorem dX8_walkFault_59 : decode cX8_walkFault 59 = .ok (.goto 4, 3) := by decide +kernel
theorem dX8_walkFault_62 : decode cX8_walkFault 62 = .ok (.iconst 0, 1) := by decide +kernel
theorem dX8_walkFault_63 : decode cX8_walkFault 63 = .ok (.istore 4, 2) := by decide +kernel
theorem dX8_walkFault_65 : decode cX8_walkFault 65 = .ok (.iload 4, 2) := by decide +kernel
theorem dX8_walkFault_67 : decode cX8_walkFault 67 = .ok (.ifCond .eq 9, 3) := by decide +kernel
theorem dX8_walkFault_70 : decode cX8_walkFault 70 = .ok (.getstatic 70, 3) := by decide +kernel
theorem dX8_walkFault_73 : decode cX8_walkFault 73 = .ok (.goto 6, 3) := by decide +kernel
theorem dX8_walkFault_76 : decode cX8_walkFault 76 = .ok (.getstatic 85, 3) := by decide +kernel
theorem dX8_walkFault_79 : decode cX8_walkFault 79 = .ok (.areturn, 1) := by decide +kernel
theorem dX8_putWalk_0 : decode cX8_putWalk 0 = .ok (.aload_n 0, 1) := by decide +kernel
theorem dX8_putWalk_1 : decode cX8_putWalk 1 = .ok (.getfield 33, 3) := by decide +kernel
theorem dX8_putWalk_4 : decode cX8_putWalk 4 = .ok (.iload_n 1, 1) := by decide +kernel
theorem dX8_putWalk_5 : decode cX8_putWalk 5 = .ok (.bipush 10, 2) := by decide +kernel
theorem dX8_putWalk_7 : decode cX8_putWalk 7 = .ok (.imul, 1) := by decide +kernel
theorem dX8_putWalk_8 : decode cX8_putWalk 8 = .ok (.iload_n 2, 1) := by decide +kernel
theorem dX8_putWalk_9 : decode cX8_putWalk 9 = .ok (.iadd, 1) := by decide +kernel
theorem dX8_putWalk_10 : decode cX8_putWalk 10 = .ok (.iload_n 3, 1) := by decide +kernel
theorem dX8_putWalk_11 : decode cX8_putWalk 11 = .ok (.iastore, 1) := by decide +kernel
theorem dX8_putWalk_12 : decode cX8_putWalk 12 = .ok (.aload_n 0, 1) := by decide +kernel
theorem dX8_putWalk_13 : decode cX8_putWalk 13 = .ok (.getfield 33, 3) := by decide +kernel
theorem dX8_putWalk_16 : decode cX8_putWalk 16 = .ok (.iload_n 2, 1) := by decide +kernel
theorem dX8_putWalk_17 : decode cX8_putWalk 17 = .ok (.bipush 10, 2) := by decide +kernel
theorem dX8_putWalk_19 : decode cX8_putWalk 19 = .ok (.imul, 1) := by decide +kernel
theorem dX8_putWalk_20 : decode cX8_putWalk 20 = .ok (.iload_n 1, 1) := by decide +kernel
theorem dX8_putWalk_21 : decode cX8_putWalk 21 = .ok (.iadd, 1) := by decide +kernel
theorem dX8_putWalk_22 : decode cX8_putWalk 22 = .ok (.iload_n 3, 1) := by decide +kernel
theorem dX8_putWalk_23 : decode cX8_putWalk 23 = .ok (.iastore, 1) := by decide +kernel
theorem dX8_putWalk_24 : decode cX8_putWalk 24 = .ok (.aload_n 0, 1) := by decide +kernel
theorem dX8_putWalk_25 : decode cX8_putWalk 25 = .ok (.dup, 1) := by decide +kernel
theorem dX8_putWalk_26 : decode cX8_putWalk 26 = .ok (.getfield 30, 3) := by decide +kernel
theorem dX8_putWalk_29 : decode cX8_putWalk 29 = .ok (.iconst 1, 1) := by decide +kernel
theorem dX8_putWalk_30 : decode cX8_putWalk 30 = .ok (.iadd, 1) := by decide +kernel
theorem dX8_putWalk_31 : decode cX8_putWalk 31 = .ok (.putfield 30, 3) := by decide +kernel
theorem dX8_putWalk_34 : decode cX8_putWalk 34 = .ok (.aload_n 0, 1) := by decide +kernel
theorem dX8_putWalk_35 : decode cX8_putWalk 35 = .ok (.getfield 30, 3) := by decide +kernel
theorem dX8_putWalk_38 : decode cX8_putWalk 38 = .ok (.ireturn, 1) := by decide +kernel
theorem dX8_walkedFault_0 : decode cX8_walkedFault 0 = .ok (.aload_n 0, 1) := by decide +kernel
theorem dX8_walkedFault_1 : decode cX8_walkedFault 1 = .ok (.iload_n 1, 1) := by decide +kernel
theorem dX8_walkedFault_2 : decode cX8_walkedFault 2 = .ok (.invokevirtual 66, 3) := by decide +kernel
theorem dX8_walkedFault_5 : decode cX8_walkedFault 5 = .ok (.ifCond .eq 11, 3) := by decide +kernel
theorem dX8_walkedFault_8 : decode cX8_walkedFault 8 = .ok (.aload_n 0, 1) := by decide +kernel
theorem dX8_walkedFault_9 : decode cX8_walkedFault 9 = .ok (.iload_n 2, 1) := by decide +kernel
theorem dX8_walkedFault_10 : decode cX8_walkedFault 10 = .ok (.invokevirtual 66, 3) := by decide +kernel
theorem dX8_walkedFault_13 : decode cX8_walkedFault 13 = .ok (.ifCond .ne 7, 3) := by decide +kernel
theorem dX8_walkedFault_16 : decode cX8_walkedFault 16 = .ok (.getstatic 76, 3) := by decide +kernel
theorem dX8_walkedFault_19 : decode cX8_walkedFault 19 = .ok (.areturn, 1) := by decide +kernel
theorem dX8_walkedFault_20 : decode cX8_walkedFault 20 = .ok (.aload_n 0, 1) := by decide +kernel
theorem dX8_walkedFault_21 : decode cX8_walkedFault 21 = .ok (.iload_n 1, 1) := by decide +kernel
theorem dX8_walkedFault_22 : decode cX8_walkedFault 22 = .ok (.iload_n 2, 1) := by decide +kernel
theorem dX8_walkedFault_23 : decode cX8_walkedFault 23 = .ok (.invokevirtual 88, 3) := by decide +kernel
theorem dX8_walkedFault_26 : decode cX8_walkedFault 26 = .ok (.ifCond .le 9, 3) := by decide +kernel
theorem dX8_walkedFault_29 : decode cX8_walkedFault 29 = .ok (.getstatic 70, 3) := by decide +kernel
theorem dX8_walkedFault_32 : decode cX8_walkedFault 32 = .ok (.goto 6, 3) := by decide +kernel
theorem dX8_walkedFault_35 : decode cX8_walkedFault 35 = .ok (.getstatic 92, 3) := by decide +kernel
theorem dX8_walkedFault_38 : decode cX8_walkedFault 38 = .ok (.areturn, 1) := by decide +kernel
theorem dX8_dropWalk_0 : decode cX8_dropWalk 0 = .ok (.aload_n 0, 1) := by decide +kernel
theorem dX8_dropWalk_1 : decode cX8_dropWalk 1 = .ok (.iload_n 1, 1) := by decide +kernel
theorem dX8_dropWalk_2 : decode cX8_dropWalk 2 = .ok (.iload_n 2, 1) := by decide +kernel
theorem dX8_dropWalk_3 : decode cX8_dropWalk 3 = .ok (.invokevirtual 88, 3) := by decide +kernel
theorem dX8_dropWalk_6 : decode cX8_dropWalk 6 = .ok (.istore_n 3, 1) := by decide +kernel
theorem dX8_dropWalk_7 : decode cX8_dropWalk 7 = .ok (.aload_n 0, 1) := by decide +kernel
theorem dX8_dropWalk_8 : decode cX8_dropWalk 8 = .ok (.getfield 33, 3) := by decide +kernel
theorem dX8_dropWalk_11 : decode cX8_dropWalk 11 = .ok (.iload_n 1, 1) := by decide +kernel
theorem dX8_dropWalk_12 : decode cX8_dropWalk 12 = .ok (.bipush 10, 2) := by decide +kernel
theorem dX8_dropWalk_14 : decode cX8_dropWalk 14 = .ok (.imul, 1) := by decide +kernel
theorem dX8_dropWalk_15 : decode cX8_dropWalk 15 = .ok (.iload_n 2, 1) := by decide +kernel
theorem dX8_dropWalk_16 : decode cX8_dropWalk 16 = .ok (.iadd, 1) := by decide +kernel
theorem dX8_dropWalk_17 : decode cX8_dropWalk 17 = .ok (.iconst 0, 1) := by decide +kernel
theorem dX8_dropWalk_18 : decode cX8_dropWalk 18 = .ok (.iastore, 1) := by decide +kernel
theorem dX8_dropWalk_19 : decode cX8_dropWalk 19 = .ok (.aload_n 0, 1) := by decide +kernel
theorem dX8_dropWalk_20 : decode cX8_dropWalk 20 = .ok (.getfield 33, 3) := by decide +kernel
theorem dX8_dropWalk_23 : decode cX8_dropWalk 23 = .ok (.iload_n 2, 1) := by decide +kernel
theorem dX8_dropWalk_24 : decode cX8_dropWalk 24 = .ok (.bipush 10, 2) := by decide +kernel
theorem dX8_dropWalk_26 : decode cX8_dropWalk 26 = .ok (.imul, 1) := by decide +kernel
theorem dX8_dropWalk_27 : decode cX8_dropWalk 27 = .ok (.iload_n 1, 1) := by decide +kernel
theorem dX8_dropWalk_28 : decode cX8_dropWalk 28 = .ok (.iadd, 1) := by decide +kernel
theorem dX8_dropWalk_29 : decode cX8_dropWalk 29 = .ok (.iconst 0, 1) := by decide +kernel
theorem dX8_dropWalk_30 : decode cX8_dropWalk 30 = .ok (.iastore, 1) := by decide +kernel
theorem dX8_dropWalk_31 : decode cX8_dropWalk 31 = .ok (.aload_n 0, 1) := by decide +kernel
theorem dX8_dropWalk_32 : decode cX8_dropWalk 32 = .ok (.dup, 1) := by decide +kernel
theorem dX8_dropWalk_33 : decode cX8_dropWalk 33 = .ok (.getfield 30, 3) := by decide +kernel
theorem dX8_dropWalk_36 : decode cX8_dropWalk 36 = .ok (.iconst 1, 1) := by decide +kernel
theorem dX8_dropWalk_37 : decode cX8_dropWalk 37 = .ok (.isub, 1) := by decide +kernel
theorem dX8_dropWalk_38 : decode cX8_dropWalk 38 = .ok (.putfield 30, 3) := by decide +kernel
theorem dX8_dropWalk_41 : decode cX8_dropWalk 41 = .ok (.iload_n 3, 1) := by decide +kernel
theorem dX8_dropWalk_42 : decode cX8_dropWalk 42 = .ok (.ireturn, 1) := by decide +kernel
theorem dX8_lineFault_0 : decode cX8_lineFault 0 = .ok (.iload_n 1, 1) := by decide +kernel
theorem dX8_lineFault_1 : decode cX8_lineFault 1 = .ok (.iconst 1, 1) := by decide +kernel
theorem dX8_lineFault_2 : decode cX8_lineFault 2 = .ok (.if_icmp .lt 19, 3) := by decide +kernel
theorem dX8_lineFault_5 : decode cX8_lineFault 5 = .ok (.iload_n 1, 1) := by decide +kernel
theorem dX8_lineFault_6 : decode cX8_lineFault 6 = .ok (.bipush 60, 2) := by decide +kernel
theorem dX8_lineFault_8 : decode cX8_lineFault 8 = .ok (.if_icmp .gt 13, 3) := by decide +kernel
theorem dX8_lineFault_11 : decode cX8_lineFault 11 = .ok (.iload_n 2, 1) := by decide +kernel
theorem dX8_lineFault_12 : decode cX8_lineFault 12 = .ok (.ifCond .lt 9, 3) := by decide +kernel
theorem dX8_lineFault_15 : decode cX8_lineFault 15 = .ok (.iload_n 2, 1) := by decide +kernel
theorem dX8_lineFault_16 : decode cX8_lineFault 16 = .ok (.bipush 59, 2) := by decide +kernel
theorem dX8_lineFault_18 : decode cX8_lineFault 18 = .ok (.if_icmp .le 7, 3) := by decide +kernel
theorem dX8_lineFault_21 : decode cX8_lineFault 21 = .ok (.getstatic 82, 3) := by decide +kernel
theorem dX8_lineFault_24 : decode cX8_lineFault 24 = .ok (.areturn, 1) := by decide +kernel
theorem dX8_lineFault_25 : decode cX8_lineFault 25 = .ok (.iload_n 3, 1) := by decide +kernel
theorem dX8_lineFault_26 : decode cX8_lineFault 26 = .ok (.iconst 1, 1) := by decide +kernel
theorem dX8_lineFault_27 : decode cX8_lineFault 27 = .ok (.if_icmp .lt 22, 3) := by decide +kernel
theorem dX8_lineFault_30 : decode cX8_lineFault 30 = .ok (.iload_n 3, 1) := by decide +kernel
theorem dX8_lineFault_31 : decode cX8_lineFault 31 = .ok (.bipush 9, 2) := by decide +kernel
theorem dX8_lineFault_33 : decode cX8_lineFault 33 = .ok (.if_icmp .gt 16, 3) := by decide +kernel
theorem dX8_lineFault_36 : decode cX8_lineFault 36 = .ok (.iload 4, 2) := by decide +kernel
theorem dX8_lineFault_38 : decode cX8_lineFault 38 = .ok (.iconst 1, 1) := by decide +kernel
theorem dX8_lineFault_39 : decode cX8_lineFault 39 = .ok (.if_icmp .lt 10, 3) := by decide +kernel
theorem dX8_lineFault_42 : decode cX8_lineFault 42 = .ok (.iload 4, 2) := by decide +kernel
theorem dX8_lineFault_44 : decode cX8_lineFault 44 = .ok (.bipush 20, 2) := by decide +kernel
theorem dX8_lineFault_46 : decode cX8_lineFault 46 = .ok (.if_icmp .le 7, 3) := by decide +kernel
theorem dX8_lineFault_49 : decode cX8_lineFault 49 = .ok (.getstatic 82, 3) := by decide +kernel
theorem dX8_lineFault_52 : decode cX8_lineFault 52 = .ok (.areturn, 1) := by decide +kernel
theorem dX8_lineFault_53 : decode cX8_lineFault 53 = .ok (.aload_n 0, 1) := by decide +kernel
theorem dX8_lineFault_54 : decode cX8_lineFault 54 = .ok (.getfield 36, 3) := by decide +kernel
theorem dX8_lineFault_57 : decode cX8_lineFault 57 = .ok (.iconst 5, 1) := by decide +kernel
theorem dX8_lineFault_58 : decode cX8_lineFault 58 = .ok (.if_icmp .ge 9, 3) := by decide +kernel
theorem dX8_lineFault_61 : decode cX8_lineFault 61 = .ok (.getstatic 70, 3) := by decide +kernel
theorem dX8_lineFault_64 : decode cX8_lineFault 64 = .ok (.goto 6, 3) := by decide +kernel
theorem dX8_lineFault_67 : decode cX8_lineFault 67 = .ok (.getstatic 85, 3) := by decide +kernel
theorem dX8_lineFault_70 : decode cX8_lineFault 70 = .ok (.areturn, 1) := by decide +kernel
theorem dX8_putLine_0 : decode cX8_putLine 0 = .ok (.aload_n 0, 1) := by decide +kernel
theorem dX8_putLine_1 : decode cX8_putLine 1 = .ok (.getfield 36, 3) := by decide +kernel
theorem dX8_putLine_4 : decode cX8_putLine 4 = .ok (.iconst 5, 1) := by decide +kernel
theorem dX8_putLine_5 : decode cX8_putLine 5 = .ok (.if_icmp .lt 5, 3) := by decide +kernel
theorem dX8_putLine_8 : decode cX8_putLine 8 = .ok (.iconst (-1), 1) := by decide +kernel
theorem dX8_putLine_9 : decode cX8_putLine 9 = .ok (.ireturn, 1) := by decide +kernel
theorem dX8_putLine_10 : decode cX8_putLine 10 = .ok (.aload_n 0, 1) := by decide +kernel
theorem dX8_putLine_11 : decode cX8_putLine 11 = .ok (.getfield 41, 3) := by decide +kernel
theorem dX8_putLine_14 : decode cX8_putLine 14 = .ok (.aload_n 0, 1) := by decide +kernel
theorem dX8_putLine_15 : decode cX8_putLine 15 = .ok (.getfield 36, 3) := by decide +kernel
theorem dX8_putLine_18 : decode cX8_putLine 18 = .ok (.aaload, 1) := by decide +kernel
theorem dX8_putLine_19 : decode cX8_putLine 19 = .ok (.iload_n 1, 1) := by decide +kernel
theorem dX8_putLine_20 : decode cX8_putLine 20 = .ok (.iload_n 2, 1) := by decide +kernel
theorem dX8_putLine_21 : decode cX8_putLine 21 = .ok (.iload_n 3, 1) := by decide +kernel
theorem dX8_putLine_22 : decode cX8_putLine 22 = .ok (.iload 4, 2) := by decide +kernel
theorem dX8_putLine_24 : decode cX8_putLine 24 = .ok (.invokevirtual 95, 3) := by decide +kernel
theorem dX8_putLine_27 : decode cX8_putLine 27 = .ok (.aload_n 0, 1) := by decide +kernel
theorem dX8_putLine_28 : decode cX8_putLine 28 = .ok (.dup, 1) := by decide +kernel
theorem dX8_putLine_29 : decode cX8_putLine 29 = .ok (.getfield 36, 3) := by decide +kernel
theorem dX8_putLine_32 : decode cX8_putLine 32 = .ok (.iconst 1, 1) := by decide +kernel
theorem dX8_putLine_33 : decode cX8_putLine 33 = .ok (.iadd, 1) := by decide +kernel
theorem dX8_putLine_34 : decode cX8_putLine 34 = .ok (.putfield 36, 3) := by decide +kernel
theorem dX8_putLine_37 : decode cX8_putLine 37 = .ok (.aload_n 0, 1) := by decide +kernel
theorem dX8_putLine_38 : decode cX8_putLine 38 = .ok (.getfield 36, 3) := by decide +kernel
theorem dX8_putLine_41 : decode cX8_putLine 41 = .ok (.iconst 1, 1) := by decide +kernel
theorem dX8_putLine_42 : decode cX8_putLine 42 = .ok (.isub, 1) := by decide +kernel
theorem dX8_putLine_43 : decode cX8_putLine 43 = .ok (.ireturn, 1) := by decide +kernel
theorem dX8_extensionFault_0 : decode cX8_extensionFault 0 = .ok (.aload_n 0, 1) := by decide +kernel
theorem dX8_extensionFault_1 : decode cX8_extensionFault 1 = .ok (.iload_n 1, 1) := by decide +kernel
theorem dX8_extensionFault_2 : decode cX8_extensionFault 2 = .ok (.invokevirtual 79, 3) := by decide +kernel
theorem dX8_extensionFault_5 : decode cX8_extensionFault 5 = .ok (.ifCond .eq 11, 3) := by decide +kernel
theorem dX8_extensionFault_8 : decode cX8_extensionFault 8 = .ok (.aload_n 0, 1) := by decide +kernel
theorem dX8_extensionFault_9 : decode cX8_extensionFault 9 = .ok (.iload_n 2, 1) := by decide +kernel
theorem dX8_extensionFault_10 : decode cX8_extensionFault 10 = .ok (.invokevirtual 66, 3) := by decide +kernel
theorem dX8_extensionFault_13 : decode cX8_extensionFault 13 = .ok (.ifCond .ne 7, 3) := by decide +kernel
theorem dX8_extensionFault_16 : decode cX8_extensionFault 16 = .ok (.getstatic 76, 3) := by decide +kernel
theorem dX8_extensionFault_19 : decode cX8_extensionFault 19 = .ok (.areturn, 1) := by decide +kernel
theorem dX8_extensionFault_20 : decode cX8_extensionFault 20 = .ok (.aload_n 0, 1) := by decide +kernel
theorem dX8_extensionFault_21 : decode cX8_extensionFault 21 = .ok (.getfield 41, 3) := by decide +kernel
theorem dX8_extensionFault_24 : decode cX8_extensionFault 24 = .ok (.iload_n 1, 1) := by decide +kernel
theorem dX8_extensionFault_25 : decode cX8_extensionFault 25 = .ok (.aaload, 1) := by decide +kernel
theorem dX8_extensionFault_26 : decode cX8_extensionFault 26 = .ok (.getfield 99, 3) := by decide +kernel
theorem dX8_extensionFault_29 : decode cX8_extensionFault 29 = .ok (.bipush 6, 2) := by decide +kernel
theorem dX8_extensionFault_31 : decode cX8_extensionFault 31 = .ok (.if_icmp .ge 14, 3) := by decide +kernel
theorem dX8_extensionFault_34 : decode cX8_extensionFault 34 = .ok (.aload_n 0, 1) := by decide +kernel
theorem dX8_extensionFault_35 : decode cX8_extensionFault 35 = .ok (.getfield 48, 3) := by decide +kernel
theorem dX8_extensionFault_38 : decode cX8_extensionFault 38 = .ok (.iload_n 1, 1) := by decide +kernel
theorem dX8_extensionFault_39 : decode cX8_extensionFault 39 = .ok (.invokevirtual 102, 3) := by decide +kernel
theorem dX8_extensionFault_42 : decode cX8_extensionFault 42 = .ok (.ifCond .le 7, 3) := by decide +kernel
theorem dX8_extensionFault_45 : decode cX8_extensionFault 45 = .ok (.getstatic 85, 3) := by decide +kernel
theorem dX8_extensionFault_48 : decode cX8_extensionFault 48 = .ok (.areturn, 1) := by decide +kernel
theorem dX8_extensionFault_49 : decode cX8_extensionFault 49 = .ok (.aload_n 0, 1) := by decide +kernel
theorem dX8_extensionFault_50 : decode cX8_extensionFault 50 = .ok (.getfield 41, 3) := by decide +kernel
theorem dX8_extensionFault_53 : decode cX8_extensionFault 53 = .ok (.iload_n 1, 1) := by decide +kernel
theorem dX8_extensionFault_54 : decode cX8_extensionFault 54 = .ok (.aaload, 1) := by decide +kernel
theorem dX8_extensionFault_55 : decode cX8_extensionFault 55 = .ok (.iload_n 2, 1) := by decide +kernel
theorem dX8_extensionFault_56 : decode cX8_extensionFault 56 = .ok (.invokevirtual 106, 3) := by decide +kernel
theorem dX8_extensionFault_59 : decode cX8_extensionFault 59 = .ok (.iconst (-1), 1) := by decide +kernel
theorem dX8_extensionFault_60 : decode cX8_extensionFault 60 = .ok (.if_icmp .ne 9, 3) := by decide +kernel
theorem dX8_extensionFault_63 : decode cX8_extensionFault 63 = .ok (.getstatic 70, 3) := by decide +kernel
theorem dX8_extensionFault_66 : decode cX8_extensionFault 66 = .ok (.goto 6, 3) := by decide +kernel
theorem dX8_extensionFault_69 : decode cX8_extensionFault 69 = .ok (.getstatic 109, 3) := by decide +kernel
theorem dX8_extensionFault_72 : decode cX8_extensionFault 72 = .ok (.areturn, 1) := by decide +kernel
theorem dX8_shorteningFault_0 : decode cX8_shorteningFault 0 = .ok (.aload_n 0, 1) := by decide +kernel
theorem dX8_shorteningFault_1 : decode cX8_shorteningFault 1 = .ok (.iload_n 1, 1) := by decide +kernel
theorem dX8_shorteningFault_2 : decode cX8_shorteningFault 2 = .ok (.invokevirtual 79, 3) := by decide +kernel
theorem dX8_shorteningFault_5 : decode cX8_shorteningFault 5 = .ok (.ifCond .ne 7, 3) := by decide +kernel
theorem dX8_shorteningFault_8 : decode cX8_shorteningFault 8 = .ok (.getstatic 76, 3) := by decide +kernel
theorem dX8_shorteningFault_11 : decode cX8_shorteningFault 11 = .ok (.areturn, 1) := by decide +kernel
theorem dX8_shorteningFault_12 : decode cX8_shorteningFault 12 = .ok (.aload_n 0, 1) := by decide +kernel
theorem dX8_shorteningFault_13 : decode cX8_shorteningFault 13 = .ok (.getfield 41, 3) := by decide +kernel
theorem dX8_shorteningFault_16 : decode cX8_shorteningFault 16 = .ok (.iload_n 1, 1) := by decide +kernel
theorem dX8_shorteningFault_17 : decode cX8_shorteningFault 17 = .ok (.aaload, 1) := by decide +kernel
theorem dX8_shorteningFault_18 : decode cX8_shorteningFault 18 = .ok (.getfield 99, 3) := by decide +kernel
theorem dX8_shorteningFault_21 : decode cX8_shorteningFault 21 = .ok (.ifCond .ne 7, 3) := by decide +kernel
theorem dX8_shorteningFault_24 : decode cX8_shorteningFault 24 = .ok (.getstatic 92, 3) := by decide +kernel
theorem dX8_shorteningFault_27 : decode cX8_shorteningFault 27 = .ok (.areturn, 1) := by decide +kernel
theorem dX8_shorteningFault_28 : decode cX8_shorteningFault 28 = .ok (.aload_n 0, 1) := by decide +kernel
theorem dX8_shorteningFault_29 : decode cX8_shorteningFault 29 = .ok (.getfield 48, 3) := by decide +kernel
theorem dX8_shorteningFault_32 : decode cX8_shorteningFault 32 = .ok (.iload_n 1, 1) := by decide +kernel
theorem dX8_shorteningFault_33 : decode cX8_shorteningFault 33 = .ok (.invokevirtual 102, 3) := by decide +kernel
theorem dX8_shorteningFault_36 : decode cX8_shorteningFault 36 = .ok (.ifCond .ne 9, 3) := by decide +kernel
theorem dX8_shorteningFault_39 : decode cX8_shorteningFault 39 = .ok (.getstatic 70, 3) := by decide +kernel
theorem dX8_shorteningFault_42 : decode cX8_shorteningFault 42 = .ok (.goto 6, 3) := by decide +kernel
theorem dX8_shorteningFault_45 : decode cX8_shorteningFault 45 = .ok (.getstatic 85, 3) := by decide +kernel
theorem dX8_shorteningFault_48 : decode cX8_shorteningFault 48 = .ok (.areturn, 1) := by decide +kernel
theorem dX8_delayFault_0 : decode cX8_delayFault 0 = .ok (.aload_n 0, 1) := by decide +kernel
theorem dX8_delayFault_1 : decode cX8_delayFault 1 = .ok (.iload_n 1, 1) := by decide +kernel
theorem dX8_delayFault_2 : decode cX8_delayFault 2 = .ok (.invokevirtual 79, 3) := by decide +kernel
theorem dX8_delayFault_5 : decode cX8_delayFault 5 = .ok (.ifCond .ne 7, 3) := by decide +kernel
theorem dX8_delayFault_8 : decode cX8_delayFault 8 = .ok (.getstatic 76, 3) := by decide +kernel
theorem dX8_delayFault_11 : decode cX8_delayFault 11 = .ok (.areturn, 1) := by decide +kernel
theorem dX8_delayFault_12 : decode cX8_delayFault 12 = .ok (.iload_n 2, 1) := by decide +kernel
theorem dX8_delayFault_13 : decode cX8_delayFault 13 = .ok (.ifCond .lt 14, 3) := by decide +kernel
theorem dX8_delayFault_16 : decode cX8_delayFault 16 = .ok (.iload_n 2, 1) := by decide +kernel
theorem dX8_delayFault_17 : decode cX8_delayFault 17 = .ok (.iconst 5, 1) := by decide +kernel
theorem dX8_delayFault_18 : decode cX8_delayFault 18 = .ok (.if_icmp .gt 9, 3) := by decide +kernel
theorem dX8_delayFault_21 : decode cX8_delayFault 21 = .ok (.getstatic 70, 3) := by decide +kernel
theorem dX8_delayFault_24 : decode cX8_delayFault 24 = .ok (.goto 6, 3) := by decide +kernel
theorem dX8_delayFault_27 : decode cX8_delayFault 27 = .ok (.getstatic 82, 3) := by decide +kernel
theorem dX8_delayFault_30 : decode cX8_delayFault 30 = .ok (.areturn, 1) := by decide +kernel
theorem dX8_rideFault_0 : decode cX8_rideFault 0 = .ok (.aload_n 0, 1) := by decide +kernel
theorem dX8_rideFault_1 : decode cX8_rideFault 1 = .ok (.iload_n 1, 1) := by decide +kernel
theorem dX8_rideFault_2 : decode cX8_rideFault 2 = .ok (.invokevirtual 79, 3) := by decide +kernel
theorem dX8_rideFault_5 : decode cX8_rideFault 5 = .ok (.ifCond .ne 7, 3) := by decide +kernel
theorem dX8_rideFault_8 : decode cX8_rideFault 8 = .ok (.getstatic 76, 3) := by decide +kernel
theorem dX8_rideFault_11 : decode cX8_rideFault 11 = .ok (.areturn, 1) := by decide +kernel
theorem dX8_rideFault_12 : decode cX8_rideFault 12 = .ok (.iload_n 3, 1) := by decide +kernel
theorem dX8_rideFault_13 : decode cX8_rideFault 13 = .ok (.ifCond .lt 27, 3) := by decide +kernel
theorem dX8_rideFault_16 : decode cX8_rideFault 16 = .ok (.iload 4, 2) := by decide +kernel
theorem dX8_rideFault_18 : decode cX8_rideFault 18 = .ok (.iload_n 3, 1) := by decide +kernel
theorem dX8_rideFault_19 : decode cX8_rideFault 19 = .ok (.if_icmp .le 21, 3) := by decide +kernel
theorem dX8_rideFault_22 : decode cX8_rideFault 22 = .ok (.iload 4, 2) := by decide +kernel
theorem dX8_rideFault_24 : decode cX8_rideFault 24 = .ok (.aload_n 0, 1) := by decide +kernel
theorem dX8_rideFault_25 : decode cX8_rideFault 25 = .ok (.getfield 41, 3) := by decide +kernel
theorem dX8_rideFault_28 : decode cX8_rideFault 28 = .ok (.iload_n 1, 1) := by decide +kernel
theorem dX8_rideFault_29 : decode cX8_rideFault 29 = .ok (.aaload, 1) := by decide +kernel
theorem dX8_rideFault_30 : decode cX8_rideFault 30 = .ok (.getfield 99, 3) := by decide +kernel
theorem dX8_rideFault_33 : decode cX8_rideFault 33 = .ok (.if_icmp .gt 7, 3) := by decide +kernel
theorem dX8_rideFault_36 : decode cX8_rideFault 36 = .ok (.iconst 1, 1) := by decide +kernel
theorem dX8_rideFault_37 : decode cX8_rideFault 37 = .ok (.goto 4, 3) := by decide +kernel
theorem dX8_rideFault_40 : decode cX8_rideFault 40 = .ok (.iconst 0, 1) := by decide +kernel
theorem dX8_rideFault_41 : decode cX8_rideFault 41 = .ok (.istore 5, 2) := by decide +kernel
theorem dX8_rideFault_43 : decode cX8_rideFault 43 = .ok (.iload 5, 2) := by decide +kernel
theorem dX8_rideFault_45 : decode cX8_rideFault 45 = .ok (.ifCond .eq 19, 3) := by decide +kernel
theorem dX8_rideFault_48 : decode cX8_rideFault 48 = .ok (.iload_n 2, 1) := by decide +kernel
theorem dX8_rideFault_49 : decode cX8_rideFault 49 = .ok (.ifCond .lt 15, 3) := by decide +kernel
theorem dX8_rideFault_52 : decode cX8_rideFault 52 = .ok (.iload_n 2, 1) := by decide +kernel
theorem dX8_rideFault_53 : decode cX8_rideFault 53 = .ok (.bipush 99, 2) := by decide +kernel
theorem dX8_rideFault_55 : decode cX8_rideFault 55 = .ok (.if_icmp .gt 9, 3) := by decide +kernel
theorem dX8_rideFault_58 : decode cX8_rideFault 58 = .ok (.getstatic 70, 3) := by decide +kernel
theorem dX8_rideFault_61 : decode cX8_rideFault 61 = .ok (.goto 6, 3) := by decide +kernel
theorem dX8_rideFault_64 : decode cX8_rideFault 64 = .ok (.getstatic 82, 3) := by decide +kernel
theorem dX8_rideFault_67 : decode cX8_rideFault 67 = .ok (.areturn, 1) := by decide +kernel
theorem dX8_saleFault_0 : decode cX8_saleFault 0 = .ok (.aload_n 0, 1) := by decide +kernel
theorem dX8_saleFault_1 : decode cX8_saleFault 1 = .ok (.iload_n 1, 1) := by decide +kernel
theorem dX8_saleFault_2 : decode cX8_saleFault 2 = .ok (.iload_n 2, 1) := by decide +kernel
theorem dX8_saleFault_3 : decode cX8_saleFault 3 = .ok (.iload_n 3, 1) := by decide +kernel
theorem dX8_saleFault_4 : decode cX8_saleFault 4 = .ok (.iload 4, 2) := by decide +kernel
theorem dX8_saleFault_6 : decode cX8_saleFault 6 = .ok (.invokevirtual 112, 3) := by decide +kernel
theorem dX8_saleFault_9 : decode cX8_saleFault 9 = .ok (.astore 5, 2) := by decide +kernel
theorem dX8_saleFault_11 : decode cX8_saleFault 11 = .ok (.aload 5, 2) := by decide +kernel
theorem dX8_saleFault_13 : decode cX8_saleFault 13 = .ok (.getstatic 70, 3) := by decide +kernel
theorem dX8_saleFault_16 : decode cX8_saleFault 16 = .ok (.if_acmp .eq 6, 3) := by decide +kernel
theorem dX8_saleFault_19 : decode cX8_saleFault 19 = .ok (.aload 5, 2) := by decide +kernel
theorem dX8_saleFault_21 : decode cX8_saleFault 21 = .ok (.areturn, 1) := by decide +kernel
theorem dX8_saleFault_22 : decode cX8_saleFault 22 = .ok (.aload_n 0, 1) := by decide +kernel
theorem dX8_saleFault_23 : decode cX8_saleFault 23 = .ok (.getfield 41, 3) := by decide +kernel
theorem dX8_saleFault_26 : decode cX8_saleFault 26 = .ok (.iload_n 1, 1) := by decide +kernel
theorem dX8_saleFault_27 : decode cX8_saleFault 27 = .ok (.aaload, 1) := by decide +kernel
theorem dX8_saleFault_28 : decode cX8_saleFault 28 = .ok (.invokevirtual 116, 3) := by decide +kernel
theorem dX8_saleFault_31 : decode cX8_saleFault 31 = .ok (.ifCond .eq 15, 3) := by decide +kernel
theorem dX8_saleFault_34 : decode cX8_saleFault 34 = .ok (.aload_n 0, 1) := by decide +kernel
theorem dX8_saleFault_35 : decode cX8_saleFault 35 = .ok (.getfield 48, 3) := by decide +kernel
theorem dX8_saleFault_38 : decode cX8_saleFault 38 = .ok (.getfield 120, 3) := by decide +kernel
theorem dX8_saleFault_41 : decode cX8_saleFault 41 = .ok (.bipush 16, 2) := by decide +kernel
theorem dX8_saleFault_43 : decode cX8_saleFault 43 = .ok (.if_icmp .lt 7, 3) := by decide +kernel
theorem dX8_saleFault_46 : decode cX8_saleFault 46 = .ok (.getstatic 85, 3) := by decide +kernel
theorem dX8_saleFault_49 : decode cX8_saleFault 49 = .ok (.areturn, 1) := by decide +kernel
theorem dX8_saleFault_50 : decode cX8_saleFault 50 = .ok (.aload_n 0, 1) := by decide +kernel
theorem dX8_saleFault_51 : decode cX8_saleFault 51 = .ok (.iload_n 1, 1) := by decide +kernel
theorem dX8_saleFault_52 : decode cX8_saleFault 52 = .ok (.iload_n 2, 1) := by decide +kernel
theorem dX8_saleFault_53 : decode cX8_saleFault 53 = .ok (.iload_n 3, 1) := by decide +kernel
theorem dX8_saleFault_54 : decode cX8_saleFault 54 = .ok (.iload 4, 2) := by decide +kernel
theorem dX8_saleFault_56 : decode cX8_saleFault 56 = .ok (.invokevirtual 123, 3) := by decide +kernel
theorem dX8_saleFault_59 : decode cX8_saleFault 59 = .ok (.ifCond .le 9, 3) := by decide +kernel
theorem dX8_saleFault_62 : decode cX8_saleFault 62 = .ok (.getstatic 70, 3) := by decide +kernel
theorem dX8_saleFault_65 : decode cX8_saleFault 65 = .ok (.goto 6, 3) := by decide +kernel
theorem dX8_saleFault_68 : decode cX8_saleFault 68 = .ok (.getstatic 109, 3) := by decide +kernel
theorem dX8_saleFault_71 : decode cX8_saleFault 71 = .ok (.areturn, 1) := by decide +kernel
theorem dX8_putTicket_0 : decode cX8_putTicket 0 = .ok (.iload 4, 2) := by decide +kernel
theorem dX8_putTicket_2 : decode cX8_putTicket 2 = .ok (.iload_n 3, 1) := by decide +kernel
theorem dX8_putTicket_3 : decode cX8_putTicket 3 = .ok (.isub, 1) := by decide +kernel
theorem dX8_putTicket_4 : decode cX8_putTicket 4 = .ok (.aload_n 0, 1) := by decide +kernel
theorem dX8_putTicket_5 : decode cX8_putTicket 5 = .ok (.getfield 15, 3) := by decide +kernel
theorem dX8_putTicket_8 : decode cX8_putTicket 8 = .ok (.ifCond .eq 7, 3) := by decide +kernel
theorem dX8_putTicket_11 : decode cX8_putTicket 11 = .ok (.iconst 2, 1) := by decide +kernel
theorem dX8_putTicket_12 : decode cX8_putTicket 12 = .ok (.goto 4, 3) := by decide +kernel
theorem dX8_putTicket_15 : decode cX8_putTicket 15 = .ok (.iconst 3, 1) := by decide +kernel
theorem dX8_putTicket_16 : decode cX8_putTicket 16 = .ok (.imul, 1) := by decide +kernel
theorem dX8_putTicket_17 : decode cX8_putTicket 17 = .ok (.istore 5, 2) := by decide +kernel
theorem dX8_putTicket_19 : decode cX8_putTicket 19 = .ok (.aload_n 0, 1) := by decide +kernel
theorem dX8_putTicket_20 : decode cX8_putTicket 20 = .ok (.getfield 48, 3) := by decide +kernel
theorem dX8_putTicket_23 : decode cX8_putTicket 23 = .ok (.iload_n 1, 1) := by decide +kernel
theorem dX8_putTicket_24 : decode cX8_putTicket 24 = .ok (.iload_n 2, 1) := by decide +kernel
theorem dX8_putTicket_25 : decode cX8_putTicket 25 = .ok (.iload_n 3, 1) := by decide +kernel
theorem dX8_putTicket_26 : decode cX8_putTicket 26 = .ok (.iload 4, 2) := by decide +kernel
theorem dX8_putTicket_28 : decode cX8_putTicket 28 = .ok (.iload 5, 2) := by decide +kernel
theorem dX8_putTicket_30 : decode cX8_putTicket 30 = .ok (.invokevirtual 127, 3) := by decide +kernel
theorem dX8_putTicket_33 : decode cX8_putTicket 33 = .ok (.ireturn, 1) := by decide +kernel
theorem dX8_seatsLeft_0 : decode cX8_seatsLeft 0 = .ok (.iconst 0, 1) := by decide +kernel
theorem dX8_seatsLeft_1 : decode cX8_seatsLeft 1 = .ok (.istore 5, 2) := by decide +kernel
theorem dX8_seatsLeft_3 : decode cX8_seatsLeft 3 = .ok (.iload_n 3, 1) := by decide +kernel
theorem dX8_seatsLeft_4 : decode cX8_seatsLeft 4 = .ok (.istore 6, 2) := by decide +kernel
theorem dX8_seatsLeft_6 : decode cX8_seatsLeft 6 = .ok (.iload 6, 2) := by decide +kernel
theorem dX8_seatsLeft_8 : decode cX8_seatsLeft 8 = .ok (.iload 4, 2) := by decide +kernel
theorem dX8_seatsLeft_10 : decode cX8_seatsLeft 10 = .ok (.if_icmp .ge 27, 3) := by decide +kernel
theorem dX8_seatsLeft_13 : decode cX8_seatsLeft 13 = .ok (.iload 5, 2) := by decide +kernel
theorem dX8_seatsLeft_15 : decode cX8_seatsLeft 15 = .ok (.aload_n 0, 1) := by decide +kernel
theorem dX8_seatsLeft_16 : decode cX8_seatsLeft 16 = .ok (.getfield 48, 3) := by decide +kernel
theorem dX8_seatsLeft_19 : decode cX8_seatsLeft 19 = .ok (.iload_n 1, 1) := by decide +kernel
theorem dX8_seatsLeft_20 : decode cX8_seatsLeft 20 = .ok (.iload_n 2, 1) := by decide +kernel
theorem dX8_seatsLeft_21 : decode cX8_seatsLeft 21 = .ok (.iload 6, 2) := by decide +kernel
theorem dX8_seatsLeft_23 : decode cX8_seatsLeft 23 = .ok (.invokevirtual 131, 3) := by decide +kernel
theorem dX8_seatsLeft_26 : decode cX8_seatsLeft 26 = .ok (.invokestatic 135, 3) := by decide +kernel
theorem dX8_seatsLeft_29 : decode cX8_seatsLeft 29 = .ok (.istore 5, 2) := by decide +kernel
theorem dX8_seatsLeft_31 : decode cX8_seatsLeft 31 = .ok (.iinc 6 1, 3) := by decide +kernel
theorem dX8_seatsLeft_34 : decode cX8_seatsLeft 34 = .ok (.goto (-28), 3) := by decide +kernel
theorem dX8_seatsLeft_37 : decode cX8_seatsLeft 37 = .ok (.aload_n 0, 1) := by decide +kernel
theorem dX8_seatsLeft_38 : decode cX8_seatsLeft 38 = .ok (.getfield 41, 3) := by decide +kernel
theorem dX8_seatsLeft_41 : decode cX8_seatsLeft 41 = .ok (.iload_n 1, 1) := by decide +kernel
theorem dX8_seatsLeft_42 : decode cX8_seatsLeft 42 = .ok (.aaload, 1) := by decide +kernel
theorem dX8_seatsLeft_43 : decode cX8_seatsLeft 43 = .ok (.getfield 140, 3) := by decide +kernel
theorem dX8_seatsLeft_46 : decode cX8_seatsLeft 46 = .ok (.iload 5, 2) := by decide +kernel
theorem dX8_seatsLeft_48 : decode cX8_seatsLeft 48 = .ok (.isub, 1) := by decide +kernel
theorem dX8_seatsLeft_49 : decode cX8_seatsLeft 49 = .ok (.ireturn, 1) := by decide +kernel
theorem dX8_seatsLeftSwept_0 : decode cX8_seatsLeftSwept 0 = .ok (.iconst 0, 1) := by decide +kernel
theorem dX8_seatsLeftSwept_1 : decode cX8_seatsLeftSwept 1 = .ok (.istore 5, 2) := by decide +kernel
theorem dX8_seatsLeftSwept_3 : decode cX8_seatsLeftSwept 3 = .ok (.iconst 0, 1) := by decide +kernel
theorem dX8_seatsLeftSwept_4 : decode cX8_seatsLeftSwept 4 = .ok (.istore 6, 2) := by decide +kernel
theorem dX8_seatsLeftSwept_6 : decode cX8_seatsLeftSwept 6 = .ok (.iconst 0, 1) := by decide +kernel
theorem dX8_seatsLeftSwept_7 : decode cX8_seatsLeftSwept 7 = .ok (.istore 7, 2) := by decide +kernel
theorem dX8_seatsLeftSwept_9 : decode cX8_seatsLeftSwept 9 = .ok (.iload 7, 2) := by decide +kernel
theorem dX8_seatsLeftSwept_11 : decode cX8_seatsLeftSwept 11 = .ok (.iload 4, 2) := by decide +kernel
theorem dX8_seatsLeftSwept_13 : decode cX8_seatsLeftSwept 13 = .ok (.if_icmp .ge 40, 3) := by decide +kernel
theorem dX8_seatsLeftSwept_16 : decode cX8_seatsLeftSwept 16 = .ok (.iload 5, 2) := by decide +kernel
theorem dX8_seatsLeftSwept_18 : decode cX8_seatsLeftSwept 18 = .ok (.aload_n 0, 1) := by decide +kernel
theorem dX8_seatsLeftSwept_19 : decode cX8_seatsLeftSwept 19 = .ok (.getfield 48, 3) := by decide +kernel
theorem dX8_seatsLeftSwept_22 : decode cX8_seatsLeftSwept 22 = .ok (.iload_n 1, 1) := by decide +kernel
theorem dX8_seatsLeftSwept_23 : decode cX8_seatsLeftSwept 23 = .ok (.iload_n 2, 1) := by decide +kernel
theorem dX8_seatsLeftSwept_24 : decode cX8_seatsLeftSwept 24 = .ok (.iload 7, 2) := by decide +kernel
theorem dX8_seatsLeftSwept_26 : decode cX8_seatsLeftSwept 26 = .ok (.invokevirtual 143, 3) := by decide +kernel
theorem dX8_seatsLeftSwept_29 : decode cX8_seatsLeftSwept 29 = .ok (.iadd, 1) := by decide +kernel
theorem dX8_seatsLeftSwept_30 : decode cX8_seatsLeftSwept 30 = .ok (.istore 5, 2) := by decide +kernel
theorem dX8_seatsLeftSwept_32 : decode cX8_seatsLeftSwept 32 = .ok (.iload 7, 2) := by decide +kernel
theorem dX8_seatsLeftSwept_34 : decode cX8_seatsLeftSwept 34 = .ok (.iload_n 3, 1) := by decide +kernel
theorem dX8_seatsLeftSwept_35 : decode cX8_seatsLeftSwept 35 = .ok (.if_icmp .lt 12, 3) := by decide +kernel
theorem dX8_seatsLeftSwept_38 : decode cX8_seatsLeftSwept 38 = .ok (.iload 6, 2) := by decide +kernel
theorem dX8_seatsLeftSwept_40 : decode cX8_seatsLeftSwept 40 = .ok (.iload 5, 2) := by decide +kernel
theorem dX8_seatsLeftSwept_42 : decode cX8_seatsLeftSwept 42 = .ok (.invokestatic 135, 3) := by decide +kernel
theorem dX8_seatsLeftSwept_45 : decode cX8_seatsLeftSwept 45 = .ok (.istore 6, 2) := by decide +kernel
theorem dX8_seatsLeftSwept_47 : decode cX8_seatsLeftSwept 47 = .ok (.iinc 7 1, 3) := by decide +kernel
theorem dX8_seatsLeftSwept_50 : decode cX8_seatsLeftSwept 50 = .ok (.goto (-41), 3) := by decide +kernel
theorem dX8_seatsLeftSwept_53 : decode cX8_seatsLeftSwept 53 = .ok (.aload_n 0, 1) := by decide +kernel
theorem dX8_seatsLeftSwept_54 : decode cX8_seatsLeftSwept 54 = .ok (.getfield 41, 3) := by decide +kernel
theorem dX8_seatsLeftSwept_57 : decode cX8_seatsLeftSwept 57 = .ok (.iload_n 1, 1) := by decide +kernel
theorem dX8_seatsLeftSwept_58 : decode cX8_seatsLeftSwept 58 = .ok (.aaload, 1) := by decide +kernel
theorem dX8_seatsLeftSwept_59 : decode cX8_seatsLeftSwept 59 = .ok (.getfield 140, 3) := by decide +kernel
theorem dX8_seatsLeftSwept_62 : decode cX8_seatsLeftSwept 62 = .ok (.iload 6, 2) := by decide +kernel
theorem dX8_seatsLeftSwept_64 : decode cX8_seatsLeftSwept 64 = .ok (.isub, 1) := by decide +kernel
theorem dX8_seatsLeftSwept_65 : decode cX8_seatsLeftSwept 65 = .ok (.ireturn, 1) := by decide +kernel
theorem dX8_waitFault_0 : decode cX8_waitFault 0 = .ok (.iload_n 1, 1) := by decide +kernel
theorem dX8_waitFault_1 : decode cX8_waitFault 1 = .ok (.iconst 1, 1) := by decide +kernel
theorem dX8_waitFault_2 : decode cX8_waitFault 2 = .ok (.if_icmp .lt 15, 3) := by decide +kernel
theorem dX8_waitFault_5 : decode cX8_waitFault 5 = .ok (.iload_n 1, 1) := by decide +kernel
theorem dX8_waitFault_6 : decode cX8_waitFault 6 = .ok (.bipush 120, 2) := by decide +kernel
theorem dX8_waitFault_8 : decode cX8_waitFault 8 = .ok (.if_icmp .gt 9, 3) := by decide +kernel
theorem dX8_waitFault_11 : decode cX8_waitFault 11 = .ok (.getstatic 70, 3) := by decide +kernel
theorem dX8_waitFault_14 : decode cX8_waitFault 14 = .ok (.goto 6, 3) := by decide +kernel
theorem dX8_waitFault_17 : decode cX8_waitFault 17 = .ok (.getstatic 82, 3) := by decide +kernel
theorem dX8_waitFault_20 : decode cX8_waitFault 20 = .ok (.areturn, 1) := by decide +kernel
theorem dX8_pass_0 : decode cX8_pass 0 = .ok (.aload_n 0, 1) := by decide +kernel
theorem dX8_pass_1 : decode cX8_pass 1 = .ok (.dup, 1) := by decide +kernel
theorem dX8_pass_2 : decode cX8_pass 2 = .ok (.getfield 9, 3) := by decide +kernel
theorem dX8_pass_5 : decode cX8_pass 5 = .ok (.iload_n 1, 1) := by decide +kernel
theorem dX8_pass_6 : decode cX8_pass 6 = .ok (.iadd, 1) := by decide +kernel
theorem dX8_pass_7 : decode cX8_pass 7 = .ok (.putfield 9, 3) := by decide +kernel
theorem dX8_pass_10 : decode cX8_pass 10 = .ok (.iconst 0, 1) := by decide +kernel
theorem dX8_pass_11 : decode cX8_pass 11 = .ok (.istore_n 2, 1) := by decide +kernel
theorem dX8_pass_12 : decode cX8_pass 12 = .ok (.aload_n 0, 1) := by decide +kernel
theorem dX8_pass_13 : decode cX8_pass 13 = .ok (.getfield 48, 3) := by decide +kernel
theorem dX8_pass_16 : decode cX8_pass 16 = .ok (.getfield 120, 3) := by decide +kernel
theorem dX8_pass_19 : decode cX8_pass 19 = .ok (.iconst 1, 1) := by decide +kernel
theorem dX8_pass_20 : decode cX8_pass 20 = .ok (.isub, 1) := by decide +kernel
theorem dX8_pass_21 : decode cX8_pass 21 = .ok (.istore_n 3, 1) := by decide +kernel
theorem dX8_pass_22 : decode cX8_pass 22 = .ok (.iload_n 3, 1) := by decide +kernel
theorem dX8_pass_23 : decode cX8_pass 23 = .ok (.ifCond .lt 65, 3) := by decide +kernel
theorem dX8_pass_26 : decode cX8_pass 26 = .ok (.aload_n 0, 1) := by decide +kernel
theorem dX8_pass_27 : decode cX8_pass 27 = .ok (.getfield 48, 3) := by decide +kernel
theorem dX8_pass_30 : decode cX8_pass 30 = .ok (.getfield 146, 3) := by decide +kernel
theorem dX8_pass_33 : decode cX8_pass 33 = .ok (.iload_n 3, 1) := by decide +kernel
theorem dX8_pass_34 : decode cX8_pass 34 = .ok (.aaload, 1) := by decide +kernel
theorem dX8_pass_35 : decode cX8_pass 35 = .ok (.astore 4, 2) := by decide +kernel
theorem dX8_pass_37 : decode cX8_pass 37 = .ok (.aload_n 0, 1) := by decide +kernel
theorem dX8_pass_38 : decode cX8_pass 38 = .ok (.getfield 41, 3) := by decide +kernel
theorem dX8_pass_41 : decode cX8_pass 41 = .ok (.aload 4, 2) := by decide +kernel
theorem dX8_pass_43 : decode cX8_pass 43 = .ok (.getfield 150, 3) := by decide +kernel
theorem dX8_pass_46 : decode cX8_pass 46 = .ok (.aaload, 1) := by decide +kernel
theorem dX8_pass_47 : decode cX8_pass 47 = .ok (.aload 4, 2) := by decide +kernel
theorem dX8_pass_49 : decode cX8_pass 49 = .ok (.getfield 155, 3) := by decide +kernel
theorem dX8_pass_52 : decode cX8_pass 52 = .ok (.aload 4, 2) := by decide +kernel
theorem dX8_pass_54 : decode cX8_pass 54 = .ok (.getfield 158, 3) := by decide +kernel
theorem dX8_pass_57 : decode cX8_pass 57 = .ok (.aload_n 0, 1) := by decide +kernel
theorem dX8_pass_58 : decode cX8_pass 58 = .ok (.getfield 15, 3) := by decide +kernel
theorem dX8_pass_61 : decode cX8_pass 61 = .ok (.invokevirtual 161, 3) := by decide +kernel
theorem dX8_pass_64 : decode cX8_pass 64 = .ok (.aload_n 0, 1) := by decide +kernel
theorem dX8_pass_65 : decode cX8_pass 65 = .ok (.getfield 9, 3) := by decide +kernel
theorem dX8_pass_68 : decode cX8_pass 68 = .ok (.if_icmp .gt 14, 3) := by decide +kernel
theorem dX8_pass_71 : decode cX8_pass 71 = .ok (.aload_n 0, 1) := by decide +kernel
theorem dX8_pass_72 : decode cX8_pass 72 = .ok (.getfield 48, 3) := by decide +kernel
theorem dX8_pass_75 : decode cX8_pass 75 = .ok (.iload_n 3, 1) := by decide +kernel
theorem dX8_pass_76 : decode cX8_pass 76 = .ok (.invokevirtual 165, 3) := by decide +kernel
theorem dX8_pass_79 : decode cX8_pass 79 = .ok (.iinc 2 1, 3) := by decide +kernel
theorem dX8_pass_82 : decode cX8_pass 82 = .ok (.iinc 3 (-1), 3) := by decide +kernel
theorem dX8_pass_85 : decode cX8_pass 85 = .ok (.goto (-63), 3) := by decide +kernel
theorem dX8_pass_88 : decode cX8_pass 88 = .ok (.aload_n 0, 1) := by decide +kernel
theorem dX8_pass_89 : decode cX8_pass 89 = .ok (.getfield 48, 3) := by decide +kernel
theorem dX8_pass_92 : decode cX8_pass 92 = .ok (.dup, 1) := by decide +kernel
theorem dX8_pass_93 : decode cX8_pass 93 = .ok (.getfield 169, 3) := by decide +kernel
theorem dX8_pass_96 : decode cX8_pass 96 = .ok (.iload_n 2, 1) := by decide +kernel
theorem dX8_pass_97 : decode cX8_pass 97 = .ok (.iadd, 1) := by decide +kernel
theorem dX8_pass_98 : decode cX8_pass 98 = .ok (.putfield 169, 3) := by decide +kernel
theorem dX8_pass_101 : decode cX8_pass 101 = .ok (.iload_n 2, 1) := by decide +kernel
theorem dX8_pass_102 : decode cX8_pass 102 = .ok (.ireturn, 1) := by decide +kernel
theorem dX8_tripFault_0 : decode cX8_tripFault 0 = .ok (.aload_n 0, 1) := by decide +kernel
theorem dX8_tripFault_1 : decode cX8_tripFault 1 = .ok (.iload_n 1, 1) := by decide +kernel
theorem dX8_tripFault_2 : decode cX8_tripFault 2 = .ok (.invokevirtual 79, 3) := by decide +kernel
theorem dX8_tripFault_5 : decode cX8_tripFault 5 = .ok (.ifCond .ne 7, 3) := by decide +kernel
theorem dX8_tripFault_8 : decode cX8_tripFault 8 = .ok (.getstatic 76, 3) := by decide +kernel
theorem dX8_tripFault_11 : decode cX8_tripFault 11 = .ok (.areturn, 1) := by decide +kernel
theorem dX8_tripFault_12 : decode cX8_tripFault 12 = .ok (.iload_n 2, 1) := by decide +kernel
theorem dX8_tripFault_13 : decode cX8_tripFault 13 = .ok (.ifCond .lt 22, 3) := by decide +kernel
theorem dX8_tripFault_16 : decode cX8_tripFault 16 = .ok (.iload_n 2, 1) := by decide +kernel
theorem dX8_tripFault_17 : decode cX8_tripFault 17 = .ok (.bipush 99, 2) := by decide +kernel
theorem dX8_tripFault_19 : decode cX8_tripFault 19 = .ok (.if_icmp .gt 16, 3) := by decide +kernel
theorem dX8_tripFault_22 : decode cX8_tripFault 22 = .ok (.aload_n 0, 1) := by decide +kernel
theorem dX8_tripFault_23 : decode cX8_tripFault 23 = .ok (.getfield 41, 3) := by decide +kernel
theorem dX8_tripFault_26 : decode cX8_tripFault 26 = .ok (.iload_n 1, 1) := by decide +kernel
theorem dX8_tripFault_27 : decode cX8_tripFault 27 = .ok (.aaload, 1) := by decide +kernel
theorem dX8_tripFault_28 : decode cX8_tripFault 28 = .ok (.iload_n 3, 1) := by decide +kernel
theorem dX8_tripFault_29 : decode cX8_tripFault 29 = .ok (.invokevirtual 172, 3) := by decide +kernel
theorem dX8_tripFault_32 : decode cX8_tripFault 32 = .ok (.ifCond .ne 7, 3) := by decide +kernel
theorem dX8_tripFault_35 : decode cX8_tripFault 35 = .ok (.getstatic 82, 3) := by decide +kernel
theorem dX8_tripFault_38 : decode cX8_tripFault 38 = .ok (.areturn, 1) := by decide +kernel
theorem dX8_tripFault_39 : decode cX8_tripFault 39 = .ok (.aload_n 0, 1) := by decide +kernel
theorem dX8_tripFault_40 : decode cX8_tripFault 40 = .ok (.getfield 41, 3) := by decide +kernel
theorem dX8_tripFault_43 : decode cX8_tripFault 43 = .ok (.iload_n 1, 1) := by decide +kernel
theorem dX8_tripFault_44 : decode cX8_tripFault 44 = .ok (.aaload, 1) := by decide +kernel
theorem dX8_tripFault_45 : decode cX8_tripFault 45 = .ok (.getfield 99, 3) := by decide +kernel
theorem dX8_tripFault_48 : decode cX8_tripFault 48 = .ok (.iconst 2, 1) := by decide +kernel
theorem dX8_tripFault_49 : decode cX8_tripFault 49 = .ok (.if_icmp .lt 9, 3) := by decide +kernel
theorem dX8_tripFault_52 : decode cX8_tripFault 52 = .ok (.getstatic 70, 3) := by decide +kernel
theorem dX8_tripFault_55 : decode cX8_tripFault 55 = .ok (.goto 6, 3) := by decide +kernel
theorem dX8_tripFault_58 : decode cX8_tripFault 58 = .ok (.getstatic 85, 3) := by decide +kernel
theorem dX8_tripFault_61 : decode cX8_tripFault 61 = .ok (.areturn, 1) := by decide +kernel
theorem dX8_nextTripFault_0 : decode cX8_nextTripFault 0 = .ok (.aload_n 0, 1) := by decide +kernel
theorem dX8_nextTripFault_1 : decode cX8_nextTripFault 1 = .ok (.iload_n 1, 1) := by decide +kernel
theorem dX8_nextTripFault_2 : decode cX8_nextTripFault 2 = .ok (.invokevirtual 79, 3) := by decide +kernel
theorem dX8_nextTripFault_5 : decode cX8_nextTripFault 5 = .ok (.ifCond .ne 7, 3) := by decide +kernel
theorem dX8_nextTripFault_8 : decode cX8_nextTripFault 8 = .ok (.getstatic 76, 3) := by decide +kernel
theorem dX8_nextTripFault_11 : decode cX8_nextTripFault 11 = .ok (.areturn, 1) := by decide +kernel
theorem dX8_nextTripFault_12 : decode cX8_nextTripFault 12 = .ok (.iload_n 2, 1) := by decide +kernel
theorem dX8_nextTripFault_13 : decode cX8_nextTripFault 13 = .ok (.ifCond .lt 20, 3) := by decide +kernel
theorem dX8_nextTripFault_16 : decode cX8_nextTripFault 16 = .ok (.iload_n 2, 1) := by decide +kernel
theorem dX8_nextTripFault_17 : decode cX8_nextTripFault 17 = .ok (.aload_n 0, 1) := by decide +kernel
theorem dX8_nextTripFault_18 : decode cX8_nextTripFault 18 = .ok (.getfield 41, 3) := by decide +kernel
theorem dX8_nextTripFault_21 : decode cX8_nextTripFault 21 = .ok (.iload_n 1, 1) := by decide +kernel
theorem dX8_nextTripFault_22 : decode cX8_nextTripFault 22 = .ok (.aaload, 1) := by decide +kernel
theorem dX8_nextTripFault_23 : decode cX8_nextTripFault 23 = .ok (.getfield 99, 3) := by decide +kernel
theorem dX8_nextTripFault_26 : decode cX8_nextTripFault 26 = .ok (.if_icmp .ge 7, 3) := by decide +kernel
theorem dX8_nextTripFault_29 : decode cX8_nextTripFault 29 = .ok (.iconst 1, 1) := by decide +kernel
theorem dX8_nextTripFault_30 : decode cX8_nextTripFault 30 = .ok (.goto 4, 3) := by decide +kernel
theorem dX8_nextTripFault_33 : decode cX8_nextTripFault 33 = .ok (.iconst 0, 1) := by decide +kernel
theorem dX8_nextTripFault_34 : decode cX8_nextTripFault 34 = .ok (.istore 4, 2) := by decide +kernel
theorem dX8_nextTripFault_36 : decode cX8_nextTripFault 36 = .ok (.iload 4, 2) := by decide +kernel
theorem dX8_nextTripFault_38 : decode cX8_nextTripFault 38 = .ok (.ifCond .eq 14, 3) := by decide +kernel
theorem dX8_nextTripFault_41 : decode cX8_nextTripFault 41 = .ok (.iload_n 3, 1) := by decide +kernel
theorem dX8_nextTripFault_42 : decode cX8_nextTripFault 42 = .ok (.ifCond .lt 10, 3) := by decide +kernel
theorem dX8_nextTripFault_45 : decode cX8_nextTripFault 45 = .ok (.iload_n 3, 1) := by decide +kernel
theorem dX8_nextTripFault_46 : decode cX8_nextTripFault 46 = .ok (.sipush 9999, 3) := by decide +kernel
theorem dX8_nextTripFault_49 : decode cX8_nextTripFault 49 = .ok (.if_icmp .le 7, 3) := by decide +kernel
theorem dX8_nextTripFault_52 : decode cX8_nextTripFault 52 = .ok (.getstatic 82, 3) := by decide +kernel
theorem dX8_nextTripFault_55 : decode cX8_nextTripFault 55 = .ok (.areturn, 1) := by decide +kernel
theorem dX8_nextTripFault_56 : decode cX8_nextTripFault 56 = .ok (.aload_n 0, 1) := by decide +kernel
theorem dX8_nextTripFault_57 : decode cX8_nextTripFault 57 = .ok (.getfield 41, 3) := by decide +kernel
theorem dX8_nextTripFault_60 : decode cX8_nextTripFault 60 = .ok (.iload_n 1, 1) := by decide +kernel
theorem dX8_nextTripFault_61 : decode cX8_nextTripFault 61 = .ok (.aaload, 1) := by decide +kernel
theorem dX8_nextTripFault_62 : decode cX8_nextTripFault 62 = .ok (.invokevirtual 116, 3) := by decide +kernel
theorem dX8_nextTripFault_65 : decode cX8_nextTripFault 65 = .ok (.ifCond .eq 9, 3) := by decide +kernel
theorem dX8_nextTripFault_68 : decode cX8_nextTripFault 68 = .ok (.getstatic 70, 3) := by decide +kernel
theorem dX8_nextTripFault_71 : decode cX8_nextTripFault 71 = .ok (.goto 6, 3) := by decide +kernel
theorem dX8_nextTripFault_74 : decode cX8_nextTripFault 74 = .ok (.getstatic 85, 3) := by decide +kernel
theorem dX8_nextTripFault_77 : decode cX8_nextTripFault 77 = .ok (.areturn, 1) := by decide +kernel
theorem dX8_journeyFault_0 : decode cX8_journeyFault 0 = .ok (.aload_n 0, 1) := by decide +kernel
theorem dX8_journeyFault_1 : decode cX8_journeyFault 1 = .ok (.iload_n 1, 1) := by decide +kernel
theorem dX8_journeyFault_2 : decode cX8_journeyFault 2 = .ok (.invokevirtual 66, 3) := by decide +kernel
theorem dX8_journeyFault_5 : decode cX8_journeyFault 5 = .ok (.ifCond .eq 11, 3) := by decide +kernel
theorem dX8_journeyFault_8 : decode cX8_journeyFault 8 = .ok (.aload_n 0, 1) := by decide +kernel
theorem dX8_journeyFault_9 : decode cX8_journeyFault 9 = .ok (.iload_n 2, 1) := by decide +kernel
theorem dX8_journeyFault_10 : decode cX8_journeyFault 10 = .ok (.invokevirtual 66, 3) := by decide +kernel
theorem dX8_journeyFault_13 : decode cX8_journeyFault 13 = .ok (.ifCond .ne 7, 3) := by decide +kernel
theorem dX8_journeyFault_16 : decode cX8_journeyFault 16 = .ok (.getstatic 76, 3) := by decide +kernel
theorem dX8_journeyFault_19 : decode cX8_journeyFault 19 = .ok (.areturn, 1) := by decide +kernel
theorem dX8_journeyFault_20 : decode cX8_journeyFault 20 = .ok (.iload_n 3, 1) := by decide +kernel
theorem dX8_journeyFault_21 : decode cX8_journeyFault 21 = .ok (.ifCond .lt 16, 3) := by decide +kernel
theorem dX8_journeyFault_24 : decode cX8_journeyFault 24 = .ok (.iload_n 3, 1) := by decide +kernel
theorem dX8_journeyFault_25 : decode cX8_journeyFault 25 = .ok (.sipush 9999, 3) := by decide +kernel
theorem dX8_journeyFault_28 : decode cX8_journeyFault 28 = .ok (.if_icmp .gt 9, 3) := by decide +kernel
theorem dX8_journeyFault_31 : decode cX8_journeyFault 31 = .ok (.getstatic 70, 3) := by decide +kernel
theorem dX8_journeyFault_34 : decode cX8_journeyFault 34 = .ok (.goto 6, 3) := by decide +kernel
theorem dX8_journeyFault_37 : decode cX8_journeyFault 37 = .ok (.getstatic 82, 3) := by decide +kernel
theorem dX8_journeyFault_40 : decode cX8_journeyFault 40 = .ok (.areturn, 1) := by decide +kernel
theorem dX8_flowFault_0 : decode cX8_flowFault 0 = .ok (.aload_n 0, 1) := by decide +kernel
theorem dX8_flowFault_1 : decode cX8_flowFault 1 = .ok (.iload_n 1, 1) := by decide +kernel
theorem dX8_flowFault_2 : decode cX8_flowFault 2 = .ok (.invokevirtual 66, 3) := by decide +kernel
theorem dX8_flowFault_5 : decode cX8_flowFault 5 = .ok (.ifCond .eq 11, 3) := by decide +kernel
theorem dX8_flowFault_8 : decode cX8_flowFault 8 = .ok (.aload_n 0, 1) := by decide +kernel
theorem dX8_flowFault_9 : decode cX8_flowFault 9 = .ok (.iload_n 2, 1) := by decide +kernel
theorem dX8_flowFault_10 : decode cX8_flowFault 10 = .ok (.invokevirtual 66, 3) := by decide +kernel
theorem dX8_flowFault_13 : decode cX8_flowFault 13 = .ok (.ifCond .ne 7, 3) := by decide +kernel
theorem dX8_flowFault_16 : decode cX8_flowFault 16 = .ok (.getstatic 76, 3) := by decide +kernel
theorem dX8_flowFault_19 : decode cX8_flowFault 19 = .ok (.areturn, 1) := by decide +kernel
theorem dX8_flowFault_20 : decode cX8_flowFault 20 = .ok (.iload_n 1, 1) := by decide +kernel
theorem dX8_flowFault_21 : decode cX8_flowFault 21 = .ok (.iload_n 2, 1) := by decide +kernel
theorem dX8_flowFault_22 : decode cX8_flowFault 22 = .ok (.if_icmp .ne 9, 3) := by decide +kernel
theorem dX8_flowFault_25 : decode cX8_flowFault 25 = .ok (.getstatic 82, 3) := by decide +kernel
theorem dX8_flowFault_28 : decode cX8_flowFault 28 = .ok (.goto 6, 3) := by decide +kernel
theorem dX8_flowFault_31 : decode cX8_flowFault 31 = .ok (.getstatic 70, 3) := by decide +kernel
theorem dX8_flowFault_34 : decode cX8_flowFault 34 = .ok (.areturn, 1) := by decide +kernel
theorem dX8_closedCount_0 : decode cX8_closedCount 0 = .ok (.iconst 0, 1) := by decide +kernel
theorem dX8_closedCount_1 : decode cX8_closedCount 1 = .ok (.istore_n 1, 1) := by decide +kernel
theorem dX8_closedCount_2 : decode cX8_closedCount 2 = .ok (.iconst 0, 1) := by decide +kernel
theorem dX8_closedCount_3 : decode cX8_closedCount 3 = .ok (.istore_n 2, 1) := by decide +kernel
theorem dX8_closedCount_4 : decode cX8_closedCount 4 = .ok (.iload_n 2, 1) := by decide +kernel
theorem dX8_closedCount_5 : decode cX8_closedCount 5 = .ok (.aload_n 0, 1) := by decide +kernel
theorem dX8_closedCount_6 : decode cX8_closedCount 6 = .ok (.getfield 19, 3) := by decide +kernel
theorem dX8_closedCount_9 : decode cX8_closedCount 9 = .ok (.if_icmp .ge 21, 3) := by decide +kernel
theorem dX8_closedCount_12 : decode cX8_closedCount 12 = .ok (.aload_n 0, 1) := by decide +kernel
theorem dX8_closedCount_13 : decode cX8_closedCount 13 = .ok (.getfield 26, 3) := by decide +kernel
theorem dX8_closedCount_16 : decode cX8_closedCount 16 = .ok (.iload_n 2, 1) := by decide +kernel
theorem dX8_closedCount_17 : decode cX8_closedCount 17 = .ok (.baload, 1) := by decide +kernel
theorem dX8_closedCount_18 : decode cX8_closedCount 18 = .ok (.ifCond .eq 6, 3) := by decide +kernel
theorem dX8_closedCount_21 : decode cX8_closedCount 21 = .ok (.iinc 1 1, 3) := by decide +kernel
theorem dX8_closedCount_24 : decode cX8_closedCount 24 = .ok (.iinc 2 1, 3) := by decide +kernel
theorem dX8_closedCount_27 : decode cX8_closedCount 27 = .ok (.goto (-23), 3) := by decide +kernel
theorem dX8_closedCount_30 : decode cX8_closedCount 30 = .ok (.iload_n 1, 1) := by decide +kernel
theorem dX8_closedCount_31 : decode cX8_closedCount 31 = .ok (.ireturn, 1) := by decide +kernel
theorem dX8_lineOfRank_0 : decode cX8_lineOfRank 0 = .ok (.iconst 0, 1) := by decide +kernel
theorem dX8_lineOfRank_1 : decode cX8_lineOfRank 1 = .ok (.istore_n 2, 1) := by decide +kernel
theorem dX8_lineOfRank_2 : decode cX8_lineOfRank 2 = .ok (.iload_n 2, 1) := by decide +kernel
theorem dX8_lineOfRank_3 : decode cX8_lineOfRank 3 = .ok (.aload_n 0, 1) := by decide +kernel
theorem dX8_lineOfRank_4 : decode cX8_lineOfRank 4 = .ok (.getfield 36, 3) := by decide +kernel
theorem dX8_lineOfRank_7 : decode cX8_lineOfRank 7 = .ok (.if_icmp .ge 49, 3) := by decide +kernel
theorem dX8_lineOfRank_10 : decode cX8_lineOfRank 10 = .ok (.iconst 0, 1) := by decide +kernel
theorem dX8_lineOfRank_11 : decode cX8_lineOfRank 11 = .ok (.istore_n 3, 1) := by decide +kernel
theorem dX8_lineOfRank_12 : decode cX8_lineOfRank 12 = .ok (.iconst 0, 1) := by decide +kernel
theorem dX8_lineOfRank_13 : decode cX8_lineOfRank 13 = .ok (.istore 4, 2) := by decide +kernel
theorem dX8_lineOfRank_15 : decode cX8_lineOfRank 15 = .ok (.iload 4, 2) := by decide +kernel
theorem dX8_lineOfRank_17 : decode cX8_lineOfRank 17 = .ok (.aload_n 0, 1) := by decide +kernel
theorem dX8_lineOfRank_18 : decode cX8_lineOfRank 18 = .ok (.getfield 36, 3) := by decide +kernel
theorem dX8_lineOfRank_21 : decode cX8_lineOfRank 21 = .ok (.if_icmp .ge 22, 3) := by decide +kernel
theorem dX8_lineOfRank_24 : decode cX8_lineOfRank 24 = .ok (.aload_n 0, 1) := by decide +kernel
theorem dX8_lineOfRank_25 : decode cX8_lineOfRank 25 = .ok (.iload 4, 2) := by decide +kernel
theorem dX8_lineOfRank_27 : decode cX8_lineOfRank 27 = .ok (.iload_n 2, 1) := by decide +kernel
theorem dX8_lineOfRank_28 : decode cX8_lineOfRank 28 = .ok (.invokevirtual 175, 3) := by decide +kernel
theorem dX8_lineOfRank_31 : decode cX8_lineOfRank 31 = .ok (.ifCond .eq 6, 3) := by decide +kernel
theorem dX8_lineOfRank_34 : decode cX8_lineOfRank 34 = .ok (.iinc 3 1, 3) := by decide +kernel
theorem dX8_lineOfRank_37 : decode cX8_lineOfRank 37 = .ok (.iinc 4 1, 3) := by decide +kernel
theorem dX8_lineOfRank_40 : decode cX8_lineOfRank 40 = .ok (.goto (-25), 3) := by decide +kernel
theorem dX8_lineOfRank_43 : decode cX8_lineOfRank 43 = .ok (.iload_n 3, 1) := by decide +kernel
theorem dX8_lineOfRank_44 : decode cX8_lineOfRank 44 = .ok (.iload_n 1, 1) := by decide +kernel
theorem dX8_lineOfRank_45 : decode cX8_lineOfRank 45 = .ok (.if_icmp .ne 5, 3) := by decide +kernel
theorem dX8_lineOfRank_48 : decode cX8_lineOfRank 48 = .ok (.iload_n 2, 1) := by decide +kernel
theorem dX8_lineOfRank_49 : decode cX8_lineOfRank 49 = .ok (.ireturn, 1) := by decide +kernel
theorem dX8_lineOfRank_50 : decode cX8_lineOfRank 50 = .ok (.iinc 2 1, 3) := by decide +kernel
theorem dX8_lineOfRank_53 : decode cX8_lineOfRank 53 = .ok (.goto (-51), 3) := by decide +kernel
theorem dX8_lineOfRank_56 : decode cX8_lineOfRank 56 = .ok (.iconst (-1), 1) := by decide +kernel
theorem dX8_lineOfRank_57 : decode cX8_lineOfRank 57 = .ok (.ireturn, 1) := by decide +kernel
theorem dX8_isLineBefore_0 : decode cX8_isLineBefore 0 = .ok (.aload_n 0, 1) := by decide +kernel
theorem dX8_isLineBefore_1 : decode cX8_isLineBefore 1 = .ok (.getfield 48, 3) := by decide +kernel
theorem dX8_isLineBefore_4 : decode cX8_isLineBefore 4 = .ok (.iload_n 1, 1) := by decide +kernel
theorem dX8_isLineBefore_5 : decode cX8_isLineBefore 5 = .ok (.invokevirtual 102, 3) := by decide +kernel
theorem dX8_isLineBefore_8 : decode cX8_isLineBefore 8 = .ok (.aload_n 0, 1) := by decide +kernel
theorem dX8_isLineBefore_9 : decode cX8_isLineBefore 9 = .ok (.getfield 48, 3) := by decide +kernel
theorem dX8_isLineBefore_12 : decode cX8_isLineBefore 12 = .ok (.iload_n 2, 1) := by decide +kernel
theorem dX8_isLineBefore_13 : decode cX8_isLineBefore 13 = .ok (.invokevirtual 102, 3) := by decide +kernel
theorem dX8_isLineBefore_16 : decode cX8_isLineBefore 16 = .ok (.isub, 1) := by decide +kernel
theorem dX8_isLineBefore_17 : decode cX8_isLineBefore 17 = .ok (.istore_n 3, 1) := by decide +kernel
theorem dX8_isLineBefore_18 : decode cX8_isLineBefore 18 = .ok (.iload_n 3, 1) := by decide +kernel
theorem dX8_isLineBefore_19 : decode cX8_isLineBefore 19 = .ok (.ifCond .eq 13, 3) := by decide +kernel
theorem dX8_isLineBefore_22 : decode cX8_isLineBefore 22 = .ok (.iload_n 3, 1) := by decide +kernel
theorem dX8_isLineBefore_23 : decode cX8_isLineBefore 23 = .ok (.ifCond .le 7, 3) := by decide +kernel
theorem dX8_isLineBefore_26 : decode cX8_isLineBefore 26 = .ok (.iconst 1, 1) := by decide +kernel
theorem dX8_isLineBefore_27 : decode cX8_isLineBefore 27 = .ok (.goto 4, 3) := by decide +kernel
theorem dX8_isLineBefore_30 : decode cX8_isLineBefore 30 = .ok (.iconst 0, 1) := by decide +kernel
theorem dX8_isLineBefore_31 : decode cX8_isLineBefore 31 = .ok (.ireturn, 1) := by decide +kernel
theorem dX8_isLineBefore_32 : decode cX8_isLineBefore 32 = .ok (.aload_n 0, 1) := by decide +kernel
theorem dX8_isLineBefore_33 : decode cX8_isLineBefore 33 = .ok (.getfield 41, 3) := by decide +kernel
theorem dX8_isLineBefore_36 : decode cX8_isLineBefore 36 = .ok (.iload_n 1, 1) := by decide +kernel
theorem dX8_isLineBefore_37 : decode cX8_isLineBefore 37 = .ok (.aaload, 1) := by decide +kernel
theorem dX8_isLineBefore_38 : decode cX8_isLineBefore 38 = .ok (.getfield 140, 3) := by decide +kernel
theorem dX8_isLineBefore_41 : decode cX8_isLineBefore 41 = .ok (.aload_n 0, 1) := by decide +kernel
theorem dX8_isLineBefore_42 : decode cX8_isLineBefore 42 = .ok (.getfield 41, 3) := by decide +kernel
theorem dX8_isLineBefore_45 : decode cX8_isLineBefore 45 = .ok (.iload_n 2, 1) := by decide +kernel
theorem dX8_isLineBefore_46 : decode cX8_isLineBefore 46 = .ok (.aaload, 1) := by decide +kernel
theorem dX8_isLineBefore_47 : decode cX8_isLineBefore 47 = .ok (.getfield 140, 3) := by decide +kernel
theorem dX8_isLineBefore_50 : decode cX8_isLineBefore 50 = .ok (.isub, 1) := by decide +kernel
theorem dX8_isLineBefore_51 : decode cX8_isLineBefore 51 = .ok (.istore 4, 2) := by decide +kernel
theorem dX8_isLineBefore_53 : decode cX8_isLineBefore 53 = .ok (.iload 4, 2) := by decide +kernel
theorem dX8_isLineBefore_55 : decode cX8_isLineBefore 55 = .ok (.ifCond .eq 16, 3) := by decide +kernel
theorem dX8_isLineBefore_58 : decode cX8_isLineBefore 58 = .ok (.iload 4, 2) := by decide +kernel
theorem dX8_isLineBefore_60 : decode cX8_isLineBefore 60 = .ok (.ifCond .ge 7, 3) := by decide +kernel
theorem dX8_isLineBefore_63 : decode cX8_isLineBefore 63 = .ok (.iconst 1, 1) := by decide +kernel
theorem dX8_isLineBefore_64 : decode cX8_isLineBefore 64 = .ok (.goto 17, 3) := by decide +kernel
theorem dX8_isLineBefore_67 : decode cX8_isLineBefore 67 = .ok (.iconst 0, 1) := by decide +kernel
theorem dX8_isLineBefore_68 : decode cX8_isLineBefore 68 = .ok (.goto 13, 3) := by decide +kernel
theorem dX8_isLineBefore_71 : decode cX8_isLineBefore 71 = .ok (.iload_n 1, 1) := by decide +kernel
theorem dX8_isLineBefore_72 : decode cX8_isLineBefore 72 = .ok (.iload_n 2, 1) := by decide +kernel
theorem dX8_isLineBefore_73 : decode cX8_isLineBefore 73 = .ok (.if_icmp .ge 7, 3) := by decide +kernel
theorem dX8_isLineBefore_76 : decode cX8_isLineBefore 76 = .ok (.iconst 1, 1) := by decide +kernel
theorem dX8_isLineBefore_77 : decode cX8_isLineBefore 77 = .ok (.goto 4, 3) := by decide +kernel
theorem dX8_isLineBefore_80 : decode cX8_isLineBefore 80 = .ok (.iconst 0, 1) := by decide +kernel
theorem dX8_isLineBefore_81 : decode cX8_isLineBefore 81 = .ok (.ireturn, 1) := by decide +kernel
theorem dX8_stopOfRank_0 : decode cX8_stopOfRank 0 = .ok (.iconst 0, 1) := by decide +kernel
theorem dX8_stopOfRank_1 : decode cX8_stopOfRank 1 = .ok (.istore_n 2, 1) := by decide +kernel
theorem dX8_stopOfRank_2 : decode cX8_stopOfRank 2 = .ok (.iload_n 2, 1) := by decide +kernel
theorem dX8_stopOfRank_3 : decode cX8_stopOfRank 3 = .ok (.aload_n 0, 1) := by decide +kernel
theorem dX8_stopOfRank_4 : decode cX8_stopOfRank 4 = .ok (.getfield 19, 3) := by decide +kernel
theorem dX8_stopOfRank_7 : decode cX8_stopOfRank 7 = .ok (.if_icmp .ge 49, 3) := by decide +kernel
theorem dX8_stopOfRank_10 : decode cX8_stopOfRank 10 = .ok (.iconst 0, 1) := by decide +kernel
theorem dX8_stopOfRank_11 : decode cX8_stopOfRank 11 = .ok (.istore_n 3, 1) := by decide +kernel
theorem dX8_stopOfRank_12 : decode cX8_stopOfRank 12 = .ok (.iconst 0, 1) := by decide +kernel
theorem dX8_stopOfRank_13 : decode cX8_stopOfRank 13 = .ok (.istore 4, 2) := by decide +kernel
theorem dX8_stopOfRank_15 : decode cX8_stopOfRank 15 = .ok (.iload 4, 2) := by decide +kernel
theorem dX8_stopOfRank_17 : decode cX8_stopOfRank 17 = .ok (.aload_n 0, 1) := by decide +kernel
theorem dX8_stopOfRank_18 : decode cX8_stopOfRank 18 = .ok (.getfield 19, 3) := by decide +kernel
theorem dX8_stopOfRank_21 : decode cX8_stopOfRank 21 = .ok (.if_icmp .ge 22, 3) := by decide +kernel
theorem dX8_stopOfRank_24 : decode cX8_stopOfRank 24 = .ok (.aload_n 0, 1) := by decide +kernel
theorem dX8_stopOfRank_25 : decode cX8_stopOfRank 25 = .ok (.iload 4, 2) := by decide +kernel
theorem dX8_stopOfRank_27 : decode cX8_stopOfRank 27 = .ok (.iload_n 2, 1) := by decide +kernel
theorem dX8_stopOfRank_28 : decode cX8_stopOfRank 28 = .ok (.invokevirtual 179, 3) := by decide +kernel
theorem dX8_stopOfRank_31 : decode cX8_stopOfRank 31 = .ok (.ifCond .eq 6, 3) := by decide +kernel
theorem dX8_stopOfRank_34 : decode cX8_stopOfRank 34 = .ok (.iinc 3 1, 3) := by decide +kernel
theorem dX8_stopOfRank_37 : decode cX8_stopOfRank 37 = .ok (.iinc 4 1, 3) := by decide +kernel
theorem dX8_stopOfRank_40 : decode cX8_stopOfRank 40 = .ok (.goto (-25), 3) := by decide +kernel
theorem dX8_stopOfRank_43 : decode cX8_stopOfRank 43 = .ok (.iload_n 3, 1) := by decide +kernel
theorem dX8_stopOfRank_44 : decode cX8_stopOfRank 44 = .ok (.iload_n 1, 1) := by decide +kernel
theorem dX8_stopOfRank_45 : decode cX8_stopOfRank 45 = .ok (.if_icmp .ne 5, 3) := by decide +kernel
theorem dX8_stopOfRank_48 : decode cX8_stopOfRank 48 = .ok (.iload_n 2, 1) := by decide +kernel
theorem dX8_stopOfRank_49 : decode cX8_stopOfRank 49 = .ok (.ireturn, 1) := by decide +kernel
theorem dX8_stopOfRank_50 : decode cX8_stopOfRank 50 = .ok (.iinc 2 1, 3) := by decide +kernel
theorem dX8_stopOfRank_53 : decode cX8_stopOfRank 53 = .ok (.goto (-51), 3) := by decide +kernel
theorem dX8_stopOfRank_56 : decode cX8_stopOfRank 56 = .ok (.iconst (-1), 1) := by decide +kernel
theorem dX8_stopOfRank_57 : decode cX8_stopOfRank 57 = .ok (.ireturn, 1) := by decide +kernel
theorem dX8_isStopBefore_0 : decode cX8_isStopBefore 0 = .ok (.aload_n 0, 1) := by decide +kernel
theorem dX8_isStopBefore_1 : decode cX8_isStopBefore 1 = .ok (.iload_n 1, 1) := by decide +kernel
theorem dX8_isStopBefore_2 : decode cX8_isStopBefore 2 = .ok (.invokevirtual 182, 3) := by decide +kernel
theorem dX8_isStopBefore_5 : decode cX8_isStopBefore 5 = .ok (.aload_n 0, 1) := by decide +kernel
theorem dX8_isStopBefore_6 : decode cX8_isStopBefore 6 = .ok (.iload_n 2, 1) := by decide +kernel
theorem dX8_isStopBefore_7 : decode cX8_isStopBefore 7 = .ok (.invokevirtual 182, 3) := by decide +kernel
theorem dX8_isStopBefore_10 : decode cX8_isStopBefore 10 = .ok (.isub, 1) := by decide +kernel
theorem dX8_isStopBefore_11 : decode cX8_isStopBefore 11 = .ok (.istore_n 3, 1) := by decide +kernel
theorem dX8_isStopBefore_12 : decode cX8_isStopBefore 12 = .ok (.iload_n 3, 1) := by decide +kernel
theorem dX8_isStopBefore_13 : decode cX8_isStopBefore 13 = .ok (.ifCond .eq 13, 3) := by decide +kernel
theorem dX8_isStopBefore_16 : decode cX8_isStopBefore 16 = .ok (.iload_n 3, 1) := by decide +kernel
theorem dX8_isStopBefore_17 : decode cX8_isStopBefore 17 = .ok (.ifCond .le 7, 3) := by decide +kernel
theorem dX8_isStopBefore_20 : decode cX8_isStopBefore 20 = .ok (.iconst 1, 1) := by decide +kernel
theorem dX8_isStopBefore_21 : decode cX8_isStopBefore 21 = .ok (.goto 4, 3) := by decide +kernel
theorem dX8_isStopBefore_24 : decode cX8_isStopBefore 24 = .ok (.iconst 0, 1) := by decide +kernel
theorem dX8_isStopBefore_25 : decode cX8_isStopBefore 25 = .ok (.ireturn, 1) := by decide +kernel
theorem dX8_isStopBefore_26 : decode cX8_isStopBefore 26 = .ok (.aload_n 0, 1) := by decide +kernel
theorem dX8_isStopBefore_27 : decode cX8_isStopBefore 27 = .ok (.iload_n 1, 1) := by decide +kernel
theorem dX8_isStopBefore_28 : decode cX8_isStopBefore 28 = .ok (.invokevirtual 185, 3) := by decide +kernel
theorem dX8_isStopBefore_31 : decode cX8_isStopBefore 31 = .ok (.aload_n 0, 1) := by decide +kernel
theorem dX8_isStopBefore_32 : decode cX8_isStopBefore 32 = .ok (.iload_n 2, 1) := by decide +kernel
theorem dX8_isStopBefore_33 : decode cX8_isStopBefore 33 = .ok (.invokevirtual 185, 3) := by decide +kernel
theorem dX8_isStopBefore_36 : decode cX8_isStopBefore 36 = .ok (.isub, 1) := by decide +kernel
theorem dX8_isStopBefore_37 : decode cX8_isStopBefore 37 = .ok (.istore 4, 2) := by decide +kernel
theorem dX8_isStopBefore_39 : decode cX8_isStopBefore 39 = .ok (.iload 4, 2) := by decide +kernel
theorem dX8_isStopBefore_41 : decode cX8_isStopBefore 41 = .ok (.ifCond .eq 16, 3) := by decide +kernel
theorem dX8_isStopBefore_44 : decode cX8_isStopBefore 44 = .ok (.iload 4, 2) := by decide +kernel
theorem dX8_isStopBefore_46 : decode cX8_isStopBefore 46 = .ok (.ifCond .le 7, 3) := by decide +kernel
theorem dX8_isStopBefore_49 : decode cX8_isStopBefore 49 = .ok (.iconst 1, 1) := by decide +kernel
theorem dX8_isStopBefore_50 : decode cX8_isStopBefore 50 = .ok (.goto 17, 3) := by decide +kernel
theorem dX8_isStopBefore_53 : decode cX8_isStopBefore 53 = .ok (.iconst 0, 1) := by decide +kernel
theorem dX8_isStopBefore_54 : decode cX8_isStopBefore 54 = .ok (.goto 13, 3) := by decide +kernel
theorem dX8_isStopBefore_57 : decode cX8_isStopBefore 57 = .ok (.iload_n 1, 1) := by decide +kernel
theorem dX8_isStopBefore_58 : decode cX8_isStopBefore 58 = .ok (.iload_n 2, 1) := by decide +kernel
theorem dX8_isStopBefore_59 : decode cX8_isStopBefore 59 = .ok (.if_icmp .ge 7, 3) := by decide +kernel
theorem dX8_isStopBefore_62 : decode cX8_isStopBefore 62 = .ok (.iconst 1, 1) := by decide +kernel
theorem dX8_isStopBefore_63 : decode cX8_isStopBefore 63 = .ok (.goto 4, 3) := by decide +kernel
theorem dX8_isStopBefore_66 : decode cX8_isStopBefore 66 = .ok (.iconst 0, 1) := by decide +kernel
theorem dX8_isStopBefore_67 : decode cX8_isStopBefore 67 = .ok (.ireturn, 1) := by decide +kernel
theorem dX8_ringsAt_0 : decode cX8_ringsAt 0 = .ok (.iconst 0, 1) := by decide +kernel
theorem dX8_ringsAt_1 : decode cX8_ringsAt 1 = .ok (.istore_n 2, 1) := by decide +kernel
theorem dX8_ringsAt_2 : decode cX8_ringsAt 2 = .ok (.iconst 0, 1) := by decide +kernel
theorem dX8_ringsAt_3 : decode cX8_ringsAt 3 = .ok (.istore_n 3, 1) := by decide +kernel
theorem dX8_ringsAt_4 : decode cX8_ringsAt 4 = .ok (.iload_n 3, 1) := by decide +kernel
theorem dX8_ringsAt_5 : decode cX8_ringsAt 5 = .ok (.aload_n 0, 1) := by decide +kernel
theorem dX8_ringsAt_6 : decode cX8_ringsAt 6 = .ok (.getfield 36, 3) := by decide +kernel
theorem dX8_ringsAt_9 : decode cX8_ringsAt 9 = .ok (.if_icmp .ge 26, 3) := by decide +kernel
theorem dX8_ringsAt_12 : decode cX8_ringsAt 12 = .ok (.aload_n 0, 1) := by decide +kernel
theorem dX8_ringsAt_13 : decode cX8_ringsAt 13 = .ok (.getfield 41, 3) := by decide +kernel
theorem dX8_ringsAt_16 : decode cX8_ringsAt 16 = .ok (.iload_n 3, 1) := by decide +kernel
theorem dX8_ringsAt_17 : decode cX8_ringsAt 17 = .ok (.aaload, 1) := by decide +kernel
theorem dX8_ringsAt_18 : decode cX8_ringsAt 18 = .ok (.iload_n 1, 1) := by decide +kernel
theorem dX8_ringsAt_19 : decode cX8_ringsAt 19 = .ok (.invokevirtual 106, 3) := by decide +kernel
theorem dX8_ringsAt_22 : decode cX8_ringsAt 22 = .ok (.iconst (-1), 1) := by decide +kernel
theorem dX8_ringsAt_23 : decode cX8_ringsAt 23 = .ok (.if_icmp .eq 6, 3) := by decide +kernel
theorem dX8_ringsAt_26 : decode cX8_ringsAt 26 = .ok (.iinc 2 1, 3) := by decide +kernel
theorem dX8_ringsAt_29 : decode cX8_ringsAt 29 = .ok (.iinc 3 1, 3) := by decide +kernel
theorem dX8_ringsAt_32 : decode cX8_ringsAt 32 = .ok (.goto (-28), 3) := by decide +kernel
theorem dX8_ringsAt_35 : decode cX8_ringsAt 35 = .ok (.iload_n 2, 1) := by decide +kernel
theorem dX8_ringsAt_36 : decode cX8_ringsAt 36 = .ok (.ireturn, 1) := by decide +kernel
theorem dX8_walksAt_0 : decode cX8_walksAt 0 = .ok (.iconst 0, 1) := by decide +kernel
theorem dX8_walksAt_1 : decode cX8_walksAt 1 = .ok (.istore_n 2, 1) := by decide +kernel
theorem dX8_walksAt_2 : decode cX8_walksAt 2 = .ok (.iconst 0, 1) := by decide +kernel
theorem dX8_walksAt_3 : decode cX8_walksAt 3 = .ok (.istore_n 3, 1) := by decide +kernel
theorem dX8_walksAt_4 : decode cX8_walksAt 4 = .ok (.iload_n 3, 1) := by decide +kernel
theorem dX8_walksAt_5 : decode cX8_walksAt 5 = .ok (.aload_n 0, 1) := by decide +kernel
theorem dX8_walksAt_6 : decode cX8_walksAt 6 = .ok (.getfield 19, 3) := by decide +kernel
theorem dX8_walksAt_9 : decode cX8_walksAt 9 = .ok (.if_icmp .ge 21, 3) := by decide +kernel
theorem dX8_walksAt_12 : decode cX8_walksAt 12 = .ok (.aload_n 0, 1) := by decide +kernel
theorem dX8_walksAt_13 : decode cX8_walksAt 13 = .ok (.iload_n 1, 1) := by decide +kernel
theorem dX8_walksAt_14 : decode cX8_walksAt 14 = .ok (.iload_n 3, 1) := by decide +kernel
theorem dX8_walksAt_15 : decode cX8_walksAt 15 = .ok (.invokevirtual 88, 3) := by decide +kernel
theorem dX8_walksAt_18 : decode cX8_walksAt 18 = .ok (.ifCond .le 6, 3) := by decide +kernel
theorem dX8_walksAt_21 : decode cX8_walksAt 21 = .ok (.iinc 2 1, 3) := by decide +kernel
theorem dX8_walksAt_24 : decode cX8_walksAt 24 = .ok (.iinc 3 1, 3) := by decide +kernel
theorem dX8_walksAt_27 : decode cX8_walksAt 27 = .ok (.goto (-23), 3) := by decide +kernel
theorem dX8_walksAt_30 : decode cX8_walksAt 30 = .ok (.iload_n 2, 1) := by decide +kernel
theorem dX8_walksAt_31 : decode cX8_walksAt 31 = .ok (.ireturn, 1) := by decide +kernel
theorem dX9_init_0 : decode cX9_init 0 = .ok (.aload_n 0, 1) := by decide +kernel
theorem dX9_init_1 : decode cX9_init 1 = .ok (.invokespecial 3, 3) := by decide +kernel
theorem dX9_init_4 : decode cX9_init 4 = .ok (.aload_n 0, 1) := by decide +kernel
theorem dX9_init_5 : decode cX9_init 5 = .ok (.bipush 60, 2) := by decide +kernel
theorem dX9_init_7 : decode cX9_init 7 = .ok (.newarray .char, 2) := by decide +kernel
theorem dX9_init_9 : decode cX9_init 9 = .ok (.putfield 9, 3) := by decide +kernel
theorem dX9_init_12 : decode cX9_init 12 = .ok (.aload_n 0, 1) := by decide +kernel
theorem dX9_init_13 : decode cX9_init 13 = .ok (.iconst 0, 1) := by decide +kernel
theorem dX9_init_14 : decode cX9_init 14 = .ok (.putfield 15, 3) := by decide +kernel
theorem dX9_init_17 : decode cX9_init 17 = .ok (.aload_n 0, 1) := by decide +kernel
theorem dX9_init_18 : decode cX9_init 18 = .ok (.iconst 0, 1) := by decide +kernel
theorem dX9_init_19 : decode cX9_init 19 = .ok (.putfield 19, 3) := by decide +kernel
theorem dX9_init_22 : decode cX9_init 22 = .ok (.aload_n 0, 1) := by decide +kernel
theorem dX9_init_23 : decode cX9_init 23 = .ok (.iconst 0, 1) := by decide +kernel
theorem dX9_init_24 : decode cX9_init 24 = .ok (.putfield 22, 3) := by decide +kernel
theorem dX9_init_27 : decode cX9_init 27 = .ok (.aload_n 0, 1) := by decide +kernel
theorem dX9_init_28 : decode cX9_init 28 = .ok (.bipush 16, 2) := by decide +kernel
theorem dX9_init_30 : decode cX9_init 30 = .ok (.anewarray 25, 3) := by decide +kernel
theorem dX9_init_33 : decode cX9_init 33 = .ok (.putfield 27, 3) := by decide +kernel
theorem dX9_init_36 : decode cX9_init 36 = .ok (.aload_n 0, 1) := by decide +kernel
theorem dX9_init_37 : decode cX9_init 37 = .ok (.bipush 64, 2) := by decide +kernel
theorem dX9_init_39 : decode cX9_init 39 = .ok (.newarray .int, 2) := by decide +kernel
theorem dX9_init_41 : decode cX9_init 41 = .ok (.putfield 31, 3) := by decide +kernel
theorem dX9_init_44 : decode cX9_init 44 = .ok (.iconst 0, 1) := by decide +kernel
theorem dX9_init_45 : decode cX9_init 45 = .ok (.istore_n 1, 1) := by decide +kernel
theorem dX9_init_46 : decode cX9_init 46 = .ok (.iload_n 1, 1) := by decide +kernel
theorem dX9_init_47 : decode cX9_init 47 = .ok (.bipush 16, 2) := by decide +kernel
theorem dX9_init_49 : decode cX9_init 49 = .ok (.if_icmp .ge 18, 3) := by decide +kernel
theorem dX9_init_52 : decode cX9_init 52 = .ok (.aload_n 0, 1) := by decide +kernel
theorem dX9_init_53 : decode cX9_init 53 = .ok (.getfield 27, 3) := by decide +kernel
theorem dX9_init_56 : decode cX9_init 56 = .ok (.iload_n 1, 1) := by decide +kernel
theorem dX9_init_57 : decode cX9_init 57 = .ok (.getstatic 35, 3) := by decide +kernel
theorem dX9_init_60 : decode cX9_init 60 = .ok (.aastore, 1) := by decide +kernel
theorem dX9_init_61 : decode cX9_init 61 = .ok (.iinc 1 1, 3) := by decide +kernel
theorem dX9_init_64 : decode cX9_init 64 = .ok (.goto (-18), 3) := by decide +kernel
theorem dX9_init_67 : decode cX9_init 67 = .ok (.return_, 1) := by decide +kernel
theorem dX9_append_0 : decode cX9_append 0 = .ok (.aload_n 0, 1) := by decide +kernel
theorem dX9_append_1 : decode cX9_append 1 = .ok (.getfield 15, 3) := by decide +kernel
theorem dX9_append_4 : decode cX9_append 4 = .ok (.bipush 60, 2) := by decide +kernel
theorem dX9_append_6 : decode cX9_append 6 = .ok (.if_icmp .ge 23, 3) := by decide +kernel
theorem dX9_append_9 : decode cX9_append 9 = .ok (.aload_n 0, 1) := by decide +kernel
theorem dX9_append_10 : decode cX9_append 10 = .ok (.getfield 9, 3) := by decide +kernel
theorem dX9_append_13 : decode cX9_append 13 = .ok (.aload_n 0, 1) := by decide +kernel
theorem dX9_append_14 : decode cX9_append 14 = .ok (.getfield 15, 3) := by decide +kernel
theorem dX9_append_17 : decode cX9_append 17 = .ok (.iload_n 1, 1) := by decide +kernel
theorem dX9_append_18 : decode cX9_append 18 = .ok (.castore, 1) := by decide +kernel
theorem dX9_append_19 : decode cX9_append 19 = .ok (.aload_n 0, 1) := by decide +kernel
theorem dX9_append_20 : decode cX9_append 20 = .ok (.dup, 1) := by decide +kernel
theorem dX9_append_21 : decode cX9_append 21 = .ok (.getfield 15, 3) := by decide +kernel
theorem dX9_append_24 : decode cX9_append 24 = .ok (.iconst 1, 1) := by decide +kernel
theorem dX9_append_25 : decode cX9_append 25 = .ok (.iadd, 1) := by decide +kernel
theorem dX9_append_26 : decode cX9_append 26 = .ok (.putfield 15, 3) := by decide +kernel
theorem dX9_append_29 : decode cX9_append 29 = .ok (.aload_n 0, 1) := by decide +kernel
theorem dX9_append_30 : decode cX9_append 30 = .ok (.getfield 15, 3) := by decide +kernel
theorem dX9_append_33 : decode cX9_append 33 = .ok (.ireturn, 1) := by decide +kernel
theorem dX9_commandOf_0 : decode cX9_commandOf 0 = .ok (.aload_n 0, 1) := by decide +kernel
theorem dX9_commandOf_1 : decode cX9_commandOf 1 = .ok (.getfield 27, 3) := by decide +kernel
theorem dX9_commandOf_4 : decode cX9_commandOf 4 = .ok (.iload_n 1, 1) := by decide +kernel
theorem dX9_commandOf_5 : decode cX9_commandOf 5 = .ok (.aaload, 1) := by decide +kernel
theorem dX9_commandOf_6 : decode cX9_commandOf 6 = .ok (.areturn, 1) := by decide +kernel
theorem dX9_valueOf_0 : decode cX9_valueOf 0 = .ok (.aload_n 0, 1) := by decide +kernel
theorem dX9_valueOf_1 : decode cX9_valueOf 1 = .ok (.getfield 31, 3) := by decide +kernel
theorem dX9_valueOf_4 : decode cX9_valueOf 4 = .ok (.iload_n 1, 1) := by decide +kernel
theorem dX9_valueOf_5 : decode cX9_valueOf 5 = .ok (.iconst 4, 1) := by decide +kernel
theorem dX9_valueOf_6 : decode cX9_valueOf 6 = .ok (.imul, 1) := by decide +kernel
theorem dX9_valueOf_7 : decode cX9_valueOf 7 = .ok (.iload_n 2, 1) := by decide +kernel
theorem dX9_valueOf_8 : decode cX9_valueOf 8 = .ok (.iadd, 1) := by decide +kernel
theorem dX9_valueOf_9 : decode cX9_valueOf 9 = .ok (.iaload, 1) := by decide +kernel
theorem dX9_valueOf_10 : decode cX9_valueOf 10 = .ok (.ireturn, 1) := by decide +kernel
theorem dX9_parse_0 : decode cX9_parse 0 = .ok (.aload_n 0, 1) := by decide +kernel
theorem dX9_parse_1 : decode cX9_parse 1 = .ok (.iconst 0, 1) := by decide +kernel
theorem dX9_parse_2 : decode cX9_parse 2 = .ok (.putfield 19, 3) := by decide +kernel
theorem dX9_parse_5 : decode cX9_parse 5 = .ok (.aload_n 0, 1) := by decide +kernel
theorem dX9_parse_6 : decode cX9_parse 6 = .ok (.iconst 0, 1) := by decide +kernel
theorem dX9_parse_7 : decode cX9_parse 7 = .ok (.putfield 22, 3) := by decide +kernel
theorem dX9_parse_10 : decode cX9_parse 10 = .ok (.iconst 0, 1) := by decide +kernel
theorem dX9_parse_11 : decode cX9_parse 11 = .ok (.istore_n 1, 1) := by decide +kernel
theorem dX9_parse_12 : decode cX9_parse 12 = .ok (.aload_n 0, 1) := by decide +kernel
theorem dX9_parse_13 : decode cX9_parse 13 = .ok (.getfield 19, 3) := by decide +kernel
theorem dX9_parse_16 : decode cX9_parse 16 = .ok (.bipush 16, 2) := by decide +kernel
theorem dX9_parse_18 : decode cX9_parse 18 = .ok (.if_icmp .ge 60, 3) := by decide +kernel
theorem dX9_parse_21 : decode cX9_parse 21 = .ok (.aload_n 0, 1) := by decide +kernel
theorem dX9_parse_22 : decode cX9_parse 22 = .ok (.iload_n 1, 1) := by decide +kernel
theorem dX9_parse_23 : decode cX9_parse 23 = .ok (.invokevirtual 39, 3) := by decide +kernel
theorem dX9_parse_26 : decode cX9_parse 26 = .ok (.istore_n 1, 1) := by decide +kernel
theorem dX9_parse_27 : decode cX9_parse 27 = .ok (.iload_n 1, 1) := by decide +kernel
theorem dX9_parse_28 : decode cX9_parse 28 = .ok (.iconst (-1), 1) := by decide +kernel
theorem dX9_parse_29 : decode cX9_parse 29 = .ok (.if_icmp .ne 5, 3) := by decide +kernel
theorem dX9_parse_32 : decode cX9_parse 32 = .ok (.iconst 0, 1) := by decide +kernel
theorem dX9_parse_33 : decode cX9_parse 33 = .ok (.ireturn, 1) := by decide +kernel
theorem dX9_parse_34 : decode cX9_parse 34 = .ok (.aload_n 0, 1) := by decide +kernel
theorem dX9_parse_35 : decode cX9_parse 35 = .ok (.dup, 1) := by decide +kernel
theorem dX9_parse_36 : decode cX9_parse 36 = .ok (.getfield 19, 3) := by decide +kernel
theorem dX9_parse_39 : decode cX9_parse 39 = .ok (.iconst 1, 1) := by decide +kernel
theorem dX9_parse_40 : decode cX9_parse 40 = .ok (.iadd, 1) := by decide +kernel
theorem dX9_parse_41 : decode cX9_parse 41 = .ok (.putfield 19, 3) := by decide +kernel
theorem dX9_parse_44 : decode cX9_parse 44 = .ok (.iload_n 1, 1) := by decide +kernel
theorem dX9_parse_45 : decode cX9_parse 45 = .ok (.aload_n 0, 1) := by decide +kernel
theorem dX9_parse_46 : decode cX9_parse 46 = .ok (.getfield 15, 3) := by decide +kernel
theorem dX9_parse_49 : decode cX9_parse 49 = .ok (.if_icmp .ne 5, 3) := by decide +kernel
theorem dX9_parse_52 : decode cX9_parse 52 = .ok (.iconst 1, 1) := by decide +kernel
theorem dX9_parse_53 : decode cX9_parse 53 = .ok (.ireturn, 1) := by decide +kernel
theorem dX9_parse_54 : decode cX9_parse 54 = .ok (.aload_n 0, 1) := by decide +kernel
theorem dX9_parse_55 : decode cX9_parse 55 = .ok (.getfield 9, 3) := by decide +kernel
theorem dX9_parse_58 : decode cX9_parse 58 = .ok (.iload_n 1, 1) := by decide +kernel
theorem dX9_parse_59 : decode cX9_parse 59 = .ok (.caload, 1) := by decide +kernel
theorem dX9_parse_60 : decode cX9_parse 60 = .ok (.bipush 59, 2) := by decide +kernel
theorem dX9_parse_62 : decode cX9_parse 62 = .ok (.if_icmp .eq 10, 3) := by decide +kernel
theorem dX9_parse_65 : decode cX9_parse 65 = .ok (.aload_n 0, 1) := by decide +kernel
theorem dX9_parse_66 : decode cX9_parse 66 = .ok (.iload_n 1, 1) := by decide +kernel
theorem dX9_parse_67 : decode cX9_parse 67 = .ok (.putfield 22, 3) := by decide +kernel
theorem dX9_parse_70 : decode cX9_parse 70 = .ok (.iconst 0, 1) := by decide +kernel
theorem dX9_parse_71 : decode cX9_parse 71 = .ok (.ireturn, 1) := by decide +kernel
theorem dX9_parse_72 : decode cX9_parse 72 = .ok (.iinc 1 1, 3) := by decide +kernel
theorem dX9_parse_75 : decode cX9_parse 75 = .ok (.goto (-63), 3) := by decide +kernel
theorem dX9_parse_78 : decode cX9_parse 78 = .ok (.aload_n 0, 1) := by decide +kernel
theorem dX9_parse_79 : decode cX9_parse 79 = .ok (.aload_n 0, 1) := by decide +kernel
theorem dX9_parse_80 : decode cX9_parse 80 = .ok (.getfield 15, 3) := by decide +kernel
theorem dX9_parse_83 : decode cX9_parse 83 = .ok (.putfield 22, 3) := by decide +kernel
theorem dX9_parse_86 : decode cX9_parse 86 = .ok (.iconst 0, 1) := by decide +kernel
theorem dX9_parse_87 : decode cX9_parse 87 = .ok (.ireturn, 1) := by decide +kernel
theorem dX9_readCommand_0 : decode cX9_readCommand 0 = .ok (.aload_n 0, 1) := by decide +kernel
theorem dX9_readCommand_1 : decode cX9_readCommand 1 = .ok (.iload_n 1, 1) := by decide +kernel
theorem dX9_readCommand_2 : decode cX9_readCommand 2 = .ok (.putfield 22, 3) := by decide +kernel
theorem dX9_readCommand_5 : decode cX9_readCommand 5 = .ok (.iconst 0, 1) := by decide +kernel
theorem dX9_readCommand_6 : decode cX9_readCommand 6 = .ok (.istore_n 2, 1) := by decide +kernel
theorem dX9_readCommand_7 : decode cX9_readCommand 7 = .ok (.iload_n 2, 1) := by decide +kernel
theorem dX9_readCommand_8 : decode cX9_readCommand 8 = .ok (.getstatic 43, 3) := by decide +kernel
theorem dX9_readCommand_11 : decode cX9_readCommand 11 = .ok (.arraylength, 1) := by decide +kernel
theorem dX9_readCommand_12 : decode cX9_readCommand 12 = .ok (.if_icmp .ge 44, 3) := by decide +kernel
theorem dX9_readCommand_15 : decode cX9_readCommand 15 = .ok (.aload_n 0, 1) := by decide +kernel
theorem dX9_readCommand_16 : decode cX9_readCommand 16 = .ok (.getstatic 43, 3) := by decide +kernel
theorem dX9_readCommand_19 : decode cX9_readCommand 19 = .ok (.iload_n 2, 1) := by decide +kernel
theorem dX9_readCommand_20 : decode cX9_readCommand 20 = .ok (.aaload, 1) := by decide +kernel
theorem dX9_readCommand_21 : decode cX9_readCommand 21 = .ok (.getfield 46, 3) := by decide +kernel
theorem dX9_readCommand_24 : decode cX9_readCommand 24 = .ok (.iload_n 1, 1) := by decide +kernel
theorem dX9_readCommand_25 : decode cX9_readCommand 25 = .ok (.invokevirtual 50, 3) := by decide +kernel
theorem dX9_readCommand_28 : decode cX9_readCommand 28 = .ok (.istore_n 3, 1) := by decide +kernel
theorem dX9_readCommand_29 : decode cX9_readCommand 29 = .ok (.iload_n 3, 1) := by decide +kernel
theorem dX9_readCommand_30 : decode cX9_readCommand 30 = .ok (.iconst (-1), 1) := by decide +kernel
theorem dX9_readCommand_31 : decode cX9_readCommand 31 = .ok (.if_icmp .eq 19, 3) := by decide +kernel
theorem dX9_readCommand_34 : decode cX9_readCommand 34 = .ok (.aload_n 0, 1) := by decide +kernel
theorem dX9_readCommand_35 : decode cX9_readCommand 35 = .ok (.getfield 27, 3) := by decide +kernel
theorem dX9_readCommand_38 : decode cX9_readCommand 38 = .ok (.aload_n 0, 1) := by decide +kernel
theorem dX9_readCommand_39 : decode cX9_readCommand 39 = .ok (.getfield 19, 3) := by decide +kernel
theorem dX9_readCommand_42 : decode cX9_readCommand 42 = .ok (.getstatic 43, 3) := by decide +kernel
theorem dX9_readCommand_45 : decode cX9_readCommand 45 = .ok (.iload_n 2, 1) := by decide +kernel
theorem dX9_readCommand_46 : decode cX9_readCommand 46 = .ok (.aaload, 1) := by decide +kernel
theorem dX9_readCommand_47 : decode cX9_readCommand 47 = .ok (.aastore, 1) := by decide +kernel
theorem dX9_readCommand_48 : decode cX9_readCommand 48 = .ok (.iload_n 3, 1) := by decide +kernel
theorem dX9_readCommand_49 : decode cX9_readCommand 49 = .ok (.ireturn, 1) := by decide +kernel
theorem dX9_readCommand_50 : decode cX9_readCommand 50 = .ok (.iinc 2 1, 3) := by decide +kernel
theorem dX9_readCommand_53 : decode cX9_readCommand 53 = .ok (.goto (-46), 3) := by decide +kernel
theorem dX9_readCommand_56 : decode cX9_readCommand 56 = .ok (.iconst (-1), 1) := by decide +kernel
theorem dX9_readCommand_57 : decode cX9_readCommand 57 = .ok (.ireturn, 1) := by decide +kernel
theorem dX9_readForm_0 : decode cX9_readForm 0 = .ok (.iload_n 2, 1) := by decide +kernel
theorem dX9_readForm_1 : decode cX9_readForm 1 = .ok (.istore_n 3, 1) := by decide +kernel
theorem dX9_readForm_2 : decode cX9_readForm 2 = .ok (.iconst 0, 1) := by decide +kernel
theorem dX9_readForm_3 : decode cX9_readForm 3 = .ok (.istore 4, 2) := by decide +kernel
theorem dX9_readForm_5 : decode cX9_readForm 5 = .ok (.iconst 0, 1) := by decide +kernel
theorem dX9_readForm_6 : decode cX9_readForm 6 = .ok (.istore 5, 2) := by decide +kernel
theorem dX9_readForm_8 : decode cX9_readForm 8 = .ok (.iload 5, 2) := by decide +kernel
theorem dX9_readForm_10 : decode cX9_readForm 10 = .ok (.aload_n 1, 1) := by decide +kernel
theorem dX9_readForm_11 : decode cX9_readForm 11 = .ok (.invokevirtual 54, 3) := by decide +kernel
theorem dX9_readForm_14 : decode cX9_readForm 14 = .ok (.if_icmp .ge 93, 3) := by decide +kernel
theorem dX9_readForm_17 : decode cX9_readForm 17 = .ok (.aload_n 1, 1) := by decide +kernel
theorem dX9_readForm_18 : decode cX9_readForm 18 = .ok (.iload 5, 2) := by decide +kernel
theorem dX9_readForm_20 : decode cX9_readForm 20 = .ok (.invokevirtual 59, 3) := by decide +kernel
theorem dX9_readForm_23 : decode cX9_readForm 23 = .ok (.istore 6, 2) := by decide +kernel
theorem dX9_readForm_25 : decode cX9_readForm 25 = .ok (.aload_n 0, 1) := by decide +kernel
theorem dX9_readForm_26 : decode cX9_readForm 26 = .ok (.iload 6, 2) := by decide +kernel
theorem dX9_readForm_28 : decode cX9_readForm 28 = .ok (.iload_n 3, 1) := by decide +kernel
theorem dX9_readForm_29 : decode cX9_readForm 29 = .ok (.invokevirtual 63, 3) := by decide +kernel
theorem dX9_readForm_32 : decode cX9_readForm 32 = .ok (.istore 7, 2) := by decide +kernel
theorem dX9_readForm_34 : decode cX9_readForm 34 = .ok (.iload 7, 2) := by decide +kernel
theorem dX9_readForm_36 : decode cX9_readForm 36 = .ok (.iload_n 3, 1) := by decide +kernel
theorem dX9_readForm_37 : decode cX9_readForm 37 = .ok (.if_icmp .ne 17, 3) := by decide +kernel
theorem dX9_readForm_40 : decode cX9_readForm 40 = .ok (.aload_n 0, 1) := by decide +kernel
theorem dX9_readForm_41 : decode cX9_readForm 41 = .ok (.aload_n 0, 1) := by decide +kernel
theorem dX9_readForm_42 : decode cX9_readForm 42 = .ok (.getfield 22, 3) := by decide +kernel
theorem dX9_readForm_45 : decode cX9_readForm 45 = .ok (.iload_n 3, 1) := by decide +kernel
theorem dX9_readForm_46 : decode cX9_readForm 46 = .ok (.invokestatic 67, 3) := by decide +kernel
theorem dX9_readForm_49 : decode cX9_readForm 49 = .ok (.putfield 22, 3) := by decide +kernel
theorem dX9_readForm_52 : decode cX9_readForm 52 = .ok (.iconst (-1), 1) := by decide +kernel
theorem dX9_readForm_53 : decode cX9_readForm 53 = .ok (.ireturn, 1) := by decide +kernel
theorem dX9_readForm_54 : decode cX9_readForm 54 = .ok (.iload 6, 2) := by decide +kernel
theorem dX9_readForm_56 : decode cX9_readForm 56 = .ok (.bipush 35, 2) := by decide +kernel
theorem dX9_readForm_58 : decode cX9_readForm 58 = .ok (.if_icmp .eq 10, 3) := by decide +kernel
theorem dX9_readForm_61 : decode cX9_readForm 61 = .ok (.iload 6, 2) := by decide +kernel
theorem dX9_readForm_63 : decode cX9_readForm 63 = .ok (.bipush 64, 2) := by decide +kernel
theorem dX9_readForm_65 : decode cX9_readForm 65 = .ok (.if_icmp .ne 33, 3) := by decide +kernel
theorem dX9_readForm_68 : decode cX9_readForm 68 = .ok (.iload 4, 2) := by decide +kernel
theorem dX9_readForm_70 : decode cX9_readForm 70 = .ok (.iconst 4, 1) := by decide +kernel
theorem dX9_readForm_71 : decode cX9_readForm 71 = .ok (.if_icmp .ge 27, 3) := by decide +kernel
theorem dX9_readForm_74 : decode cX9_readForm 74 = .ok (.aload_n 0, 1) := by decide +kernel
theorem dX9_readForm_75 : decode cX9_readForm 75 = .ok (.getfield 31, 3) := by decide +kernel
theorem dX9_readForm_78 : decode cX9_readForm 78 = .ok (.aload_n 0, 1) := by decide +kernel
theorem dX9_readForm_79 : decode cX9_readForm 79 = .ok (.getfield 19, 3) := by decide +kernel
theorem dX9_readForm_82 : decode cX9_readForm 82 = .ok (.iconst 4, 1) := by decide +kernel
theorem dX9_readForm_83 : decode cX9_readForm 83 = .ok (.imul, 1) := by decide +kernel
theorem dX9_readForm_84 : decode cX9_readForm 84 = .ok (.iload 4, 2) := by decide +kernel
theorem dX9_readForm_86 : decode cX9_readForm 86 = .ok (.iadd, 1) := by decide +kernel
theorem dX9_readForm_87 : decode cX9_readForm 87 = .ok (.aload_n 0, 1) := by decide +kernel
theorem dX9_readForm_88 : decode cX9_readForm 88 = .ok (.iload_n 3, 1) := by decide +kernel
theorem dX9_readForm_89 : decode cX9_readForm 89 = .ok (.iload 7, 2) := by decide +kernel
theorem dX9_readForm_91 : decode cX9_readForm 91 = .ok (.invokevirtual 73, 3) := by decide +kernel
theorem dX9_readForm_94 : decode cX9_readForm 94 = .ok (.iastore, 1) := by decide +kernel
theorem dX9_readForm_95 : decode cX9_readForm 95 = .ok (.iinc 4 1, 3) := by decide +kernel
theorem dX9_readForm_98 : decode cX9_readForm 98 = .ok (.iload 7, 2) := by decide +kernel
theorem dX9_readForm_100 : decode cX9_readForm 100 = .ok (.istore_n 3, 1) := by decide +kernel
theorem dX9_readForm_101 : decode cX9_readForm 101 = .ok (.iinc 5 1, 3) := by decide +kernel
theorem dX9_readForm_104 : decode cX9_readForm 104 = .ok (.goto (-96), 3) := by decide +kernel
theorem dX9_readForm_107 : decode cX9_readForm 107 = .ok (.iload_n 3, 1) := by decide +kernel
theorem dX9_readForm_108 : decode cX9_readForm 108 = .ok (.ireturn, 1) := by decide +kernel
theorem dX9_endOf_0 : decode cX9_endOf 0 = .ok (.iload_n 1, 1) := by decide +kernel
theorem dX9_endOf_1 : decode cX9_endOf 1 = .ok (.bipush 35, 2) := by decide +kernel
theorem dX9_endOf_3 : decode cX9_endOf 3 = .ok (.if_icmp .eq 35, 3) := by decide +kernel
theorem dX9_endOf_6 : decode cX9_endOf 6 = .ok (.iload_n 1, 1) := by decide +kernel
theorem dX9_endOf_7 : decode cX9_endOf 7 = .ok (.bipush 64, 2) := by decide +kernel
theorem dX9_endOf_9 : decode cX9_endOf 9 = .ok (.if_icmp .eq 29, 3) := by decide +kernel
theorem dX9_endOf_12 : decode cX9_endOf 12 = .ok (.iload_n 2, 1) := by decide +kernel
theorem dX9_endOf_13 : decode cX9_endOf 13 = .ok (.aload_n 0, 1) := by decide +kernel
theorem dX9_endOf_14 : decode cX9_endOf 14 = .ok (.getfield 15, 3) := by decide +kernel
theorem dX9_endOf_17 : decode cX9_endOf 17 = .ok (.if_icmp .ge 19, 3) := by decide +kernel
theorem dX9_endOf_20 : decode cX9_endOf 20 = .ok (.aload_n 0, 1) := by decide +kernel
theorem dX9_endOf_21 : decode cX9_endOf 21 = .ok (.getfield 9, 3) := by decide +kernel
theorem dX9_endOf_24 : decode cX9_endOf 24 = .ok (.iload_n 2, 1) := by decide +kernel
theorem dX9_endOf_25 : decode cX9_endOf 25 = .ok (.caload, 1) := by decide +kernel
theorem dX9_endOf_26 : decode cX9_endOf 26 = .ok (.iload_n 1, 1) := by decide +kernel
theorem dX9_endOf_27 : decode cX9_endOf 27 = .ok (.if_icmp .ne 9, 3) := by decide +kernel
theorem dX9_endOf_30 : decode cX9_endOf 30 = .ok (.iload_n 2, 1) := by decide +kernel
theorem dX9_endOf_31 : decode cX9_endOf 31 = .ok (.iconst 1, 1) := by decide +kernel
theorem dX9_endOf_32 : decode cX9_endOf 32 = .ok (.iadd, 1) := by decide +kernel
theorem dX9_endOf_33 : decode cX9_endOf 33 = .ok (.goto 4, 3) := by decide +kernel
theorem dX9_endOf_36 : decode cX9_endOf 36 = .ok (.iload_n 2, 1) := by decide +kernel
theorem dX9_endOf_37 : decode cX9_endOf 37 = .ok (.ireturn, 1) := by decide +kernel
theorem dX9_endOf_38 : decode cX9_endOf 38 = .ok (.iload_n 2, 1) := by decide +kernel
theorem dX9_endOf_39 : decode cX9_endOf 39 = .ok (.istore_n 3, 1) := by decide +kernel
theorem dX9_endOf_40 : decode cX9_endOf 40 = .ok (.iload_n 1, 1) := by decide +kernel
theorem dX9_endOf_41 : decode cX9_endOf 41 = .ok (.bipush 35, 2) := by decide +kernel
theorem dX9_endOf_43 : decode cX9_endOf 43 = .ok (.if_icmp .ne 9, 3) := by decide +kernel
theorem dX9_endOf_46 : decode cX9_endOf 46 = .ok (.iload_n 2, 1) := by decide +kernel
theorem dX9_endOf_47 : decode cX9_endOf 47 = .ok (.iconst 1, 1) := by decide +kernel
theorem dX9_endOf_48 : decode cX9_endOf 48 = .ok (.iadd, 1) := by decide +kernel
theorem dX9_endOf_49 : decode cX9_endOf 49 = .ok (.goto 6, 3) := by decide +kernel
theorem dX9_endOf_52 : decode cX9_endOf 52 = .ok (.iload_n 2, 1) := by decide +kernel
theorem dX9_endOf_53 : decode cX9_endOf 53 = .ok (.iconst 3, 1) := by decide +kernel
theorem dX9_endOf_54 : decode cX9_endOf 54 = .ok (.iadd, 1) := by decide +kernel
theorem dX9_endOf_55 : decode cX9_endOf 55 = .ok (.istore 4, 2) := by decide +kernel
theorem dX9_endOf_57 : decode cX9_endOf 57 = .ok (.iload_n 3, 1) := by decide +kernel
theorem dX9_endOf_58 : decode cX9_endOf 58 = .ok (.iload 4, 2) := by decide +kernel
theorem dX9_endOf_60 : decode cX9_endOf 60 = .ok (.if_icmp .ge 29, 3) := by decide +kernel
theorem dX9_endOf_63 : decode cX9_endOf 63 = .ok (.iload_n 3, 1) := by decide +kernel
theorem dX9_endOf_64 : decode cX9_endOf 64 = .ok (.aload_n 0, 1) := by decide +kernel
theorem dX9_endOf_65 : decode cX9_endOf 65 = .ok (.getfield 15, 3) := by decide +kernel
theorem dX9_endOf_68 : decode cX9_endOf 68 = .ok (.if_icmp .ge 21, 3) := by decide +kernel
theorem dX9_endOf_71 : decode cX9_endOf 71 = .ok (.aload_n 0, 1) := by decide +kernel
theorem dX9_endOf_72 : decode cX9_endOf 72 = .ok (.getfield 9, 3) := by decide +kernel
theorem dX9_endOf_75 : decode cX9_endOf 75 = .ok (.iload_n 3, 1) := by decide +kernel
theorem dX9_endOf_76 : decode cX9_endOf 76 = .ok (.caload, 1) := by decide +kernel
theorem dX9_endOf_77 : decode cX9_endOf 77 = .ok (.invokestatic 76, 3) := by decide +kernel
theorem dX9_endOf_80 : decode cX9_endOf 80 = .ok (.ifCond .eq 9, 3) := by decide +kernel
theorem dX9_endOf_83 : decode cX9_endOf 83 = .ok (.iinc 3 1, 3) := by decide +kernel
theorem dX9_endOf_86 : decode cX9_endOf 86 = .ok (.goto (-29), 3) := by decide +kernel
theorem dX9_endOf_89 : decode cX9_endOf 89 = .ok (.iload_n 3, 1) := by decide +kernel
theorem dX9_endOf_90 : decode cX9_endOf 90 = .ok (.ireturn, 1) := by decide +kernel
theorem dX9_isDigit_0 : decode cX9_isDigit 0 = .ok (.iload_n 0, 1) := by decide +kernel
theorem dX9_isDigit_1 : decode cX9_isDigit 1 = .ok (.bipush 48, 2) := by decide +kernel
theorem dX9_isDigit_3 : decode cX9_isDigit 3 = .ok (.if_icmp .lt 13, 3) := by decide +kernel
theorem dX9_isDigit_6 : decode cX9_isDigit 6 = .ok (.iload_n 0, 1) := by decide +kernel
theorem dX9_isDigit_7 : decode cX9_isDigit 7 = .ok (.bipush 57, 2) := by decide +kernel
theorem dX9_isDigit_9 : decode cX9_isDigit 9 = .ok (.if_icmp .gt 7, 3) := by decide +kernel
theorem dX9_isDigit_12 : decode cX9_isDigit 12 = .ok (.iconst 1, 1) := by decide +kernel
theorem dX9_isDigit_13 : decode cX9_isDigit 13 = .ok (.goto 4, 3) := by decide +kernel
theorem dX9_isDigit_16 : decode cX9_isDigit 16 = .ok (.iconst 0, 1) := by decide +kernel
theorem dX9_isDigit_17 : decode cX9_isDigit 17 = .ok (.ireturn, 1) := by decide +kernel
theorem dX9_numberIn_0 : decode cX9_numberIn 0 = .ok (.iconst 0, 1) := by decide +kernel
theorem dX9_numberIn_1 : decode cX9_numberIn 1 = .ok (.istore_n 3, 1) := by decide +kernel
theorem dX9_numberIn_2 : decode cX9_numberIn 2 = .ok (.iload_n 1, 1) := by decide +kernel
theorem dX9_numberIn_3 : decode cX9_numberIn 3 = .ok (.istore 4, 2) := by decide +kernel
theorem dX9_numberIn_5 : decode cX9_numberIn 5 = .ok (.iload 4, 2) := by decide +kernel
theorem dX9_numberIn_7 : decode cX9_numberIn 7 = .ok (.iload_n 2, 1) := by decide +kernel
theorem dX9_numberIn_8 : decode cX9_numberIn 8 = .ok (.if_icmp .ge 25, 3) := by decide +kernel
theorem dX9_numberIn_11 : decode cX9_numberIn 11 = .ok (.iload_n 3, 1) := by decide +kernel
theorem dX9_numberIn_12 : decode cX9_numberIn 12 = .ok (.bipush 10, 2) := by decide +kernel
theorem dX9_numberIn_14 : decode cX9_numberIn 14 = .ok (.imul, 1) := by decide +kernel
theorem dX9_numberIn_15 : decode cX9_numberIn 15 = .ok (.aload_n 0, 1) := by decide +kernel
theorem dX9_numberIn_16 : decode cX9_numberIn 16 = .ok (.getfield 9, 3) := by decide +kernel
theorem dX9_numberIn_19 : decode cX9_numberIn 19 = .ok (.iload 4, 2) := by decide +kernel
theorem dX9_numberIn_21 : decode cX9_numberIn 21 = .ok (.caload, 1) := by decide +kernel
theorem dX9_numberIn_22 : decode cX9_numberIn 22 = .ok (.bipush 48, 2) := by decide +kernel
theorem dX9_numberIn_24 : decode cX9_numberIn 24 = .ok (.isub, 1) := by decide +kernel
theorem dX9_numberIn_25 : decode cX9_numberIn 25 = .ok (.iadd, 1) := by decide +kernel
theorem dX9_numberIn_26 : decode cX9_numberIn 26 = .ok (.istore_n 3, 1) := by decide +kernel
theorem dX9_numberIn_27 : decode cX9_numberIn 27 = .ok (.iinc 4 1, 3) := by decide +kernel
theorem dX9_numberIn_30 : decode cX9_numberIn 30 = .ok (.goto (-25), 3) := by decide +kernel
theorem dX9_numberIn_33 : decode cX9_numberIn 33 = .ok (.iload_n 3, 1) := by decide +kernel
theorem dX9_numberIn_34 : decode cX9_numberIn 34 = .ok (.ireturn, 1) := by decide +kernel
theorem dX10_init_0 : decode cX10_init 0 = .ok (.aload_n 0, 1) := by decide +kernel
theorem dX10_init_1 : decode cX10_init 1 = .ok (.invokespecial 1, 3) := by decide +kernel
theorem dX10_init_4 : decode cX10_init 4 = .ok (.aload_n 0, 1) := by decide +kernel
theorem dX10_init_5 : decode cX10_init 5 = .ok (.iconst 0, 1) := by decide +kernel
theorem dX10_init_6 : decode cX10_init 6 = .ok (.putfield 7, 3) := by decide +kernel
theorem dX10_init_9 : decode cX10_init 9 = .ok (.aload_n 0, 1) := by decide +kernel
theorem dX10_init_10 : decode cX10_init 10 = .ok (.iconst 0, 1) := by decide +kernel
theorem dX10_init_11 : decode cX10_init 11 = .ok (.putfield 13, 3) := by decide +kernel
theorem dX10_init_14 : decode cX10_init 14 = .ok (.aload_n 0, 1) := by decide +kernel
theorem dX10_init_15 : decode cX10_init 15 = .ok (.iconst 0, 1) := by decide +kernel
theorem dX10_init_16 : decode cX10_init 16 = .ok (.putfield 16, 3) := by decide +kernel
theorem dX10_init_19 : decode cX10_init 19 = .ok (.aload_n 0, 1) := by decide +kernel
theorem dX10_init_20 : decode cX10_init 20 = .ok (.iconst 0, 1) := by decide +kernel
theorem dX10_init_21 : decode cX10_init 21 = .ok (.putfield 19, 3) := by decide +kernel
theorem dX10_init_24 : decode cX10_init 24 = .ok (.aload_n 0, 1) := by decide +kernel
theorem dX10_init_25 : decode cX10_init 25 = .ok (.iconst 0, 1) := by decide +kernel
theorem dX10_init_26 : decode cX10_init 26 = .ok (.putfield 22, 3) := by decide +kernel
theorem dX10_init_29 : decode cX10_init 29 = .ok (.aload_n 0, 1) := by decide +kernel
theorem dX10_init_30 : decode cX10_init 30 = .ok (.iconst 0, 1) := by decide +kernel
theorem dX10_init_31 : decode cX10_init 31 = .ok (.putfield 25, 3) := by decide +kernel
theorem dX10_init_34 : decode cX10_init 34 = .ok (.return_, 1) := by decide +kernel
theorem dX10_copyFrom_0 : decode cX10_copyFrom 0 = .ok (.aload_n 0, 1) := by decide +kernel
theorem dX10_copyFrom_1 : decode cX10_copyFrom 1 = .ok (.aload_n 1, 1) := by decide +kernel
theorem dX10_copyFrom_2 : decode cX10_copyFrom 2 = .ok (.getfield 7, 3) := by decide +kernel
theorem dX10_copyFrom_5 : decode cX10_copyFrom 5 = .ok (.putfield 7, 3) := by decide +kernel
theorem dX10_copyFrom_8 : decode cX10_copyFrom 8 = .ok (.aload_n 0, 1) := by decide +kernel
theorem dX10_copyFrom_9 : decode cX10_copyFrom 9 = .ok (.aload_n 1, 1) := by decide +kernel
theorem dX10_copyFrom_10 : decode cX10_copyFrom 10 = .ok (.getfield 13, 3) := by decide +kernel
theorem dX10_copyFrom_13 : decode cX10_copyFrom 13 = .ok (.putfield 13, 3) := by decide +kernel
theorem dX10_copyFrom_16 : decode cX10_copyFrom 16 = .ok (.aload_n 0, 1) := by decide +kernel
theorem dX10_copyFrom_17 : decode cX10_copyFrom 17 = .ok (.aload_n 1, 1) := by decide +kernel
theorem dX10_copyFrom_18 : decode cX10_copyFrom 18 = .ok (.getfield 16, 3) := by decide +kernel
theorem dX10_copyFrom_21 : decode cX10_copyFrom 21 = .ok (.putfield 16, 3) := by decide +kernel
theorem dX10_copyFrom_24 : decode cX10_copyFrom 24 = .ok (.aload_n 0, 1) := by decide +kernel
theorem dX10_copyFrom_25 : decode cX10_copyFrom 25 = .ok (.aload_n 1, 1) := by decide +kernel
theorem dX10_copyFrom_26 : decode cX10_copyFrom 26 = .ok (.getfield 19, 3) := by decide +kernel
theorem dX10_copyFrom_29 : decode cX10_copyFrom 29 = .ok (.putfield 19, 3) := by decide +kernel
theorem dX10_copyFrom_32 : decode cX10_copyFrom 32 = .ok (.aload_n 0, 1) := by decide +kernel
theorem dX10_copyFrom_33 : decode cX10_copyFrom 33 = .ok (.aload_n 1, 1) := by decide +kernel
theorem dX10_copyFrom_34 : decode cX10_copyFrom 34 = .ok (.getfield 22, 3) := by decide +kernel
theorem dX10_copyFrom_37 : decode cX10_copyFrom 37 = .ok (.putfield 22, 3) := by decide +kernel
theorem dX10_copyFrom_40 : decode cX10_copyFrom 40 = .ok (.aload_n 0, 1) := by decide +kernel
theorem dX10_copyFrom_41 : decode cX10_copyFrom 41 = .ok (.aload_n 1, 1) := by decide +kernel
theorem dX10_copyFrom_42 : decode cX10_copyFrom 42 = .ok (.getfield 25, 3) := by decide +kernel
theorem dX10_copyFrom_45 : decode cX10_copyFrom 45 = .ok (.putfield 25, 3) := by decide +kernel
theorem dX10_copyFrom_48 : decode cX10_copyFrom 48 = .ok (.return_, 1) := by decide +kernel
theorem dX10_isFor_0 : decode cX10_isFor 0 = .ok (.aload_n 0, 1) := by decide +kernel
theorem dX10_isFor_1 : decode cX10_isFor 1 = .ok (.getfield 13, 3) := by decide +kernel
theorem dX10_isFor_4 : decode cX10_isFor 4 = .ok (.iload_n 1, 1) := by decide +kernel
theorem dX10_isFor_5 : decode cX10_isFor 5 = .ok (.if_icmp .ne 15, 3) := by decide +kernel
theorem dX10_isFor_8 : decode cX10_isFor 8 = .ok (.aload_n 0, 1) := by decide +kernel
theorem dX10_isFor_9 : decode cX10_isFor 9 = .ok (.getfield 16, 3) := by decide +kernel
theorem dX10_isFor_12 : decode cX10_isFor 12 = .ok (.iload_n 2, 1) := by decide +kernel
theorem dX10_isFor_13 : decode cX10_isFor 13 = .ok (.if_icmp .ne 7, 3) := by decide +kernel
theorem dX10_isFor_16 : decode cX10_isFor 16 = .ok (.iconst 1, 1) := by decide +kernel
theorem dX10_isFor_17 : decode cX10_isFor 17 = .ok (.goto 4, 3) := by decide +kernel
theorem dX10_isFor_20 : decode cX10_isFor 20 = .ok (.iconst 0, 1) := by decide +kernel
theorem dX10_isFor_21 : decode cX10_isFor 21 = .ok (.ireturn, 1) := by decide +kernel
theorem dX11_init_0 : decode cX11_init 0 = .ok (.aload_n 0, 1) := by decide +kernel
theorem dX11_init_1 : decode cX11_init 1 = .ok (.invokespecial 3, 3) := by decide +kernel
theorem dX11_init_4 : decode cX11_init 4 = .ok (.aload_n 0, 1) := by decide +kernel
theorem dX11_init_5 : decode cX11_init 5 = .ok (.bipush 16, 2) := by decide +kernel
theorem dX11_init_7 : decode cX11_init 7 = .ok (.anewarray 9, 3) := by decide +kernel
theorem dX11_init_10 : decode cX11_init 10 = .ok (.putfield 11, 3) := by decide +kernel
theorem dX11_init_13 : decode cX11_init 13 = .ok (.aload_n 0, 1) := by decide +kernel
theorem dX11_init_14 : decode cX11_init 14 = .ok (.iconst 0, 1) := by decide +kernel
theorem dX11_init_15 : decode cX11_init 15 = .ok (.putfield 17, 3) := by decide +kernel
theorem dX11_init_18 : decode cX11_init 18 = .ok (.aload_n 0, 1) := by decide +kernel
theorem dX11_init_19 : decode cX11_init 19 = .ok (.iconst 0, 1) := by decide +kernel
theorem dX11_init_20 : decode cX11_init 20 = .ok (.putfield 21, 3) := by decide +kernel
theorem dX11_init_23 : decode cX11_init 23 = .ok (.aload_n 0, 1) := by decide +kernel
theorem dX11_init_24 : decode cX11_init 24 = .ok (.iconst 0, 1) := by decide +kernel
theorem dX11_init_25 : decode cX11_init 25 = .ok (.putfield 24, 3) := by decide +kernel
theorem dX11_init_28 : decode cX11_init 28 = .ok (.aload_n 0, 1) := by decide +kernel
theorem dX11_init_29 : decode cX11_init 29 = .ok (.iconst 0, 1) := by decide +kernel
theorem dX11_init_30 : decode cX11_init 30 = .ok (.putfield 27, 3) := by decide +kernel
theorem dX11_init_33 : decode cX11_init 33 = .ok (.aload_n 0, 1) := by decide +kernel
theorem dX11_init_34 : decode cX11_init 34 = .ok (.iconst 0, 1) := by decide +kernel
theorem dX11_init_35 : decode cX11_init 35 = .ok (.putfield 30, 3) := by decide +kernel
theorem dX11_init_38 : decode cX11_init 38 = .ok (.iconst 0, 1) := by decide +kernel
theorem dX11_init_39 : decode cX11_init 39 = .ok (.istore_n 1, 1) := by decide +kernel
theorem dX11_init_40 : decode cX11_init 40 = .ok (.iload_n 1, 1) := by decide +kernel
theorem dX11_init_41 : decode cX11_init 41 = .ok (.bipush 16, 2) := by decide +kernel
theorem dX11_init_43 : decode cX11_init 43 = .ok (.if_icmp .ge 22, 3) := by decide +kernel
theorem dX11_init_46 : decode cX11_init 46 = .ok (.aload_n 0, 1) := by decide +kernel
theorem dX11_init_47 : decode cX11_init 47 = .ok (.getfield 11, 3) := by decide +kernel
theorem dX11_init_50 : decode cX11_init 50 = .ok (.iload_n 1, 1) := by decide +kernel
theorem dX11_init_51 : decode cX11_init 51 = .ok (.new 9, 3) := by decide +kernel
theorem dX11_init_54 : decode cX11_init 54 = .ok (.dup, 1) := by decide +kernel
theorem dX11_init_55 : decode cX11_init 55 = .ok (.invokespecial 33, 3) := by decide +kernel
theorem dX11_init_58 : decode cX11_init 58 = .ok (.aastore, 1) := by decide +kernel
theorem dX11_init_59 : decode cX11_init 59 = .ok (.iinc 1 1, 3) := by decide +kernel
theorem dX11_init_62 : decode cX11_init 62 = .ok (.goto (-22), 3) := by decide +kernel
theorem dX11_init_65 : decode cX11_init 65 = .ok (.return_, 1) := by decide +kernel
theorem dX11_copyFrom_0 : decode cX11_copyFrom 0 = .ok (.aload_n 0, 1) := by decide +kernel
theorem dX11_copyFrom_1 : decode cX11_copyFrom 1 = .ok (.aload_n 1, 1) := by decide +kernel
theorem dX11_copyFrom_2 : decode cX11_copyFrom 2 = .ok (.getfield 17, 3) := by decide +kernel
theorem dX11_copyFrom_5 : decode cX11_copyFrom 5 = .ok (.putfield 17, 3) := by decide +kernel
theorem dX11_copyFrom_8 : decode cX11_copyFrom 8 = .ok (.aload_n 0, 1) := by decide +kernel
theorem dX11_copyFrom_9 : decode cX11_copyFrom 9 = .ok (.aload_n 1, 1) := by decide +kernel
theorem dX11_copyFrom_10 : decode cX11_copyFrom 10 = .ok (.getfield 21, 3) := by decide +kernel
theorem dX11_copyFrom_13 : decode cX11_copyFrom 13 = .ok (.putfield 21, 3) := by decide +kernel
theorem dX11_copyFrom_16 : decode cX11_copyFrom 16 = .ok (.aload_n 0, 1) := by decide +kernel
theorem dX11_copyFrom_17 : decode cX11_copyFrom 17 = .ok (.aload_n 1, 1) := by decide +kernel
theorem dX11_copyFrom_18 : decode cX11_copyFrom 18 = .ok (.getfield 24, 3) := by decide +kernel
theorem dX11_copyFrom_21 : decode cX11_copyFrom 21 = .ok (.putfield 24, 3) := by decide +kernel
theorem dX11_copyFrom_24 : decode cX11_copyFrom 24 = .ok (.aload_n 0, 1) := by decide +kernel
theorem dX11_copyFrom_25 : decode cX11_copyFrom 25 = .ok (.aload_n 1, 1) := by decide +kernel
theorem dX11_copyFrom_26 : decode cX11_copyFrom 26 = .ok (.getfield 27, 3) := by decide +kernel
theorem dX11_copyFrom_29 : decode cX11_copyFrom 29 = .ok (.putfield 27, 3) := by decide +kernel
theorem dX11_copyFrom_32 : decode cX11_copyFrom 32 = .ok (.aload_n 0, 1) := by decide +kernel
theorem dX11_copyFrom_33 : decode cX11_copyFrom 33 = .ok (.aload_n 1, 1) := by decide +kernel
theorem dX11_copyFrom_34 : decode cX11_copyFrom 34 = .ok (.getfield 30, 3) := by decide +kernel
theorem dX11_copyFrom_37 : decode cX11_copyFrom 37 = .ok (.putfield 30, 3) := by decide +kernel
theorem dX11_copyFrom_40 : decode cX11_copyFrom 40 = .ok (.iconst 0, 1) := by decide +kernel
theorem dX11_copyFrom_41 : decode cX11_copyFrom 41 = .ok (.istore_n 2, 1) := by decide +kernel
theorem dX11_copyFrom_42 : decode cX11_copyFrom 42 = .ok (.iload_n 2, 1) := by decide +kernel
theorem dX11_copyFrom_43 : decode cX11_copyFrom 43 = .ok (.aload_n 0, 1) := by decide +kernel
theorem dX11_copyFrom_44 : decode cX11_copyFrom 44 = .ok (.getfield 17, 3) := by decide +kernel
theorem dX11_copyFrom_47 : decode cX11_copyFrom 47 = .ok (.if_icmp .ge 24, 3) := by decide +kernel
theorem dX11_copyFrom_50 : decode cX11_copyFrom 50 = .ok (.aload_n 0, 1) := by decide +kernel
theorem dX11_copyFrom_51 : decode cX11_copyFrom 51 = .ok (.getfield 11, 3) := by decide +kernel
theorem dX11_copyFrom_54 : decode cX11_copyFrom 54 = .ok (.iload_n 2, 1) := by decide +kernel
theorem dX11_copyFrom_55 : decode cX11_copyFrom 55 = .ok (.aaload, 1) := by decide +kernel
theorem dX11_copyFrom_56 : decode cX11_copyFrom 56 = .ok (.aload_n 1, 1) := by decide +kernel
theorem dX11_copyFrom_57 : decode cX11_copyFrom 57 = .ok (.getfield 11, 3) := by decide +kernel
theorem dX11_copyFrom_60 : decode cX11_copyFrom 60 = .ok (.iload_n 2, 1) := by decide +kernel
theorem dX11_copyFrom_61 : decode cX11_copyFrom 61 = .ok (.aaload, 1) := by decide +kernel
theorem dX11_copyFrom_62 : decode cX11_copyFrom 62 = .ok (.invokevirtual 34, 3) := by decide +kernel
theorem dX11_copyFrom_65 : decode cX11_copyFrom 65 = .ok (.iinc 2 1, 3) := by decide +kernel
theorem dX11_copyFrom_68 : decode cX11_copyFrom 68 = .ok (.goto (-26), 3) := by decide +kernel
theorem dX11_copyFrom_71 : decode cX11_copyFrom 71 = .ok (.return_, 1) := by decide +kernel
theorem dX11_put_0 : decode cX11_put 0 = .ok (.aload_n 0, 1) := by decide +kernel
theorem dX11_put_1 : decode cX11_put 1 = .ok (.getfield 17, 3) := by decide +kernel
theorem dX11_put_4 : decode cX11_put 4 = .ok (.bipush 16, 2) := by decide +kernel
theorem dX11_put_6 : decode cX11_put 6 = .ok (.if_icmp .lt 5, 3) := by decide +kernel
theorem dX11_put_9 : decode cX11_put 9 = .ok (.iconst (-1), 1) := by decide +kernel
theorem dX11_put_10 : decode cX11_put 10 = .ok (.ireturn, 1) := by decide +kernel
theorem dX11_put_11 : decode cX11_put 11 = .ok (.aload_n 0, 1) := by decide +kernel
theorem dX11_put_12 : decode cX11_put 12 = .ok (.getfield 11, 3) := by decide +kernel
theorem dX11_put_15 : decode cX11_put 15 = .ok (.aload_n 0, 1) := by decide +kernel
theorem dX11_put_16 : decode cX11_put 16 = .ok (.getfield 17, 3) := by decide +kernel
theorem dX11_put_19 : decode cX11_put 19 = .ok (.aaload, 1) := by decide +kernel
theorem dX11_put_20 : decode cX11_put 20 = .ok (.astore 6, 2) := by decide +kernel
theorem dX11_put_22 : decode cX11_put 22 = .ok (.aload 6, 2) := by decide +kernel
theorem dX11_put_24 : decode cX11_put 24 = .ok (.aload_n 0, 1) := by decide +kernel
theorem dX11_put_25 : decode cX11_put 25 = .ok (.getfield 21, 3) := by decide +kernel
theorem dX11_put_28 : decode cX11_put 28 = .ok (.putfield 38, 3) := by decide +kernel
theorem dX11_put_31 : decode cX11_put 31 = .ok (.aload 6, 2) := by decide +kernel
theorem dX11_put_33 : decode cX11_put 33 = .ok (.iload_n 1, 1) := by decide +kernel
theorem dX11_put_34 : decode cX11_put 34 = .ok (.putfield 41, 3) := by decide +kernel
theorem dX11_put_37 : decode cX11_put 37 = .ok (.aload 6, 2) := by decide +kernel
theorem dX11_put_39 : decode cX11_put 39 = .ok (.iload_n 2, 1) := by decide +kernel
theorem dX11_put_40 : decode cX11_put 40 = .ok (.putfield 44, 3) := by decide +kernel
theorem dX11_put_43 : decode cX11_put 43 = .ok (.aload 6, 2) := by decide +kernel
theorem dX11_put_45 : decode cX11_put 45 = .ok (.iload_n 3, 1) := by decide +kernel
theorem dX11_put_46 : decode cX11_put 46 = .ok (.putfield 47, 3) := by decide +kernel
theorem dX11_put_49 : decode cX11_put 49 = .ok (.aload 6, 2) := by decide +kernel
theorem dX11_put_51 : decode cX11_put 51 = .ok (.iload 4, 2) := by decide +kernel
theorem dX11_put_53 : decode cX11_put 53 = .ok (.putfield 50, 3) := by decide +kernel
theorem dX11_put_56 : decode cX11_put 56 = .ok (.aload 6, 2) := by decide +kernel
theorem dX11_put_58 : decode cX11_put 58 = .ok (.iload 5, 2) := by decide +kernel
theorem dX11_put_60 : decode cX11_put 60 = .ok (.putfield 53, 3) := by decide +kernel
theorem dX11_put_63 : decode cX11_put 63 = .ok (.aload_n 0, 1) := by decide +kernel
theorem dX11_put_64 : decode cX11_put 64 = .ok (.dup, 1) := by decide +kernel
theorem dX11_put_65 : decode cX11_put 65 = .ok (.getfield 17, 3) := by decide +kernel
theorem dX11_put_68 : decode cX11_put 68 = .ok (.iconst 1, 1) := by decide +kernel
theorem dX11_put_69 : decode cX11_put 69 = .ok (.iadd, 1) := by decide +kernel
theorem dX11_put_70 : decode cX11_put 70 = .ok (.putfield 17, 3) := by decide +kernel
theorem dX11_put_73 : decode cX11_put 73 = .ok (.aload_n 0, 1) := by decide +kernel
theorem dX11_put_74 : decode cX11_put 74 = .ok (.dup, 1) := by decide +kernel
theorem dX11_put_75 : decode cX11_put 75 = .ok (.getfield 21, 3) := by decide +kernel
theorem dX11_put_78 : decode cX11_put 78 = .ok (.iconst 1, 1) := by decide +kernel
theorem dX11_put_79 : decode cX11_put 79 = .ok (.iadd, 1) := by decide +kernel
theorem dX11_put_80 : decode cX11_put 80 = .ok (.putfield 21, 3) := by decide +kernel
theorem dX11_put_83 : decode cX11_put 83 = .ok (.aload_n 0, 1) := by decide +kernel
theorem dX11_put_84 : decode cX11_put 84 = .ok (.dup, 1) := by decide +kernel
theorem dX11_put_85 : decode cX11_put 85 = .ok (.getfield 24, 3) := by decide +kernel
theorem dX11_put_88 : decode cX11_put 88 = .ok (.iload 5, 2) := by decide +kernel
theorem dX11_put_90 : decode cX11_put 90 = .ok (.iadd, 1) := by decide +kernel
theorem dX11_put_91 : decode cX11_put 91 = .ok (.putfield 24, 3) := by decide +kernel
theorem dX11_put_94 : decode cX11_put 94 = .ok (.aload 6, 2) := by decide +kernel
theorem dX11_put_96 : decode cX11_put 96 = .ok (.getfield 38, 3) := by decide +kernel
theorem dX11_put_99 : decode cX11_put 99 = .ok (.ireturn, 1) := by decide +kernel
theorem dX11_drop_0 : decode cX11_drop 0 = .ok (.aload_n 0, 1) := by decide +kernel
theorem dX11_drop_1 : decode cX11_drop 1 = .ok (.getfield 11, 3) := by decide +kernel
theorem dX11_drop_4 : decode cX11_drop 4 = .ok (.iload_n 1, 1) := by decide +kernel
theorem dX11_drop_5 : decode cX11_drop 5 = .ok (.aaload, 1) := by decide +kernel
theorem dX11_drop_6 : decode cX11_drop 6 = .ok (.astore_n 2, 1) := by decide +kernel
theorem dX11_drop_7 : decode cX11_drop 7 = .ok (.aload_n 0, 1) := by decide +kernel
theorem dX11_drop_8 : decode cX11_drop 8 = .ok (.dup, 1) := by decide +kernel
theorem dX11_drop_9 : decode cX11_drop 9 = .ok (.getfield 17, 3) := by decide +kernel
theorem dX11_drop_12 : decode cX11_drop 12 = .ok (.iconst 1, 1) := by decide +kernel
theorem dX11_drop_13 : decode cX11_drop 13 = .ok (.isub, 1) := by decide +kernel
theorem dX11_drop_14 : decode cX11_drop 14 = .ok (.putfield 17, 3) := by decide +kernel
theorem dX11_drop_17 : decode cX11_drop 17 = .ok (.iload_n 1, 1) := by decide +kernel
theorem dX11_drop_18 : decode cX11_drop 18 = .ok (.istore_n 3, 1) := by decide +kernel
theorem dX11_drop_19 : decode cX11_drop 19 = .ok (.iload_n 3, 1) := by decide +kernel
theorem dX11_drop_20 : decode cX11_drop 20 = .ok (.aload_n 0, 1) := by decide +kernel
theorem dX11_drop_21 : decode cX11_drop 21 = .ok (.getfield 17, 3) := by decide +kernel
theorem dX11_drop_24 : decode cX11_drop 24 = .ok (.if_icmp .ge 23, 3) := by decide +kernel
theorem dX11_drop_27 : decode cX11_drop 27 = .ok (.aload_n 0, 1) := by decide +kernel
theorem dX11_drop_28 : decode cX11_drop 28 = .ok (.getfield 11, 3) := by decide +kernel
theorem dX11_drop_31 : decode cX11_drop 31 = .ok (.iload_n 3, 1) := by decide +kernel
theorem dX11_drop_32 : decode cX11_drop 32 = .ok (.aload_n 0, 1) := by decide +kernel
theorem dX11_drop_33 : decode cX11_drop 33 = .ok (.getfield 11, 3) := by decide +kernel
theorem dX11_drop_36 : decode cX11_drop 36 = .ok (.iload_n 3, 1) := by decide +kernel
theorem dX11_drop_37 : decode cX11_drop 37 = .ok (.iconst 1, 1) := by decide +kernel
theorem dX11_drop_38 : decode cX11_drop 38 = .ok (.iadd, 1) := by decide +kernel
theorem dX11_drop_39 : decode cX11_drop 39 = .ok (.aaload, 1) := by decide +kernel
theorem dX11_drop_40 : decode cX11_drop 40 = .ok (.aastore, 1) := by decide +kernel
theorem dX11_drop_41 : decode cX11_drop 41 = .ok (.iinc 3 1, 3) := by decide +kernel
theorem dX11_drop_44 : decode cX11_drop 44 = .ok (.goto (-25), 3) := by decide +kernel
theorem dX11_drop_47 : decode cX11_drop 47 = .ok (.aload_n 0, 1) := by decide +kernel
theorem dX11_drop_48 : decode cX11_drop 48 = .ok (.getfield 11, 3) := by decide +kernel
theorem dX11_drop_51 : decode cX11_drop 51 = .ok (.aload_n 0, 1) := by decide +kernel
theorem dX11_drop_52 : decode cX11_drop 52 = .ok (.getfield 17, 3) := by decide +kernel
theorem dX11_drop_55 : decode cX11_drop 55 = .ok (.aload_n 2, 1) := by decide +kernel
theorem dX11_drop_56 : decode cX11_drop 56 = .ok (.aastore, 1) := by decide +kernel
theorem dX11_drop_57 : decode cX11_drop 57 = .ok (.return_, 1) := by decide +kernel
theorem dX11_giveBack_0 : decode cX11_giveBack 0 = .ok (.iload_n 1, 1) := by decide +kernel
theorem dX11_giveBack_1 : decode cX11_giveBack 1 = .ok (.ifCond .lt 11, 3) := by decide +kernel
theorem dX11_giveBack_4 : decode cX11_giveBack 4 = .ok (.iload_n 1, 1) := by decide +kernel
theorem dX11_giveBack_5 : decode cX11_giveBack 5 = .ok (.aload_n 0, 1) := by decide +kernel
theorem dX11_giveBack_6 : decode cX11_giveBack 6 = .ok (.getfield 17, 3) := by decide +kernel
theorem dX11_giveBack_9 : decode cX11_giveBack 9 = .ok (.if_icmp .lt 5, 3) := by decide +kernel
theorem dX11_giveBack_12 : decode cX11_giveBack 12 = .ok (.iconst (-1), 1) := by decide +kernel
theorem dX11_giveBack_13 : decode cX11_giveBack 13 = .ok (.ireturn, 1) := by decide +kernel
theorem dX11_giveBack_14 : decode cX11_giveBack 14 = .ok (.aload_n 0, 1) := by decide +kernel
theorem dX11_giveBack_15 : decode cX11_giveBack 15 = .ok (.getfield 11, 3) := by decide +kernel
theorem dX11_giveBack_18 : decode cX11_giveBack 18 = .ok (.iload_n 1, 1) := by decide +kernel
theorem dX11_giveBack_19 : decode cX11_giveBack 19 = .ok (.aaload, 1) := by decide +kernel
theorem dX11_giveBack_20 : decode cX11_giveBack 20 = .ok (.getfield 53, 3) := by decide +kernel
theorem dX11_giveBack_23 : decode cX11_giveBack 23 = .ok (.istore_n 2, 1) := by decide +kernel
theorem dX11_giveBack_24 : decode cX11_giveBack 24 = .ok (.aload_n 0, 1) := by decide +kernel
theorem dX11_giveBack_25 : decode cX11_giveBack 25 = .ok (.dup, 1) := by decide +kernel
theorem dX11_giveBack_26 : decode cX11_giveBack 26 = .ok (.getfield 24, 3) := by decide +kernel
theorem dX11_giveBack_29 : decode cX11_giveBack 29 = .ok (.iload_n 2, 1) := by decide +kernel
theorem dX11_giveBack_30 : decode cX11_giveBack 30 = .ok (.isub, 1) := by decide +kernel
theorem dX11_giveBack_31 : decode cX11_giveBack 31 = .ok (.putfield 24, 3) := by decide +kernel
theorem dX11_giveBack_34 : decode cX11_giveBack 34 = .ok (.aload_n 0, 1) := by decide +kernel
theorem dX11_giveBack_35 : decode cX11_giveBack 35 = .ok (.dup, 1) := by decide +kernel
theorem dX11_giveBack_36 : decode cX11_giveBack 36 = .ok (.getfield 27, 3) := by decide +kernel
theorem dX11_giveBack_39 : decode cX11_giveBack 39 = .ok (.iload_n 2, 1) := by decide +kernel
theorem dX11_giveBack_40 : decode cX11_giveBack 40 = .ok (.iadd, 1) := by decide +kernel
theorem dX11_giveBack_41 : decode cX11_giveBack 41 = .ok (.putfield 27, 3) := by decide +kernel
theorem dX11_giveBack_44 : decode cX11_giveBack 44 = .ok (.aload_n 0, 1) := by decide +kernel
theorem dX11_giveBack_45 : decode cX11_giveBack 45 = .ok (.iload_n 1, 1) := by decide +kernel
theorem dX11_giveBack_46 : decode cX11_giveBack 46 = .ok (.invokevirtual 56, 3) := by decide +kernel
theorem dX11_giveBack_49 : decode cX11_giveBack 49 = .ok (.iload_n 2, 1) := by decide +kernel
theorem dX11_giveBack_50 : decode cX11_giveBack 50 = .ok (.ireturn, 1) := by decide +kernel
theorem dX11_placeOfId_0 : decode cX11_placeOfId 0 = .ok (.iconst 0, 1) := by decide +kernel
theorem dX11_placeOfId_1 : decode cX11_placeOfId 1 = .ok (.istore_n 2, 1) := by decide +kernel
theorem dX11_placeOfId_2 : decode cX11_placeOfId 2 = .ok (.iload_n 2, 1) := by decide +kernel
theorem dX11_placeOfId_3 : decode cX11_placeOfId 3 = .ok (.aload_n 0, 1) := by decide +kernel
theorem dX11_placeOfId_4 : decode cX11_placeOfId 4 = .ok (.getfield 17, 3) := by decide +kernel
theorem dX11_placeOfId_7 : decode cX11_placeOfId 7 = .ok (.if_icmp .ge 24, 3) := by decide +kernel
theorem dX11_placeOfId_10 : decode cX11_placeOfId 10 = .ok (.aload_n 0, 1) := by decide +kernel
theorem dX11_placeOfId_11 : decode cX11_placeOfId 11 = .ok (.getfield 11, 3) := by decide +kernel
theorem dX11_placeOfId_14 : decode cX11_placeOfId 14 = .ok (.iload_n 2, 1) := by decide +kernel
theorem dX11_placeOfId_15 : decode cX11_placeOfId 15 = .ok (.aaload, 1) := by decide +kernel
theorem dX11_placeOfId_16 : decode cX11_placeOfId 16 = .ok (.getfield 38, 3) := by decide +kernel
theorem dX11_placeOfId_19 : decode cX11_placeOfId 19 = .ok (.iload_n 1, 1) := by decide +kernel
theorem dX11_placeOfId_20 : decode cX11_placeOfId 20 = .ok (.if_icmp .ne 5, 3) := by decide +kernel
theorem dX11_placeOfId_23 : decode cX11_placeOfId 23 = .ok (.iload_n 2, 1) := by decide +kernel
theorem dX11_placeOfId_24 : decode cX11_placeOfId 24 = .ok (.ireturn, 1) := by decide +kernel
theorem dX11_placeOfId_25 : decode cX11_placeOfId 25 = .ok (.iinc 2 1, 3) := by decide +kernel
theorem dX11_placeOfId_28 : decode cX11_placeOfId 28 = .ok (.goto (-26), 3) := by decide +kernel
theorem dX11_placeOfId_31 : decode cX11_placeOfId 31 = .ok (.iconst (-1), 1) := by decide +kernel
theorem dX11_placeOfId_32 : decode cX11_placeOfId 32 = .ok (.ireturn, 1) := by decide +kernel
theorem dX11_countOfLine_0 : decode cX11_countOfLine 0 = .ok (.iconst 0, 1) := by decide +kernel
theorem dX11_countOfLine_1 : decode cX11_countOfLine 1 = .ok (.istore_n 2, 1) := by decide +kernel
theorem dX11_countOfLine_2 : decode cX11_countOfLine 2 = .ok (.iconst 0, 1) := by decide +kernel
theorem dX11_countOfLine_3 : decode cX11_countOfLine 3 = .ok (.istore_n 3, 1) := by decide +kernel
theorem dX11_countOfLine_4 : decode cX11_countOfLine 4 = .ok (.iload_n 3, 1) := by decide +kernel
theorem dX11_countOfLine_5 : decode cX11_countOfLine 5 = .ok (.aload_n 0, 1) := by decide +kernel
theorem dX11_countOfLine_6 : decode cX11_countOfLine 6 = .ok (.getfield 17, 3) := by decide +kernel
theorem dX11_countOfLine_9 : decode cX11_countOfLine 9 = .ok (.if_icmp .ge 25, 3) := by decide +kernel
theorem dX11_countOfLine_12 : decode cX11_countOfLine 12 = .ok (.aload_n 0, 1) := by decide +kernel
theorem dX11_countOfLine_13 : decode cX11_countOfLine 13 = .ok (.getfield 11, 3) := by decide +kernel
theorem dX11_countOfLine_16 : decode cX11_countOfLine 16 = .ok (.iload_n 3, 1) := by decide +kernel
theorem dX11_countOfLine_17 : decode cX11_countOfLine 17 = .ok (.aaload, 1) := by decide +kernel
theorem dX11_countOfLine_18 : decode cX11_countOfLine 18 = .ok (.getfield 41, 3) := by decide +kernel
theorem dX11_countOfLine_21 : decode cX11_countOfLine 21 = .ok (.iload_n 1, 1) := by decide +kernel
theorem dX11_countOfLine_22 : decode cX11_countOfLine 22 = .ok (.if_icmp .ne 6, 3) := by decide +kernel
theorem dX11_countOfLine_25 : decode cX11_countOfLine 25 = .ok (.iinc 2 1, 3) := by decide +kernel
theorem dX11_countOfLine_28 : decode cX11_countOfLine 28 = .ok (.iinc 3 1, 3) := by decide +kernel
theorem dX11_countOfLine_31 : decode cX11_countOfLine 31 = .ok (.goto (-27), 3) := by decide +kernel
theorem dX11_countOfLine_34 : decode cX11_countOfLine 34 = .ok (.iload_n 2, 1) := by decide +kernel
theorem dX11_countOfLine_35 : decode cX11_countOfLine 35 = .ok (.ireturn, 1) := by decide +kernel
theorem dX11_countOnHop_0 : decode cX11_countOnHop 0 = .ok (.iconst 0, 1) := by decide +kernel
theorem dX11_countOnHop_1 : decode cX11_countOnHop 1 = .ok (.istore 4, 2) := by decide +kernel
theorem dX11_countOnHop_3 : decode cX11_countOnHop 3 = .ok (.iconst 0, 1) := by decide +kernel
theorem dX11_countOnHop_4 : decode cX11_countOnHop 4 = .ok (.istore 5, 2) := by decide +kernel
theorem dX11_countOnHop_6 : decode cX11_countOnHop 6 = .ok (.iload 5, 2) := by decide +kernel
theorem dX11_countOnHop_8 : decode cX11_countOnHop 8 = .ok (.aload_n 0, 1) := by decide +kernel
theorem dX11_countOnHop_9 : decode cX11_countOnHop 9 = .ok (.getfield 17, 3) := by decide +kernel
theorem dX11_countOnHop_12 : decode cX11_countOnHop 12 = .ok (.if_icmp .ge 49, 3) := by decide +kernel
theorem dX11_countOnHop_15 : decode cX11_countOnHop 15 = .ok (.aload_n 0, 1) := by decide +kernel
theorem dX11_countOnHop_16 : decode cX11_countOnHop 16 = .ok (.getfield 11, 3) := by decide +kernel
theorem dX11_countOnHop_19 : decode cX11_countOnHop 19 = .ok (.iload 5, 2) := by decide +kernel
theorem dX11_countOnHop_21 : decode cX11_countOnHop 21 = .ok (.aaload, 1) := by decide +kernel
theorem dX11_countOnHop_22 : decode cX11_countOnHop 22 = .ok (.astore 6, 2) := by decide +kernel
theorem dX11_countOnHop_24 : decode cX11_countOnHop 24 = .ok (.aload 6, 2) := by decide +kernel
theorem dX11_countOnHop_26 : decode cX11_countOnHop 26 = .ok (.iload_n 1, 1) := by decide +kernel
theorem dX11_countOnHop_27 : decode cX11_countOnHop 27 = .ok (.iload_n 2, 1) := by decide +kernel
theorem dX11_countOnHop_28 : decode cX11_countOnHop 28 = .ok (.invokevirtual 60, 3) := by decide +kernel
theorem dX11_countOnHop_31 : decode cX11_countOnHop 31 = .ok (.ifCond .eq 24, 3) := by decide +kernel
theorem dX11_countOnHop_34 : decode cX11_countOnHop 34 = .ok (.aload 6, 2) := by decide +kernel
theorem dX11_countOnHop_36 : decode cX11_countOnHop 36 = .ok (.getfield 47, 3) := by decide +kernel
theorem dX11_countOnHop_39 : decode cX11_countOnHop 39 = .ok (.iload_n 3, 1) := by decide +kernel
theorem dX11_countOnHop_40 : decode cX11_countOnHop 40 = .ok (.if_icmp .gt 15, 3) := by decide +kernel
theorem dX11_countOnHop_43 : decode cX11_countOnHop 43 = .ok (.iload_n 3, 1) := by decide +kernel
theorem dX11_countOnHop_44 : decode cX11_countOnHop 44 = .ok (.aload 6, 2) := by decide +kernel
theorem dX11_countOnHop_46 : decode cX11_countOnHop 46 = .ok (.getfield 50, 3) := by decide +kernel
theorem dX11_countOnHop_49 : decode cX11_countOnHop 49 = .ok (.if_icmp .ge 6, 3) := by decide +kernel
theorem dX11_countOnHop_52 : decode cX11_countOnHop 52 = .ok (.iinc 4 1, 3) := by decide +kernel
theorem dX11_countOnHop_55 : decode cX11_countOnHop 55 = .ok (.iinc 5 1, 3) := by decide +kernel
theorem dX11_countOnHop_58 : decode cX11_countOnHop 58 = .ok (.goto (-52), 3) := by decide +kernel
theorem dX11_countOnHop_61 : decode cX11_countOnHop 61 = .ok (.iload 4, 2) := by decide +kernel
theorem dX11_countOnHop_63 : decode cX11_countOnHop 63 = .ok (.ireturn, 1) := by decide +kernel
theorem dX11_changeAt_0 : decode cX11_changeAt 0 = .ok (.iconst 0, 1) := by decide +kernel
theorem dX11_changeAt_1 : decode cX11_changeAt 1 = .ok (.istore 4, 2) := by decide +kernel
theorem dX11_changeAt_3 : decode cX11_changeAt 3 = .ok (.iconst 0, 1) := by decide +kernel
theorem dX11_changeAt_4 : decode cX11_changeAt 4 = .ok (.istore 5, 2) := by decide +kernel
theorem dX11_changeAt_6 : decode cX11_changeAt 6 = .ok (.iload 5, 2) := by decide +kernel
theorem dX11_changeAt_8 : decode cX11_changeAt 8 = .ok (.aload_n 0, 1) := by decide +kernel
theorem dX11_changeAt_9 : decode cX11_changeAt 9 = .ok (.getfield 17, 3) := by decide +kernel
theorem dX11_changeAt_12 : decode cX11_changeAt 12 = .ok (.if_icmp .ge 62, 3) := by decide +kernel
theorem dX11_changeAt_15 : decode cX11_changeAt 15 = .ok (.aload_n 0, 1) := by decide +kernel
theorem dX11_changeAt_16 : decode cX11_changeAt 16 = .ok (.getfield 11, 3) := by decide +kernel
theorem dX11_changeAt_19 : decode cX11_changeAt 19 = .ok (.iload 5, 2) := by decide +kernel
theorem dX11_changeAt_21 : decode cX11_changeAt 21 = .ok (.aaload, 1) := by decide +kernel
theorem dX11_changeAt_22 : decode cX11_changeAt 22 = .ok (.astore 6, 2) := by decide +kernel
theorem dX11_changeAt_24 : decode cX11_changeAt 24 = .ok (.aload 6, 2) := by decide +kernel
theorem dX11_changeAt_26 : decode cX11_changeAt 26 = .ok (.iload_n 1, 1) := by decide +kernel
theorem dX11_changeAt_27 : decode cX11_changeAt 27 = .ok (.iload_n 2, 1) := by decide +kernel
theorem dX11_changeAt_28 : decode cX11_changeAt 28 = .ok (.invokevirtual 60, 3) := by decide +kernel
theorem dX11_changeAt_31 : decode cX11_changeAt 31 = .ok (.ifCond .eq 15, 3) := by decide +kernel
theorem dX11_changeAt_34 : decode cX11_changeAt 34 = .ok (.aload 6, 2) := by decide +kernel
theorem dX11_changeAt_36 : decode cX11_changeAt 36 = .ok (.getfield 47, 3) := by decide +kernel
theorem dX11_changeAt_39 : decode cX11_changeAt 39 = .ok (.iload_n 3, 1) := by decide +kernel
theorem dX11_changeAt_40 : decode cX11_changeAt 40 = .ok (.if_icmp .ne 6, 3) := by decide +kernel
theorem dX11_changeAt_43 : decode cX11_changeAt 43 = .ok (.iinc 4 1, 3) := by decide +kernel
theorem dX11_changeAt_46 : decode cX11_changeAt 46 = .ok (.aload 6, 2) := by decide +kernel
theorem dX11_changeAt_48 : decode cX11_changeAt 48 = .ok (.iload_n 1, 1) := by decide +kernel
theorem dX11_changeAt_49 : decode cX11_changeAt 49 = .ok (.iload_n 2, 1) := by decide +kernel
theorem dX11_changeAt_50 : decode cX11_changeAt 50 = .ok (.invokevirtual 60, 3) := by decide +kernel
theorem dX11_changeAt_53 : decode cX11_changeAt 53 = .ok (.ifCond .eq 15, 3) := by decide +kernel
theorem dX11_changeAt_56 : decode cX11_changeAt 56 = .ok (.aload 6, 2) := by decide +kernel
theorem dX11_changeAt_58 : decode cX11_changeAt 58 = .ok (.getfield 50, 3) := by decide +kernel
theorem dX11_changeAt_61 : decode cX11_changeAt 61 = .ok (.iload_n 3, 1) := by decide +kernel
theorem dX11_changeAt_62 : decode cX11_changeAt 62 = .ok (.if_icmp .ne 6, 3) := by decide +kernel
theorem dX11_changeAt_65 : decode cX11_changeAt 65 = .ok (.iinc 4 (-1), 3) := by decide +kernel
theorem dX11_changeAt_68 : decode cX11_changeAt 68 = .ok (.iinc 5 1, 3) := by decide +kernel
theorem dX11_changeAt_71 : decode cX11_changeAt 71 = .ok (.goto (-65), 3) := by decide +kernel
theorem dX11_changeAt_74 : decode cX11_changeAt 74 = .ok (.iload 4, 2) := by decide +kernel
theorem dX11_changeAt_76 : decode cX11_changeAt 76 = .ok (.ireturn, 1) := by decide +kernel
theorem dX11_priceSum_0 : decode cX11_priceSum 0 = .ok (.iconst 0, 1) := by decide +kernel
theorem dX11_priceSum_1 : decode cX11_priceSum 1 = .ok (.istore_n 1, 1) := by decide +kernel
theorem dX11_priceSum_2 : decode cX11_priceSum 2 = .ok (.iconst 0, 1) := by decide +kernel
theorem dX11_priceSum_3 : decode cX11_priceSum 3 = .ok (.istore_n 2, 1) := by decide +kernel
theorem dX11_priceSum_4 : decode cX11_priceSum 4 = .ok (.iload_n 2, 1) := by decide +kernel
theorem dX11_priceSum_5 : decode cX11_priceSum 5 = .ok (.aload_n 0, 1) := by decide +kernel
theorem dX11_priceSum_6 : decode cX11_priceSum 6 = .ok (.getfield 17, 3) := by decide +kernel
theorem dX11_priceSum_9 : decode cX11_priceSum 9 = .ok (.if_icmp .ge 21, 3) := by decide +kernel
theorem dX11_priceSum_12 : decode cX11_priceSum 12 = .ok (.iload_n 1, 1) := by decide +kernel
theorem dX11_priceSum_13 : decode cX11_priceSum 13 = .ok (.aload_n 0, 1) := by decide +kernel
theorem dX11_priceSum_14 : decode cX11_priceSum 14 = .ok (.getfield 11, 3) := by decide +kernel
theorem dX11_priceSum_17 : decode cX11_priceSum 17 = .ok (.iload_n 2, 1) := by decide +kernel
theorem dX11_priceSum_18 : decode cX11_priceSum 18 = .ok (.aaload, 1) := by decide +kernel
theorem dX11_priceSum_19 : decode cX11_priceSum 19 = .ok (.getfield 53, 3) := by decide +kernel
theorem dX11_priceSum_22 : decode cX11_priceSum 22 = .ok (.iadd, 1) := by decide +kernel
theorem dX11_priceSum_23 : decode cX11_priceSum 23 = .ok (.istore_n 1, 1) := by decide +kernel
theorem dX11_priceSum_24 : decode cX11_priceSum 24 = .ok (.iinc 2 1, 3) := by decide +kernel
theorem dX11_priceSum_27 : decode cX11_priceSum 27 = .ok (.goto (-23), 3) := by decide +kernel
theorem dX11_priceSum_30 : decode cX11_priceSum 30 = .ok (.iload_n 1, 1) := by decide +kernel
theorem dX11_priceSum_31 : decode cX11_priceSum 31 = .ok (.ireturn, 1) := by decide +kernel
theorem dX12_init_0 : decode cX12_init 0 = .ok (.aload_n 0, 1) := by decide +kernel
theorem dX12_init_1 : decode cX12_init 1 = .ok (.invokespecial 1, 3) := by decide +kernel
theorem dX12_init_4 : decode cX12_init 4 = .ok (.aload_n 0, 1) := by decide +kernel
theorem dX12_init_5 : decode cX12_init 5 = .ok (.new 7, 3) := by decide +kernel
theorem dX12_init_8 : decode cX12_init 8 = .ok (.dup, 1) := by decide +kernel
theorem dX12_init_9 : decode cX12_init 9 = .ok (.invokespecial 9, 3) := by decide +kernel
theorem dX12_init_12 : decode cX12_init 12 = .ok (.putfield 10, 3) := by decide +kernel
theorem dX12_init_15 : decode cX12_init 15 = .ok (.aload_n 0, 1) := by decide +kernel
theorem dX12_init_16 : decode cX12_init 16 = .ok (.new 7, 3) := by decide +kernel
theorem dX12_init_19 : decode cX12_init 19 = .ok (.dup, 1) := by decide +kernel
theorem dX12_init_20 : decode cX12_init 20 = .ok (.invokespecial 9, 3) := by decide +kernel
theorem dX12_init_23 : decode cX12_init 23 = .ok (.putfield 16, 3) := by decide +kernel
theorem dX12_init_26 : decode cX12_init 26 = .ok (.aload_n 0, 1) := by decide +kernel
theorem dX12_init_27 : decode cX12_init 27 = .ok (.new 7, 3) := by decide +kernel
theorem dX12_init_30 : decode cX12_init 30 = .ok (.dup, 1) := by decide +kernel
theorem dX12_init_31 : decode cX12_init 31 = .ok (.invokespecial 9, 3) := by decide +kernel
theorem dX12_init_34 : decode cX12_init 34 = .ok (.putfield 19, 3) := by decide +kernel
theorem dX12_init_37 : decode cX12_init 37 = .ok (.aload_n 0, 1) := by decide +kernel
theorem dX12_init_38 : decode cX12_init 38 = .ok (.iconst 0, 1) := by decide +kernel
theorem dX12_init_39 : decode cX12_init 39 = .ok (.putfield 22, 3) := by decide +kernel
theorem dX12_init_42 : decode cX12_init 42 = .ok (.aload_n 0, 1) := by decide +kernel
theorem dX12_init_43 : decode cX12_init 43 = .ok (.new 26, 3) := by decide +kernel
theorem dX12_init_46 : decode cX12_init 46 = .ok (.dup, 1) := by decide +kernel
theorem dX12_init_47 : decode cX12_init 47 = .ok (.invokespecial 28, 3) := by decide +kernel
theorem dX12_init_50 : decode cX12_init 50 = .ok (.putfield 29, 3) := by decide +kernel
theorem dX12_init_53 : decode cX12_init 53 = .ok (.aload_n 0, 1) := by decide +kernel
theorem dX12_init_54 : decode cX12_init 54 = .ok (.new 33, 3) := by decide +kernel
theorem dX12_init_57 : decode cX12_init 57 = .ok (.dup, 1) := by decide +kernel
theorem dX12_init_58 : decode cX12_init 58 = .ok (.invokespecial 35, 3) := by decide +kernel
theorem dX12_init_61 : decode cX12_init 61 = .ok (.putfield 36, 3) := by decide +kernel
theorem dX12_init_64 : decode cX12_init 64 = .ok (.aload_n 0, 1) := by decide +kernel
theorem dX12_init_65 : decode cX12_init 65 = .ok (.new 33, 3) := by decide +kernel
theorem dX12_init_68 : decode cX12_init 68 = .ok (.dup, 1) := by decide +kernel
theorem dX12_init_69 : decode cX12_init 69 = .ok (.invokespecial 35, 3) := by decide +kernel
theorem dX12_init_72 : decode cX12_init 72 = .ok (.putfield 40, 3) := by decide +kernel
theorem dX12_init_75 : decode cX12_init 75 = .ok (.aload_n 0, 1) := by decide +kernel
theorem dX12_init_76 : decode cX12_init 76 = .ok (.new 43, 3) := by decide +kernel
theorem dX12_init_79 : decode cX12_init 79 = .ok (.dup, 1) := by decide +kernel
theorem dX12_init_80 : decode cX12_init 80 = .ok (.invokespecial 45, 3) := by decide +kernel
theorem dX12_init_83 : decode cX12_init 83 = .ok (.putfield 46, 3) := by decide +kernel
theorem dX12_init_86 : decode cX12_init 86 = .ok (.aload_n 0, 1) := by decide +kernel
theorem dX12_init_87 : decode cX12_init 87 = .ok (.new 50, 3) := by decide +kernel
theorem dX12_init_90 : decode cX12_init 90 = .ok (.dup, 1) := by decide +kernel
theorem dX12_init_91 : decode cX12_init 91 = .ok (.invokespecial 52, 3) := by decide +kernel
theorem dX12_init_94 : decode cX12_init 94 = .ok (.putfield 53, 3) := by decide +kernel
theorem dX12_init_97 : decode cX12_init 97 = .ok (.aload_n 0, 1) := by decide +kernel
theorem dX12_init_98 : decode cX12_init 98 = .ok (.new 57, 3) := by decide +kernel
theorem dX12_init_101 : decode cX12_init 101 = .ok (.dup, 1) := by decide +kernel
theorem dX12_init_102 : decode cX12_init 102 = .ok (.invokespecial 59, 3) := by decide +kernel
theorem dX12_init_105 : decode cX12_init 105 = .ok (.putfield 60, 3) := by decide +kernel
theorem dX12_init_108 : decode cX12_init 108 = .ok (.aload_n 0, 1) := by decide +kernel
theorem dX12_init_109 : decode cX12_init 109 = .ok (.iconst (-1), 1) := by decide +kernel
theorem dX12_init_110 : decode cX12_init 110 = .ok (.putfield 64, 3) := by decide +kernel
theorem dX12_init_113 : decode cX12_init 113 = .ok (.aload_n 0, 1) := by decide +kernel
theorem dX12_init_114 : decode cX12_init 114 = .ok (.iconst (-1), 1) := by decide +kernel
theorem dX12_init_115 : decode cX12_init 115 = .ok (.putfield 68, 3) := by decide +kernel
theorem dX12_init_118 : decode cX12_init 118 = .ok (.aload_n 0, 1) := by decide +kernel
theorem dX12_init_119 : decode cX12_init 119 = .ok (.new 71, 3) := by decide +kernel
theorem dX12_init_122 : decode cX12_init 122 = .ok (.dup, 1) := by decide +kernel
theorem dX12_init_123 : decode cX12_init 123 = .ok (.invokespecial 73, 3) := by decide +kernel
theorem dX12_init_126 : decode cX12_init 126 = .ok (.putfield 74, 3) := by decide +kernel
theorem dX12_init_129 : decode cX12_init 129 = .ok (.return_, 1) := by decide +kernel
theorem dX12_addStop_0 : decode cX12_addStop 0 = .ok (.aload_n 0, 1) := by decide +kernel
theorem dX12_addStop_1 : decode cX12_addStop 1 = .ok (.getfield 10, 3) := by decide +kernel
theorem dX12_addStop_4 : decode cX12_addStop 4 = .ok (.iload_n 1, 1) := by decide +kernel
theorem dX12_addStop_5 : decode cX12_addStop 5 = .ok (.invokevirtual 78, 3) := by decide +kernel
theorem dX12_addStop_8 : decode cX12_addStop 8 = .ok (.invokestatic 82, 3) := by decide +kernel
theorem dX12_addStop_11 : decode cX12_addStop 11 = .ok (.aload_n 0, 1) := by decide +kernel
theorem dX12_addStop_12 : decode cX12_addStop 12 = .ok (.getfield 29, 3) := by decide +kernel
theorem dX12_addStop_15 : decode cX12_addStop 15 = .ok (.aload_n 0, 1) := by decide +kernel
theorem dX12_addStop_16 : decode cX12_addStop 16 = .ok (.getfield 10, 3) := by decide +kernel
theorem dX12_addStop_19 : decode cX12_addStop 19 = .ok (.invokevirtual 86, 3) := by decide +kernel
theorem dX12_addStop_22 : decode cX12_addStop 22 = .ok (.aload_n 0, 1) := by decide +kernel
theorem dX12_addStop_23 : decode cX12_addStop 23 = .ok (.getfield 10, 3) := by decide +kernel
theorem dX12_addStop_26 : decode cX12_addStop 26 = .ok (.iload_n 1, 1) := by decide +kernel
theorem dX12_addStop_27 : decode cX12_addStop 27 = .ok (.invokevirtual 90, 3) := by decide +kernel
theorem dX12_addStop_30 : decode cX12_addStop 30 = .ok (.ireturn, 1) := by decide +kernel
theorem dX12_addWalk_0 : decode cX12_addWalk 0 = .ok (.aload_n 0, 1) := by decide +kernel
theorem dX12_addWalk_1 : decode cX12_addWalk 1 = .ok (.getfield 10, 3) := by decide +kernel
theorem dX12_addWalk_4 : decode cX12_addWalk 4 = .ok (.iload_n 1, 1) := by decide +kernel
theorem dX12_addWalk_5 : decode cX12_addWalk 5 = .ok (.iload_n 2, 1) := by decide +kernel
theorem dX12_addWalk_6 : decode cX12_addWalk 6 = .ok (.iload_n 3, 1) := by decide +kernel
theorem dX12_addWalk_7 : decode cX12_addWalk 7 = .ok (.invokevirtual 94, 3) := by decide +kernel
theorem dX12_addWalk_10 : decode cX12_addWalk 10 = .ok (.invokestatic 82, 3) := by decide +kernel
theorem dX12_addWalk_13 : decode cX12_addWalk 13 = .ok (.aload_n 0, 1) := by decide +kernel
theorem dX12_addWalk_14 : decode cX12_addWalk 14 = .ok (.getfield 29, 3) := by decide +kernel
theorem dX12_addWalk_17 : decode cX12_addWalk 17 = .ok (.aload_n 0, 1) := by decide +kernel
theorem dX12_addWalk_18 : decode cX12_addWalk 18 = .ok (.getfield 10, 3) := by decide +kernel
theorem dX12_addWalk_21 : decode cX12_addWalk 21 = .ok (.invokevirtual 86, 3) := by decide +kernel
theorem dX12_addWalk_24 : decode cX12_addWalk 24 = .ok (.aload_n 0, 1) := by decide +kernel
theorem dX12_addWalk_25 : decode cX12_addWalk 25 = .ok (.getfield 10, 3) := by decide +kernel
theorem dX12_addWalk_28 : decode cX12_addWalk 28 = .ok (.iload_n 1, 1) := by decide +kernel
theorem dX12_addWalk_29 : decode cX12_addWalk 29 = .ok (.iload_n 2, 1) := by decide +kernel
theorem dX12_addWalk_30 : decode cX12_addWalk 30 = .ok (.iload_n 3, 1) := by decide +kernel
theorem dX12_addWalk_31 : decode cX12_addWalk 31 = .ok (.invokevirtual 98, 3) := by decide +kernel
theorem dX12_addWalk_34 : decode cX12_addWalk 34 = .ok (.ireturn, 1) := by decide +kernel
theorem dX12_removeWalk_0 : decode cX12_removeWalk 0 = .ok (.aload_n 0, 1) := by decide +kernel
theorem dX12_removeWalk_1 : decode cX12_removeWalk 1 = .ok (.getfield 10, 3) := by decide +kernel
theorem dX12_removeWalk_4 : decode cX12_removeWalk 4 = .ok (.iload_n 1, 1) := by decide +kernel
theorem dX12_removeWalk_5 : decode cX12_removeWalk 5 = .ok (.iload_n 2, 1) := by decide +kernel
theorem dX12_removeWalk_6 : decode cX12_removeWalk 6 = .ok (.invokevirtual 102, 3) := by decide +kernel
theorem dX12_removeWalk_9 : decode cX12_removeWalk 9 = .ok (.invokestatic 82, 3) := by decide +kernel
theorem dX12_removeWalk_12 : decode cX12_removeWalk 12 = .ok (.aload_n 0, 1) := by decide +kernel
theorem dX12_removeWalk_13 : decode cX12_removeWalk 13 = .ok (.getfield 29, 3) := by decide +kernel
theorem dX12_removeWalk_16 : decode cX12_removeWalk 16 = .ok (.aload_n 0, 1) := by decide +kernel
theorem dX12_removeWalk_17 : decode cX12_removeWalk 17 = .ok (.getfield 10, 3) := by decide +kernel
theorem dX12_removeWalk_20 : decode cX12_removeWalk 20 = .ok (.invokevirtual 86, 3) := by decide +kernel
theorem dX12_removeWalk_23 : decode cX12_removeWalk 23 = .ok (.aload_n 0, 1) := by decide +kernel
theorem dX12_removeWalk_24 : decode cX12_removeWalk 24 = .ok (.getfield 10, 3) := by decide +kernel
theorem dX12_removeWalk_27 : decode cX12_removeWalk 27 = .ok (.iload_n 1, 1) := by decide +kernel
theorem dX12_removeWalk_28 : decode cX12_removeWalk 28 = .ok (.iload_n 2, 1) := by decide +kernel
theorem dX12_removeWalk_29 : decode cX12_removeWalk 29 = .ok (.invokevirtual 106, 3) := by decide +kernel
theorem dX12_removeWalk_32 : decode cX12_removeWalk 32 = .ok (.ireturn, 1) := by decide +kernel
theorem dX12_addLine_0 : decode cX12_addLine 0 = .ok (.aload_n 0, 1) := by decide +kernel
theorem dX12_addLine_1 : decode cX12_addLine 1 = .ok (.getfield 10, 3) := by decide +kernel
theorem dX12_addLine_4 : decode cX12_addLine 4 = .ok (.iload_n 1, 1) := by decide +kernel
theorem dX12_addLine_5 : decode cX12_addLine 5 = .ok (.iload_n 2, 1) := by decide +kernel
theorem dX12_addLine_6 : decode cX12_addLine 6 = .ok (.iload_n 3, 1) := by decide +kernel
theorem dX12_addLine_7 : decode cX12_addLine 7 = .ok (.iload 4, 2) := by decide +kernel
theorem dX12_addLine_9 : decode cX12_addLine 9 = .ok (.invokevirtual 110, 3) := by decide +kernel
theorem dX12_addLine_12 : decode cX12_addLine 12 = .ok (.invokestatic 82, 3) := by decide +kernel
theorem dX12_addLine_15 : decode cX12_addLine 15 = .ok (.aload_n 0, 1) := by decide +kernel
theorem dX12_addLine_16 : decode cX12_addLine 16 = .ok (.getfield 29, 3) := by decide +kernel
theorem dX12_addLine_19 : decode cX12_addLine 19 = .ok (.aload_n 0, 1) := by decide +kernel
theorem dX12_addLine_20 : decode cX12_addLine 20 = .ok (.getfield 10, 3) := by decide +kernel
theorem dX12_addLine_23 : decode cX12_addLine 23 = .ok (.invokevirtual 86, 3) := by decide +kernel
theorem dX12_addLine_26 : decode cX12_addLine 26 = .ok (.aload_n 0, 1) := by decide +kernel
theorem dX12_addLine_27 : decode cX12_addLine 27 = .ok (.getfield 10, 3) := by decide +kernel
theorem dX12_addLine_30 : decode cX12_addLine 30 = .ok (.iload_n 1, 1) := by decide +kernel
theorem dX12_addLine_31 : decode cX12_addLine 31 = .ok (.iload_n 2, 1) := by decide +kernel
theorem dX12_addLine_32 : decode cX12_addLine 32 = .ok (.iload_n 3, 1) := by decide +kernel
theorem dX12_addLine_33 : decode cX12_addLine 33 = .ok (.iload 4, 2) := by decide +kernel
theorem dX12_addLine_35 : decode cX12_addLine 35 = .ok (.invokevirtual 114, 3) := by decide +kernel
theorem dX12_addLine_38 : decode cX12_addLine 38 = .ok (.ireturn, 1) := by decide +kernel
theorem dX12_extendLine_0 : decode cX12_extendLine 0 = .ok (.aload_n 0, 1) := by decide +kernel
theorem dX12_extendLine_1 : decode cX12_extendLine 1 = .ok (.getfield 10, 3) := by decide +kernel
theorem dX12_extendLine_4 : decode cX12_extendLine 4 = .ok (.iload_n 1, 1) := by decide +kernel
theorem dX12_extendLine_5 : decode cX12_extendLine 5 = .ok (.iload_n 2, 1) := by decide +kernel
theorem dX12_extendLine_6 : decode cX12_extendLine 6 = .ok (.invokevirtual 118, 3) := by decide +kernel
theorem dX12_extendLine_9 : decode cX12_extendLine 9 = .ok (.invokestatic 82, 3) := by decide +kernel
theorem dX12_extendLine_12 : decode cX12_extendLine 12 = .ok (.aload_n 0, 1) := by decide +kernel
theorem dX12_extendLine_13 : decode cX12_extendLine 13 = .ok (.getfield 29, 3) := by decide +kernel
theorem dX12_extendLine_16 : decode cX12_extendLine 16 = .ok (.aload_n 0, 1) := by decide +kernel
theorem dX12_extendLine_17 : decode cX12_extendLine 17 = .ok (.getfield 10, 3) := by decide +kernel
theorem dX12_extendLine_20 : decode cX12_extendLine 20 = .ok (.invokevirtual 86, 3) := by decide +kernel
theorem dX12_extendLine_23 : decode cX12_extendLine 23 = .ok (.aload_n 0, 1) := by decide +kernel
theorem dX12_extendLine_24 : decode cX12_extendLine 24 = .ok (.getfield 10, 3) := by decide +kernel
theorem dX12_extendLine_27 : decode cX12_extendLine 27 = .ok (.getfield 121, 3) := by decide +kernel
theorem dX12_extendLine_30 : decode cX12_extendLine 30 = .ok (.iload_n 1, 1) := by decide +kernel
theorem dX12_extendLine_31 : decode cX12_extendLine 31 = .ok (.aaload, 1) := by decide +kernel
theorem dX12_extendLine_32 : decode cX12_extendLine 32 = .ok (.iload_n 2, 1) := by decide +kernel
theorem dX12_extendLine_33 : decode cX12_extendLine 33 = .ok (.invokevirtual 125, 3) := by decide +kernel
theorem dX12_extendLine_36 : decode cX12_extendLine 36 = .ok (.ireturn, 1) := by decide +kernel
theorem dX12_shortenLine_0 : decode cX12_shortenLine 0 = .ok (.aload_n 0, 1) := by decide +kernel
theorem dX12_shortenLine_1 : decode cX12_shortenLine 1 = .ok (.getfield 10, 3) := by decide +kernel
theorem dX12_shortenLine_4 : decode cX12_shortenLine 4 = .ok (.iload_n 1, 1) := by decide +kernel
theorem dX12_shortenLine_5 : decode cX12_shortenLine 5 = .ok (.invokevirtual 130, 3) := by decide +kernel
theorem dX12_shortenLine_8 : decode cX12_shortenLine 8 = .ok (.invokestatic 82, 3) := by decide +kernel
theorem dX12_shortenLine_11 : decode cX12_shortenLine 11 = .ok (.aload_n 0, 1) := by decide +kernel
theorem dX12_shortenLine_12 : decode cX12_shortenLine 12 = .ok (.getfield 29, 3) := by decide +kernel
theorem dX12_shortenLine_15 : decode cX12_shortenLine 15 = .ok (.aload_n 0, 1) := by decide +kernel
theorem dX12_shortenLine_16 : decode cX12_shortenLine 16 = .ok (.getfield 10, 3) := by decide +kernel
theorem dX12_shortenLine_19 : decode cX12_shortenLine 19 = .ok (.invokevirtual 86, 3) := by decide +kernel
theorem dX12_shortenLine_22 : decode cX12_shortenLine 22 = .ok (.aload_n 0, 1) := by decide +kernel
theorem dX12_shortenLine_23 : decode cX12_shortenLine 23 = .ok (.getfield 10, 3) := by decide +kernel
theorem dX12_shortenLine_26 : decode cX12_shortenLine 26 = .ok (.getfield 121, 3) := by decide +kernel
theorem dX12_shortenLine_29 : decode cX12_shortenLine 29 = .ok (.iload_n 1, 1) := by decide +kernel
theorem dX12_shortenLine_30 : decode cX12_shortenLine 30 = .ok (.aaload, 1) := by decide +kernel
theorem dX12_shortenLine_31 : decode cX12_shortenLine 31 = .ok (.invokevirtual 133, 3) := by decide +kernel
theorem dX12_shortenLine_34 : decode cX12_shortenLine 34 = .ok (.ireturn, 1) := by decide +kernel
theorem dX12_setRain_0 : decode cX12_setRain 0 = .ok (.aload_n 0, 1) := by decide +kernel
theorem dX12_setRain_1 : decode cX12_setRain 1 = .ok (.getfield 29, 3) := by decide +kernel
theorem dX12_setRain_4 : decode cX12_setRain 4 = .ok (.aload_n 0, 1) := by decide +kernel
theorem dX12_setRain_5 : decode cX12_setRain 5 = .ok (.getfield 10, 3) := by decide +kernel
theorem dX12_setRain_8 : decode cX12_setRain 8 = .ok (.invokevirtual 86, 3) := by decide +kernel
theorem dX12_setRain_11 : decode cX12_setRain 11 = .ok (.aload_n 0, 1) := by decide +kernel
theorem dX12_setRain_12 : decode cX12_setRain 12 = .ok (.getfield 10, 3) := by decide +kernel
theorem dX12_setRain_15 : decode cX12_setRain 15 = .ok (.getfield 137, 3) := by decide +kernel
theorem dX12_setRain_18 : decode cX12_setRain 18 = .ok (.istore_n 2, 1) := by decide +kernel
theorem dX12_setRain_19 : decode cX12_setRain 19 = .ok (.aload_n 0, 1) := by decide +kernel
theorem dX12_setRain_20 : decode cX12_setRain 20 = .ok (.getfield 10, 3) := by decide +kernel
theorem dX12_setRain_23 : decode cX12_setRain 23 = .ok (.iload_n 1, 1) := by decide +kernel
theorem dX12_setRain_24 : decode cX12_setRain 24 = .ok (.putfield 137, 3) := by decide +kernel
theorem dX12_setRain_27 : decode cX12_setRain 27 = .ok (.iload_n 2, 1) := by decide +kernel
theorem dX12_setRain_28 : decode cX12_setRain 28 = .ok (.ireturn, 1) := by decide +kernel
theorem dX12_setRainDelay_0 : decode cX12_setRainDelay 0 = .ok (.aload_n 0, 1) := by decide +kernel
theorem dX12_setRainDelay_1 : decode cX12_setRainDelay 1 = .ok (.getfield 10, 3) := by decide +kernel
theorem dX12_setRainDelay_4 : decode cX12_setRainDelay 4 = .ok (.iload_n 1, 1) := by decide +kernel
theorem dX12_setRainDelay_5 : decode cX12_setRainDelay 5 = .ok (.iload_n 2, 1) := by decide +kernel
theorem dX12_setRainDelay_6 : decode cX12_setRainDelay 6 = .ok (.invokevirtual 140, 3) := by decide +kernel
theorem dX12_setRainDelay_9 : decode cX12_setRainDelay 9 = .ok (.invokestatic 82, 3) := by decide +kernel
theorem dX12_setRainDelay_12 : decode cX12_setRainDelay 12 = .ok (.aload_n 0, 1) := by decide +kernel
theorem dX12_setRainDelay_13 : decode cX12_setRainDelay 13 = .ok (.getfield 29, 3) := by decide +kernel
theorem dX12_setRainDelay_16 : decode cX12_setRainDelay 16 = .ok (.aload_n 0, 1) := by decide +kernel
theorem dX12_setRainDelay_17 : decode cX12_setRainDelay 17 = .ok (.getfield 10, 3) := by decide +kernel
theorem dX12_setRainDelay_20 : decode cX12_setRainDelay 20 = .ok (.invokevirtual 86, 3) := by decide +kernel
theorem dX12_setRainDelay_23 : decode cX12_setRainDelay 23 = .ok (.aload_n 0, 1) := by decide +kernel
theorem dX12_setRainDelay_24 : decode cX12_setRainDelay 24 = .ok (.getfield 10, 3) := by decide +kernel
theorem dX12_setRainDelay_27 : decode cX12_setRainDelay 27 = .ok (.getfield 121, 3) := by decide +kernel
theorem dX12_setRainDelay_30 : decode cX12_setRainDelay 30 = .ok (.iload_n 1, 1) := by decide +kernel
theorem dX12_setRainDelay_31 : decode cX12_setRainDelay 31 = .ok (.aaload, 1) := by decide +kernel
theorem dX12_setRainDelay_32 : decode cX12_setRainDelay 32 = .ok (.getfield 143, 3) := by decide +kernel
theorem dX12_setRainDelay_35 : decode cX12_setRainDelay 35 = .ok (.istore_n 3, 1) := by decide +kernel
theorem dX12_setRainDelay_36 : decode cX12_setRainDelay 36 = .ok (.aload_n 0, 1) := by decide +kernel
theorem dX12_setRainDelay_37 : decode cX12_setRainDelay 37 = .ok (.getfield 10, 3) := by decide +kernel
theorem dX12_setRainDelay_40 : decode cX12_setRainDelay 40 = .ok (.getfield 121, 3) := by decide +kernel
theorem dX12_setRainDelay_43 : decode cX12_setRainDelay 43 = .ok (.iload_n 1, 1) := by decide +kernel
theorem dX12_setRainDelay_44 : decode cX12_setRainDelay 44 = .ok (.aaload, 1) := by decide +kernel
theorem dX12_setRainDelay_45 : decode cX12_setRainDelay 45 = .ok (.iload_n 2, 1) := by decide +kernel
theorem dX12_setRainDelay_46 : decode cX12_setRainDelay 46 = .ok (.putfield 143, 3) := by decide +kernel
theorem dX12_setRainDelay_49 : decode cX12_setRainDelay 49 = .ok (.iload_n 3, 1) := by decide +kernel
theorem dX12_setRainDelay_50 : decode cX12_setRainDelay 50 = .ok (.ireturn, 1) := by decide +kernel
theorem dX12_setClosed_0 : decode cX12_setClosed 0 = .ok (.aload_n 0, 1) := by decide +kernel
theorem dX12_setClosed_1 : decode cX12_setClosed 1 = .ok (.getfield 10, 3) := by decide +kernel
theorem dX12_setClosed_4 : decode cX12_setClosed 4 = .ok (.iload_n 1, 1) := by decide +kernel
theorem dX12_setClosed_5 : decode cX12_setClosed 5 = .ok (.invokevirtual 146, 3) := by decide +kernel
theorem dX12_setClosed_8 : decode cX12_setClosed 8 = .ok (.invokestatic 82, 3) := by decide +kernel
theorem dX12_setClosed_11 : decode cX12_setClosed 11 = .ok (.aload_n 0, 1) := by decide +kernel
theorem dX12_setClosed_12 : decode cX12_setClosed 12 = .ok (.getfield 29, 3) := by decide +kernel
theorem dX12_setClosed_15 : decode cX12_setClosed 15 = .ok (.aload_n 0, 1) := by decide +kernel
theorem dX12_setClosed_16 : decode cX12_setClosed 16 = .ok (.getfield 10, 3) := by decide +kernel
theorem dX12_setClosed_19 : decode cX12_setClosed 19 = .ok (.invokevirtual 86, 3) := by decide +kernel
theorem dX12_setClosed_22 : decode cX12_setClosed 22 = .ok (.aload_n 0, 1) := by decide +kernel
theorem dX12_setClosed_23 : decode cX12_setClosed 23 = .ok (.getfield 10, 3) := by decide +kernel
theorem dX12_setClosed_26 : decode cX12_setClosed 26 = .ok (.getfield 149, 3) := by decide +kernel
theorem dX12_setClosed_29 : decode cX12_setClosed 29 = .ok (.iload_n 1, 1) := by decide +kernel
theorem dX12_setClosed_30 : decode cX12_setClosed 30 = .ok (.baload, 1) := by decide +kernel
theorem dX12_setClosed_31 : decode cX12_setClosed 31 = .ok (.istore_n 3, 1) := by decide +kernel
theorem dX12_setClosed_32 : decode cX12_setClosed 32 = .ok (.aload_n 0, 1) := by decide +kernel
theorem dX12_setClosed_33 : decode cX12_setClosed 33 = .ok (.getfield 10, 3) := by decide +kernel
theorem dX12_setClosed_36 : decode cX12_setClosed 36 = .ok (.getfield 149, 3) := by decide +kernel
theorem dX12_setClosed_39 : decode cX12_setClosed 39 = .ok (.iload_n 1, 1) := by decide +kernel
theorem dX12_setClosed_40 : decode cX12_setClosed 40 = .ok (.iload_n 2, 1) := by decide +kernel
theorem dX12_setClosed_41 : decode cX12_setClosed 41 = .ok (.bastore, 1) := by decide +kernel
theorem dX12_setClosed_42 : decode cX12_setClosed 42 = .ok (.iload_n 3, 1) := by decide +kernel
theorem dX12_setClosed_43 : decode cX12_setClosed 43 = .ok (.ireturn, 1) := by decide +kernel
theorem dX12_setSuspended_0 : decode cX12_setSuspended 0 = .ok (.aload_n 0, 1) := by decide +kernel
theorem dX12_setSuspended_1 : decode cX12_setSuspended 1 = .ok (.getfield 10, 3) := by decide +kernel
theorem dX12_setSuspended_4 : decode cX12_setSuspended 4 = .ok (.iload_n 1, 1) := by decide +kernel
theorem dX12_setSuspended_5 : decode cX12_setSuspended 5 = .ok (.invokevirtual 153, 3) := by decide +kernel
theorem dX12_setSuspended_8 : decode cX12_setSuspended 8 = .ok (.invokestatic 82, 3) := by decide +kernel
theorem dX12_setSuspended_11 : decode cX12_setSuspended 11 = .ok (.aload_n 0, 1) := by decide +kernel
theorem dX12_setSuspended_12 : decode cX12_setSuspended 12 = .ok (.getfield 29, 3) := by decide +kernel
theorem dX12_setSuspended_15 : decode cX12_setSuspended 15 = .ok (.aload_n 0, 1) := by decide +kernel
theorem dX12_setSuspended_16 : decode cX12_setSuspended 16 = .ok (.getfield 10, 3) := by decide +kernel
theorem dX12_setSuspended_19 : decode cX12_setSuspended 19 = .ok (.invokevirtual 86, 3) := by decide +kernel
theorem dX12_setSuspended_22 : decode cX12_setSuspended 22 = .ok (.aload_n 0, 1) := by decide +kernel
theorem dX12_setSuspended_23 : decode cX12_setSuspended 23 = .ok (.getfield 10, 3) := by decide +kernel
theorem dX12_setSuspended_26 : decode cX12_setSuspended 26 = .ok (.getfield 121, 3) := by decide +kernel
theorem dX12_setSuspended_29 : decode cX12_setSuspended 29 = .ok (.iload_n 1, 1) := by decide +kernel
theorem dX12_setSuspended_30 : decode cX12_setSuspended 30 = .ok (.aaload, 1) := by decide +kernel
theorem dX12_setSuspended_31 : decode cX12_setSuspended 31 = .ok (.getfield 156, 3) := by decide +kernel
theorem dX12_setSuspended_34 : decode cX12_setSuspended 34 = .ok (.istore_n 3, 1) := by decide +kernel
theorem dX12_setSuspended_35 : decode cX12_setSuspended 35 = .ok (.aload_n 0, 1) := by decide +kernel
theorem dX12_setSuspended_36 : decode cX12_setSuspended 36 = .ok (.getfield 10, 3) := by decide +kernel
theorem dX12_setSuspended_39 : decode cX12_setSuspended 39 = .ok (.getfield 121, 3) := by decide +kernel
theorem dX12_setSuspended_42 : decode cX12_setSuspended 42 = .ok (.iload_n 1, 1) := by decide +kernel
theorem dX12_setSuspended_43 : decode cX12_setSuspended 43 = .ok (.aaload, 1) := by decide +kernel
theorem dX12_setSuspended_44 : decode cX12_setSuspended 44 = .ok (.iload_n 2, 1) := by decide +kernel
theorem dX12_setSuspended_45 : decode cX12_setSuspended 45 = .ok (.putfield 156, 3) := by decide +kernel
theorem dX12_setSuspended_48 : decode cX12_setSuspended 48 = .ok (.iload_n 3, 1) := by decide +kernel
theorem dX12_setSuspended_49 : decode cX12_setSuspended 49 = .ok (.ireturn, 1) := by decide +kernel
theorem dX12_sellTicket_0 : decode cX12_sellTicket 0 = .ok (.aload_n 0, 1) := by decide +kernel
theorem dX12_sellTicket_1 : decode cX12_sellTicket 1 = .ok (.getfield 10, 3) := by decide +kernel
theorem dX12_sellTicket_4 : decode cX12_sellTicket 4 = .ok (.iload_n 1, 1) := by decide +kernel
theorem dX12_sellTicket_5 : decode cX12_sellTicket 5 = .ok (.iload_n 2, 1) := by decide +kernel
theorem dX12_sellTicket_6 : decode cX12_sellTicket 6 = .ok (.iload_n 3, 1) := by decide +kernel
theorem dX12_sellTicket_7 : decode cX12_sellTicket 7 = .ok (.iload 4, 2) := by decide +kernel
theorem dX12_sellTicket_9 : decode cX12_sellTicket 9 = .ok (.invokevirtual 159, 3) := by decide +kernel
theorem dX12_sellTicket_12 : decode cX12_sellTicket 12 = .ok (.invokestatic 82, 3) := by decide +kernel
theorem dX12_sellTicket_15 : decode cX12_sellTicket 15 = .ok (.aload_n 0, 1) := by decide +kernel
theorem dX12_sellTicket_16 : decode cX12_sellTicket 16 = .ok (.getfield 29, 3) := by decide +kernel
theorem dX12_sellTicket_19 : decode cX12_sellTicket 19 = .ok (.aload_n 0, 1) := by decide +kernel
theorem dX12_sellTicket_20 : decode cX12_sellTicket 20 = .ok (.getfield 10, 3) := by decide +kernel
theorem dX12_sellTicket_23 : decode cX12_sellTicket 23 = .ok (.invokevirtual 86, 3) := by decide +kernel
theorem dX12_sellTicket_26 : decode cX12_sellTicket 26 = .ok (.aload_n 0, 1) := by decide +kernel
theorem dX12_sellTicket_27 : decode cX12_sellTicket 27 = .ok (.getfield 10, 3) := by decide +kernel
theorem dX12_sellTicket_30 : decode cX12_sellTicket 30 = .ok (.iload_n 1, 1) := by decide +kernel
theorem dX12_sellTicket_31 : decode cX12_sellTicket 31 = .ok (.iload_n 2, 1) := by decide +kernel
theorem dX12_sellTicket_32 : decode cX12_sellTicket 32 = .ok (.iload_n 3, 1) := by decide +kernel
theorem dX12_sellTicket_33 : decode cX12_sellTicket 33 = .ok (.iload 4, 2) := by decide +kernel
theorem dX12_sellTicket_35 : decode cX12_sellTicket 35 = .ok (.invokevirtual 162, 3) := by decide +kernel
theorem dX12_sellTicket_38 : decode cX12_sellTicket 38 = .ok (.ireturn, 1) := by decide +kernel
theorem dX12_refund_0 : decode cX12_refund 0 = .ok (.aload_n 0, 1) := by decide +kernel
theorem dX12_refund_1 : decode cX12_refund 1 = .ok (.iload_n 1, 1) := by decide +kernel
theorem dX12_refund_2 : decode cX12_refund 2 = .ok (.invokevirtual 165, 3) := by decide +kernel
theorem dX12_refund_5 : decode cX12_refund 5 = .ok (.istore_n 2, 1) := by decide +kernel
theorem dX12_refund_6 : decode cX12_refund 6 = .ok (.aload_n 0, 1) := by decide +kernel
theorem dX12_refund_7 : decode cX12_refund 7 = .ok (.getfield 29, 3) := by decide +kernel
theorem dX12_refund_10 : decode cX12_refund 10 = .ok (.aload_n 0, 1) := by decide +kernel
theorem dX12_refund_11 : decode cX12_refund 11 = .ok (.getfield 10, 3) := by decide +kernel
theorem dX12_refund_14 : decode cX12_refund 14 = .ok (.invokevirtual 86, 3) := by decide +kernel
theorem dX12_refund_17 : decode cX12_refund 17 = .ok (.aload_n 0, 1) := by decide +kernel
theorem dX12_refund_18 : decode cX12_refund 18 = .ok (.getfield 10, 3) := by decide +kernel
theorem dX12_refund_21 : decode cX12_refund 21 = .ok (.getfield 168, 3) := by decide +kernel
theorem dX12_refund_24 : decode cX12_refund 24 = .ok (.iload_n 2, 1) := by decide +kernel
theorem dX12_refund_25 : decode cX12_refund 25 = .ok (.invokevirtual 172, 3) := by decide +kernel
theorem dX12_refund_28 : decode cX12_refund 28 = .ok (.ireturn, 1) := by decide +kernel
theorem dX12_advance_0 : decode cX12_advance 0 = .ok (.aload_n 0, 1) := by decide +kernel
theorem dX12_advance_1 : decode cX12_advance 1 = .ok (.getfield 10, 3) := by decide +kernel
theorem dX12_advance_4 : decode cX12_advance 4 = .ok (.iload_n 1, 1) := by decide +kernel
theorem dX12_advance_5 : decode cX12_advance 5 = .ok (.invokevirtual 177, 3) := by decide +kernel
theorem dX12_advance_8 : decode cX12_advance 8 = .ok (.invokestatic 82, 3) := by decide +kernel
theorem dX12_advance_11 : decode cX12_advance 11 = .ok (.aload_n 0, 1) := by decide +kernel
theorem dX12_advance_12 : decode cX12_advance 12 = .ok (.getfield 29, 3) := by decide +kernel
theorem dX12_advance_15 : decode cX12_advance 15 = .ok (.aload_n 0, 1) := by decide +kernel
theorem dX12_advance_16 : decode cX12_advance 16 = .ok (.getfield 10, 3) := by decide +kernel
theorem dX12_advance_19 : decode cX12_advance 19 = .ok (.invokevirtual 86, 3) := by decide +kernel
theorem dX12_advance_22 : decode cX12_advance 22 = .ok (.aload_n 0, 1) := by decide +kernel
theorem dX12_advance_23 : decode cX12_advance 23 = .ok (.getfield 10, 3) := by decide +kernel
theorem dX12_advance_26 : decode cX12_advance 26 = .ok (.iload_n 1, 1) := by decide +kernel
theorem dX12_advance_27 : decode cX12_advance 27 = .ok (.invokevirtual 180, 3) := by decide +kernel
theorem dX12_advance_30 : decode cX12_advance 30 = .ok (.ireturn, 1) := by decide +kernel
theorem dX12_minute_0 : decode cX12_minute 0 = .ok (.aload_n 0, 1) := by decide +kernel
theorem dX12_minute_1 : decode cX12_minute 1 = .ok (.getfield 10, 3) := by decide +kernel
theorem dX12_minute_4 : decode cX12_minute 4 = .ok (.getfield 183, 3) := by decide +kernel
theorem dX12_minute_7 : decode cX12_minute 7 = .ok (.ireturn, 1) := by decide +kernel
theorem dX12_isRaining_0 : decode cX12_isRaining 0 = .ok (.aload_n 0, 1) := by decide +kernel
theorem dX12_isRaining_1 : decode cX12_isRaining 1 = .ok (.getfield 10, 3) := by decide +kernel
theorem dX12_isRaining_4 : decode cX12_isRaining 4 = .ok (.getfield 137, 3) := by decide +kernel
theorem dX12_isRaining_7 : decode cX12_isRaining 7 = .ok (.ireturn, 1) := by decide +kernel
theorem dX12_stopCount_0 : decode cX12_stopCount 0 = .ok (.aload_n 0, 1) := by decide +kernel
theorem dX12_stopCount_1 : decode cX12_stopCount 1 = .ok (.getfield 10, 3) := by decide +kernel
theorem dX12_stopCount_4 : decode cX12_stopCount 4 = .ok (.getfield 186, 3) := by decide +kernel
theorem dX12_stopCount_7 : decode cX12_stopCount 7 = .ok (.ireturn, 1) := by decide +kernel
theorem dX12_transferMinutes_0 : decode cX12_transferMinutes 0 = .ok (.aload_n 0, 1) := by decide +kernel
theorem dX12_transferMinutes_1 : decode cX12_transferMinutes 1 = .ok (.getfield 10, 3) := by decide +kernel
theorem dX12_transferMinutes_4 : decode cX12_transferMinutes 4 = .ok (.iload_n 1, 1) := by decide +kernel
theorem dX12_transferMinutes_5 : decode cX12_transferMinutes 5 = .ok (.invokevirtual 146, 3) := by decide +kernel
theorem dX12_transferMinutes_8 : decode cX12_transferMinutes 8 = .ok (.invokestatic 82, 3) := by decide +kernel
theorem dX12_transferMinutes_11 : decode cX12_transferMinutes 11 = .ok (.aload_n 0, 1) := by decide +kernel
theorem dX12_transferMinutes_12 : decode cX12_transferMinutes 12 = .ok (.getfield 10, 3) := by decide +kernel
theorem dX12_transferMinutes_15 : decode cX12_transferMinutes 15 = .ok (.getfield 189, 3) := by decide +kernel
theorem dX12_transferMinutes_18 : decode cX12_transferMinutes 18 = .ok (.iload_n 1, 1) := by decide +kernel
theorem dX12_transferMinutes_19 : decode cX12_transferMinutes 19 = .ok (.iaload, 1) := by decide +kernel
theorem dX12_transferMinutes_20 : decode cX12_transferMinutes 20 = .ok (.ireturn, 1) := by decide +kernel
theorem dX12_isClosed_0 : decode cX12_isClosed 0 = .ok (.aload_n 0, 1) := by decide +kernel
theorem dX12_isClosed_1 : decode cX12_isClosed 1 = .ok (.getfield 10, 3) := by decide +kernel
theorem dX12_isClosed_4 : decode cX12_isClosed 4 = .ok (.iload_n 1, 1) := by decide +kernel
theorem dX12_isClosed_5 : decode cX12_isClosed 5 = .ok (.invokevirtual 146, 3) := by decide +kernel
theorem dX12_isClosed_8 : decode cX12_isClosed 8 = .ok (.invokestatic 82, 3) := by decide +kernel
theorem dX12_isClosed_11 : decode cX12_isClosed 11 = .ok (.aload_n 0, 1) := by decide +kernel
theorem dX12_isClosed_12 : decode cX12_isClosed 12 = .ok (.getfield 10, 3) := by decide +kernel
theorem dX12_isClosed_15 : decode cX12_isClosed 15 = .ok (.getfield 149, 3) := by decide +kernel
theorem dX12_isClosed_18 : decode cX12_isClosed 18 = .ok (.iload_n 1, 1) := by decide +kernel
theorem dX12_isClosed_19 : decode cX12_isClosed 19 = .ok (.baload, 1) := by decide +kernel
theorem dX12_isClosed_20 : decode cX12_isClosed 20 = .ok (.ireturn, 1) := by decide +kernel
theorem dX12_walkMinutes_0 : decode cX12_walkMinutes 0 = .ok (.aload_n 0, 1) := by decide +kernel
theorem dX12_walkMinutes_1 : decode cX12_walkMinutes 1 = .ok (.getfield 10, 3) := by decide +kernel
theorem dX12_walkMinutes_4 : decode cX12_walkMinutes 4 = .ok (.iload_n 1, 1) := by decide +kernel
theorem dX12_walkMinutes_5 : decode cX12_walkMinutes 5 = .ok (.iload_n 2, 1) := by decide +kernel
theorem dX12_walkMinutes_6 : decode cX12_walkMinutes 6 = .ok (.invokevirtual 102, 3) := by decide +kernel
theorem dX12_walkMinutes_9 : decode cX12_walkMinutes 9 = .ok (.invokestatic 82, 3) := by decide +kernel
theorem dX12_walkMinutes_12 : decode cX12_walkMinutes 12 = .ok (.aload_n 0, 1) := by decide +kernel
theorem dX12_walkMinutes_13 : decode cX12_walkMinutes 13 = .ok (.getfield 10, 3) := by decide +kernel
theorem dX12_walkMinutes_16 : decode cX12_walkMinutes 16 = .ok (.iload_n 1, 1) := by decide +kernel
theorem dX12_walkMinutes_17 : decode cX12_walkMinutes 17 = .ok (.iload_n 2, 1) := by decide +kernel
theorem dX12_walkMinutes_18 : decode cX12_walkMinutes 18 = .ok (.invokevirtual 193, 3) := by decide +kernel
theorem dX12_walkMinutes_21 : decode cX12_walkMinutes 21 = .ok (.ireturn, 1) := by decide +kernel
theorem dX12_lineCount_0 : decode cX12_lineCount 0 = .ok (.aload_n 0, 1) := by decide +kernel
theorem dX12_lineCount_1 : decode cX12_lineCount 1 = .ok (.getfield 10, 3) := by decide +kernel
theorem dX12_lineCount_4 : decode cX12_lineCount 4 = .ok (.getfield 196, 3) := by decide +kernel
theorem dX12_lineCount_7 : decode cX12_lineCount 7 = .ok (.ireturn, 1) := by decide +kernel
theorem dX12_ringSize_0 : decode cX12_ringSize 0 = .ok (.aload_n 0, 1) := by decide +kernel
theorem dX12_ringSize_1 : decode cX12_ringSize 1 = .ok (.getfield 10, 3) := by decide +kernel
theorem dX12_ringSize_4 : decode cX12_ringSize 4 = .ok (.iload_n 1, 1) := by decide +kernel
theorem dX12_ringSize_5 : decode cX12_ringSize 5 = .ok (.invokevirtual 153, 3) := by decide +kernel
theorem dX12_ringSize_8 : decode cX12_ringSize 8 = .ok (.invokestatic 82, 3) := by decide +kernel
theorem dX12_ringSize_11 : decode cX12_ringSize 11 = .ok (.aload_n 0, 1) := by decide +kernel
theorem dX12_ringSize_12 : decode cX12_ringSize 12 = .ok (.getfield 10, 3) := by decide +kernel
theorem dX12_ringSize_15 : decode cX12_ringSize 15 = .ok (.getfield 121, 3) := by decide +kernel
theorem dX12_ringSize_18 : decode cX12_ringSize 18 = .ok (.iload_n 1, 1) := by decide +kernel
theorem dX12_ringSize_19 : decode cX12_ringSize 19 = .ok (.aaload, 1) := by decide +kernel
theorem dX12_ringSize_20 : decode cX12_ringSize 20 = .ok (.getfield 199, 3) := by decide +kernel
theorem dX12_ringSize_23 : decode cX12_ringSize 23 = .ok (.ireturn, 1) := by decide +kernel
theorem dX12_stopAt_0 : decode cX12_stopAt 0 = .ok (.aload_n 0, 1) := by decide +kernel
theorem dX12_stopAt_1 : decode cX12_stopAt 1 = .ok (.getfield 10, 3) := by decide +kernel
theorem dX12_stopAt_4 : decode cX12_stopAt 4 = .ok (.iload_n 1, 1) := by decide +kernel
theorem dX12_stopAt_5 : decode cX12_stopAt 5 = .ok (.invokevirtual 153, 3) := by decide +kernel
theorem dX12_stopAt_8 : decode cX12_stopAt 8 = .ok (.invokestatic 82, 3) := by decide +kernel
theorem dX12_stopAt_11 : decode cX12_stopAt 11 = .ok (.aload_n 0, 1) := by decide +kernel
theorem dX12_stopAt_12 : decode cX12_stopAt 12 = .ok (.getfield 10, 3) := by decide +kernel
theorem dX12_stopAt_15 : decode cX12_stopAt 15 = .ok (.getfield 121, 3) := by decide +kernel
theorem dX12_stopAt_18 : decode cX12_stopAt 18 = .ok (.iload_n 1, 1) := by decide +kernel
theorem dX12_stopAt_19 : decode cX12_stopAt 19 = .ok (.aaload, 1) := by decide +kernel
theorem dX12_stopAt_20 : decode cX12_stopAt 20 = .ok (.getfield 199, 3) := by decide +kernel
theorem dX12_stopAt_23 : decode cX12_stopAt 23 = .ok (.ifCond .eq 19, 3) := by decide +kernel
theorem dX12_stopAt_26 : decode cX12_stopAt 26 = .ok (.aload_n 0, 1) := by decide +kernel
theorem dX12_stopAt_27 : decode cX12_stopAt 27 = .ok (.getfield 10, 3) := by decide +kernel
theorem dX12_stopAt_30 : decode cX12_stopAt 30 = .ok (.getfield 121, 3) := by decide +kernel
theorem dX12_stopAt_33 : decode cX12_stopAt 33 = .ok (.iload_n 1, 1) := by decide +kernel
theorem dX12_stopAt_34 : decode cX12_stopAt 34 = .ok (.aaload, 1) := by decide +kernel
theorem dX12_stopAt_35 : decode cX12_stopAt 35 = .ok (.iload_n 2, 1) := by decide +kernel
theorem dX12_stopAt_36 : decode cX12_stopAt 36 = .ok (.invokevirtual 202, 3) := by decide +kernel
theorem dX12_stopAt_39 : decode cX12_stopAt 39 = .ok (.ifCond .ne 13, 3) := by decide +kernel
theorem dX12_stopAt_42 : decode cX12_stopAt 42 = .ok (.new 206, 3) := by decide +kernel
theorem dX12_stopAt_45 : decode cX12_stopAt 45 = .ok (.dup, 1) := by decide +kernel
theorem dX12_stopAt_46 : decode cX12_stopAt 46 = .ok (.ldc 208, 2) := by decide +kernel
theorem dX12_stopAt_48 : decode cX12_stopAt 48 = .ok (.invokespecial 210, 3) := by decide +kernel
theorem dX12_stopAt_51 : decode cX12_stopAt 51 = .ok (.athrow, 1) := by decide +kernel
theorem dX12_stopAt_52 : decode cX12_stopAt 52 = .ok (.aload_n 0, 1) := by decide +kernel
theorem dX12_stopAt_53 : decode cX12_stopAt 53 = .ok (.getfield 10, 3) := by decide +kernel
theorem dX12_stopAt_56 : decode cX12_stopAt 56 = .ok (.getfield 121, 3) := by decide +kernel
theorem dX12_stopAt_59 : decode cX12_stopAt 59 = .ok (.iload_n 1, 1) := by decide +kernel
theorem dX12_stopAt_60 : decode cX12_stopAt 60 = .ok (.aaload, 1) := by decide +kernel
theorem dX12_stopAt_61 : decode cX12_stopAt 61 = .ok (.iload_n 2, 1) := by decide +kernel
theorem dX12_stopAt_62 : decode cX12_stopAt 62 = .ok (.invokevirtual 213, 3) := by decide +kernel
theorem dX12_stopAt_65 : decode cX12_stopAt 65 = .ok (.ireturn, 1) := by decide +kernel
theorem dX12_positionOf_0 : decode cX12_positionOf 0 = .ok (.aload_n 0, 1) := by decide +kernel
theorem dX12_positionOf_1 : decode cX12_positionOf 1 = .ok (.getfield 10, 3) := by decide +kernel
theorem dX12_positionOf_4 : decode cX12_positionOf 4 = .ok (.iload_n 1, 1) := by decide +kernel
theorem dX12_positionOf_5 : decode cX12_positionOf 5 = .ok (.iload_n 2, 1) := by decide +kernel
theorem dX12_positionOf_6 : decode cX12_positionOf 6 = .ok (.invokevirtual 216, 3) := by decide +kernel
theorem dX12_positionOf_9 : decode cX12_positionOf 9 = .ok (.invokestatic 82, 3) := by decide +kernel
theorem dX12_positionOf_12 : decode cX12_positionOf 12 = .ok (.aload_n 0, 1) := by decide +kernel
theorem dX12_positionOf_13 : decode cX12_positionOf 13 = .ok (.getfield 10, 3) := by decide +kernel
theorem dX12_positionOf_16 : decode cX12_positionOf 16 = .ok (.getfield 121, 3) := by decide +kernel
theorem dX12_positionOf_19 : decode cX12_positionOf 19 = .ok (.iload_n 1, 1) := by decide +kernel
theorem dX12_positionOf_20 : decode cX12_positionOf 20 = .ok (.aaload, 1) := by decide +kernel
theorem dX12_positionOf_21 : decode cX12_positionOf 21 = .ok (.iload_n 2, 1) := by decide +kernel
theorem dX12_positionOf_22 : decode cX12_positionOf 22 = .ok (.invokevirtual 219, 3) := by decide +kernel
theorem dX12_positionOf_25 : decode cX12_positionOf 25 = .ok (.istore_n 3, 1) := by decide +kernel
theorem dX12_positionOf_26 : decode cX12_positionOf 26 = .ok (.iload_n 3, 1) := by decide +kernel
theorem dX12_positionOf_27 : decode cX12_positionOf 27 = .ok (.iconst (-1), 1) := by decide +kernel
theorem dX12_positionOf_28 : decode cX12_positionOf 28 = .ok (.if_icmp .ne 13, 3) := by decide +kernel
theorem dX12_positionOf_31 : decode cX12_positionOf 31 = .ok (.new 206, 3) := by decide +kernel
theorem dX12_positionOf_34 : decode cX12_positionOf 34 = .ok (.dup, 1) := by decide +kernel
theorem dX12_positionOf_35 : decode cX12_positionOf 35 = .ok (.ldc 222, 2) := by decide +kernel
theorem dX12_positionOf_37 : decode cX12_positionOf 37 = .ok (.invokespecial 210, 3) := by decide +kernel
theorem dX12_positionOf_40 : decode cX12_positionOf 40 = .ok (.athrow, 1) := by decide +kernel
theorem dX12_positionOf_41 : decode cX12_positionOf 41 = .ok (.iload_n 3, 1) := by decide +kernel
theorem dX12_positionOf_42 : decode cX12_positionOf 42 = .ok (.ireturn, 1) := by decide +kernel
theorem dX12_hopMinutes_0 : decode cX12_hopMinutes 0 = .ok (.aload_n 0, 1) := by decide +kernel
theorem dX12_hopMinutes_1 : decode cX12_hopMinutes 1 = .ok (.getfield 10, 3) := by decide +kernel
theorem dX12_hopMinutes_4 : decode cX12_hopMinutes 4 = .ok (.iload_n 1, 1) := by decide +kernel
theorem dX12_hopMinutes_5 : decode cX12_hopMinutes 5 = .ok (.invokevirtual 153, 3) := by decide +kernel
theorem dX12_hopMinutes_8 : decode cX12_hopMinutes 8 = .ok (.invokestatic 82, 3) := by decide +kernel
theorem dX12_hopMinutes_11 : decode cX12_hopMinutes 11 = .ok (.aload_n 0, 1) := by decide +kernel
theorem dX12_hopMinutes_12 : decode cX12_hopMinutes 12 = .ok (.getfield 10, 3) := by decide +kernel
theorem dX12_hopMinutes_15 : decode cX12_hopMinutes 15 = .ok (.getfield 121, 3) := by decide +kernel
theorem dX12_hopMinutes_18 : decode cX12_hopMinutes 18 = .ok (.iload_n 1, 1) := by decide +kernel
theorem dX12_hopMinutes_19 : decode cX12_hopMinutes 19 = .ok (.aaload, 1) := by decide +kernel
theorem dX12_hopMinutes_20 : decode cX12_hopMinutes 20 = .ok (.aload_n 0, 1) := by decide +kernel
theorem dX12_hopMinutes_21 : decode cX12_hopMinutes 21 = .ok (.getfield 10, 3) := by decide +kernel
theorem dX12_hopMinutes_24 : decode cX12_hopMinutes 24 = .ok (.getfield 137, 3) := by decide +kernel
theorem dX12_hopMinutes_27 : decode cX12_hopMinutes 27 = .ok (.invokevirtual 224, 3) := by decide +kernel
theorem dX12_hopMinutes_30 : decode cX12_hopMinutes 30 = .ok (.ireturn, 1) := by decide +kernel
theorem dX12_runs_0 : decode cX12_runs 0 = .ok (.aload_n 0, 1) := by decide +kernel
theorem dX12_runs_1 : decode cX12_runs 1 = .ok (.getfield 10, 3) := by decide +kernel
theorem dX12_runs_4 : decode cX12_runs 4 = .ok (.iload_n 1, 1) := by decide +kernel
theorem dX12_runs_5 : decode cX12_runs 5 = .ok (.invokevirtual 153, 3) := by decide +kernel
theorem dX12_runs_8 : decode cX12_runs 8 = .ok (.invokestatic 82, 3) := by decide +kernel
theorem dX12_runs_11 : decode cX12_runs 11 = .ok (.aload_n 0, 1) := by decide +kernel
theorem dX12_runs_12 : decode cX12_runs 12 = .ok (.getfield 10, 3) := by decide +kernel
theorem dX12_runs_15 : decode cX12_runs 15 = .ok (.getfield 121, 3) := by decide +kernel
theorem dX12_runs_18 : decode cX12_runs 18 = .ok (.iload_n 1, 1) := by decide +kernel
theorem dX12_runs_19 : decode cX12_runs 19 = .ok (.aaload, 1) := by decide +kernel
theorem dX12_runs_20 : decode cX12_runs 20 = .ok (.invokevirtual 228, 3) := by decide +kernel
theorem dX12_runs_23 : decode cX12_runs 23 = .ok (.ireturn, 1) := by decide +kernel
theorem dX12_tripMinute_0 : decode cX12_tripMinute 0 = .ok (.aload_n 0, 1) := by decide +kernel
theorem dX12_tripMinute_1 : decode cX12_tripMinute 1 = .ok (.getfield 10, 3) := by decide +kernel
theorem dX12_tripMinute_4 : decode cX12_tripMinute 4 = .ok (.iload_n 1, 1) := by decide +kernel
theorem dX12_tripMinute_5 : decode cX12_tripMinute 5 = .ok (.iload_n 2, 1) := by decide +kernel
theorem dX12_tripMinute_6 : decode cX12_tripMinute 6 = .ok (.iload_n 3, 1) := by decide +kernel
theorem dX12_tripMinute_7 : decode cX12_tripMinute 7 = .ok (.invokevirtual 232, 3) := by decide +kernel
theorem dX12_tripMinute_10 : decode cX12_tripMinute 10 = .ok (.invokestatic 82, 3) := by decide +kernel
theorem dX12_tripMinute_13 : decode cX12_tripMinute 13 = .ok (.aload_n 0, 1) := by decide +kernel
theorem dX12_tripMinute_14 : decode cX12_tripMinute 14 = .ok (.getfield 10, 3) := by decide +kernel
theorem dX12_tripMinute_17 : decode cX12_tripMinute 17 = .ok (.getfield 121, 3) := by decide +kernel
theorem dX12_tripMinute_20 : decode cX12_tripMinute 20 = .ok (.iload_n 1, 1) := by decide +kernel
theorem dX12_tripMinute_21 : decode cX12_tripMinute 21 = .ok (.aaload, 1) := by decide +kernel
theorem dX12_tripMinute_22 : decode cX12_tripMinute 22 = .ok (.iload_n 2, 1) := by decide +kernel
theorem dX12_tripMinute_23 : decode cX12_tripMinute 23 = .ok (.iload_n 3, 1) := by decide +kernel
theorem dX12_tripMinute_24 : decode cX12_tripMinute 24 = .ok (.aload_n 0, 1) := by decide +kernel
theorem dX12_tripMinute_25 : decode cX12_tripMinute 25 = .ok (.getfield 10, 3) := by decide +kernel
theorem dX12_tripMinute_28 : decode cX12_tripMinute 28 = .ok (.getfield 137, 3) := by decide +kernel
theorem dX12_tripMinute_31 : decode cX12_tripMinute 31 = .ok (.invokevirtual 235, 3) := by decide +kernel
theorem dX12_tripMinute_34 : decode cX12_tripMinute 34 = .ok (.ireturn, 1) := by decide +kernel
theorem dX12_nextTrip_0 : decode cX12_nextTrip 0 = .ok (.aload_n 0, 1) := by decide +kernel
theorem dX12_nextTrip_1 : decode cX12_nextTrip 1 = .ok (.getfield 10, 3) := by decide +kernel
theorem dX12_nextTrip_4 : decode cX12_nextTrip 4 = .ok (.iload_n 1, 1) := by decide +kernel
theorem dX12_nextTrip_5 : decode cX12_nextTrip 5 = .ok (.iload_n 2, 1) := by decide +kernel
theorem dX12_nextTrip_6 : decode cX12_nextTrip 6 = .ok (.iload_n 3, 1) := by decide +kernel
theorem dX12_nextTrip_7 : decode cX12_nextTrip 7 = .ok (.invokevirtual 239, 3) := by decide +kernel
theorem dX12_nextTrip_10 : decode cX12_nextTrip 10 = .ok (.invokestatic 82, 3) := by decide +kernel
theorem dX12_nextTrip_13 : decode cX12_nextTrip 13 = .ok (.aload_n 0, 1) := by decide +kernel
theorem dX12_nextTrip_14 : decode cX12_nextTrip 14 = .ok (.getfield 10, 3) := by decide +kernel
theorem dX12_nextTrip_17 : decode cX12_nextTrip 17 = .ok (.getfield 121, 3) := by decide +kernel
theorem dX12_nextTrip_20 : decode cX12_nextTrip 20 = .ok (.iload_n 1, 1) := by decide +kernel
theorem dX12_nextTrip_21 : decode cX12_nextTrip 21 = .ok (.aaload, 1) := by decide +kernel
theorem dX12_nextTrip_22 : decode cX12_nextTrip 22 = .ok (.iload_n 2, 1) := by decide +kernel
theorem dX12_nextTrip_23 : decode cX12_nextTrip 23 = .ok (.iload_n 3, 1) := by decide +kernel
theorem dX12_nextTrip_24 : decode cX12_nextTrip 24 = .ok (.aload_n 0, 1) := by decide +kernel
theorem dX12_nextTrip_25 : decode cX12_nextTrip 25 = .ok (.getfield 10, 3) := by decide +kernel
theorem dX12_nextTrip_28 : decode cX12_nextTrip 28 = .ok (.getfield 137, 3) := by decide +kernel
theorem dX12_nextTrip_31 : decode cX12_nextTrip 31 = .ok (.invokevirtual 242, 3) := by decide +kernel
theorem dX12_nextTrip_34 : decode cX12_nextTrip 34 = .ok (.ireturn, 1) := by decide +kernel
theorem dX12_nextTripBySearch_0 : decode cX12_nextTripBySearch 0 = .ok (.aload_n 0, 1) := by decide +kernel
theorem dX12_nextTripBySearch_1 : decode cX12_nextTripBySearch 1 = .ok (.getfield 10, 3) := by decide +kernel
theorem dX12_nextTripBySearch_4 : decode cX12_nextTripBySearch 4 = .ok (.iload_n 1, 1) := by decide +kernel
theorem dX12_nextTripBySearch_5 : decode cX12_nextTripBySearch 5 = .ok (.iload_n 2, 1) := by decide +kernel
theorem dX12_nextTripBySearch_6 : decode cX12_nextTripBySearch 6 = .ok (.iload_n 3, 1) := by decide +kernel
theorem dX12_nextTripBySearch_7 : decode cX12_nextTripBySearch 7 = .ok (.invokevirtual 239, 3) := by decide +kernel
theorem dX12_nextTripBySearch_10 : decode cX12_nextTripBySearch 10 = .ok (.invokestatic 82, 3) := by decide +kernel
theorem dX12_nextTripBySearch_13 : decode cX12_nextTripBySearch 13 = .ok (.aload_n 0, 1) := by decide +kernel
theorem dX12_nextTripBySearch_14 : decode cX12_nextTripBySearch 14 = .ok (.getfield 10, 3) := by decide +kernel
theorem dX12_nextTripBySearch_17 : decode cX12_nextTripBySearch 17 = .ok (.getfield 121, 3) := by decide +kernel
theorem dX12_nextTripBySearch_20 : decode cX12_nextTripBySearch 20 = .ok (.iload_n 1, 1) := by decide +kernel
theorem dX12_nextTripBySearch_21 : decode cX12_nextTripBySearch 21 = .ok (.aaload, 1) := by decide +kernel
theorem dX12_nextTripBySearch_22 : decode cX12_nextTripBySearch 22 = .ok (.iload_n 2, 1) := by decide +kernel
theorem dX12_nextTripBySearch_23 : decode cX12_nextTripBySearch 23 = .ok (.iload_n 3, 1) := by decide +kernel
theorem dX12_nextTripBySearch_24 : decode cX12_nextTripBySearch 24 = .ok (.aload_n 0, 1) := by decide +kernel
theorem dX12_nextTripBySearch_25 : decode cX12_nextTripBySearch 25 = .ok (.getfield 10, 3) := by decide +kernel
theorem dX12_nextTripBySearch_28 : decode cX12_nextTripBySearch 28 = .ok (.getfield 137, 3) := by decide +kernel
theorem dX12_nextTripBySearch_31 : decode cX12_nextTripBySearch 31 = .ok (.invokevirtual 245, 3) := by decide +kernel
theorem dX12_nextTripBySearch_34 : decode cX12_nextTripBySearch 34 = .ok (.ireturn, 1) := by decide +kernel
theorem dX12_earliestArrival_0 : decode cX12_earliestArrival 0 = .ok (.aload_n 0, 1) := by decide +kernel
theorem dX12_earliestArrival_1 : decode cX12_earliestArrival 1 = .ok (.getfield 10, 3) := by decide +kernel
theorem dX12_earliestArrival_4 : decode cX12_earliestArrival 4 = .ok (.iload_n 1, 1) := by decide +kernel
theorem dX12_earliestArrival_5 : decode cX12_earliestArrival 5 = .ok (.iload_n 2, 1) := by decide +kernel
theorem dX12_earliestArrival_6 : decode cX12_earliestArrival 6 = .ok (.iload_n 3, 1) := by decide +kernel
theorem dX12_earliestArrival_7 : decode cX12_earliestArrival 7 = .ok (.invokevirtual 248, 3) := by decide +kernel
theorem dX12_earliestArrival_10 : decode cX12_earliestArrival 10 = .ok (.invokestatic 82, 3) := by decide +kernel
theorem dX12_earliestArrival_13 : decode cX12_earliestArrival 13 = .ok (.aload_n 0, 1) := by decide +kernel
theorem dX12_earliestArrival_14 : decode cX12_earliestArrival 14 = .ok (.getfield 36, 3) := by decide +kernel
theorem dX12_earliestArrival_17 : decode cX12_earliestArrival 17 = .ok (.aload_n 0, 1) := by decide +kernel
theorem dX12_earliestArrival_18 : decode cX12_earliestArrival 18 = .ok (.getfield 10, 3) := by decide +kernel
theorem dX12_earliestArrival_21 : decode cX12_earliestArrival 21 = .ok (.iload_n 1, 1) := by decide +kernel
theorem dX12_earliestArrival_22 : decode cX12_earliestArrival 22 = .ok (.iload_n 3, 1) := by decide +kernel
theorem dX12_earliestArrival_23 : decode cX12_earliestArrival 23 = .ok (.invokevirtual 251, 3) := by decide +kernel
theorem dX12_earliestArrival_26 : decode cX12_earliestArrival 26 = .ok (.aload_n 0, 1) := by decide +kernel
theorem dX12_earliestArrival_27 : decode cX12_earliestArrival 27 = .ok (.getfield 36, 3) := by decide +kernel
theorem dX12_earliestArrival_30 : decode cX12_earliestArrival 30 = .ok (.getfield 255, 3) := by decide +kernel
theorem dX12_earliestArrival_33 : decode cX12_earliestArrival 33 = .ok (.iload_n 2, 1) := by decide +kernel
theorem dX12_earliestArrival_34 : decode cX12_earliestArrival 34 = .ok (.iaload, 1) := by decide +kernel
theorem dX12_earliestArrival_35 : decode cX12_earliestArrival 35 = .ok (.invokestatic 258, 3) := by decide +kernel
theorem dX12_earliestArrival_38 : decode cX12_earliestArrival 38 = .ok (.ireturn, 1) := by decide +kernel
theorem dX12_earliestArrivalByRounds_0 : decode cX12_earliestArrivalByRounds 0 = .ok (.aload_n 0, 1) := by decide +kernel
theorem dX12_earliestArrivalByRounds_1 : decode cX12_earliestArrivalByRounds 1 = .ok (.getfield 10, 3) := by decide +kernel
theorem dX12_earliestArrivalByRounds_4 : decode cX12_earliestArrivalByRounds 4 = .ok (.iload_n 1, 1) := by decide +kernel
theorem dX12_earliestArrivalByRounds_5 : decode cX12_earliestArrivalByRounds 5 = .ok (.iload_n 2, 1) := by decide +kernel
theorem dX12_earliestArrivalByRounds_6 : decode cX12_earliestArrivalByRounds 6 = .ok (.iload_n 3, 1) := by decide +kernel
theorem dX12_earliestArrivalByRounds_7 : decode cX12_earliestArrivalByRounds 7 = .ok (.invokevirtual 248, 3) := by decide +kernel
theorem dX12_earliestArrivalByRounds_10 : decode cX12_earliestArrivalByRounds 10 = .ok (.invokestatic 82, 3) := by decide +kernel
theorem dX12_earliestArrivalByRounds_13 : decode cX12_earliestArrivalByRounds 13 = .ok (.aload_n 0, 1) := by decide +kernel
theorem dX12_earliestArrivalByRounds_14 : decode cX12_earliestArrivalByRounds 14 = .ok (.getfield 40, 3) := by decide +kernel
theorem dX12_earliestArrivalByRounds_17 : decode cX12_earliestArrivalByRounds 17 = .ok (.aload_n 0, 1) := by decide +kernel
theorem dX12_earliestArrivalByRounds_18 : decode cX12_earliestArrivalByRounds 18 = .ok (.getfield 10, 3) := by decide +kernel
theorem dX12_earliestArrivalByRounds_21 : decode cX12_earliestArrivalByRounds 21 = .ok (.iload_n 1, 1) := by decide +kernel
theorem dX12_earliestArrivalByRounds_22 : decode cX12_earliestArrivalByRounds 22 = .ok (.iload_n 3, 1) := by decide +kernel
theorem dX12_earliestArrivalByRounds_23 : decode cX12_earliestArrivalByRounds 23 = .ok (.invokevirtual 261, 3) := by decide +kernel
theorem dX12_earliestArrivalByRounds_26 : decode cX12_earliestArrivalByRounds 26 = .ok (.aload_n 0, 1) := by decide +kernel
theorem dX12_earliestArrivalByRounds_27 : decode cX12_earliestArrivalByRounds 27 = .ok (.getfield 40, 3) := by decide +kernel
theorem dX12_earliestArrivalByRounds_30 : decode cX12_earliestArrivalByRounds 30 = .ok (.getfield 255, 3) := by decide +kernel
theorem dX12_earliestArrivalByRounds_33 : decode cX12_earliestArrivalByRounds 33 = .ok (.iload_n 2, 1) := by decide +kernel
theorem dX12_earliestArrivalByRounds_34 : decode cX12_earliestArrivalByRounds 34 = .ok (.iaload, 1) := by decide +kernel
theorem dX12_earliestArrivalByRounds_35 : decode cX12_earliestArrivalByRounds 35 = .ok (.invokestatic 258, 3) := by decide +kernel
theorem dX12_earliestArrivalByRounds_38 : decode cX12_earliestArrivalByRounds 38 = .ok (.ireturn, 1) := by decide +kernel
theorem dX12_fewestBoardings_0 : decode cX12_fewestBoardings 0 = .ok (.aload_n 0, 1) := by decide +kernel
theorem dX12_fewestBoardings_1 : decode cX12_fewestBoardings 1 = .ok (.getfield 10, 3) := by decide +kernel
theorem dX12_fewestBoardings_4 : decode cX12_fewestBoardings 4 = .ok (.iload_n 1, 1) := by decide +kernel
theorem dX12_fewestBoardings_5 : decode cX12_fewestBoardings 5 = .ok (.iload_n 2, 1) := by decide +kernel
theorem dX12_fewestBoardings_6 : decode cX12_fewestBoardings 6 = .ok (.invokevirtual 264, 3) := by decide +kernel
theorem dX12_fewestBoardings_9 : decode cX12_fewestBoardings 9 = .ok (.invokestatic 82, 3) := by decide +kernel
theorem dX12_fewestBoardings_12 : decode cX12_fewestBoardings 12 = .ok (.aload_n 0, 1) := by decide +kernel
theorem dX12_fewestBoardings_13 : decode cX12_fewestBoardings 13 = .ok (.getfield 46, 3) := by decide +kernel
theorem dX12_fewestBoardings_16 : decode cX12_fewestBoardings 16 = .ok (.aload_n 0, 1) := by decide +kernel
theorem dX12_fewestBoardings_17 : decode cX12_fewestBoardings 17 = .ok (.getfield 10, 3) := by decide +kernel
theorem dX12_fewestBoardings_20 : decode cX12_fewestBoardings 20 = .ok (.iload_n 1, 1) := by decide +kernel
theorem dX12_fewestBoardings_21 : decode cX12_fewestBoardings 21 = .ok (.invokevirtual 267, 3) := by decide +kernel
theorem dX12_fewestBoardings_24 : decode cX12_fewestBoardings 24 = .ok (.aload_n 0, 1) := by decide +kernel
theorem dX12_fewestBoardings_25 : decode cX12_fewestBoardings 25 = .ok (.getfield 46, 3) := by decide +kernel
theorem dX12_fewestBoardings_28 : decode cX12_fewestBoardings 28 = .ok (.getfield 270, 3) := by decide +kernel
theorem dX12_fewestBoardings_31 : decode cX12_fewestBoardings 31 = .ok (.iload_n 2, 1) := by decide +kernel
theorem dX12_fewestBoardings_32 : decode cX12_fewestBoardings 32 = .ok (.iaload, 1) := by decide +kernel
theorem dX12_fewestBoardings_33 : decode cX12_fewestBoardings 33 = .ok (.invokestatic 258, 3) := by decide +kernel
theorem dX12_fewestBoardings_36 : decode cX12_fewestBoardings 36 = .ok (.ireturn, 1) := by decide +kernel
theorem dX12_fewestBoardingsByTable_0 : decode cX12_fewestBoardingsByTable 0 = .ok (.aload_n 0, 1) := by decide +kernel
theorem dX12_fewestBoardingsByTable_1 : decode cX12_fewestBoardingsByTable 1 = .ok (.getfield 10, 3) := by decide +kernel
theorem dX12_fewestBoardingsByTable_4 : decode cX12_fewestBoardingsByTable 4 = .ok (.iload_n 1, 1) := by decide +kernel
theorem dX12_fewestBoardingsByTable_5 : decode cX12_fewestBoardingsByTable 5 = .ok (.iload_n 2, 1) := by decide +kernel
theorem dX12_fewestBoardingsByTable_6 : decode cX12_fewestBoardingsByTable 6 = .ok (.invokevirtual 264, 3) := by decide +kernel
theorem dX12_fewestBoardingsByTable_9 : decode cX12_fewestBoardingsByTable 9 = .ok (.invokestatic 82, 3) := by decide +kernel
theorem dX12_fewestBoardingsByTable_12 : decode cX12_fewestBoardingsByTable 12 = .ok (.aload_n 0, 1) := by decide +kernel
theorem dX12_fewestBoardingsByTable_13 : decode cX12_fewestBoardingsByTable 13 = .ok (.getfield 46, 3) := by decide +kernel
theorem dX12_fewestBoardingsByTable_16 : decode cX12_fewestBoardingsByTable 16 = .ok (.aload_n 0, 1) := by decide +kernel
theorem dX12_fewestBoardingsByTable_17 : decode cX12_fewestBoardingsByTable 17 = .ok (.getfield 10, 3) := by decide +kernel
theorem dX12_fewestBoardingsByTable_20 : decode cX12_fewestBoardingsByTable 20 = .ok (.invokevirtual 273, 3) := by decide +kernel
theorem dX12_fewestBoardingsByTable_23 : decode cX12_fewestBoardingsByTable 23 = .ok (.aload_n 0, 1) := by decide +kernel
theorem dX12_fewestBoardingsByTable_24 : decode cX12_fewestBoardingsByTable 24 = .ok (.getfield 46, 3) := by decide +kernel
theorem dX12_fewestBoardingsByTable_27 : decode cX12_fewestBoardingsByTable 27 = .ok (.iload_n 1, 1) := by decide +kernel
theorem dX12_fewestBoardingsByTable_28 : decode cX12_fewestBoardingsByTable 28 = .ok (.iload_n 2, 1) := by decide +kernel
theorem dX12_fewestBoardingsByTable_29 : decode cX12_fewestBoardingsByTable 29 = .ok (.invokevirtual 276, 3) := by decide +kernel
theorem dX12_fewestBoardingsByTable_32 : decode cX12_fewestBoardingsByTable 32 = .ok (.invokestatic 258, 3) := by decide +kernel
theorem dX12_fewestBoardingsByTable_35 : decode cX12_fewestBoardingsByTable 35 = .ok (.ireturn, 1) := by decide +kernel
theorem dX12_flow_0 : decode cX12_flow 0 = .ok (.aload_n 0, 1) := by decide +kernel
theorem dX12_flow_1 : decode cX12_flow 1 = .ok (.getfield 10, 3) := by decide +kernel
theorem dX12_flow_4 : decode cX12_flow 4 = .ok (.iload_n 1, 1) := by decide +kernel
theorem dX12_flow_5 : decode cX12_flow 5 = .ok (.iload_n 2, 1) := by decide +kernel
theorem dX12_flow_6 : decode cX12_flow 6 = .ok (.invokevirtual 279, 3) := by decide +kernel
theorem dX12_flow_9 : decode cX12_flow 9 = .ok (.invokestatic 82, 3) := by decide +kernel
theorem dX12_flow_12 : decode cX12_flow 12 = .ok (.aload_n 0, 1) := by decide +kernel
theorem dX12_flow_13 : decode cX12_flow 13 = .ok (.getfield 53, 3) := by decide +kernel
theorem dX12_flow_16 : decode cX12_flow 16 = .ok (.aload_n 0, 1) := by decide +kernel
theorem dX12_flow_17 : decode cX12_flow 17 = .ok (.getfield 10, 3) := by decide +kernel
theorem dX12_flow_20 : decode cX12_flow 20 = .ok (.iload_n 1, 1) := by decide +kernel
theorem dX12_flow_21 : decode cX12_flow 21 = .ok (.iload_n 2, 1) := by decide +kernel
theorem dX12_flow_22 : decode cX12_flow 22 = .ok (.invokevirtual 282, 3) := by decide +kernel
theorem dX12_flow_25 : decode cX12_flow 25 = .ok (.ireturn, 1) := by decide +kernel
theorem dX12_smallestCut_0 : decode cX12_smallestCut 0 = .ok (.aload_n 0, 1) := by decide +kernel
theorem dX12_smallestCut_1 : decode cX12_smallestCut 1 = .ok (.getfield 10, 3) := by decide +kernel
theorem dX12_smallestCut_4 : decode cX12_smallestCut 4 = .ok (.iload_n 1, 1) := by decide +kernel
theorem dX12_smallestCut_5 : decode cX12_smallestCut 5 = .ok (.iload_n 2, 1) := by decide +kernel
theorem dX12_smallestCut_6 : decode cX12_smallestCut 6 = .ok (.invokevirtual 279, 3) := by decide +kernel
theorem dX12_smallestCut_9 : decode cX12_smallestCut 9 = .ok (.invokestatic 82, 3) := by decide +kernel
theorem dX12_smallestCut_12 : decode cX12_smallestCut 12 = .ok (.aload_n 0, 1) := by decide +kernel
theorem dX12_smallestCut_13 : decode cX12_smallestCut 13 = .ok (.getfield 53, 3) := by decide +kernel
theorem dX12_smallestCut_16 : decode cX12_smallestCut 16 = .ok (.aload_n 0, 1) := by decide +kernel
theorem dX12_smallestCut_17 : decode cX12_smallestCut 17 = .ok (.getfield 10, 3) := by decide +kernel
theorem dX12_smallestCut_20 : decode cX12_smallestCut 20 = .ok (.iload_n 1, 1) := by decide +kernel
theorem dX12_smallestCut_21 : decode cX12_smallestCut 21 = .ok (.iload_n 2, 1) := by decide +kernel
theorem dX12_smallestCut_22 : decode cX12_smallestCut 22 = .ok (.invokevirtual 286, 3) := by decide +kernel
theorem dX12_smallestCut_25 : decode cX12_smallestCut 25 = .ok (.ireturn, 1) := by decide +kernel
theorem dX12_freeSeats_0 : decode cX12_freeSeats 0 = .ok (.aload_n 0, 1) := by decide +kernel
theorem dX12_freeSeats_1 : decode cX12_freeSeats 1 = .ok (.getfield 10, 3) := by decide +kernel
theorem dX12_freeSeats_4 : decode cX12_freeSeats 4 = .ok (.iload_n 1, 1) := by decide +kernel
theorem dX12_freeSeats_5 : decode cX12_freeSeats 5 = .ok (.iload_n 2, 1) := by decide +kernel
theorem dX12_freeSeats_6 : decode cX12_freeSeats 6 = .ok (.iload_n 3, 1) := by decide +kernel
theorem dX12_freeSeats_7 : decode cX12_freeSeats 7 = .ok (.iload 4, 2) := by decide +kernel
theorem dX12_freeSeats_9 : decode cX12_freeSeats 9 = .ok (.invokevirtual 289, 3) := by decide +kernel
theorem dX12_freeSeats_12 : decode cX12_freeSeats 12 = .ok (.invokestatic 82, 3) := by decide +kernel
theorem dX12_freeSeats_15 : decode cX12_freeSeats 15 = .ok (.aload_n 0, 1) := by decide +kernel
theorem dX12_freeSeats_16 : decode cX12_freeSeats 16 = .ok (.getfield 10, 3) := by decide +kernel
theorem dX12_freeSeats_19 : decode cX12_freeSeats 19 = .ok (.iload_n 1, 1) := by decide +kernel
theorem dX12_freeSeats_20 : decode cX12_freeSeats 20 = .ok (.iload_n 2, 1) := by decide +kernel
theorem dX12_freeSeats_21 : decode cX12_freeSeats 21 = .ok (.iload_n 3, 1) := by decide +kernel
theorem dX12_freeSeats_22 : decode cX12_freeSeats 22 = .ok (.iload 4, 2) := by decide +kernel
theorem dX12_freeSeats_24 : decode cX12_freeSeats 24 = .ok (.invokevirtual 292, 3) := by decide +kernel
theorem dX12_freeSeats_27 : decode cX12_freeSeats 27 = .ok (.ireturn, 1) := by decide +kernel
theorem dX12_freeSeatsBySweep_0 : decode cX12_freeSeatsBySweep 0 = .ok (.aload_n 0, 1) := by decide +kernel
theorem dX12_freeSeatsBySweep_1 : decode cX12_freeSeatsBySweep 1 = .ok (.getfield 10, 3) := by decide +kernel
theorem dX12_freeSeatsBySweep_4 : decode cX12_freeSeatsBySweep 4 = .ok (.iload_n 1, 1) := by decide +kernel
theorem dX12_freeSeatsBySweep_5 : decode cX12_freeSeatsBySweep 5 = .ok (.iload_n 2, 1) := by decide +kernel
theorem dX12_freeSeatsBySweep_6 : decode cX12_freeSeatsBySweep 6 = .ok (.iload_n 3, 1) := by decide +kernel
theorem dX12_freeSeatsBySweep_7 : decode cX12_freeSeatsBySweep 7 = .ok (.iload 4, 2) := by decide +kernel
theorem dX12_freeSeatsBySweep_9 : decode cX12_freeSeatsBySweep 9 = .ok (.invokevirtual 289, 3) := by decide +kernel
theorem dX12_freeSeatsBySweep_12 : decode cX12_freeSeatsBySweep 12 = .ok (.invokestatic 82, 3) := by decide +kernel
theorem dX12_freeSeatsBySweep_15 : decode cX12_freeSeatsBySweep 15 = .ok (.aload_n 0, 1) := by decide +kernel
theorem dX12_freeSeatsBySweep_16 : decode cX12_freeSeatsBySweep 16 = .ok (.getfield 10, 3) := by decide +kernel
theorem dX12_freeSeatsBySweep_19 : decode cX12_freeSeatsBySweep 19 = .ok (.iload_n 1, 1) := by decide +kernel
theorem dX12_freeSeatsBySweep_20 : decode cX12_freeSeatsBySweep 20 = .ok (.iload_n 2, 1) := by decide +kernel
theorem dX12_freeSeatsBySweep_21 : decode cX12_freeSeatsBySweep 21 = .ok (.iload_n 3, 1) := by decide +kernel
theorem dX12_freeSeatsBySweep_22 : decode cX12_freeSeatsBySweep 22 = .ok (.iload 4, 2) := by decide +kernel
theorem dX12_freeSeatsBySweep_24 : decode cX12_freeSeatsBySweep 24 = .ok (.invokevirtual 295, 3) := by decide +kernel
theorem dX12_freeSeatsBySweep_27 : decode cX12_freeSeatsBySweep 27 = .ok (.ireturn, 1) := by decide +kernel
theorem dX12_ticketCount_0 : decode cX12_ticketCount 0 = .ok (.aload_n 0, 1) := by decide +kernel
theorem dX12_ticketCount_1 : decode cX12_ticketCount 1 = .ok (.getfield 10, 3) := by decide +kernel
theorem dX12_ticketCount_4 : decode cX12_ticketCount 4 = .ok (.getfield 168, 3) := by decide +kernel
theorem dX12_ticketCount_7 : decode cX12_ticketCount 7 = .ok (.getfield 298, 3) := by decide +kernel
theorem dX12_ticketCount_10 : decode cX12_ticketCount 10 = .ok (.ireturn, 1) := by decide +kernel
theorem dX12_ticketAt_0 : decode cX12_ticketAt 0 = .ok (.iload_n 1, 1) := by decide +kernel
theorem dX12_ticketAt_1 : decode cX12_ticketAt 1 = .ok (.ifCond .lt 17, 3) := by decide +kernel
theorem dX12_ticketAt_4 : decode cX12_ticketAt 4 = .ok (.iload_n 1, 1) := by decide +kernel
theorem dX12_ticketAt_5 : decode cX12_ticketAt 5 = .ok (.aload_n 0, 1) := by decide +kernel
theorem dX12_ticketAt_6 : decode cX12_ticketAt 6 = .ok (.getfield 10, 3) := by decide +kernel
theorem dX12_ticketAt_9 : decode cX12_ticketAt 9 = .ok (.getfield 168, 3) := by decide +kernel
theorem dX12_ticketAt_12 : decode cX12_ticketAt 12 = .ok (.getfield 298, 3) := by decide +kernel
theorem dX12_ticketAt_15 : decode cX12_ticketAt 15 = .ok (.if_icmp .lt 13, 3) := by decide +kernel
theorem dX12_ticketAt_18 : decode cX12_ticketAt 18 = .ok (.new 301, 3) := by decide +kernel
theorem dX12_ticketAt_21 : decode cX12_ticketAt 21 = .ok (.dup, 1) := by decide +kernel
theorem dX12_ticketAt_22 : decode cX12_ticketAt 22 = .ok (.ldc 208, 2) := by decide +kernel
theorem dX12_ticketAt_24 : decode cX12_ticketAt 24 = .ok (.invokespecial 303, 3) := by decide +kernel
theorem dX12_ticketAt_27 : decode cX12_ticketAt 27 = .ok (.athrow, 1) := by decide +kernel
theorem dX12_ticketAt_28 : decode cX12_ticketAt 28 = .ok (.aload_n 0, 1) := by decide +kernel
theorem dX12_ticketAt_29 : decode cX12_ticketAt 29 = .ok (.getfield 10, 3) := by decide +kernel
theorem dX12_ticketAt_32 : decode cX12_ticketAt 32 = .ok (.getfield 168, 3) := by decide +kernel
theorem dX12_ticketAt_35 : decode cX12_ticketAt 35 = .ok (.getfield 304, 3) := by decide +kernel
theorem dX12_ticketAt_38 : decode cX12_ticketAt 38 = .ok (.iload_n 1, 1) := by decide +kernel
theorem dX12_ticketAt_39 : decode cX12_ticketAt 39 = .ok (.aaload, 1) := by decide +kernel
theorem dX12_ticketAt_40 : decode cX12_ticketAt 40 = .ok (.getfield 308, 3) := by decide +kernel
theorem dX12_ticketAt_43 : decode cX12_ticketAt 43 = .ok (.ireturn, 1) := by decide +kernel
theorem dX12_ticketLine_0 : decode cX12_ticketLine 0 = .ok (.aload_n 0, 1) := by decide +kernel
theorem dX12_ticketLine_1 : decode cX12_ticketLine 1 = .ok (.getfield 10, 3) := by decide +kernel
theorem dX12_ticketLine_4 : decode cX12_ticketLine 4 = .ok (.getfield 168, 3) := by decide +kernel
theorem dX12_ticketLine_7 : decode cX12_ticketLine 7 = .ok (.getfield 304, 3) := by decide +kernel
theorem dX12_ticketLine_10 : decode cX12_ticketLine 10 = .ok (.aload_n 0, 1) := by decide +kernel
theorem dX12_ticketLine_11 : decode cX12_ticketLine 11 = .ok (.iload_n 1, 1) := by decide +kernel
theorem dX12_ticketLine_12 : decode cX12_ticketLine 12 = .ok (.invokevirtual 165, 3) := by decide +kernel
theorem dX12_ticketLine_15 : decode cX12_ticketLine 15 = .ok (.aaload, 1) := by decide +kernel
theorem dX12_ticketLine_16 : decode cX12_ticketLine 16 = .ok (.getfield 313, 3) := by decide +kernel
theorem dX12_ticketLine_19 : decode cX12_ticketLine 19 = .ok (.ireturn, 1) := by decide +kernel
theorem dX12_ticketTrip_0 : decode cX12_ticketTrip 0 = .ok (.aload_n 0, 1) := by decide +kernel
theorem dX12_ticketTrip_1 : decode cX12_ticketTrip 1 = .ok (.getfield 10, 3) := by decide +kernel
theorem dX12_ticketTrip_4 : decode cX12_ticketTrip 4 = .ok (.getfield 168, 3) := by decide +kernel
theorem dX12_ticketTrip_7 : decode cX12_ticketTrip 7 = .ok (.getfield 304, 3) := by decide +kernel
theorem dX12_ticketTrip_10 : decode cX12_ticketTrip 10 = .ok (.aload_n 0, 1) := by decide +kernel
theorem dX12_ticketTrip_11 : decode cX12_ticketTrip 11 = .ok (.iload_n 1, 1) := by decide +kernel
theorem dX12_ticketTrip_12 : decode cX12_ticketTrip 12 = .ok (.invokevirtual 165, 3) := by decide +kernel
theorem dX12_ticketTrip_15 : decode cX12_ticketTrip 15 = .ok (.aaload, 1) := by decide +kernel
theorem dX12_ticketTrip_16 : decode cX12_ticketTrip 16 = .ok (.getfield 316, 3) := by decide +kernel
theorem dX12_ticketTrip_19 : decode cX12_ticketTrip 19 = .ok (.ireturn, 1) := by decide +kernel
theorem dX12_ticketFrom_0 : decode cX12_ticketFrom 0 = .ok (.aload_n 0, 1) := by decide +kernel
theorem dX12_ticketFrom_1 : decode cX12_ticketFrom 1 = .ok (.getfield 10, 3) := by decide +kernel
theorem dX12_ticketFrom_4 : decode cX12_ticketFrom 4 = .ok (.getfield 168, 3) := by decide +kernel
theorem dX12_ticketFrom_7 : decode cX12_ticketFrom 7 = .ok (.getfield 304, 3) := by decide +kernel
theorem dX12_ticketFrom_10 : decode cX12_ticketFrom 10 = .ok (.aload_n 0, 1) := by decide +kernel
theorem dX12_ticketFrom_11 : decode cX12_ticketFrom 11 = .ok (.iload_n 1, 1) := by decide +kernel
theorem dX12_ticketFrom_12 : decode cX12_ticketFrom 12 = .ok (.invokevirtual 165, 3) := by decide +kernel
theorem dX12_ticketFrom_15 : decode cX12_ticketFrom 15 = .ok (.aaload, 1) := by decide +kernel
theorem dX12_ticketFrom_16 : decode cX12_ticketFrom 16 = .ok (.getfield 319, 3) := by decide +kernel
theorem dX12_ticketFrom_19 : decode cX12_ticketFrom 19 = .ok (.ireturn, 1) := by decide +kernel
theorem dX12_ticketTo_0 : decode cX12_ticketTo 0 = .ok (.aload_n 0, 1) := by decide +kernel
theorem dX12_ticketTo_1 : decode cX12_ticketTo 1 = .ok (.getfield 10, 3) := by decide +kernel
theorem dX12_ticketTo_4 : decode cX12_ticketTo 4 = .ok (.getfield 168, 3) := by decide +kernel
theorem dX12_ticketTo_7 : decode cX12_ticketTo 7 = .ok (.getfield 304, 3) := by decide +kernel
theorem dX12_ticketTo_10 : decode cX12_ticketTo 10 = .ok (.aload_n 0, 1) := by decide +kernel
theorem dX12_ticketTo_11 : decode cX12_ticketTo 11 = .ok (.iload_n 1, 1) := by decide +kernel
theorem dX12_ticketTo_12 : decode cX12_ticketTo 12 = .ok (.invokevirtual 165, 3) := by decide +kernel
theorem dX12_ticketTo_15 : decode cX12_ticketTo 15 = .ok (.aaload, 1) := by decide +kernel
theorem dX12_ticketTo_16 : decode cX12_ticketTo 16 = .ok (.getfield 322, 3) := by decide +kernel
theorem dX12_ticketTo_19 : decode cX12_ticketTo 19 = .ok (.ireturn, 1) := by decide +kernel
theorem dX12_ticketPrice_0 : decode cX12_ticketPrice 0 = .ok (.aload_n 0, 1) := by decide +kernel
theorem dX12_ticketPrice_1 : decode cX12_ticketPrice 1 = .ok (.getfield 10, 3) := by decide +kernel
theorem dX12_ticketPrice_4 : decode cX12_ticketPrice 4 = .ok (.getfield 168, 3) := by decide +kernel
theorem dX12_ticketPrice_7 : decode cX12_ticketPrice 7 = .ok (.getfield 304, 3) := by decide +kernel
theorem dX12_ticketPrice_10 : decode cX12_ticketPrice 10 = .ok (.aload_n 0, 1) := by decide +kernel
theorem dX12_ticketPrice_11 : decode cX12_ticketPrice 11 = .ok (.iload_n 1, 1) := by decide +kernel
theorem dX12_ticketPrice_12 : decode cX12_ticketPrice 12 = .ok (.invokevirtual 165, 3) := by decide +kernel
theorem dX12_ticketPrice_15 : decode cX12_ticketPrice 15 = .ok (.aaload, 1) := by decide +kernel
theorem dX12_ticketPrice_16 : decode cX12_ticketPrice 16 = .ok (.getfield 325, 3) := by decide +kernel
theorem dX12_ticketPrice_19 : decode cX12_ticketPrice 19 = .ok (.ireturn, 1) := by decide +kernel
theorem dX12_income_0 : decode cX12_income 0 = .ok (.aload_n 0, 1) := by decide +kernel
theorem dX12_income_1 : decode cX12_income 1 = .ok (.getfield 10, 3) := by decide +kernel
theorem dX12_income_4 : decode cX12_income 4 = .ok (.getfield 168, 3) := by decide +kernel
theorem dX12_income_7 : decode cX12_income 7 = .ok (.getfield 328, 3) := by decide +kernel
theorem dX12_income_10 : decode cX12_income 10 = .ok (.ireturn, 1) := by decide +kernel
theorem dX12_refundedCoins_0 : decode cX12_refundedCoins 0 = .ok (.aload_n 0, 1) := by decide +kernel
theorem dX12_refundedCoins_1 : decode cX12_refundedCoins 1 = .ok (.getfield 10, 3) := by decide +kernel
theorem dX12_refundedCoins_4 : decode cX12_refundedCoins 4 = .ok (.getfield 168, 3) := by decide +kernel
theorem dX12_refundedCoins_7 : decode cX12_refundedCoins 7 = .ok (.getfield 331, 3) := by decide +kernel
theorem dX12_refundedCoins_10 : decode cX12_refundedCoins 10 = .ok (.ireturn, 1) := by decide +kernel
theorem dX12_usedTickets_0 : decode cX12_usedTickets 0 = .ok (.aload_n 0, 1) := by decide +kernel
theorem dX12_usedTickets_1 : decode cX12_usedTickets 1 = .ok (.getfield 10, 3) := by decide +kernel
theorem dX12_usedTickets_4 : decode cX12_usedTickets 4 = .ok (.getfield 168, 3) := by decide +kernel
theorem dX12_usedTickets_7 : decode cX12_usedTickets 7 = .ok (.getfield 334, 3) := by decide +kernel
theorem dX12_usedTickets_10 : decode cX12_usedTickets 10 = .ok (.ireturn, 1) := by decide +kernel
theorem dX12_lineByTickets_0 : decode cX12_lineByTickets 0 = .ok (.aload_n 0, 1) := by decide +kernel
theorem dX12_lineByTickets_1 : decode cX12_lineByTickets 1 = .ok (.getfield 10, 3) := by decide +kernel
theorem dX12_lineByTickets_4 : decode cX12_lineByTickets 4 = .ok (.iload_n 1, 1) := by decide +kernel
theorem dX12_lineByTickets_5 : decode cX12_lineByTickets 5 = .ok (.invokevirtual 337, 3) := by decide +kernel
theorem dX12_lineByTickets_8 : decode cX12_lineByTickets 8 = .ok (.istore_n 2, 1) := by decide +kernel
theorem dX12_lineByTickets_9 : decode cX12_lineByTickets 9 = .ok (.iload_n 2, 1) := by decide +kernel
theorem dX12_lineByTickets_10 : decode cX12_lineByTickets 10 = .ok (.iconst (-1), 1) := by decide +kernel
theorem dX12_lineByTickets_11 : decode cX12_lineByTickets 11 = .ok (.if_icmp .ne 14, 3) := by decide +kernel
theorem dX12_lineByTickets_14 : decode cX12_lineByTickets 14 = .ok (.new 206, 3) := by decide +kernel
theorem dX12_lineByTickets_17 : decode cX12_lineByTickets 17 = .ok (.dup, 1) := by decide +kernel
theorem dX12_lineByTickets_18 : decode cX12_lineByTickets 18 = .ok (.ldc_w 340, 3) := by decide +kernel
theorem dX12_lineByTickets_21 : decode cX12_lineByTickets 21 = .ok (.invokespecial 210, 3) := by decide +kernel
theorem dX12_lineByTickets_24 : decode cX12_lineByTickets 24 = .ok (.athrow, 1) := by decide +kernel
theorem dX12_lineByTickets_25 : decode cX12_lineByTickets 25 = .ok (.iload_n 2, 1) := by decide +kernel
theorem dX12_lineByTickets_26 : decode cX12_lineByTickets 26 = .ok (.ireturn, 1) := by decide +kernel
theorem dX12_stopByLines_0 : decode cX12_stopByLines 0 = .ok (.aload_n 0, 1) := by decide +kernel
theorem dX12_stopByLines_1 : decode cX12_stopByLines 1 = .ok (.getfield 10, 3) := by decide +kernel
theorem dX12_stopByLines_4 : decode cX12_stopByLines 4 = .ok (.iload_n 1, 1) := by decide +kernel
theorem dX12_stopByLines_5 : decode cX12_stopByLines 5 = .ok (.invokevirtual 342, 3) := by decide +kernel
theorem dX12_stopByLines_8 : decode cX12_stopByLines 8 = .ok (.istore_n 2, 1) := by decide +kernel
theorem dX12_stopByLines_9 : decode cX12_stopByLines 9 = .ok (.iload_n 2, 1) := by decide +kernel
theorem dX12_stopByLines_10 : decode cX12_stopByLines 10 = .ok (.iconst (-1), 1) := by decide +kernel
theorem dX12_stopByLines_11 : decode cX12_stopByLines 11 = .ok (.if_icmp .ne 14, 3) := by decide +kernel
theorem dX12_stopByLines_14 : decode cX12_stopByLines 14 = .ok (.new 206, 3) := by decide +kernel
theorem dX12_stopByLines_17 : decode cX12_stopByLines 17 = .ok (.dup, 1) := by decide +kernel
theorem dX12_stopByLines_18 : decode cX12_stopByLines 18 = .ok (.ldc_w 340, 3) := by decide +kernel
theorem dX12_stopByLines_21 : decode cX12_stopByLines 21 = .ok (.invokespecial 210, 3) := by decide +kernel
theorem dX12_stopByLines_24 : decode cX12_stopByLines 24 = .ok (.athrow, 1) := by decide +kernel
theorem dX12_stopByLines_25 : decode cX12_stopByLines 25 = .ok (.iload_n 2, 1) := by decide +kernel
theorem dX12_stopByLines_26 : decode cX12_stopByLines 26 = .ok (.ireturn, 1) := by decide +kernel
theorem dX12_meanPrice_0 : decode cX12_meanPrice 0 = .ok (.aload_n 0, 1) := by decide +kernel
theorem dX12_meanPrice_1 : decode cX12_meanPrice 1 = .ok (.getfield 10, 3) := by decide +kernel
theorem dX12_meanPrice_4 : decode cX12_meanPrice 4 = .ok (.getfield 168, 3) := by decide +kernel
theorem dX12_meanPrice_7 : decode cX12_meanPrice 7 = .ok (.getfield 298, 3) := by decide +kernel
theorem dX12_meanPrice_10 : decode cX12_meanPrice 10 = .ok (.ifCond .ne 14, 3) := by decide +kernel
theorem dX12_meanPrice_13 : decode cX12_meanPrice 13 = .ok (.new 345, 3) := by decide +kernel
theorem dX12_meanPrice_16 : decode cX12_meanPrice 16 = .ok (.dup, 1) := by decide +kernel
theorem dX12_meanPrice_17 : decode cX12_meanPrice 17 = .ok (.ldc_w 347, 3) := by decide +kernel
theorem dX12_meanPrice_20 : decode cX12_meanPrice 20 = .ok (.invokespecial 349, 3) := by decide +kernel
theorem dX12_meanPrice_23 : decode cX12_meanPrice 23 = .ok (.athrow, 1) := by decide +kernel
theorem dX12_meanPrice_24 : decode cX12_meanPrice 24 = .ok (.aload_n 0, 1) := by decide +kernel
theorem dX12_meanPrice_25 : decode cX12_meanPrice 25 = .ok (.getfield 10, 3) := by decide +kernel
theorem dX12_meanPrice_28 : decode cX12_meanPrice 28 = .ok (.getfield 168, 3) := by decide +kernel
theorem dX12_meanPrice_31 : decode cX12_meanPrice 31 = .ok (.invokevirtual 350, 3) := by decide +kernel
theorem dX12_meanPrice_34 : decode cX12_meanPrice 34 = .ok (.i2d, 1) := by decide +kernel
theorem dX12_meanPrice_35 : decode cX12_meanPrice 35 = .ok (.aload_n 0, 1) := by decide +kernel
theorem dX12_meanPrice_36 : decode cX12_meanPrice 36 = .ok (.getfield 10, 3) := by decide +kernel
theorem dX12_meanPrice_39 : decode cX12_meanPrice 39 = .ok (.getfield 168, 3) := by decide +kernel
theorem dX12_meanPrice_42 : decode cX12_meanPrice 42 = .ok (.getfield 298, 3) := by decide +kernel
theorem dX12_meanPrice_45 : decode cX12_meanPrice 45 = .ok (.i2d, 1) := by decide +kernel
theorem dX12_meanPrice_46 : decode cX12_meanPrice 46 = .ok (.ddiv, 1) := by decide +kernel
theorem dX12_meanPrice_47 : decode cX12_meanPrice 47 = .ok (.dreturn, 1) := by decide +kernel
theorem dX12_closedShare_0 : decode cX12_closedShare 0 = .ok (.aload_n 0, 1) := by decide +kernel
theorem dX12_closedShare_1 : decode cX12_closedShare 1 = .ok (.getfield 10, 3) := by decide +kernel
theorem dX12_closedShare_4 : decode cX12_closedShare 4 = .ok (.getfield 186, 3) := by decide +kernel
theorem dX12_closedShare_7 : decode cX12_closedShare 7 = .ok (.ifCond .ne 14, 3) := by decide +kernel
theorem dX12_closedShare_10 : decode cX12_closedShare 10 = .ok (.new 345, 3) := by decide +kernel
theorem dX12_closedShare_13 : decode cX12_closedShare 13 = .ok (.dup, 1) := by decide +kernel
theorem dX12_closedShare_14 : decode cX12_closedShare 14 = .ok (.ldc_w 353, 3) := by decide +kernel
theorem dX12_closedShare_17 : decode cX12_closedShare 17 = .ok (.invokespecial 349, 3) := by decide +kernel
theorem dX12_closedShare_20 : decode cX12_closedShare 20 = .ok (.athrow, 1) := by decide +kernel
theorem dX12_closedShare_21 : decode cX12_closedShare 21 = .ok (.aload_n 0, 1) := by decide +kernel
theorem dX12_closedShare_22 : decode cX12_closedShare 22 = .ok (.getfield 10, 3) := by decide +kernel
theorem dX12_closedShare_25 : decode cX12_closedShare 25 = .ok (.invokevirtual 355, 3) := by decide +kernel
theorem dX12_closedShare_28 : decode cX12_closedShare 28 = .ok (.i2f, 1) := by decide +kernel
theorem dX12_closedShare_29 : decode cX12_closedShare 29 = .ok (.aload_n 0, 1) := by decide +kernel
theorem dX12_closedShare_30 : decode cX12_closedShare 30 = .ok (.getfield 10, 3) := by decide +kernel
theorem dX12_closedShare_33 : decode cX12_closedShare 33 = .ok (.getfield 186, 3) := by decide +kernel
theorem dX12_closedShare_36 : decode cX12_closedShare 36 = .ok (.i2f, 1) := by decide +kernel
theorem dX12_closedShare_37 : decode cX12_closedShare 37 = .ok (.fdiv, 1) := by decide +kernel
theorem dX12_closedShare_38 : decode cX12_closedShare 38 = .ok (.freturn, 1) := by decide +kernel
theorem dX12_isConsistent_0 : decode cX12_isConsistent 0 = .ok (.aload_n 0, 1) := by decide +kernel
theorem dX12_isConsistent_1 : decode cX12_isConsistent 1 = .ok (.invokevirtual 358, 3) := by decide +kernel
theorem dX12_isConsistent_4 : decode cX12_isConsistent 4 = .ok (.ifCond .eq 21, 3) := by decide +kernel
theorem dX12_isConsistent_7 : decode cX12_isConsistent 7 = .ok (.aload_n 0, 1) := by decide +kernel
theorem dX12_isConsistent_8 : decode cX12_isConsistent 8 = .ok (.invokevirtual 361, 3) := by decide +kernel
theorem dX12_isConsistent_11 : decode cX12_isConsistent 11 = .ok (.ifCond .eq 14, 3) := by decide +kernel
theorem dX12_isConsistent_14 : decode cX12_isConsistent 14 = .ok (.aload_n 0, 1) := by decide +kernel
theorem dX12_isConsistent_15 : decode cX12_isConsistent 15 = .ok (.invokevirtual 364, 3) := by decide +kernel
theorem dX12_isConsistent_18 : decode cX12_isConsistent 18 = .ok (.ifCond .eq 7, 3) := by decide +kernel
theorem dX12_isConsistent_21 : decode cX12_isConsistent 21 = .ok (.iconst 1, 1) := by decide +kernel
theorem dX12_isConsistent_22 : decode cX12_isConsistent 22 = .ok (.goto 4, 3) := by decide +kernel
theorem dX12_isConsistent_25 : decode cX12_isConsistent 25 = .ok (.iconst 0, 1) := by decide +kernel
theorem dX12_isConsistent_26 : decode cX12_isConsistent 26 = .ok (.ireturn, 1) := by decide +kernel
theorem dX12_renderLine_0 : decode cX12_renderLine 0 = .ok (.aload_n 0, 1) := by decide +kernel
theorem dX12_renderLine_1 : decode cX12_renderLine 1 = .ok (.getfield 10, 3) := by decide +kernel
theorem dX12_renderLine_4 : decode cX12_renderLine 4 = .ok (.iload_n 1, 1) := by decide +kernel
theorem dX12_renderLine_5 : decode cX12_renderLine 5 = .ok (.invokevirtual 153, 3) := by decide +kernel
theorem dX12_renderLine_8 : decode cX12_renderLine 8 = .ok (.invokestatic 82, 3) := by decide +kernel
theorem dX12_renderLine_11 : decode cX12_renderLine 11 = .ok (.aload_n 0, 1) := by decide +kernel
theorem dX12_renderLine_12 : decode cX12_renderLine 12 = .ok (.getfield 10, 3) := by decide +kernel
theorem dX12_renderLine_15 : decode cX12_renderLine 15 = .ok (.getfield 121, 3) := by decide +kernel
theorem dX12_renderLine_18 : decode cX12_renderLine 18 = .ok (.iload_n 1, 1) := by decide +kernel
theorem dX12_renderLine_19 : decode cX12_renderLine 19 = .ok (.aaload, 1) := by decide +kernel
theorem dX12_renderLine_20 : decode cX12_renderLine 20 = .ok (.astore_n 2, 1) := by decide +kernel
theorem dX12_renderLine_21 : decode cX12_renderLine 21 = .ok (.aload_n 0, 1) := by decide +kernel
theorem dX12_renderLine_22 : decode cX12_renderLine 22 = .ok (.getfield 74, 3) := by decide +kernel
theorem dX12_renderLine_25 : decode cX12_renderLine 25 = .ok (.iconst 0, 1) := by decide +kernel
theorem dX12_renderLine_26 : decode cX12_renderLine 26 = .ok (.invokevirtual 367, 3) := by decide +kernel
theorem dX12_renderLine_29 : decode cX12_renderLine 29 = .ok (.aload_n 0, 1) := by decide +kernel
theorem dX12_renderLine_30 : decode cX12_renderLine 30 = .ok (.getfield 74, 3) := by decide +kernel
theorem dX12_renderLine_33 : decode cX12_renderLine 33 = .ok (.aload_n 2, 1) := by decide +kernel
theorem dX12_renderLine_34 : decode cX12_renderLine 34 = .ok (.getfield 371, 3) := by decide +kernel
theorem dX12_renderLine_37 : decode cX12_renderLine 37 = .ok (.invokevirtual 374, 3) := by decide +kernel
theorem dX12_renderLine_40 : decode cX12_renderLine 40 = .ok (.bipush 47, 2) := by decide +kernel
theorem dX12_renderLine_42 : decode cX12_renderLine 42 = .ok (.invokevirtual 377, 3) := by decide +kernel
theorem dX12_renderLine_45 : decode cX12_renderLine 45 = .ok (.aload_n 2, 1) := by decide +kernel
theorem dX12_renderLine_46 : decode cX12_renderLine 46 = .ok (.getfield 380, 3) := by decide +kernel
theorem dX12_renderLine_49 : decode cX12_renderLine 49 = .ok (.invokevirtual 374, 3) := by decide +kernel
theorem dX12_renderLine_52 : decode cX12_renderLine 52 = .ok (.pop, 1) := by decide +kernel
theorem dX12_renderLine_53 : decode cX12_renderLine 53 = .ok (.aload_n 0, 1) := by decide +kernel
theorem dX12_renderLine_54 : decode cX12_renderLine 54 = .ok (.getfield 74, 3) := by decide +kernel
theorem dX12_renderLine_57 : decode cX12_renderLine 57 = .ok (.bipush 43, 2) := by decide +kernel
theorem dX12_renderLine_59 : decode cX12_renderLine 59 = .ok (.invokevirtual 377, 3) := by decide +kernel
theorem dX12_renderLine_62 : decode cX12_renderLine 62 = .ok (.aload_n 2, 1) := by decide +kernel
theorem dX12_renderLine_63 : decode cX12_renderLine 63 = .ok (.aload_n 0, 1) := by decide +kernel
theorem dX12_renderLine_64 : decode cX12_renderLine 64 = .ok (.getfield 10, 3) := by decide +kernel
theorem dX12_renderLine_67 : decode cX12_renderLine 67 = .ok (.getfield 137, 3) := by decide +kernel
theorem dX12_renderLine_70 : decode cX12_renderLine 70 = .ok (.invokevirtual 224, 3) := by decide +kernel
theorem dX12_renderLine_73 : decode cX12_renderLine 73 = .ok (.invokevirtual 374, 3) := by decide +kernel
theorem dX12_renderLine_76 : decode cX12_renderLine 76 = .ok (.bipush 120, 2) := by decide +kernel
theorem dX12_renderLine_78 : decode cX12_renderLine 78 = .ok (.invokevirtual 377, 3) := by decide +kernel
theorem dX12_renderLine_81 : decode cX12_renderLine 81 = .ok (.aload_n 2, 1) := by decide +kernel
theorem dX12_renderLine_82 : decode cX12_renderLine 82 = .ok (.getfield 383, 3) := by decide +kernel
theorem dX12_renderLine_85 : decode cX12_renderLine 85 = .ok (.invokevirtual 374, 3) := by decide +kernel
theorem dX12_renderLine_88 : decode cX12_renderLine 88 = .ok (.pop, 1) := by decide +kernel
theorem dX12_renderLine_89 : decode cX12_renderLine 89 = .ok (.aload_n 0, 1) := by decide +kernel
theorem dX12_renderLine_90 : decode cX12_renderLine 90 = .ok (.getfield 74, 3) := by decide +kernel
theorem dX12_renderLine_93 : decode cX12_renderLine 93 = .ok (.bipush 58, 2) := by decide +kernel
theorem dX12_renderLine_95 : decode cX12_renderLine 95 = .ok (.invokevirtual 377, 3) := by decide +kernel
theorem dX12_renderLine_98 : decode cX12_renderLine 98 = .ok (.pop, 1) := by decide +kernel
theorem dX12_renderLine_99 : decode cX12_renderLine 99 = .ok (.iconst 0, 1) := by decide +kernel
theorem dX12_renderLine_100 : decode cX12_renderLine 100 = .ok (.istore_n 3, 1) := by decide +kernel
theorem dX12_renderLine_101 : decode cX12_renderLine 101 = .ok (.iload_n 3, 1) := by decide +kernel
theorem dX12_renderLine_102 : decode cX12_renderLine 102 = .ok (.aload_n 2, 1) := by decide +kernel
theorem dX12_renderLine_103 : decode cX12_renderLine 103 = .ok (.getfield 199, 3) := by decide +kernel
theorem dX12_renderLine_106 : decode cX12_renderLine 106 = .ok (.if_icmp .ge 37, 3) := by decide +kernel
theorem dX12_renderLine_109 : decode cX12_renderLine 109 = .ok (.iload_n 3, 1) := by decide +kernel
theorem dX12_renderLine_110 : decode cX12_renderLine 110 = .ok (.ifCond .le 13, 3) := by decide +kernel
theorem dX12_renderLine_113 : decode cX12_renderLine 113 = .ok (.aload_n 0, 1) := by decide +kernel
theorem dX12_renderLine_114 : decode cX12_renderLine 114 = .ok (.getfield 74, 3) := by decide +kernel
theorem dX12_renderLine_117 : decode cX12_renderLine 117 = .ok (.bipush 62, 2) := by decide +kernel
theorem dX12_renderLine_119 : decode cX12_renderLine 119 = .ok (.invokevirtual 377, 3) := by decide +kernel
theorem dX12_renderLine_122 : decode cX12_renderLine 122 = .ok (.pop, 1) := by decide +kernel
theorem dX12_renderLine_123 : decode cX12_renderLine 123 = .ok (.aload_n 0, 1) := by decide +kernel
theorem dX12_renderLine_124 : decode cX12_renderLine 124 = .ok (.getfield 74, 3) := by decide +kernel
theorem dX12_renderLine_127 : decode cX12_renderLine 127 = .ok (.aload_n 2, 1) := by decide +kernel
theorem dX12_renderLine_128 : decode cX12_renderLine 128 = .ok (.getfield 386, 3) := by decide +kernel
theorem dX12_renderLine_131 : decode cX12_renderLine 131 = .ok (.iload_n 3, 1) := by decide +kernel
theorem dX12_renderLine_132 : decode cX12_renderLine 132 = .ok (.iaload, 1) := by decide +kernel
theorem dX12_renderLine_133 : decode cX12_renderLine 133 = .ok (.invokevirtual 374, 3) := by decide +kernel
theorem dX12_renderLine_136 : decode cX12_renderLine 136 = .ok (.pop, 1) := by decide +kernel
theorem dX12_renderLine_137 : decode cX12_renderLine 137 = .ok (.iinc 3 1, 3) := by decide +kernel
theorem dX12_renderLine_140 : decode cX12_renderLine 140 = .ok (.goto (-39), 3) := by decide +kernel
theorem dX12_renderLine_143 : decode cX12_renderLine 143 = .ok (.aload_n 2, 1) := by decide +kernel
theorem dX12_renderLine_144 : decode cX12_renderLine 144 = .ok (.getfield 156, 3) := by decide +kernel
theorem dX12_renderLine_147 : decode cX12_renderLine 147 = .ok (.ifCond .eq 13, 3) := by decide +kernel
theorem dX12_renderLine_150 : decode cX12_renderLine 150 = .ok (.aload_n 0, 1) := by decide +kernel
theorem dX12_renderLine_151 : decode cX12_renderLine 151 = .ok (.getfield 74, 3) := by decide +kernel
theorem dX12_renderLine_154 : decode cX12_renderLine 154 = .ok (.bipush 33, 2) := by decide +kernel
theorem dX12_renderLine_156 : decode cX12_renderLine 156 = .ok (.invokevirtual 377, 3) := by decide +kernel
theorem dX12_renderLine_159 : decode cX12_renderLine 159 = .ok (.pop, 1) := by decide +kernel
theorem dX12_renderLine_160 : decode cX12_renderLine 160 = .ok (.aload_n 0, 1) := by decide +kernel
theorem dX12_renderLine_161 : decode cX12_renderLine 161 = .ok (.getfield 74, 3) := by decide +kernel
theorem dX12_renderLine_164 : decode cX12_renderLine 164 = .ok (.invokevirtual 389, 3) := by decide +kernel
theorem dX12_renderLine_167 : decode cX12_renderLine 167 = .ok (.ireturn, 1) := by decide +kernel
theorem dX12_renderTicket_0 : decode cX12_renderTicket 0 = .ok (.aload_n 0, 1) := by decide +kernel
theorem dX12_renderTicket_1 : decode cX12_renderTicket 1 = .ok (.getfield 10, 3) := by decide +kernel
theorem dX12_renderTicket_4 : decode cX12_renderTicket 4 = .ok (.getfield 168, 3) := by decide +kernel
theorem dX12_renderTicket_7 : decode cX12_renderTicket 7 = .ok (.getfield 304, 3) := by decide +kernel
theorem dX12_renderTicket_10 : decode cX12_renderTicket 10 = .ok (.aload_n 0, 1) := by decide +kernel
theorem dX12_renderTicket_11 : decode cX12_renderTicket 11 = .ok (.iload_n 1, 1) := by decide +kernel
theorem dX12_renderTicket_12 : decode cX12_renderTicket 12 = .ok (.invokevirtual 165, 3) := by decide +kernel
theorem dX12_renderTicket_15 : decode cX12_renderTicket 15 = .ok (.aaload, 1) := by decide +kernel
theorem dX12_renderTicket_16 : decode cX12_renderTicket 16 = .ok (.astore_n 2, 1) := by decide +kernel
theorem dX12_renderTicket_17 : decode cX12_renderTicket 17 = .ok (.aload_n 0, 1) := by decide +kernel
theorem dX12_renderTicket_18 : decode cX12_renderTicket 18 = .ok (.getfield 74, 3) := by decide +kernel
theorem dX12_renderTicket_21 : decode cX12_renderTicket 21 = .ok (.iconst 0, 1) := by decide +kernel
theorem dX12_renderTicket_22 : decode cX12_renderTicket 22 = .ok (.invokevirtual 367, 3) := by decide +kernel
theorem dX12_renderTicket_25 : decode cX12_renderTicket 25 = .ok (.aload_n 0, 1) := by decide +kernel
theorem dX12_renderTicket_26 : decode cX12_renderTicket 26 = .ok (.getfield 74, 3) := by decide +kernel
theorem dX12_renderTicket_29 : decode cX12_renderTicket 29 = .ok (.bipush 35, 2) := by decide +kernel
theorem dX12_renderTicket_31 : decode cX12_renderTicket 31 = .ok (.invokevirtual 377, 3) := by decide +kernel
theorem dX12_renderTicket_34 : decode cX12_renderTicket 34 = .ok (.aload_n 2, 1) := by decide +kernel
theorem dX12_renderTicket_35 : decode cX12_renderTicket 35 = .ok (.getfield 308, 3) := by decide +kernel
theorem dX12_renderTicket_38 : decode cX12_renderTicket 38 = .ok (.invokevirtual 374, 3) := by decide +kernel
theorem dX12_renderTicket_41 : decode cX12_renderTicket 41 = .ok (.pop, 1) := by decide +kernel
theorem dX12_renderTicket_42 : decode cX12_renderTicket 42 = .ok (.aload_n 0, 1) := by decide +kernel
theorem dX12_renderTicket_43 : decode cX12_renderTicket 43 = .ok (.getfield 74, 3) := by decide +kernel
theorem dX12_renderTicket_46 : decode cX12_renderTicket 46 = .ok (.bipush 32, 2) := by decide +kernel
theorem dX12_renderTicket_48 : decode cX12_renderTicket 48 = .ok (.invokevirtual 377, 3) := by decide +kernel
theorem dX12_renderTicket_51 : decode cX12_renderTicket 51 = .ok (.aload_n 2, 1) := by decide +kernel
theorem dX12_renderTicket_52 : decode cX12_renderTicket 52 = .ok (.getfield 313, 3) := by decide +kernel
theorem dX12_renderTicket_55 : decode cX12_renderTicket 55 = .ok (.invokevirtual 374, 3) := by decide +kernel
theorem dX12_renderTicket_58 : decode cX12_renderTicket 58 = .ok (.bipush 46, 2) := by decide +kernel
theorem dX12_renderTicket_60 : decode cX12_renderTicket 60 = .ok (.invokevirtual 377, 3) := by decide +kernel
theorem dX12_renderTicket_63 : decode cX12_renderTicket 63 = .ok (.aload_n 2, 1) := by decide +kernel
theorem dX12_renderTicket_64 : decode cX12_renderTicket 64 = .ok (.getfield 316, 3) := by decide +kernel
theorem dX12_renderTicket_67 : decode cX12_renderTicket 67 = .ok (.invokevirtual 374, 3) := by decide +kernel
theorem dX12_renderTicket_70 : decode cX12_renderTicket 70 = .ok (.pop, 1) := by decide +kernel
theorem dX12_renderTicket_71 : decode cX12_renderTicket 71 = .ok (.aload_n 0, 1) := by decide +kernel
theorem dX12_renderTicket_72 : decode cX12_renderTicket 72 = .ok (.getfield 74, 3) := by decide +kernel
theorem dX12_renderTicket_75 : decode cX12_renderTicket 75 = .ok (.bipush 32, 2) := by decide +kernel
theorem dX12_renderTicket_77 : decode cX12_renderTicket 77 = .ok (.invokevirtual 377, 3) := by decide +kernel
theorem dX12_renderTicket_80 : decode cX12_renderTicket 80 = .ok (.aload_n 2, 1) := by decide +kernel
theorem dX12_renderTicket_81 : decode cX12_renderTicket 81 = .ok (.getfield 319, 3) := by decide +kernel
theorem dX12_renderTicket_84 : decode cX12_renderTicket 84 = .ok (.invokevirtual 374, 3) := by decide +kernel
theorem dX12_renderTicket_87 : decode cX12_renderTicket 87 = .ok (.bipush 62, 2) := by decide +kernel
theorem dX12_renderTicket_89 : decode cX12_renderTicket 89 = .ok (.invokevirtual 377, 3) := by decide +kernel
theorem dX12_renderTicket_92 : decode cX12_renderTicket 92 = .ok (.aload_n 2, 1) := by decide +kernel
theorem dX12_renderTicket_93 : decode cX12_renderTicket 93 = .ok (.getfield 322, 3) := by decide +kernel
theorem dX12_renderTicket_96 : decode cX12_renderTicket 96 = .ok (.invokevirtual 374, 3) := by decide +kernel
theorem dX12_renderTicket_99 : decode cX12_renderTicket 99 = .ok (.pop, 1) := by decide +kernel
theorem dX12_renderTicket_100 : decode cX12_renderTicket 100 = .ok (.aload_n 0, 1) := by decide +kernel
theorem dX12_renderTicket_101 : decode cX12_renderTicket 101 = .ok (.getfield 74, 3) := by decide +kernel
theorem dX12_renderTicket_104 : decode cX12_renderTicket 104 = .ok (.bipush 61, 2) := by decide +kernel
theorem dX12_renderTicket_106 : decode cX12_renderTicket 106 = .ok (.invokevirtual 377, 3) := by decide +kernel
theorem dX12_renderTicket_109 : decode cX12_renderTicket 109 = .ok (.aload_n 2, 1) := by decide +kernel
theorem dX12_renderTicket_110 : decode cX12_renderTicket 110 = .ok (.getfield 325, 3) := by decide +kernel
theorem dX12_renderTicket_113 : decode cX12_renderTicket 113 = .ok (.invokevirtual 374, 3) := by decide +kernel
theorem dX12_renderTicket_116 : decode cX12_renderTicket 116 = .ok (.pop, 1) := by decide +kernel
theorem dX12_renderTicket_117 : decode cX12_renderTicket 117 = .ok (.aload_n 0, 1) := by decide +kernel
theorem dX12_renderTicket_118 : decode cX12_renderTicket 118 = .ok (.getfield 74, 3) := by decide +kernel
theorem dX12_renderTicket_121 : decode cX12_renderTicket 121 = .ok (.invokevirtual 389, 3) := by decide +kernel
theorem dX12_renderTicket_124 : decode cX12_renderTicket 124 = .ok (.ireturn, 1) := by decide +kernel
theorem dX12_outputAt_0 : decode cX12_outputAt 0 = .ok (.iload_n 1, 1) := by decide +kernel
theorem dX12_outputAt_1 : decode cX12_outputAt 1 = .ok (.ifCond .lt 14, 3) := by decide +kernel
theorem dX12_outputAt_4 : decode cX12_outputAt 4 = .ok (.iload_n 1, 1) := by decide +kernel
theorem dX12_outputAt_5 : decode cX12_outputAt 5 = .ok (.aload_n 0, 1) := by decide +kernel
theorem dX12_outputAt_6 : decode cX12_outputAt 6 = .ok (.getfield 74, 3) := by decide +kernel
theorem dX12_outputAt_9 : decode cX12_outputAt 9 = .ok (.invokevirtual 389, 3) := by decide +kernel
theorem dX12_outputAt_12 : decode cX12_outputAt 12 = .ok (.if_icmp .lt 14, 3) := by decide +kernel
theorem dX12_outputAt_15 : decode cX12_outputAt 15 = .ok (.new 301, 3) := by decide +kernel
theorem dX12_outputAt_18 : decode cX12_outputAt 18 = .ok (.dup, 1) := by decide +kernel
theorem dX12_outputAt_19 : decode cX12_outputAt 19 = .ok (.ldc_w 392, 3) := by decide +kernel
theorem dX12_outputAt_22 : decode cX12_outputAt 22 = .ok (.invokespecial 303, 3) := by decide +kernel
theorem dX12_outputAt_25 : decode cX12_outputAt 25 = .ok (.athrow, 1) := by decide +kernel
theorem dX12_outputAt_26 : decode cX12_outputAt 26 = .ok (.aload_n 0, 1) := by decide +kernel
theorem dX12_outputAt_27 : decode cX12_outputAt 27 = .ok (.getfield 74, 3) := by decide +kernel
theorem dX12_outputAt_30 : decode cX12_outputAt 30 = .ok (.iload_n 1, 1) := by decide +kernel
theorem dX12_outputAt_31 : decode cX12_outputAt 31 = .ok (.invokevirtual 394, 3) := by decide +kernel
theorem dX12_outputAt_34 : decode cX12_outputAt 34 = .ok (.ireturn, 1) := by decide +kernel
theorem dX12_type_0 : decode cX12_type 0 = .ok (.iload_n 1, 1) := by decide +kernel
theorem dX12_type_1 : decode cX12_type 1 = .ok (.bipush 32, 2) := by decide +kernel
theorem dX12_type_3 : decode cX12_type 3 = .ok (.if_icmp .lt 9, 3) := by decide +kernel
theorem dX12_type_6 : decode cX12_type 6 = .ok (.iload_n 1, 1) := by decide +kernel
theorem dX12_type_7 : decode cX12_type 7 = .ok (.bipush 126, 2) := by decide +kernel
theorem dX12_type_9 : decode cX12_type 9 = .ok (.if_icmp .le 14, 3) := by decide +kernel
theorem dX12_type_12 : decode cX12_type 12 = .ok (.new 398, 3) := by decide +kernel
theorem dX12_type_15 : decode cX12_type 15 = .ok (.dup, 1) := by decide +kernel
theorem dX12_type_16 : decode cX12_type 16 = .ok (.ldc_w 400, 3) := by decide +kernel
theorem dX12_type_19 : decode cX12_type 19 = .ok (.invokespecial 402, 3) := by decide +kernel
theorem dX12_type_22 : decode cX12_type 22 = .ok (.athrow, 1) := by decide +kernel
theorem dX12_type_23 : decode cX12_type 23 = .ok (.aload_n 0, 1) := by decide +kernel
theorem dX12_type_24 : decode cX12_type 24 = .ok (.getfield 60, 3) := by decide +kernel
theorem dX12_type_27 : decode cX12_type 27 = .ok (.getfield 403, 3) := by decide +kernel
theorem dX12_type_30 : decode cX12_type 30 = .ok (.bipush 60, 2) := by decide +kernel
theorem dX12_type_32 : decode cX12_type 32 = .ok (.if_icmp .lt 14, 3) := by decide +kernel
theorem dX12_type_35 : decode cX12_type 35 = .ok (.new 405, 3) := by decide +kernel
theorem dX12_type_38 : decode cX12_type 38 = .ok (.dup, 1) := by decide +kernel
theorem dX12_type_39 : decode cX12_type 39 = .ok (.ldc_w 407, 3) := by decide +kernel
theorem dX12_type_42 : decode cX12_type 42 = .ok (.invokespecial 409, 3) := by decide +kernel
theorem dX12_type_45 : decode cX12_type 45 = .ok (.athrow, 1) := by decide +kernel
theorem dX12_type_46 : decode cX12_type 46 = .ok (.aload_n 0, 1) := by decide +kernel
theorem dX12_type_47 : decode cX12_type 47 = .ok (.getfield 60, 3) := by decide +kernel
theorem dX12_type_50 : decode cX12_type 50 = .ok (.iload_n 1, 1) := by decide +kernel
theorem dX12_type_51 : decode cX12_type 51 = .ok (.invokevirtual 410, 3) := by decide +kernel
theorem dX12_type_54 : decode cX12_type 54 = .ok (.ireturn, 1) := by decide +kernel
theorem dX12_runScript_0 : decode cX12_runScript 0 = .ok (.aload_n 0, 1) := by decide +kernel
theorem dX12_runScript_1 : decode cX12_runScript 1 = .ok (.getfield 60, 3) := by decide +kernel
theorem dX12_runScript_4 : decode cX12_runScript 4 = .ok (.invokevirtual 413, 3) := by decide +kernel
theorem dX12_runScript_7 : decode cX12_runScript 7 = .ok (.istore_n 1, 1) := by decide +kernel
theorem dX12_runScript_8 : decode cX12_runScript 8 = .ok (.aload_n 0, 1) := by decide +kernel
theorem dX12_runScript_9 : decode cX12_runScript 9 = .ok (.getfield 60, 3) := by decide +kernel
theorem dX12_runScript_12 : decode cX12_runScript 12 = .ok (.iconst 0, 1) := by decide +kernel
theorem dX12_runScript_13 : decode cX12_runScript 13 = .ok (.putfield 403, 3) := by decide +kernel
theorem dX12_runScript_16 : decode cX12_runScript 16 = .ok (.iload_n 1, 1) := by decide +kernel
theorem dX12_runScript_17 : decode cX12_runScript 17 = .ok (.ifCond .ne 25, 3) := by decide +kernel
theorem dX12_runScript_20 : decode cX12_runScript 20 = .ok (.aload_n 0, 1) := by decide +kernel
theorem dX12_runScript_21 : decode cX12_runScript 21 = .ok (.aload_n 0, 1) := by decide +kernel
theorem dX12_runScript_22 : decode cX12_runScript 22 = .ok (.getfield 60, 3) := by decide +kernel
theorem dX12_runScript_25 : decode cX12_runScript 25 = .ok (.getfield 416, 3) := by decide +kernel
theorem dX12_runScript_28 : decode cX12_runScript 28 = .ok (.putfield 64, 3) := by decide +kernel
theorem dX12_runScript_31 : decode cX12_runScript 31 = .ok (.new 398, 3) := by decide +kernel
theorem dX12_runScript_34 : decode cX12_runScript 34 = .ok (.dup, 1) := by decide +kernel
theorem dX12_runScript_35 : decode cX12_runScript 35 = .ok (.ldc_w 419, 3) := by decide +kernel
theorem dX12_runScript_38 : decode cX12_runScript 38 = .ok (.invokespecial 402, 3) := by decide +kernel
theorem dX12_runScript_41 : decode cX12_runScript 41 = .ok (.athrow, 1) := by decide +kernel
theorem dX12_runScript_42 : decode cX12_runScript 42 = .ok (.aload_n 0, 1) := by decide +kernel
theorem dX12_runScript_43 : decode cX12_runScript 43 = .ok (.getfield 16, 3) := by decide +kernel
theorem dX12_runScript_46 : decode cX12_runScript 46 = .ok (.aload_n 0, 1) := by decide +kernel
theorem dX12_runScript_47 : decode cX12_runScript 47 = .ok (.getfield 10, 3) := by decide +kernel
theorem dX12_runScript_50 : decode cX12_runScript 50 = .ok (.invokevirtual 421, 3) := by decide +kernel
theorem dX12_runScript_53 : decode cX12_runScript 53 = .ok (.aload_n 0, 1) := by decide +kernel
theorem dX12_runScript_54 : decode cX12_runScript 54 = .ok (.invokevirtual 424, 3) := by decide +kernel
theorem dX12_runScript_57 : decode cX12_runScript 57 = .ok (.istore_n 2, 1) := by decide +kernel
theorem dX12_runScript_58 : decode cX12_runScript 58 = .ok (.iload_n 2, 1) := by decide +kernel
theorem dX12_runScript_59 : decode cX12_runScript 59 = .ok (.iconst (-1), 1) := by decide +kernel
theorem dX12_runScript_60 : decode cX12_runScript 60 = .ok (.if_icmp .eq 30, 3) := by decide +kernel
theorem dX12_runScript_63 : decode cX12_runScript 63 = .ok (.aload_n 0, 1) := by decide +kernel
theorem dX12_runScript_64 : decode cX12_runScript 64 = .ok (.getfield 10, 3) := by decide +kernel
theorem dX12_runScript_67 : decode cX12_runScript 67 = .ok (.aload_n 0, 1) := by decide +kernel
theorem dX12_runScript_68 : decode cX12_runScript 68 = .ok (.getfield 16, 3) := by decide +kernel
theorem dX12_runScript_71 : decode cX12_runScript 71 = .ok (.invokevirtual 421, 3) := by decide +kernel
theorem dX12_runScript_74 : decode cX12_runScript 74 = .ok (.aload_n 0, 1) := by decide +kernel
theorem dX12_runScript_75 : decode cX12_runScript 75 = .ok (.iload_n 2, 1) := by decide +kernel
theorem dX12_runScript_76 : decode cX12_runScript 76 = .ok (.putfield 68, 3) := by decide +kernel
theorem dX12_runScript_79 : decode cX12_runScript 79 = .ok (.new 405, 3) := by decide +kernel
theorem dX12_runScript_82 : decode cX12_runScript 82 = .ok (.dup, 1) := by decide +kernel
theorem dX12_runScript_83 : decode cX12_runScript 83 = .ok (.ldc_w 427, 3) := by decide +kernel
theorem dX12_runScript_86 : decode cX12_runScript 86 = .ok (.invokespecial 409, 3) := by decide +kernel
theorem dX12_runScript_89 : decode cX12_runScript 89 = .ok (.athrow, 1) := by decide +kernel
theorem dX12_runScript_90 : decode cX12_runScript 90 = .ok (.aload_n 0, 1) := by decide +kernel
theorem dX12_runScript_91 : decode cX12_runScript 91 = .ok (.getfield 29, 3) := by decide +kernel
theorem dX12_runScript_94 : decode cX12_runScript 94 = .ok (.aload_n 0, 1) := by decide +kernel
theorem dX12_runScript_95 : decode cX12_runScript 95 = .ok (.getfield 16, 3) := by decide +kernel
theorem dX12_runScript_98 : decode cX12_runScript 98 = .ok (.invokevirtual 86, 3) := by decide +kernel
theorem dX12_runScript_101 : decode cX12_runScript 101 = .ok (.aload_n 0, 1) := by decide +kernel
theorem dX12_runScript_102 : decode cX12_runScript 102 = .ok (.getfield 60, 3) := by decide +kernel
theorem dX12_runScript_105 : decode cX12_runScript 105 = .ok (.getfield 429, 3) := by decide +kernel
theorem dX12_runScript_108 : decode cX12_runScript 108 = .ok (.ireturn, 1) := by decide +kernel
theorem dX12_errorPosition_0 : decode cX12_errorPosition 0 = .ok (.aload_n 0, 1) := by decide +kernel
theorem dX12_errorPosition_1 : decode cX12_errorPosition 1 = .ok (.getfield 64, 3) := by decide +kernel
theorem dX12_errorPosition_4 : decode cX12_errorPosition 4 = .ok (.iconst (-1), 1) := by decide +kernel
theorem dX12_errorPosition_5 : decode cX12_errorPosition 5 = .ok (.if_icmp .ne 14, 3) := by decide +kernel
theorem dX12_errorPosition_8 : decode cX12_errorPosition 8 = .ok (.new 206, 3) := by decide +kernel
theorem dX12_errorPosition_11 : decode cX12_errorPosition 11 = .ok (.dup, 1) := by decide +kernel
theorem dX12_errorPosition_12 : decode cX12_errorPosition 12 = .ok (.ldc_w 430, 3) := by decide +kernel
theorem dX12_errorPosition_15 : decode cX12_errorPosition 15 = .ok (.invokespecial 210, 3) := by decide +kernel
theorem dX12_errorPosition_18 : decode cX12_errorPosition 18 = .ok (.athrow, 1) := by decide +kernel
theorem dX12_errorPosition_19 : decode cX12_errorPosition 19 = .ok (.aload_n 0, 1) := by decide +kernel
theorem dX12_errorPosition_20 : decode cX12_errorPosition 20 = .ok (.getfield 64, 3) := by decide +kernel
theorem dX12_errorPosition_23 : decode cX12_errorPosition 23 = .ok (.ireturn, 1) := by decide +kernel
theorem dX12_failedCommand_0 : decode cX12_failedCommand 0 = .ok (.aload_n 0, 1) := by decide +kernel
theorem dX12_failedCommand_1 : decode cX12_failedCommand 1 = .ok (.getfield 68, 3) := by decide +kernel
theorem dX12_failedCommand_4 : decode cX12_failedCommand 4 = .ok (.iconst (-1), 1) := by decide +kernel
theorem dX12_failedCommand_5 : decode cX12_failedCommand 5 = .ok (.if_icmp .ne 14, 3) := by decide +kernel
theorem dX12_failedCommand_8 : decode cX12_failedCommand 8 = .ok (.new 206, 3) := by decide +kernel
theorem dX12_failedCommand_11 : decode cX12_failedCommand 11 = .ok (.dup, 1) := by decide +kernel
theorem dX12_failedCommand_12 : decode cX12_failedCommand 12 = .ok (.ldc_w 432, 3) := by decide +kernel
theorem dX12_failedCommand_15 : decode cX12_failedCommand 15 = .ok (.invokespecial 210, 3) := by decide +kernel
theorem dX12_failedCommand_18 : decode cX12_failedCommand 18 = .ok (.athrow, 1) := by decide +kernel
theorem dX12_failedCommand_19 : decode cX12_failedCommand 19 = .ok (.aload_n 0, 1) := by decide +kernel
theorem dX12_failedCommand_20 : decode cX12_failedCommand 20 = .ok (.getfield 68, 3) := by decide +kernel
theorem dX12_failedCommand_23 : decode cX12_failedCommand 23 = .ok (.ireturn, 1) := by decide +kernel
theorem dX12_undo_0 : decode cX12_undo 0 = .ok (.aload_n 0, 1) := by decide +kernel
theorem dX12_undo_1 : decode cX12_undo 1 = .ok (.getfield 29, 3) := by decide +kernel
theorem dX12_undo_4 : decode cX12_undo 4 = .ok (.getfield 434, 3) := by decide +kernel
theorem dX12_undo_7 : decode cX12_undo 7 = .ok (.ifCond .ne 14, 3) := by decide +kernel
theorem dX12_undo_10 : decode cX12_undo 10 = .ok (.new 405, 3) := by decide +kernel
theorem dX12_undo_13 : decode cX12_undo 13 = .ok (.dup, 1) := by decide +kernel
theorem dX12_undo_14 : decode cX12_undo 14 = .ok (.ldc_w 435, 3) := by decide +kernel
theorem dX12_undo_17 : decode cX12_undo 17 = .ok (.invokespecial 409, 3) := by decide +kernel
theorem dX12_undo_20 : decode cX12_undo 20 = .ok (.athrow, 1) := by decide +kernel
theorem dX12_undo_21 : decode cX12_undo 21 = .ok (.aload_n 0, 1) := by decide +kernel
theorem dX12_undo_22 : decode cX12_undo 22 = .ok (.getfield 29, 3) := by decide +kernel
theorem dX12_undo_25 : decode cX12_undo 25 = .ok (.aload_n 0, 1) := by decide +kernel
theorem dX12_undo_26 : decode cX12_undo 26 = .ok (.getfield 10, 3) := by decide +kernel
theorem dX12_undo_29 : decode cX12_undo 29 = .ok (.invokevirtual 437, 3) := by decide +kernel
theorem dX12_undo_32 : decode cX12_undo 32 = .ok (.aload_n 0, 1) := by decide +kernel
theorem dX12_undo_33 : decode cX12_undo 33 = .ok (.getfield 29, 3) := by decide +kernel
theorem dX12_undo_36 : decode cX12_undo 36 = .ok (.getfield 434, 3) := by decide +kernel
theorem dX12_undo_39 : decode cX12_undo 39 = .ok (.ireturn, 1) := by decide +kernel
theorem dX12_save_0 : decode cX12_save 0 = .ok (.aload_n 0, 1) := by decide +kernel
theorem dX12_save_1 : decode cX12_save 1 = .ok (.getfield 19, 3) := by decide +kernel
theorem dX12_save_4 : decode cX12_save 4 = .ok (.aload_n 0, 1) := by decide +kernel
theorem dX12_save_5 : decode cX12_save 5 = .ok (.getfield 10, 3) := by decide +kernel
theorem dX12_save_8 : decode cX12_save 8 = .ok (.invokevirtual 421, 3) := by decide +kernel
theorem dX12_save_11 : decode cX12_save 11 = .ok (.aload_n 0, 1) := by decide +kernel
theorem dX12_save_12 : decode cX12_save 12 = .ok (.iconst 1, 1) := by decide +kernel
theorem dX12_save_13 : decode cX12_save 13 = .ok (.putfield 22, 3) := by decide +kernel
theorem dX12_save_16 : decode cX12_save 16 = .ok (.aload_n 0, 1) := by decide +kernel
theorem dX12_save_17 : decode cX12_save 17 = .ok (.getfield 10, 3) := by decide +kernel
theorem dX12_save_20 : decode cX12_save 20 = .ok (.getfield 168, 3) := by decide +kernel
theorem dX12_save_23 : decode cX12_save 23 = .ok (.getfield 298, 3) := by decide +kernel
theorem dX12_save_26 : decode cX12_save 26 = .ok (.ireturn, 1) := by decide +kernel
theorem dX12_restore_0 : decode cX12_restore 0 = .ok (.aload_n 0, 1) := by decide +kernel
theorem dX12_restore_1 : decode cX12_restore 1 = .ok (.getfield 22, 3) := by decide +kernel
theorem dX12_restore_4 : decode cX12_restore 4 = .ok (.ifCond .ne 14, 3) := by decide +kernel
theorem dX12_restore_7 : decode cX12_restore 7 = .ok (.new 405, 3) := by decide +kernel
theorem dX12_restore_10 : decode cX12_restore 10 = .ok (.dup, 1) := by decide +kernel
theorem dX12_restore_11 : decode cX12_restore 11 = .ok (.ldc_w 440, 3) := by decide +kernel
theorem dX12_restore_14 : decode cX12_restore 14 = .ok (.invokespecial 409, 3) := by decide +kernel
theorem dX12_restore_17 : decode cX12_restore 17 = .ok (.athrow, 1) := by decide +kernel
theorem dX12_restore_18 : decode cX12_restore 18 = .ok (.aload_n 0, 1) := by decide +kernel
theorem dX12_restore_19 : decode cX12_restore 19 = .ok (.getfield 10, 3) := by decide +kernel
theorem dX12_restore_22 : decode cX12_restore 22 = .ok (.aload_n 0, 1) := by decide +kernel
theorem dX12_restore_23 : decode cX12_restore 23 = .ok (.getfield 19, 3) := by decide +kernel
theorem dX12_restore_26 : decode cX12_restore 26 = .ok (.invokevirtual 421, 3) := by decide +kernel
theorem dX12_restore_29 : decode cX12_restore 29 = .ok (.aload_n 0, 1) := by decide +kernel
theorem dX12_restore_30 : decode cX12_restore 30 = .ok (.getfield 29, 3) := by decide +kernel
theorem dX12_restore_33 : decode cX12_restore 33 = .ok (.iconst 0, 1) := by decide +kernel
theorem dX12_restore_34 : decode cX12_restore 34 = .ok (.putfield 434, 3) := by decide +kernel
theorem dX12_restore_37 : decode cX12_restore 37 = .ok (.aload_n 0, 1) := by decide +kernel
theorem dX12_restore_38 : decode cX12_restore 38 = .ok (.getfield 10, 3) := by decide +kernel
theorem dX12_restore_41 : decode cX12_restore 41 = .ok (.getfield 168, 3) := by decide +kernel
theorem dX12_restore_44 : decode cX12_restore 44 = .ok (.getfield 298, 3) := by decide +kernel
theorem dX12_restore_47 : decode cX12_restore 47 = .ok (.ireturn, 1) := by decide +kernel
theorem dX12_refuse_0 : decode cX12_refuse 0 = .ok (.getstatic 442, 3) := by decide +kernel
theorem dX12_refuse_3 : decode cX12_refuse 3 = .ok (.aload_n 0, 1) := by decide +kernel
theorem dX12_refuse_4 : decode cX12_refuse 4 = .ok (.invokevirtual 447, 3) := by decide +kernel
theorem dX12_refuse_7 : decode cX12_refuse 7 = .ok (.iaload, 1) := by decide +kernel
theorem dX12_refuse_8 : decode cX12_refuse 8 = .ok (.tableswitch 91 1 5 #[36, 47, 58, 69, 80], 36) := by decide +kernel
theorem dX12_refuse_44 : decode cX12_refuse 44 = .ok (.new 301, 3) := by decide +kernel
theorem dX12_refuse_47 : decode cX12_refuse 47 = .ok (.dup, 1) := by decide +kernel
theorem dX12_refuse_48 : decode cX12_refuse 48 = .ok (.ldc_w 452, 3) := by decide +kernel
theorem dX12_refuse_51 : decode cX12_refuse 51 = .ok (.invokespecial 303, 3) := by decide +kernel
theorem dX12_refuse_54 : decode cX12_refuse 54 = .ok (.athrow, 1) := by decide +kernel
theorem dX12_refuse_55 : decode cX12_refuse 55 = .ok (.new 398, 3) := by decide +kernel
theorem dX12_refuse_58 : decode cX12_refuse 58 = .ok (.dup, 1) := by decide +kernel
theorem dX12_refuse_59 : decode cX12_refuse 59 = .ok (.ldc_w 454, 3) := by decide +kernel
theorem dX12_refuse_62 : decode cX12_refuse 62 = .ok (.invokespecial 402, 3) := by decide +kernel
theorem dX12_refuse_65 : decode cX12_refuse 65 = .ok (.athrow, 1) := by decide +kernel
theorem dX12_refuse_66 : decode cX12_refuse 66 = .ok (.new 405, 3) := by decide +kernel
theorem dX12_refuse_69 : decode cX12_refuse 69 = .ok (.dup, 1) := by decide +kernel
theorem dX12_refuse_70 : decode cX12_refuse 70 = .ok (.ldc_w 456, 3) := by decide +kernel
theorem dX12_refuse_73 : decode cX12_refuse 73 = .ok (.invokespecial 409, 3) := by decide +kernel
theorem dX12_refuse_76 : decode cX12_refuse 76 = .ok (.athrow, 1) := by decide +kernel
theorem dX12_refuse_77 : decode cX12_refuse 77 = .ok (.new 206, 3) := by decide +kernel
theorem dX12_refuse_80 : decode cX12_refuse 80 = .ok (.dup, 1) := by decide +kernel
theorem dX12_refuse_81 : decode cX12_refuse 81 = .ok (.ldc_w 458, 3) := by decide +kernel
theorem dX12_refuse_84 : decode cX12_refuse 84 = .ok (.invokespecial 210, 3) := by decide +kernel
theorem dX12_refuse_87 : decode cX12_refuse 87 = .ok (.athrow, 1) := by decide +kernel
theorem dX12_refuse_88 : decode cX12_refuse 88 = .ok (.new 460, 3) := by decide +kernel
theorem dX12_refuse_91 : decode cX12_refuse 91 = .ok (.dup, 1) := by decide +kernel
theorem dX12_refuse_92 : decode cX12_refuse 92 = .ok (.ldc_w 462, 3) := by decide +kernel
theorem dX12_refuse_95 : decode cX12_refuse 95 = .ok (.invokespecial 464, 3) := by decide +kernel
theorem dX12_refuse_98 : decode cX12_refuse 98 = .ok (.athrow, 1) := by decide +kernel
theorem dX12_refuse_99 : decode cX12_refuse 99 = .ok (.return_, 1) := by decide +kernel
theorem dX12_knownTicket_0 : decode cX12_knownTicket 0 = .ok (.aload_n 0, 1) := by decide +kernel
theorem dX12_knownTicket_1 : decode cX12_knownTicket 1 = .ok (.getfield 10, 3) := by decide +kernel
theorem dX12_knownTicket_4 : decode cX12_knownTicket 4 = .ok (.getfield 168, 3) := by decide +kernel
theorem dX12_knownTicket_7 : decode cX12_knownTicket 7 = .ok (.iload_n 1, 1) := by decide +kernel
theorem dX12_knownTicket_8 : decode cX12_knownTicket 8 = .ok (.invokevirtual 465, 3) := by decide +kernel
theorem dX12_knownTicket_11 : decode cX12_knownTicket 11 = .ok (.istore_n 2, 1) := by decide +kernel
theorem dX12_knownTicket_12 : decode cX12_knownTicket 12 = .ok (.iload_n 2, 1) := by decide +kernel
theorem dX12_knownTicket_13 : decode cX12_knownTicket 13 = .ok (.iconst (-1), 1) := by decide +kernel
theorem dX12_knownTicket_14 : decode cX12_knownTicket 14 = .ok (.if_icmp .ne 14, 3) := by decide +kernel
theorem dX12_knownTicket_17 : decode cX12_knownTicket 17 = .ok (.new 206, 3) := by decide +kernel
theorem dX12_knownTicket_20 : decode cX12_knownTicket 20 = .ok (.dup, 1) := by decide +kernel
theorem dX12_knownTicket_21 : decode cX12_knownTicket 21 = .ok (.ldc_w 468, 3) := by decide +kernel
theorem dX12_knownTicket_24 : decode cX12_knownTicket 24 = .ok (.invokespecial 210, 3) := by decide +kernel
theorem dX12_knownTicket_27 : decode cX12_knownTicket 27 = .ok (.athrow, 1) := by decide +kernel
theorem dX12_knownTicket_28 : decode cX12_knownTicket 28 = .ok (.iload_n 2, 1) := by decide +kernel
theorem dX12_knownTicket_29 : decode cX12_knownTicket 29 = .ok (.ireturn, 1) := by decide +kernel
theorem dX12_journeyFound_0 : decode cX12_journeyFound 0 = .ok (.iload_n 0, 1) := by decide +kernel
theorem dX12_journeyFound_1 : decode cX12_journeyFound 1 = .ok (.ldc_w 470, 3) := by decide +kernel
theorem dX12_journeyFound_4 : decode cX12_journeyFound 4 = .ok (.if_icmp .lt 14, 3) := by decide +kernel
theorem dX12_journeyFound_7 : decode cX12_journeyFound 7 = .ok (.new 206, 3) := by decide +kernel
theorem dX12_journeyFound_10 : decode cX12_journeyFound 10 = .ok (.dup, 1) := by decide +kernel
theorem dX12_journeyFound_11 : decode cX12_journeyFound 11 = .ok (.ldc_w 471, 3) := by decide +kernel
theorem dX12_journeyFound_14 : decode cX12_journeyFound 14 = .ok (.invokespecial 210, 3) := by decide +kernel
theorem dX12_journeyFound_17 : decode cX12_journeyFound 17 = .ok (.athrow, 1) := by decide +kernel
theorem dX12_journeyFound_18 : decode cX12_journeyFound 18 = .ok (.iload_n 0, 1) := by decide +kernel
theorem dX12_journeyFound_19 : decode cX12_journeyFound 19 = .ok (.ireturn, 1) := by decide +kernel
theorem dX12_carryOutAll_0 : decode cX12_carryOutAll 0 = .ok (.iconst 0, 1) := by decide +kernel
theorem dX12_carryOutAll_1 : decode cX12_carryOutAll 1 = .ok (.istore_n 1, 1) := by decide +kernel
theorem dX12_carryOutAll_2 : decode cX12_carryOutAll 2 = .ok (.iload_n 1, 1) := by decide +kernel
theorem dX12_carryOutAll_3 : decode cX12_carryOutAll 3 = .ok (.aload_n 0, 1) := by decide +kernel
theorem dX12_carryOutAll_4 : decode cX12_carryOutAll 4 = .ok (.getfield 60, 3) := by decide +kernel
theorem dX12_carryOutAll_7 : decode cX12_carryOutAll 7 = .ok (.getfield 429, 3) := by decide +kernel
theorem dX12_carryOutAll_10 : decode cX12_carryOutAll 10 = .ok (.if_icmp .ge 27, 3) := by decide +kernel
theorem dX12_carryOutAll_13 : decode cX12_carryOutAll 13 = .ok (.aload_n 0, 1) := by decide +kernel
theorem dX12_carryOutAll_14 : decode cX12_carryOutAll 14 = .ok (.iload_n 1, 1) := by decide +kernel
theorem dX12_carryOutAll_15 : decode cX12_carryOutAll 15 = .ok (.invokevirtual 473, 3) := by decide +kernel
theorem dX12_carryOutAll_18 : decode cX12_carryOutAll 18 = .ok (.getstatic 476, 3) := by decide +kernel
theorem dX12_carryOutAll_21 : decode cX12_carryOutAll 21 = .ok (.if_acmp .eq 5, 3) := by decide +kernel
theorem dX12_carryOutAll_24 : decode cX12_carryOutAll 24 = .ok (.iload_n 1, 1) := by decide +kernel
theorem dX12_carryOutAll_25 : decode cX12_carryOutAll 25 = .ok (.ireturn, 1) := by decide +kernel
theorem dX12_carryOutAll_26 : decode cX12_carryOutAll 26 = .ok (.aload_n 0, 1) := by decide +kernel
theorem dX12_carryOutAll_27 : decode cX12_carryOutAll 27 = .ok (.iload_n 1, 1) := by decide +kernel
theorem dX12_carryOutAll_28 : decode cX12_carryOutAll 28 = .ok (.invokevirtual 480, 3) := by decide +kernel
theorem dX12_carryOutAll_31 : decode cX12_carryOutAll 31 = .ok (.iinc 1 1, 3) := by decide +kernel
theorem dX12_carryOutAll_34 : decode cX12_carryOutAll 34 = .ok (.goto (-32), 3) := by decide +kernel
theorem dX12_carryOutAll_37 : decode cX12_carryOutAll 37 = .ok (.iconst (-1), 1) := by decide +kernel
theorem dX12_carryOutAll_38 : decode cX12_carryOutAll 38 = .ok (.ireturn, 1) := by decide +kernel
theorem dX12_commandFault_0 : decode cX12_commandFault 0 = .ok (.aload_n 0, 1) := by decide +kernel
theorem dX12_commandFault_1 : decode cX12_commandFault 1 = .ok (.getfield 60, 3) := by decide +kernel
theorem dX12_commandFault_4 : decode cX12_commandFault 4 = .ok (.iload_n 1, 1) := by decide +kernel
theorem dX12_commandFault_5 : decode cX12_commandFault 5 = .ok (.iconst 0, 1) := by decide +kernel
theorem dX12_commandFault_6 : decode cX12_commandFault 6 = .ok (.invokevirtual 483, 3) := by decide +kernel
theorem dX12_commandFault_9 : decode cX12_commandFault 9 = .ok (.istore_n 2, 1) := by decide +kernel
theorem dX12_commandFault_10 : decode cX12_commandFault 10 = .ok (.aload_n 0, 1) := by decide +kernel
theorem dX12_commandFault_11 : decode cX12_commandFault 11 = .ok (.getfield 60, 3) := by decide +kernel
theorem dX12_commandFault_14 : decode cX12_commandFault 14 = .ok (.iload_n 1, 1) := by decide +kernel
theorem dX12_commandFault_15 : decode cX12_commandFault 15 = .ok (.iconst 1, 1) := by decide +kernel
theorem dX12_commandFault_16 : decode cX12_commandFault 16 = .ok (.invokevirtual 483, 3) := by decide +kernel
theorem dX12_commandFault_19 : decode cX12_commandFault 19 = .ok (.istore_n 3, 1) := by decide +kernel
theorem dX12_commandFault_20 : decode cX12_commandFault 20 = .ok (.aload_n 0, 1) := by decide +kernel
theorem dX12_commandFault_21 : decode cX12_commandFault 21 = .ok (.getfield 60, 3) := by decide +kernel
theorem dX12_commandFault_24 : decode cX12_commandFault 24 = .ok (.iload_n 1, 1) := by decide +kernel
theorem dX12_commandFault_25 : decode cX12_commandFault 25 = .ok (.iconst 2, 1) := by decide +kernel
theorem dX12_commandFault_26 : decode cX12_commandFault 26 = .ok (.invokevirtual 483, 3) := by decide +kernel
theorem dX12_commandFault_29 : decode cX12_commandFault 29 = .ok (.istore 4, 2) := by decide +kernel
theorem dX12_commandFault_31 : decode cX12_commandFault 31 = .ok (.aload_n 0, 1) := by decide +kernel
theorem dX12_commandFault_32 : decode cX12_commandFault 32 = .ok (.getfield 60, 3) := by decide +kernel
theorem dX12_commandFault_35 : decode cX12_commandFault 35 = .ok (.iload_n 1, 1) := by decide +kernel
theorem dX12_commandFault_36 : decode cX12_commandFault 36 = .ok (.iconst 3, 1) := by decide +kernel
theorem dX12_commandFault_37 : decode cX12_commandFault 37 = .ok (.invokevirtual 483, 3) := by decide +kernel
theorem dX12_commandFault_40 : decode cX12_commandFault 40 = .ok (.istore 5, 2) := by decide +kernel
theorem dX12_commandFault_42 : decode cX12_commandFault 42 = .ok (.getstatic 486, 3) := by decide +kernel
theorem dX12_commandFault_45 : decode cX12_commandFault 45 = .ok (.aload_n 0, 1) := by decide +kernel
theorem dX12_commandFault_46 : decode cX12_commandFault 46 = .ok (.getfield 60, 3) := by decide +kernel
theorem dX12_commandFault_49 : decode cX12_commandFault 49 = .ok (.iload_n 1, 1) := by decide +kernel
theorem dX12_commandFault_50 : decode cX12_commandFault 50 = .ok (.invokevirtual 489, 3) := by decide +kernel
theorem dX12_commandFault_53 : decode cX12_commandFault 53 = .ok (.invokevirtual 493, 3) := by decide +kernel
theorem dX12_commandFault_56 : decode cX12_commandFault 56 = .ok (.iaload, 1) := by decide +kernel
theorem dX12_commandFault_57 : decode cX12_commandFault 57 = .ok (.tableswitch 183 1 12 #[63, 72, 84, 98, 108, 117, 117, 126, 126, 135, 149, 174], 63) := by decide +kernel
theorem dX12_commandFault_120 : decode cX12_commandFault 120 = .ok (.aload_n 0, 1) := by decide +kernel
theorem dX12_commandFault_121 : decode cX12_commandFault 121 = .ok (.getfield 10, 3) := by decide +kernel
theorem dX12_commandFault_124 : decode cX12_commandFault 124 = .ok (.iload_n 2, 1) := by decide +kernel
theorem dX12_commandFault_125 : decode cX12_commandFault 125 = .ok (.invokevirtual 78, 3) := by decide +kernel
theorem dX12_commandFault_128 : decode cX12_commandFault 128 = .ok (.areturn, 1) := by decide +kernel
theorem dX12_commandFault_129 : decode cX12_commandFault 129 = .ok (.aload_n 0, 1) := by decide +kernel
theorem dX12_commandFault_130 : decode cX12_commandFault 130 = .ok (.getfield 10, 3) := by decide +kernel
theorem dX12_commandFault_133 : decode cX12_commandFault 133 = .ok (.iload_n 2, 1) := by decide +kernel
theorem dX12_commandFault_134 : decode cX12_commandFault 134 = .ok (.iload_n 3, 1) := by decide +kernel
theorem dX12_commandFault_135 : decode cX12_commandFault 135 = .ok (.iload 4, 2) := by decide +kernel
theorem dX12_commandFault_137 : decode cX12_commandFault 137 = .ok (.invokevirtual 94, 3) := by decide +kernel
theorem dX12_commandFault_140 : decode cX12_commandFault 140 = .ok (.areturn, 1) := by decide +kernel
theorem dX12_commandFault_141 : decode cX12_commandFault 141 = .ok (.aload_n 0, 1) := by decide +kernel
theorem dX12_commandFault_142 : decode cX12_commandFault 142 = .ok (.getfield 10, 3) := by decide +kernel
theorem dX12_commandFault_145 : decode cX12_commandFault 145 = .ok (.iload_n 2, 1) := by decide +kernel
theorem dX12_commandFault_146 : decode cX12_commandFault 146 = .ok (.iload_n 3, 1) := by decide +kernel
theorem dX12_commandFault_147 : decode cX12_commandFault 147 = .ok (.iload 4, 2) := by decide +kernel
theorem dX12_commandFault_149 : decode cX12_commandFault 149 = .ok (.iload 5, 2) := by decide +kernel
theorem dX12_commandFault_151 : decode cX12_commandFault 151 = .ok (.invokevirtual 110, 3) := by decide +kernel
theorem dX12_commandFault_154 : decode cX12_commandFault 154 = .ok (.areturn, 1) := by decide +kernel
theorem dX12_commandFault_155 : decode cX12_commandFault 155 = .ok (.aload_n 0, 1) := by decide +kernel
theorem dX12_commandFault_156 : decode cX12_commandFault 156 = .ok (.getfield 10, 3) := by decide +kernel
theorem dX12_commandFault_159 : decode cX12_commandFault 159 = .ok (.iload_n 2, 1) := by decide +kernel
theorem dX12_commandFault_160 : decode cX12_commandFault 160 = .ok (.iload_n 3, 1) := by decide +kernel
theorem dX12_commandFault_161 : decode cX12_commandFault 161 = .ok (.invokevirtual 118, 3) := by decide +kernel
theorem dX12_commandFault_164 : decode cX12_commandFault 164 = .ok (.areturn, 1) := by decide +kernel
theorem dX12_commandFault_165 : decode cX12_commandFault 165 = .ok (.aload_n 0, 1) := by decide +kernel
theorem dX12_commandFault_166 : decode cX12_commandFault 166 = .ok (.getfield 10, 3) := by decide +kernel
theorem dX12_commandFault_169 : decode cX12_commandFault 169 = .ok (.iload_n 2, 1) := by decide +kernel
theorem dX12_commandFault_170 : decode cX12_commandFault 170 = .ok (.invokevirtual 130, 3) := by decide +kernel
theorem dX12_commandFault_173 : decode cX12_commandFault 173 = .ok (.areturn, 1) := by decide +kernel
theorem dX12_commandFault_174 : decode cX12_commandFault 174 = .ok (.aload_n 0, 1) := by decide +kernel
theorem dX12_commandFault_175 : decode cX12_commandFault 175 = .ok (.getfield 10, 3) := by decide +kernel
theorem dX12_commandFault_178 : decode cX12_commandFault 178 = .ok (.iload_n 2, 1) := by decide +kernel
theorem dX12_commandFault_179 : decode cX12_commandFault 179 = .ok (.invokevirtual 146, 3) := by decide +kernel
theorem dX12_commandFault_182 : decode cX12_commandFault 182 = .ok (.areturn, 1) := by decide +kernel
theorem dX12_commandFault_183 : decode cX12_commandFault 183 = .ok (.aload_n 0, 1) := by decide +kernel
theorem dX12_commandFault_184 : decode cX12_commandFault 184 = .ok (.getfield 10, 3) := by decide +kernel
theorem dX12_commandFault_187 : decode cX12_commandFault 187 = .ok (.iload_n 2, 1) := by decide +kernel
theorem dX12_commandFault_188 : decode cX12_commandFault 188 = .ok (.invokevirtual 153, 3) := by decide +kernel
theorem dX12_commandFault_191 : decode cX12_commandFault 191 = .ok (.areturn, 1) := by decide +kernel
theorem dX12_commandFault_192 : decode cX12_commandFault 192 = .ok (.aload_n 0, 1) := by decide +kernel
theorem dX12_commandFault_193 : decode cX12_commandFault 193 = .ok (.getfield 10, 3) := by decide +kernel
theorem dX12_commandFault_196 : decode cX12_commandFault 196 = .ok (.iload_n 2, 1) := by decide +kernel
theorem dX12_commandFault_197 : decode cX12_commandFault 197 = .ok (.iload_n 3, 1) := by decide +kernel
theorem dX12_commandFault_198 : decode cX12_commandFault 198 = .ok (.iload 4, 2) := by decide +kernel
theorem dX12_commandFault_200 : decode cX12_commandFault 200 = .ok (.iload 5, 2) := by decide +kernel
theorem dX12_commandFault_202 : decode cX12_commandFault 202 = .ok (.invokevirtual 159, 3) := by decide +kernel
theorem dX12_commandFault_205 : decode cX12_commandFault 205 = .ok (.areturn, 1) := by decide +kernel
theorem dX12_commandFault_206 : decode cX12_commandFault 206 = .ok (.aload_n 0, 1) := by decide +kernel
theorem dX12_commandFault_207 : decode cX12_commandFault 207 = .ok (.getfield 10, 3) := by decide +kernel
theorem dX12_commandFault_210 : decode cX12_commandFault 210 = .ok (.getfield 168, 3) := by decide +kernel
theorem dX12_commandFault_213 : decode cX12_commandFault 213 = .ok (.iload_n 2, 1) := by decide +kernel
theorem dX12_commandFault_214 : decode cX12_commandFault 214 = .ok (.invokevirtual 465, 3) := by decide +kernel
theorem dX12_commandFault_217 : decode cX12_commandFault 217 = .ok (.iconst (-1), 1) := by decide +kernel
theorem dX12_commandFault_218 : decode cX12_commandFault 218 = .ok (.if_icmp .ne 9, 3) := by decide +kernel
theorem dX12_commandFault_221 : decode cX12_commandFault 221 = .ok (.getstatic 496, 3) := by decide +kernel
theorem dX12_commandFault_224 : decode cX12_commandFault 224 = .ok (.goto 6, 3) := by decide +kernel
theorem dX12_commandFault_227 : decode cX12_commandFault 227 = .ok (.getstatic 476, 3) := by decide +kernel
theorem dX12_commandFault_230 : decode cX12_commandFault 230 = .ok (.areturn, 1) := by decide +kernel
theorem dX12_commandFault_231 : decode cX12_commandFault 231 = .ok (.aload_n 0, 1) := by decide +kernel
theorem dX12_commandFault_232 : decode cX12_commandFault 232 = .ok (.getfield 10, 3) := by decide +kernel
theorem dX12_commandFault_235 : decode cX12_commandFault 235 = .ok (.iload_n 2, 1) := by decide +kernel
theorem dX12_commandFault_236 : decode cX12_commandFault 236 = .ok (.invokevirtual 177, 3) := by decide +kernel
theorem dX12_commandFault_239 : decode cX12_commandFault 239 = .ok (.areturn, 1) := by decide +kernel
theorem dX12_commandFault_240 : decode cX12_commandFault 240 = .ok (.getstatic 476, 3) := by decide +kernel
theorem dX12_commandFault_243 : decode cX12_commandFault 243 = .ok (.areturn, 1) := by decide +kernel
theorem dX12_carryOut_0 : decode cX12_carryOut 0 = .ok (.aload_n 0, 1) := by decide +kernel
theorem dX12_carryOut_1 : decode cX12_carryOut 1 = .ok (.getfield 60, 3) := by decide +kernel
theorem dX12_carryOut_4 : decode cX12_carryOut 4 = .ok (.iload_n 1, 1) := by decide +kernel
theorem dX12_carryOut_5 : decode cX12_carryOut 5 = .ok (.iconst 0, 1) := by decide +kernel
theorem dX12_carryOut_6 : decode cX12_carryOut 6 = .ok (.invokevirtual 483, 3) := by decide +kernel
theorem dX12_carryOut_9 : decode cX12_carryOut 9 = .ok (.istore_n 2, 1) := by decide +kernel
theorem dX12_carryOut_10 : decode cX12_carryOut 10 = .ok (.aload_n 0, 1) := by decide +kernel
theorem dX12_carryOut_11 : decode cX12_carryOut 11 = .ok (.getfield 60, 3) := by decide +kernel
theorem dX12_carryOut_14 : decode cX12_carryOut 14 = .ok (.iload_n 1, 1) := by decide +kernel
theorem dX12_carryOut_15 : decode cX12_carryOut 15 = .ok (.iconst 1, 1) := by decide +kernel
theorem dX12_carryOut_16 : decode cX12_carryOut 16 = .ok (.invokevirtual 483, 3) := by decide +kernel
theorem dX12_carryOut_19 : decode cX12_carryOut 19 = .ok (.istore_n 3, 1) := by decide +kernel
theorem dX12_carryOut_20 : decode cX12_carryOut 20 = .ok (.aload_n 0, 1) := by decide +kernel
theorem dX12_carryOut_21 : decode cX12_carryOut 21 = .ok (.getfield 60, 3) := by decide +kernel
theorem dX12_carryOut_24 : decode cX12_carryOut 24 = .ok (.iload_n 1, 1) := by decide +kernel
theorem dX12_carryOut_25 : decode cX12_carryOut 25 = .ok (.iconst 2, 1) := by decide +kernel
theorem dX12_carryOut_26 : decode cX12_carryOut 26 = .ok (.invokevirtual 483, 3) := by decide +kernel
theorem dX12_carryOut_29 : decode cX12_carryOut 29 = .ok (.istore 4, 2) := by decide +kernel
theorem dX12_carryOut_31 : decode cX12_carryOut 31 = .ok (.aload_n 0, 1) := by decide +kernel
theorem dX12_carryOut_32 : decode cX12_carryOut 32 = .ok (.getfield 60, 3) := by decide +kernel
theorem dX12_carryOut_35 : decode cX12_carryOut 35 = .ok (.iload_n 1, 1) := by decide +kernel
theorem dX12_carryOut_36 : decode cX12_carryOut 36 = .ok (.iconst 3, 1) := by decide +kernel
theorem dX12_carryOut_37 : decode cX12_carryOut 37 = .ok (.invokevirtual 483, 3) := by decide +kernel
theorem dX12_carryOut_40 : decode cX12_carryOut 40 = .ok (.istore 5, 2) := by decide +kernel
theorem dX12_carryOut_42 : decode cX12_carryOut 42 = .ok (.getstatic 486, 3) := by decide +kernel
theorem dX12_carryOut_45 : decode cX12_carryOut 45 = .ok (.aload_n 0, 1) := by decide +kernel
theorem dX12_carryOut_46 : decode cX12_carryOut 46 = .ok (.getfield 60, 3) := by decide +kernel
theorem dX12_carryOut_49 : decode cX12_carryOut 49 = .ok (.iload_n 1, 1) := by decide +kernel
theorem dX12_carryOut_50 : decode cX12_carryOut 50 = .ok (.invokevirtual 489, 3) := by decide +kernel
theorem dX12_carryOut_53 : decode cX12_carryOut 53 = .ok (.invokevirtual 493, 3) := by decide +kernel
theorem dX12_carryOut_56 : decode cX12_carryOut 56 = .ok (.iaload, 1) := by decide +kernel
theorem dX12_carryOut_57 : decode cX12_carryOut 57 = .ok (.tableswitch 282 1 14 #[71, 83, 98, 115, 132, 170, 183, 196, 212, 228, 245, 270, 148, 159], 71) := by decide +kernel
theorem dX12_carryOut_128 : decode cX12_carryOut 128 = .ok (.aload_n 0, 1) := by decide +kernel
theorem dX12_carryOut_129 : decode cX12_carryOut 129 = .ok (.getfield 10, 3) := by decide +kernel
theorem dX12_carryOut_132 : decode cX12_carryOut 132 = .ok (.iload_n 2, 1) := by decide +kernel
theorem dX12_carryOut_133 : decode cX12_carryOut 133 = .ok (.invokevirtual 90, 3) := by decide +kernel
theorem dX12_carryOut_136 : decode cX12_carryOut 136 = .ok (.pop, 1) := by decide +kernel
theorem dX12_carryOut_137 : decode cX12_carryOut 137 = .ok (.goto 202, 3) := by decide +kernel
theorem dX12_carryOut_140 : decode cX12_carryOut 140 = .ok (.aload_n 0, 1) := by decide +kernel
theorem dX12_carryOut_141 : decode cX12_carryOut 141 = .ok (.getfield 10, 3) := by decide +kernel
theorem dX12_carryOut_144 : decode cX12_carryOut 144 = .ok (.iload_n 2, 1) := by decide +kernel
theorem dX12_carryOut_145 : decode cX12_carryOut 145 = .ok (.iload_n 3, 1) := by decide +kernel
theorem dX12_carryOut_146 : decode cX12_carryOut 146 = .ok (.iload 4, 2) := by decide +kernel
theorem dX12_carryOut_148 : decode cX12_carryOut 148 = .ok (.invokevirtual 98, 3) := by decide +kernel
theorem dX12_carryOut_151 : decode cX12_carryOut 151 = .ok (.pop, 1) := by decide +kernel
theorem dX12_carryOut_152 : decode cX12_carryOut 152 = .ok (.goto 187, 3) := by decide +kernel
theorem dX12_carryOut_155 : decode cX12_carryOut 155 = .ok (.aload_n 0, 1) := by decide +kernel
theorem dX12_carryOut_156 : decode cX12_carryOut 156 = .ok (.getfield 10, 3) := by decide +kernel
theorem dX12_carryOut_159 : decode cX12_carryOut 159 = .ok (.iload_n 2, 1) := by decide +kernel
theorem dX12_carryOut_160 : decode cX12_carryOut 160 = .ok (.iload_n 3, 1) := by decide +kernel
theorem dX12_carryOut_161 : decode cX12_carryOut 161 = .ok (.iload 4, 2) := by decide +kernel
theorem dX12_carryOut_163 : decode cX12_carryOut 163 = .ok (.iload 5, 2) := by decide +kernel
theorem dX12_carryOut_165 : decode cX12_carryOut 165 = .ok (.invokevirtual 114, 3) := by decide +kernel
theorem dX12_carryOut_168 : decode cX12_carryOut 168 = .ok (.pop, 1) := by decide +kernel
theorem dX12_carryOut_169 : decode cX12_carryOut 169 = .ok (.goto 170, 3) := by decide +kernel
theorem dX12_carryOut_172 : decode cX12_carryOut 172 = .ok (.aload_n 0, 1) := by decide +kernel
theorem dX12_carryOut_173 : decode cX12_carryOut 173 = .ok (.getfield 10, 3) := by decide +kernel
theorem dX12_carryOut_176 : decode cX12_carryOut 176 = .ok (.getfield 121, 3) := by decide +kernel
theorem dX12_carryOut_179 : decode cX12_carryOut 179 = .ok (.iload_n 2, 1) := by decide +kernel
theorem dX12_carryOut_180 : decode cX12_carryOut 180 = .ok (.aaload, 1) := by decide +kernel
theorem dX12_carryOut_181 : decode cX12_carryOut 181 = .ok (.iload_n 3, 1) := by decide +kernel
theorem dX12_carryOut_182 : decode cX12_carryOut 182 = .ok (.invokevirtual 125, 3) := by decide +kernel
theorem dX12_carryOut_185 : decode cX12_carryOut 185 = .ok (.pop, 1) := by decide +kernel
theorem dX12_carryOut_186 : decode cX12_carryOut 186 = .ok (.goto 153, 3) := by decide +kernel
theorem dX12_carryOut_189 : decode cX12_carryOut 189 = .ok (.aload_n 0, 1) := by decide +kernel
theorem dX12_carryOut_190 : decode cX12_carryOut 190 = .ok (.getfield 10, 3) := by decide +kernel
theorem dX12_carryOut_193 : decode cX12_carryOut 193 = .ok (.getfield 121, 3) := by decide +kernel
theorem dX12_carryOut_196 : decode cX12_carryOut 196 = .ok (.iload_n 2, 1) := by decide +kernel
theorem dX12_carryOut_197 : decode cX12_carryOut 197 = .ok (.aaload, 1) := by decide +kernel
theorem dX12_carryOut_198 : decode cX12_carryOut 198 = .ok (.invokevirtual 133, 3) := by decide +kernel
theorem dX12_carryOut_201 : decode cX12_carryOut 201 = .ok (.pop, 1) := by decide +kernel
theorem dX12_carryOut_202 : decode cX12_carryOut 202 = .ok (.goto 137, 3) := by decide +kernel
theorem dX12_carryOut_205 : decode cX12_carryOut 205 = .ok (.aload_n 0, 1) := by decide +kernel
theorem dX12_carryOut_206 : decode cX12_carryOut 206 = .ok (.getfield 10, 3) := by decide +kernel
theorem dX12_carryOut_209 : decode cX12_carryOut 209 = .ok (.iconst 1, 1) := by decide +kernel
theorem dX12_carryOut_210 : decode cX12_carryOut 210 = .ok (.putfield 137, 3) := by decide +kernel
theorem dX12_carryOut_213 : decode cX12_carryOut 213 = .ok (.goto 126, 3) := by decide +kernel
theorem dX12_carryOut_216 : decode cX12_carryOut 216 = .ok (.aload_n 0, 1) := by decide +kernel
theorem dX12_carryOut_217 : decode cX12_carryOut 217 = .ok (.getfield 10, 3) := by decide +kernel
theorem dX12_carryOut_220 : decode cX12_carryOut 220 = .ok (.iconst 0, 1) := by decide +kernel
theorem dX12_carryOut_221 : decode cX12_carryOut 221 = .ok (.putfield 137, 3) := by decide +kernel
theorem dX12_carryOut_224 : decode cX12_carryOut 224 = .ok (.goto 115, 3) := by decide +kernel
theorem dX12_carryOut_227 : decode cX12_carryOut 227 = .ok (.aload_n 0, 1) := by decide +kernel
theorem dX12_carryOut_228 : decode cX12_carryOut 228 = .ok (.getfield 10, 3) := by decide +kernel
theorem dX12_carryOut_231 : decode cX12_carryOut 231 = .ok (.getfield 149, 3) := by decide +kernel
theorem dX12_carryOut_234 : decode cX12_carryOut 234 = .ok (.iload_n 2, 1) := by decide +kernel
theorem dX12_carryOut_235 : decode cX12_carryOut 235 = .ok (.iconst 1, 1) := by decide +kernel
theorem dX12_carryOut_236 : decode cX12_carryOut 236 = .ok (.bastore, 1) := by decide +kernel
theorem dX12_carryOut_237 : decode cX12_carryOut 237 = .ok (.goto 102, 3) := by decide +kernel
theorem dX12_carryOut_240 : decode cX12_carryOut 240 = .ok (.aload_n 0, 1) := by decide +kernel
theorem dX12_carryOut_241 : decode cX12_carryOut 241 = .ok (.getfield 10, 3) := by decide +kernel
theorem dX12_carryOut_244 : decode cX12_carryOut 244 = .ok (.getfield 149, 3) := by decide +kernel
theorem dX12_carryOut_247 : decode cX12_carryOut 247 = .ok (.iload_n 2, 1) := by decide +kernel
theorem dX12_carryOut_248 : decode cX12_carryOut 248 = .ok (.iconst 0, 1) := by decide +kernel
theorem dX12_carryOut_249 : decode cX12_carryOut 249 = .ok (.bastore, 1) := by decide +kernel
theorem dX12_carryOut_250 : decode cX12_carryOut 250 = .ok (.goto 89, 3) := by decide +kernel
theorem dX12_carryOut_253 : decode cX12_carryOut 253 = .ok (.aload_n 0, 1) := by decide +kernel
theorem dX12_carryOut_254 : decode cX12_carryOut 254 = .ok (.getfield 10, 3) := by decide +kernel
theorem dX12_carryOut_257 : decode cX12_carryOut 257 = .ok (.getfield 121, 3) := by decide +kernel
theorem dX12_carryOut_260 : decode cX12_carryOut 260 = .ok (.iload_n 2, 1) := by decide +kernel
theorem dX12_carryOut_261 : decode cX12_carryOut 261 = .ok (.aaload, 1) := by decide +kernel
theorem dX12_carryOut_262 : decode cX12_carryOut 262 = .ok (.iconst 1, 1) := by decide +kernel
theorem dX12_carryOut_263 : decode cX12_carryOut 263 = .ok (.putfield 156, 3) := by decide +kernel
theorem dX12_carryOut_266 : decode cX12_carryOut 266 = .ok (.goto 73, 3) := by decide +kernel
theorem dX12_carryOut_269 : decode cX12_carryOut 269 = .ok (.aload_n 0, 1) := by decide +kernel
theorem dX12_carryOut_270 : decode cX12_carryOut 270 = .ok (.getfield 10, 3) := by decide +kernel
theorem dX12_carryOut_273 : decode cX12_carryOut 273 = .ok (.getfield 121, 3) := by decide +kernel
theorem dX12_carryOut_276 : decode cX12_carryOut 276 = .ok (.iload_n 2, 1) := by decide +kernel
theorem dX12_carryOut_277 : decode cX12_carryOut 277 = .ok (.aaload, 1) := by decide +kernel
theorem dX12_carryOut_278 : decode cX12_carryOut 278 = .ok (.iconst 0, 1) := by decide +kernel
theorem dX12_carryOut_279 : decode cX12_carryOut 279 = .ok (.putfield 156, 3) := by decide +kernel
theorem dX12_carryOut_282 : decode cX12_carryOut 282 = .ok (.goto 57, 3) := by decide +kernel
theorem dX12_carryOut_285 : decode cX12_carryOut 285 = .ok (.aload_n 0, 1) := by decide +kernel
theorem dX12_carryOut_286 : decode cX12_carryOut 286 = .ok (.getfield 10, 3) := by decide +kernel
theorem dX12_carryOut_289 : decode cX12_carryOut 289 = .ok (.iload_n 2, 1) := by decide +kernel
theorem dX12_carryOut_290 : decode cX12_carryOut 290 = .ok (.iload_n 3, 1) := by decide +kernel
theorem dX12_carryOut_291 : decode cX12_carryOut 291 = .ok (.iload 4, 2) := by decide +kernel
theorem dX12_carryOut_293 : decode cX12_carryOut 293 = .ok (.iload 5, 2) := by decide +kernel
theorem dX12_carryOut_295 : decode cX12_carryOut 295 = .ok (.invokevirtual 162, 3) := by decide +kernel
theorem dX12_carryOut_298 : decode cX12_carryOut 298 = .ok (.pop, 1) := by decide +kernel
theorem dX12_carryOut_299 : decode cX12_carryOut 299 = .ok (.goto 40, 3) := by decide +kernel
theorem dX12_carryOut_302 : decode cX12_carryOut 302 = .ok (.aload_n 0, 1) := by decide +kernel
theorem dX12_carryOut_303 : decode cX12_carryOut 303 = .ok (.getfield 10, 3) := by decide +kernel
theorem dX12_carryOut_306 : decode cX12_carryOut 306 = .ok (.getfield 168, 3) := by decide +kernel
theorem dX12_carryOut_309 : decode cX12_carryOut 309 = .ok (.aload_n 0, 1) := by decide +kernel
theorem dX12_carryOut_310 : decode cX12_carryOut 310 = .ok (.getfield 10, 3) := by decide +kernel
theorem dX12_carryOut_313 : decode cX12_carryOut 313 = .ok (.getfield 168, 3) := by decide +kernel
theorem dX12_carryOut_316 : decode cX12_carryOut 316 = .ok (.iload_n 2, 1) := by decide +kernel
theorem dX12_carryOut_317 : decode cX12_carryOut 317 = .ok (.invokevirtual 465, 3) := by decide +kernel
theorem dX12_carryOut_320 : decode cX12_carryOut 320 = .ok (.invokevirtual 172, 3) := by decide +kernel
theorem dX12_carryOut_323 : decode cX12_carryOut 323 = .ok (.pop, 1) := by decide +kernel
theorem dX12_carryOut_324 : decode cX12_carryOut 324 = .ok (.goto 15, 3) := by decide +kernel
theorem dX12_carryOut_327 : decode cX12_carryOut 327 = .ok (.aload_n 0, 1) := by decide +kernel
theorem dX12_carryOut_328 : decode cX12_carryOut 328 = .ok (.getfield 10, 3) := by decide +kernel
theorem dX12_carryOut_331 : decode cX12_carryOut 331 = .ok (.iload_n 2, 1) := by decide +kernel
theorem dX12_carryOut_332 : decode cX12_carryOut 332 = .ok (.invokevirtual 180, 3) := by decide +kernel
theorem dX12_carryOut_335 : decode cX12_carryOut 335 = .ok (.pop, 1) := by decide +kernel
theorem dX12_carryOut_336 : decode cX12_carryOut 336 = .ok (.goto 3, 3) := by decide +kernel
theorem dX12_carryOut_339 : decode cX12_carryOut 339 = .ok (.return_, 1) := by decide +kernel
theorem dX12_journeysAgree_0 : decode cX12_journeysAgree 0 = .ok (.aload_n 0, 1) := by decide +kernel
theorem dX12_journeysAgree_1 : decode cX12_journeysAgree 1 = .ok (.getfield 10, 3) := by decide +kernel
theorem dX12_journeysAgree_4 : decode cX12_journeysAgree 4 = .ok (.getfield 186, 3) := by decide +kernel
theorem dX12_journeysAgree_7 : decode cX12_journeysAgree 7 = .ok (.ifCond .ne 5, 3) := by decide +kernel
theorem dX12_journeysAgree_10 : decode cX12_journeysAgree 10 = .ok (.iconst 1, 1) := by decide +kernel
theorem dX12_journeysAgree_11 : decode cX12_journeysAgree 11 = .ok (.ireturn, 1) := by decide +kernel
theorem dX12_journeysAgree_12 : decode cX12_journeysAgree 12 = .ok (.aload_n 0, 1) := by decide +kernel
theorem dX12_journeysAgree_13 : decode cX12_journeysAgree 13 = .ok (.getfield 36, 3) := by decide +kernel
theorem dX12_journeysAgree_16 : decode cX12_journeysAgree 16 = .ok (.aload_n 0, 1) := by decide +kernel
theorem dX12_journeysAgree_17 : decode cX12_journeysAgree 17 = .ok (.getfield 10, 3) := by decide +kernel
theorem dX12_journeysAgree_20 : decode cX12_journeysAgree 20 = .ok (.iconst 0, 1) := by decide +kernel
theorem dX12_journeysAgree_21 : decode cX12_journeysAgree 21 = .ok (.aload_n 0, 1) := by decide +kernel
theorem dX12_journeysAgree_22 : decode cX12_journeysAgree 22 = .ok (.getfield 10, 3) := by decide +kernel
theorem dX12_journeysAgree_25 : decode cX12_journeysAgree 25 = .ok (.getfield 183, 3) := by decide +kernel
theorem dX12_journeysAgree_28 : decode cX12_journeysAgree 28 = .ok (.invokevirtual 251, 3) := by decide +kernel
theorem dX12_journeysAgree_31 : decode cX12_journeysAgree 31 = .ok (.aload_n 0, 1) := by decide +kernel
theorem dX12_journeysAgree_32 : decode cX12_journeysAgree 32 = .ok (.getfield 40, 3) := by decide +kernel
theorem dX12_journeysAgree_35 : decode cX12_journeysAgree 35 = .ok (.aload_n 0, 1) := by decide +kernel
theorem dX12_journeysAgree_36 : decode cX12_journeysAgree 36 = .ok (.getfield 10, 3) := by decide +kernel
theorem dX12_journeysAgree_39 : decode cX12_journeysAgree 39 = .ok (.iconst 0, 1) := by decide +kernel
theorem dX12_journeysAgree_40 : decode cX12_journeysAgree 40 = .ok (.aload_n 0, 1) := by decide +kernel
theorem dX12_journeysAgree_41 : decode cX12_journeysAgree 41 = .ok (.getfield 10, 3) := by decide +kernel
theorem dX12_journeysAgree_44 : decode cX12_journeysAgree 44 = .ok (.getfield 183, 3) := by decide +kernel
theorem dX12_journeysAgree_47 : decode cX12_journeysAgree 47 = .ok (.invokevirtual 261, 3) := by decide +kernel
theorem dX12_journeysAgree_50 : decode cX12_journeysAgree 50 = .ok (.aload_n 0, 1) := by decide +kernel
theorem dX12_journeysAgree_51 : decode cX12_journeysAgree 51 = .ok (.getfield 46, 3) := by decide +kernel
theorem dX12_journeysAgree_54 : decode cX12_journeysAgree 54 = .ok (.aload_n 0, 1) := by decide +kernel
theorem dX12_journeysAgree_55 : decode cX12_journeysAgree 55 = .ok (.getfield 10, 3) := by decide +kernel
theorem dX12_journeysAgree_58 : decode cX12_journeysAgree 58 = .ok (.iconst 0, 1) := by decide +kernel
theorem dX12_journeysAgree_59 : decode cX12_journeysAgree 59 = .ok (.invokevirtual 267, 3) := by decide +kernel
theorem dX12_journeysAgree_62 : decode cX12_journeysAgree 62 = .ok (.aload_n 0, 1) := by decide +kernel
theorem dX12_journeysAgree_63 : decode cX12_journeysAgree 63 = .ok (.getfield 46, 3) := by decide +kernel
theorem dX12_journeysAgree_66 : decode cX12_journeysAgree 66 = .ok (.aload_n 0, 1) := by decide +kernel
theorem dX12_journeysAgree_67 : decode cX12_journeysAgree 67 = .ok (.getfield 10, 3) := by decide +kernel
theorem dX12_journeysAgree_70 : decode cX12_journeysAgree 70 = .ok (.invokevirtual 273, 3) := by decide +kernel
theorem dX12_journeysAgree_73 : decode cX12_journeysAgree 73 = .ok (.iconst 1, 1) := by decide +kernel
theorem dX12_journeysAgree_74 : decode cX12_journeysAgree 74 = .ok (.istore_n 1, 1) := by decide +kernel
theorem dX12_journeysAgree_75 : decode cX12_journeysAgree 75 = .ok (.iload_n 1, 1) := by decide +kernel
theorem dX12_journeysAgree_76 : decode cX12_journeysAgree 76 = .ok (.aload_n 0, 1) := by decide +kernel
theorem dX12_journeysAgree_77 : decode cX12_journeysAgree 77 = .ok (.getfield 10, 3) := by decide +kernel
theorem dX12_journeysAgree_80 : decode cX12_journeysAgree 80 = .ok (.getfield 186, 3) := by decide +kernel
theorem dX12_journeysAgree_83 : decode cX12_journeysAgree 83 = .ok (.if_icmp .ge 53, 3) := by decide +kernel
theorem dX12_journeysAgree_86 : decode cX12_journeysAgree 86 = .ok (.aload_n 0, 1) := by decide +kernel
theorem dX12_journeysAgree_87 : decode cX12_journeysAgree 87 = .ok (.getfield 36, 3) := by decide +kernel
theorem dX12_journeysAgree_90 : decode cX12_journeysAgree 90 = .ok (.getfield 255, 3) := by decide +kernel
theorem dX12_journeysAgree_93 : decode cX12_journeysAgree 93 = .ok (.iload_n 1, 1) := by decide +kernel
theorem dX12_journeysAgree_94 : decode cX12_journeysAgree 94 = .ok (.iaload, 1) := by decide +kernel
theorem dX12_journeysAgree_95 : decode cX12_journeysAgree 95 = .ok (.aload_n 0, 1) := by decide +kernel
theorem dX12_journeysAgree_96 : decode cX12_journeysAgree 96 = .ok (.getfield 40, 3) := by decide +kernel
theorem dX12_journeysAgree_99 : decode cX12_journeysAgree 99 = .ok (.getfield 255, 3) := by decide +kernel
theorem dX12_journeysAgree_102 : decode cX12_journeysAgree 102 = .ok (.iload_n 1, 1) := by decide +kernel
theorem dX12_journeysAgree_103 : decode cX12_journeysAgree 103 = .ok (.iaload, 1) := by decide +kernel
theorem dX12_journeysAgree_104 : decode cX12_journeysAgree 104 = .ok (.if_icmp .ne 24, 3) := by decide +kernel
theorem dX12_journeysAgree_107 : decode cX12_journeysAgree 107 = .ok (.aload_n 0, 1) := by decide +kernel
theorem dX12_journeysAgree_108 : decode cX12_journeysAgree 108 = .ok (.getfield 46, 3) := by decide +kernel
theorem dX12_journeysAgree_111 : decode cX12_journeysAgree 111 = .ok (.getfield 270, 3) := by decide +kernel
theorem dX12_journeysAgree_114 : decode cX12_journeysAgree 114 = .ok (.iload_n 1, 1) := by decide +kernel
theorem dX12_journeysAgree_115 : decode cX12_journeysAgree 115 = .ok (.iaload, 1) := by decide +kernel
theorem dX12_journeysAgree_116 : decode cX12_journeysAgree 116 = .ok (.aload_n 0, 1) := by decide +kernel
theorem dX12_journeysAgree_117 : decode cX12_journeysAgree 117 = .ok (.getfield 46, 3) := by decide +kernel
theorem dX12_journeysAgree_120 : decode cX12_journeysAgree 120 = .ok (.iconst 0, 1) := by decide +kernel
theorem dX12_journeysAgree_121 : decode cX12_journeysAgree 121 = .ok (.iload_n 1, 1) := by decide +kernel
theorem dX12_journeysAgree_122 : decode cX12_journeysAgree 122 = .ok (.invokevirtual 276, 3) := by decide +kernel
theorem dX12_journeysAgree_125 : decode cX12_journeysAgree 125 = .ok (.if_icmp .eq 5, 3) := by decide +kernel
theorem dX12_journeysAgree_128 : decode cX12_journeysAgree 128 = .ok (.iconst 0, 1) := by decide +kernel
theorem dX12_journeysAgree_129 : decode cX12_journeysAgree 129 = .ok (.ireturn, 1) := by decide +kernel
theorem dX12_journeysAgree_130 : decode cX12_journeysAgree 130 = .ok (.iinc 1 1, 3) := by decide +kernel
theorem dX12_journeysAgree_133 : decode cX12_journeysAgree 133 = .ok (.goto (-58), 3) := by decide +kernel
theorem dX12_journeysAgree_136 : decode cX12_journeysAgree 136 = .ok (.iconst 1, 1) := by decide +kernel
theorem dX12_journeysAgree_137 : decode cX12_journeysAgree 137 = .ok (.ireturn, 1) := by decide +kernel
theorem dX12_flowsAgree_0 : decode cX12_flowsAgree 0 = .ok (.iconst 1, 1) := by decide +kernel
theorem dX12_flowsAgree_1 : decode cX12_flowsAgree 1 = .ok (.istore_n 1, 1) := by decide +kernel
theorem dX12_flowsAgree_2 : decode cX12_flowsAgree 2 = .ok (.iload_n 1, 1) := by decide +kernel
theorem dX12_flowsAgree_3 : decode cX12_flowsAgree 3 = .ok (.aload_n 0, 1) := by decide +kernel
theorem dX12_flowsAgree_4 : decode cX12_flowsAgree 4 = .ok (.getfield 10, 3) := by decide +kernel
theorem dX12_flowsAgree_7 : decode cX12_flowsAgree 7 = .ok (.getfield 186, 3) := by decide +kernel
theorem dX12_flowsAgree_10 : decode cX12_flowsAgree 10 = .ok (.if_icmp .ge 40, 3) := by decide +kernel
theorem dX12_flowsAgree_13 : decode cX12_flowsAgree 13 = .ok (.aload_n 0, 1) := by decide +kernel
theorem dX12_flowsAgree_14 : decode cX12_flowsAgree 14 = .ok (.getfield 53, 3) := by decide +kernel
theorem dX12_flowsAgree_17 : decode cX12_flowsAgree 17 = .ok (.aload_n 0, 1) := by decide +kernel
theorem dX12_flowsAgree_18 : decode cX12_flowsAgree 18 = .ok (.getfield 10, 3) := by decide +kernel
theorem dX12_flowsAgree_21 : decode cX12_flowsAgree 21 = .ok (.iconst 0, 1) := by decide +kernel
theorem dX12_flowsAgree_22 : decode cX12_flowsAgree 22 = .ok (.iload_n 1, 1) := by decide +kernel
theorem dX12_flowsAgree_23 : decode cX12_flowsAgree 23 = .ok (.invokevirtual 282, 3) := by decide +kernel
theorem dX12_flowsAgree_26 : decode cX12_flowsAgree 26 = .ok (.aload_n 0, 1) := by decide +kernel
theorem dX12_flowsAgree_27 : decode cX12_flowsAgree 27 = .ok (.getfield 53, 3) := by decide +kernel
theorem dX12_flowsAgree_30 : decode cX12_flowsAgree 30 = .ok (.aload_n 0, 1) := by decide +kernel
theorem dX12_flowsAgree_31 : decode cX12_flowsAgree 31 = .ok (.getfield 10, 3) := by decide +kernel
theorem dX12_flowsAgree_34 : decode cX12_flowsAgree 34 = .ok (.iconst 0, 1) := by decide +kernel
theorem dX12_flowsAgree_35 : decode cX12_flowsAgree 35 = .ok (.iload_n 1, 1) := by decide +kernel
theorem dX12_flowsAgree_36 : decode cX12_flowsAgree 36 = .ok (.invokevirtual 286, 3) := by decide +kernel
theorem dX12_flowsAgree_39 : decode cX12_flowsAgree 39 = .ok (.if_icmp .eq 5, 3) := by decide +kernel
theorem dX12_flowsAgree_42 : decode cX12_flowsAgree 42 = .ok (.iconst 0, 1) := by decide +kernel
theorem dX12_flowsAgree_43 : decode cX12_flowsAgree 43 = .ok (.ireturn, 1) := by decide +kernel
theorem dX12_flowsAgree_44 : decode cX12_flowsAgree 44 = .ok (.iinc 1 1, 3) := by decide +kernel
theorem dX12_flowsAgree_47 : decode cX12_flowsAgree 47 = .ok (.goto (-45), 3) := by decide +kernel
theorem dX12_flowsAgree_50 : decode cX12_flowsAgree 50 = .ok (.iconst 1, 1) := by decide +kernel
theorem dX12_flowsAgree_51 : decode cX12_flowsAgree 51 = .ok (.ireturn, 1) := by decide +kernel
theorem dX12_seatsAgree_0 : decode cX12_seatsAgree 0 = .ok (.iconst 0, 1) := by decide +kernel
theorem dX12_seatsAgree_1 : decode cX12_seatsAgree 1 = .ok (.istore_n 1, 1) := by decide +kernel
theorem dX12_seatsAgree_2 : decode cX12_seatsAgree 2 = .ok (.iload_n 1, 1) := by decide +kernel
theorem dX12_seatsAgree_3 : decode cX12_seatsAgree 3 = .ok (.aload_n 0, 1) := by decide +kernel
theorem dX12_seatsAgree_4 : decode cX12_seatsAgree 4 = .ok (.getfield 10, 3) := by decide +kernel
theorem dX12_seatsAgree_7 : decode cX12_seatsAgree 7 = .ok (.getfield 168, 3) := by decide +kernel
theorem dX12_seatsAgree_10 : decode cX12_seatsAgree 10 = .ok (.getfield 298, 3) := by decide +kernel
theorem dX12_seatsAgree_13 : decode cX12_seatsAgree 13 = .ok (.if_icmp .ge 83, 3) := by decide +kernel
theorem dX12_seatsAgree_16 : decode cX12_seatsAgree 16 = .ok (.aload_n 0, 1) := by decide +kernel
theorem dX12_seatsAgree_17 : decode cX12_seatsAgree 17 = .ok (.getfield 10, 3) := by decide +kernel
theorem dX12_seatsAgree_20 : decode cX12_seatsAgree 20 = .ok (.getfield 168, 3) := by decide +kernel
theorem dX12_seatsAgree_23 : decode cX12_seatsAgree 23 = .ok (.getfield 304, 3) := by decide +kernel
theorem dX12_seatsAgree_26 : decode cX12_seatsAgree 26 = .ok (.iload_n 1, 1) := by decide +kernel
theorem dX12_seatsAgree_27 : decode cX12_seatsAgree 27 = .ok (.aaload, 1) := by decide +kernel
theorem dX12_seatsAgree_28 : decode cX12_seatsAgree 28 = .ok (.astore_n 2, 1) := by decide +kernel
theorem dX12_seatsAgree_29 : decode cX12_seatsAgree 29 = .ok (.aload_n 0, 1) := by decide +kernel
theorem dX12_seatsAgree_30 : decode cX12_seatsAgree 30 = .ok (.getfield 10, 3) := by decide +kernel
theorem dX12_seatsAgree_33 : decode cX12_seatsAgree 33 = .ok (.aload_n 2, 1) := by decide +kernel
theorem dX12_seatsAgree_34 : decode cX12_seatsAgree 34 = .ok (.getfield 313, 3) := by decide +kernel
theorem dX12_seatsAgree_37 : decode cX12_seatsAgree 37 = .ok (.aload_n 2, 1) := by decide +kernel
theorem dX12_seatsAgree_38 : decode cX12_seatsAgree 38 = .ok (.getfield 316, 3) := by decide +kernel
theorem dX12_seatsAgree_41 : decode cX12_seatsAgree 41 = .ok (.aload_n 2, 1) := by decide +kernel
theorem dX12_seatsAgree_42 : decode cX12_seatsAgree 42 = .ok (.getfield 319, 3) := by decide +kernel
theorem dX12_seatsAgree_45 : decode cX12_seatsAgree 45 = .ok (.aload_n 2, 1) := by decide +kernel
theorem dX12_seatsAgree_46 : decode cX12_seatsAgree 46 = .ok (.getfield 322, 3) := by decide +kernel
theorem dX12_seatsAgree_49 : decode cX12_seatsAgree 49 = .ok (.invokevirtual 292, 3) := by decide +kernel
theorem dX12_seatsAgree_52 : decode cX12_seatsAgree 52 = .ok (.istore_n 3, 1) := by decide +kernel
theorem dX12_seatsAgree_53 : decode cX12_seatsAgree 53 = .ok (.aload_n 0, 1) := by decide +kernel
theorem dX12_seatsAgree_54 : decode cX12_seatsAgree 54 = .ok (.getfield 10, 3) := by decide +kernel
theorem dX12_seatsAgree_57 : decode cX12_seatsAgree 57 = .ok (.aload_n 2, 1) := by decide +kernel
theorem dX12_seatsAgree_58 : decode cX12_seatsAgree 58 = .ok (.getfield 313, 3) := by decide +kernel
theorem dX12_seatsAgree_61 : decode cX12_seatsAgree 61 = .ok (.aload_n 2, 1) := by decide +kernel
theorem dX12_seatsAgree_62 : decode cX12_seatsAgree 62 = .ok (.getfield 316, 3) := by decide +kernel
theorem dX12_seatsAgree_65 : decode cX12_seatsAgree 65 = .ok (.aload_n 2, 1) := by decide +kernel
theorem dX12_seatsAgree_66 : decode cX12_seatsAgree 66 = .ok (.getfield 319, 3) := by decide +kernel
theorem dX12_seatsAgree_69 : decode cX12_seatsAgree 69 = .ok (.aload_n 2, 1) := by decide +kernel
theorem dX12_seatsAgree_70 : decode cX12_seatsAgree 70 = .ok (.getfield 322, 3) := by decide +kernel
theorem dX12_seatsAgree_73 : decode cX12_seatsAgree 73 = .ok (.invokevirtual 295, 3) := by decide +kernel
theorem dX12_seatsAgree_76 : decode cX12_seatsAgree 76 = .ok (.istore 4, 2) := by decide +kernel
theorem dX12_seatsAgree_78 : decode cX12_seatsAgree 78 = .ok (.iload_n 3, 1) := by decide +kernel
theorem dX12_seatsAgree_79 : decode cX12_seatsAgree 79 = .ok (.iload 4, 2) := by decide +kernel
theorem dX12_seatsAgree_81 : decode cX12_seatsAgree 81 = .ok (.if_icmp .ne 7, 3) := by decide +kernel
theorem dX12_seatsAgree_84 : decode cX12_seatsAgree 84 = .ok (.iload_n 3, 1) := by decide +kernel
theorem dX12_seatsAgree_85 : decode cX12_seatsAgree 85 = .ok (.ifCond .ge 5, 3) := by decide +kernel
theorem dX12_seatsAgree_88 : decode cX12_seatsAgree 88 = .ok (.iconst 0, 1) := by decide +kernel
theorem dX12_seatsAgree_89 : decode cX12_seatsAgree 89 = .ok (.ireturn, 1) := by decide +kernel
theorem dX12_seatsAgree_90 : decode cX12_seatsAgree 90 = .ok (.iinc 1 1, 3) := by decide +kernel
theorem dX12_seatsAgree_93 : decode cX12_seatsAgree 93 = .ok (.goto (-91), 3) := by decide +kernel
theorem dX12_seatsAgree_96 : decode cX12_seatsAgree 96 = .ok (.iconst 1, 1) := by decide +kernel
theorem dX12_seatsAgree_97 : decode cX12_seatsAgree 97 = .ok (.ireturn, 1) := by decide +kernel
