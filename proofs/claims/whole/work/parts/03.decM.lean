theorem dX13_init_0 : decode cX13_init 0 = .ok (.aload_n 0, 1) := by decide +kernel
theorem dX13_init_1 : decode cX13_init 1 = .ok (.invokespecial 1, 3) := by decide +kernel
theorem dX13_init_4 : decode cX13_init 4 = .ok (.aload_n 0, 1) := by decide +kernel
theorem dX13_init_5 : decode cX13_init 5 = .ok (.sipush 340, 3) := by decide +kernel
theorem dX13_init_8 : decode cX13_init 8 = .ok (.newarray .int, 2) := by decide +kernel
theorem dX13_init_10 : decode cX13_init 10 = .ok (.putfield 7, 3) := by decide +kernel
theorem dX13_init_13 : decode cX13_init 13 = .ok (.aload_n 0, 1) := by decide +kernel
theorem dX13_init_14 : decode cX13_init 14 = .ok (.sipush 340, 3) := by decide +kernel
theorem dX13_init_17 : decode cX13_init 17 = .ok (.newarray .int, 2) := by decide +kernel
theorem dX13_init_19 : decode cX13_init 19 = .ok (.putfield 13, 3) := by decide +kernel
theorem dX13_init_22 : decode cX13_init 22 = .ok (.aload_n 0, 1) := by decide +kernel
theorem dX13_init_23 : decode cX13_init 23 = .ok (.sipush 340, 3) := by decide +kernel
theorem dX13_init_26 : decode cX13_init 26 = .ok (.newarray .int, 2) := by decide +kernel
theorem dX13_init_28 : decode cX13_init 28 = .ok (.putfield 16, 3) := by decide +kernel
theorem dX13_init_31 : decode cX13_init 31 = .ok (.aload_n 0, 1) := by decide +kernel
theorem dX13_init_32 : decode cX13_init 32 = .ok (.sipush 2720, 3) := by decide +kernel
theorem dX13_init_35 : decode cX13_init 35 = .ok (.newarray .int, 2) := by decide +kernel
theorem dX13_init_37 : decode cX13_init 37 = .ok (.putfield 19, 3) := by decide +kernel
theorem dX13_init_40 : decode cX13_init 40 = .ok (.aload_n 0, 1) := by decide +kernel
theorem dX13_init_41 : decode cX13_init 41 = .ok (.bipush 10, 2) := by decide +kernel
theorem dX13_init_43 : decode cX13_init 43 = .ok (.newarray .int, 2) := by decide +kernel
theorem dX13_init_45 : decode cX13_init 45 = .ok (.putfield 22, 3) := by decide +kernel
theorem dX13_init_48 : decode cX13_init 48 = .ok (.aload_n 0, 1) := by decide +kernel
theorem dX13_init_49 : decode cX13_init 49 = .ok (.bipush 10, 2) := by decide +kernel
theorem dX13_init_51 : decode cX13_init 51 = .ok (.newarray .int, 2) := by decide +kernel
theorem dX13_init_53 : decode cX13_init 53 = .ok (.putfield 25, 3) := by decide +kernel
theorem dX13_init_56 : decode cX13_init 56 = .ok (.aload_n 0, 1) := by decide +kernel
theorem dX13_init_57 : decode cX13_init 57 = .ok (.iconst 0, 1) := by decide +kernel
theorem dX13_init_58 : decode cX13_init 58 = .ok (.putfield 28, 3) := by decide +kernel
theorem dX13_init_61 : decode cX13_init 61 = .ok (.aload_n 0, 1) := by decide +kernel
theorem dX13_init_62 : decode cX13_init 62 = .ok (.iconst 0, 1) := by decide +kernel
theorem dX13_init_63 : decode cX13_init 63 = .ok (.putfield 32, 3) := by decide +kernel
theorem dX13_init_66 : decode cX13_init 66 = .ok (.aload_n 0, 1) := by decide +kernel
theorem dX13_init_67 : decode cX13_init 67 = .ok (.iconst (-1), 1) := by decide +kernel
theorem dX13_init_68 : decode cX13_init 68 = .ok (.putfield 35, 3) := by decide +kernel
theorem dX13_init_71 : decode cX13_init 71 = .ok (.aload_n 0, 1) := by decide +kernel
theorem dX13_init_72 : decode cX13_init 72 = .ok (.iconst (-1), 1) := by decide +kernel
theorem dX13_init_73 : decode cX13_init 73 = .ok (.putfield 38, 3) := by decide +kernel
theorem dX13_init_76 : decode cX13_init 76 = .ok (.aload_n 0, 1) := by decide +kernel
theorem dX13_init_77 : decode cX13_init 77 = .ok (.iconst 0, 1) := by decide +kernel
theorem dX13_init_78 : decode cX13_init 78 = .ok (.putfield 41, 3) := by decide +kernel
theorem dX13_init_81 : decode cX13_init 81 = .ok (.aload_n 0, 1) := by decide +kernel
theorem dX13_init_82 : decode cX13_init 82 = .ok (.bipush 80, 2) := by decide +kernel
theorem dX13_init_84 : decode cX13_init 84 = .ok (.newarray .int, 2) := by decide +kernel
theorem dX13_init_86 : decode cX13_init 86 = .ok (.putfield 45, 3) := by decide +kernel
theorem dX13_init_89 : decode cX13_init 89 = .ok (.aload_n 0, 1) := by decide +kernel
theorem dX13_init_90 : decode cX13_init 90 = .ok (.iconst 0, 1) := by decide +kernel
theorem dX13_init_91 : decode cX13_init 91 = .ok (.putfield 48, 3) := by decide +kernel
theorem dX13_init_94 : decode cX13_init 94 = .ok (.aload_n 0, 1) := by decide +kernel
theorem dX13_init_95 : decode cX13_init 95 = .ok (.bipush 60, 2) := by decide +kernel
theorem dX13_init_97 : decode cX13_init 97 = .ok (.newarray .int, 2) := by decide +kernel
theorem dX13_init_99 : decode cX13_init 99 = .ok (.putfield 51, 3) := by decide +kernel
theorem dX13_init_102 : decode cX13_init 102 = .ok (.aload_n 0, 1) := by decide +kernel
theorem dX13_init_103 : decode cX13_init 103 = .ok (.bipush 32, 2) := by decide +kernel
theorem dX13_init_105 : decode cX13_init 105 = .ok (.newarray .int, 2) := by decide +kernel
theorem dX13_init_107 : decode cX13_init 107 = .ok (.putfield 54, 3) := by decide +kernel
theorem dX13_init_110 : decode cX13_init 110 = .ok (.aload_n 0, 1) := by decide +kernel
theorem dX13_init_111 : decode cX13_init 111 = .ok (.sipush 128, 3) := by decide +kernel
theorem dX13_init_114 : decode cX13_init 114 = .ok (.newarray .int, 2) := by decide +kernel
theorem dX13_init_116 : decode cX13_init 116 = .ok (.putfield 57, 3) := by decide +kernel
theorem dX13_init_119 : decode cX13_init 119 = .ok (.aload_n 0, 1) := by decide +kernel
theorem dX13_init_120 : decode cX13_init 120 = .ok (.iconst 0, 1) := by decide +kernel
theorem dX13_init_121 : decode cX13_init 121 = .ok (.putfield 60, 3) := by decide +kernel
theorem dX13_init_124 : decode cX13_init 124 = .ok (.aload_n 0, 1) := by decide +kernel
theorem dX13_init_125 : decode cX13_init 125 = .ok (.iconst 0, 1) := by decide +kernel
theorem dX13_init_126 : decode cX13_init 126 = .ok (.putfield 63, 3) := by decide +kernel
theorem dX13_init_129 : decode cX13_init 129 = .ok (.aload_n 0, 1) := by decide +kernel
theorem dX13_init_130 : decode cX13_init 130 = .ok (.iconst 0, 1) := by decide +kernel
theorem dX13_init_131 : decode cX13_init 131 = .ok (.putfield 66, 3) := by decide +kernel
theorem dX13_init_134 : decode cX13_init 134 = .ok (.aload_n 0, 1) := by decide +kernel
theorem dX13_init_135 : decode cX13_init 135 = .ok (.iconst 0, 1) := by decide +kernel
theorem dX13_init_136 : decode cX13_init 136 = .ok (.putfield 69, 3) := by decide +kernel
theorem dX13_init_139 : decode cX13_init 139 = .ok (.aload_n 0, 1) := by decide +kernel
theorem dX13_init_140 : decode cX13_init 140 = .ok (.iconst 0, 1) := by decide +kernel
theorem dX13_init_141 : decode cX13_init 141 = .ok (.putfield 72, 3) := by decide +kernel
theorem dX13_init_144 : decode cX13_init 144 = .ok (.return_, 1) := by decide +kernel
theorem dX13_thrown_0 : decode cX13_thrown 0 = .ok (.aload_n 0, 1) := by decide +kernel
theorem dX13_thrown_1 : decode cX13_thrown 1 = .ok (.getfield 28, 3) := by decide +kernel
theorem dX13_thrown_4 : decode cX13_thrown 4 = .ok (.ireturn, 1) := by decide +kernel
theorem dX13_in_0 : decode cX13_in 0 = .ok (.iload_n 0, 1) := by decide +kernel
theorem dX13_in_1 : decode cX13_in 1 = .ok (.iload_n 1, 1) := by decide +kernel
theorem dX13_in_2 : decode cX13_in 2 = .ok (.if_icmp .lt 12, 3) := by decide +kernel
theorem dX13_in_5 : decode cX13_in 5 = .ok (.iload_n 0, 1) := by decide +kernel
theorem dX13_in_6 : decode cX13_in 6 = .ok (.iload_n 2, 1) := by decide +kernel
theorem dX13_in_7 : decode cX13_in 7 = .ok (.if_icmp .gt 7, 3) := by decide +kernel
theorem dX13_in_10 : decode cX13_in 10 = .ok (.iconst 1, 1) := by decide +kernel
theorem dX13_in_11 : decode cX13_in 11 = .ok (.goto 4, 3) := by decide +kernel
theorem dX13_in_14 : decode cX13_in 14 = .ok (.iconst 0, 1) := by decide +kernel
theorem dX13_in_15 : decode cX13_in 15 = .ok (.ireturn, 1) := by decide +kernel
theorem dX13_copy_0 : decode cX13_copy 0 = .ok (.iconst 0, 1) := by decide +kernel
theorem dX13_copy_1 : decode cX13_copy 1 = .ok (.istore 4, 2) := by decide +kernel
theorem dX13_copy_3 : decode cX13_copy 3 = .ok (.iload 4, 2) := by decide +kernel
theorem dX13_copy_5 : decode cX13_copy 5 = .ok (.sipush 340, 3) := by decide +kernel
theorem dX13_copy_8 : decode cX13_copy 8 = .ok (.if_icmp .ge 21, 3) := by decide +kernel
theorem dX13_copy_11 : decode cX13_copy 11 = .ok (.aload_n 2, 1) := by decide +kernel
theorem dX13_copy_12 : decode cX13_copy 12 = .ok (.iload_n 3, 1) := by decide +kernel
theorem dX13_copy_13 : decode cX13_copy 13 = .ok (.iload 4, 2) := by decide +kernel
theorem dX13_copy_15 : decode cX13_copy 15 = .ok (.iadd, 1) := by decide +kernel
theorem dX13_copy_16 : decode cX13_copy 16 = .ok (.aload_n 0, 1) := by decide +kernel
theorem dX13_copy_17 : decode cX13_copy 17 = .ok (.iload_n 1, 1) := by decide +kernel
theorem dX13_copy_18 : decode cX13_copy 18 = .ok (.iload 4, 2) := by decide +kernel
theorem dX13_copy_20 : decode cX13_copy 20 = .ok (.iadd, 1) := by decide +kernel
theorem dX13_copy_21 : decode cX13_copy 21 = .ok (.iaload, 1) := by decide +kernel
theorem dX13_copy_22 : decode cX13_copy 22 = .ok (.iastore, 1) := by decide +kernel
theorem dX13_copy_23 : decode cX13_copy 23 = .ok (.iinc 4 1, 3) := by decide +kernel
theorem dX13_copy_26 : decode cX13_copy 26 = .ok (.goto (-23), 3) := by decide +kernel
theorem dX13_copy_29 : decode cX13_copy 29 = .ok (.return_, 1) := by decide +kernel
theorem dX13_fail_0 : decode cX13_fail 0 = .ok (.aload_n 0, 1) := by decide +kernel
theorem dX13_fail_1 : decode cX13_fail 1 = .ok (.iload_n 1, 1) := by decide +kernel
theorem dX13_fail_2 : decode cX13_fail 2 = .ok (.putfield 28, 3) := by decide +kernel
theorem dX13_fail_5 : decode cX13_fail 5 = .ok (.iconst 0, 1) := by decide +kernel
theorem dX13_fail_6 : decode cX13_fail 6 = .ok (.ireturn, 1) := by decide +kernel
theorem dX13_begin_0 : decode cX13_begin 0 = .ok (.aload_n 0, 1) := by decide +kernel
theorem dX13_begin_1 : decode cX13_begin 1 = .ok (.iconst 0, 1) := by decide +kernel
theorem dX13_begin_2 : decode cX13_begin 2 = .ok (.putfield 28, 3) := by decide +kernel
theorem dX13_begin_5 : decode cX13_begin 5 = .ok (.aload_n 0, 1) := by decide +kernel
theorem dX13_begin_6 : decode cX13_begin 6 = .ok (.getfield 7, 3) := by decide +kernel
theorem dX13_begin_9 : decode cX13_begin 9 = .ok (.iconst 0, 1) := by decide +kernel
theorem dX13_begin_10 : decode cX13_begin 10 = .ok (.aload_n 0, 1) := by decide +kernel
theorem dX13_begin_11 : decode cX13_begin 11 = .ok (.getfield 13, 3) := by decide +kernel
theorem dX13_begin_14 : decode cX13_begin 14 = .ok (.iconst 0, 1) := by decide +kernel
theorem dX13_begin_15 : decode cX13_begin 15 = .ok (.invokestatic 75, 3) := by decide +kernel
theorem dX13_begin_18 : decode cX13_begin 18 = .ok (.return_, 1) := by decide +kernel
theorem dX13_commit_0 : decode cX13_commit 0 = .ok (.aload_n 0, 1) := by decide +kernel
theorem dX13_commit_1 : decode cX13_commit 1 = .ok (.getfield 32, 3) := by decide +kernel
theorem dX13_commit_4 : decode cX13_commit 4 = .ok (.bipush 8, 2) := by decide +kernel
theorem dX13_commit_6 : decode cX13_commit 6 = .ok (.if_icmp .ne 50, 3) := by decide +kernel
theorem dX13_commit_9 : decode cX13_commit 9 = .ok (.iconst 1, 1) := by decide +kernel
theorem dX13_commit_10 : decode cX13_commit 10 = .ok (.istore_n 2, 1) := by decide +kernel
theorem dX13_commit_11 : decode cX13_commit 11 = .ok (.iload_n 2, 1) := by decide +kernel
theorem dX13_commit_12 : decode cX13_commit 12 = .ok (.bipush 8, 2) := by decide +kernel
theorem dX13_commit_14 : decode cX13_commit 14 = .ok (.if_icmp .ge 32, 3) := by decide +kernel
theorem dX13_commit_17 : decode cX13_commit 17 = .ok (.aload_n 0, 1) := by decide +kernel
theorem dX13_commit_18 : decode cX13_commit 18 = .ok (.getfield 19, 3) := by decide +kernel
theorem dX13_commit_21 : decode cX13_commit 21 = .ok (.sipush 340, 3) := by decide +kernel
theorem dX13_commit_24 : decode cX13_commit 24 = .ok (.iload_n 2, 1) := by decide +kernel
theorem dX13_commit_25 : decode cX13_commit 25 = .ok (.imul, 1) := by decide +kernel
theorem dX13_commit_26 : decode cX13_commit 26 = .ok (.aload_n 0, 1) := by decide +kernel
theorem dX13_commit_27 : decode cX13_commit 27 = .ok (.getfield 19, 3) := by decide +kernel
theorem dX13_commit_30 : decode cX13_commit 30 = .ok (.sipush 340, 3) := by decide +kernel
theorem dX13_commit_33 : decode cX13_commit 33 = .ok (.iload_n 2, 1) := by decide +kernel
theorem dX13_commit_34 : decode cX13_commit 34 = .ok (.iconst 1, 1) := by decide +kernel
theorem dX13_commit_35 : decode cX13_commit 35 = .ok (.isub, 1) := by decide +kernel
theorem dX13_commit_36 : decode cX13_commit 36 = .ok (.imul, 1) := by decide +kernel
theorem dX13_commit_37 : decode cX13_commit 37 = .ok (.invokestatic 75, 3) := by decide +kernel
theorem dX13_commit_40 : decode cX13_commit 40 = .ok (.iinc 2 1, 3) := by decide +kernel
theorem dX13_commit_43 : decode cX13_commit 43 = .ok (.goto (-32), 3) := by decide +kernel
theorem dX13_commit_46 : decode cX13_commit 46 = .ok (.aload_n 0, 1) := by decide +kernel
theorem dX13_commit_47 : decode cX13_commit 47 = .ok (.dup, 1) := by decide +kernel
theorem dX13_commit_48 : decode cX13_commit 48 = .ok (.getfield 32, 3) := by decide +kernel
theorem dX13_commit_51 : decode cX13_commit 51 = .ok (.iconst 1, 1) := by decide +kernel
theorem dX13_commit_52 : decode cX13_commit 52 = .ok (.isub, 1) := by decide +kernel
theorem dX13_commit_53 : decode cX13_commit 53 = .ok (.putfield 32, 3) := by decide +kernel
theorem dX13_commit_56 : decode cX13_commit 56 = .ok (.aload_n 0, 1) := by decide +kernel
theorem dX13_commit_57 : decode cX13_commit 57 = .ok (.getfield 13, 3) := by decide +kernel
theorem dX13_commit_60 : decode cX13_commit 60 = .ok (.iconst 0, 1) := by decide +kernel
theorem dX13_commit_61 : decode cX13_commit 61 = .ok (.aload_n 0, 1) := by decide +kernel
theorem dX13_commit_62 : decode cX13_commit 62 = .ok (.getfield 19, 3) := by decide +kernel
theorem dX13_commit_65 : decode cX13_commit 65 = .ok (.sipush 340, 3) := by decide +kernel
theorem dX13_commit_68 : decode cX13_commit 68 = .ok (.aload_n 0, 1) := by decide +kernel
theorem dX13_commit_69 : decode cX13_commit 69 = .ok (.getfield 32, 3) := by decide +kernel
theorem dX13_commit_72 : decode cX13_commit 72 = .ok (.imul, 1) := by decide +kernel
theorem dX13_commit_73 : decode cX13_commit 73 = .ok (.invokestatic 75, 3) := by decide +kernel
theorem dX13_commit_76 : decode cX13_commit 76 = .ok (.aload_n 0, 1) := by decide +kernel
theorem dX13_commit_77 : decode cX13_commit 77 = .ok (.dup, 1) := by decide +kernel
theorem dX13_commit_78 : decode cX13_commit 78 = .ok (.getfield 32, 3) := by decide +kernel
theorem dX13_commit_81 : decode cX13_commit 81 = .ok (.iconst 1, 1) := by decide +kernel
theorem dX13_commit_82 : decode cX13_commit 82 = .ok (.iadd, 1) := by decide +kernel
theorem dX13_commit_83 : decode cX13_commit 83 = .ok (.putfield 32, 3) := by decide +kernel
theorem dX13_commit_86 : decode cX13_commit 86 = .ok (.iload_n 1, 1) := by decide +kernel
theorem dX13_commit_87 : decode cX13_commit 87 = .ok (.ireturn, 1) := by decide +kernel
theorem dX13_isStop_0 : decode cX13_isStop 0 = .ok (.iload_n 1, 1) := by decide +kernel
theorem dX13_isStop_1 : decode cX13_isStop 1 = .ok (.iconst 0, 1) := by decide +kernel
theorem dX13_isStop_2 : decode cX13_isStop 2 = .ok (.aload_n 0, 1) := by decide +kernel
theorem dX13_isStop_3 : decode cX13_isStop 3 = .ok (.getfield 7, 3) := by decide +kernel
theorem dX13_isStop_6 : decode cX13_isStop 6 = .ok (.iconst 0, 1) := by decide +kernel
theorem dX13_isStop_7 : decode cX13_isStop 7 = .ok (.iaload, 1) := by decide +kernel
theorem dX13_isStop_8 : decode cX13_isStop 8 = .ok (.iconst 1, 1) := by decide +kernel
theorem dX13_isStop_9 : decode cX13_isStop 9 = .ok (.isub, 1) := by decide +kernel
theorem dX13_isStop_10 : decode cX13_isStop 10 = .ok (.invokestatic 79, 3) := by decide +kernel
theorem dX13_isStop_13 : decode cX13_isStop 13 = .ok (.ireturn, 1) := by decide +kernel
theorem dX13_areStops_0 : decode cX13_areStops 0 = .ok (.aload_n 0, 1) := by decide +kernel
theorem dX13_areStops_1 : decode cX13_areStops 1 = .ok (.iload_n 1, 1) := by decide +kernel
theorem dX13_areStops_2 : decode cX13_areStops 2 = .ok (.invokevirtual 83, 3) := by decide +kernel
theorem dX13_areStops_5 : decode cX13_areStops 5 = .ok (.ifCond .eq 15, 3) := by decide +kernel
theorem dX13_areStops_8 : decode cX13_areStops 8 = .ok (.aload_n 0, 1) := by decide +kernel
theorem dX13_areStops_9 : decode cX13_areStops 9 = .ok (.iload_n 2, 1) := by decide +kernel
theorem dX13_areStops_10 : decode cX13_areStops 10 = .ok (.invokevirtual 83, 3) := by decide +kernel
theorem dX13_areStops_13 : decode cX13_areStops 13 = .ok (.ifCond .eq 7, 3) := by decide +kernel
theorem dX13_areStops_16 : decode cX13_areStops 16 = .ok (.iconst 1, 1) := by decide +kernel
theorem dX13_areStops_17 : decode cX13_areStops 17 = .ok (.goto 4, 3) := by decide +kernel
theorem dX13_areStops_20 : decode cX13_areStops 20 = .ok (.iconst 0, 1) := by decide +kernel
theorem dX13_areStops_21 : decode cX13_areStops 21 = .ok (.ireturn, 1) := by decide +kernel
theorem dX13_isOpen_0 : decode cX13_isOpen 0 = .ok (.aload_n 0, 1) := by decide +kernel
theorem dX13_isOpen_1 : decode cX13_isOpen 1 = .ok (.getfield 7, 3) := by decide +kernel
theorem dX13_isOpen_4 : decode cX13_isOpen 4 = .ok (.bipush 12, 2) := by decide +kernel
theorem dX13_isOpen_6 : decode cX13_isOpen 6 = .ok (.iconst 2, 1) := by decide +kernel
theorem dX13_isOpen_7 : decode cX13_isOpen 7 = .ok (.iload_n 1, 1) := by decide +kernel
theorem dX13_isOpen_8 : decode cX13_isOpen 8 = .ok (.imul, 1) := by decide +kernel
theorem dX13_isOpen_9 : decode cX13_isOpen 9 = .ok (.iadd, 1) := by decide +kernel
theorem dX13_isOpen_10 : decode cX13_isOpen 10 = .ok (.iconst 1, 1) := by decide +kernel
theorem dX13_isOpen_11 : decode cX13_isOpen 11 = .ok (.iadd, 1) := by decide +kernel
theorem dX13_isOpen_12 : decode cX13_isOpen 12 = .ok (.iaload, 1) := by decide +kernel
theorem dX13_isOpen_13 : decode cX13_isOpen 13 = .ok (.ifCond .ne 7, 3) := by decide +kernel
theorem dX13_isOpen_16 : decode cX13_isOpen 16 = .ok (.iconst 1, 1) := by decide +kernel
theorem dX13_isOpen_17 : decode cX13_isOpen 17 = .ok (.goto 4, 3) := by decide +kernel
theorem dX13_isOpen_20 : decode cX13_isOpen 20 = .ok (.iconst 0, 1) := by decide +kernel
theorem dX13_isOpen_21 : decode cX13_isOpen 21 = .ok (.ireturn, 1) := by decide +kernel
theorem dX13_transfer_0 : decode cX13_transfer 0 = .ok (.aload_n 0, 1) := by decide +kernel
theorem dX13_transfer_1 : decode cX13_transfer 1 = .ok (.getfield 7, 3) := by decide +kernel
theorem dX13_transfer_4 : decode cX13_transfer 4 = .ok (.bipush 12, 2) := by decide +kernel
theorem dX13_transfer_6 : decode cX13_transfer 6 = .ok (.iconst 2, 1) := by decide +kernel
theorem dX13_transfer_7 : decode cX13_transfer 7 = .ok (.iload_n 1, 1) := by decide +kernel
theorem dX13_transfer_8 : decode cX13_transfer 8 = .ok (.imul, 1) := by decide +kernel
theorem dX13_transfer_9 : decode cX13_transfer 9 = .ok (.iadd, 1) := by decide +kernel
theorem dX13_transfer_10 : decode cX13_transfer 10 = .ok (.iconst 0, 1) := by decide +kernel
theorem dX13_transfer_11 : decode cX13_transfer 11 = .ok (.iadd, 1) := by decide +kernel
theorem dX13_transfer_12 : decode cX13_transfer 12 = .ok (.iaload, 1) := by decide +kernel
theorem dX13_transfer_13 : decode cX13_transfer 13 = .ok (.ireturn, 1) := by decide +kernel
theorem dX13_walk_0 : decode cX13_walk 0 = .ok (.aload_n 0, 1) := by decide +kernel
theorem dX13_walk_1 : decode cX13_walk 1 = .ok (.getfield 7, 3) := by decide +kernel
theorem dX13_walk_4 : decode cX13_walk 4 = .ok (.bipush 32, 2) := by decide +kernel
theorem dX13_walk_6 : decode cX13_walk 6 = .ok (.bipush 10, 2) := by decide +kernel
theorem dX13_walk_8 : decode cX13_walk 8 = .ok (.iload_n 1, 1) := by decide +kernel
theorem dX13_walk_9 : decode cX13_walk 9 = .ok (.imul, 1) := by decide +kernel
theorem dX13_walk_10 : decode cX13_walk 10 = .ok (.iadd, 1) := by decide +kernel
theorem dX13_walk_11 : decode cX13_walk 11 = .ok (.iload_n 2, 1) := by decide +kernel
theorem dX13_walk_12 : decode cX13_walk 12 = .ok (.iadd, 1) := by decide +kernel
theorem dX13_walk_13 : decode cX13_walk 13 = .ok (.iaload, 1) := by decide +kernel
theorem dX13_walk_14 : decode cX13_walk 14 = .ok (.ireturn, 1) := by decide +kernel
theorem dX13_cannotAddStop_0 : decode cX13_cannotAddStop 0 = .ok (.iload_n 1, 1) := by decide +kernel
theorem dX13_cannotAddStop_1 : decode cX13_cannotAddStop 1 = .ok (.iconst 0, 1) := by decide +kernel
theorem dX13_cannotAddStop_2 : decode cX13_cannotAddStop 2 = .ok (.bipush 9, 2) := by decide +kernel
theorem dX13_cannotAddStop_4 : decode cX13_cannotAddStop 4 = .ok (.invokestatic 79, 3) := by decide +kernel
theorem dX13_cannotAddStop_7 : decode cX13_cannotAddStop 7 = .ok (.ifCond .ne 7, 3) := by decide +kernel
theorem dX13_cannotAddStop_10 : decode cX13_cannotAddStop 10 = .ok (.iconst 1, 1) := by decide +kernel
theorem dX13_cannotAddStop_11 : decode cX13_cannotAddStop 11 = .ok (.goto 19, 3) := by decide +kernel
theorem dX13_cannotAddStop_14 : decode cX13_cannotAddStop 14 = .ok (.aload_n 0, 1) := by decide +kernel
theorem dX13_cannotAddStop_15 : decode cX13_cannotAddStop 15 = .ok (.getfield 7, 3) := by decide +kernel
theorem dX13_cannotAddStop_18 : decode cX13_cannotAddStop 18 = .ok (.iconst 0, 1) := by decide +kernel
theorem dX13_cannotAddStop_19 : decode cX13_cannotAddStop 19 = .ok (.iaload, 1) := by decide +kernel
theorem dX13_cannotAddStop_20 : decode cX13_cannotAddStop 20 = .ok (.bipush 10, 2) := by decide +kernel
theorem dX13_cannotAddStop_22 : decode cX13_cannotAddStop 22 = .ok (.if_icmp .ne 7, 3) := by decide +kernel
theorem dX13_cannotAddStop_25 : decode cX13_cannotAddStop 25 = .ok (.iconst 2, 1) := by decide +kernel
theorem dX13_cannotAddStop_26 : decode cX13_cannotAddStop 26 = .ok (.goto 4, 3) := by decide +kernel
theorem dX13_cannotAddStop_29 : decode cX13_cannotAddStop 29 = .ok (.iconst 0, 1) := by decide +kernel
theorem dX13_cannotAddStop_30 : decode cX13_cannotAddStop 30 = .ok (.ireturn, 1) := by decide +kernel
theorem dX13_addsStop_0 : decode cX13_addsStop 0 = .ok (.aload_n 0, 1) := by decide +kernel
theorem dX13_addsStop_1 : decode cX13_addsStop 1 = .ok (.getfield 7, 3) := by decide +kernel
theorem dX13_addsStop_4 : decode cX13_addsStop 4 = .ok (.bipush 12, 2) := by decide +kernel
theorem dX13_addsStop_6 : decode cX13_addsStop 6 = .ok (.iconst 2, 1) := by decide +kernel
theorem dX13_addsStop_7 : decode cX13_addsStop 7 = .ok (.aload_n 0, 1) := by decide +kernel
theorem dX13_addsStop_8 : decode cX13_addsStop 8 = .ok (.getfield 7, 3) := by decide +kernel
theorem dX13_addsStop_11 : decode cX13_addsStop 11 = .ok (.iconst 0, 1) := by decide +kernel
theorem dX13_addsStop_12 : decode cX13_addsStop 12 = .ok (.iaload, 1) := by decide +kernel
theorem dX13_addsStop_13 : decode cX13_addsStop 13 = .ok (.imul, 1) := by decide +kernel
theorem dX13_addsStop_14 : decode cX13_addsStop 14 = .ok (.iadd, 1) := by decide +kernel
theorem dX13_addsStop_15 : decode cX13_addsStop 15 = .ok (.iconst 0, 1) := by decide +kernel
theorem dX13_addsStop_16 : decode cX13_addsStop 16 = .ok (.iadd, 1) := by decide +kernel
theorem dX13_addsStop_17 : decode cX13_addsStop 17 = .ok (.iload_n 1, 1) := by decide +kernel
theorem dX13_addsStop_18 : decode cX13_addsStop 18 = .ok (.iastore, 1) := by decide +kernel
theorem dX13_addsStop_19 : decode cX13_addsStop 19 = .ok (.aload_n 0, 1) := by decide +kernel
theorem dX13_addsStop_20 : decode cX13_addsStop 20 = .ok (.getfield 7, 3) := by decide +kernel
theorem dX13_addsStop_23 : decode cX13_addsStop 23 = .ok (.iconst 0, 1) := by decide +kernel
theorem dX13_addsStop_24 : decode cX13_addsStop 24 = .ok (.dup2, 1) := by decide +kernel
theorem dX13_addsStop_25 : decode cX13_addsStop 25 = .ok (.iaload, 1) := by decide +kernel
theorem dX13_addsStop_26 : decode cX13_addsStop 26 = .ok (.iconst 1, 1) := by decide +kernel
theorem dX13_addsStop_27 : decode cX13_addsStop 27 = .ok (.iadd, 1) := by decide +kernel
theorem dX13_addsStop_28 : decode cX13_addsStop 28 = .ok (.iastore, 1) := by decide +kernel
theorem dX13_addsStop_29 : decode cX13_addsStop 29 = .ok (.aload_n 0, 1) := by decide +kernel
theorem dX13_addsStop_30 : decode cX13_addsStop 30 = .ok (.getfield 7, 3) := by decide +kernel
theorem dX13_addsStop_33 : decode cX13_addsStop 33 = .ok (.iconst 0, 1) := by decide +kernel
theorem dX13_addsStop_34 : decode cX13_addsStop 34 = .ok (.iaload, 1) := by decide +kernel
theorem dX13_addsStop_35 : decode cX13_addsStop 35 = .ok (.iconst 1, 1) := by decide +kernel
theorem dX13_addsStop_36 : decode cX13_addsStop 36 = .ok (.isub, 1) := by decide +kernel
theorem dX13_addsStop_37 : decode cX13_addsStop 37 = .ok (.ireturn, 1) := by decide +kernel
theorem dX13_addStop_0 : decode cX13_addStop 0 = .ok (.aload_n 0, 1) := by decide +kernel
theorem dX13_addStop_1 : decode cX13_addStop 1 = .ok (.invokevirtual 87, 3) := by decide +kernel
theorem dX13_addStop_4 : decode cX13_addStop 4 = .ok (.aload_n 0, 1) := by decide +kernel
theorem dX13_addStop_5 : decode cX13_addStop 5 = .ok (.iload_n 1, 1) := by decide +kernel
theorem dX13_addStop_6 : decode cX13_addStop 6 = .ok (.invokevirtual 90, 3) := by decide +kernel
theorem dX13_addStop_9 : decode cX13_addStop 9 = .ok (.istore_n 2, 1) := by decide +kernel
theorem dX13_addStop_10 : decode cX13_addStop 10 = .ok (.iload_n 2, 1) := by decide +kernel
theorem dX13_addStop_11 : decode cX13_addStop 11 = .ok (.ifCond .le 11, 3) := by decide +kernel
theorem dX13_addStop_14 : decode cX13_addStop 14 = .ok (.aload_n 0, 1) := by decide +kernel
theorem dX13_addStop_15 : decode cX13_addStop 15 = .ok (.iload_n 2, 1) := by decide +kernel
theorem dX13_addStop_16 : decode cX13_addStop 16 = .ok (.invokevirtual 94, 3) := by decide +kernel
theorem dX13_addStop_19 : decode cX13_addStop 19 = .ok (.goto 12, 3) := by decide +kernel
theorem dX13_addStop_22 : decode cX13_addStop 22 = .ok (.aload_n 0, 1) := by decide +kernel
theorem dX13_addStop_23 : decode cX13_addStop 23 = .ok (.aload_n 0, 1) := by decide +kernel
theorem dX13_addStop_24 : decode cX13_addStop 24 = .ok (.iload_n 1, 1) := by decide +kernel
theorem dX13_addStop_25 : decode cX13_addStop 25 = .ok (.invokevirtual 97, 3) := by decide +kernel
theorem dX13_addStop_28 : decode cX13_addStop 28 = .ok (.invokevirtual 100, 3) := by decide +kernel
theorem dX13_addStop_31 : decode cX13_addStop 31 = .ok (.ireturn, 1) := by decide +kernel
theorem dX13_cannotWalk_0 : decode cX13_cannotWalk 0 = .ok (.aload_n 0, 1) := by decide +kernel
theorem dX13_cannotWalk_1 : decode cX13_cannotWalk 1 = .ok (.iload_n 1, 1) := by decide +kernel
theorem dX13_cannotWalk_2 : decode cX13_cannotWalk 2 = .ok (.iload_n 2, 1) := by decide +kernel
theorem dX13_cannotWalk_3 : decode cX13_cannotWalk 3 = .ok (.invokevirtual 103, 3) := by decide +kernel
theorem dX13_cannotWalk_6 : decode cX13_cannotWalk 6 = .ok (.ifCond .ne 5, 3) := by decide +kernel
theorem dX13_cannotWalk_9 : decode cX13_cannotWalk 9 = .ok (.iconst 1, 1) := by decide +kernel
theorem dX13_cannotWalk_10 : decode cX13_cannotWalk 10 = .ok (.ireturn, 1) := by decide +kernel
theorem dX13_cannotWalk_11 : decode cX13_cannotWalk 11 = .ok (.iload_n 1, 1) := by decide +kernel
theorem dX13_cannotWalk_12 : decode cX13_cannotWalk 12 = .ok (.iload_n 2, 1) := by decide +kernel
theorem dX13_cannotWalk_13 : decode cX13_cannotWalk 13 = .ok (.if_icmp .eq 13, 3) := by decide +kernel
theorem dX13_cannotWalk_16 : decode cX13_cannotWalk 16 = .ok (.iload_n 3, 1) := by decide +kernel
theorem dX13_cannotWalk_17 : decode cX13_cannotWalk 17 = .ok (.iconst 1, 1) := by decide +kernel
theorem dX13_cannotWalk_18 : decode cX13_cannotWalk 18 = .ok (.bipush 30, 2) := by decide +kernel
theorem dX13_cannotWalk_20 : decode cX13_cannotWalk 20 = .ok (.invokestatic 79, 3) := by decide +kernel
theorem dX13_cannotWalk_23 : decode cX13_cannotWalk 23 = .ok (.ifCond .ne 5, 3) := by decide +kernel
theorem dX13_cannotWalk_26 : decode cX13_cannotWalk 26 = .ok (.iconst 2, 1) := by decide +kernel
theorem dX13_cannotWalk_27 : decode cX13_cannotWalk 27 = .ok (.ireturn, 1) := by decide +kernel
theorem dX13_cannotWalk_28 : decode cX13_cannotWalk 28 = .ok (.aload_n 0, 1) := by decide +kernel
theorem dX13_cannotWalk_29 : decode cX13_cannotWalk 29 = .ok (.iload_n 1, 1) := by decide +kernel
theorem dX13_cannotWalk_30 : decode cX13_cannotWalk 30 = .ok (.iload_n 2, 1) := by decide +kernel
theorem dX13_cannotWalk_31 : decode cX13_cannotWalk 31 = .ok (.invokevirtual 107, 3) := by decide +kernel
theorem dX13_cannotWalk_34 : decode cX13_cannotWalk 34 = .ok (.ifCond .gt 14, 3) := by decide +kernel
theorem dX13_cannotWalk_37 : decode cX13_cannotWalk 37 = .ok (.aload_n 0, 1) := by decide +kernel
theorem dX13_cannotWalk_38 : decode cX13_cannotWalk 38 = .ok (.getfield 7, 3) := by decide +kernel
theorem dX13_cannotWalk_41 : decode cX13_cannotWalk 41 = .ok (.iconst 1, 1) := by decide +kernel
theorem dX13_cannotWalk_42 : decode cX13_cannotWalk 42 = .ok (.iaload, 1) := by decide +kernel
theorem dX13_cannotWalk_43 : decode cX13_cannotWalk 43 = .ok (.bipush 15, 2) := by decide +kernel
theorem dX13_cannotWalk_45 : decode cX13_cannotWalk 45 = .ok (.if_icmp .ne 7, 3) := by decide +kernel
theorem dX13_cannotWalk_48 : decode cX13_cannotWalk 48 = .ok (.iconst 3, 1) := by decide +kernel
theorem dX13_cannotWalk_49 : decode cX13_cannotWalk 49 = .ok (.goto 4, 3) := by decide +kernel
theorem dX13_cannotWalk_52 : decode cX13_cannotWalk 52 = .ok (.iconst 0, 1) := by decide +kernel
theorem dX13_cannotWalk_53 : decode cX13_cannotWalk 53 = .ok (.ireturn, 1) := by decide +kernel
theorem dX13_setWalk_0 : decode cX13_setWalk 0 = .ok (.aload_n 0, 1) := by decide +kernel
theorem dX13_setWalk_1 : decode cX13_setWalk 1 = .ok (.getfield 7, 3) := by decide +kernel
theorem dX13_setWalk_4 : decode cX13_setWalk 4 = .ok (.bipush 32, 2) := by decide +kernel
theorem dX13_setWalk_6 : decode cX13_setWalk 6 = .ok (.bipush 10, 2) := by decide +kernel
theorem dX13_setWalk_8 : decode cX13_setWalk 8 = .ok (.iload_n 1, 1) := by decide +kernel
theorem dX13_setWalk_9 : decode cX13_setWalk 9 = .ok (.imul, 1) := by decide +kernel
theorem dX13_setWalk_10 : decode cX13_setWalk 10 = .ok (.iadd, 1) := by decide +kernel
theorem dX13_setWalk_11 : decode cX13_setWalk 11 = .ok (.iload_n 2, 1) := by decide +kernel
theorem dX13_setWalk_12 : decode cX13_setWalk 12 = .ok (.iadd, 1) := by decide +kernel
theorem dX13_setWalk_13 : decode cX13_setWalk 13 = .ok (.iload_n 3, 1) := by decide +kernel
theorem dX13_setWalk_14 : decode cX13_setWalk 14 = .ok (.iastore, 1) := by decide +kernel
theorem dX13_setWalk_15 : decode cX13_setWalk 15 = .ok (.aload_n 0, 1) := by decide +kernel
theorem dX13_setWalk_16 : decode cX13_setWalk 16 = .ok (.getfield 7, 3) := by decide +kernel
theorem dX13_setWalk_19 : decode cX13_setWalk 19 = .ok (.bipush 32, 2) := by decide +kernel
theorem dX13_setWalk_21 : decode cX13_setWalk 21 = .ok (.bipush 10, 2) := by decide +kernel
theorem dX13_setWalk_23 : decode cX13_setWalk 23 = .ok (.iload_n 2, 1) := by decide +kernel
theorem dX13_setWalk_24 : decode cX13_setWalk 24 = .ok (.imul, 1) := by decide +kernel
theorem dX13_setWalk_25 : decode cX13_setWalk 25 = .ok (.iadd, 1) := by decide +kernel
theorem dX13_setWalk_26 : decode cX13_setWalk 26 = .ok (.iload_n 1, 1) := by decide +kernel
theorem dX13_setWalk_27 : decode cX13_setWalk 27 = .ok (.iadd, 1) := by decide +kernel
theorem dX13_setWalk_28 : decode cX13_setWalk 28 = .ok (.iload_n 3, 1) := by decide +kernel
theorem dX13_setWalk_29 : decode cX13_setWalk 29 = .ok (.iastore, 1) := by decide +kernel
theorem dX13_setWalk_30 : decode cX13_setWalk 30 = .ok (.return_, 1) := by decide +kernel
theorem dX13_addsWalk_0 : decode cX13_addsWalk 0 = .ok (.aload_n 0, 1) := by decide +kernel
theorem dX13_addsWalk_1 : decode cX13_addsWalk 1 = .ok (.iload_n 1, 1) := by decide +kernel
theorem dX13_addsWalk_2 : decode cX13_addsWalk 2 = .ok (.iload_n 2, 1) := by decide +kernel
theorem dX13_addsWalk_3 : decode cX13_addsWalk 3 = .ok (.iload_n 3, 1) := by decide +kernel
theorem dX13_addsWalk_4 : decode cX13_addsWalk 4 = .ok (.invokevirtual 111, 3) := by decide +kernel
theorem dX13_addsWalk_7 : decode cX13_addsWalk 7 = .ok (.aload_n 0, 1) := by decide +kernel
theorem dX13_addsWalk_8 : decode cX13_addsWalk 8 = .ok (.getfield 7, 3) := by decide +kernel
theorem dX13_addsWalk_11 : decode cX13_addsWalk 11 = .ok (.iconst 1, 1) := by decide +kernel
theorem dX13_addsWalk_12 : decode cX13_addsWalk 12 = .ok (.dup2, 1) := by decide +kernel
theorem dX13_addsWalk_13 : decode cX13_addsWalk 13 = .ok (.iaload, 1) := by decide +kernel
theorem dX13_addsWalk_14 : decode cX13_addsWalk 14 = .ok (.iconst 1, 1) := by decide +kernel
theorem dX13_addsWalk_15 : decode cX13_addsWalk 15 = .ok (.iadd, 1) := by decide +kernel
theorem dX13_addsWalk_16 : decode cX13_addsWalk 16 = .ok (.iastore, 1) := by decide +kernel
theorem dX13_addsWalk_17 : decode cX13_addsWalk 17 = .ok (.aload_n 0, 1) := by decide +kernel
theorem dX13_addsWalk_18 : decode cX13_addsWalk 18 = .ok (.getfield 7, 3) := by decide +kernel
theorem dX13_addsWalk_21 : decode cX13_addsWalk 21 = .ok (.iconst 1, 1) := by decide +kernel
theorem dX13_addsWalk_22 : decode cX13_addsWalk 22 = .ok (.iaload, 1) := by decide +kernel
theorem dX13_addsWalk_23 : decode cX13_addsWalk 23 = .ok (.ireturn, 1) := by decide +kernel
theorem dX13_addWalk_0 : decode cX13_addWalk 0 = .ok (.aload_n 0, 1) := by decide +kernel
theorem dX13_addWalk_1 : decode cX13_addWalk 1 = .ok (.invokevirtual 87, 3) := by decide +kernel
theorem dX13_addWalk_4 : decode cX13_addWalk 4 = .ok (.aload_n 0, 1) := by decide +kernel
theorem dX13_addWalk_5 : decode cX13_addWalk 5 = .ok (.iload_n 1, 1) := by decide +kernel
theorem dX13_addWalk_6 : decode cX13_addWalk 6 = .ok (.iload_n 2, 1) := by decide +kernel
theorem dX13_addWalk_7 : decode cX13_addWalk 7 = .ok (.iload_n 3, 1) := by decide +kernel
theorem dX13_addWalk_8 : decode cX13_addWalk 8 = .ok (.invokevirtual 115, 3) := by decide +kernel
theorem dX13_addWalk_11 : decode cX13_addWalk 11 = .ok (.istore 4, 2) := by decide +kernel
theorem dX13_addWalk_13 : decode cX13_addWalk 13 = .ok (.iload 4, 2) := by decide +kernel
theorem dX13_addWalk_15 : decode cX13_addWalk 15 = .ok (.ifCond .le 12, 3) := by decide +kernel
theorem dX13_addWalk_18 : decode cX13_addWalk 18 = .ok (.aload_n 0, 1) := by decide +kernel
theorem dX13_addWalk_19 : decode cX13_addWalk 19 = .ok (.iload 4, 2) := by decide +kernel
theorem dX13_addWalk_21 : decode cX13_addWalk 21 = .ok (.invokevirtual 94, 3) := by decide +kernel
theorem dX13_addWalk_24 : decode cX13_addWalk 24 = .ok (.goto 14, 3) := by decide +kernel
theorem dX13_addWalk_27 : decode cX13_addWalk 27 = .ok (.aload_n 0, 1) := by decide +kernel
theorem dX13_addWalk_28 : decode cX13_addWalk 28 = .ok (.aload_n 0, 1) := by decide +kernel
theorem dX13_addWalk_29 : decode cX13_addWalk 29 = .ok (.iload_n 1, 1) := by decide +kernel
theorem dX13_addWalk_30 : decode cX13_addWalk 30 = .ok (.iload_n 2, 1) := by decide +kernel
theorem dX13_addWalk_31 : decode cX13_addWalk 31 = .ok (.iload_n 3, 1) := by decide +kernel
theorem dX13_addWalk_32 : decode cX13_addWalk 32 = .ok (.invokevirtual 119, 3) := by decide +kernel
theorem dX13_addWalk_35 : decode cX13_addWalk 35 = .ok (.invokevirtual 100, 3) := by decide +kernel
theorem dX13_addWalk_38 : decode cX13_addWalk 38 = .ok (.ireturn, 1) := by decide +kernel
theorem dX13_noWalk_0 : decode cX13_noWalk 0 = .ok (.aload_n 0, 1) := by decide +kernel
theorem dX13_noWalk_1 : decode cX13_noWalk 1 = .ok (.iload_n 1, 1) := by decide +kernel
theorem dX13_noWalk_2 : decode cX13_noWalk 2 = .ok (.iload_n 2, 1) := by decide +kernel
theorem dX13_noWalk_3 : decode cX13_noWalk 3 = .ok (.invokevirtual 103, 3) := by decide +kernel
theorem dX13_noWalk_6 : decode cX13_noWalk 6 = .ok (.ifCond .ne 7, 3) := by decide +kernel
theorem dX13_noWalk_9 : decode cX13_noWalk 9 = .ok (.iconst 1, 1) := by decide +kernel
theorem dX13_noWalk_10 : decode cX13_noWalk 10 = .ok (.goto 17, 3) := by decide +kernel
theorem dX13_noWalk_13 : decode cX13_noWalk 13 = .ok (.aload_n 0, 1) := by decide +kernel
theorem dX13_noWalk_14 : decode cX13_noWalk 14 = .ok (.iload_n 1, 1) := by decide +kernel
theorem dX13_noWalk_15 : decode cX13_noWalk 15 = .ok (.iload_n 2, 1) := by decide +kernel
theorem dX13_noWalk_16 : decode cX13_noWalk 16 = .ok (.invokevirtual 107, 3) := by decide +kernel
theorem dX13_noWalk_19 : decode cX13_noWalk 19 = .ok (.ifCond .ne 7, 3) := by decide +kernel
theorem dX13_noWalk_22 : decode cX13_noWalk 22 = .ok (.iconst 2, 1) := by decide +kernel
theorem dX13_noWalk_23 : decode cX13_noWalk 23 = .ok (.goto 4, 3) := by decide +kernel
theorem dX13_noWalk_26 : decode cX13_noWalk 26 = .ok (.iconst 0, 1) := by decide +kernel
theorem dX13_noWalk_27 : decode cX13_noWalk 27 = .ok (.ireturn, 1) := by decide +kernel
theorem dX13_removesWalk_0 : decode cX13_removesWalk 0 = .ok (.aload_n 0, 1) := by decide +kernel
theorem dX13_removesWalk_1 : decode cX13_removesWalk 1 = .ok (.iload_n 1, 1) := by decide +kernel
theorem dX13_removesWalk_2 : decode cX13_removesWalk 2 = .ok (.iload_n 2, 1) := by decide +kernel
theorem dX13_removesWalk_3 : decode cX13_removesWalk 3 = .ok (.invokevirtual 107, 3) := by decide +kernel
theorem dX13_removesWalk_6 : decode cX13_removesWalk 6 = .ok (.istore_n 3, 1) := by decide +kernel
theorem dX13_removesWalk_7 : decode cX13_removesWalk 7 = .ok (.aload_n 0, 1) := by decide +kernel
theorem dX13_removesWalk_8 : decode cX13_removesWalk 8 = .ok (.iload_n 1, 1) := by decide +kernel
theorem dX13_removesWalk_9 : decode cX13_removesWalk 9 = .ok (.iload_n 2, 1) := by decide +kernel
theorem dX13_removesWalk_10 : decode cX13_removesWalk 10 = .ok (.iconst 0, 1) := by decide +kernel
theorem dX13_removesWalk_11 : decode cX13_removesWalk 11 = .ok (.invokevirtual 111, 3) := by decide +kernel
theorem dX13_removesWalk_14 : decode cX13_removesWalk 14 = .ok (.aload_n 0, 1) := by decide +kernel
theorem dX13_removesWalk_15 : decode cX13_removesWalk 15 = .ok (.getfield 7, 3) := by decide +kernel
theorem dX13_removesWalk_18 : decode cX13_removesWalk 18 = .ok (.iconst 1, 1) := by decide +kernel
theorem dX13_removesWalk_19 : decode cX13_removesWalk 19 = .ok (.dup2, 1) := by decide +kernel
theorem dX13_removesWalk_20 : decode cX13_removesWalk 20 = .ok (.iaload, 1) := by decide +kernel
theorem dX13_removesWalk_21 : decode cX13_removesWalk 21 = .ok (.iconst 1, 1) := by decide +kernel
theorem dX13_removesWalk_22 : decode cX13_removesWalk 22 = .ok (.isub, 1) := by decide +kernel
theorem dX13_removesWalk_23 : decode cX13_removesWalk 23 = .ok (.iastore, 1) := by decide +kernel
theorem dX13_removesWalk_24 : decode cX13_removesWalk 24 = .ok (.iload_n 3, 1) := by decide +kernel
theorem dX13_removesWalk_25 : decode cX13_removesWalk 25 = .ok (.ireturn, 1) := by decide +kernel
theorem dX13_removeWalk_0 : decode cX13_removeWalk 0 = .ok (.aload_n 0, 1) := by decide +kernel
theorem dX13_removeWalk_1 : decode cX13_removeWalk 1 = .ok (.invokevirtual 87, 3) := by decide +kernel
theorem dX13_removeWalk_4 : decode cX13_removeWalk 4 = .ok (.aload_n 0, 1) := by decide +kernel
theorem dX13_removeWalk_5 : decode cX13_removeWalk 5 = .ok (.iload_n 1, 1) := by decide +kernel
theorem dX13_removeWalk_6 : decode cX13_removeWalk 6 = .ok (.iload_n 2, 1) := by decide +kernel
theorem dX13_removeWalk_7 : decode cX13_removeWalk 7 = .ok (.invokevirtual 122, 3) := by decide +kernel
theorem dX13_removeWalk_10 : decode cX13_removeWalk 10 = .ok (.istore_n 3, 1) := by decide +kernel
theorem dX13_removeWalk_11 : decode cX13_removeWalk 11 = .ok (.iload_n 3, 1) := by decide +kernel
theorem dX13_removeWalk_12 : decode cX13_removeWalk 12 = .ok (.ifCond .le 11, 3) := by decide +kernel
theorem dX13_removeWalk_15 : decode cX13_removeWalk 15 = .ok (.aload_n 0, 1) := by decide +kernel
theorem dX13_removeWalk_16 : decode cX13_removeWalk 16 = .ok (.iload_n 3, 1) := by decide +kernel
theorem dX13_removeWalk_17 : decode cX13_removeWalk 17 = .ok (.invokevirtual 94, 3) := by decide +kernel
theorem dX13_removeWalk_20 : decode cX13_removeWalk 20 = .ok (.goto 13, 3) := by decide +kernel
theorem dX13_removeWalk_23 : decode cX13_removeWalk 23 = .ok (.aload_n 0, 1) := by decide +kernel
theorem dX13_removeWalk_24 : decode cX13_removeWalk 24 = .ok (.aload_n 0, 1) := by decide +kernel
theorem dX13_removeWalk_25 : decode cX13_removeWalk 25 = .ok (.iload_n 1, 1) := by decide +kernel
theorem dX13_removeWalk_26 : decode cX13_removeWalk 26 = .ok (.iload_n 2, 1) := by decide +kernel
theorem dX13_removeWalk_27 : decode cX13_removeWalk 27 = .ok (.invokevirtual 125, 3) := by decide +kernel
theorem dX13_removeWalk_30 : decode cX13_removeWalk 30 = .ok (.invokevirtual 100, 3) := by decide +kernel
theorem dX13_removeWalk_33 : decode cX13_removeWalk 33 = .ok (.ireturn, 1) := by decide +kernel
theorem dX13_isLine_0 : decode cX13_isLine 0 = .ok (.iload_n 1, 1) := by decide +kernel
theorem dX13_isLine_1 : decode cX13_isLine 1 = .ok (.iconst 0, 1) := by decide +kernel
theorem dX13_isLine_2 : decode cX13_isLine 2 = .ok (.aload_n 0, 1) := by decide +kernel
theorem dX13_isLine_3 : decode cX13_isLine 3 = .ok (.getfield 7, 3) := by decide +kernel
theorem dX13_isLine_6 : decode cX13_isLine 6 = .ok (.iconst 2, 1) := by decide +kernel
theorem dX13_isLine_7 : decode cX13_isLine 7 = .ok (.iaload, 1) := by decide +kernel
theorem dX13_isLine_8 : decode cX13_isLine 8 = .ok (.iconst 1, 1) := by decide +kernel
theorem dX13_isLine_9 : decode cX13_isLine 9 = .ok (.isub, 1) := by decide +kernel
theorem dX13_isLine_10 : decode cX13_isLine 10 = .ok (.invokestatic 79, 3) := by decide +kernel
theorem dX13_isLine_13 : decode cX13_isLine 13 = .ok (.ireturn, 1) := by decide +kernel
theorem dX13_l_0 : decode cX13_l 0 = .ok (.aload_n 0, 1) := by decide +kernel
theorem dX13_l_1 : decode cX13_l 1 = .ok (.getfield 7, 3) := by decide +kernel
theorem dX13_l_4 : decode cX13_l 4 = .ok (.sipush 132, 3) := by decide +kernel
theorem dX13_l_7 : decode cX13_l 7 = .ok (.bipush 16, 2) := by decide +kernel
theorem dX13_l_9 : decode cX13_l 9 = .ok (.iload_n 1, 1) := by decide +kernel
theorem dX13_l_10 : decode cX13_l 10 = .ok (.imul, 1) := by decide +kernel
theorem dX13_l_11 : decode cX13_l 11 = .ok (.iadd, 1) := by decide +kernel
theorem dX13_l_12 : decode cX13_l 12 = .ok (.iload_n 2, 1) := by decide +kernel
theorem dX13_l_13 : decode cX13_l 13 = .ok (.iadd, 1) := by decide +kernel
theorem dX13_l_14 : decode cX13_l 14 = .ok (.iaload, 1) := by decide +kernel
theorem dX13_l_15 : decode cX13_l 15 = .ok (.ireturn, 1) := by decide +kernel
theorem dX13_setLine_0 : decode cX13_setLine 0 = .ok (.aload_n 0, 1) := by decide +kernel
theorem dX13_setLine_1 : decode cX13_setLine 1 = .ok (.getfield 7, 3) := by decide +kernel
theorem dX13_setLine_4 : decode cX13_setLine 4 = .ok (.sipush 132, 3) := by decide +kernel
theorem dX13_setLine_7 : decode cX13_setLine 7 = .ok (.bipush 16, 2) := by decide +kernel
theorem dX13_setLine_9 : decode cX13_setLine 9 = .ok (.iload_n 1, 1) := by decide +kernel
theorem dX13_setLine_10 : decode cX13_setLine 10 = .ok (.imul, 1) := by decide +kernel
theorem dX13_setLine_11 : decode cX13_setLine 11 = .ok (.iadd, 1) := by decide +kernel
theorem dX13_setLine_12 : decode cX13_setLine 12 = .ok (.iload_n 2, 1) := by decide +kernel
theorem dX13_setLine_13 : decode cX13_setLine 13 = .ok (.iadd, 1) := by decide +kernel
theorem dX13_setLine_14 : decode cX13_setLine 14 = .ok (.iload_n 3, 1) := by decide +kernel
theorem dX13_setLine_15 : decode cX13_setLine 15 = .ok (.iastore, 1) := by decide +kernel
theorem dX13_setLine_16 : decode cX13_setLine 16 = .ok (.return_, 1) := by decide +kernel
theorem dX13_hop_0 : decode cX13_hop 0 = .ok (.aload_n 0, 1) := by decide +kernel
theorem dX13_hop_1 : decode cX13_hop 1 = .ok (.iload_n 1, 1) := by decide +kernel
theorem dX13_hop_2 : decode cX13_hop 2 = .ok (.iconst 2, 1) := by decide +kernel
theorem dX13_hop_3 : decode cX13_hop 3 = .ok (.invokevirtual 128, 3) := by decide +kernel
theorem dX13_hop_6 : decode cX13_hop 6 = .ok (.aload_n 0, 1) := by decide +kernel
theorem dX13_hop_7 : decode cX13_hop 7 = .ok (.getfield 7, 3) := by decide +kernel
theorem dX13_hop_10 : decode cX13_hop 10 = .ok (.bipush 6, 2) := by decide +kernel
theorem dX13_hop_12 : decode cX13_hop 12 = .ok (.iaload, 1) := by decide +kernel
theorem dX13_hop_13 : decode cX13_hop 13 = .ok (.aload_n 0, 1) := by decide +kernel
theorem dX13_hop_14 : decode cX13_hop 14 = .ok (.iload_n 1, 1) := by decide +kernel
theorem dX13_hop_15 : decode cX13_hop 15 = .ok (.iconst 3, 1) := by decide +kernel
theorem dX13_hop_16 : decode cX13_hop 16 = .ok (.invokevirtual 128, 3) := by decide +kernel
theorem dX13_hop_19 : decode cX13_hop 19 = .ok (.imul, 1) := by decide +kernel
theorem dX13_hop_20 : decode cX13_hop 20 = .ok (.iadd, 1) := by decide +kernel
theorem dX13_hop_21 : decode cX13_hop 21 = .ok (.ireturn, 1) := by decide +kernel
theorem dX13_isRunning_0 : decode cX13_isRunning 0 = .ok (.aload_n 0, 1) := by decide +kernel
theorem dX13_isRunning_1 : decode cX13_isRunning 1 = .ok (.iload_n 1, 1) := by decide +kernel
theorem dX13_isRunning_2 : decode cX13_isRunning 2 = .ok (.iconst 5, 1) := by decide +kernel
theorem dX13_isRunning_3 : decode cX13_isRunning 3 = .ok (.invokevirtual 128, 3) := by decide +kernel
theorem dX13_isRunning_6 : decode cX13_isRunning 6 = .ok (.iconst 2, 1) := by decide +kernel
theorem dX13_isRunning_7 : decode cX13_isRunning 7 = .ok (.if_icmp .lt 17, 3) := by decide +kernel
theorem dX13_isRunning_10 : decode cX13_isRunning 10 = .ok (.aload_n 0, 1) := by decide +kernel
theorem dX13_isRunning_11 : decode cX13_isRunning 11 = .ok (.iload_n 1, 1) := by decide +kernel
theorem dX13_isRunning_12 : decode cX13_isRunning 12 = .ok (.bipush 6, 2) := by decide +kernel
theorem dX13_isRunning_14 : decode cX13_isRunning 14 = .ok (.invokevirtual 128, 3) := by decide +kernel
theorem dX13_isRunning_17 : decode cX13_isRunning 17 = .ok (.ifCond .ne 7, 3) := by decide +kernel
theorem dX13_isRunning_20 : decode cX13_isRunning 20 = .ok (.iconst 1, 1) := by decide +kernel
theorem dX13_isRunning_21 : decode cX13_isRunning 21 = .ok (.goto 4, 3) := by decide +kernel
theorem dX13_isRunning_24 : decode cX13_isRunning 24 = .ok (.iconst 0, 1) := by decide +kernel
theorem dX13_isRunning_25 : decode cX13_isRunning 25 = .ok (.ireturn, 1) := by decide +kernel
theorem dX13_at_0 : decode cX13_at 0 = .ok (.aload_n 0, 1) := by decide +kernel
theorem dX13_at_1 : decode cX13_at 1 = .ok (.iload_n 1, 1) := by decide +kernel
theorem dX13_at_2 : decode cX13_at 2 = .ok (.bipush 7, 2) := by decide +kernel
theorem dX13_at_4 : decode cX13_at 4 = .ok (.iload_n 2, 1) := by decide +kernel
theorem dX13_at_5 : decode cX13_at 5 = .ok (.aload_n 0, 1) := by decide +kernel
theorem dX13_at_6 : decode cX13_at 6 = .ok (.iload_n 1, 1) := by decide +kernel
theorem dX13_at_7 : decode cX13_at 7 = .ok (.iconst 5, 1) := by decide +kernel
theorem dX13_at_8 : decode cX13_at 8 = .ok (.invokevirtual 128, 3) := by decide +kernel
theorem dX13_at_11 : decode cX13_at 11 = .ok (.irem, 1) := by decide +kernel
theorem dX13_at_12 : decode cX13_at 12 = .ok (.iadd, 1) := by decide +kernel
theorem dX13_at_13 : decode cX13_at 13 = .ok (.invokevirtual 128, 3) := by decide +kernel
theorem dX13_at_16 : decode cX13_at 16 = .ok (.ireturn, 1) := by decide +kernel
theorem dX13_placeIn_0 : decode cX13_placeIn 0 = .ok (.iconst 0, 1) := by decide +kernel
theorem dX13_placeIn_1 : decode cX13_placeIn 1 = .ok (.istore_n 3, 1) := by decide +kernel
theorem dX13_placeIn_2 : decode cX13_placeIn 2 = .ok (.iload_n 3, 1) := by decide +kernel
theorem dX13_placeIn_3 : decode cX13_placeIn 3 = .ok (.aload_n 0, 1) := by decide +kernel
theorem dX13_placeIn_4 : decode cX13_placeIn 4 = .ok (.iload_n 1, 1) := by decide +kernel
theorem dX13_placeIn_5 : decode cX13_placeIn 5 = .ok (.iconst 5, 1) := by decide +kernel
theorem dX13_placeIn_6 : decode cX13_placeIn 6 = .ok (.invokevirtual 128, 3) := by decide +kernel
theorem dX13_placeIn_9 : decode cX13_placeIn 9 = .ok (.if_icmp .ge 24, 3) := by decide +kernel
theorem dX13_placeIn_12 : decode cX13_placeIn 12 = .ok (.aload_n 0, 1) := by decide +kernel
theorem dX13_placeIn_13 : decode cX13_placeIn 13 = .ok (.iload_n 1, 1) := by decide +kernel
theorem dX13_placeIn_14 : decode cX13_placeIn 14 = .ok (.bipush 7, 2) := by decide +kernel
theorem dX13_placeIn_16 : decode cX13_placeIn 16 = .ok (.iload_n 3, 1) := by decide +kernel
theorem dX13_placeIn_17 : decode cX13_placeIn 17 = .ok (.iadd, 1) := by decide +kernel
theorem dX13_placeIn_18 : decode cX13_placeIn 18 = .ok (.invokevirtual 128, 3) := by decide +kernel
theorem dX13_placeIn_21 : decode cX13_placeIn 21 = .ok (.iload_n 2, 1) := by decide +kernel
theorem dX13_placeIn_22 : decode cX13_placeIn 22 = .ok (.if_icmp .ne 5, 3) := by decide +kernel
theorem dX13_placeIn_25 : decode cX13_placeIn 25 = .ok (.iload_n 3, 1) := by decide +kernel
theorem dX13_placeIn_26 : decode cX13_placeIn 26 = .ok (.ireturn, 1) := by decide +kernel
theorem dX13_placeIn_27 : decode cX13_placeIn 27 = .ok (.iinc 3 1, 3) := by decide +kernel
theorem dX13_placeIn_30 : decode cX13_placeIn 30 = .ok (.goto (-28), 3) := by decide +kernel
theorem dX13_placeIn_33 : decode cX13_placeIn 33 = .ok (.iconst (-1), 1) := by decide +kernel
theorem dX13_placeIn_34 : decode cX13_placeIn 34 = .ok (.ireturn, 1) := by decide +kernel
theorem dX13_minuteOf_0 : decode cX13_minuteOf 0 = .ok (.aload_n 0, 1) := by decide +kernel
theorem dX13_minuteOf_1 : decode cX13_minuteOf 1 = .ok (.iload_n 1, 1) := by decide +kernel
theorem dX13_minuteOf_2 : decode cX13_minuteOf 2 = .ok (.iconst 1, 1) := by decide +kernel
theorem dX13_minuteOf_3 : decode cX13_minuteOf 3 = .ok (.invokevirtual 128, 3) := by decide +kernel
theorem dX13_minuteOf_6 : decode cX13_minuteOf 6 = .ok (.iload_n 2, 1) := by decide +kernel
theorem dX13_minuteOf_7 : decode cX13_minuteOf 7 = .ok (.aload_n 0, 1) := by decide +kernel
theorem dX13_minuteOf_8 : decode cX13_minuteOf 8 = .ok (.iload_n 1, 1) := by decide +kernel
theorem dX13_minuteOf_9 : decode cX13_minuteOf 9 = .ok (.iconst 0, 1) := by decide +kernel
theorem dX13_minuteOf_10 : decode cX13_minuteOf 10 = .ok (.invokevirtual 128, 3) := by decide +kernel
theorem dX13_minuteOf_13 : decode cX13_minuteOf 13 = .ok (.imul, 1) := by decide +kernel
theorem dX13_minuteOf_14 : decode cX13_minuteOf 14 = .ok (.iadd, 1) := by decide +kernel
theorem dX13_minuteOf_15 : decode cX13_minuteOf 15 = .ok (.iload_n 3, 1) := by decide +kernel
theorem dX13_minuteOf_16 : decode cX13_minuteOf 16 = .ok (.aload_n 0, 1) := by decide +kernel
theorem dX13_minuteOf_17 : decode cX13_minuteOf 17 = .ok (.iload_n 1, 1) := by decide +kernel
theorem dX13_minuteOf_18 : decode cX13_minuteOf 18 = .ok (.invokevirtual 131, 3) := by decide +kernel
theorem dX13_minuteOf_21 : decode cX13_minuteOf 21 = .ok (.imul, 1) := by decide +kernel
theorem dX13_minuteOf_22 : decode cX13_minuteOf 22 = .ok (.iadd, 1) := by decide +kernel
theorem dX13_minuteOf_23 : decode cX13_minuteOf 23 = .ok (.ireturn, 1) := by decide +kernel
theorem dX13_first_0 : decode cX13_first 0 = .ok (.iload_n 3, 1) := by decide +kernel
theorem dX13_first_1 : decode cX13_first 1 = .ok (.aload_n 0, 1) := by decide +kernel
theorem dX13_first_2 : decode cX13_first 2 = .ok (.iload_n 1, 1) := by decide +kernel
theorem dX13_first_3 : decode cX13_first 3 = .ok (.iconst 0, 1) := by decide +kernel
theorem dX13_first_4 : decode cX13_first 4 = .ok (.iload_n 2, 1) := by decide +kernel
theorem dX13_first_5 : decode cX13_first 5 = .ok (.invokevirtual 134, 3) := by decide +kernel
theorem dX13_first_8 : decode cX13_first 8 = .ok (.isub, 1) := by decide +kernel
theorem dX13_first_9 : decode cX13_first 9 = .ok (.istore 4, 2) := by decide +kernel
theorem dX13_first_11 : decode cX13_first 11 = .ok (.iload 4, 2) := by decide +kernel
theorem dX13_first_13 : decode cX13_first 13 = .ok (.ifCond .gt 7, 3) := by decide +kernel
theorem dX13_first_16 : decode cX13_first 16 = .ok (.iconst 0, 1) := by decide +kernel
theorem dX13_first_17 : decode cX13_first 17 = .ok (.goto 21, 3) := by decide +kernel
theorem dX13_first_20 : decode cX13_first 20 = .ok (.iload 4, 2) := by decide +kernel
theorem dX13_first_22 : decode cX13_first 22 = .ok (.aload_n 0, 1) := by decide +kernel
theorem dX13_first_23 : decode cX13_first 23 = .ok (.iload_n 1, 1) := by decide +kernel
theorem dX13_first_24 : decode cX13_first 24 = .ok (.iconst 0, 1) := by decide +kernel
theorem dX13_first_25 : decode cX13_first 25 = .ok (.invokevirtual 128, 3) := by decide +kernel
theorem dX13_first_28 : decode cX13_first 28 = .ok (.iadd, 1) := by decide +kernel
theorem dX13_first_29 : decode cX13_first 29 = .ok (.iconst 1, 1) := by decide +kernel
theorem dX13_first_30 : decode cX13_first 30 = .ok (.isub, 1) := by decide +kernel
theorem dX13_first_31 : decode cX13_first 31 = .ok (.aload_n 0, 1) := by decide +kernel
theorem dX13_first_32 : decode cX13_first 32 = .ok (.iload_n 1, 1) := by decide +kernel
theorem dX13_first_33 : decode cX13_first 33 = .ok (.iconst 0, 1) := by decide +kernel
theorem dX13_first_34 : decode cX13_first 34 = .ok (.invokevirtual 128, 3) := by decide +kernel
theorem dX13_first_37 : decode cX13_first 37 = .ok (.idiv, 1) := by decide +kernel
theorem dX13_first_38 : decode cX13_first 38 = .ok (.ireturn, 1) := by decide +kernel
theorem dX13_cannotAddLine_0 : decode cX13_cannotAddLine 0 = .ok (.iload_n 1, 1) := by decide +kernel
theorem dX13_cannotAddLine_1 : decode cX13_cannotAddLine 1 = .ok (.iconst 1, 1) := by decide +kernel
theorem dX13_cannotAddLine_2 : decode cX13_cannotAddLine 2 = .ok (.bipush 60, 2) := by decide +kernel
theorem dX13_cannotAddLine_4 : decode cX13_cannotAddLine 4 = .ok (.invokestatic 79, 3) := by decide +kernel
theorem dX13_cannotAddLine_7 : decode cX13_cannotAddLine 7 = .ok (.ifCond .eq 34, 3) := by decide +kernel
theorem dX13_cannotAddLine_10 : decode cX13_cannotAddLine 10 = .ok (.iload_n 2, 1) := by decide +kernel
theorem dX13_cannotAddLine_11 : decode cX13_cannotAddLine 11 = .ok (.iconst 0, 1) := by decide +kernel
theorem dX13_cannotAddLine_12 : decode cX13_cannotAddLine 12 = .ok (.bipush 59, 2) := by decide +kernel
theorem dX13_cannotAddLine_14 : decode cX13_cannotAddLine 14 = .ok (.invokestatic 79, 3) := by decide +kernel
theorem dX13_cannotAddLine_17 : decode cX13_cannotAddLine 17 = .ok (.ifCond .eq 24, 3) := by decide +kernel
theorem dX13_cannotAddLine_20 : decode cX13_cannotAddLine 20 = .ok (.iload_n 3, 1) := by decide +kernel
theorem dX13_cannotAddLine_21 : decode cX13_cannotAddLine 21 = .ok (.iconst 1, 1) := by decide +kernel
theorem dX13_cannotAddLine_22 : decode cX13_cannotAddLine 22 = .ok (.bipush 9, 2) := by decide +kernel
theorem dX13_cannotAddLine_24 : decode cX13_cannotAddLine 24 = .ok (.invokestatic 79, 3) := by decide +kernel
theorem dX13_cannotAddLine_27 : decode cX13_cannotAddLine 27 = .ok (.ifCond .eq 14, 3) := by decide +kernel
theorem dX13_cannotAddLine_30 : decode cX13_cannotAddLine 30 = .ok (.iload 4, 2) := by decide +kernel
theorem dX13_cannotAddLine_32 : decode cX13_cannotAddLine 32 = .ok (.iconst 1, 1) := by decide +kernel
theorem dX13_cannotAddLine_33 : decode cX13_cannotAddLine 33 = .ok (.bipush 20, 2) := by decide +kernel
theorem dX13_cannotAddLine_35 : decode cX13_cannotAddLine 35 = .ok (.invokestatic 79, 3) := by decide +kernel
theorem dX13_cannotAddLine_38 : decode cX13_cannotAddLine 38 = .ok (.ifCond .ne 5, 3) := by decide +kernel
theorem dX13_cannotAddLine_41 : decode cX13_cannotAddLine 41 = .ok (.iconst 1, 1) := by decide +kernel
theorem dX13_cannotAddLine_42 : decode cX13_cannotAddLine 42 = .ok (.ireturn, 1) := by decide +kernel
theorem dX13_cannotAddLine_43 : decode cX13_cannotAddLine 43 = .ok (.aload_n 0, 1) := by decide +kernel
theorem dX13_cannotAddLine_44 : decode cX13_cannotAddLine 44 = .ok (.getfield 7, 3) := by decide +kernel
theorem dX13_cannotAddLine_47 : decode cX13_cannotAddLine 47 = .ok (.iconst 2, 1) := by decide +kernel
theorem dX13_cannotAddLine_48 : decode cX13_cannotAddLine 48 = .ok (.iaload, 1) := by decide +kernel
theorem dX13_cannotAddLine_49 : decode cX13_cannotAddLine 49 = .ok (.iconst 5, 1) := by decide +kernel
theorem dX13_cannotAddLine_50 : decode cX13_cannotAddLine 50 = .ok (.if_icmp .ne 7, 3) := by decide +kernel
theorem dX13_cannotAddLine_53 : decode cX13_cannotAddLine 53 = .ok (.iconst 2, 1) := by decide +kernel
theorem dX13_cannotAddLine_54 : decode cX13_cannotAddLine 54 = .ok (.goto 4, 3) := by decide +kernel
theorem dX13_cannotAddLine_57 : decode cX13_cannotAddLine 57 = .ok (.iconst 0, 1) := by decide +kernel
theorem dX13_cannotAddLine_58 : decode cX13_cannotAddLine 58 = .ok (.ireturn, 1) := by decide +kernel
theorem dX13_addsLine_0 : decode cX13_addsLine 0 = .ok (.aload_n 0, 1) := by decide +kernel
theorem dX13_addsLine_1 : decode cX13_addsLine 1 = .ok (.getfield 7, 3) := by decide +kernel
theorem dX13_addsLine_4 : decode cX13_addsLine 4 = .ok (.iconst 2, 1) := by decide +kernel
theorem dX13_addsLine_5 : decode cX13_addsLine 5 = .ok (.iaload, 1) := by decide +kernel
theorem dX13_addsLine_6 : decode cX13_addsLine 6 = .ok (.istore 5, 2) := by decide +kernel
theorem dX13_addsLine_8 : decode cX13_addsLine 8 = .ok (.aload_n 0, 1) := by decide +kernel
theorem dX13_addsLine_9 : decode cX13_addsLine 9 = .ok (.iload 5, 2) := by decide +kernel
theorem dX13_addsLine_11 : decode cX13_addsLine 11 = .ok (.iconst 0, 1) := by decide +kernel
theorem dX13_addsLine_12 : decode cX13_addsLine 12 = .ok (.iload_n 1, 1) := by decide +kernel
theorem dX13_addsLine_13 : decode cX13_addsLine 13 = .ok (.invokevirtual 137, 3) := by decide +kernel
theorem dX13_addsLine_16 : decode cX13_addsLine 16 = .ok (.aload_n 0, 1) := by decide +kernel
theorem dX13_addsLine_17 : decode cX13_addsLine 17 = .ok (.iload 5, 2) := by decide +kernel
theorem dX13_addsLine_19 : decode cX13_addsLine 19 = .ok (.iconst 1, 1) := by decide +kernel
theorem dX13_addsLine_20 : decode cX13_addsLine 20 = .ok (.iload_n 2, 1) := by decide +kernel
theorem dX13_addsLine_21 : decode cX13_addsLine 21 = .ok (.invokevirtual 137, 3) := by decide +kernel
theorem dX13_addsLine_24 : decode cX13_addsLine 24 = .ok (.aload_n 0, 1) := by decide +kernel
theorem dX13_addsLine_25 : decode cX13_addsLine 25 = .ok (.iload 5, 2) := by decide +kernel
theorem dX13_addsLine_27 : decode cX13_addsLine 27 = .ok (.iconst 2, 1) := by decide +kernel
theorem dX13_addsLine_28 : decode cX13_addsLine 28 = .ok (.iload_n 3, 1) := by decide +kernel
theorem dX13_addsLine_29 : decode cX13_addsLine 29 = .ok (.invokevirtual 137, 3) := by decide +kernel
theorem dX13_addsLine_32 : decode cX13_addsLine 32 = .ok (.aload_n 0, 1) := by decide +kernel
theorem dX13_addsLine_33 : decode cX13_addsLine 33 = .ok (.iload 5, 2) := by decide +kernel
theorem dX13_addsLine_35 : decode cX13_addsLine 35 = .ok (.iconst 4, 1) := by decide +kernel
theorem dX13_addsLine_36 : decode cX13_addsLine 36 = .ok (.iload 4, 2) := by decide +kernel
theorem dX13_addsLine_38 : decode cX13_addsLine 38 = .ok (.invokevirtual 137, 3) := by decide +kernel
theorem dX13_addsLine_41 : decode cX13_addsLine 41 = .ok (.aload_n 0, 1) := by decide +kernel
theorem dX13_addsLine_42 : decode cX13_addsLine 42 = .ok (.getfield 7, 3) := by decide +kernel
theorem dX13_addsLine_45 : decode cX13_addsLine 45 = .ok (.iconst 2, 1) := by decide +kernel
theorem dX13_addsLine_46 : decode cX13_addsLine 46 = .ok (.dup2, 1) := by decide +kernel
theorem dX13_addsLine_47 : decode cX13_addsLine 47 = .ok (.iaload, 1) := by decide +kernel
theorem dX13_addsLine_48 : decode cX13_addsLine 48 = .ok (.iconst 1, 1) := by decide +kernel
theorem dX13_addsLine_49 : decode cX13_addsLine 49 = .ok (.iadd, 1) := by decide +kernel
theorem dX13_addsLine_50 : decode cX13_addsLine 50 = .ok (.iastore, 1) := by decide +kernel
theorem dX13_addsLine_51 : decode cX13_addsLine 51 = .ok (.iload 5, 2) := by decide +kernel
theorem dX13_addsLine_53 : decode cX13_addsLine 53 = .ok (.ireturn, 1) := by decide +kernel
theorem dX13_addLine_0 : decode cX13_addLine 0 = .ok (.aload_n 0, 1) := by decide +kernel
theorem dX13_addLine_1 : decode cX13_addLine 1 = .ok (.invokevirtual 87, 3) := by decide +kernel
theorem dX13_addLine_4 : decode cX13_addLine 4 = .ok (.aload_n 0, 1) := by decide +kernel
theorem dX13_addLine_5 : decode cX13_addLine 5 = .ok (.iload_n 1, 1) := by decide +kernel
theorem dX13_addLine_6 : decode cX13_addLine 6 = .ok (.iload_n 2, 1) := by decide +kernel
theorem dX13_addLine_7 : decode cX13_addLine 7 = .ok (.iload_n 3, 1) := by decide +kernel
theorem dX13_addLine_8 : decode cX13_addLine 8 = .ok (.iload 4, 2) := by decide +kernel
theorem dX13_addLine_10 : decode cX13_addLine 10 = .ok (.invokevirtual 140, 3) := by decide +kernel
theorem dX13_addLine_13 : decode cX13_addLine 13 = .ok (.istore 5, 2) := by decide +kernel
theorem dX13_addLine_15 : decode cX13_addLine 15 = .ok (.iload 5, 2) := by decide +kernel
theorem dX13_addLine_17 : decode cX13_addLine 17 = .ok (.ifCond .le 12, 3) := by decide +kernel
theorem dX13_addLine_20 : decode cX13_addLine 20 = .ok (.aload_n 0, 1) := by decide +kernel
theorem dX13_addLine_21 : decode cX13_addLine 21 = .ok (.iload 5, 2) := by decide +kernel
theorem dX13_addLine_23 : decode cX13_addLine 23 = .ok (.invokevirtual 94, 3) := by decide +kernel
theorem dX13_addLine_26 : decode cX13_addLine 26 = .ok (.goto 16, 3) := by decide +kernel
theorem dX13_addLine_29 : decode cX13_addLine 29 = .ok (.aload_n 0, 1) := by decide +kernel
theorem dX13_addLine_30 : decode cX13_addLine 30 = .ok (.aload_n 0, 1) := by decide +kernel
theorem dX13_addLine_31 : decode cX13_addLine 31 = .ok (.iload_n 1, 1) := by decide +kernel
theorem dX13_addLine_32 : decode cX13_addLine 32 = .ok (.iload_n 2, 1) := by decide +kernel
theorem dX13_addLine_33 : decode cX13_addLine 33 = .ok (.iload_n 3, 1) := by decide +kernel
theorem dX13_addLine_34 : decode cX13_addLine 34 = .ok (.iload 4, 2) := by decide +kernel
theorem dX13_addLine_36 : decode cX13_addLine 36 = .ok (.invokevirtual 144, 3) := by decide +kernel
theorem dX13_addLine_39 : decode cX13_addLine 39 = .ok (.invokevirtual 100, 3) := by decide +kernel
theorem dX13_addLine_42 : decode cX13_addLine 42 = .ok (.ireturn, 1) := by decide +kernel
theorem dX13_ticketsOf_0 : decode cX13_ticketsOf 0 = .ok (.iconst 0, 1) := by decide +kernel
theorem dX13_ticketsOf_1 : decode cX13_ticketsOf 1 = .ok (.istore_n 2, 1) := by decide +kernel
theorem dX13_ticketsOf_2 : decode cX13_ticketsOf 2 = .ok (.iconst 0, 1) := by decide +kernel
theorem dX13_ticketsOf_3 : decode cX13_ticketsOf 3 = .ok (.istore_n 3, 1) := by decide +kernel
theorem dX13_ticketsOf_4 : decode cX13_ticketsOf 4 = .ok (.iload_n 3, 1) := by decide +kernel
theorem dX13_ticketsOf_5 : decode cX13_ticketsOf 5 = .ok (.aload_n 0, 1) := by decide +kernel
theorem dX13_ticketsOf_6 : decode cX13_ticketsOf 6 = .ok (.getfield 7, 3) := by decide +kernel
theorem dX13_ticketsOf_9 : decode cX13_ticketsOf 9 = .ok (.iconst 3, 1) := by decide +kernel
theorem dX13_ticketsOf_10 : decode cX13_ticketsOf 10 = .ok (.iaload, 1) := by decide +kernel
theorem dX13_ticketsOf_11 : decode cX13_ticketsOf 11 = .ok (.if_icmp .ge 27, 3) := by decide +kernel
theorem dX13_ticketsOf_14 : decode cX13_ticketsOf 14 = .ok (.iload_n 2, 1) := by decide +kernel
theorem dX13_ticketsOf_15 : decode cX13_ticketsOf 15 = .ok (.aload_n 0, 1) := by decide +kernel
theorem dX13_ticketsOf_16 : decode cX13_ticketsOf 16 = .ok (.iload_n 3, 1) := by decide +kernel
theorem dX13_ticketsOf_17 : decode cX13_ticketsOf 17 = .ok (.iconst 1, 1) := by decide +kernel
theorem dX13_ticketsOf_18 : decode cX13_ticketsOf 18 = .ok (.invokevirtual 147, 3) := by decide +kernel
theorem dX13_ticketsOf_21 : decode cX13_ticketsOf 21 = .ok (.iload_n 1, 1) := by decide +kernel
theorem dX13_ticketsOf_22 : decode cX13_ticketsOf 22 = .ok (.if_icmp .ne 7, 3) := by decide +kernel
theorem dX13_ticketsOf_25 : decode cX13_ticketsOf 25 = .ok (.iconst 1, 1) := by decide +kernel
theorem dX13_ticketsOf_26 : decode cX13_ticketsOf 26 = .ok (.goto 4, 3) := by decide +kernel
theorem dX13_ticketsOf_29 : decode cX13_ticketsOf 29 = .ok (.iconst 0, 1) := by decide +kernel
theorem dX13_ticketsOf_30 : decode cX13_ticketsOf 30 = .ok (.iadd, 1) := by decide +kernel
theorem dX13_ticketsOf_31 : decode cX13_ticketsOf 31 = .ok (.istore_n 2, 1) := by decide +kernel
theorem dX13_ticketsOf_32 : decode cX13_ticketsOf 32 = .ok (.iinc 3 1, 3) := by decide +kernel
theorem dX13_ticketsOf_35 : decode cX13_ticketsOf 35 = .ok (.goto (-31), 3) := by decide +kernel
theorem dX13_ticketsOf_38 : decode cX13_ticketsOf 38 = .ok (.iload_n 2, 1) := by decide +kernel
theorem dX13_ticketsOf_39 : decode cX13_ticketsOf 39 = .ok (.ireturn, 1) := by decide +kernel
theorem dX13_cannotExtend_0 : decode cX13_cannotExtend 0 = .ok (.aload_n 0, 1) := by decide +kernel
theorem dX13_cannotExtend_1 : decode cX13_cannotExtend 1 = .ok (.iload_n 1, 1) := by decide +kernel
theorem dX13_cannotExtend_2 : decode cX13_cannotExtend 2 = .ok (.invokevirtual 150, 3) := by decide +kernel
theorem dX13_cannotExtend_5 : decode cX13_cannotExtend 5 = .ok (.ifCond .eq 11, 3) := by decide +kernel
theorem dX13_cannotExtend_8 : decode cX13_cannotExtend 8 = .ok (.aload_n 0, 1) := by decide +kernel
theorem dX13_cannotExtend_9 : decode cX13_cannotExtend 9 = .ok (.iload_n 2, 1) := by decide +kernel
theorem dX13_cannotExtend_10 : decode cX13_cannotExtend 10 = .ok (.invokevirtual 83, 3) := by decide +kernel
theorem dX13_cannotExtend_13 : decode cX13_cannotExtend 13 = .ok (.ifCond .ne 5, 3) := by decide +kernel
theorem dX13_cannotExtend_16 : decode cX13_cannotExtend 16 = .ok (.iconst 1, 1) := by decide +kernel
theorem dX13_cannotExtend_17 : decode cX13_cannotExtend 17 = .ok (.ireturn, 1) := by decide +kernel
theorem dX13_cannotExtend_18 : decode cX13_cannotExtend 18 = .ok (.aload_n 0, 1) := by decide +kernel
theorem dX13_cannotExtend_19 : decode cX13_cannotExtend 19 = .ok (.iload_n 1, 1) := by decide +kernel
theorem dX13_cannotExtend_20 : decode cX13_cannotExtend 20 = .ok (.iconst 5, 1) := by decide +kernel
theorem dX13_cannotExtend_21 : decode cX13_cannotExtend 21 = .ok (.invokevirtual 128, 3) := by decide +kernel
theorem dX13_cannotExtend_24 : decode cX13_cannotExtend 24 = .ok (.bipush 6, 2) := by decide +kernel
theorem dX13_cannotExtend_26 : decode cX13_cannotExtend 26 = .ok (.if_icmp .eq 11, 3) := by decide +kernel
theorem dX13_cannotExtend_29 : decode cX13_cannotExtend 29 = .ok (.aload_n 0, 1) := by decide +kernel
theorem dX13_cannotExtend_30 : decode cX13_cannotExtend 30 = .ok (.iload_n 1, 1) := by decide +kernel
theorem dX13_cannotExtend_31 : decode cX13_cannotExtend 31 = .ok (.invokevirtual 153, 3) := by decide +kernel
theorem dX13_cannotExtend_34 : decode cX13_cannotExtend 34 = .ok (.ifCond .le 5, 3) := by decide +kernel
theorem dX13_cannotExtend_37 : decode cX13_cannotExtend 37 = .ok (.iconst 2, 1) := by decide +kernel
theorem dX13_cannotExtend_38 : decode cX13_cannotExtend 38 = .ok (.ireturn, 1) := by decide +kernel
theorem dX13_cannotExtend_39 : decode cX13_cannotExtend 39 = .ok (.aload_n 0, 1) := by decide +kernel
theorem dX13_cannotExtend_40 : decode cX13_cannotExtend 40 = .ok (.iload_n 1, 1) := by decide +kernel
theorem dX13_cannotExtend_41 : decode cX13_cannotExtend 41 = .ok (.iload_n 2, 1) := by decide +kernel
theorem dX13_cannotExtend_42 : decode cX13_cannotExtend 42 = .ok (.invokevirtual 156, 3) := by decide +kernel
theorem dX13_cannotExtend_45 : decode cX13_cannotExtend 45 = .ok (.ifCond .lt 7, 3) := by decide +kernel
theorem dX13_cannotExtend_48 : decode cX13_cannotExtend 48 = .ok (.iconst 3, 1) := by decide +kernel
theorem dX13_cannotExtend_49 : decode cX13_cannotExtend 49 = .ok (.goto 4, 3) := by decide +kernel
theorem dX13_cannotExtend_52 : decode cX13_cannotExtend 52 = .ok (.iconst 0, 1) := by decide +kernel
theorem dX13_cannotExtend_53 : decode cX13_cannotExtend 53 = .ok (.ireturn, 1) := by decide +kernel
theorem dX13_extend_0 : decode cX13_extend 0 = .ok (.aload_n 0, 1) := by decide +kernel
theorem dX13_extend_1 : decode cX13_extend 1 = .ok (.iload_n 1, 1) := by decide +kernel
theorem dX13_extend_2 : decode cX13_extend 2 = .ok (.bipush 7, 2) := by decide +kernel
theorem dX13_extend_4 : decode cX13_extend 4 = .ok (.aload_n 0, 1) := by decide +kernel
theorem dX13_extend_5 : decode cX13_extend 5 = .ok (.iload_n 1, 1) := by decide +kernel
theorem dX13_extend_6 : decode cX13_extend 6 = .ok (.iconst 5, 1) := by decide +kernel
theorem dX13_extend_7 : decode cX13_extend 7 = .ok (.invokevirtual 128, 3) := by decide +kernel
theorem dX13_extend_10 : decode cX13_extend 10 = .ok (.iadd, 1) := by decide +kernel
theorem dX13_extend_11 : decode cX13_extend 11 = .ok (.iload_n 2, 1) := by decide +kernel
theorem dX13_extend_12 : decode cX13_extend 12 = .ok (.invokevirtual 137, 3) := by decide +kernel
theorem dX13_extend_15 : decode cX13_extend 15 = .ok (.aload_n 0, 1) := by decide +kernel
theorem dX13_extend_16 : decode cX13_extend 16 = .ok (.iload_n 1, 1) := by decide +kernel
theorem dX13_extend_17 : decode cX13_extend 17 = .ok (.iconst 5, 1) := by decide +kernel
theorem dX13_extend_18 : decode cX13_extend 18 = .ok (.aload_n 0, 1) := by decide +kernel
theorem dX13_extend_19 : decode cX13_extend 19 = .ok (.iload_n 1, 1) := by decide +kernel
theorem dX13_extend_20 : decode cX13_extend 20 = .ok (.iconst 5, 1) := by decide +kernel
theorem dX13_extend_21 : decode cX13_extend 21 = .ok (.invokevirtual 128, 3) := by decide +kernel
theorem dX13_extend_24 : decode cX13_extend 24 = .ok (.iconst 1, 1) := by decide +kernel
theorem dX13_extend_25 : decode cX13_extend 25 = .ok (.iadd, 1) := by decide +kernel
theorem dX13_extend_26 : decode cX13_extend 26 = .ok (.invokevirtual 137, 3) := by decide +kernel
theorem dX13_extend_29 : decode cX13_extend 29 = .ok (.aload_n 0, 1) := by decide +kernel
theorem dX13_extend_30 : decode cX13_extend 30 = .ok (.iload_n 1, 1) := by decide +kernel
theorem dX13_extend_31 : decode cX13_extend 31 = .ok (.iconst 5, 1) := by decide +kernel
theorem dX13_extend_32 : decode cX13_extend 32 = .ok (.invokevirtual 128, 3) := by decide +kernel
theorem dX13_extend_35 : decode cX13_extend 35 = .ok (.ireturn, 1) := by decide +kernel
theorem dX13_extendLine_0 : decode cX13_extendLine 0 = .ok (.aload_n 0, 1) := by decide +kernel
theorem dX13_extendLine_1 : decode cX13_extendLine 1 = .ok (.invokevirtual 87, 3) := by decide +kernel
theorem dX13_extendLine_4 : decode cX13_extendLine 4 = .ok (.aload_n 0, 1) := by decide +kernel
theorem dX13_extendLine_5 : decode cX13_extendLine 5 = .ok (.iload_n 1, 1) := by decide +kernel
theorem dX13_extendLine_6 : decode cX13_extendLine 6 = .ok (.iload_n 2, 1) := by decide +kernel
theorem dX13_extendLine_7 : decode cX13_extendLine 7 = .ok (.invokevirtual 159, 3) := by decide +kernel
theorem dX13_extendLine_10 : decode cX13_extendLine 10 = .ok (.istore_n 3, 1) := by decide +kernel
theorem dX13_extendLine_11 : decode cX13_extendLine 11 = .ok (.iload_n 3, 1) := by decide +kernel
theorem dX13_extendLine_12 : decode cX13_extendLine 12 = .ok (.ifCond .le 11, 3) := by decide +kernel
theorem dX13_extendLine_15 : decode cX13_extendLine 15 = .ok (.aload_n 0, 1) := by decide +kernel
theorem dX13_extendLine_16 : decode cX13_extendLine 16 = .ok (.iload_n 3, 1) := by decide +kernel
theorem dX13_extendLine_17 : decode cX13_extendLine 17 = .ok (.invokevirtual 94, 3) := by decide +kernel
theorem dX13_extendLine_20 : decode cX13_extendLine 20 = .ok (.goto 13, 3) := by decide +kernel
theorem dX13_extendLine_23 : decode cX13_extendLine 23 = .ok (.aload_n 0, 1) := by decide +kernel
theorem dX13_extendLine_24 : decode cX13_extendLine 24 = .ok (.aload_n 0, 1) := by decide +kernel
theorem dX13_extendLine_25 : decode cX13_extendLine 25 = .ok (.iload_n 1, 1) := by decide +kernel
theorem dX13_extendLine_26 : decode cX13_extendLine 26 = .ok (.iload_n 2, 1) := by decide +kernel
theorem dX13_extendLine_27 : decode cX13_extendLine 27 = .ok (.invokevirtual 162, 3) := by decide +kernel
theorem dX13_extendLine_30 : decode cX13_extendLine 30 = .ok (.invokevirtual 100, 3) := by decide +kernel
theorem dX13_extendLine_33 : decode cX13_extendLine 33 = .ok (.ireturn, 1) := by decide +kernel
theorem dX13_cannotShorten_0 : decode cX13_cannotShorten 0 = .ok (.aload_n 0, 1) := by decide +kernel
theorem dX13_cannotShorten_1 : decode cX13_cannotShorten 1 = .ok (.iload_n 1, 1) := by decide +kernel
theorem dX13_cannotShorten_2 : decode cX13_cannotShorten 2 = .ok (.invokevirtual 150, 3) := by decide +kernel
theorem dX13_cannotShorten_5 : decode cX13_cannotShorten 5 = .ok (.ifCond .ne 7, 3) := by decide +kernel
theorem dX13_cannotShorten_8 : decode cX13_cannotShorten 8 = .ok (.iconst 1, 1) := by decide +kernel
theorem dX13_cannotShorten_9 : decode cX13_cannotShorten 9 = .ok (.goto 29, 3) := by decide +kernel
theorem dX13_cannotShorten_12 : decode cX13_cannotShorten 12 = .ok (.aload_n 0, 1) := by decide +kernel
theorem dX13_cannotShorten_13 : decode cX13_cannotShorten 13 = .ok (.iload_n 1, 1) := by decide +kernel
theorem dX13_cannotShorten_14 : decode cX13_cannotShorten 14 = .ok (.iconst 5, 1) := by decide +kernel
theorem dX13_cannotShorten_15 : decode cX13_cannotShorten 15 = .ok (.invokevirtual 128, 3) := by decide +kernel
theorem dX13_cannotShorten_18 : decode cX13_cannotShorten 18 = .ok (.ifCond .ne 7, 3) := by decide +kernel
theorem dX13_cannotShorten_21 : decode cX13_cannotShorten 21 = .ok (.iconst 2, 1) := by decide +kernel
theorem dX13_cannotShorten_22 : decode cX13_cannotShorten 22 = .ok (.goto 16, 3) := by decide +kernel
theorem dX13_cannotShorten_25 : decode cX13_cannotShorten 25 = .ok (.aload_n 0, 1) := by decide +kernel
theorem dX13_cannotShorten_26 : decode cX13_cannotShorten 26 = .ok (.iload_n 1, 1) := by decide +kernel
theorem dX13_cannotShorten_27 : decode cX13_cannotShorten 27 = .ok (.invokevirtual 153, 3) := by decide +kernel
theorem dX13_cannotShorten_30 : decode cX13_cannotShorten 30 = .ok (.ifCond .le 7, 3) := by decide +kernel
theorem dX13_cannotShorten_33 : decode cX13_cannotShorten 33 = .ok (.iconst 3, 1) := by decide +kernel
theorem dX13_cannotShorten_34 : decode cX13_cannotShorten 34 = .ok (.goto 4, 3) := by decide +kernel
theorem dX13_cannotShorten_37 : decode cX13_cannotShorten 37 = .ok (.iconst 0, 1) := by decide +kernel
theorem dX13_cannotShorten_38 : decode cX13_cannotShorten 38 = .ok (.ireturn, 1) := by decide +kernel
theorem dX13_shorten_0 : decode cX13_shorten 0 = .ok (.aload_n 0, 1) := by decide +kernel
theorem dX13_shorten_1 : decode cX13_shorten 1 = .ok (.iload_n 1, 1) := by decide +kernel
theorem dX13_shorten_2 : decode cX13_shorten 2 = .ok (.iconst 5, 1) := by decide +kernel
theorem dX13_shorten_3 : decode cX13_shorten 3 = .ok (.invokevirtual 128, 3) := by decide +kernel
theorem dX13_shorten_6 : decode cX13_shorten 6 = .ok (.iconst 1, 1) := by decide +kernel
theorem dX13_shorten_7 : decode cX13_shorten 7 = .ok (.isub, 1) := by decide +kernel
theorem dX13_shorten_8 : decode cX13_shorten 8 = .ok (.istore_n 2, 1) := by decide +kernel
theorem dX13_shorten_9 : decode cX13_shorten 9 = .ok (.aload_n 0, 1) := by decide +kernel
theorem dX13_shorten_10 : decode cX13_shorten 10 = .ok (.iload_n 1, 1) := by decide +kernel
theorem dX13_shorten_11 : decode cX13_shorten 11 = .ok (.bipush 7, 2) := by decide +kernel
theorem dX13_shorten_13 : decode cX13_shorten 13 = .ok (.iload_n 2, 1) := by decide +kernel
theorem dX13_shorten_14 : decode cX13_shorten 14 = .ok (.iadd, 1) := by decide +kernel
theorem dX13_shorten_15 : decode cX13_shorten 15 = .ok (.invokevirtual 128, 3) := by decide +kernel
theorem dX13_shorten_18 : decode cX13_shorten 18 = .ok (.istore_n 3, 1) := by decide +kernel
theorem dX13_shorten_19 : decode cX13_shorten 19 = .ok (.aload_n 0, 1) := by decide +kernel
theorem dX13_shorten_20 : decode cX13_shorten 20 = .ok (.iload_n 1, 1) := by decide +kernel
theorem dX13_shorten_21 : decode cX13_shorten 21 = .ok (.bipush 7, 2) := by decide +kernel
theorem dX13_shorten_23 : decode cX13_shorten 23 = .ok (.iload_n 2, 1) := by decide +kernel
theorem dX13_shorten_24 : decode cX13_shorten 24 = .ok (.iadd, 1) := by decide +kernel
theorem dX13_shorten_25 : decode cX13_shorten 25 = .ok (.iconst 0, 1) := by decide +kernel
theorem dX13_shorten_26 : decode cX13_shorten 26 = .ok (.invokevirtual 137, 3) := by decide +kernel
theorem dX13_shorten_29 : decode cX13_shorten 29 = .ok (.aload_n 0, 1) := by decide +kernel
theorem dX13_shorten_30 : decode cX13_shorten 30 = .ok (.iload_n 1, 1) := by decide +kernel
theorem dX13_shorten_31 : decode cX13_shorten 31 = .ok (.iconst 5, 1) := by decide +kernel
theorem dX13_shorten_32 : decode cX13_shorten 32 = .ok (.iload_n 2, 1) := by decide +kernel
theorem dX13_shorten_33 : decode cX13_shorten 33 = .ok (.invokevirtual 137, 3) := by decide +kernel
theorem dX13_shorten_36 : decode cX13_shorten 36 = .ok (.iload_n 3, 1) := by decide +kernel
theorem dX13_shorten_37 : decode cX13_shorten 37 = .ok (.ireturn, 1) := by decide +kernel
theorem dX13_shortenLine_0 : decode cX13_shortenLine 0 = .ok (.aload_n 0, 1) := by decide +kernel
theorem dX13_shortenLine_1 : decode cX13_shortenLine 1 = .ok (.invokevirtual 87, 3) := by decide +kernel
theorem dX13_shortenLine_4 : decode cX13_shortenLine 4 = .ok (.aload_n 0, 1) := by decide +kernel
theorem dX13_shortenLine_5 : decode cX13_shortenLine 5 = .ok (.iload_n 1, 1) := by decide +kernel
theorem dX13_shortenLine_6 : decode cX13_shortenLine 6 = .ok (.invokevirtual 165, 3) := by decide +kernel
theorem dX13_shortenLine_9 : decode cX13_shortenLine 9 = .ok (.istore_n 2, 1) := by decide +kernel
theorem dX13_shortenLine_10 : decode cX13_shortenLine 10 = .ok (.iload_n 2, 1) := by decide +kernel
theorem dX13_shortenLine_11 : decode cX13_shortenLine 11 = .ok (.ifCond .le 11, 3) := by decide +kernel
theorem dX13_shortenLine_14 : decode cX13_shortenLine 14 = .ok (.aload_n 0, 1) := by decide +kernel
theorem dX13_shortenLine_15 : decode cX13_shortenLine 15 = .ok (.iload_n 2, 1) := by decide +kernel
theorem dX13_shortenLine_16 : decode cX13_shortenLine 16 = .ok (.invokevirtual 94, 3) := by decide +kernel
theorem dX13_shortenLine_19 : decode cX13_shortenLine 19 = .ok (.goto 12, 3) := by decide +kernel
theorem dX13_shortenLine_22 : decode cX13_shortenLine 22 = .ok (.aload_n 0, 1) := by decide +kernel
theorem dX13_shortenLine_23 : decode cX13_shortenLine 23 = .ok (.aload_n 0, 1) := by decide +kernel
theorem dX13_shortenLine_24 : decode cX13_shortenLine 24 = .ok (.iload_n 1, 1) := by decide +kernel
theorem dX13_shortenLine_25 : decode cX13_shortenLine 25 = .ok (.invokevirtual 168, 3) := by decide +kernel
theorem dX13_shortenLine_28 : decode cX13_shortenLine 28 = .ok (.invokevirtual 100, 3) := by decide +kernel
theorem dX13_shortenLine_31 : decode cX13_shortenLine 31 = .ok (.ireturn, 1) := by decide +kernel
theorem dX13_flag_0 : decode cX13_flag 0 = .ok (.aload_n 0, 1) := by decide +kernel
theorem dX13_flag_1 : decode cX13_flag 1 = .ok (.getfield 7, 3) := by decide +kernel
theorem dX13_flag_4 : decode cX13_flag 4 = .ok (.iload_n 1, 1) := by decide +kernel
theorem dX13_flag_5 : decode cX13_flag 5 = .ok (.iaload, 1) := by decide +kernel
theorem dX13_flag_6 : decode cX13_flag 6 = .ok (.istore_n 3, 1) := by decide +kernel
theorem dX13_flag_7 : decode cX13_flag 7 = .ok (.aload_n 0, 1) := by decide +kernel
theorem dX13_flag_8 : decode cX13_flag 8 = .ok (.getfield 7, 3) := by decide +kernel
theorem dX13_flag_11 : decode cX13_flag 11 = .ok (.iload_n 1, 1) := by decide +kernel
theorem dX13_flag_12 : decode cX13_flag 12 = .ok (.iload_n 2, 1) := by decide +kernel
theorem dX13_flag_13 : decode cX13_flag 13 = .ok (.ifCond .eq 7, 3) := by decide +kernel
theorem dX13_flag_16 : decode cX13_flag 16 = .ok (.iconst 1, 1) := by decide +kernel
theorem dX13_flag_17 : decode cX13_flag 17 = .ok (.goto 4, 3) := by decide +kernel
theorem dX13_flag_20 : decode cX13_flag 20 = .ok (.iconst 0, 1) := by decide +kernel
theorem dX13_flag_21 : decode cX13_flag 21 = .ok (.iastore, 1) := by decide +kernel
theorem dX13_flag_22 : decode cX13_flag 22 = .ok (.iload_n 3, 1) := by decide +kernel
theorem dX13_flag_23 : decode cX13_flag 23 = .ok (.ireturn, 1) := by decide +kernel
theorem dX13_setRain_0 : decode cX13_setRain 0 = .ok (.aload_n 0, 1) := by decide +kernel
theorem dX13_setRain_1 : decode cX13_setRain 1 = .ok (.invokevirtual 87, 3) := by decide +kernel
theorem dX13_setRain_4 : decode cX13_setRain 4 = .ok (.aload_n 0, 1) := by decide +kernel
theorem dX13_setRain_5 : decode cX13_setRain 5 = .ok (.aload_n 0, 1) := by decide +kernel
theorem dX13_setRain_6 : decode cX13_setRain 6 = .ok (.bipush 6, 2) := by decide +kernel
theorem dX13_setRain_8 : decode cX13_setRain 8 = .ok (.iload_n 1, 1) := by decide +kernel
theorem dX13_setRain_9 : decode cX13_setRain 9 = .ok (.invokevirtual 171, 3) := by decide +kernel
theorem dX13_setRain_12 : decode cX13_setRain 12 = .ok (.invokevirtual 100, 3) := by decide +kernel
theorem dX13_setRain_15 : decode cX13_setRain 15 = .ok (.iconst 1, 1) := by decide +kernel
theorem dX13_setRain_16 : decode cX13_setRain 16 = .ok (.if_icmp .ne 7, 3) := by decide +kernel
theorem dX13_setRain_19 : decode cX13_setRain 19 = .ok (.iconst 1, 1) := by decide +kernel
theorem dX13_setRain_20 : decode cX13_setRain 20 = .ok (.goto 4, 3) := by decide +kernel
theorem dX13_setRain_23 : decode cX13_setRain 23 = .ok (.iconst 0, 1) := by decide +kernel
theorem dX13_setRain_24 : decode cX13_setRain 24 = .ok (.ireturn, 1) := by decide +kernel
theorem dX13_delays_0 : decode cX13_delays 0 = .ok (.aload_n 0, 1) := by decide +kernel
theorem dX13_delays_1 : decode cX13_delays 1 = .ok (.iload_n 1, 1) := by decide +kernel
theorem dX13_delays_2 : decode cX13_delays 2 = .ok (.iconst 3, 1) := by decide +kernel
theorem dX13_delays_3 : decode cX13_delays 3 = .ok (.invokevirtual 128, 3) := by decide +kernel
theorem dX13_delays_6 : decode cX13_delays 6 = .ok (.istore_n 3, 1) := by decide +kernel
theorem dX13_delays_7 : decode cX13_delays 7 = .ok (.aload_n 0, 1) := by decide +kernel
theorem dX13_delays_8 : decode cX13_delays 8 = .ok (.iload_n 1, 1) := by decide +kernel
theorem dX13_delays_9 : decode cX13_delays 9 = .ok (.iconst 3, 1) := by decide +kernel
theorem dX13_delays_10 : decode cX13_delays 10 = .ok (.iload_n 2, 1) := by decide +kernel
theorem dX13_delays_11 : decode cX13_delays 11 = .ok (.invokevirtual 137, 3) := by decide +kernel
theorem dX13_delays_14 : decode cX13_delays 14 = .ok (.iload_n 3, 1) := by decide +kernel
theorem dX13_delays_15 : decode cX13_delays 15 = .ok (.ireturn, 1) := by decide +kernel
theorem dX13_setRainDelay_0 : decode cX13_setRainDelay 0 = .ok (.aload_n 0, 1) := by decide +kernel
theorem dX13_setRainDelay_1 : decode cX13_setRainDelay 1 = .ok (.invokevirtual 87, 3) := by decide +kernel
theorem dX13_setRainDelay_4 : decode cX13_setRainDelay 4 = .ok (.aload_n 0, 1) := by decide +kernel
theorem dX13_setRainDelay_5 : decode cX13_setRainDelay 5 = .ok (.iload_n 1, 1) := by decide +kernel
theorem dX13_setRainDelay_6 : decode cX13_setRainDelay 6 = .ok (.invokevirtual 150, 3) := by decide +kernel
theorem dX13_setRainDelay_9 : decode cX13_setRainDelay 9 = .ok (.ifCond .ne 7, 3) := by decide +kernel
theorem dX13_setRainDelay_12 : decode cX13_setRainDelay 12 = .ok (.iconst 1, 1) := by decide +kernel
theorem dX13_setRainDelay_13 : decode cX13_setRainDelay 13 = .ok (.goto 17, 3) := by decide +kernel
theorem dX13_setRainDelay_16 : decode cX13_setRainDelay 16 = .ok (.iload_n 2, 1) := by decide +kernel
theorem dX13_setRainDelay_17 : decode cX13_setRainDelay 17 = .ok (.iconst 0, 1) := by decide +kernel
theorem dX13_setRainDelay_18 : decode cX13_setRainDelay 18 = .ok (.iconst 5, 1) := by decide +kernel
theorem dX13_setRainDelay_19 : decode cX13_setRainDelay 19 = .ok (.invokestatic 79, 3) := by decide +kernel
theorem dX13_setRainDelay_22 : decode cX13_setRainDelay 22 = .ok (.ifCond .ne 7, 3) := by decide +kernel
theorem dX13_setRainDelay_25 : decode cX13_setRainDelay 25 = .ok (.iconst 2, 1) := by decide +kernel
theorem dX13_setRainDelay_26 : decode cX13_setRainDelay 26 = .ok (.goto 4, 3) := by decide +kernel
theorem dX13_setRainDelay_29 : decode cX13_setRainDelay 29 = .ok (.iconst 0, 1) := by decide +kernel
theorem dX13_setRainDelay_30 : decode cX13_setRainDelay 30 = .ok (.istore_n 3, 1) := by decide +kernel
theorem dX13_setRainDelay_31 : decode cX13_setRainDelay 31 = .ok (.iload_n 3, 1) := by decide +kernel
theorem dX13_setRainDelay_32 : decode cX13_setRainDelay 32 = .ok (.ifCond .le 11, 3) := by decide +kernel
theorem dX13_setRainDelay_35 : decode cX13_setRainDelay 35 = .ok (.aload_n 0, 1) := by decide +kernel
theorem dX13_setRainDelay_36 : decode cX13_setRainDelay 36 = .ok (.iload_n 3, 1) := by decide +kernel
theorem dX13_setRainDelay_37 : decode cX13_setRainDelay 37 = .ok (.invokevirtual 94, 3) := by decide +kernel
theorem dX13_setRainDelay_40 : decode cX13_setRainDelay 40 = .ok (.goto 13, 3) := by decide +kernel
theorem dX13_setRainDelay_43 : decode cX13_setRainDelay 43 = .ok (.aload_n 0, 1) := by decide +kernel
theorem dX13_setRainDelay_44 : decode cX13_setRainDelay 44 = .ok (.aload_n 0, 1) := by decide +kernel
theorem dX13_setRainDelay_45 : decode cX13_setRainDelay 45 = .ok (.iload_n 1, 1) := by decide +kernel
theorem dX13_setRainDelay_46 : decode cX13_setRainDelay 46 = .ok (.iload_n 2, 1) := by decide +kernel
theorem dX13_setRainDelay_47 : decode cX13_setRainDelay 47 = .ok (.invokevirtual 175, 3) := by decide +kernel
theorem dX13_setRainDelay_50 : decode cX13_setRainDelay 50 = .ok (.invokevirtual 100, 3) := by decide +kernel
theorem dX13_setRainDelay_53 : decode cX13_setRainDelay 53 = .ok (.ireturn, 1) := by decide +kernel
theorem dX13_setClosed_0 : decode cX13_setClosed 0 = .ok (.aload_n 0, 1) := by decide +kernel
theorem dX13_setClosed_1 : decode cX13_setClosed 1 = .ok (.invokevirtual 87, 3) := by decide +kernel
theorem dX13_setClosed_4 : decode cX13_setClosed 4 = .ok (.aload_n 0, 1) := by decide +kernel
theorem dX13_setClosed_5 : decode cX13_setClosed 5 = .ok (.iload_n 1, 1) := by decide +kernel
theorem dX13_setClosed_6 : decode cX13_setClosed 6 = .ok (.invokevirtual 83, 3) := by decide +kernel
theorem dX13_setClosed_9 : decode cX13_setClosed 9 = .ok (.ifCond .eq 32, 3) := by decide +kernel
theorem dX13_setClosed_12 : decode cX13_setClosed 12 = .ok (.aload_n 0, 1) := by decide +kernel
theorem dX13_setClosed_13 : decode cX13_setClosed 13 = .ok (.aload_n 0, 1) := by decide +kernel
theorem dX13_setClosed_14 : decode cX13_setClosed 14 = .ok (.bipush 12, 2) := by decide +kernel
theorem dX13_setClosed_16 : decode cX13_setClosed 16 = .ok (.iconst 2, 1) := by decide +kernel
theorem dX13_setClosed_17 : decode cX13_setClosed 17 = .ok (.iload_n 1, 1) := by decide +kernel
theorem dX13_setClosed_18 : decode cX13_setClosed 18 = .ok (.imul, 1) := by decide +kernel
theorem dX13_setClosed_19 : decode cX13_setClosed 19 = .ok (.iadd, 1) := by decide +kernel
theorem dX13_setClosed_20 : decode cX13_setClosed 20 = .ok (.iconst 1, 1) := by decide +kernel
theorem dX13_setClosed_21 : decode cX13_setClosed 21 = .ok (.iadd, 1) := by decide +kernel
theorem dX13_setClosed_22 : decode cX13_setClosed 22 = .ok (.iload_n 2, 1) := by decide +kernel
theorem dX13_setClosed_23 : decode cX13_setClosed 23 = .ok (.invokevirtual 171, 3) := by decide +kernel
theorem dX13_setClosed_26 : decode cX13_setClosed 26 = .ok (.invokevirtual 100, 3) := by decide +kernel
theorem dX13_setClosed_29 : decode cX13_setClosed 29 = .ok (.iconst 1, 1) := by decide +kernel
theorem dX13_setClosed_30 : decode cX13_setClosed 30 = .ok (.if_icmp .ne 7, 3) := by decide +kernel
theorem dX13_setClosed_33 : decode cX13_setClosed 33 = .ok (.iconst 1, 1) := by decide +kernel
theorem dX13_setClosed_34 : decode cX13_setClosed 34 = .ok (.goto 21, 3) := by decide +kernel
theorem dX13_setClosed_37 : decode cX13_setClosed 37 = .ok (.iconst 0, 1) := by decide +kernel
theorem dX13_setClosed_38 : decode cX13_setClosed 38 = .ok (.goto 17, 3) := by decide +kernel
theorem dX13_setClosed_41 : decode cX13_setClosed 41 = .ok (.aload_n 0, 1) := by decide +kernel
theorem dX13_setClosed_42 : decode cX13_setClosed 42 = .ok (.iconst 1, 1) := by decide +kernel
theorem dX13_setClosed_43 : decode cX13_setClosed 43 = .ok (.invokevirtual 94, 3) := by decide +kernel
theorem dX13_setClosed_46 : decode cX13_setClosed 46 = .ok (.iconst 1, 1) := by decide +kernel
theorem dX13_setClosed_47 : decode cX13_setClosed 47 = .ok (.if_icmp .ne 7, 3) := by decide +kernel
theorem dX13_setClosed_50 : decode cX13_setClosed 50 = .ok (.iconst 1, 1) := by decide +kernel
theorem dX13_setClosed_51 : decode cX13_setClosed 51 = .ok (.goto 4, 3) := by decide +kernel
theorem dX13_setClosed_54 : decode cX13_setClosed 54 = .ok (.iconst 0, 1) := by decide +kernel
theorem dX13_setClosed_55 : decode cX13_setClosed 55 = .ok (.ireturn, 1) := by decide +kernel
theorem dX13_setSuspended_0 : decode cX13_setSuspended 0 = .ok (.aload_n 0, 1) := by decide +kernel
theorem dX13_setSuspended_1 : decode cX13_setSuspended 1 = .ok (.invokevirtual 87, 3) := by decide +kernel
theorem dX13_setSuspended_4 : decode cX13_setSuspended 4 = .ok (.aload_n 0, 1) := by decide +kernel
theorem dX13_setSuspended_5 : decode cX13_setSuspended 5 = .ok (.iload_n 1, 1) := by decide +kernel
theorem dX13_setSuspended_6 : decode cX13_setSuspended 6 = .ok (.invokevirtual 150, 3) := by decide +kernel
theorem dX13_setSuspended_9 : decode cX13_setSuspended 9 = .ok (.ifCond .eq 35, 3) := by decide +kernel
theorem dX13_setSuspended_12 : decode cX13_setSuspended 12 = .ok (.aload_n 0, 1) := by decide +kernel
theorem dX13_setSuspended_13 : decode cX13_setSuspended 13 = .ok (.aload_n 0, 1) := by decide +kernel
theorem dX13_setSuspended_14 : decode cX13_setSuspended 14 = .ok (.sipush 132, 3) := by decide +kernel
theorem dX13_setSuspended_17 : decode cX13_setSuspended 17 = .ok (.bipush 16, 2) := by decide +kernel
theorem dX13_setSuspended_19 : decode cX13_setSuspended 19 = .ok (.iload_n 1, 1) := by decide +kernel
theorem dX13_setSuspended_20 : decode cX13_setSuspended 20 = .ok (.imul, 1) := by decide +kernel
theorem dX13_setSuspended_21 : decode cX13_setSuspended 21 = .ok (.iadd, 1) := by decide +kernel
theorem dX13_setSuspended_22 : decode cX13_setSuspended 22 = .ok (.bipush 6, 2) := by decide +kernel
theorem dX13_setSuspended_24 : decode cX13_setSuspended 24 = .ok (.iadd, 1) := by decide +kernel
theorem dX13_setSuspended_25 : decode cX13_setSuspended 25 = .ok (.iload_n 2, 1) := by decide +kernel
theorem dX13_setSuspended_26 : decode cX13_setSuspended 26 = .ok (.invokevirtual 171, 3) := by decide +kernel
theorem dX13_setSuspended_29 : decode cX13_setSuspended 29 = .ok (.invokevirtual 100, 3) := by decide +kernel
theorem dX13_setSuspended_32 : decode cX13_setSuspended 32 = .ok (.iconst 1, 1) := by decide +kernel
theorem dX13_setSuspended_33 : decode cX13_setSuspended 33 = .ok (.if_icmp .ne 7, 3) := by decide +kernel
theorem dX13_setSuspended_36 : decode cX13_setSuspended 36 = .ok (.iconst 1, 1) := by decide +kernel
theorem dX13_setSuspended_37 : decode cX13_setSuspended 37 = .ok (.goto 21, 3) := by decide +kernel
theorem dX13_setSuspended_40 : decode cX13_setSuspended 40 = .ok (.iconst 0, 1) := by decide +kernel
theorem dX13_setSuspended_41 : decode cX13_setSuspended 41 = .ok (.goto 17, 3) := by decide +kernel
theorem dX13_setSuspended_44 : decode cX13_setSuspended 44 = .ok (.aload_n 0, 1) := by decide +kernel
theorem dX13_setSuspended_45 : decode cX13_setSuspended 45 = .ok (.iconst 1, 1) := by decide +kernel
theorem dX13_setSuspended_46 : decode cX13_setSuspended 46 = .ok (.invokevirtual 94, 3) := by decide +kernel
theorem dX13_setSuspended_49 : decode cX13_setSuspended 49 = .ok (.iconst 1, 1) := by decide +kernel
theorem dX13_setSuspended_50 : decode cX13_setSuspended 50 = .ok (.if_icmp .ne 7, 3) := by decide +kernel
theorem dX13_setSuspended_53 : decode cX13_setSuspended 53 = .ok (.iconst 1, 1) := by decide +kernel
theorem dX13_setSuspended_54 : decode cX13_setSuspended 54 = .ok (.goto 4, 3) := by decide +kernel
theorem dX13_setSuspended_57 : decode cX13_setSuspended 57 = .ok (.iconst 0, 1) := by decide +kernel
theorem dX13_setSuspended_58 : decode cX13_setSuspended 58 = .ok (.ireturn, 1) := by decide +kernel
theorem dX13_t_0 : decode cX13_t 0 = .ok (.aload_n 0, 1) := by decide +kernel
theorem dX13_t_1 : decode cX13_t 1 = .ok (.getfield 7, 3) := by decide +kernel
theorem dX13_t_4 : decode cX13_t 4 = .ok (.sipush 212, 3) := by decide +kernel
theorem dX13_t_7 : decode cX13_t 7 = .ok (.bipush 8, 2) := by decide +kernel
theorem dX13_t_9 : decode cX13_t 9 = .ok (.iload_n 1, 1) := by decide +kernel
theorem dX13_t_10 : decode cX13_t 10 = .ok (.imul, 1) := by decide +kernel
theorem dX13_t_11 : decode cX13_t 11 = .ok (.iadd, 1) := by decide +kernel
theorem dX13_t_12 : decode cX13_t 12 = .ok (.iload_n 2, 1) := by decide +kernel
theorem dX13_t_13 : decode cX13_t 13 = .ok (.iadd, 1) := by decide +kernel
theorem dX13_t_14 : decode cX13_t 14 = .ok (.iaload, 1) := by decide +kernel
theorem dX13_t_15 : decode cX13_t 15 = .ok (.ireturn, 1) := by decide +kernel
theorem dX13_ticket_0 : decode cX13_ticket 0 = .ok (.iconst 0, 1) := by decide +kernel
theorem dX13_ticket_1 : decode cX13_ticket 1 = .ok (.istore_n 2, 1) := by decide +kernel
theorem dX13_ticket_2 : decode cX13_ticket 2 = .ok (.iload_n 2, 1) := by decide +kernel
theorem dX13_ticket_3 : decode cX13_ticket 3 = .ok (.aload_n 0, 1) := by decide +kernel
theorem dX13_ticket_4 : decode cX13_ticket 4 = .ok (.getfield 7, 3) := by decide +kernel
theorem dX13_ticket_7 : decode cX13_ticket 7 = .ok (.iconst 3, 1) := by decide +kernel
theorem dX13_ticket_8 : decode cX13_ticket 8 = .ok (.iaload, 1) := by decide +kernel
theorem dX13_ticket_9 : decode cX13_ticket 9 = .ok (.if_icmp .ge 21, 3) := by decide +kernel
theorem dX13_ticket_12 : decode cX13_ticket 12 = .ok (.aload_n 0, 1) := by decide +kernel
theorem dX13_ticket_13 : decode cX13_ticket 13 = .ok (.iload_n 2, 1) := by decide +kernel
theorem dX13_ticket_14 : decode cX13_ticket 14 = .ok (.iconst 0, 1) := by decide +kernel
theorem dX13_ticket_15 : decode cX13_ticket 15 = .ok (.invokevirtual 147, 3) := by decide +kernel
theorem dX13_ticket_18 : decode cX13_ticket 18 = .ok (.iload_n 1, 1) := by decide +kernel
theorem dX13_ticket_19 : decode cX13_ticket 19 = .ok (.if_icmp .ne 5, 3) := by decide +kernel
theorem dX13_ticket_22 : decode cX13_ticket 22 = .ok (.iload_n 2, 1) := by decide +kernel
theorem dX13_ticket_23 : decode cX13_ticket 23 = .ok (.ireturn, 1) := by decide +kernel
theorem dX13_ticket_24 : decode cX13_ticket 24 = .ok (.iinc 2 1, 3) := by decide +kernel
theorem dX13_ticket_27 : decode cX13_ticket 27 = .ok (.goto (-25), 3) := by decide +kernel
theorem dX13_ticket_30 : decode cX13_ticket 30 = .ok (.iconst (-1), 1) := by decide +kernel
theorem dX13_ticket_31 : decode cX13_ticket 31 = .ok (.ireturn, 1) := by decide +kernel
theorem dX13_isRide_0 : decode cX13_isRide 0 = .ok (.iload_n 2, 1) := by decide +kernel
theorem dX13_isRide_1 : decode cX13_isRide 1 = .ok (.iconst 0, 1) := by decide +kernel
theorem dX13_isRide_2 : decode cX13_isRide 2 = .ok (.bipush 99, 2) := by decide +kernel
theorem dX13_isRide_4 : decode cX13_isRide 4 = .ok (.invokestatic 79, 3) := by decide +kernel
theorem dX13_isRide_7 : decode cX13_isRide 7 = .ok (.ifCond .eq 28, 3) := by decide +kernel
theorem dX13_isRide_10 : decode cX13_isRide 10 = .ok (.iload_n 3, 1) := by decide +kernel
theorem dX13_isRide_11 : decode cX13_isRide 11 = .ok (.ifCond .lt 24, 3) := by decide +kernel
theorem dX13_isRide_14 : decode cX13_isRide 14 = .ok (.iload 4, 2) := by decide +kernel
theorem dX13_isRide_16 : decode cX13_isRide 16 = .ok (.iload_n 3, 1) := by decide +kernel
theorem dX13_isRide_17 : decode cX13_isRide 17 = .ok (.if_icmp .le 18, 3) := by decide +kernel
theorem dX13_isRide_20 : decode cX13_isRide 20 = .ok (.iload 4, 2) := by decide +kernel
theorem dX13_isRide_22 : decode cX13_isRide 22 = .ok (.aload_n 0, 1) := by decide +kernel
theorem dX13_isRide_23 : decode cX13_isRide 23 = .ok (.iload_n 1, 1) := by decide +kernel
theorem dX13_isRide_24 : decode cX13_isRide 24 = .ok (.iconst 5, 1) := by decide +kernel
theorem dX13_isRide_25 : decode cX13_isRide 25 = .ok (.invokevirtual 128, 3) := by decide +kernel
theorem dX13_isRide_28 : decode cX13_isRide 28 = .ok (.if_icmp .gt 7, 3) := by decide +kernel
theorem dX13_isRide_31 : decode cX13_isRide 31 = .ok (.iconst 1, 1) := by decide +kernel
theorem dX13_isRide_32 : decode cX13_isRide 32 = .ok (.goto 4, 3) := by decide +kernel
theorem dX13_isRide_35 : decode cX13_isRide 35 = .ok (.iconst 0, 1) := by decide +kernel
theorem dX13_isRide_36 : decode cX13_isRide 36 = .ok (.ireturn, 1) := by decide +kernel
theorem dX13_soldOn_0 : decode cX13_soldOn 0 = .ok (.iconst 0, 1) := by decide +kernel
theorem dX13_soldOn_1 : decode cX13_soldOn 1 = .ok (.istore 4, 2) := by decide +kernel
theorem dX13_soldOn_3 : decode cX13_soldOn 3 = .ok (.iconst 0, 1) := by decide +kernel
theorem dX13_soldOn_4 : decode cX13_soldOn 4 = .ok (.istore 5, 2) := by decide +kernel
theorem dX13_soldOn_6 : decode cX13_soldOn 6 = .ok (.iload 5, 2) := by decide +kernel
theorem dX13_soldOn_8 : decode cX13_soldOn 8 = .ok (.aload_n 0, 1) := by decide +kernel
theorem dX13_soldOn_9 : decode cX13_soldOn 9 = .ok (.getfield 7, 3) := by decide +kernel
theorem dX13_soldOn_12 : decode cX13_soldOn 12 = .ok (.iconst 3, 1) := by decide +kernel
theorem dX13_soldOn_13 : decode cX13_soldOn 13 = .ok (.iaload, 1) := by decide +kernel
theorem dX13_soldOn_14 : decode cX13_soldOn 14 = .ok (.if_icmp .ge 63, 3) := by decide +kernel
theorem dX13_soldOn_17 : decode cX13_soldOn 17 = .ok (.iload 4, 2) := by decide +kernel
theorem dX13_soldOn_19 : decode cX13_soldOn 19 = .ok (.aload_n 0, 1) := by decide +kernel
theorem dX13_soldOn_20 : decode cX13_soldOn 20 = .ok (.iload 5, 2) := by decide +kernel
theorem dX13_soldOn_22 : decode cX13_soldOn 22 = .ok (.iconst 1, 1) := by decide +kernel
theorem dX13_soldOn_23 : decode cX13_soldOn 23 = .ok (.invokevirtual 147, 3) := by decide +kernel
theorem dX13_soldOn_26 : decode cX13_soldOn 26 = .ok (.iload_n 1, 1) := by decide +kernel
theorem dX13_soldOn_27 : decode cX13_soldOn 27 = .ok (.if_icmp .ne 40, 3) := by decide +kernel
theorem dX13_soldOn_30 : decode cX13_soldOn 30 = .ok (.aload_n 0, 1) := by decide +kernel
theorem dX13_soldOn_31 : decode cX13_soldOn 31 = .ok (.iload 5, 2) := by decide +kernel
theorem dX13_soldOn_33 : decode cX13_soldOn 33 = .ok (.iconst 2, 1) := by decide +kernel
theorem dX13_soldOn_34 : decode cX13_soldOn 34 = .ok (.invokevirtual 147, 3) := by decide +kernel
theorem dX13_soldOn_37 : decode cX13_soldOn 37 = .ok (.iload_n 2, 1) := by decide +kernel
theorem dX13_soldOn_38 : decode cX13_soldOn 38 = .ok (.if_icmp .ne 29, 3) := by decide +kernel
theorem dX13_soldOn_41 : decode cX13_soldOn 41 = .ok (.aload_n 0, 1) := by decide +kernel
theorem dX13_soldOn_42 : decode cX13_soldOn 42 = .ok (.iload 5, 2) := by decide +kernel
theorem dX13_soldOn_44 : decode cX13_soldOn 44 = .ok (.iconst 3, 1) := by decide +kernel
theorem dX13_soldOn_45 : decode cX13_soldOn 45 = .ok (.invokevirtual 147, 3) := by decide +kernel
theorem dX13_soldOn_48 : decode cX13_soldOn 48 = .ok (.iload_n 3, 1) := by decide +kernel
theorem dX13_soldOn_49 : decode cX13_soldOn 49 = .ok (.if_icmp .gt 18, 3) := by decide +kernel
theorem dX13_soldOn_52 : decode cX13_soldOn 52 = .ok (.aload_n 0, 1) := by decide +kernel
theorem dX13_soldOn_53 : decode cX13_soldOn 53 = .ok (.iload 5, 2) := by decide +kernel
theorem dX13_soldOn_55 : decode cX13_soldOn 55 = .ok (.iconst 4, 1) := by decide +kernel
theorem dX13_soldOn_56 : decode cX13_soldOn 56 = .ok (.invokevirtual 147, 3) := by decide +kernel
theorem dX13_soldOn_59 : decode cX13_soldOn 59 = .ok (.iload_n 3, 1) := by decide +kernel
theorem dX13_soldOn_60 : decode cX13_soldOn 60 = .ok (.if_icmp .le 7, 3) := by decide +kernel
theorem dX13_soldOn_63 : decode cX13_soldOn 63 = .ok (.iconst 1, 1) := by decide +kernel
theorem dX13_soldOn_64 : decode cX13_soldOn 64 = .ok (.goto 4, 3) := by decide +kernel
theorem dX13_soldOn_67 : decode cX13_soldOn 67 = .ok (.iconst 0, 1) := by decide +kernel
theorem dX13_soldOn_68 : decode cX13_soldOn 68 = .ok (.iadd, 1) := by decide +kernel
theorem dX13_soldOn_69 : decode cX13_soldOn 69 = .ok (.istore 4, 2) := by decide +kernel
theorem dX13_soldOn_71 : decode cX13_soldOn 71 = .ok (.iinc 5 1, 3) := by decide +kernel
theorem dX13_soldOn_74 : decode cX13_soldOn 74 = .ok (.goto (-68), 3) := by decide +kernel
theorem dX13_soldOn_77 : decode cX13_soldOn 77 = .ok (.iload 4, 2) := by decide +kernel
theorem dX13_soldOn_79 : decode cX13_soldOn 79 = .ok (.ireturn, 1) := by decide +kernel
theorem dX13_free_0 : decode cX13_free 0 = .ok (.iconst 0, 1) := by decide +kernel
theorem dX13_free_1 : decode cX13_free 1 = .ok (.istore 5, 2) := by decide +kernel
theorem dX13_free_3 : decode cX13_free 3 = .ok (.iload_n 3, 1) := by decide +kernel
theorem dX13_free_4 : decode cX13_free 4 = .ok (.istore 6, 2) := by decide +kernel
theorem dX13_free_6 : decode cX13_free 6 = .ok (.iload 6, 2) := by decide +kernel
theorem dX13_free_8 : decode cX13_free 8 = .ok (.iload 4, 2) := by decide +kernel
theorem dX13_free_10 : decode cX13_free 10 = .ok (.if_icmp .ge 37, 3) := by decide +kernel
theorem dX13_free_13 : decode cX13_free 13 = .ok (.aload_n 0, 1) := by decide +kernel
theorem dX13_free_14 : decode cX13_free 14 = .ok (.iload_n 1, 1) := by decide +kernel
theorem dX13_free_15 : decode cX13_free 15 = .ok (.iload_n 2, 1) := by decide +kernel
theorem dX13_free_16 : decode cX13_free 16 = .ok (.iload 6, 2) := by decide +kernel
theorem dX13_free_18 : decode cX13_free 18 = .ok (.invokevirtual 178, 3) := by decide +kernel
theorem dX13_free_21 : decode cX13_free 21 = .ok (.iload 5, 2) := by decide +kernel
theorem dX13_free_23 : decode cX13_free 23 = .ok (.if_icmp .le 14, 3) := by decide +kernel
theorem dX13_free_26 : decode cX13_free 26 = .ok (.aload_n 0, 1) := by decide +kernel
theorem dX13_free_27 : decode cX13_free 27 = .ok (.iload_n 1, 1) := by decide +kernel
theorem dX13_free_28 : decode cX13_free 28 = .ok (.iload_n 2, 1) := by decide +kernel
theorem dX13_free_29 : decode cX13_free 29 = .ok (.iload 6, 2) := by decide +kernel
theorem dX13_free_31 : decode cX13_free 31 = .ok (.invokevirtual 178, 3) := by decide +kernel
theorem dX13_free_34 : decode cX13_free 34 = .ok (.goto 5, 3) := by decide +kernel
theorem dX13_free_37 : decode cX13_free 37 = .ok (.iload 5, 2) := by decide +kernel
theorem dX13_free_39 : decode cX13_free 39 = .ok (.istore 5, 2) := by decide +kernel
theorem dX13_free_41 : decode cX13_free 41 = .ok (.iinc 6 1, 3) := by decide +kernel
theorem dX13_free_44 : decode cX13_free 44 = .ok (.goto (-38), 3) := by decide +kernel
theorem dX13_free_47 : decode cX13_free 47 = .ok (.aload_n 0, 1) := by decide +kernel
theorem dX13_free_48 : decode cX13_free 48 = .ok (.iload_n 1, 1) := by decide +kernel
theorem dX13_free_49 : decode cX13_free 49 = .ok (.iconst 4, 1) := by decide +kernel
theorem dX13_free_50 : decode cX13_free 50 = .ok (.invokevirtual 128, 3) := by decide +kernel
theorem dX13_free_53 : decode cX13_free 53 = .ok (.iload 5, 2) := by decide +kernel
theorem dX13_free_55 : decode cX13_free 55 = .ok (.isub, 1) := by decide +kernel
theorem dX13_free_56 : decode cX13_free 56 = .ok (.ireturn, 1) := by decide +kernel
theorem dX13_cannotSell_0 : decode cX13_cannotSell 0 = .ok (.aload_n 0, 1) := by decide +kernel
theorem dX13_cannotSell_1 : decode cX13_cannotSell 1 = .ok (.iload_n 1, 1) := by decide +kernel
theorem dX13_cannotSell_2 : decode cX13_cannotSell 2 = .ok (.invokevirtual 150, 3) := by decide +kernel
theorem dX13_cannotSell_5 : decode cX13_cannotSell 5 = .ok (.ifCond .ne 5, 3) := by decide +kernel
theorem dX13_cannotSell_8 : decode cX13_cannotSell 8 = .ok (.iconst 1, 1) := by decide +kernel
theorem dX13_cannotSell_9 : decode cX13_cannotSell 9 = .ok (.ireturn, 1) := by decide +kernel
theorem dX13_cannotSell_10 : decode cX13_cannotSell 10 = .ok (.aload_n 0, 1) := by decide +kernel
theorem dX13_cannotSell_11 : decode cX13_cannotSell 11 = .ok (.iload_n 1, 1) := by decide +kernel
theorem dX13_cannotSell_12 : decode cX13_cannotSell 12 = .ok (.iload_n 2, 1) := by decide +kernel
theorem dX13_cannotSell_13 : decode cX13_cannotSell 13 = .ok (.iload_n 3, 1) := by decide +kernel
theorem dX13_cannotSell_14 : decode cX13_cannotSell 14 = .ok (.iload 4, 2) := by decide +kernel
theorem dX13_cannotSell_16 : decode cX13_cannotSell 16 = .ok (.invokevirtual 181, 3) := by decide +kernel
theorem dX13_cannotSell_19 : decode cX13_cannotSell 19 = .ok (.ifCond .ne 5, 3) := by decide +kernel
theorem dX13_cannotSell_22 : decode cX13_cannotSell 22 = .ok (.iconst 2, 1) := by decide +kernel
theorem dX13_cannotSell_23 : decode cX13_cannotSell 23 = .ok (.ireturn, 1) := by decide +kernel
theorem dX13_cannotSell_24 : decode cX13_cannotSell 24 = .ok (.aload_n 0, 1) := by decide +kernel
theorem dX13_cannotSell_25 : decode cX13_cannotSell 25 = .ok (.iload_n 1, 1) := by decide +kernel
theorem dX13_cannotSell_26 : decode cX13_cannotSell 26 = .ok (.invokevirtual 185, 3) := by decide +kernel
theorem dX13_cannotSell_29 : decode cX13_cannotSell 29 = .ok (.ifCond .eq 14, 3) := by decide +kernel
theorem dX13_cannotSell_32 : decode cX13_cannotSell 32 = .ok (.aload_n 0, 1) := by decide +kernel
theorem dX13_cannotSell_33 : decode cX13_cannotSell 33 = .ok (.getfield 7, 3) := by decide +kernel
theorem dX13_cannotSell_36 : decode cX13_cannotSell 36 = .ok (.iconst 3, 1) := by decide +kernel
theorem dX13_cannotSell_37 : decode cX13_cannotSell 37 = .ok (.iaload, 1) := by decide +kernel
theorem dX13_cannotSell_38 : decode cX13_cannotSell 38 = .ok (.bipush 16, 2) := by decide +kernel
theorem dX13_cannotSell_40 : decode cX13_cannotSell 40 = .ok (.if_icmp .ne 5, 3) := by decide +kernel
theorem dX13_cannotSell_43 : decode cX13_cannotSell 43 = .ok (.iconst 3, 1) := by decide +kernel
theorem dX13_cannotSell_44 : decode cX13_cannotSell 44 = .ok (.ireturn, 1) := by decide +kernel
theorem dX13_cannotSell_45 : decode cX13_cannotSell 45 = .ok (.aload_n 0, 1) := by decide +kernel
theorem dX13_cannotSell_46 : decode cX13_cannotSell 46 = .ok (.iload_n 1, 1) := by decide +kernel
theorem dX13_cannotSell_47 : decode cX13_cannotSell 47 = .ok (.iload_n 2, 1) := by decide +kernel
theorem dX13_cannotSell_48 : decode cX13_cannotSell 48 = .ok (.iload_n 3, 1) := by decide +kernel
theorem dX13_cannotSell_49 : decode cX13_cannotSell 49 = .ok (.iload 4, 2) := by decide +kernel
theorem dX13_cannotSell_51 : decode cX13_cannotSell 51 = .ok (.invokevirtual 188, 3) := by decide +kernel
theorem dX13_cannotSell_54 : decode cX13_cannotSell 54 = .ok (.ifCond .ne 7, 3) := by decide +kernel
theorem dX13_cannotSell_57 : decode cX13_cannotSell 57 = .ok (.iconst 4, 1) := by decide +kernel
theorem dX13_cannotSell_58 : decode cX13_cannotSell 58 = .ok (.goto 4, 3) := by decide +kernel
theorem dX13_cannotSell_61 : decode cX13_cannotSell 61 = .ok (.iconst 0, 1) := by decide +kernel
theorem dX13_cannotSell_62 : decode cX13_cannotSell 62 = .ok (.ireturn, 1) := by decide +kernel
theorem dX13_sells_0 : decode cX13_sells 0 = .ok (.sipush 212, 3) := by decide +kernel
theorem dX13_sells_3 : decode cX13_sells 3 = .ok (.bipush 8, 2) := by decide +kernel
theorem dX13_sells_5 : decode cX13_sells 5 = .ok (.aload_n 0, 1) := by decide +kernel
theorem dX13_sells_6 : decode cX13_sells 6 = .ok (.getfield 7, 3) := by decide +kernel
theorem dX13_sells_9 : decode cX13_sells 9 = .ok (.iconst 3, 1) := by decide +kernel
theorem dX13_sells_10 : decode cX13_sells 10 = .ok (.iaload, 1) := by decide +kernel
theorem dX13_sells_11 : decode cX13_sells 11 = .ok (.imul, 1) := by decide +kernel
theorem dX13_sells_12 : decode cX13_sells 12 = .ok (.iadd, 1) := by decide +kernel
theorem dX13_sells_13 : decode cX13_sells 13 = .ok (.istore 5, 2) := by decide +kernel
theorem dX13_sells_15 : decode cX13_sells 15 = .ok (.iload 4, 2) := by decide +kernel
theorem dX13_sells_17 : decode cX13_sells 17 = .ok (.iload_n 3, 1) := by decide +kernel
theorem dX13_sells_18 : decode cX13_sells 18 = .ok (.isub, 1) := by decide +kernel
theorem dX13_sells_19 : decode cX13_sells 19 = .ok (.aload_n 0, 1) := by decide +kernel
theorem dX13_sells_20 : decode cX13_sells 20 = .ok (.getfield 7, 3) := by decide +kernel
theorem dX13_sells_23 : decode cX13_sells 23 = .ok (.bipush 6, 2) := by decide +kernel
theorem dX13_sells_25 : decode cX13_sells 25 = .ok (.iaload, 1) := by decide +kernel
theorem dX13_sells_26 : decode cX13_sells 26 = .ok (.iconst 1, 1) := by decide +kernel
theorem dX13_sells_27 : decode cX13_sells 27 = .ok (.if_icmp .ne 7, 3) := by decide +kernel
theorem dX13_sells_30 : decode cX13_sells 30 = .ok (.iconst 2, 1) := by decide +kernel
theorem dX13_sells_31 : decode cX13_sells 31 = .ok (.goto 4, 3) := by decide +kernel
theorem dX13_sells_34 : decode cX13_sells 34 = .ok (.iconst 3, 1) := by decide +kernel
theorem dX13_sells_35 : decode cX13_sells 35 = .ok (.imul, 1) := by decide +kernel
theorem dX13_sells_36 : decode cX13_sells 36 = .ok (.istore 6, 2) := by decide +kernel
theorem dX13_sells_38 : decode cX13_sells 38 = .ok (.aload_n 0, 1) := by decide +kernel
theorem dX13_sells_39 : decode cX13_sells 39 = .ok (.getfield 7, 3) := by decide +kernel
theorem dX13_sells_42 : decode cX13_sells 42 = .ok (.iload 5, 2) := by decide +kernel
theorem dX13_sells_44 : decode cX13_sells 44 = .ok (.iconst 0, 1) := by decide +kernel
theorem dX13_sells_45 : decode cX13_sells 45 = .ok (.iadd, 1) := by decide +kernel
theorem dX13_sells_46 : decode cX13_sells 46 = .ok (.aload_n 0, 1) := by decide +kernel
theorem dX13_sells_47 : decode cX13_sells 47 = .ok (.getfield 7, 3) := by decide +kernel
theorem dX13_sells_50 : decode cX13_sells 50 = .ok (.iconst 4, 1) := by decide +kernel
theorem dX13_sells_51 : decode cX13_sells 51 = .ok (.iaload, 1) := by decide +kernel
theorem dX13_sells_52 : decode cX13_sells 52 = .ok (.iastore, 1) := by decide +kernel
theorem dX13_sells_53 : decode cX13_sells 53 = .ok (.aload_n 0, 1) := by decide +kernel
theorem dX13_sells_54 : decode cX13_sells 54 = .ok (.getfield 7, 3) := by decide +kernel
theorem dX13_sells_57 : decode cX13_sells 57 = .ok (.iload 5, 2) := by decide +kernel
theorem dX13_sells_59 : decode cX13_sells 59 = .ok (.iconst 1, 1) := by decide +kernel
theorem dX13_sells_60 : decode cX13_sells 60 = .ok (.iadd, 1) := by decide +kernel
theorem dX13_sells_61 : decode cX13_sells 61 = .ok (.iload_n 1, 1) := by decide +kernel
theorem dX13_sells_62 : decode cX13_sells 62 = .ok (.iastore, 1) := by decide +kernel
theorem dX13_sells_63 : decode cX13_sells 63 = .ok (.aload_n 0, 1) := by decide +kernel
theorem dX13_sells_64 : decode cX13_sells 64 = .ok (.getfield 7, 3) := by decide +kernel
theorem dX13_sells_67 : decode cX13_sells 67 = .ok (.iload 5, 2) := by decide +kernel
theorem dX13_sells_69 : decode cX13_sells 69 = .ok (.iconst 2, 1) := by decide +kernel
theorem dX13_sells_70 : decode cX13_sells 70 = .ok (.iadd, 1) := by decide +kernel
theorem dX13_sells_71 : decode cX13_sells 71 = .ok (.iload_n 2, 1) := by decide +kernel
theorem dX13_sells_72 : decode cX13_sells 72 = .ok (.iastore, 1) := by decide +kernel
theorem dX13_sells_73 : decode cX13_sells 73 = .ok (.aload_n 0, 1) := by decide +kernel
theorem dX13_sells_74 : decode cX13_sells 74 = .ok (.getfield 7, 3) := by decide +kernel
theorem dX13_sells_77 : decode cX13_sells 77 = .ok (.iload 5, 2) := by decide +kernel
theorem dX13_sells_79 : decode cX13_sells 79 = .ok (.iconst 3, 1) := by decide +kernel
theorem dX13_sells_80 : decode cX13_sells 80 = .ok (.iadd, 1) := by decide +kernel
theorem dX13_sells_81 : decode cX13_sells 81 = .ok (.iload_n 3, 1) := by decide +kernel
theorem dX13_sells_82 : decode cX13_sells 82 = .ok (.iastore, 1) := by decide +kernel
theorem dX13_sells_83 : decode cX13_sells 83 = .ok (.aload_n 0, 1) := by decide +kernel
theorem dX13_sells_84 : decode cX13_sells 84 = .ok (.getfield 7, 3) := by decide +kernel
theorem dX13_sells_87 : decode cX13_sells 87 = .ok (.iload 5, 2) := by decide +kernel
theorem dX13_sells_89 : decode cX13_sells 89 = .ok (.iconst 4, 1) := by decide +kernel
theorem dX13_sells_90 : decode cX13_sells 90 = .ok (.iadd, 1) := by decide +kernel
theorem dX13_sells_91 : decode cX13_sells 91 = .ok (.iload 4, 2) := by decide +kernel
theorem dX13_sells_93 : decode cX13_sells 93 = .ok (.iastore, 1) := by decide +kernel
theorem dX13_sells_94 : decode cX13_sells 94 = .ok (.aload_n 0, 1) := by decide +kernel
theorem dX13_sells_95 : decode cX13_sells 95 = .ok (.getfield 7, 3) := by decide +kernel
theorem dX13_sells_98 : decode cX13_sells 98 = .ok (.iload 5, 2) := by decide +kernel
theorem dX13_sells_100 : decode cX13_sells 100 = .ok (.iconst 5, 1) := by decide +kernel
theorem dX13_sells_101 : decode cX13_sells 101 = .ok (.iadd, 1) := by decide +kernel
theorem dX13_sells_102 : decode cX13_sells 102 = .ok (.iload 6, 2) := by decide +kernel
theorem dX13_sells_104 : decode cX13_sells 104 = .ok (.iastore, 1) := by decide +kernel
theorem dX13_sells_105 : decode cX13_sells 105 = .ok (.aload_n 0, 1) := by decide +kernel
theorem dX13_sells_106 : decode cX13_sells 106 = .ok (.getfield 7, 3) := by decide +kernel
theorem dX13_sells_109 : decode cX13_sells 109 = .ok (.iconst 3, 1) := by decide +kernel
theorem dX13_sells_110 : decode cX13_sells 110 = .ok (.dup2, 1) := by decide +kernel
theorem dX13_sells_111 : decode cX13_sells 111 = .ok (.iaload, 1) := by decide +kernel
theorem dX13_sells_112 : decode cX13_sells 112 = .ok (.iconst 1, 1) := by decide +kernel
theorem dX13_sells_113 : decode cX13_sells 113 = .ok (.iadd, 1) := by decide +kernel
theorem dX13_sells_114 : decode cX13_sells 114 = .ok (.iastore, 1) := by decide +kernel
theorem dX13_sells_115 : decode cX13_sells 115 = .ok (.aload_n 0, 1) := by decide +kernel
theorem dX13_sells_116 : decode cX13_sells 116 = .ok (.getfield 7, 3) := by decide +kernel
theorem dX13_sells_119 : decode cX13_sells 119 = .ok (.iconst 4, 1) := by decide +kernel
theorem dX13_sells_120 : decode cX13_sells 120 = .ok (.dup2, 1) := by decide +kernel
theorem dX13_sells_121 : decode cX13_sells 121 = .ok (.iaload, 1) := by decide +kernel
theorem dX13_sells_122 : decode cX13_sells 122 = .ok (.iconst 1, 1) := by decide +kernel
theorem dX13_sells_123 : decode cX13_sells 123 = .ok (.iadd, 1) := by decide +kernel
theorem dX13_sells_124 : decode cX13_sells 124 = .ok (.iastore, 1) := by decide +kernel
theorem dX13_sells_125 : decode cX13_sells 125 = .ok (.aload_n 0, 1) := by decide +kernel
theorem dX13_sells_126 : decode cX13_sells 126 = .ok (.getfield 7, 3) := by decide +kernel
theorem dX13_sells_129 : decode cX13_sells 129 = .ok (.bipush 7, 2) := by decide +kernel
theorem dX13_sells_131 : decode cX13_sells 131 = .ok (.dup2, 1) := by decide +kernel
theorem dX13_sells_132 : decode cX13_sells 132 = .ok (.iaload, 1) := by decide +kernel
theorem dX13_sells_133 : decode cX13_sells 133 = .ok (.iload 6, 2) := by decide +kernel
theorem dX13_sells_135 : decode cX13_sells 135 = .ok (.iadd, 1) := by decide +kernel
theorem dX13_sells_136 : decode cX13_sells 136 = .ok (.iastore, 1) := by decide +kernel
theorem dX13_sells_137 : decode cX13_sells 137 = .ok (.aload_n 0, 1) := by decide +kernel
theorem dX13_sells_138 : decode cX13_sells 138 = .ok (.getfield 7, 3) := by decide +kernel
theorem dX13_sells_141 : decode cX13_sells 141 = .ok (.iconst 4, 1) := by decide +kernel
theorem dX13_sells_142 : decode cX13_sells 142 = .ok (.iaload, 1) := by decide +kernel
theorem dX13_sells_143 : decode cX13_sells 143 = .ok (.iconst 1, 1) := by decide +kernel
theorem dX13_sells_144 : decode cX13_sells 144 = .ok (.isub, 1) := by decide +kernel
theorem dX13_sells_145 : decode cX13_sells 145 = .ok (.ireturn, 1) := by decide +kernel
theorem dX13_sellTicket_0 : decode cX13_sellTicket 0 = .ok (.aload_n 0, 1) := by decide +kernel
theorem dX13_sellTicket_1 : decode cX13_sellTicket 1 = .ok (.invokevirtual 87, 3) := by decide +kernel
theorem dX13_sellTicket_4 : decode cX13_sellTicket 4 = .ok (.aload_n 0, 1) := by decide +kernel
theorem dX13_sellTicket_5 : decode cX13_sellTicket 5 = .ok (.iload_n 1, 1) := by decide +kernel
theorem dX13_sellTicket_6 : decode cX13_sellTicket 6 = .ok (.iload_n 2, 1) := by decide +kernel
theorem dX13_sellTicket_7 : decode cX13_sellTicket 7 = .ok (.iload_n 3, 1) := by decide +kernel
theorem dX13_sellTicket_8 : decode cX13_sellTicket 8 = .ok (.iload 4, 2) := by decide +kernel
theorem dX13_sellTicket_10 : decode cX13_sellTicket 10 = .ok (.invokevirtual 191, 3) := by decide +kernel
theorem dX13_sellTicket_13 : decode cX13_sellTicket 13 = .ok (.istore 5, 2) := by decide +kernel
theorem dX13_sellTicket_15 : decode cX13_sellTicket 15 = .ok (.iload 5, 2) := by decide +kernel
theorem dX13_sellTicket_17 : decode cX13_sellTicket 17 = .ok (.ifCond .le 12, 3) := by decide +kernel
theorem dX13_sellTicket_20 : decode cX13_sellTicket 20 = .ok (.aload_n 0, 1) := by decide +kernel
theorem dX13_sellTicket_21 : decode cX13_sellTicket 21 = .ok (.iload 5, 2) := by decide +kernel
theorem dX13_sellTicket_23 : decode cX13_sellTicket 23 = .ok (.invokevirtual 94, 3) := by decide +kernel
theorem dX13_sellTicket_26 : decode cX13_sellTicket 26 = .ok (.goto 16, 3) := by decide +kernel
theorem dX13_sellTicket_29 : decode cX13_sellTicket 29 = .ok (.aload_n 0, 1) := by decide +kernel
theorem dX13_sellTicket_30 : decode cX13_sellTicket 30 = .ok (.aload_n 0, 1) := by decide +kernel
theorem dX13_sellTicket_31 : decode cX13_sellTicket 31 = .ok (.iload_n 1, 1) := by decide +kernel
theorem dX13_sellTicket_32 : decode cX13_sellTicket 32 = .ok (.iload_n 2, 1) := by decide +kernel
theorem dX13_sellTicket_33 : decode cX13_sellTicket 33 = .ok (.iload_n 3, 1) := by decide +kernel
theorem dX13_sellTicket_34 : decode cX13_sellTicket 34 = .ok (.iload 4, 2) := by decide +kernel
theorem dX13_sellTicket_36 : decode cX13_sellTicket 36 = .ok (.invokevirtual 194, 3) := by decide +kernel
theorem dX13_sellTicket_39 : decode cX13_sellTicket 39 = .ok (.invokevirtual 100, 3) := by decide +kernel
theorem dX13_sellTicket_42 : decode cX13_sellTicket 42 = .ok (.ireturn, 1) := by decide +kernel
theorem dX13_removeTicket_0 : decode cX13_removeTicket 0 = .ok (.aload_n 0, 1) := by decide +kernel
theorem dX13_removeTicket_1 : decode cX13_removeTicket 1 = .ok (.getfield 7, 3) := by decide +kernel
theorem dX13_removeTicket_4 : decode cX13_removeTicket 4 = .ok (.iconst 3, 1) := by decide +kernel
theorem dX13_removeTicket_5 : decode cX13_removeTicket 5 = .ok (.dup2, 1) := by decide +kernel
theorem dX13_removeTicket_6 : decode cX13_removeTicket 6 = .ok (.iaload, 1) := by decide +kernel
theorem dX13_removeTicket_7 : decode cX13_removeTicket 7 = .ok (.iconst 1, 1) := by decide +kernel
theorem dX13_removeTicket_8 : decode cX13_removeTicket 8 = .ok (.isub, 1) := by decide +kernel
theorem dX13_removeTicket_9 : decode cX13_removeTicket 9 = .ok (.iastore, 1) := by decide +kernel
theorem dX13_removeTicket_10 : decode cX13_removeTicket 10 = .ok (.sipush 212, 3) := by decide +kernel
theorem dX13_removeTicket_13 : decode cX13_removeTicket 13 = .ok (.bipush 8, 2) := by decide +kernel
theorem dX13_removeTicket_15 : decode cX13_removeTicket 15 = .ok (.iload_n 1, 1) := by decide +kernel
theorem dX13_removeTicket_16 : decode cX13_removeTicket 16 = .ok (.imul, 1) := by decide +kernel
theorem dX13_removeTicket_17 : decode cX13_removeTicket 17 = .ok (.iadd, 1) := by decide +kernel
theorem dX13_removeTicket_18 : decode cX13_removeTicket 18 = .ok (.istore_n 2, 1) := by decide +kernel
theorem dX13_removeTicket_19 : decode cX13_removeTicket 19 = .ok (.iload_n 2, 1) := by decide +kernel
theorem dX13_removeTicket_20 : decode cX13_removeTicket 20 = .ok (.sipush 212, 3) := by decide +kernel
theorem dX13_removeTicket_23 : decode cX13_removeTicket 23 = .ok (.bipush 8, 2) := by decide +kernel
theorem dX13_removeTicket_25 : decode cX13_removeTicket 25 = .ok (.aload_n 0, 1) := by decide +kernel
theorem dX13_removeTicket_26 : decode cX13_removeTicket 26 = .ok (.getfield 7, 3) := by decide +kernel
theorem dX13_removeTicket_29 : decode cX13_removeTicket 29 = .ok (.iconst 3, 1) := by decide +kernel
theorem dX13_removeTicket_30 : decode cX13_removeTicket 30 = .ok (.iaload, 1) := by decide +kernel
theorem dX13_removeTicket_31 : decode cX13_removeTicket 31 = .ok (.imul, 1) := by decide +kernel
theorem dX13_removeTicket_32 : decode cX13_removeTicket 32 = .ok (.iadd, 1) := by decide +kernel
theorem dX13_removeTicket_33 : decode cX13_removeTicket 33 = .ok (.if_icmp .ge 24, 3) := by decide +kernel
theorem dX13_removeTicket_36 : decode cX13_removeTicket 36 = .ok (.aload_n 0, 1) := by decide +kernel
theorem dX13_removeTicket_37 : decode cX13_removeTicket 37 = .ok (.getfield 7, 3) := by decide +kernel
theorem dX13_removeTicket_40 : decode cX13_removeTicket 40 = .ok (.iload_n 2, 1) := by decide +kernel
theorem dX13_removeTicket_41 : decode cX13_removeTicket 41 = .ok (.aload_n 0, 1) := by decide +kernel
theorem dX13_removeTicket_42 : decode cX13_removeTicket 42 = .ok (.getfield 7, 3) := by decide +kernel
theorem dX13_removeTicket_45 : decode cX13_removeTicket 45 = .ok (.iload_n 2, 1) := by decide +kernel
theorem dX13_removeTicket_46 : decode cX13_removeTicket 46 = .ok (.bipush 8, 2) := by decide +kernel
theorem dX13_removeTicket_48 : decode cX13_removeTicket 48 = .ok (.iadd, 1) := by decide +kernel
theorem dX13_removeTicket_49 : decode cX13_removeTicket 49 = .ok (.iaload, 1) := by decide +kernel
theorem dX13_removeTicket_50 : decode cX13_removeTicket 50 = .ok (.iastore, 1) := by decide +kernel
theorem dX13_removeTicket_51 : decode cX13_removeTicket 51 = .ok (.iinc 2 1, 3) := by decide +kernel
theorem dX13_removeTicket_54 : decode cX13_removeTicket 54 = .ok (.goto (-35), 3) := by decide +kernel
theorem dX13_removeTicket_57 : decode cX13_removeTicket 57 = .ok (.iconst 0, 1) := by decide +kernel
theorem dX13_removeTicket_58 : decode cX13_removeTicket 58 = .ok (.istore_n 2, 1) := by decide +kernel
theorem dX13_removeTicket_59 : decode cX13_removeTicket 59 = .ok (.iload_n 2, 1) := by decide +kernel
theorem dX13_removeTicket_60 : decode cX13_removeTicket 60 = .ok (.bipush 8, 2) := by decide +kernel
theorem dX13_removeTicket_62 : decode cX13_removeTicket 62 = .ok (.if_icmp .ge 30, 3) := by decide +kernel
theorem dX13_removeTicket_65 : decode cX13_removeTicket 65 = .ok (.aload_n 0, 1) := by decide +kernel
theorem dX13_removeTicket_66 : decode cX13_removeTicket 66 = .ok (.getfield 7, 3) := by decide +kernel
theorem dX13_removeTicket_69 : decode cX13_removeTicket 69 = .ok (.sipush 212, 3) := by decide +kernel
theorem dX13_removeTicket_72 : decode cX13_removeTicket 72 = .ok (.bipush 8, 2) := by decide +kernel
theorem dX13_removeTicket_74 : decode cX13_removeTicket 74 = .ok (.aload_n 0, 1) := by decide +kernel
theorem dX13_removeTicket_75 : decode cX13_removeTicket 75 = .ok (.getfield 7, 3) := by decide +kernel
theorem dX13_removeTicket_78 : decode cX13_removeTicket 78 = .ok (.iconst 3, 1) := by decide +kernel
theorem dX13_removeTicket_79 : decode cX13_removeTicket 79 = .ok (.iaload, 1) := by decide +kernel
theorem dX13_removeTicket_80 : decode cX13_removeTicket 80 = .ok (.imul, 1) := by decide +kernel
theorem dX13_removeTicket_81 : decode cX13_removeTicket 81 = .ok (.iadd, 1) := by decide +kernel
theorem dX13_removeTicket_82 : decode cX13_removeTicket 82 = .ok (.iload_n 2, 1) := by decide +kernel
theorem dX13_removeTicket_83 : decode cX13_removeTicket 83 = .ok (.iadd, 1) := by decide +kernel
theorem dX13_removeTicket_84 : decode cX13_removeTicket 84 = .ok (.iconst 0, 1) := by decide +kernel
theorem dX13_removeTicket_85 : decode cX13_removeTicket 85 = .ok (.iastore, 1) := by decide +kernel
theorem dX13_removeTicket_86 : decode cX13_removeTicket 86 = .ok (.iinc 2 1, 3) := by decide +kernel
theorem dX13_removeTicket_89 : decode cX13_removeTicket 89 = .ok (.goto (-30), 3) := by decide +kernel
theorem dX13_removeTicket_92 : decode cX13_removeTicket 92 = .ok (.return_, 1) := by decide +kernel
theorem dX13_refunds_0 : decode cX13_refunds 0 = .ok (.aload_n 0, 1) := by decide +kernel
theorem dX13_refunds_1 : decode cX13_refunds 1 = .ok (.aload_n 0, 1) := by decide +kernel
theorem dX13_refunds_2 : decode cX13_refunds 2 = .ok (.iload_n 1, 1) := by decide +kernel
theorem dX13_refunds_3 : decode cX13_refunds 3 = .ok (.invokevirtual 197, 3) := by decide +kernel
theorem dX13_refunds_6 : decode cX13_refunds 6 = .ok (.iconst 5, 1) := by decide +kernel
theorem dX13_refunds_7 : decode cX13_refunds 7 = .ok (.invokevirtual 147, 3) := by decide +kernel
theorem dX13_refunds_10 : decode cX13_refunds 10 = .ok (.istore_n 2, 1) := by decide +kernel
theorem dX13_refunds_11 : decode cX13_refunds 11 = .ok (.aload_n 0, 1) := by decide +kernel
theorem dX13_refunds_12 : decode cX13_refunds 12 = .ok (.aload_n 0, 1) := by decide +kernel
theorem dX13_refunds_13 : decode cX13_refunds 13 = .ok (.iload_n 1, 1) := by decide +kernel
theorem dX13_refunds_14 : decode cX13_refunds 14 = .ok (.invokevirtual 197, 3) := by decide +kernel
theorem dX13_refunds_17 : decode cX13_refunds 17 = .ok (.invokevirtual 200, 3) := by decide +kernel
theorem dX13_refunds_20 : decode cX13_refunds 20 = .ok (.aload_n 0, 1) := by decide +kernel
theorem dX13_refunds_21 : decode cX13_refunds 21 = .ok (.getfield 7, 3) := by decide +kernel
theorem dX13_refunds_24 : decode cX13_refunds 24 = .ok (.bipush 7, 2) := by decide +kernel
theorem dX13_refunds_26 : decode cX13_refunds 26 = .ok (.dup2, 1) := by decide +kernel
theorem dX13_refunds_27 : decode cX13_refunds 27 = .ok (.iaload, 1) := by decide +kernel
theorem dX13_refunds_28 : decode cX13_refunds 28 = .ok (.iload_n 2, 1) := by decide +kernel
theorem dX13_refunds_29 : decode cX13_refunds 29 = .ok (.isub, 1) := by decide +kernel
theorem dX13_refunds_30 : decode cX13_refunds 30 = .ok (.iastore, 1) := by decide +kernel
theorem dX13_refunds_31 : decode cX13_refunds 31 = .ok (.aload_n 0, 1) := by decide +kernel
theorem dX13_refunds_32 : decode cX13_refunds 32 = .ok (.getfield 7, 3) := by decide +kernel
theorem dX13_refunds_35 : decode cX13_refunds 35 = .ok (.bipush 8, 2) := by decide +kernel
theorem dX13_refunds_37 : decode cX13_refunds 37 = .ok (.dup2, 1) := by decide +kernel
theorem dX13_refunds_38 : decode cX13_refunds 38 = .ok (.iaload, 1) := by decide +kernel
theorem dX13_refunds_39 : decode cX13_refunds 39 = .ok (.iload_n 2, 1) := by decide +kernel
theorem dX13_refunds_40 : decode cX13_refunds 40 = .ok (.iadd, 1) := by decide +kernel
theorem dX13_refunds_41 : decode cX13_refunds 41 = .ok (.iastore, 1) := by decide +kernel
theorem dX13_refunds_42 : decode cX13_refunds 42 = .ok (.iload_n 2, 1) := by decide +kernel
theorem dX13_refunds_43 : decode cX13_refunds 43 = .ok (.ireturn, 1) := by decide +kernel
theorem dX13_refund_0 : decode cX13_refund 0 = .ok (.aload_n 0, 1) := by decide +kernel
theorem dX13_refund_1 : decode cX13_refund 1 = .ok (.invokevirtual 87, 3) := by decide +kernel
theorem dX13_refund_4 : decode cX13_refund 4 = .ok (.aload_n 0, 1) := by decide +kernel
theorem dX13_refund_5 : decode cX13_refund 5 = .ok (.iload_n 1, 1) := by decide +kernel
theorem dX13_refund_6 : decode cX13_refund 6 = .ok (.invokevirtual 197, 3) := by decide +kernel
theorem dX13_refund_9 : decode cX13_refund 9 = .ok (.ifCond .ge 11, 3) := by decide +kernel
theorem dX13_refund_12 : decode cX13_refund 12 = .ok (.aload_n 0, 1) := by decide +kernel
theorem dX13_refund_13 : decode cX13_refund 13 = .ok (.iconst 1, 1) := by decide +kernel
theorem dX13_refund_14 : decode cX13_refund 14 = .ok (.invokevirtual 94, 3) := by decide +kernel
theorem dX13_refund_17 : decode cX13_refund 17 = .ok (.goto 12, 3) := by decide +kernel
theorem dX13_refund_20 : decode cX13_refund 20 = .ok (.aload_n 0, 1) := by decide +kernel
theorem dX13_refund_21 : decode cX13_refund 21 = .ok (.aload_n 0, 1) := by decide +kernel
theorem dX13_refund_22 : decode cX13_refund 22 = .ok (.iload_n 1, 1) := by decide +kernel
theorem dX13_refund_23 : decode cX13_refund 23 = .ok (.invokevirtual 204, 3) := by decide +kernel
theorem dX13_refund_26 : decode cX13_refund 26 = .ok (.invokevirtual 100, 3) := by decide +kernel
theorem dX13_refund_29 : decode cX13_refund 29 = .ok (.ireturn, 1) := by decide +kernel
theorem dX13_passes_0 : decode cX13_passes 0 = .ok (.aload_n 0, 1) := by decide +kernel
theorem dX13_passes_1 : decode cX13_passes 1 = .ok (.getfield 7, 3) := by decide +kernel
theorem dX13_passes_4 : decode cX13_passes 4 = .ok (.iconst 5, 1) := by decide +kernel
theorem dX13_passes_5 : decode cX13_passes 5 = .ok (.dup2, 1) := by decide +kernel
theorem dX13_passes_6 : decode cX13_passes 6 = .ok (.iaload, 1) := by decide +kernel
theorem dX13_passes_7 : decode cX13_passes 7 = .ok (.iconst 1, 1) := by decide +kernel
theorem dX13_passes_8 : decode cX13_passes 8 = .ok (.iadd, 1) := by decide +kernel
theorem dX13_passes_9 : decode cX13_passes 9 = .ok (.iastore, 1) := by decide +kernel
theorem dX13_passes_10 : decode cX13_passes 10 = .ok (.iconst 0, 1) := by decide +kernel
theorem dX13_passes_11 : decode cX13_passes 11 = .ok (.istore_n 1, 1) := by decide +kernel
theorem dX13_passes_12 : decode cX13_passes 12 = .ok (.iconst 0, 1) := by decide +kernel
theorem dX13_passes_13 : decode cX13_passes 13 = .ok (.istore_n 2, 1) := by decide +kernel
theorem dX13_passes_14 : decode cX13_passes 14 = .ok (.iload_n 2, 1) := by decide +kernel
theorem dX13_passes_15 : decode cX13_passes 15 = .ok (.aload_n 0, 1) := by decide +kernel
theorem dX13_passes_16 : decode cX13_passes 16 = .ok (.getfield 7, 3) := by decide +kernel
theorem dX13_passes_19 : decode cX13_passes 19 = .ok (.iconst 3, 1) := by decide +kernel
theorem dX13_passes_20 : decode cX13_passes 20 = .ok (.iaload, 1) := by decide +kernel
theorem dX13_passes_21 : decode cX13_passes 21 = .ok (.if_icmp .ge 51, 3) := by decide +kernel
theorem dX13_passes_24 : decode cX13_passes 24 = .ok (.aload_n 0, 1) := by decide +kernel
theorem dX13_passes_25 : decode cX13_passes 25 = .ok (.getfield 7, 3) := by decide +kernel
theorem dX13_passes_28 : decode cX13_passes 28 = .ok (.iconst 5, 1) := by decide +kernel
theorem dX13_passes_29 : decode cX13_passes 29 = .ok (.iaload, 1) := by decide +kernel
theorem dX13_passes_30 : decode cX13_passes 30 = .ok (.aload_n 0, 1) := by decide +kernel
theorem dX13_passes_31 : decode cX13_passes 31 = .ok (.aload_n 0, 1) := by decide +kernel
theorem dX13_passes_32 : decode cX13_passes 32 = .ok (.iload_n 2, 1) := by decide +kernel
theorem dX13_passes_33 : decode cX13_passes 33 = .ok (.iconst 1, 1) := by decide +kernel
theorem dX13_passes_34 : decode cX13_passes 34 = .ok (.invokevirtual 147, 3) := by decide +kernel
theorem dX13_passes_37 : decode cX13_passes 37 = .ok (.aload_n 0, 1) := by decide +kernel
theorem dX13_passes_38 : decode cX13_passes 38 = .ok (.iload_n 2, 1) := by decide +kernel
theorem dX13_passes_39 : decode cX13_passes 39 = .ok (.iconst 2, 1) := by decide +kernel
theorem dX13_passes_40 : decode cX13_passes 40 = .ok (.invokevirtual 147, 3) := by decide +kernel
theorem dX13_passes_43 : decode cX13_passes 43 = .ok (.aload_n 0, 1) := by decide +kernel
theorem dX13_passes_44 : decode cX13_passes 44 = .ok (.iload_n 2, 1) := by decide +kernel
theorem dX13_passes_45 : decode cX13_passes 45 = .ok (.iconst 4, 1) := by decide +kernel
theorem dX13_passes_46 : decode cX13_passes 46 = .ok (.invokevirtual 147, 3) := by decide +kernel
theorem dX13_passes_49 : decode cX13_passes 49 = .ok (.invokevirtual 134, 3) := by decide +kernel
theorem dX13_passes_52 : decode cX13_passes 52 = .ok (.if_icmp .ge 9, 3) := by decide +kernel
theorem dX13_passes_55 : decode cX13_passes 55 = .ok (.iinc 2 1, 3) := by decide +kernel
theorem dX13_passes_58 : decode cX13_passes 58 = .ok (.goto (-44), 3) := by decide +kernel
theorem dX13_passes_61 : decode cX13_passes 61 = .ok (.aload_n 0, 1) := by decide +kernel
theorem dX13_passes_62 : decode cX13_passes 62 = .ok (.iload_n 2, 1) := by decide +kernel
theorem dX13_passes_63 : decode cX13_passes 63 = .ok (.invokevirtual 200, 3) := by decide +kernel
theorem dX13_passes_66 : decode cX13_passes 66 = .ok (.iinc 1 1, 3) := by decide +kernel
theorem dX13_passes_69 : decode cX13_passes 69 = .ok (.goto (-55), 3) := by decide +kernel
theorem dX13_passes_72 : decode cX13_passes 72 = .ok (.aload_n 0, 1) := by decide +kernel
theorem dX13_passes_73 : decode cX13_passes 73 = .ok (.getfield 7, 3) := by decide +kernel
theorem dX13_passes_76 : decode cX13_passes 76 = .ok (.bipush 9, 2) := by decide +kernel
theorem dX13_passes_78 : decode cX13_passes 78 = .ok (.dup2, 1) := by decide +kernel
theorem dX13_passes_79 : decode cX13_passes 79 = .ok (.iaload, 1) := by decide +kernel
theorem dX13_passes_80 : decode cX13_passes 80 = .ok (.iload_n 1, 1) := by decide +kernel
theorem dX13_passes_81 : decode cX13_passes 81 = .ok (.iadd, 1) := by decide +kernel
theorem dX13_passes_82 : decode cX13_passes 82 = .ok (.iastore, 1) := by decide +kernel
theorem dX13_passes_83 : decode cX13_passes 83 = .ok (.iload_n 1, 1) := by decide +kernel
theorem dX13_passes_84 : decode cX13_passes 84 = .ok (.ireturn, 1) := by decide +kernel
theorem dX13_advances_0 : decode cX13_advances 0 = .ok (.iconst 0, 1) := by decide +kernel
theorem dX13_advances_1 : decode cX13_advances 1 = .ok (.istore_n 2, 1) := by decide +kernel
theorem dX13_advances_2 : decode cX13_advances 2 = .ok (.iconst 0, 1) := by decide +kernel
theorem dX13_advances_3 : decode cX13_advances 3 = .ok (.istore_n 3, 1) := by decide +kernel
theorem dX13_advances_4 : decode cX13_advances 4 = .ok (.iload_n 3, 1) := by decide +kernel
theorem dX13_advances_5 : decode cX13_advances 5 = .ok (.iload_n 1, 1) := by decide +kernel
theorem dX13_advances_6 : decode cX13_advances 6 = .ok (.if_icmp .ge 16, 3) := by decide +kernel
theorem dX13_advances_9 : decode cX13_advances 9 = .ok (.iload_n 2, 1) := by decide +kernel
theorem dX13_advances_10 : decode cX13_advances 10 = .ok (.aload_n 0, 1) := by decide +kernel
theorem dX13_advances_11 : decode cX13_advances 11 = .ok (.invokevirtual 207, 3) := by decide +kernel
theorem dX13_advances_14 : decode cX13_advances 14 = .ok (.iadd, 1) := by decide +kernel
theorem dX13_advances_15 : decode cX13_advances 15 = .ok (.istore_n 2, 1) := by decide +kernel
theorem dX13_advances_16 : decode cX13_advances 16 = .ok (.iinc 3 1, 3) := by decide +kernel
theorem dX13_advances_19 : decode cX13_advances 19 = .ok (.goto (-15), 3) := by decide +kernel
theorem dX13_advances_22 : decode cX13_advances 22 = .ok (.iload_n 2, 1) := by decide +kernel
theorem dX13_advances_23 : decode cX13_advances 23 = .ok (.ireturn, 1) := by decide +kernel
theorem dX13_advance_0 : decode cX13_advance 0 = .ok (.aload_n 0, 1) := by decide +kernel
theorem dX13_advance_1 : decode cX13_advance 1 = .ok (.invokevirtual 87, 3) := by decide +kernel
theorem dX13_advance_4 : decode cX13_advance 4 = .ok (.iload_n 1, 1) := by decide +kernel
theorem dX13_advance_5 : decode cX13_advance 5 = .ok (.iconst 1, 1) := by decide +kernel
theorem dX13_advance_6 : decode cX13_advance 6 = .ok (.bipush 120, 2) := by decide +kernel
theorem dX13_advance_8 : decode cX13_advance 8 = .ok (.invokestatic 79, 3) := by decide +kernel
theorem dX13_advance_11 : decode cX13_advance 11 = .ok (.ifCond .eq 15, 3) := by decide +kernel
theorem dX13_advance_14 : decode cX13_advance 14 = .ok (.aload_n 0, 1) := by decide +kernel
theorem dX13_advance_15 : decode cX13_advance 15 = .ok (.aload_n 0, 1) := by decide +kernel
theorem dX13_advance_16 : decode cX13_advance 16 = .ok (.iload_n 1, 1) := by decide +kernel
theorem dX13_advance_17 : decode cX13_advance 17 = .ok (.invokevirtual 211, 3) := by decide +kernel
theorem dX13_advance_20 : decode cX13_advance 20 = .ok (.invokevirtual 100, 3) := by decide +kernel
theorem dX13_advance_23 : decode cX13_advance 23 = .ok (.goto 8, 3) := by decide +kernel
theorem dX13_advance_26 : decode cX13_advance 26 = .ok (.aload_n 0, 1) := by decide +kernel
theorem dX13_advance_27 : decode cX13_advance 27 = .ok (.iconst 1, 1) := by decide +kernel
theorem dX13_advance_28 : decode cX13_advance 28 = .ok (.invokevirtual 94, 3) := by decide +kernel
theorem dX13_advance_31 : decode cX13_advance 31 = .ok (.ireturn, 1) := by decide +kernel
theorem dX13_plain_0 : decode cX13_plain 0 = .ok (.aload_n 0, 1) := by decide +kernel
theorem dX13_plain_1 : decode cX13_plain 1 = .ok (.iconst 0, 1) := by decide +kernel
theorem dX13_plain_2 : decode cX13_plain 2 = .ok (.putfield 28, 3) := by decide +kernel
theorem dX13_plain_5 : decode cX13_plain 5 = .ok (.iload_n 1, 1) := by decide +kernel
theorem dX13_plain_6 : decode cX13_plain 6 = .ok (.ireturn, 1) := by decide +kernel
theorem dX13_checked_0 : decode cX13_checked 0 = .ok (.aload_n 0, 1) := by decide +kernel
theorem dX13_checked_1 : decode cX13_checked 1 = .ok (.iload_n 1, 1) := by decide +kernel
theorem dX13_checked_2 : decode cX13_checked 2 = .ok (.ifCond .eq 7, 3) := by decide +kernel
theorem dX13_checked_5 : decode cX13_checked 5 = .ok (.iconst 0, 1) := by decide +kernel
theorem dX13_checked_6 : decode cX13_checked 6 = .ok (.goto 4, 3) := by decide +kernel
theorem dX13_checked_9 : decode cX13_checked 9 = .ok (.iconst 1, 1) := by decide +kernel
theorem dX13_checked_10 : decode cX13_checked 10 = .ok (.putfield 28, 3) := by decide +kernel
theorem dX13_checked_13 : decode cX13_checked 13 = .ok (.aload_n 0, 1) := by decide +kernel
theorem dX13_checked_14 : decode cX13_checked 14 = .ok (.getfield 28, 3) := by decide +kernel
theorem dX13_checked_17 : decode cX13_checked 17 = .ok (.ireturn, 1) := by decide +kernel
theorem dX13_minute_0 : decode cX13_minute 0 = .ok (.aload_n 0, 1) := by decide +kernel
theorem dX13_minute_1 : decode cX13_minute 1 = .ok (.aload_n 0, 1) := by decide +kernel
theorem dX13_minute_2 : decode cX13_minute 2 = .ok (.getfield 7, 3) := by decide +kernel
theorem dX13_minute_5 : decode cX13_minute 5 = .ok (.iconst 5, 1) := by decide +kernel
theorem dX13_minute_6 : decode cX13_minute 6 = .ok (.iaload, 1) := by decide +kernel
theorem dX13_minute_7 : decode cX13_minute 7 = .ok (.invokevirtual 214, 3) := by decide +kernel
theorem dX13_minute_10 : decode cX13_minute 10 = .ok (.ireturn, 1) := by decide +kernel
theorem dX13_isRaining_0 : decode cX13_isRaining 0 = .ok (.aload_n 0, 1) := by decide +kernel
theorem dX13_isRaining_1 : decode cX13_isRaining 1 = .ok (.aload_n 0, 1) := by decide +kernel
theorem dX13_isRaining_2 : decode cX13_isRaining 2 = .ok (.getfield 7, 3) := by decide +kernel
theorem dX13_isRaining_5 : decode cX13_isRaining 5 = .ok (.bipush 6, 2) := by decide +kernel
theorem dX13_isRaining_7 : decode cX13_isRaining 7 = .ok (.iaload, 1) := by decide +kernel
theorem dX13_isRaining_8 : decode cX13_isRaining 8 = .ok (.invokevirtual 214, 3) := by decide +kernel
theorem dX13_isRaining_11 : decode cX13_isRaining 11 = .ok (.iconst 1, 1) := by decide +kernel
theorem dX13_isRaining_12 : decode cX13_isRaining 12 = .ok (.if_icmp .ne 7, 3) := by decide +kernel
theorem dX13_isRaining_15 : decode cX13_isRaining 15 = .ok (.iconst 1, 1) := by decide +kernel
theorem dX13_isRaining_16 : decode cX13_isRaining 16 = .ok (.goto 4, 3) := by decide +kernel
theorem dX13_isRaining_19 : decode cX13_isRaining 19 = .ok (.iconst 0, 1) := by decide +kernel
theorem dX13_isRaining_20 : decode cX13_isRaining 20 = .ok (.ireturn, 1) := by decide +kernel
theorem dX13_stopCount_0 : decode cX13_stopCount 0 = .ok (.aload_n 0, 1) := by decide +kernel
theorem dX13_stopCount_1 : decode cX13_stopCount 1 = .ok (.aload_n 0, 1) := by decide +kernel
theorem dX13_stopCount_2 : decode cX13_stopCount 2 = .ok (.getfield 7, 3) := by decide +kernel
theorem dX13_stopCount_5 : decode cX13_stopCount 5 = .ok (.iconst 0, 1) := by decide +kernel
theorem dX13_stopCount_6 : decode cX13_stopCount 6 = .ok (.iaload, 1) := by decide +kernel
theorem dX13_stopCount_7 : decode cX13_stopCount 7 = .ok (.invokevirtual 214, 3) := by decide +kernel
theorem dX13_stopCount_10 : decode cX13_stopCount 10 = .ok (.ireturn, 1) := by decide +kernel
theorem dX13_transferMinutes_0 : decode cX13_transferMinutes 0 = .ok (.aload_n 0, 1) := by decide +kernel
theorem dX13_transferMinutes_1 : decode cX13_transferMinutes 1 = .ok (.aload_n 0, 1) := by decide +kernel
theorem dX13_transferMinutes_2 : decode cX13_transferMinutes 2 = .ok (.iload_n 1, 1) := by decide +kernel
theorem dX13_transferMinutes_3 : decode cX13_transferMinutes 3 = .ok (.invokevirtual 83, 3) := by decide +kernel
theorem dX13_transferMinutes_6 : decode cX13_transferMinutes 6 = .ok (.invokevirtual 217, 3) := by decide +kernel
theorem dX13_transferMinutes_9 : decode cX13_transferMinutes 9 = .ok (.ifCond .le 7, 3) := by decide +kernel
theorem dX13_transferMinutes_12 : decode cX13_transferMinutes 12 = .ok (.iconst 0, 1) := by decide +kernel
theorem dX13_transferMinutes_13 : decode cX13_transferMinutes 13 = .ok (.goto 8, 3) := by decide +kernel
theorem dX13_transferMinutes_16 : decode cX13_transferMinutes 16 = .ok (.aload_n 0, 1) := by decide +kernel
theorem dX13_transferMinutes_17 : decode cX13_transferMinutes 17 = .ok (.iload_n 1, 1) := by decide +kernel
theorem dX13_transferMinutes_18 : decode cX13_transferMinutes 18 = .ok (.invokevirtual 221, 3) := by decide +kernel
theorem dX13_transferMinutes_21 : decode cX13_transferMinutes 21 = .ok (.ireturn, 1) := by decide +kernel
theorem dX13_isClosed_0 : decode cX13_isClosed 0 = .ok (.aload_n 0, 1) := by decide +kernel
theorem dX13_isClosed_1 : decode cX13_isClosed 1 = .ok (.aload_n 0, 1) := by decide +kernel
theorem dX13_isClosed_2 : decode cX13_isClosed 2 = .ok (.iload_n 1, 1) := by decide +kernel
theorem dX13_isClosed_3 : decode cX13_isClosed 3 = .ok (.invokevirtual 83, 3) := by decide +kernel
theorem dX13_isClosed_6 : decode cX13_isClosed 6 = .ok (.invokevirtual 217, 3) := by decide +kernel
theorem dX13_isClosed_9 : decode cX13_isClosed 9 = .ok (.ifCond .ne 15, 3) := by decide +kernel
theorem dX13_isClosed_12 : decode cX13_isClosed 12 = .ok (.aload_n 0, 1) := by decide +kernel
theorem dX13_isClosed_13 : decode cX13_isClosed 13 = .ok (.iload_n 1, 1) := by decide +kernel
theorem dX13_isClosed_14 : decode cX13_isClosed 14 = .ok (.invokevirtual 224, 3) := by decide +kernel
theorem dX13_isClosed_17 : decode cX13_isClosed 17 = .ok (.ifCond .ne 7, 3) := by decide +kernel
theorem dX13_isClosed_20 : decode cX13_isClosed 20 = .ok (.iconst 1, 1) := by decide +kernel
theorem dX13_isClosed_21 : decode cX13_isClosed 21 = .ok (.goto 4, 3) := by decide +kernel
theorem dX13_isClosed_24 : decode cX13_isClosed 24 = .ok (.iconst 0, 1) := by decide +kernel
theorem dX13_isClosed_25 : decode cX13_isClosed 25 = .ok (.ireturn, 1) := by decide +kernel
theorem dX13_walkMinutes_0 : decode cX13_walkMinutes 0 = .ok (.aload_n 0, 1) := by decide +kernel
theorem dX13_walkMinutes_1 : decode cX13_walkMinutes 1 = .ok (.aload_n 0, 1) := by decide +kernel
theorem dX13_walkMinutes_2 : decode cX13_walkMinutes 2 = .ok (.iload_n 1, 1) := by decide +kernel
theorem dX13_walkMinutes_3 : decode cX13_walkMinutes 3 = .ok (.iload_n 2, 1) := by decide +kernel
theorem dX13_walkMinutes_4 : decode cX13_walkMinutes 4 = .ok (.invokevirtual 122, 3) := by decide +kernel
theorem dX13_walkMinutes_7 : decode cX13_walkMinutes 7 = .ok (.putfield 28, 3) := by decide +kernel
theorem dX13_walkMinutes_10 : decode cX13_walkMinutes 10 = .ok (.aload_n 0, 1) := by decide +kernel
theorem dX13_walkMinutes_11 : decode cX13_walkMinutes 11 = .ok (.getfield 28, 3) := by decide +kernel
theorem dX13_walkMinutes_14 : decode cX13_walkMinutes 14 = .ok (.ifCond .le 7, 3) := by decide +kernel
theorem dX13_walkMinutes_17 : decode cX13_walkMinutes 17 = .ok (.iconst 0, 1) := by decide +kernel
theorem dX13_walkMinutes_18 : decode cX13_walkMinutes 18 = .ok (.goto 9, 3) := by decide +kernel
theorem dX13_walkMinutes_21 : decode cX13_walkMinutes 21 = .ok (.aload_n 0, 1) := by decide +kernel
theorem dX13_walkMinutes_22 : decode cX13_walkMinutes 22 = .ok (.iload_n 1, 1) := by decide +kernel
theorem dX13_walkMinutes_23 : decode cX13_walkMinutes 23 = .ok (.iload_n 2, 1) := by decide +kernel
theorem dX13_walkMinutes_24 : decode cX13_walkMinutes 24 = .ok (.invokevirtual 107, 3) := by decide +kernel
theorem dX13_walkMinutes_27 : decode cX13_walkMinutes 27 = .ok (.ireturn, 1) := by decide +kernel
theorem dX13_lineCount_0 : decode cX13_lineCount 0 = .ok (.aload_n 0, 1) := by decide +kernel
theorem dX13_lineCount_1 : decode cX13_lineCount 1 = .ok (.aload_n 0, 1) := by decide +kernel
theorem dX13_lineCount_2 : decode cX13_lineCount 2 = .ok (.getfield 7, 3) := by decide +kernel
theorem dX13_lineCount_5 : decode cX13_lineCount 5 = .ok (.iconst 2, 1) := by decide +kernel
theorem dX13_lineCount_6 : decode cX13_lineCount 6 = .ok (.iaload, 1) := by decide +kernel
theorem dX13_lineCount_7 : decode cX13_lineCount 7 = .ok (.invokevirtual 214, 3) := by decide +kernel
theorem dX13_lineCount_10 : decode cX13_lineCount 10 = .ok (.ireturn, 1) := by decide +kernel
theorem dX13_ringSize_0 : decode cX13_ringSize 0 = .ok (.aload_n 0, 1) := by decide +kernel
theorem dX13_ringSize_1 : decode cX13_ringSize 1 = .ok (.aload_n 0, 1) := by decide +kernel
theorem dX13_ringSize_2 : decode cX13_ringSize 2 = .ok (.iload_n 1, 1) := by decide +kernel
theorem dX13_ringSize_3 : decode cX13_ringSize 3 = .ok (.invokevirtual 150, 3) := by decide +kernel
theorem dX13_ringSize_6 : decode cX13_ringSize 6 = .ok (.invokevirtual 217, 3) := by decide +kernel
theorem dX13_ringSize_9 : decode cX13_ringSize 9 = .ok (.ifCond .le 7, 3) := by decide +kernel
theorem dX13_ringSize_12 : decode cX13_ringSize 12 = .ok (.iconst 0, 1) := by decide +kernel
theorem dX13_ringSize_13 : decode cX13_ringSize 13 = .ok (.goto 9, 3) := by decide +kernel
theorem dX13_ringSize_16 : decode cX13_ringSize 16 = .ok (.aload_n 0, 1) := by decide +kernel
theorem dX13_ringSize_17 : decode cX13_ringSize 17 = .ok (.iload_n 1, 1) := by decide +kernel
theorem dX13_ringSize_18 : decode cX13_ringSize 18 = .ok (.iconst 5, 1) := by decide +kernel
theorem dX13_ringSize_19 : decode cX13_ringSize 19 = .ok (.invokevirtual 128, 3) := by decide +kernel
theorem dX13_ringSize_22 : decode cX13_ringSize 22 = .ok (.ireturn, 1) := by decide +kernel
theorem dX13_stopAt_0 : decode cX13_stopAt 0 = .ok (.aload_n 0, 1) := by decide +kernel
theorem dX13_stopAt_1 : decode cX13_stopAt 1 = .ok (.aload_n 0, 1) := by decide +kernel
theorem dX13_stopAt_2 : decode cX13_stopAt 2 = .ok (.iload_n 1, 1) := by decide +kernel
theorem dX13_stopAt_3 : decode cX13_stopAt 3 = .ok (.invokevirtual 150, 3) := by decide +kernel
theorem dX13_stopAt_6 : decode cX13_stopAt 6 = .ok (.ifCond .ne 7, 3) := by decide +kernel
theorem dX13_stopAt_9 : decode cX13_stopAt 9 = .ok (.iconst 1, 1) := by decide +kernel
theorem dX13_stopAt_10 : decode cX13_stopAt 10 = .ok (.goto 31, 3) := by decide +kernel
theorem dX13_stopAt_13 : decode cX13_stopAt 13 = .ok (.aload_n 0, 1) := by decide +kernel
theorem dX13_stopAt_14 : decode cX13_stopAt 14 = .ok (.iload_n 1, 1) := by decide +kernel
theorem dX13_stopAt_15 : decode cX13_stopAt 15 = .ok (.iconst 5, 1) := by decide +kernel
theorem dX13_stopAt_16 : decode cX13_stopAt 16 = .ok (.invokevirtual 128, 3) := by decide +kernel
theorem dX13_stopAt_19 : decode cX13_stopAt 19 = .ok (.ifCond .eq 17, 3) := by decide +kernel
theorem dX13_stopAt_22 : decode cX13_stopAt 22 = .ok (.iload_n 2, 1) := by decide +kernel
theorem dX13_stopAt_23 : decode cX13_stopAt 23 = .ok (.iconst 0, 1) := by decide +kernel
theorem dX13_stopAt_24 : decode cX13_stopAt 24 = .ok (.aload_n 0, 1) := by decide +kernel
theorem dX13_stopAt_25 : decode cX13_stopAt 25 = .ok (.iload_n 1, 1) := by decide +kernel
theorem dX13_stopAt_26 : decode cX13_stopAt 26 = .ok (.iconst 5, 1) := by decide +kernel
theorem dX13_stopAt_27 : decode cX13_stopAt 27 = .ok (.invokevirtual 128, 3) := by decide +kernel
theorem dX13_stopAt_30 : decode cX13_stopAt 30 = .ok (.invokestatic 79, 3) := by decide +kernel
theorem dX13_stopAt_33 : decode cX13_stopAt 33 = .ok (.ifCond .ne 7, 3) := by decide +kernel
theorem dX13_stopAt_36 : decode cX13_stopAt 36 = .ok (.iconst 2, 1) := by decide +kernel
theorem dX13_stopAt_37 : decode cX13_stopAt 37 = .ok (.goto 4, 3) := by decide +kernel
theorem dX13_stopAt_40 : decode cX13_stopAt 40 = .ok (.iconst 0, 1) := by decide +kernel
theorem dX13_stopAt_41 : decode cX13_stopAt 41 = .ok (.putfield 28, 3) := by decide +kernel
theorem dX13_stopAt_44 : decode cX13_stopAt 44 = .ok (.aload_n 0, 1) := by decide +kernel
theorem dX13_stopAt_45 : decode cX13_stopAt 45 = .ok (.getfield 28, 3) := by decide +kernel
theorem dX13_stopAt_48 : decode cX13_stopAt 48 = .ok (.ifCond .le 7, 3) := by decide +kernel
theorem dX13_stopAt_51 : decode cX13_stopAt 51 = .ok (.iconst 0, 1) := by decide +kernel
theorem dX13_stopAt_52 : decode cX13_stopAt 52 = .ok (.goto 9, 3) := by decide +kernel
theorem dX13_stopAt_55 : decode cX13_stopAt 55 = .ok (.aload_n 0, 1) := by decide +kernel
theorem dX13_stopAt_56 : decode cX13_stopAt 56 = .ok (.iload_n 1, 1) := by decide +kernel
theorem dX13_stopAt_57 : decode cX13_stopAt 57 = .ok (.iload_n 2, 1) := by decide +kernel
theorem dX13_stopAt_58 : decode cX13_stopAt 58 = .ok (.invokevirtual 227, 3) := by decide +kernel
theorem dX13_stopAt_61 : decode cX13_stopAt 61 = .ok (.ireturn, 1) := by decide +kernel
theorem dX13_positionOf_0 : decode cX13_positionOf 0 = .ok (.aload_n 0, 1) := by decide +kernel
theorem dX13_positionOf_1 : decode cX13_positionOf 1 = .ok (.aload_n 0, 1) := by decide +kernel
theorem dX13_positionOf_2 : decode cX13_positionOf 2 = .ok (.iload_n 1, 1) := by decide +kernel
theorem dX13_positionOf_3 : decode cX13_positionOf 3 = .ok (.invokevirtual 150, 3) := by decide +kernel
theorem dX13_positionOf_6 : decode cX13_positionOf 6 = .ok (.ifCond .eq 11, 3) := by decide +kernel
theorem dX13_positionOf_9 : decode cX13_positionOf 9 = .ok (.aload_n 0, 1) := by decide +kernel
theorem dX13_positionOf_10 : decode cX13_positionOf 10 = .ok (.iload_n 2, 1) := by decide +kernel
theorem dX13_positionOf_11 : decode cX13_positionOf 11 = .ok (.invokevirtual 83, 3) := by decide +kernel
theorem dX13_positionOf_14 : decode cX13_positionOf 14 = .ok (.ifCond .ne 7, 3) := by decide +kernel
theorem dX13_positionOf_17 : decode cX13_positionOf 17 = .ok (.iconst 1, 1) := by decide +kernel
theorem dX13_positionOf_18 : decode cX13_positionOf 18 = .ok (.goto 17, 3) := by decide +kernel
theorem dX13_positionOf_21 : decode cX13_positionOf 21 = .ok (.aload_n 0, 1) := by decide +kernel
theorem dX13_positionOf_22 : decode cX13_positionOf 22 = .ok (.iload_n 1, 1) := by decide +kernel
theorem dX13_positionOf_23 : decode cX13_positionOf 23 = .ok (.iload_n 2, 1) := by decide +kernel
theorem dX13_positionOf_24 : decode cX13_positionOf 24 = .ok (.invokevirtual 156, 3) := by decide +kernel
theorem dX13_positionOf_27 : decode cX13_positionOf 27 = .ok (.ifCond .ge 7, 3) := by decide +kernel
theorem dX13_positionOf_30 : decode cX13_positionOf 30 = .ok (.iconst 2, 1) := by decide +kernel
theorem dX13_positionOf_31 : decode cX13_positionOf 31 = .ok (.goto 4, 3) := by decide +kernel
theorem dX13_positionOf_34 : decode cX13_positionOf 34 = .ok (.iconst 0, 1) := by decide +kernel
theorem dX13_positionOf_35 : decode cX13_positionOf 35 = .ok (.putfield 28, 3) := by decide +kernel
theorem dX13_positionOf_38 : decode cX13_positionOf 38 = .ok (.aload_n 0, 1) := by decide +kernel
theorem dX13_positionOf_39 : decode cX13_positionOf 39 = .ok (.getfield 28, 3) := by decide +kernel
theorem dX13_positionOf_42 : decode cX13_positionOf 42 = .ok (.ifCond .le 7, 3) := by decide +kernel
theorem dX13_positionOf_45 : decode cX13_positionOf 45 = .ok (.iconst 0, 1) := by decide +kernel
theorem dX13_positionOf_46 : decode cX13_positionOf 46 = .ok (.goto 9, 3) := by decide +kernel
theorem dX13_positionOf_49 : decode cX13_positionOf 49 = .ok (.aload_n 0, 1) := by decide +kernel
theorem dX13_positionOf_50 : decode cX13_positionOf 50 = .ok (.iload_n 1, 1) := by decide +kernel
theorem dX13_positionOf_51 : decode cX13_positionOf 51 = .ok (.iload_n 2, 1) := by decide +kernel
theorem dX13_positionOf_52 : decode cX13_positionOf 52 = .ok (.invokevirtual 156, 3) := by decide +kernel
theorem dX13_positionOf_55 : decode cX13_positionOf 55 = .ok (.ireturn, 1) := by decide +kernel
theorem dX13_hopMinutes_0 : decode cX13_hopMinutes 0 = .ok (.aload_n 0, 1) := by decide +kernel
theorem dX13_hopMinutes_1 : decode cX13_hopMinutes 1 = .ok (.aload_n 0, 1) := by decide +kernel
theorem dX13_hopMinutes_2 : decode cX13_hopMinutes 2 = .ok (.iload_n 1, 1) := by decide +kernel
theorem dX13_hopMinutes_3 : decode cX13_hopMinutes 3 = .ok (.invokevirtual 150, 3) := by decide +kernel
theorem dX13_hopMinutes_6 : decode cX13_hopMinutes 6 = .ok (.invokevirtual 217, 3) := by decide +kernel
theorem dX13_hopMinutes_9 : decode cX13_hopMinutes 9 = .ok (.ifCond .le 7, 3) := by decide +kernel
theorem dX13_hopMinutes_12 : decode cX13_hopMinutes 12 = .ok (.iconst 0, 1) := by decide +kernel
theorem dX13_hopMinutes_13 : decode cX13_hopMinutes 13 = .ok (.goto 8, 3) := by decide +kernel
theorem dX13_hopMinutes_16 : decode cX13_hopMinutes 16 = .ok (.aload_n 0, 1) := by decide +kernel
theorem dX13_hopMinutes_17 : decode cX13_hopMinutes 17 = .ok (.iload_n 1, 1) := by decide +kernel
theorem dX13_hopMinutes_18 : decode cX13_hopMinutes 18 = .ok (.invokevirtual 131, 3) := by decide +kernel
theorem dX13_hopMinutes_21 : decode cX13_hopMinutes 21 = .ok (.ireturn, 1) := by decide +kernel
theorem dX13_runs_0 : decode cX13_runs 0 = .ok (.aload_n 0, 1) := by decide +kernel
theorem dX13_runs_1 : decode cX13_runs 1 = .ok (.aload_n 0, 1) := by decide +kernel
theorem dX13_runs_2 : decode cX13_runs 2 = .ok (.iload_n 1, 1) := by decide +kernel
theorem dX13_runs_3 : decode cX13_runs 3 = .ok (.invokevirtual 150, 3) := by decide +kernel
theorem dX13_runs_6 : decode cX13_runs 6 = .ok (.invokevirtual 217, 3) := by decide +kernel
theorem dX13_runs_9 : decode cX13_runs 9 = .ok (.ifCond .ne 15, 3) := by decide +kernel
theorem dX13_runs_12 : decode cX13_runs 12 = .ok (.aload_n 0, 1) := by decide +kernel
theorem dX13_runs_13 : decode cX13_runs 13 = .ok (.iload_n 1, 1) := by decide +kernel
theorem dX13_runs_14 : decode cX13_runs 14 = .ok (.invokevirtual 185, 3) := by decide +kernel
theorem dX13_runs_17 : decode cX13_runs 17 = .ok (.ifCond .eq 7, 3) := by decide +kernel
theorem dX13_runs_20 : decode cX13_runs 20 = .ok (.iconst 1, 1) := by decide +kernel
theorem dX13_runs_21 : decode cX13_runs 21 = .ok (.goto 4, 3) := by decide +kernel
theorem dX13_runs_24 : decode cX13_runs 24 = .ok (.iconst 0, 1) := by decide +kernel
theorem dX13_runs_25 : decode cX13_runs 25 = .ok (.ireturn, 1) := by decide +kernel
theorem dX13_tripMinute_0 : decode cX13_tripMinute 0 = .ok (.aload_n 0, 1) := by decide +kernel
theorem dX13_tripMinute_1 : decode cX13_tripMinute 1 = .ok (.aload_n 0, 1) := by decide +kernel
theorem dX13_tripMinute_2 : decode cX13_tripMinute 2 = .ok (.iload_n 1, 1) := by decide +kernel
theorem dX13_tripMinute_3 : decode cX13_tripMinute 3 = .ok (.invokevirtual 150, 3) := by decide +kernel
theorem dX13_tripMinute_6 : decode cX13_tripMinute 6 = .ok (.ifCond .ne 7, 3) := by decide +kernel
theorem dX13_tripMinute_9 : decode cX13_tripMinute 9 = .ok (.iconst 1, 1) := by decide +kernel
theorem dX13_tripMinute_10 : decode cX13_tripMinute 10 = .ok (.goto 46, 3) := by decide +kernel
theorem dX13_tripMinute_13 : decode cX13_tripMinute 13 = .ok (.iload_n 2, 1) := by decide +kernel
theorem dX13_tripMinute_14 : decode cX13_tripMinute 14 = .ok (.iconst 0, 1) := by decide +kernel
theorem dX13_tripMinute_15 : decode cX13_tripMinute 15 = .ok (.bipush 99, 2) := by decide +kernel
theorem dX13_tripMinute_17 : decode cX13_tripMinute 17 = .ok (.invokestatic 79, 3) := by decide +kernel
theorem dX13_tripMinute_20 : decode cX13_tripMinute 20 = .ok (.ifCond .eq 17, 3) := by decide +kernel
theorem dX13_tripMinute_23 : decode cX13_tripMinute 23 = .ok (.iload_n 3, 1) := by decide +kernel
theorem dX13_tripMinute_24 : decode cX13_tripMinute 24 = .ok (.iconst 0, 1) := by decide +kernel
theorem dX13_tripMinute_25 : decode cX13_tripMinute 25 = .ok (.aload_n 0, 1) := by decide +kernel
theorem dX13_tripMinute_26 : decode cX13_tripMinute 26 = .ok (.iload_n 1, 1) := by decide +kernel
theorem dX13_tripMinute_27 : decode cX13_tripMinute 27 = .ok (.iconst 5, 1) := by decide +kernel
theorem dX13_tripMinute_28 : decode cX13_tripMinute 28 = .ok (.invokevirtual 128, 3) := by decide +kernel
theorem dX13_tripMinute_31 : decode cX13_tripMinute 31 = .ok (.invokestatic 79, 3) := by decide +kernel
theorem dX13_tripMinute_34 : decode cX13_tripMinute 34 = .ok (.ifCond .ne 7, 3) := by decide +kernel
theorem dX13_tripMinute_37 : decode cX13_tripMinute 37 = .ok (.iconst 2, 1) := by decide +kernel
theorem dX13_tripMinute_38 : decode cX13_tripMinute 38 = .ok (.goto 18, 3) := by decide +kernel
theorem dX13_tripMinute_41 : decode cX13_tripMinute 41 = .ok (.aload_n 0, 1) := by decide +kernel
theorem dX13_tripMinute_42 : decode cX13_tripMinute 42 = .ok (.iload_n 1, 1) := by decide +kernel
theorem dX13_tripMinute_43 : decode cX13_tripMinute 43 = .ok (.iconst 5, 1) := by decide +kernel
theorem dX13_tripMinute_44 : decode cX13_tripMinute 44 = .ok (.invokevirtual 128, 3) := by decide +kernel
theorem dX13_tripMinute_47 : decode cX13_tripMinute 47 = .ok (.iconst 2, 1) := by decide +kernel
theorem dX13_tripMinute_48 : decode cX13_tripMinute 48 = .ok (.if_icmp .ge 7, 3) := by decide +kernel
theorem dX13_tripMinute_51 : decode cX13_tripMinute 51 = .ok (.iconst 3, 1) := by decide +kernel
theorem dX13_tripMinute_52 : decode cX13_tripMinute 52 = .ok (.goto 4, 3) := by decide +kernel
theorem dX13_tripMinute_55 : decode cX13_tripMinute 55 = .ok (.iconst 0, 1) := by decide +kernel
theorem dX13_tripMinute_56 : decode cX13_tripMinute 56 = .ok (.putfield 28, 3) := by decide +kernel
theorem dX13_tripMinute_59 : decode cX13_tripMinute 59 = .ok (.aload_n 0, 1) := by decide +kernel
theorem dX13_tripMinute_60 : decode cX13_tripMinute 60 = .ok (.getfield 28, 3) := by decide +kernel
theorem dX13_tripMinute_63 : decode cX13_tripMinute 63 = .ok (.ifCond .le 7, 3) := by decide +kernel
theorem dX13_tripMinute_66 : decode cX13_tripMinute 66 = .ok (.iconst 0, 1) := by decide +kernel
theorem dX13_tripMinute_67 : decode cX13_tripMinute 67 = .ok (.goto 10, 3) := by decide +kernel
theorem dX13_tripMinute_70 : decode cX13_tripMinute 70 = .ok (.aload_n 0, 1) := by decide +kernel
theorem dX13_tripMinute_71 : decode cX13_tripMinute 71 = .ok (.iload_n 1, 1) := by decide +kernel
theorem dX13_tripMinute_72 : decode cX13_tripMinute 72 = .ok (.iload_n 2, 1) := by decide +kernel
theorem dX13_tripMinute_73 : decode cX13_tripMinute 73 = .ok (.iload_n 3, 1) := by decide +kernel
theorem dX13_tripMinute_74 : decode cX13_tripMinute 74 = .ok (.invokevirtual 134, 3) := by decide +kernel
theorem dX13_tripMinute_77 : decode cX13_tripMinute 77 = .ok (.ireturn, 1) := by decide +kernel
theorem dX13_next_0 : decode cX13_next 0 = .ok (.aload_n 0, 1) := by decide +kernel
theorem dX13_next_1 : decode cX13_next 1 = .ok (.aload_n 0, 1) := by decide +kernel
theorem dX13_next_2 : decode cX13_next 2 = .ok (.iload_n 1, 1) := by decide +kernel
theorem dX13_next_3 : decode cX13_next 3 = .ok (.invokevirtual 150, 3) := by decide +kernel
theorem dX13_next_6 : decode cX13_next 6 = .ok (.ifCond .ne 7, 3) := by decide +kernel
theorem dX13_next_9 : decode cX13_next 9 = .ok (.iconst 1, 1) := by decide +kernel
theorem dX13_next_10 : decode cX13_next 10 = .ok (.goto 47, 3) := by decide +kernel
theorem dX13_next_13 : decode cX13_next 13 = .ok (.iload_n 2, 1) := by decide +kernel
theorem dX13_next_14 : decode cX13_next 14 = .ok (.iconst 0, 1) := by decide +kernel
theorem dX13_next_15 : decode cX13_next 15 = .ok (.aload_n 0, 1) := by decide +kernel
theorem dX13_next_16 : decode cX13_next 16 = .ok (.iload_n 1, 1) := by decide +kernel
theorem dX13_next_17 : decode cX13_next 17 = .ok (.iconst 5, 1) := by decide +kernel
theorem dX13_next_18 : decode cX13_next 18 = .ok (.invokevirtual 128, 3) := by decide +kernel
theorem dX13_next_21 : decode cX13_next 21 = .ok (.iconst 1, 1) := by decide +kernel
theorem dX13_next_22 : decode cX13_next 22 = .ok (.isub, 1) := by decide +kernel
theorem dX13_next_23 : decode cX13_next 23 = .ok (.invokestatic 79, 3) := by decide +kernel
theorem dX13_next_26 : decode cX13_next 26 = .ok (.ifCond .eq 14, 3) := by decide +kernel
theorem dX13_next_29 : decode cX13_next 29 = .ok (.iload_n 3, 1) := by decide +kernel
theorem dX13_next_30 : decode cX13_next 30 = .ok (.iconst 0, 1) := by decide +kernel
theorem dX13_next_31 : decode cX13_next 31 = .ok (.sipush 9999, 3) := by decide +kernel
theorem dX13_next_34 : decode cX13_next 34 = .ok (.invokestatic 79, 3) := by decide +kernel
theorem dX13_next_37 : decode cX13_next 37 = .ok (.ifCond .ne 7, 3) := by decide +kernel
theorem dX13_next_40 : decode cX13_next 40 = .ok (.iconst 2, 1) := by decide +kernel
theorem dX13_next_41 : decode cX13_next 41 = .ok (.goto 16, 3) := by decide +kernel
theorem dX13_next_44 : decode cX13_next 44 = .ok (.aload_n 0, 1) := by decide +kernel
theorem dX13_next_45 : decode cX13_next 45 = .ok (.iload_n 1, 1) := by decide +kernel
theorem dX13_next_46 : decode cX13_next 46 = .ok (.invokevirtual 185, 3) := by decide +kernel
theorem dX13_next_49 : decode cX13_next 49 = .ok (.ifCond .ne 7, 3) := by decide +kernel
theorem dX13_next_52 : decode cX13_next 52 = .ok (.iconst 3, 1) := by decide +kernel
theorem dX13_next_53 : decode cX13_next 53 = .ok (.goto 4, 3) := by decide +kernel
theorem dX13_next_56 : decode cX13_next 56 = .ok (.iconst 0, 1) := by decide +kernel
theorem dX13_next_57 : decode cX13_next 57 = .ok (.putfield 28, 3) := by decide +kernel
theorem dX13_next_60 : decode cX13_next 60 = .ok (.aload_n 0, 1) := by decide +kernel
theorem dX13_next_61 : decode cX13_next 61 = .ok (.getfield 28, 3) := by decide +kernel
theorem dX13_next_64 : decode cX13_next 64 = .ok (.ifCond .le 7, 3) := by decide +kernel
theorem dX13_next_67 : decode cX13_next 67 = .ok (.iconst 0, 1) := by decide +kernel
theorem dX13_next_68 : decode cX13_next 68 = .ok (.goto 10, 3) := by decide +kernel
theorem dX13_next_71 : decode cX13_next 71 = .ok (.aload_n 0, 1) := by decide +kernel
theorem dX13_next_72 : decode cX13_next 72 = .ok (.iload_n 1, 1) := by decide +kernel
theorem dX13_next_73 : decode cX13_next 73 = .ok (.iload_n 2, 1) := by decide +kernel
theorem dX13_next_74 : decode cX13_next 74 = .ok (.iload_n 3, 1) := by decide +kernel
theorem dX13_next_75 : decode cX13_next 75 = .ok (.invokevirtual 229, 3) := by decide +kernel
theorem dX13_next_78 : decode cX13_next 78 = .ok (.ireturn, 1) := by decide +kernel
theorem dX13_nextTrip_0 : decode cX13_nextTrip 0 = .ok (.aload_n 0, 1) := by decide +kernel
theorem dX13_nextTrip_1 : decode cX13_nextTrip 1 = .ok (.iload_n 1, 1) := by decide +kernel
theorem dX13_nextTrip_2 : decode cX13_nextTrip 2 = .ok (.iload_n 2, 1) := by decide +kernel
theorem dX13_nextTrip_3 : decode cX13_nextTrip 3 = .ok (.iload_n 3, 1) := by decide +kernel
theorem dX13_nextTrip_4 : decode cX13_nextTrip 4 = .ok (.invokevirtual 232, 3) := by decide +kernel
theorem dX13_nextTrip_7 : decode cX13_nextTrip 7 = .ok (.ireturn, 1) := by decide +kernel
theorem dX13_nextTripBySearch_0 : decode cX13_nextTripBySearch 0 = .ok (.aload_n 0, 1) := by decide +kernel
theorem dX13_nextTripBySearch_1 : decode cX13_nextTripBySearch 1 = .ok (.iload_n 1, 1) := by decide +kernel
theorem dX13_nextTripBySearch_2 : decode cX13_nextTripBySearch 2 = .ok (.iload_n 2, 1) := by decide +kernel
theorem dX13_nextTripBySearch_3 : decode cX13_nextTripBySearch 3 = .ok (.iload_n 3, 1) := by decide +kernel
theorem dX13_nextTripBySearch_4 : decode cX13_nextTripBySearch 4 = .ok (.invokevirtual 232, 3) := by decide +kernel
theorem dX13_nextTripBySearch_7 : decode cX13_nextTripBySearch 7 = .ok (.ireturn, 1) := by decide +kernel
theorem dX13_comes_0 : decode cX13_comes 0 = .ok (.iload_n 2, 1) := by decide +kernel
theorem dX13_comes_1 : decode cX13_comes 1 = .ok (.aload_n 0, 1) := by decide +kernel
theorem dX13_comes_2 : decode cX13_comes 2 = .ok (.getfield 22, 3) := by decide +kernel
theorem dX13_comes_5 : decode cX13_comes 5 = .ok (.iload_n 1, 1) := by decide +kernel
theorem dX13_comes_6 : decode cX13_comes 6 = .ok (.iaload, 1) := by decide +kernel
theorem dX13_comes_7 : decode cX13_comes 7 = .ok (.if_icmp .lt 13, 3) := by decide +kernel
theorem dX13_comes_10 : decode cX13_comes 10 = .ok (.iload_n 3, 1) := by decide +kernel
theorem dX13_comes_11 : decode cX13_comes 11 = .ok (.aload_n 0, 1) := by decide +kernel
theorem dX13_comes_12 : decode cX13_comes 12 = .ok (.getfield 25, 3) := by decide +kernel
theorem dX13_comes_15 : decode cX13_comes 15 = .ok (.iload_n 1, 1) := by decide +kernel
theorem dX13_comes_16 : decode cX13_comes 16 = .ok (.iaload, 1) := by decide +kernel
theorem dX13_comes_17 : decode cX13_comes 17 = .ok (.if_icmp .ge 7, 3) := by decide +kernel
theorem dX13_comes_20 : decode cX13_comes 20 = .ok (.iconst 1, 1) := by decide +kernel
theorem dX13_comes_21 : decode cX13_comes 21 = .ok (.goto 4, 3) := by decide +kernel
theorem dX13_comes_24 : decode cX13_comes 24 = .ok (.iconst 0, 1) := by decide +kernel
theorem dX13_comes_25 : decode cX13_comes 25 = .ok (.istore 4, 2) := by decide +kernel
theorem dX13_comes_27 : decode cX13_comes 27 = .ok (.aload_n 0, 1) := by decide +kernel
theorem dX13_comes_28 : decode cX13_comes 28 = .ok (.getfield 22, 3) := by decide +kernel
theorem dX13_comes_31 : decode cX13_comes 31 = .ok (.iload_n 1, 1) := by decide +kernel
theorem dX13_comes_32 : decode cX13_comes 32 = .ok (.iload_n 2, 1) := by decide +kernel
theorem dX13_comes_33 : decode cX13_comes 33 = .ok (.aload_n 0, 1) := by decide +kernel
theorem dX13_comes_34 : decode cX13_comes 34 = .ok (.getfield 22, 3) := by decide +kernel
theorem dX13_comes_37 : decode cX13_comes 37 = .ok (.iload_n 1, 1) := by decide +kernel
theorem dX13_comes_38 : decode cX13_comes 38 = .ok (.iaload, 1) := by decide +kernel
theorem dX13_comes_39 : decode cX13_comes 39 = .ok (.if_icmp .ge 7, 3) := by decide +kernel
theorem dX13_comes_42 : decode cX13_comes 42 = .ok (.iload_n 2, 1) := by decide +kernel
theorem dX13_comes_43 : decode cX13_comes 43 = .ok (.goto 9, 3) := by decide +kernel
theorem dX13_comes_46 : decode cX13_comes 46 = .ok (.aload_n 0, 1) := by decide +kernel
theorem dX13_comes_47 : decode cX13_comes 47 = .ok (.getfield 22, 3) := by decide +kernel
theorem dX13_comes_50 : decode cX13_comes 50 = .ok (.iload_n 1, 1) := by decide +kernel
theorem dX13_comes_51 : decode cX13_comes 51 = .ok (.iaload, 1) := by decide +kernel
theorem dX13_comes_52 : decode cX13_comes 52 = .ok (.iastore, 1) := by decide +kernel
theorem dX13_comes_53 : decode cX13_comes 53 = .ok (.aload_n 0, 1) := by decide +kernel
theorem dX13_comes_54 : decode cX13_comes 54 = .ok (.getfield 25, 3) := by decide +kernel
theorem dX13_comes_57 : decode cX13_comes 57 = .ok (.iload_n 1, 1) := by decide +kernel
theorem dX13_comes_58 : decode cX13_comes 58 = .ok (.iload_n 3, 1) := by decide +kernel
theorem dX13_comes_59 : decode cX13_comes 59 = .ok (.aload_n 0, 1) := by decide +kernel
theorem dX13_comes_60 : decode cX13_comes 60 = .ok (.getfield 25, 3) := by decide +kernel
theorem dX13_comes_63 : decode cX13_comes 63 = .ok (.iload_n 1, 1) := by decide +kernel
theorem dX13_comes_64 : decode cX13_comes 64 = .ok (.iaload, 1) := by decide +kernel
theorem dX13_comes_65 : decode cX13_comes 65 = .ok (.if_icmp .ge 7, 3) := by decide +kernel
theorem dX13_comes_68 : decode cX13_comes 68 = .ok (.iload_n 3, 1) := by decide +kernel
theorem dX13_comes_69 : decode cX13_comes 69 = .ok (.goto 9, 3) := by decide +kernel
theorem dX13_comes_72 : decode cX13_comes 72 = .ok (.aload_n 0, 1) := by decide +kernel
theorem dX13_comes_73 : decode cX13_comes 73 = .ok (.getfield 25, 3) := by decide +kernel
theorem dX13_comes_76 : decode cX13_comes 76 = .ok (.iload_n 1, 1) := by decide +kernel
theorem dX13_comes_77 : decode cX13_comes 77 = .ok (.iaload, 1) := by decide +kernel
theorem dX13_comes_78 : decode cX13_comes 78 = .ok (.iastore, 1) := by decide +kernel
theorem dX13_comes_79 : decode cX13_comes 79 = .ok (.iload 4, 2) := by decide +kernel
theorem dX13_comes_81 : decode cX13_comes 81 = .ok (.ireturn, 1) := by decide +kernel
theorem dX13_ridesFrom_0 : decode cX13_ridesFrom 0 = .ok (.aload_n 0, 1) := by decide +kernel
theorem dX13_ridesFrom_1 : decode cX13_ridesFrom 1 = .ok (.iload_n 1, 1) := by decide +kernel
theorem dX13_ridesFrom_2 : decode cX13_ridesFrom 2 = .ok (.iload_n 2, 1) := by decide +kernel
theorem dX13_ridesFrom_3 : decode cX13_ridesFrom 3 = .ok (.invokevirtual 227, 3) := by decide +kernel
theorem dX13_ridesFrom_6 : decode cX13_ridesFrom 6 = .ok (.istore_n 3, 1) := by decide +kernel
theorem dX13_ridesFrom_7 : decode cX13_ridesFrom 7 = .ok (.aload_n 0, 1) := by decide +kernel
theorem dX13_ridesFrom_8 : decode cX13_ridesFrom 8 = .ok (.iload_n 3, 1) := by decide +kernel
theorem dX13_ridesFrom_9 : decode cX13_ridesFrom 9 = .ok (.invokevirtual 224, 3) := by decide +kernel
theorem dX13_ridesFrom_12 : decode cX13_ridesFrom 12 = .ok (.ifCond .eq 14, 3) := by decide +kernel
theorem dX13_ridesFrom_15 : decode cX13_ridesFrom 15 = .ok (.aload_n 0, 1) := by decide +kernel
theorem dX13_ridesFrom_16 : decode cX13_ridesFrom 16 = .ok (.getfield 25, 3) := by decide +kernel
theorem dX13_ridesFrom_19 : decode cX13_ridesFrom 19 = .ok (.iload_n 3, 1) := by decide +kernel
theorem dX13_ridesFrom_20 : decode cX13_ridesFrom 20 = .ok (.iaload, 1) := by decide +kernel
theorem dX13_ridesFrom_21 : decode cX13_ridesFrom 21 = .ok (.ldc 235, 2) := by decide +kernel
theorem dX13_ridesFrom_23 : decode cX13_ridesFrom 23 = .ok (.if_icmp .ne 5, 3) := by decide +kernel
theorem dX13_ridesFrom_26 : decode cX13_ridesFrom 26 = .ok (.iconst 0, 1) := by decide +kernel
theorem dX13_ridesFrom_27 : decode cX13_ridesFrom 27 = .ok (.ireturn, 1) := by decide +kernel
theorem dX13_ridesFrom_28 : decode cX13_ridesFrom 28 = .ok (.iconst 0, 1) := by decide +kernel
theorem dX13_ridesFrom_29 : decode cX13_ridesFrom 29 = .ok (.istore 4, 2) := by decide +kernel
theorem dX13_ridesFrom_31 : decode cX13_ridesFrom 31 = .ok (.aload_n 0, 1) := by decide +kernel
theorem dX13_ridesFrom_32 : decode cX13_ridesFrom 32 = .ok (.iload_n 1, 1) := by decide +kernel
theorem dX13_ridesFrom_33 : decode cX13_ridesFrom 33 = .ok (.iload_n 2, 1) := by decide +kernel
theorem dX13_ridesFrom_34 : decode cX13_ridesFrom 34 = .ok (.aload_n 0, 1) := by decide +kernel
theorem dX13_ridesFrom_35 : decode cX13_ridesFrom 35 = .ok (.getfield 25, 3) := by decide +kernel
theorem dX13_ridesFrom_38 : decode cX13_ridesFrom 38 = .ok (.iload_n 3, 1) := by decide +kernel
theorem dX13_ridesFrom_39 : decode cX13_ridesFrom 39 = .ok (.iaload, 1) := by decide +kernel
theorem dX13_ridesFrom_40 : decode cX13_ridesFrom 40 = .ok (.invokevirtual 229, 3) := by decide +kernel
theorem dX13_ridesFrom_43 : decode cX13_ridesFrom 43 = .ok (.istore 5, 2) := by decide +kernel
theorem dX13_ridesFrom_45 : decode cX13_ridesFrom 45 = .ok (.iload_n 2, 1) := by decide +kernel
theorem dX13_ridesFrom_46 : decode cX13_ridesFrom 46 = .ok (.iconst 1, 1) := by decide +kernel
theorem dX13_ridesFrom_47 : decode cX13_ridesFrom 47 = .ok (.iadd, 1) := by decide +kernel
theorem dX13_ridesFrom_48 : decode cX13_ridesFrom 48 = .ok (.istore 6, 2) := by decide +kernel
theorem dX13_ridesFrom_50 : decode cX13_ridesFrom 50 = .ok (.iload 6, 2) := by decide +kernel
theorem dX13_ridesFrom_52 : decode cX13_ridesFrom 52 = .ok (.aload_n 0, 1) := by decide +kernel
theorem dX13_ridesFrom_53 : decode cX13_ridesFrom 53 = .ok (.iload_n 1, 1) := by decide +kernel
theorem dX13_ridesFrom_54 : decode cX13_ridesFrom 54 = .ok (.iconst 5, 1) := by decide +kernel
theorem dX13_ridesFrom_55 : decode cX13_ridesFrom 55 = .ok (.invokevirtual 128, 3) := by decide +kernel
theorem dX13_ridesFrom_58 : decode cX13_ridesFrom 58 = .ok (.if_icmp .gt 60, 3) := by decide +kernel
theorem dX13_ridesFrom_61 : decode cX13_ridesFrom 61 = .ok (.aload_n 0, 1) := by decide +kernel
theorem dX13_ridesFrom_62 : decode cX13_ridesFrom 62 = .ok (.iload_n 1, 1) := by decide +kernel
theorem dX13_ridesFrom_63 : decode cX13_ridesFrom 63 = .ok (.iload 6, 2) := by decide +kernel
theorem dX13_ridesFrom_65 : decode cX13_ridesFrom 65 = .ok (.invokevirtual 227, 3) := by decide +kernel
theorem dX13_ridesFrom_68 : decode cX13_ridesFrom 68 = .ok (.istore 7, 2) := by decide +kernel
theorem dX13_ridesFrom_70 : decode cX13_ridesFrom 70 = .ok (.aload_n 0, 1) := by decide +kernel
theorem dX13_ridesFrom_71 : decode cX13_ridesFrom 71 = .ok (.iload_n 1, 1) := by decide +kernel
theorem dX13_ridesFrom_72 : decode cX13_ridesFrom 72 = .ok (.iload 5, 2) := by decide +kernel
theorem dX13_ridesFrom_74 : decode cX13_ridesFrom 74 = .ok (.iload 6, 2) := by decide +kernel
theorem dX13_ridesFrom_76 : decode cX13_ridesFrom 76 = .ok (.invokevirtual 134, 3) := by decide +kernel
theorem dX13_ridesFrom_79 : decode cX13_ridesFrom 79 = .ok (.istore 8, 2) := by decide +kernel
theorem dX13_ridesFrom_81 : decode cX13_ridesFrom 81 = .ok (.aload_n 0, 1) := by decide +kernel
theorem dX13_ridesFrom_82 : decode cX13_ridesFrom 82 = .ok (.iload 7, 2) := by decide +kernel
theorem dX13_ridesFrom_84 : decode cX13_ridesFrom 84 = .ok (.invokevirtual 224, 3) := by decide +kernel
theorem dX13_ridesFrom_87 : decode cX13_ridesFrom 87 = .ok (.ifCond .eq 25, 3) := by decide +kernel
theorem dX13_ridesFrom_90 : decode cX13_ridesFrom 90 = .ok (.iload 4, 2) := by decide +kernel
theorem dX13_ridesFrom_92 : decode cX13_ridesFrom 92 = .ok (.aload_n 0, 1) := by decide +kernel
theorem dX13_ridesFrom_93 : decode cX13_ridesFrom 93 = .ok (.iload 7, 2) := by decide +kernel
theorem dX13_ridesFrom_95 : decode cX13_ridesFrom 95 = .ok (.iload 8, 2) := by decide +kernel
theorem dX13_ridesFrom_97 : decode cX13_ridesFrom 97 = .ok (.iload 8, 2) := by decide +kernel
theorem dX13_ridesFrom_99 : decode cX13_ridesFrom 99 = .ok (.aload_n 0, 1) := by decide +kernel
theorem dX13_ridesFrom_100 : decode cX13_ridesFrom 100 = .ok (.iload 7, 2) := by decide +kernel
theorem dX13_ridesFrom_102 : decode cX13_ridesFrom 102 = .ok (.invokevirtual 221, 3) := by decide +kernel
theorem dX13_ridesFrom_105 : decode cX13_ridesFrom 105 = .ok (.iadd, 1) := by decide +kernel
theorem dX13_ridesFrom_106 : decode cX13_ridesFrom 106 = .ok (.invokevirtual 236, 3) := by decide +kernel
theorem dX13_ridesFrom_109 : decode cX13_ridesFrom 109 = .ok (.ior, 1) := by decide +kernel
theorem dX13_ridesFrom_110 : decode cX13_ridesFrom 110 = .ok (.istore 4, 2) := by decide +kernel
theorem dX13_ridesFrom_112 : decode cX13_ridesFrom 112 = .ok (.iinc 6 1, 3) := by decide +kernel
theorem dX13_ridesFrom_115 : decode cX13_ridesFrom 115 = .ok (.goto (-65), 3) := by decide +kernel
theorem dX13_ridesFrom_118 : decode cX13_ridesFrom 118 = .ok (.iload 4, 2) := by decide +kernel
theorem dX13_ridesFrom_120 : decode cX13_ridesFrom 120 = .ok (.ireturn, 1) := by decide +kernel
theorem dX13_walksFrom_0 : decode cX13_walksFrom 0 = .ok (.aload_n 0, 1) := by decide +kernel
theorem dX13_walksFrom_1 : decode cX13_walksFrom 1 = .ok (.iload_n 1, 1) := by decide +kernel
theorem dX13_walksFrom_2 : decode cX13_walksFrom 2 = .ok (.invokevirtual 224, 3) := by decide +kernel
theorem dX13_walksFrom_5 : decode cX13_walksFrom 5 = .ok (.ifCond .eq 14, 3) := by decide +kernel
theorem dX13_walksFrom_8 : decode cX13_walksFrom 8 = .ok (.aload_n 0, 1) := by decide +kernel
theorem dX13_walksFrom_9 : decode cX13_walksFrom 9 = .ok (.getfield 22, 3) := by decide +kernel
theorem dX13_walksFrom_12 : decode cX13_walksFrom 12 = .ok (.iload_n 1, 1) := by decide +kernel
theorem dX13_walksFrom_13 : decode cX13_walksFrom 13 = .ok (.iaload, 1) := by decide +kernel
theorem dX13_walksFrom_14 : decode cX13_walksFrom 14 = .ok (.ldc 235, 2) := by decide +kernel
theorem dX13_walksFrom_16 : decode cX13_walksFrom 16 = .ok (.if_icmp .ne 5, 3) := by decide +kernel
theorem dX13_walksFrom_19 : decode cX13_walksFrom 19 = .ok (.iconst 0, 1) := by decide +kernel
theorem dX13_walksFrom_20 : decode cX13_walksFrom 20 = .ok (.ireturn, 1) := by decide +kernel
theorem dX13_walksFrom_21 : decode cX13_walksFrom 21 = .ok (.iconst 0, 1) := by decide +kernel
theorem dX13_walksFrom_22 : decode cX13_walksFrom 22 = .ok (.istore_n 2, 1) := by decide +kernel
theorem dX13_walksFrom_23 : decode cX13_walksFrom 23 = .ok (.iconst 0, 1) := by decide +kernel
theorem dX13_walksFrom_24 : decode cX13_walksFrom 24 = .ok (.istore_n 3, 1) := by decide +kernel
theorem dX13_walksFrom_25 : decode cX13_walksFrom 25 = .ok (.iload_n 3, 1) := by decide +kernel
theorem dX13_walksFrom_26 : decode cX13_walksFrom 26 = .ok (.aload_n 0, 1) := by decide +kernel
theorem dX13_walksFrom_27 : decode cX13_walksFrom 27 = .ok (.getfield 7, 3) := by decide +kernel
theorem dX13_walksFrom_30 : decode cX13_walksFrom 30 = .ok (.iconst 0, 1) := by decide +kernel
theorem dX13_walksFrom_31 : decode cX13_walksFrom 31 = .ok (.iaload, 1) := by decide +kernel
theorem dX13_walksFrom_32 : decode cX13_walksFrom 32 = .ok (.if_icmp .ge 60, 3) := by decide +kernel
theorem dX13_walksFrom_35 : decode cX13_walksFrom 35 = .ok (.aload_n 0, 1) := by decide +kernel
theorem dX13_walksFrom_36 : decode cX13_walksFrom 36 = .ok (.iload_n 1, 1) := by decide +kernel
theorem dX13_walksFrom_37 : decode cX13_walksFrom 37 = .ok (.iload_n 3, 1) := by decide +kernel
theorem dX13_walksFrom_38 : decode cX13_walksFrom 38 = .ok (.invokevirtual 107, 3) := by decide +kernel
theorem dX13_walksFrom_41 : decode cX13_walksFrom 41 = .ok (.ifCond .le 45, 3) := by decide +kernel
theorem dX13_walksFrom_44 : decode cX13_walksFrom 44 = .ok (.aload_n 0, 1) := by decide +kernel
theorem dX13_walksFrom_45 : decode cX13_walksFrom 45 = .ok (.iload_n 3, 1) := by decide +kernel
theorem dX13_walksFrom_46 : decode cX13_walksFrom 46 = .ok (.invokevirtual 224, 3) := by decide +kernel
theorem dX13_walksFrom_49 : decode cX13_walksFrom 49 = .ok (.ifCond .eq 37, 3) := by decide +kernel
theorem dX13_walksFrom_52 : decode cX13_walksFrom 52 = .ok (.iload_n 2, 1) := by decide +kernel
theorem dX13_walksFrom_53 : decode cX13_walksFrom 53 = .ok (.aload_n 0, 1) := by decide +kernel
theorem dX13_walksFrom_54 : decode cX13_walksFrom 54 = .ok (.iload_n 3, 1) := by decide +kernel
theorem dX13_walksFrom_55 : decode cX13_walksFrom 55 = .ok (.aload_n 0, 1) := by decide +kernel
theorem dX13_walksFrom_56 : decode cX13_walksFrom 56 = .ok (.getfield 22, 3) := by decide +kernel
theorem dX13_walksFrom_59 : decode cX13_walksFrom 59 = .ok (.iload_n 1, 1) := by decide +kernel
theorem dX13_walksFrom_60 : decode cX13_walksFrom 60 = .ok (.iaload, 1) := by decide +kernel
theorem dX13_walksFrom_61 : decode cX13_walksFrom 61 = .ok (.aload_n 0, 1) := by decide +kernel
theorem dX13_walksFrom_62 : decode cX13_walksFrom 62 = .ok (.iload_n 1, 1) := by decide +kernel
theorem dX13_walksFrom_63 : decode cX13_walksFrom 63 = .ok (.iload_n 3, 1) := by decide +kernel
theorem dX13_walksFrom_64 : decode cX13_walksFrom 64 = .ok (.invokevirtual 107, 3) := by decide +kernel
theorem dX13_walksFrom_67 : decode cX13_walksFrom 67 = .ok (.iadd, 1) := by decide +kernel
theorem dX13_walksFrom_68 : decode cX13_walksFrom 68 = .ok (.aload_n 0, 1) := by decide +kernel
theorem dX13_walksFrom_69 : decode cX13_walksFrom 69 = .ok (.getfield 22, 3) := by decide +kernel
theorem dX13_walksFrom_72 : decode cX13_walksFrom 72 = .ok (.iload_n 1, 1) := by decide +kernel
theorem dX13_walksFrom_73 : decode cX13_walksFrom 73 = .ok (.iaload, 1) := by decide +kernel
theorem dX13_walksFrom_74 : decode cX13_walksFrom 74 = .ok (.aload_n 0, 1) := by decide +kernel
theorem dX13_walksFrom_75 : decode cX13_walksFrom 75 = .ok (.iload_n 1, 1) := by decide +kernel
theorem dX13_walksFrom_76 : decode cX13_walksFrom 76 = .ok (.iload_n 3, 1) := by decide +kernel
theorem dX13_walksFrom_77 : decode cX13_walksFrom 77 = .ok (.invokevirtual 107, 3) := by decide +kernel
theorem dX13_walksFrom_80 : decode cX13_walksFrom 80 = .ok (.iadd, 1) := by decide +kernel
theorem dX13_walksFrom_81 : decode cX13_walksFrom 81 = .ok (.invokevirtual 236, 3) := by decide +kernel
theorem dX13_walksFrom_84 : decode cX13_walksFrom 84 = .ok (.ior, 1) := by decide +kernel
theorem dX13_walksFrom_85 : decode cX13_walksFrom 85 = .ok (.istore_n 2, 1) := by decide +kernel
theorem dX13_walksFrom_86 : decode cX13_walksFrom 86 = .ok (.iinc 3 1, 3) := by decide +kernel
theorem dX13_walksFrom_89 : decode cX13_walksFrom 89 = .ok (.goto (-64), 3) := by decide +kernel
theorem dX13_walksFrom_92 : decode cX13_walksFrom 92 = .ok (.iload_n 2, 1) := by decide +kernel
theorem dX13_walksFrom_93 : decode cX13_walksFrom 93 = .ok (.ireturn, 1) := by decide +kernel
theorem dX13_improves_0 : decode cX13_improves 0 = .ok (.iconst 0, 1) := by decide +kernel
theorem dX13_improves_1 : decode cX13_improves 1 = .ok (.istore_n 1, 1) := by decide +kernel
theorem dX13_improves_2 : decode cX13_improves 2 = .ok (.iconst 0, 1) := by decide +kernel
theorem dX13_improves_3 : decode cX13_improves 3 = .ok (.istore_n 2, 1) := by decide +kernel
theorem dX13_improves_4 : decode cX13_improves 4 = .ok (.iload_n 2, 1) := by decide +kernel
theorem dX13_improves_5 : decode cX13_improves 5 = .ok (.aload_n 0, 1) := by decide +kernel
theorem dX13_improves_6 : decode cX13_improves 6 = .ok (.getfield 7, 3) := by decide +kernel
theorem dX13_improves_9 : decode cX13_improves 9 = .ok (.iconst 2, 1) := by decide +kernel
theorem dX13_improves_10 : decode cX13_improves 10 = .ok (.iaload, 1) := by decide +kernel
theorem dX13_improves_11 : decode cX13_improves 11 = .ok (.if_icmp .ge 47, 3) := by decide +kernel
theorem dX13_improves_14 : decode cX13_improves 14 = .ok (.aload_n 0, 1) := by decide +kernel
theorem dX13_improves_15 : decode cX13_improves 15 = .ok (.iload_n 2, 1) := by decide +kernel
theorem dX13_improves_16 : decode cX13_improves 16 = .ok (.invokevirtual 185, 3) := by decide +kernel
theorem dX13_improves_19 : decode cX13_improves 19 = .ok (.ifCond .ne 6, 3) := by decide +kernel
theorem dX13_improves_22 : decode cX13_improves 22 = .ok (.goto 30, 3) := by decide +kernel
theorem dX13_improves_25 : decode cX13_improves 25 = .ok (.iconst 0, 1) := by decide +kernel
theorem dX13_improves_26 : decode cX13_improves 26 = .ok (.istore_n 3, 1) := by decide +kernel
theorem dX13_improves_27 : decode cX13_improves 27 = .ok (.iload_n 3, 1) := by decide +kernel
theorem dX13_improves_28 : decode cX13_improves 28 = .ok (.aload_n 0, 1) := by decide +kernel
theorem dX13_improves_29 : decode cX13_improves 29 = .ok (.iload_n 2, 1) := by decide +kernel
theorem dX13_improves_30 : decode cX13_improves 30 = .ok (.iconst 5, 1) := by decide +kernel
theorem dX13_improves_31 : decode cX13_improves 31 = .ok (.invokevirtual 128, 3) := by decide +kernel
theorem dX13_improves_34 : decode cX13_improves 34 = .ok (.if_icmp .ge 18, 3) := by decide +kernel
theorem dX13_improves_37 : decode cX13_improves 37 = .ok (.iload_n 1, 1) := by decide +kernel
theorem dX13_improves_38 : decode cX13_improves 38 = .ok (.aload_n 0, 1) := by decide +kernel
theorem dX13_improves_39 : decode cX13_improves 39 = .ok (.iload_n 2, 1) := by decide +kernel
theorem dX13_improves_40 : decode cX13_improves 40 = .ok (.iload_n 3, 1) := by decide +kernel
theorem dX13_improves_41 : decode cX13_improves 41 = .ok (.invokevirtual 239, 3) := by decide +kernel
theorem dX13_improves_44 : decode cX13_improves 44 = .ok (.ior, 1) := by decide +kernel
theorem dX13_improves_45 : decode cX13_improves 45 = .ok (.istore_n 1, 1) := by decide +kernel
theorem dX13_improves_46 : decode cX13_improves 46 = .ok (.iinc 3 1, 3) := by decide +kernel
theorem dX13_improves_49 : decode cX13_improves 49 = .ok (.goto (-22), 3) := by decide +kernel
theorem dX13_improves_52 : decode cX13_improves 52 = .ok (.iinc 2 1, 3) := by decide +kernel
theorem dX13_improves_55 : decode cX13_improves 55 = .ok (.goto (-51), 3) := by decide +kernel
theorem dX13_improves_58 : decode cX13_improves 58 = .ok (.iconst 0, 1) := by decide +kernel
theorem dX13_improves_59 : decode cX13_improves 59 = .ok (.istore_n 2, 1) := by decide +kernel
theorem dX13_improves_60 : decode cX13_improves 60 = .ok (.iload_n 2, 1) := by decide +kernel
theorem dX13_improves_61 : decode cX13_improves 61 = .ok (.aload_n 0, 1) := by decide +kernel
theorem dX13_improves_62 : decode cX13_improves 62 = .ok (.getfield 7, 3) := by decide +kernel
theorem dX13_improves_65 : decode cX13_improves 65 = .ok (.iconst 0, 1) := by decide +kernel
theorem dX13_improves_66 : decode cX13_improves 66 = .ok (.iaload, 1) := by decide +kernel
theorem dX13_improves_67 : decode cX13_improves 67 = .ok (.if_icmp .ge 17, 3) := by decide +kernel
theorem dX13_improves_70 : decode cX13_improves 70 = .ok (.iload_n 1, 1) := by decide +kernel
theorem dX13_improves_71 : decode cX13_improves 71 = .ok (.aload_n 0, 1) := by decide +kernel
theorem dX13_improves_72 : decode cX13_improves 72 = .ok (.iload_n 2, 1) := by decide +kernel
theorem dX13_improves_73 : decode cX13_improves 73 = .ok (.invokevirtual 242, 3) := by decide +kernel
theorem dX13_improves_76 : decode cX13_improves 76 = .ok (.ior, 1) := by decide +kernel
theorem dX13_improves_77 : decode cX13_improves 77 = .ok (.istore_n 1, 1) := by decide +kernel
theorem dX13_improves_78 : decode cX13_improves 78 = .ok (.iinc 2 1, 3) := by decide +kernel
theorem dX13_improves_81 : decode cX13_improves 81 = .ok (.goto (-21), 3) := by decide +kernel
theorem dX13_improves_84 : decode cX13_improves 84 = .ok (.iload_n 1, 1) := by decide +kernel
theorem dX13_improves_85 : decode cX13_improves 85 = .ok (.ireturn, 1) := by decide +kernel
theorem dX13_arrival_0 : decode cX13_arrival 0 = .ok (.aload_n 0, 1) := by decide +kernel
theorem dX13_arrival_1 : decode cX13_arrival 1 = .ok (.aload_n 0, 1) := by decide +kernel
theorem dX13_arrival_2 : decode cX13_arrival 2 = .ok (.iload_n 1, 1) := by decide +kernel
theorem dX13_arrival_3 : decode cX13_arrival 3 = .ok (.iload_n 2, 1) := by decide +kernel
theorem dX13_arrival_4 : decode cX13_arrival 4 = .ok (.invokevirtual 103, 3) := by decide +kernel
theorem dX13_arrival_7 : decode cX13_arrival 7 = .ok (.ifCond .ne 7, 3) := by decide +kernel
theorem dX13_arrival_10 : decode cX13_arrival 10 = .ok (.iconst 1, 1) := by decide +kernel
theorem dX13_arrival_11 : decode cX13_arrival 11 = .ok (.goto 19, 3) := by decide +kernel
theorem dX13_arrival_14 : decode cX13_arrival 14 = .ok (.iload_n 3, 1) := by decide +kernel
theorem dX13_arrival_15 : decode cX13_arrival 15 = .ok (.iconst 0, 1) := by decide +kernel
theorem dX13_arrival_16 : decode cX13_arrival 16 = .ok (.sipush 9999, 3) := by decide +kernel
theorem dX13_arrival_19 : decode cX13_arrival 19 = .ok (.invokestatic 79, 3) := by decide +kernel
theorem dX13_arrival_22 : decode cX13_arrival 22 = .ok (.ifCond .ne 7, 3) := by decide +kernel
theorem dX13_arrival_25 : decode cX13_arrival 25 = .ok (.iconst 2, 1) := by decide +kernel
theorem dX13_arrival_26 : decode cX13_arrival 26 = .ok (.goto 4, 3) := by decide +kernel
theorem dX13_arrival_29 : decode cX13_arrival 29 = .ok (.iconst 0, 1) := by decide +kernel
theorem dX13_arrival_30 : decode cX13_arrival 30 = .ok (.putfield 28, 3) := by decide +kernel
theorem dX13_arrival_33 : decode cX13_arrival 33 = .ok (.aload_n 0, 1) := by decide +kernel
theorem dX13_arrival_34 : decode cX13_arrival 34 = .ok (.getfield 28, 3) := by decide +kernel
theorem dX13_arrival_37 : decode cX13_arrival 37 = .ok (.ifCond .le 5, 3) := by decide +kernel
theorem dX13_arrival_40 : decode cX13_arrival 40 = .ok (.iconst 0, 1) := by decide +kernel
theorem dX13_arrival_41 : decode cX13_arrival 41 = .ok (.ireturn, 1) := by decide +kernel
theorem dX13_arrival_42 : decode cX13_arrival 42 = .ok (.iload_n 1, 1) := by decide +kernel
theorem dX13_arrival_43 : decode cX13_arrival 43 = .ok (.iload_n 2, 1) := by decide +kernel
theorem dX13_arrival_44 : decode cX13_arrival 44 = .ok (.if_icmp .ne 5, 3) := by decide +kernel
theorem dX13_arrival_47 : decode cX13_arrival 47 = .ok (.iload_n 3, 1) := by decide +kernel
theorem dX13_arrival_48 : decode cX13_arrival 48 = .ok (.ireturn, 1) := by decide +kernel
theorem dX13_arrival_49 : decode cX13_arrival 49 = .ok (.aload_n 0, 1) := by decide +kernel
theorem dX13_arrival_50 : decode cX13_arrival 50 = .ok (.iload_n 1, 1) := by decide +kernel
theorem dX13_arrival_51 : decode cX13_arrival 51 = .ok (.invokevirtual 224, 3) := by decide +kernel
theorem dX13_arrival_54 : decode cX13_arrival 54 = .ok (.ifCond .eq 11, 3) := by decide +kernel
theorem dX13_arrival_57 : decode cX13_arrival 57 = .ok (.aload_n 0, 1) := by decide +kernel
theorem dX13_arrival_58 : decode cX13_arrival 58 = .ok (.iload_n 2, 1) := by decide +kernel
theorem dX13_arrival_59 : decode cX13_arrival 59 = .ok (.invokevirtual 224, 3) := by decide +kernel
theorem dX13_arrival_62 : decode cX13_arrival 62 = .ok (.ifCond .ne 9, 3) := by decide +kernel
theorem dX13_arrival_65 : decode cX13_arrival 65 = .ok (.aload_n 0, 1) := by decide +kernel
theorem dX13_arrival_66 : decode cX13_arrival 66 = .ok (.iconst 3, 1) := by decide +kernel
theorem dX13_arrival_67 : decode cX13_arrival 67 = .ok (.invokevirtual 94, 3) := by decide +kernel
theorem dX13_arrival_70 : decode cX13_arrival 70 = .ok (.ireturn, 1) := by decide +kernel
theorem dX13_arrival_71 : decode cX13_arrival 71 = .ok (.iconst 0, 1) := by decide +kernel
theorem dX13_arrival_72 : decode cX13_arrival 72 = .ok (.istore 4, 2) := by decide +kernel
theorem dX13_arrival_74 : decode cX13_arrival 74 = .ok (.iload 4, 2) := by decide +kernel
theorem dX13_arrival_76 : decode cX13_arrival 76 = .ok (.bipush 10, 2) := by decide +kernel
theorem dX13_arrival_78 : decode cX13_arrival 78 = .ok (.if_icmp .ge 27, 3) := by decide +kernel
theorem dX13_arrival_81 : decode cX13_arrival 81 = .ok (.aload_n 0, 1) := by decide +kernel
theorem dX13_arrival_82 : decode cX13_arrival 82 = .ok (.getfield 22, 3) := by decide +kernel
theorem dX13_arrival_85 : decode cX13_arrival 85 = .ok (.iload 4, 2) := by decide +kernel
theorem dX13_arrival_87 : decode cX13_arrival 87 = .ok (.ldc 235, 2) := by decide +kernel
theorem dX13_arrival_89 : decode cX13_arrival 89 = .ok (.iastore, 1) := by decide +kernel
theorem dX13_arrival_90 : decode cX13_arrival 90 = .ok (.aload_n 0, 1) := by decide +kernel
theorem dX13_arrival_91 : decode cX13_arrival 91 = .ok (.getfield 25, 3) := by decide +kernel
theorem dX13_arrival_94 : decode cX13_arrival 94 = .ok (.iload 4, 2) := by decide +kernel
theorem dX13_arrival_96 : decode cX13_arrival 96 = .ok (.ldc 235, 2) := by decide +kernel
theorem dX13_arrival_98 : decode cX13_arrival 98 = .ok (.iastore, 1) := by decide +kernel
theorem dX13_arrival_99 : decode cX13_arrival 99 = .ok (.iinc 4 1, 3) := by decide +kernel
theorem dX13_arrival_102 : decode cX13_arrival 102 = .ok (.goto (-28), 3) := by decide +kernel
theorem dX13_arrival_105 : decode cX13_arrival 105 = .ok (.aload_n 0, 1) := by decide +kernel
theorem dX13_arrival_106 : decode cX13_arrival 106 = .ok (.getfield 22, 3) := by decide +kernel
theorem dX13_arrival_109 : decode cX13_arrival 109 = .ok (.iload_n 1, 1) := by decide +kernel
theorem dX13_arrival_110 : decode cX13_arrival 110 = .ok (.iload_n 3, 1) := by decide +kernel
theorem dX13_arrival_111 : decode cX13_arrival 111 = .ok (.iastore, 1) := by decide +kernel
theorem dX13_arrival_112 : decode cX13_arrival 112 = .ok (.aload_n 0, 1) := by decide +kernel
theorem dX13_arrival_113 : decode cX13_arrival 113 = .ok (.getfield 25, 3) := by decide +kernel
theorem dX13_arrival_116 : decode cX13_arrival 116 = .ok (.iload_n 1, 1) := by decide +kernel
theorem dX13_arrival_117 : decode cX13_arrival 117 = .ok (.iload_n 3, 1) := by decide +kernel
theorem dX13_arrival_118 : decode cX13_arrival 118 = .ok (.iastore, 1) := by decide +kernel
theorem dX13_arrival_119 : decode cX13_arrival 119 = .ok (.iconst 1, 1) := by decide +kernel
theorem dX13_arrival_120 : decode cX13_arrival 120 = .ok (.istore 4, 2) := by decide +kernel
theorem dX13_arrival_122 : decode cX13_arrival 122 = .ok (.iload 4, 2) := by decide +kernel
theorem dX13_arrival_124 : decode cX13_arrival 124 = .ok (.ifCond .eq 12, 3) := by decide +kernel
theorem dX13_arrival_127 : decode cX13_arrival 127 = .ok (.aload_n 0, 1) := by decide +kernel
theorem dX13_arrival_128 : decode cX13_arrival 128 = .ok (.invokevirtual 245, 3) := by decide +kernel
theorem dX13_arrival_131 : decode cX13_arrival 131 = .ok (.istore 4, 2) := by decide +kernel
theorem dX13_arrival_133 : decode cX13_arrival 133 = .ok (.goto (-11), 3) := by decide +kernel
theorem dX13_arrival_136 : decode cX13_arrival 136 = .ok (.aload_n 0, 1) := by decide +kernel
theorem dX13_arrival_137 : decode cX13_arrival 137 = .ok (.getfield 22, 3) := by decide +kernel
theorem dX13_arrival_140 : decode cX13_arrival 140 = .ok (.iload_n 2, 1) := by decide +kernel
theorem dX13_arrival_141 : decode cX13_arrival 141 = .ok (.iaload, 1) := by decide +kernel
theorem dX13_arrival_142 : decode cX13_arrival 142 = .ok (.ldc 235, 2) := by decide +kernel
theorem dX13_arrival_144 : decode cX13_arrival 144 = .ok (.if_icmp .ne 11, 3) := by decide +kernel
theorem dX13_arrival_147 : decode cX13_arrival 147 = .ok (.aload_n 0, 1) := by decide +kernel
theorem dX13_arrival_148 : decode cX13_arrival 148 = .ok (.iconst 3, 1) := by decide +kernel
theorem dX13_arrival_149 : decode cX13_arrival 149 = .ok (.invokevirtual 94, 3) := by decide +kernel
theorem dX13_arrival_152 : decode cX13_arrival 152 = .ok (.goto 9, 3) := by decide +kernel
theorem dX13_arrival_155 : decode cX13_arrival 155 = .ok (.aload_n 0, 1) := by decide +kernel
theorem dX13_arrival_156 : decode cX13_arrival 156 = .ok (.getfield 22, 3) := by decide +kernel
theorem dX13_arrival_159 : decode cX13_arrival 159 = .ok (.iload_n 2, 1) := by decide +kernel
theorem dX13_arrival_160 : decode cX13_arrival 160 = .ok (.iaload, 1) := by decide +kernel
theorem dX13_arrival_161 : decode cX13_arrival 161 = .ok (.ireturn, 1) := by decide +kernel
theorem dX13_earliestArrival_0 : decode cX13_earliestArrival 0 = .ok (.aload_n 0, 1) := by decide +kernel
theorem dX13_earliestArrival_1 : decode cX13_earliestArrival 1 = .ok (.iload_n 1, 1) := by decide +kernel
theorem dX13_earliestArrival_2 : decode cX13_earliestArrival 2 = .ok (.iload_n 2, 1) := by decide +kernel
theorem dX13_earliestArrival_3 : decode cX13_earliestArrival 3 = .ok (.iload_n 3, 1) := by decide +kernel
theorem dX13_earliestArrival_4 : decode cX13_earliestArrival 4 = .ok (.invokevirtual 249, 3) := by decide +kernel
theorem dX13_earliestArrival_7 : decode cX13_earliestArrival 7 = .ok (.ireturn, 1) := by decide +kernel
theorem dX13_earliestArrivalByRounds_0 : decode cX13_earliestArrivalByRounds 0 = .ok (.aload_n 0, 1) := by decide +kernel
theorem dX13_earliestArrivalByRounds_1 : decode cX13_earliestArrivalByRounds 1 = .ok (.iload_n 1, 1) := by decide +kernel
theorem dX13_earliestArrivalByRounds_2 : decode cX13_earliestArrivalByRounds 2 = .ok (.iload_n 2, 1) := by decide +kernel
theorem dX13_earliestArrivalByRounds_3 : decode cX13_earliestArrivalByRounds 3 = .ok (.iload_n 3, 1) := by decide +kernel
theorem dX13_earliestArrivalByRounds_4 : decode cX13_earliestArrivalByRounds 4 = .ok (.invokevirtual 249, 3) := by decide +kernel
theorem dX13_earliestArrivalByRounds_7 : decode cX13_earliestArrivalByRounds 7 = .ok (.ireturn, 1) := by decide +kernel
theorem dX13_has_0 : decode cX13_has 0 = .ok (.iload_n 0, 1) := by decide +kernel
theorem dX13_has_1 : decode cX13_has 1 = .ok (.iload_n 1, 1) := by decide +kernel
theorem dX13_has_2 : decode cX13_has 2 = .ok (.ishr, 1) := by decide +kernel
theorem dX13_has_3 : decode cX13_has 3 = .ok (.iconst 1, 1) := by decide +kernel
theorem dX13_has_4 : decode cX13_has 4 = .ok (.iand, 1) := by decide +kernel
theorem dX13_has_5 : decode cX13_has 5 = .ok (.iconst 1, 1) := by decide +kernel
theorem dX13_has_6 : decode cX13_has 6 = .ok (.if_icmp .ne 7, 3) := by decide +kernel
theorem dX13_has_9 : decode cX13_has 9 = .ok (.iconst 1, 1) := by decide +kernel
theorem dX13_has_10 : decode cX13_has 10 = .ok (.goto 4, 3) := by decide +kernel
theorem dX13_has_13 : decode cX13_has 13 = .ok (.iconst 0, 1) := by decide +kernel
theorem dX13_has_14 : decode cX13_has 14 = .ok (.ireturn, 1) := by decide +kernel
theorem dX13_walked_0 : decode cX13_walked 0 = .ok (.iload_n 1, 1) := by decide +kernel
theorem dX13_walked_1 : decode cX13_walked 1 = .ok (.istore_n 2, 1) := by decide +kernel
theorem dX13_walked_2 : decode cX13_walked 2 = .ok (.iconst 0, 1) := by decide +kernel
theorem dX13_walked_3 : decode cX13_walked 3 = .ok (.istore_n 3, 1) := by decide +kernel
theorem dX13_walked_4 : decode cX13_walked 4 = .ok (.iload_n 3, 1) := by decide +kernel
theorem dX13_walked_5 : decode cX13_walked 5 = .ok (.bipush 10, 2) := by decide +kernel
theorem dX13_walked_7 : decode cX13_walked 7 = .ok (.if_icmp .ge 94, 3) := by decide +kernel
theorem dX13_walked_10 : decode cX13_walked 10 = .ok (.iconst 0, 1) := by decide +kernel
theorem dX13_walked_11 : decode cX13_walked 11 = .ok (.istore 4, 2) := by decide +kernel
theorem dX13_walked_13 : decode cX13_walked 13 = .ok (.iload 4, 2) := by decide +kernel
theorem dX13_walked_15 : decode cX13_walked 15 = .ok (.aload_n 0, 1) := by decide +kernel
theorem dX13_walked_16 : decode cX13_walked 16 = .ok (.getfield 7, 3) := by decide +kernel
theorem dX13_walked_19 : decode cX13_walked 19 = .ok (.iconst 0, 1) := by decide +kernel
theorem dX13_walked_20 : decode cX13_walked 20 = .ok (.iaload, 1) := by decide +kernel
theorem dX13_walked_21 : decode cX13_walked 21 = .ok (.if_icmp .ge 74, 3) := by decide +kernel
theorem dX13_walked_24 : decode cX13_walked 24 = .ok (.iconst 0, 1) := by decide +kernel
theorem dX13_walked_25 : decode cX13_walked 25 = .ok (.istore 5, 2) := by decide +kernel
theorem dX13_walked_27 : decode cX13_walked 27 = .ok (.iload 5, 2) := by decide +kernel
theorem dX13_walked_29 : decode cX13_walked 29 = .ok (.aload_n 0, 1) := by decide +kernel
theorem dX13_walked_30 : decode cX13_walked 30 = .ok (.getfield 7, 3) := by decide +kernel
theorem dX13_walked_33 : decode cX13_walked 33 = .ok (.iconst 0, 1) := by decide +kernel
theorem dX13_walked_34 : decode cX13_walked 34 = .ok (.iaload, 1) := by decide +kernel
theorem dX13_walked_35 : decode cX13_walked 35 = .ok (.if_icmp .ge 54, 3) := by decide +kernel
theorem dX13_walked_38 : decode cX13_walked 38 = .ok (.iload_n 2, 1) := by decide +kernel
theorem dX13_walked_39 : decode cX13_walked 39 = .ok (.iload 4, 2) := by decide +kernel
theorem dX13_walked_41 : decode cX13_walked 41 = .ok (.invokestatic 252, 3) := by decide +kernel
theorem dX13_walked_44 : decode cX13_walked 44 = .ok (.ifCond .eq 39, 3) := by decide +kernel
theorem dX13_walked_47 : decode cX13_walked 47 = .ok (.aload_n 0, 1) := by decide +kernel
theorem dX13_walked_48 : decode cX13_walked 48 = .ok (.iload 4, 2) := by decide +kernel
theorem dX13_walked_50 : decode cX13_walked 50 = .ok (.iload 5, 2) := by decide +kernel
theorem dX13_walked_52 : decode cX13_walked 52 = .ok (.invokevirtual 107, 3) := by decide +kernel
theorem dX13_walked_55 : decode cX13_walked 55 = .ok (.ifCond .le 28, 3) := by decide +kernel
theorem dX13_walked_58 : decode cX13_walked 58 = .ok (.aload_n 0, 1) := by decide +kernel
theorem dX13_walked_59 : decode cX13_walked 59 = .ok (.iload 4, 2) := by decide +kernel
theorem dX13_walked_61 : decode cX13_walked 61 = .ok (.invokevirtual 224, 3) := by decide +kernel
theorem dX13_walked_64 : decode cX13_walked 64 = .ok (.ifCond .eq 19, 3) := by decide +kernel
theorem dX13_walked_67 : decode cX13_walked 67 = .ok (.aload_n 0, 1) := by decide +kernel
theorem dX13_walked_68 : decode cX13_walked 68 = .ok (.iload 5, 2) := by decide +kernel
theorem dX13_walked_70 : decode cX13_walked 70 = .ok (.invokevirtual 224, 3) := by decide +kernel
theorem dX13_walked_73 : decode cX13_walked 73 = .ok (.ifCond .eq 10, 3) := by decide +kernel
theorem dX13_walked_76 : decode cX13_walked 76 = .ok (.iload_n 2, 1) := by decide +kernel
theorem dX13_walked_77 : decode cX13_walked 77 = .ok (.iconst 1, 1) := by decide +kernel
theorem dX13_walked_78 : decode cX13_walked 78 = .ok (.iload 5, 2) := by decide +kernel
theorem dX13_walked_80 : decode cX13_walked 80 = .ok (.ishl, 1) := by decide +kernel
theorem dX13_walked_81 : decode cX13_walked 81 = .ok (.ior, 1) := by decide +kernel
theorem dX13_walked_82 : decode cX13_walked 82 = .ok (.istore_n 2, 1) := by decide +kernel
theorem dX13_walked_83 : decode cX13_walked 83 = .ok (.iinc 5 1, 3) := by decide +kernel
theorem dX13_walked_86 : decode cX13_walked 86 = .ok (.goto (-59), 3) := by decide +kernel
theorem dX13_walked_89 : decode cX13_walked 89 = .ok (.iinc 4 1, 3) := by decide +kernel
theorem dX13_walked_92 : decode cX13_walked 92 = .ok (.goto (-79), 3) := by decide +kernel
theorem dX13_walked_95 : decode cX13_walked 95 = .ok (.iinc 3 1, 3) := by decide +kernel
theorem dX13_walked_98 : decode cX13_walked 98 = .ok (.goto (-94), 3) := by decide +kernel
theorem dX13_walked_101 : decode cX13_walked 101 = .ok (.iload_n 2, 1) := by decide +kernel
theorem dX13_walked_102 : decode cX13_walked 102 = .ok (.ireturn, 1) := by decide +kernel
theorem dX13_ridden_0 : decode cX13_ridden 0 = .ok (.iload_n 1, 1) := by decide +kernel
theorem dX13_ridden_1 : decode cX13_ridden 1 = .ok (.istore_n 2, 1) := by decide +kernel
theorem dX13_ridden_2 : decode cX13_ridden 2 = .ok (.iconst 0, 1) := by decide +kernel
theorem dX13_ridden_3 : decode cX13_ridden 3 = .ok (.istore_n 3, 1) := by decide +kernel
theorem dX13_ridden_4 : decode cX13_ridden 4 = .ok (.iload_n 3, 1) := by decide +kernel
theorem dX13_ridden_5 : decode cX13_ridden 5 = .ok (.aload_n 0, 1) := by decide +kernel
theorem dX13_ridden_6 : decode cX13_ridden 6 = .ok (.getfield 7, 3) := by decide +kernel
theorem dX13_ridden_9 : decode cX13_ridden 9 = .ok (.iconst 2, 1) := by decide +kernel
theorem dX13_ridden_10 : decode cX13_ridden 10 = .ok (.iaload, 1) := by decide +kernel
theorem dX13_ridden_11 : decode cX13_ridden 11 = .ok (.if_icmp .ge 101, 3) := by decide +kernel
theorem dX13_ridden_14 : decode cX13_ridden 14 = .ok (.aload_n 0, 1) := by decide +kernel
theorem dX13_ridden_15 : decode cX13_ridden 15 = .ok (.iload_n 3, 1) := by decide +kernel
theorem dX13_ridden_16 : decode cX13_ridden 16 = .ok (.invokevirtual 185, 3) := by decide +kernel
theorem dX13_ridden_19 : decode cX13_ridden 19 = .ok (.ifCond .ne 6, 3) := by decide +kernel
theorem dX13_ridden_22 : decode cX13_ridden 22 = .ok (.goto 84, 3) := by decide +kernel
theorem dX13_ridden_25 : decode cX13_ridden 25 = .ok (.iconst 0, 1) := by decide +kernel
theorem dX13_ridden_26 : decode cX13_ridden 26 = .ok (.istore 4, 2) := by decide +kernel
theorem dX13_ridden_28 : decode cX13_ridden 28 = .ok (.iconst 0, 1) := by decide +kernel
theorem dX13_ridden_29 : decode cX13_ridden 29 = .ok (.istore 5, 2) := by decide +kernel
theorem dX13_ridden_31 : decode cX13_ridden 31 = .ok (.iload 5, 2) := by decide +kernel
theorem dX13_ridden_33 : decode cX13_ridden 33 = .ok (.aload_n 0, 1) := by decide +kernel
theorem dX13_ridden_34 : decode cX13_ridden 34 = .ok (.iload_n 3, 1) := by decide +kernel
theorem dX13_ridden_35 : decode cX13_ridden 35 = .ok (.iconst 5, 1) := by decide +kernel
theorem dX13_ridden_36 : decode cX13_ridden 36 = .ok (.invokevirtual 128, 3) := by decide +kernel
theorem dX13_ridden_39 : decode cX13_ridden 39 = .ok (.if_icmp .gt 67, 3) := by decide +kernel
theorem dX13_ridden_42 : decode cX13_ridden 42 = .ok (.aload_n 0, 1) := by decide +kernel
theorem dX13_ridden_43 : decode cX13_ridden 43 = .ok (.iload_n 3, 1) := by decide +kernel
theorem dX13_ridden_44 : decode cX13_ridden 44 = .ok (.iload 5, 2) := by decide +kernel
theorem dX13_ridden_46 : decode cX13_ridden 46 = .ok (.invokevirtual 227, 3) := by decide +kernel
theorem dX13_ridden_49 : decode cX13_ridden 49 = .ok (.istore 6, 2) := by decide +kernel
theorem dX13_ridden_51 : decode cX13_ridden 51 = .ok (.iload 4, 2) := by decide +kernel
theorem dX13_ridden_53 : decode cX13_ridden 53 = .ok (.ifCond .eq 19, 3) := by decide +kernel
theorem dX13_ridden_56 : decode cX13_ridden 56 = .ok (.aload_n 0, 1) := by decide +kernel
theorem dX13_ridden_57 : decode cX13_ridden 57 = .ok (.iload 6, 2) := by decide +kernel
theorem dX13_ridden_59 : decode cX13_ridden 59 = .ok (.invokevirtual 224, 3) := by decide +kernel
theorem dX13_ridden_62 : decode cX13_ridden 62 = .ok (.ifCond .eq 10, 3) := by decide +kernel
theorem dX13_ridden_65 : decode cX13_ridden 65 = .ok (.iload_n 2, 1) := by decide +kernel
theorem dX13_ridden_66 : decode cX13_ridden 66 = .ok (.iconst 1, 1) := by decide +kernel
theorem dX13_ridden_67 : decode cX13_ridden 67 = .ok (.iload 6, 2) := by decide +kernel
theorem dX13_ridden_69 : decode cX13_ridden 69 = .ok (.ishl, 1) := by decide +kernel
theorem dX13_ridden_70 : decode cX13_ridden 70 = .ok (.ior, 1) := by decide +kernel
theorem dX13_ridden_71 : decode cX13_ridden 71 = .ok (.istore_n 2, 1) := by decide +kernel
theorem dX13_ridden_72 : decode cX13_ridden 72 = .ok (.iload 4, 2) := by decide +kernel
theorem dX13_ridden_74 : decode cX13_ridden 74 = .ok (.iload_n 1, 1) := by decide +kernel
theorem dX13_ridden_75 : decode cX13_ridden 75 = .ok (.iload 6, 2) := by decide +kernel
theorem dX13_ridden_77 : decode cX13_ridden 77 = .ok (.invokestatic 252, 3) := by decide +kernel
theorem dX13_ridden_80 : decode cX13_ridden 80 = .ok (.ifCond .eq 16, 3) := by decide +kernel
theorem dX13_ridden_83 : decode cX13_ridden 83 = .ok (.aload_n 0, 1) := by decide +kernel
theorem dX13_ridden_84 : decode cX13_ridden 84 = .ok (.iload 6, 2) := by decide +kernel
theorem dX13_ridden_86 : decode cX13_ridden 86 = .ok (.invokevirtual 224, 3) := by decide +kernel
theorem dX13_ridden_89 : decode cX13_ridden 89 = .ok (.ifCond .eq 7, 3) := by decide +kernel
theorem dX13_ridden_92 : decode cX13_ridden 92 = .ok (.iconst 1, 1) := by decide +kernel
theorem dX13_ridden_93 : decode cX13_ridden 93 = .ok (.goto 4, 3) := by decide +kernel
theorem dX13_ridden_96 : decode cX13_ridden 96 = .ok (.iconst 0, 1) := by decide +kernel
theorem dX13_ridden_97 : decode cX13_ridden 97 = .ok (.ior, 1) := by decide +kernel
theorem dX13_ridden_98 : decode cX13_ridden 98 = .ok (.istore 4, 2) := by decide +kernel
theorem dX13_ridden_100 : decode cX13_ridden 100 = .ok (.iinc 5 1, 3) := by decide +kernel
theorem dX13_ridden_103 : decode cX13_ridden 103 = .ok (.goto (-72), 3) := by decide +kernel
theorem dX13_ridden_106 : decode cX13_ridden 106 = .ok (.iinc 3 1, 3) := by decide +kernel
theorem dX13_ridden_109 : decode cX13_ridden 109 = .ok (.goto (-105), 3) := by decide +kernel
theorem dX13_ridden_112 : decode cX13_ridden 112 = .ok (.iload_n 2, 1) := by decide +kernel
theorem dX13_ridden_113 : decode cX13_ridden 113 = .ok (.ireturn, 1) := by decide +kernel
theorem dX13_boardings_0 : decode cX13_boardings 0 = .ok (.aload_n 0, 1) := by decide +kernel
theorem dX13_boardings_1 : decode cX13_boardings 1 = .ok (.aload_n 0, 1) := by decide +kernel
theorem dX13_boardings_2 : decode cX13_boardings 2 = .ok (.iload_n 1, 1) := by decide +kernel
theorem dX13_boardings_3 : decode cX13_boardings 3 = .ok (.iload_n 2, 1) := by decide +kernel
theorem dX13_boardings_4 : decode cX13_boardings 4 = .ok (.invokevirtual 103, 3) := by decide +kernel
theorem dX13_boardings_7 : decode cX13_boardings 7 = .ok (.invokevirtual 217, 3) := by decide +kernel
theorem dX13_boardings_10 : decode cX13_boardings 10 = .ok (.ifCond .le 5, 3) := by decide +kernel
theorem dX13_boardings_13 : decode cX13_boardings 13 = .ok (.iconst 0, 1) := by decide +kernel
theorem dX13_boardings_14 : decode cX13_boardings 14 = .ok (.ireturn, 1) := by decide +kernel
theorem dX13_boardings_15 : decode cX13_boardings 15 = .ok (.iload_n 1, 1) := by decide +kernel
theorem dX13_boardings_16 : decode cX13_boardings 16 = .ok (.iload_n 2, 1) := by decide +kernel
theorem dX13_boardings_17 : decode cX13_boardings 17 = .ok (.if_icmp .ne 5, 3) := by decide +kernel
theorem dX13_boardings_20 : decode cX13_boardings 20 = .ok (.iconst 0, 1) := by decide +kernel
theorem dX13_boardings_21 : decode cX13_boardings 21 = .ok (.ireturn, 1) := by decide +kernel
theorem dX13_boardings_22 : decode cX13_boardings 22 = .ok (.aload_n 0, 1) := by decide +kernel
theorem dX13_boardings_23 : decode cX13_boardings 23 = .ok (.iload_n 1, 1) := by decide +kernel
theorem dX13_boardings_24 : decode cX13_boardings 24 = .ok (.invokevirtual 224, 3) := by decide +kernel
theorem dX13_boardings_27 : decode cX13_boardings 27 = .ok (.ifCond .eq 11, 3) := by decide +kernel
theorem dX13_boardings_30 : decode cX13_boardings 30 = .ok (.aload_n 0, 1) := by decide +kernel
theorem dX13_boardings_31 : decode cX13_boardings 31 = .ok (.iload_n 2, 1) := by decide +kernel
theorem dX13_boardings_32 : decode cX13_boardings 32 = .ok (.invokevirtual 224, 3) := by decide +kernel
theorem dX13_boardings_35 : decode cX13_boardings 35 = .ok (.ifCond .ne 9, 3) := by decide +kernel
theorem dX13_boardings_38 : decode cX13_boardings 38 = .ok (.aload_n 0, 1) := by decide +kernel
theorem dX13_boardings_39 : decode cX13_boardings 39 = .ok (.iconst 2, 1) := by decide +kernel
theorem dX13_boardings_40 : decode cX13_boardings 40 = .ok (.invokevirtual 94, 3) := by decide +kernel
theorem dX13_boardings_43 : decode cX13_boardings 43 = .ok (.ireturn, 1) := by decide +kernel
theorem dX13_boardings_44 : decode cX13_boardings 44 = .ok (.aload_n 0, 1) := by decide +kernel
theorem dX13_boardings_45 : decode cX13_boardings 45 = .ok (.iconst 1, 1) := by decide +kernel
theorem dX13_boardings_46 : decode cX13_boardings 46 = .ok (.iload_n 1, 1) := by decide +kernel
theorem dX13_boardings_47 : decode cX13_boardings 47 = .ok (.ishl, 1) := by decide +kernel
theorem dX13_boardings_48 : decode cX13_boardings 48 = .ok (.invokevirtual 255, 3) := by decide +kernel
theorem dX13_boardings_51 : decode cX13_boardings 51 = .ok (.istore_n 3, 1) := by decide +kernel
theorem dX13_boardings_52 : decode cX13_boardings 52 = .ok (.iconst 0, 1) := by decide +kernel
theorem dX13_boardings_53 : decode cX13_boardings 53 = .ok (.istore 4, 2) := by decide +kernel
theorem dX13_boardings_55 : decode cX13_boardings 55 = .ok (.iload 4, 2) := by decide +kernel
theorem dX13_boardings_57 : decode cX13_boardings 57 = .ok (.bipush 10, 2) := by decide +kernel
theorem dX13_boardings_59 : decode cX13_boardings 59 = .ok (.if_icmp .gt 30, 3) := by decide +kernel
theorem dX13_boardings_62 : decode cX13_boardings 62 = .ok (.iload_n 3, 1) := by decide +kernel
theorem dX13_boardings_63 : decode cX13_boardings 63 = .ok (.iload_n 2, 1) := by decide +kernel
theorem dX13_boardings_64 : decode cX13_boardings 64 = .ok (.invokestatic 252, 3) := by decide +kernel
theorem dX13_boardings_67 : decode cX13_boardings 67 = .ok (.ifCond .eq 6, 3) := by decide +kernel
theorem dX13_boardings_70 : decode cX13_boardings 70 = .ok (.iload 4, 2) := by decide +kernel
theorem dX13_boardings_72 : decode cX13_boardings 72 = .ok (.ireturn, 1) := by decide +kernel
theorem dX13_boardings_73 : decode cX13_boardings 73 = .ok (.aload_n 0, 1) := by decide +kernel
theorem dX13_boardings_74 : decode cX13_boardings 74 = .ok (.aload_n 0, 1) := by decide +kernel
theorem dX13_boardings_75 : decode cX13_boardings 75 = .ok (.iload_n 3, 1) := by decide +kernel
theorem dX13_boardings_76 : decode cX13_boardings 76 = .ok (.invokevirtual 258, 3) := by decide +kernel
theorem dX13_boardings_79 : decode cX13_boardings 79 = .ok (.invokevirtual 255, 3) := by decide +kernel
theorem dX13_boardings_82 : decode cX13_boardings 82 = .ok (.istore_n 3, 1) := by decide +kernel
theorem dX13_boardings_83 : decode cX13_boardings 83 = .ok (.iinc 4 1, 3) := by decide +kernel
theorem dX13_boardings_86 : decode cX13_boardings 86 = .ok (.goto (-31), 3) := by decide +kernel
theorem dX13_boardings_89 : decode cX13_boardings 89 = .ok (.aload_n 0, 1) := by decide +kernel
theorem dX13_boardings_90 : decode cX13_boardings 90 = .ok (.iconst 2, 1) := by decide +kernel
theorem dX13_boardings_91 : decode cX13_boardings 91 = .ok (.invokevirtual 94, 3) := by decide +kernel
theorem dX13_boardings_94 : decode cX13_boardings 94 = .ok (.ireturn, 1) := by decide +kernel
theorem dX13_fewestBoardings_0 : decode cX13_fewestBoardings 0 = .ok (.aload_n 0, 1) := by decide +kernel
theorem dX13_fewestBoardings_1 : decode cX13_fewestBoardings 1 = .ok (.iload_n 1, 1) := by decide +kernel
theorem dX13_fewestBoardings_2 : decode cX13_fewestBoardings 2 = .ok (.iload_n 2, 1) := by decide +kernel
theorem dX13_fewestBoardings_3 : decode cX13_fewestBoardings 3 = .ok (.invokevirtual 261, 3) := by decide +kernel
theorem dX13_fewestBoardings_6 : decode cX13_fewestBoardings 6 = .ok (.ireturn, 1) := by decide +kernel
theorem dX13_fewestBoardingsByTable_0 : decode cX13_fewestBoardingsByTable 0 = .ok (.aload_n 0, 1) := by decide +kernel
theorem dX13_fewestBoardingsByTable_1 : decode cX13_fewestBoardingsByTable 1 = .ok (.iload_n 1, 1) := by decide +kernel
theorem dX13_fewestBoardingsByTable_2 : decode cX13_fewestBoardingsByTable 2 = .ok (.iload_n 2, 1) := by decide +kernel
theorem dX13_fewestBoardingsByTable_3 : decode cX13_fewestBoardingsByTable 3 = .ok (.invokevirtual 261, 3) := by decide +kernel
theorem dX13_fewestBoardingsByTable_6 : decode cX13_fewestBoardingsByTable 6 = .ok (.ireturn, 1) := by decide +kernel
theorem dX13_cutOf_0 : decode cX13_cutOf 0 = .ok (.iconst 0, 1) := by decide +kernel
theorem dX13_cutOf_1 : decode cX13_cutOf 1 = .ok (.istore_n 2, 1) := by decide +kernel
theorem dX13_cutOf_2 : decode cX13_cutOf 2 = .ok (.iconst 0, 1) := by decide +kernel
theorem dX13_cutOf_3 : decode cX13_cutOf 3 = .ok (.istore_n 3, 1) := by decide +kernel
theorem dX13_cutOf_4 : decode cX13_cutOf 4 = .ok (.iload_n 3, 1) := by decide +kernel
theorem dX13_cutOf_5 : decode cX13_cutOf 5 = .ok (.aload_n 0, 1) := by decide +kernel
theorem dX13_cutOf_6 : decode cX13_cutOf 6 = .ok (.getfield 7, 3) := by decide +kernel
theorem dX13_cutOf_9 : decode cX13_cutOf 9 = .ok (.iconst 2, 1) := by decide +kernel
theorem dX13_cutOf_10 : decode cX13_cutOf 10 = .ok (.iaload, 1) := by decide +kernel
theorem dX13_cutOf_11 : decode cX13_cutOf 11 = .ok (.if_icmp .ge 83, 3) := by decide +kernel
theorem dX13_cutOf_14 : decode cX13_cutOf 14 = .ok (.aload_n 0, 1) := by decide +kernel
theorem dX13_cutOf_15 : decode cX13_cutOf 15 = .ok (.iload_n 3, 1) := by decide +kernel
theorem dX13_cutOf_16 : decode cX13_cutOf 16 = .ok (.invokevirtual 185, 3) := by decide +kernel
theorem dX13_cutOf_19 : decode cX13_cutOf 19 = .ok (.ifCond .ne 6, 3) := by decide +kernel
theorem dX13_cutOf_22 : decode cX13_cutOf 22 = .ok (.goto 66, 3) := by decide +kernel
theorem dX13_cutOf_25 : decode cX13_cutOf 25 = .ok (.iconst 0, 1) := by decide +kernel
theorem dX13_cutOf_26 : decode cX13_cutOf 26 = .ok (.istore 4, 2) := by decide +kernel
theorem dX13_cutOf_28 : decode cX13_cutOf 28 = .ok (.iload 4, 2) := by decide +kernel
theorem dX13_cutOf_30 : decode cX13_cutOf 30 = .ok (.aload_n 0, 1) := by decide +kernel
theorem dX13_cutOf_31 : decode cX13_cutOf 31 = .ok (.iload_n 3, 1) := by decide +kernel
theorem dX13_cutOf_32 : decode cX13_cutOf 32 = .ok (.iconst 5, 1) := by decide +kernel
theorem dX13_cutOf_33 : decode cX13_cutOf 33 = .ok (.invokevirtual 128, 3) := by decide +kernel
theorem dX13_cutOf_36 : decode cX13_cutOf 36 = .ok (.if_icmp .ge 52, 3) := by decide +kernel
theorem dX13_cutOf_39 : decode cX13_cutOf 39 = .ok (.iload_n 2, 1) := by decide +kernel
theorem dX13_cutOf_40 : decode cX13_cutOf 40 = .ok (.iload_n 1, 1) := by decide +kernel
theorem dX13_cutOf_41 : decode cX13_cutOf 41 = .ok (.aload_n 0, 1) := by decide +kernel
theorem dX13_cutOf_42 : decode cX13_cutOf 42 = .ok (.iload_n 3, 1) := by decide +kernel
theorem dX13_cutOf_43 : decode cX13_cutOf 43 = .ok (.iload 4, 2) := by decide +kernel
theorem dX13_cutOf_45 : decode cX13_cutOf 45 = .ok (.invokevirtual 227, 3) := by decide +kernel
theorem dX13_cutOf_48 : decode cX13_cutOf 48 = .ok (.invokestatic 252, 3) := by decide +kernel
theorem dX13_cutOf_51 : decode cX13_cutOf 51 = .ok (.ifCond .eq 28, 3) := by decide +kernel
theorem dX13_cutOf_54 : decode cX13_cutOf 54 = .ok (.iload_n 1, 1) := by decide +kernel
theorem dX13_cutOf_55 : decode cX13_cutOf 55 = .ok (.aload_n 0, 1) := by decide +kernel
theorem dX13_cutOf_56 : decode cX13_cutOf 56 = .ok (.iload_n 3, 1) := by decide +kernel
theorem dX13_cutOf_57 : decode cX13_cutOf 57 = .ok (.iload 4, 2) := by decide +kernel
theorem dX13_cutOf_59 : decode cX13_cutOf 59 = .ok (.iconst 1, 1) := by decide +kernel
theorem dX13_cutOf_60 : decode cX13_cutOf 60 = .ok (.iadd, 1) := by decide +kernel
theorem dX13_cutOf_61 : decode cX13_cutOf 61 = .ok (.invokevirtual 227, 3) := by decide +kernel
theorem dX13_cutOf_64 : decode cX13_cutOf 64 = .ok (.invokestatic 252, 3) := by decide +kernel
theorem dX13_cutOf_67 : decode cX13_cutOf 67 = .ok (.ifCond .ne 12, 3) := by decide +kernel
theorem dX13_cutOf_70 : decode cX13_cutOf 70 = .ok (.aload_n 0, 1) := by decide +kernel
theorem dX13_cutOf_71 : decode cX13_cutOf 71 = .ok (.iload_n 3, 1) := by decide +kernel
theorem dX13_cutOf_72 : decode cX13_cutOf 72 = .ok (.iconst 4, 1) := by decide +kernel
theorem dX13_cutOf_73 : decode cX13_cutOf 73 = .ok (.invokevirtual 128, 3) := by decide +kernel
theorem dX13_cutOf_76 : decode cX13_cutOf 76 = .ok (.goto 4, 3) := by decide +kernel
theorem dX13_cutOf_79 : decode cX13_cutOf 79 = .ok (.iconst 0, 1) := by decide +kernel
theorem dX13_cutOf_80 : decode cX13_cutOf 80 = .ok (.iadd, 1) := by decide +kernel
theorem dX13_cutOf_81 : decode cX13_cutOf 81 = .ok (.istore_n 2, 1) := by decide +kernel
theorem dX13_cutOf_82 : decode cX13_cutOf 82 = .ok (.iinc 4 1, 3) := by decide +kernel
theorem dX13_cutOf_85 : decode cX13_cutOf 85 = .ok (.goto (-57), 3) := by decide +kernel
theorem dX13_cutOf_88 : decode cX13_cutOf 88 = .ok (.iinc 3 1, 3) := by decide +kernel
theorem dX13_cutOf_91 : decode cX13_cutOf 91 = .ok (.goto (-87), 3) := by decide +kernel
theorem dX13_cutOf_94 : decode cX13_cutOf 94 = .ok (.iload_n 2, 1) := by decide +kernel
theorem dX13_cutOf_95 : decode cX13_cutOf 95 = .ok (.ireturn, 1) := by decide +kernel
theorem dX13_cut_0 : decode cX13_cut 0 = .ok (.aload_n 0, 1) := by decide +kernel
theorem dX13_cut_1 : decode cX13_cut 1 = .ok (.aload_n 0, 1) := by decide +kernel
theorem dX13_cut_2 : decode cX13_cut 2 = .ok (.iload_n 1, 1) := by decide +kernel
theorem dX13_cut_3 : decode cX13_cut 3 = .ok (.iload_n 2, 1) := by decide +kernel
theorem dX13_cut_4 : decode cX13_cut 4 = .ok (.invokevirtual 103, 3) := by decide +kernel
theorem dX13_cut_7 : decode cX13_cut 7 = .ok (.ifCond .ne 7, 3) := by decide +kernel
theorem dX13_cut_10 : decode cX13_cut 10 = .ok (.iconst 1, 1) := by decide +kernel
theorem dX13_cut_11 : decode cX13_cut 11 = .ok (.goto 13, 3) := by decide +kernel
theorem dX13_cut_14 : decode cX13_cut 14 = .ok (.iload_n 1, 1) := by decide +kernel
theorem dX13_cut_15 : decode cX13_cut 15 = .ok (.iload_n 2, 1) := by decide +kernel
theorem dX13_cut_16 : decode cX13_cut 16 = .ok (.if_icmp .ne 7, 3) := by decide +kernel
theorem dX13_cut_19 : decode cX13_cut 19 = .ok (.iconst 2, 1) := by decide +kernel
theorem dX13_cut_20 : decode cX13_cut 20 = .ok (.goto 4, 3) := by decide +kernel
theorem dX13_cut_23 : decode cX13_cut 23 = .ok (.iconst 0, 1) := by decide +kernel
theorem dX13_cut_24 : decode cX13_cut 24 = .ok (.putfield 28, 3) := by decide +kernel
theorem dX13_cut_27 : decode cX13_cut 27 = .ok (.aload_n 0, 1) := by decide +kernel
theorem dX13_cut_28 : decode cX13_cut 28 = .ok (.getfield 28, 3) := by decide +kernel
theorem dX13_cut_31 : decode cX13_cut 31 = .ok (.ifCond .le 5, 3) := by decide +kernel
theorem dX13_cut_34 : decode cX13_cut 34 = .ok (.iconst 0, 1) := by decide +kernel
theorem dX13_cut_35 : decode cX13_cut 35 = .ok (.ireturn, 1) := by decide +kernel
theorem dX13_cut_36 : decode cX13_cut 36 = .ok (.ldc 235, 2) := by decide +kernel
theorem dX13_cut_38 : decode cX13_cut 38 = .ok (.istore_n 3, 1) := by decide +kernel
theorem dX13_cut_39 : decode cX13_cut 39 = .ok (.iconst 0, 1) := by decide +kernel
theorem dX13_cut_40 : decode cX13_cut 40 = .ok (.istore 4, 2) := by decide +kernel
theorem dX13_cut_42 : decode cX13_cut 42 = .ok (.iload 4, 2) := by decide +kernel
theorem dX13_cut_44 : decode cX13_cut 44 = .ok (.iconst 1, 1) := by decide +kernel
theorem dX13_cut_45 : decode cX13_cut 45 = .ok (.aload_n 0, 1) := by decide +kernel
theorem dX13_cut_46 : decode cX13_cut 46 = .ok (.getfield 7, 3) := by decide +kernel
theorem dX13_cut_49 : decode cX13_cut 49 = .ok (.iconst 0, 1) := by decide +kernel
theorem dX13_cut_50 : decode cX13_cut 50 = .ok (.iaload, 1) := by decide +kernel
theorem dX13_cut_51 : decode cX13_cut 51 = .ok (.ishl, 1) := by decide +kernel
theorem dX13_cut_52 : decode cX13_cut 52 = .ok (.if_icmp .ge 51, 3) := by decide +kernel
theorem dX13_cut_55 : decode cX13_cut 55 = .ok (.iload 4, 2) := by decide +kernel
theorem dX13_cut_57 : decode cX13_cut 57 = .ok (.iload_n 1, 1) := by decide +kernel
theorem dX13_cut_58 : decode cX13_cut 58 = .ok (.invokestatic 252, 3) := by decide +kernel
theorem dX13_cut_61 : decode cX13_cut 61 = .ok (.ifCond .eq 36, 3) := by decide +kernel
theorem dX13_cut_64 : decode cX13_cut 64 = .ok (.iload 4, 2) := by decide +kernel
theorem dX13_cut_66 : decode cX13_cut 66 = .ok (.iload_n 2, 1) := by decide +kernel
theorem dX13_cut_67 : decode cX13_cut 67 = .ok (.invokestatic 252, 3) := by decide +kernel
theorem dX13_cut_70 : decode cX13_cut 70 = .ok (.ifCond .eq 6, 3) := by decide +kernel
theorem dX13_cut_73 : decode cX13_cut 73 = .ok (.goto 24, 3) := by decide +kernel
theorem dX13_cut_76 : decode cX13_cut 76 = .ok (.aload_n 0, 1) := by decide +kernel
theorem dX13_cut_77 : decode cX13_cut 77 = .ok (.iload 4, 2) := by decide +kernel
theorem dX13_cut_79 : decode cX13_cut 79 = .ok (.invokevirtual 264, 3) := by decide +kernel
theorem dX13_cut_82 : decode cX13_cut 82 = .ok (.istore 5, 2) := by decide +kernel
theorem dX13_cut_84 : decode cX13_cut 84 = .ok (.iload 5, 2) := by decide +kernel
theorem dX13_cut_86 : decode cX13_cut 86 = .ok (.iload_n 3, 1) := by decide +kernel
theorem dX13_cut_87 : decode cX13_cut 87 = .ok (.if_icmp .ge 8, 3) := by decide +kernel
theorem dX13_cut_90 : decode cX13_cut 90 = .ok (.iload 5, 2) := by decide +kernel
theorem dX13_cut_92 : decode cX13_cut 92 = .ok (.goto 4, 3) := by decide +kernel
theorem dX13_cut_95 : decode cX13_cut 95 = .ok (.iload_n 3, 1) := by decide +kernel
theorem dX13_cut_96 : decode cX13_cut 96 = .ok (.istore_n 3, 1) := by decide +kernel
theorem dX13_cut_97 : decode cX13_cut 97 = .ok (.iinc 4 1, 3) := by decide +kernel
theorem dX13_cut_100 : decode cX13_cut 100 = .ok (.goto (-58), 3) := by decide +kernel
theorem dX13_cut_103 : decode cX13_cut 103 = .ok (.iload_n 3, 1) := by decide +kernel
theorem dX13_cut_104 : decode cX13_cut 104 = .ok (.ireturn, 1) := by decide +kernel
theorem dX13_flow_0 : decode cX13_flow 0 = .ok (.aload_n 0, 1) := by decide +kernel
theorem dX13_flow_1 : decode cX13_flow 1 = .ok (.iload_n 1, 1) := by decide +kernel
theorem dX13_flow_2 : decode cX13_flow 2 = .ok (.iload_n 2, 1) := by decide +kernel
theorem dX13_flow_3 : decode cX13_flow 3 = .ok (.invokevirtual 267, 3) := by decide +kernel
theorem dX13_flow_6 : decode cX13_flow 6 = .ok (.ireturn, 1) := by decide +kernel
theorem dX13_smallestCut_0 : decode cX13_smallestCut 0 = .ok (.aload_n 0, 1) := by decide +kernel
theorem dX13_smallestCut_1 : decode cX13_smallestCut 1 = .ok (.iload_n 1, 1) := by decide +kernel
theorem dX13_smallestCut_2 : decode cX13_smallestCut 2 = .ok (.iload_n 2, 1) := by decide +kernel
theorem dX13_smallestCut_3 : decode cX13_smallestCut 3 = .ok (.invokevirtual 267, 3) := by decide +kernel
theorem dX13_smallestCut_6 : decode cX13_smallestCut 6 = .ok (.ireturn, 1) := by decide +kernel
theorem dX13_seatsLeft_0 : decode cX13_seatsLeft 0 = .ok (.aload_n 0, 1) := by decide +kernel
theorem dX13_seatsLeft_1 : decode cX13_seatsLeft 1 = .ok (.aload_n 0, 1) := by decide +kernel
theorem dX13_seatsLeft_2 : decode cX13_seatsLeft 2 = .ok (.iload_n 1, 1) := by decide +kernel
theorem dX13_seatsLeft_3 : decode cX13_seatsLeft 3 = .ok (.invokevirtual 150, 3) := by decide +kernel
theorem dX13_seatsLeft_6 : decode cX13_seatsLeft 6 = .ok (.ifCond .ne 7, 3) := by decide +kernel
theorem dX13_seatsLeft_9 : decode cX13_seatsLeft 9 = .ok (.iconst 1, 1) := by decide +kernel
theorem dX13_seatsLeft_10 : decode cX13_seatsLeft 10 = .ok (.goto 20, 3) := by decide +kernel
theorem dX13_seatsLeft_13 : decode cX13_seatsLeft 13 = .ok (.aload_n 0, 1) := by decide +kernel
theorem dX13_seatsLeft_14 : decode cX13_seatsLeft 14 = .ok (.iload_n 1, 1) := by decide +kernel
theorem dX13_seatsLeft_15 : decode cX13_seatsLeft 15 = .ok (.iload_n 2, 1) := by decide +kernel
theorem dX13_seatsLeft_16 : decode cX13_seatsLeft 16 = .ok (.iload_n 3, 1) := by decide +kernel
theorem dX13_seatsLeft_17 : decode cX13_seatsLeft 17 = .ok (.iload 4, 2) := by decide +kernel
theorem dX13_seatsLeft_19 : decode cX13_seatsLeft 19 = .ok (.invokevirtual 181, 3) := by decide +kernel
theorem dX13_seatsLeft_22 : decode cX13_seatsLeft 22 = .ok (.ifCond .ne 7, 3) := by decide +kernel
theorem dX13_seatsLeft_25 : decode cX13_seatsLeft 25 = .ok (.iconst 2, 1) := by decide +kernel
theorem dX13_seatsLeft_26 : decode cX13_seatsLeft 26 = .ok (.goto 4, 3) := by decide +kernel
theorem dX13_seatsLeft_29 : decode cX13_seatsLeft 29 = .ok (.iconst 0, 1) := by decide +kernel
theorem dX13_seatsLeft_30 : decode cX13_seatsLeft 30 = .ok (.putfield 28, 3) := by decide +kernel
theorem dX13_seatsLeft_33 : decode cX13_seatsLeft 33 = .ok (.aload_n 0, 1) := by decide +kernel
theorem dX13_seatsLeft_34 : decode cX13_seatsLeft 34 = .ok (.getfield 28, 3) := by decide +kernel
theorem dX13_seatsLeft_37 : decode cX13_seatsLeft 37 = .ok (.ifCond .le 7, 3) := by decide +kernel
theorem dX13_seatsLeft_40 : decode cX13_seatsLeft 40 = .ok (.iconst 0, 1) := by decide +kernel
theorem dX13_seatsLeft_41 : decode cX13_seatsLeft 41 = .ok (.goto 12, 3) := by decide +kernel
theorem dX13_seatsLeft_44 : decode cX13_seatsLeft 44 = .ok (.aload_n 0, 1) := by decide +kernel
theorem dX13_seatsLeft_45 : decode cX13_seatsLeft 45 = .ok (.iload_n 1, 1) := by decide +kernel
theorem dX13_seatsLeft_46 : decode cX13_seatsLeft 46 = .ok (.iload_n 2, 1) := by decide +kernel
theorem dX13_seatsLeft_47 : decode cX13_seatsLeft 47 = .ok (.iload_n 3, 1) := by decide +kernel
theorem dX13_seatsLeft_48 : decode cX13_seatsLeft 48 = .ok (.iload 4, 2) := by decide +kernel
theorem dX13_seatsLeft_50 : decode cX13_seatsLeft 50 = .ok (.invokevirtual 188, 3) := by decide +kernel
theorem dX13_seatsLeft_53 : decode cX13_seatsLeft 53 = .ok (.ireturn, 1) := by decide +kernel
theorem dX13_freeSeats_0 : decode cX13_freeSeats 0 = .ok (.aload_n 0, 1) := by decide +kernel
theorem dX13_freeSeats_1 : decode cX13_freeSeats 1 = .ok (.iload_n 1, 1) := by decide +kernel
theorem dX13_freeSeats_2 : decode cX13_freeSeats 2 = .ok (.iload_n 2, 1) := by decide +kernel
theorem dX13_freeSeats_3 : decode cX13_freeSeats 3 = .ok (.iload_n 3, 1) := by decide +kernel
theorem dX13_freeSeats_4 : decode cX13_freeSeats 4 = .ok (.iload 4, 2) := by decide +kernel
theorem dX13_freeSeats_6 : decode cX13_freeSeats 6 = .ok (.invokevirtual 270, 3) := by decide +kernel
theorem dX13_freeSeats_9 : decode cX13_freeSeats 9 = .ok (.ireturn, 1) := by decide +kernel
theorem dX13_freeSeatsBySweep_0 : decode cX13_freeSeatsBySweep 0 = .ok (.aload_n 0, 1) := by decide +kernel
theorem dX13_freeSeatsBySweep_1 : decode cX13_freeSeatsBySweep 1 = .ok (.iload_n 1, 1) := by decide +kernel
theorem dX13_freeSeatsBySweep_2 : decode cX13_freeSeatsBySweep 2 = .ok (.iload_n 2, 1) := by decide +kernel
theorem dX13_freeSeatsBySweep_3 : decode cX13_freeSeatsBySweep 3 = .ok (.iload_n 3, 1) := by decide +kernel
theorem dX13_freeSeatsBySweep_4 : decode cX13_freeSeatsBySweep 4 = .ok (.iload 4, 2) := by decide +kernel
theorem dX13_freeSeatsBySweep_6 : decode cX13_freeSeatsBySweep 6 = .ok (.invokevirtual 270, 3) := by decide +kernel
theorem dX13_freeSeatsBySweep_9 : decode cX13_freeSeatsBySweep 9 = .ok (.ireturn, 1) := by decide +kernel
theorem dX13_ticketCount_0 : decode cX13_ticketCount 0 = .ok (.aload_n 0, 1) := by decide +kernel
theorem dX13_ticketCount_1 : decode cX13_ticketCount 1 = .ok (.aload_n 0, 1) := by decide +kernel
theorem dX13_ticketCount_2 : decode cX13_ticketCount 2 = .ok (.getfield 7, 3) := by decide +kernel
theorem dX13_ticketCount_5 : decode cX13_ticketCount 5 = .ok (.iconst 3, 1) := by decide +kernel
theorem dX13_ticketCount_6 : decode cX13_ticketCount 6 = .ok (.iaload, 1) := by decide +kernel
theorem dX13_ticketCount_7 : decode cX13_ticketCount 7 = .ok (.invokevirtual 214, 3) := by decide +kernel
theorem dX13_ticketCount_10 : decode cX13_ticketCount 10 = .ok (.ireturn, 1) := by decide +kernel
theorem dX13_ticketAt_0 : decode cX13_ticketAt 0 = .ok (.aload_n 0, 1) := by decide +kernel
theorem dX13_ticketAt_1 : decode cX13_ticketAt 1 = .ok (.iload_n 1, 1) := by decide +kernel
theorem dX13_ticketAt_2 : decode cX13_ticketAt 2 = .ok (.iconst 0, 1) := by decide +kernel
theorem dX13_ticketAt_3 : decode cX13_ticketAt 3 = .ok (.aload_n 0, 1) := by decide +kernel
theorem dX13_ticketAt_4 : decode cX13_ticketAt 4 = .ok (.getfield 7, 3) := by decide +kernel
theorem dX13_ticketAt_7 : decode cX13_ticketAt 7 = .ok (.iconst 3, 1) := by decide +kernel
theorem dX13_ticketAt_8 : decode cX13_ticketAt 8 = .ok (.iaload, 1) := by decide +kernel
theorem dX13_ticketAt_9 : decode cX13_ticketAt 9 = .ok (.iconst 1, 1) := by decide +kernel
theorem dX13_ticketAt_10 : decode cX13_ticketAt 10 = .ok (.isub, 1) := by decide +kernel
theorem dX13_ticketAt_11 : decode cX13_ticketAt 11 = .ok (.invokestatic 79, 3) := by decide +kernel
theorem dX13_ticketAt_14 : decode cX13_ticketAt 14 = .ok (.invokevirtual 217, 3) := by decide +kernel
theorem dX13_ticketAt_17 : decode cX13_ticketAt 17 = .ok (.ifCond .le 7, 3) := by decide +kernel
theorem dX13_ticketAt_20 : decode cX13_ticketAt 20 = .ok (.iconst 0, 1) := by decide +kernel
theorem dX13_ticketAt_21 : decode cX13_ticketAt 21 = .ok (.goto 9, 3) := by decide +kernel
theorem dX13_ticketAt_24 : decode cX13_ticketAt 24 = .ok (.aload_n 0, 1) := by decide +kernel
theorem dX13_ticketAt_25 : decode cX13_ticketAt 25 = .ok (.iload_n 1, 1) := by decide +kernel
theorem dX13_ticketAt_26 : decode cX13_ticketAt 26 = .ok (.iconst 0, 1) := by decide +kernel
theorem dX13_ticketAt_27 : decode cX13_ticketAt 27 = .ok (.invokevirtual 147, 3) := by decide +kernel
theorem dX13_ticketAt_30 : decode cX13_ticketAt 30 = .ok (.ireturn, 1) := by decide +kernel
theorem dX13_ofTicket_0 : decode cX13_ofTicket 0 = .ok (.aload_n 0, 1) := by decide +kernel
theorem dX13_ofTicket_1 : decode cX13_ofTicket 1 = .ok (.aload_n 0, 1) := by decide +kernel
theorem dX13_ofTicket_2 : decode cX13_ofTicket 2 = .ok (.iload_n 1, 1) := by decide +kernel
theorem dX13_ofTicket_3 : decode cX13_ofTicket 3 = .ok (.invokevirtual 197, 3) := by decide +kernel
theorem dX13_ofTicket_6 : decode cX13_ofTicket 6 = .ok (.ifCond .lt 7, 3) := by decide +kernel
theorem dX13_ofTicket_9 : decode cX13_ofTicket 9 = .ok (.iconst 1, 1) := by decide +kernel
theorem dX13_ofTicket_10 : decode cX13_ofTicket 10 = .ok (.goto 4, 3) := by decide +kernel
theorem dX13_ofTicket_13 : decode cX13_ofTicket 13 = .ok (.iconst 0, 1) := by decide +kernel
theorem dX13_ofTicket_14 : decode cX13_ofTicket 14 = .ok (.invokevirtual 217, 3) := by decide +kernel
theorem dX13_ofTicket_17 : decode cX13_ofTicket 17 = .ok (.ifCond .le 7, 3) := by decide +kernel
theorem dX13_ofTicket_20 : decode cX13_ofTicket 20 = .ok (.iconst 0, 1) := by decide +kernel
theorem dX13_ofTicket_21 : decode cX13_ofTicket 21 = .ok (.goto 13, 3) := by decide +kernel
theorem dX13_ofTicket_24 : decode cX13_ofTicket 24 = .ok (.aload_n 0, 1) := by decide +kernel
theorem dX13_ofTicket_25 : decode cX13_ofTicket 25 = .ok (.aload_n 0, 1) := by decide +kernel
theorem dX13_ofTicket_26 : decode cX13_ofTicket 26 = .ok (.iload_n 1, 1) := by decide +kernel
theorem dX13_ofTicket_27 : decode cX13_ofTicket 27 = .ok (.invokevirtual 197, 3) := by decide +kernel
theorem dX13_ofTicket_30 : decode cX13_ofTicket 30 = .ok (.iload_n 2, 1) := by decide +kernel
theorem dX13_ofTicket_31 : decode cX13_ofTicket 31 = .ok (.invokevirtual 147, 3) := by decide +kernel
theorem dX13_ofTicket_34 : decode cX13_ofTicket 34 = .ok (.ireturn, 1) := by decide +kernel
theorem dX13_ticketLine_0 : decode cX13_ticketLine 0 = .ok (.aload_n 0, 1) := by decide +kernel
theorem dX13_ticketLine_1 : decode cX13_ticketLine 1 = .ok (.iload_n 1, 1) := by decide +kernel
theorem dX13_ticketLine_2 : decode cX13_ticketLine 2 = .ok (.iconst 1, 1) := by decide +kernel
theorem dX13_ticketLine_3 : decode cX13_ticketLine 3 = .ok (.invokevirtual 273, 3) := by decide +kernel
theorem dX13_ticketLine_6 : decode cX13_ticketLine 6 = .ok (.ireturn, 1) := by decide +kernel
theorem dX13_ticketTrip_0 : decode cX13_ticketTrip 0 = .ok (.aload_n 0, 1) := by decide +kernel
theorem dX13_ticketTrip_1 : decode cX13_ticketTrip 1 = .ok (.iload_n 1, 1) := by decide +kernel
theorem dX13_ticketTrip_2 : decode cX13_ticketTrip 2 = .ok (.iconst 2, 1) := by decide +kernel
theorem dX13_ticketTrip_3 : decode cX13_ticketTrip 3 = .ok (.invokevirtual 273, 3) := by decide +kernel
theorem dX13_ticketTrip_6 : decode cX13_ticketTrip 6 = .ok (.ireturn, 1) := by decide +kernel
theorem dX13_ticketFrom_0 : decode cX13_ticketFrom 0 = .ok (.aload_n 0, 1) := by decide +kernel
theorem dX13_ticketFrom_1 : decode cX13_ticketFrom 1 = .ok (.iload_n 1, 1) := by decide +kernel
theorem dX13_ticketFrom_2 : decode cX13_ticketFrom 2 = .ok (.iconst 3, 1) := by decide +kernel
theorem dX13_ticketFrom_3 : decode cX13_ticketFrom 3 = .ok (.invokevirtual 273, 3) := by decide +kernel
theorem dX13_ticketFrom_6 : decode cX13_ticketFrom 6 = .ok (.ireturn, 1) := by decide +kernel
theorem dX13_ticketTo_0 : decode cX13_ticketTo 0 = .ok (.aload_n 0, 1) := by decide +kernel
theorem dX13_ticketTo_1 : decode cX13_ticketTo 1 = .ok (.iload_n 1, 1) := by decide +kernel
theorem dX13_ticketTo_2 : decode cX13_ticketTo 2 = .ok (.iconst 4, 1) := by decide +kernel
theorem dX13_ticketTo_3 : decode cX13_ticketTo 3 = .ok (.invokevirtual 273, 3) := by decide +kernel
theorem dX13_ticketTo_6 : decode cX13_ticketTo 6 = .ok (.ireturn, 1) := by decide +kernel
theorem dX13_ticketPrice_0 : decode cX13_ticketPrice 0 = .ok (.aload_n 0, 1) := by decide +kernel
theorem dX13_ticketPrice_1 : decode cX13_ticketPrice 1 = .ok (.iload_n 1, 1) := by decide +kernel
theorem dX13_ticketPrice_2 : decode cX13_ticketPrice 2 = .ok (.iconst 5, 1) := by decide +kernel
theorem dX13_ticketPrice_3 : decode cX13_ticketPrice 3 = .ok (.invokevirtual 273, 3) := by decide +kernel
theorem dX13_ticketPrice_6 : decode cX13_ticketPrice 6 = .ok (.ireturn, 1) := by decide +kernel
theorem dX13_income_0 : decode cX13_income 0 = .ok (.aload_n 0, 1) := by decide +kernel
theorem dX13_income_1 : decode cX13_income 1 = .ok (.aload_n 0, 1) := by decide +kernel
theorem dX13_income_2 : decode cX13_income 2 = .ok (.getfield 7, 3) := by decide +kernel
theorem dX13_income_5 : decode cX13_income 5 = .ok (.bipush 7, 2) := by decide +kernel
theorem dX13_income_7 : decode cX13_income 7 = .ok (.iaload, 1) := by decide +kernel
theorem dX13_income_8 : decode cX13_income 8 = .ok (.invokevirtual 214, 3) := by decide +kernel
theorem dX13_income_11 : decode cX13_income 11 = .ok (.ireturn, 1) := by decide +kernel
theorem dX13_refundedCoins_0 : decode cX13_refundedCoins 0 = .ok (.aload_n 0, 1) := by decide +kernel
theorem dX13_refundedCoins_1 : decode cX13_refundedCoins 1 = .ok (.aload_n 0, 1) := by decide +kernel
theorem dX13_refundedCoins_2 : decode cX13_refundedCoins 2 = .ok (.getfield 7, 3) := by decide +kernel
theorem dX13_refundedCoins_5 : decode cX13_refundedCoins 5 = .ok (.bipush 8, 2) := by decide +kernel
theorem dX13_refundedCoins_7 : decode cX13_refundedCoins 7 = .ok (.iaload, 1) := by decide +kernel
theorem dX13_refundedCoins_8 : decode cX13_refundedCoins 8 = .ok (.invokevirtual 214, 3) := by decide +kernel
theorem dX13_refundedCoins_11 : decode cX13_refundedCoins 11 = .ok (.ireturn, 1) := by decide +kernel
theorem dX13_usedTickets_0 : decode cX13_usedTickets 0 = .ok (.aload_n 0, 1) := by decide +kernel
theorem dX13_usedTickets_1 : decode cX13_usedTickets 1 = .ok (.aload_n 0, 1) := by decide +kernel
theorem dX13_usedTickets_2 : decode cX13_usedTickets 2 = .ok (.getfield 7, 3) := by decide +kernel
theorem dX13_usedTickets_5 : decode cX13_usedTickets 5 = .ok (.bipush 9, 2) := by decide +kernel
theorem dX13_usedTickets_7 : decode cX13_usedTickets 7 = .ok (.iaload, 1) := by decide +kernel
theorem dX13_usedTickets_8 : decode cX13_usedTickets 8 = .ok (.invokevirtual 214, 3) := by decide +kernel
theorem dX13_usedTickets_11 : decode cX13_usedTickets 11 = .ok (.ireturn, 1) := by decide +kernel
theorem dX13_isLineAhead_0 : decode cX13_isLineAhead 0 = .ok (.aload_n 0, 1) := by decide +kernel
theorem dX13_isLineAhead_1 : decode cX13_isLineAhead 1 = .ok (.iload_n 1, 1) := by decide +kernel
theorem dX13_isLineAhead_2 : decode cX13_isLineAhead 2 = .ok (.invokevirtual 153, 3) := by decide +kernel
theorem dX13_isLineAhead_5 : decode cX13_isLineAhead 5 = .ok (.aload_n 0, 1) := by decide +kernel
theorem dX13_isLineAhead_6 : decode cX13_isLineAhead 6 = .ok (.iload_n 2, 1) := by decide +kernel
theorem dX13_isLineAhead_7 : decode cX13_isLineAhead 7 = .ok (.invokevirtual 153, 3) := by decide +kernel
theorem dX13_isLineAhead_10 : decode cX13_isLineAhead 10 = .ok (.if_icmp .eq 22, 3) := by decide +kernel
theorem dX13_isLineAhead_13 : decode cX13_isLineAhead 13 = .ok (.aload_n 0, 1) := by decide +kernel
theorem dX13_isLineAhead_14 : decode cX13_isLineAhead 14 = .ok (.iload_n 1, 1) := by decide +kernel
theorem dX13_isLineAhead_15 : decode cX13_isLineAhead 15 = .ok (.invokevirtual 153, 3) := by decide +kernel
theorem dX13_isLineAhead_18 : decode cX13_isLineAhead 18 = .ok (.aload_n 0, 1) := by decide +kernel
theorem dX13_isLineAhead_19 : decode cX13_isLineAhead 19 = .ok (.iload_n 2, 1) := by decide +kernel
theorem dX13_isLineAhead_20 : decode cX13_isLineAhead 20 = .ok (.invokevirtual 153, 3) := by decide +kernel
theorem dX13_isLineAhead_23 : decode cX13_isLineAhead 23 = .ok (.if_icmp .le 7, 3) := by decide +kernel
theorem dX13_isLineAhead_26 : decode cX13_isLineAhead 26 = .ok (.iconst 1, 1) := by decide +kernel
theorem dX13_isLineAhead_27 : decode cX13_isLineAhead 27 = .ok (.goto 4, 3) := by decide +kernel
theorem dX13_isLineAhead_30 : decode cX13_isLineAhead 30 = .ok (.iconst 0, 1) := by decide +kernel
theorem dX13_isLineAhead_31 : decode cX13_isLineAhead 31 = .ok (.ireturn, 1) := by decide +kernel
theorem dX13_isLineAhead_32 : decode cX13_isLineAhead 32 = .ok (.aload_n 0, 1) := by decide +kernel
theorem dX13_isLineAhead_33 : decode cX13_isLineAhead 33 = .ok (.iload_n 1, 1) := by decide +kernel
theorem dX13_isLineAhead_34 : decode cX13_isLineAhead 34 = .ok (.iconst 4, 1) := by decide +kernel
theorem dX13_isLineAhead_35 : decode cX13_isLineAhead 35 = .ok (.invokevirtual 128, 3) := by decide +kernel
theorem dX13_isLineAhead_38 : decode cX13_isLineAhead 38 = .ok (.aload_n 0, 1) := by decide +kernel
theorem dX13_isLineAhead_39 : decode cX13_isLineAhead 39 = .ok (.iload_n 2, 1) := by decide +kernel
theorem dX13_isLineAhead_40 : decode cX13_isLineAhead 40 = .ok (.iconst 4, 1) := by decide +kernel
theorem dX13_isLineAhead_41 : decode cX13_isLineAhead 41 = .ok (.invokevirtual 128, 3) := by decide +kernel
theorem dX13_isLineAhead_44 : decode cX13_isLineAhead 44 = .ok (.if_icmp .lt 23, 3) := by decide +kernel
theorem dX13_isLineAhead_47 : decode cX13_isLineAhead 47 = .ok (.aload_n 0, 1) := by decide +kernel
theorem dX13_isLineAhead_48 : decode cX13_isLineAhead 48 = .ok (.iload_n 1, 1) := by decide +kernel
theorem dX13_isLineAhead_49 : decode cX13_isLineAhead 49 = .ok (.iconst 4, 1) := by decide +kernel
theorem dX13_isLineAhead_50 : decode cX13_isLineAhead 50 = .ok (.invokevirtual 128, 3) := by decide +kernel
theorem dX13_isLineAhead_53 : decode cX13_isLineAhead 53 = .ok (.aload_n 0, 1) := by decide +kernel
theorem dX13_isLineAhead_54 : decode cX13_isLineAhead 54 = .ok (.iload_n 2, 1) := by decide +kernel
theorem dX13_isLineAhead_55 : decode cX13_isLineAhead 55 = .ok (.iconst 4, 1) := by decide +kernel
theorem dX13_isLineAhead_56 : decode cX13_isLineAhead 56 = .ok (.invokevirtual 128, 3) := by decide +kernel
theorem dX13_isLineAhead_59 : decode cX13_isLineAhead 59 = .ok (.if_icmp .ne 12, 3) := by decide +kernel
theorem dX13_isLineAhead_62 : decode cX13_isLineAhead 62 = .ok (.iload_n 1, 1) := by decide +kernel
theorem dX13_isLineAhead_63 : decode cX13_isLineAhead 63 = .ok (.iload_n 2, 1) := by decide +kernel
theorem dX13_isLineAhead_64 : decode cX13_isLineAhead 64 = .ok (.if_icmp .ge 7, 3) := by decide +kernel
theorem dX13_isLineAhead_67 : decode cX13_isLineAhead 67 = .ok (.iconst 1, 1) := by decide +kernel
theorem dX13_isLineAhead_68 : decode cX13_isLineAhead 68 = .ok (.goto 4, 3) := by decide +kernel
theorem dX13_isLineAhead_71 : decode cX13_isLineAhead 71 = .ok (.iconst 0, 1) := by decide +kernel
theorem dX13_isLineAhead_72 : decode cX13_isLineAhead 72 = .ok (.ireturn, 1) := by decide +kernel
theorem dX13_ringsOf_0 : decode cX13_ringsOf 0 = .ok (.iconst 0, 1) := by decide +kernel
theorem dX13_ringsOf_1 : decode cX13_ringsOf 1 = .ok (.istore_n 2, 1) := by decide +kernel
theorem dX13_ringsOf_2 : decode cX13_ringsOf 2 = .ok (.iconst 0, 1) := by decide +kernel
theorem dX13_ringsOf_3 : decode cX13_ringsOf 3 = .ok (.istore_n 3, 1) := by decide +kernel
theorem dX13_ringsOf_4 : decode cX13_ringsOf 4 = .ok (.iload_n 3, 1) := by decide +kernel
theorem dX13_ringsOf_5 : decode cX13_ringsOf 5 = .ok (.aload_n 0, 1) := by decide +kernel
theorem dX13_ringsOf_6 : decode cX13_ringsOf 6 = .ok (.getfield 7, 3) := by decide +kernel
theorem dX13_ringsOf_9 : decode cX13_ringsOf 9 = .ok (.iconst 2, 1) := by decide +kernel
theorem dX13_ringsOf_10 : decode cX13_ringsOf 10 = .ok (.iaload, 1) := by decide +kernel
theorem dX13_ringsOf_11 : decode cX13_ringsOf 11 = .ok (.if_icmp .ge 26, 3) := by decide +kernel
theorem dX13_ringsOf_14 : decode cX13_ringsOf 14 = .ok (.iload_n 2, 1) := by decide +kernel
theorem dX13_ringsOf_15 : decode cX13_ringsOf 15 = .ok (.aload_n 0, 1) := by decide +kernel
theorem dX13_ringsOf_16 : decode cX13_ringsOf 16 = .ok (.iload_n 3, 1) := by decide +kernel
theorem dX13_ringsOf_17 : decode cX13_ringsOf 17 = .ok (.iload_n 1, 1) := by decide +kernel
theorem dX13_ringsOf_18 : decode cX13_ringsOf 18 = .ok (.invokevirtual 156, 3) := by decide +kernel
theorem dX13_ringsOf_21 : decode cX13_ringsOf 21 = .ok (.ifCond .lt 7, 3) := by decide +kernel
theorem dX13_ringsOf_24 : decode cX13_ringsOf 24 = .ok (.iconst 1, 1) := by decide +kernel
theorem dX13_ringsOf_25 : decode cX13_ringsOf 25 = .ok (.goto 4, 3) := by decide +kernel
theorem dX13_ringsOf_28 : decode cX13_ringsOf 28 = .ok (.iconst 0, 1) := by decide +kernel
theorem dX13_ringsOf_29 : decode cX13_ringsOf 29 = .ok (.iadd, 1) := by decide +kernel
theorem dX13_ringsOf_30 : decode cX13_ringsOf 30 = .ok (.istore_n 2, 1) := by decide +kernel
theorem dX13_ringsOf_31 : decode cX13_ringsOf 31 = .ok (.iinc 3 1, 3) := by decide +kernel
theorem dX13_ringsOf_34 : decode cX13_ringsOf 34 = .ok (.goto (-30), 3) := by decide +kernel
theorem dX13_ringsOf_37 : decode cX13_ringsOf 37 = .ok (.iload_n 2, 1) := by decide +kernel
theorem dX13_ringsOf_38 : decode cX13_ringsOf 38 = .ok (.ireturn, 1) := by decide +kernel
theorem dX13_walksOf_0 : decode cX13_walksOf 0 = .ok (.iconst 0, 1) := by decide +kernel
theorem dX13_walksOf_1 : decode cX13_walksOf 1 = .ok (.istore_n 2, 1) := by decide +kernel
theorem dX13_walksOf_2 : decode cX13_walksOf 2 = .ok (.iconst 0, 1) := by decide +kernel
theorem dX13_walksOf_3 : decode cX13_walksOf 3 = .ok (.istore_n 3, 1) := by decide +kernel
theorem dX13_walksOf_4 : decode cX13_walksOf 4 = .ok (.iload_n 3, 1) := by decide +kernel
theorem dX13_walksOf_5 : decode cX13_walksOf 5 = .ok (.aload_n 0, 1) := by decide +kernel
theorem dX13_walksOf_6 : decode cX13_walksOf 6 = .ok (.getfield 7, 3) := by decide +kernel
theorem dX13_walksOf_9 : decode cX13_walksOf 9 = .ok (.iconst 0, 1) := by decide +kernel
theorem dX13_walksOf_10 : decode cX13_walksOf 10 = .ok (.iaload, 1) := by decide +kernel
theorem dX13_walksOf_11 : decode cX13_walksOf 11 = .ok (.if_icmp .ge 26, 3) := by decide +kernel
theorem dX13_walksOf_14 : decode cX13_walksOf 14 = .ok (.iload_n 2, 1) := by decide +kernel
theorem dX13_walksOf_15 : decode cX13_walksOf 15 = .ok (.aload_n 0, 1) := by decide +kernel
theorem dX13_walksOf_16 : decode cX13_walksOf 16 = .ok (.iload_n 1, 1) := by decide +kernel
theorem dX13_walksOf_17 : decode cX13_walksOf 17 = .ok (.iload_n 3, 1) := by decide +kernel
theorem dX13_walksOf_18 : decode cX13_walksOf 18 = .ok (.invokevirtual 107, 3) := by decide +kernel
theorem dX13_walksOf_21 : decode cX13_walksOf 21 = .ok (.ifCond .le 7, 3) := by decide +kernel
theorem dX13_walksOf_24 : decode cX13_walksOf 24 = .ok (.iconst 1, 1) := by decide +kernel
theorem dX13_walksOf_25 : decode cX13_walksOf 25 = .ok (.goto 4, 3) := by decide +kernel
theorem dX13_walksOf_28 : decode cX13_walksOf 28 = .ok (.iconst 0, 1) := by decide +kernel
theorem dX13_walksOf_29 : decode cX13_walksOf 29 = .ok (.iadd, 1) := by decide +kernel
theorem dX13_walksOf_30 : decode cX13_walksOf 30 = .ok (.istore_n 2, 1) := by decide +kernel
theorem dX13_walksOf_31 : decode cX13_walksOf 31 = .ok (.iinc 3 1, 3) := by decide +kernel
theorem dX13_walksOf_34 : decode cX13_walksOf 34 = .ok (.goto (-30), 3) := by decide +kernel
theorem dX13_walksOf_37 : decode cX13_walksOf 37 = .ok (.iload_n 2, 1) := by decide +kernel
theorem dX13_walksOf_38 : decode cX13_walksOf 38 = .ok (.ireturn, 1) := by decide +kernel
theorem dX13_isStopAhead_0 : decode cX13_isStopAhead 0 = .ok (.aload_n 0, 1) := by decide +kernel
theorem dX13_isStopAhead_1 : decode cX13_isStopAhead 1 = .ok (.iload_n 1, 1) := by decide +kernel
theorem dX13_isStopAhead_2 : decode cX13_isStopAhead 2 = .ok (.invokevirtual 276, 3) := by decide +kernel
theorem dX13_isStopAhead_5 : decode cX13_isStopAhead 5 = .ok (.aload_n 0, 1) := by decide +kernel
theorem dX13_isStopAhead_6 : decode cX13_isStopAhead 6 = .ok (.iload_n 2, 1) := by decide +kernel
theorem dX13_isStopAhead_7 : decode cX13_isStopAhead 7 = .ok (.invokevirtual 276, 3) := by decide +kernel
theorem dX13_isStopAhead_10 : decode cX13_isStopAhead 10 = .ok (.if_icmp .eq 22, 3) := by decide +kernel
theorem dX13_isStopAhead_13 : decode cX13_isStopAhead 13 = .ok (.aload_n 0, 1) := by decide +kernel
theorem dX13_isStopAhead_14 : decode cX13_isStopAhead 14 = .ok (.iload_n 1, 1) := by decide +kernel
theorem dX13_isStopAhead_15 : decode cX13_isStopAhead 15 = .ok (.invokevirtual 276, 3) := by decide +kernel
theorem dX13_isStopAhead_18 : decode cX13_isStopAhead 18 = .ok (.aload_n 0, 1) := by decide +kernel
theorem dX13_isStopAhead_19 : decode cX13_isStopAhead 19 = .ok (.iload_n 2, 1) := by decide +kernel
theorem dX13_isStopAhead_20 : decode cX13_isStopAhead 20 = .ok (.invokevirtual 276, 3) := by decide +kernel
theorem dX13_isStopAhead_23 : decode cX13_isStopAhead 23 = .ok (.if_icmp .le 7, 3) := by decide +kernel
theorem dX13_isStopAhead_26 : decode cX13_isStopAhead 26 = .ok (.iconst 1, 1) := by decide +kernel
theorem dX13_isStopAhead_27 : decode cX13_isStopAhead 27 = .ok (.goto 4, 3) := by decide +kernel
theorem dX13_isStopAhead_30 : decode cX13_isStopAhead 30 = .ok (.iconst 0, 1) := by decide +kernel
theorem dX13_isStopAhead_31 : decode cX13_isStopAhead 31 = .ok (.ireturn, 1) := by decide +kernel
theorem dX13_isStopAhead_32 : decode cX13_isStopAhead 32 = .ok (.aload_n 0, 1) := by decide +kernel
theorem dX13_isStopAhead_33 : decode cX13_isStopAhead 33 = .ok (.iload_n 1, 1) := by decide +kernel
theorem dX13_isStopAhead_34 : decode cX13_isStopAhead 34 = .ok (.invokevirtual 279, 3) := by decide +kernel
theorem dX13_isStopAhead_37 : decode cX13_isStopAhead 37 = .ok (.aload_n 0, 1) := by decide +kernel
theorem dX13_isStopAhead_38 : decode cX13_isStopAhead 38 = .ok (.iload_n 2, 1) := by decide +kernel
theorem dX13_isStopAhead_39 : decode cX13_isStopAhead 39 = .ok (.invokevirtual 279, 3) := by decide +kernel
theorem dX13_isStopAhead_42 : decode cX13_isStopAhead 42 = .ok (.if_icmp .gt 21, 3) := by decide +kernel
theorem dX13_isStopAhead_45 : decode cX13_isStopAhead 45 = .ok (.aload_n 0, 1) := by decide +kernel
theorem dX13_isStopAhead_46 : decode cX13_isStopAhead 46 = .ok (.iload_n 1, 1) := by decide +kernel
theorem dX13_isStopAhead_47 : decode cX13_isStopAhead 47 = .ok (.invokevirtual 279, 3) := by decide +kernel
theorem dX13_isStopAhead_50 : decode cX13_isStopAhead 50 = .ok (.aload_n 0, 1) := by decide +kernel
theorem dX13_isStopAhead_51 : decode cX13_isStopAhead 51 = .ok (.iload_n 2, 1) := by decide +kernel
theorem dX13_isStopAhead_52 : decode cX13_isStopAhead 52 = .ok (.invokevirtual 279, 3) := by decide +kernel
theorem dX13_isStopAhead_55 : decode cX13_isStopAhead 55 = .ok (.if_icmp .ne 12, 3) := by decide +kernel
theorem dX13_isStopAhead_58 : decode cX13_isStopAhead 58 = .ok (.iload_n 1, 1) := by decide +kernel
theorem dX13_isStopAhead_59 : decode cX13_isStopAhead 59 = .ok (.iload_n 2, 1) := by decide +kernel
theorem dX13_isStopAhead_60 : decode cX13_isStopAhead 60 = .ok (.if_icmp .ge 7, 3) := by decide +kernel
theorem dX13_isStopAhead_63 : decode cX13_isStopAhead 63 = .ok (.iconst 1, 1) := by decide +kernel
theorem dX13_isStopAhead_64 : decode cX13_isStopAhead 64 = .ok (.goto 4, 3) := by decide +kernel
theorem dX13_isStopAhead_67 : decode cX13_isStopAhead 67 = .ok (.iconst 0, 1) := by decide +kernel
theorem dX13_isStopAhead_68 : decode cX13_isStopAhead 68 = .ok (.ireturn, 1) := by decide +kernel
theorem dX13_ranked_0 : decode cX13_ranked 0 = .ok (.aload_n 0, 1) := by decide +kernel
theorem dX13_ranked_1 : decode cX13_ranked 1 = .ok (.iconst 0, 1) := by decide +kernel
theorem dX13_ranked_2 : decode cX13_ranked 2 = .ok (.putfield 28, 3) := by decide +kernel
theorem dX13_ranked_5 : decode cX13_ranked 5 = .ok (.iconst 0, 1) := by decide +kernel
theorem dX13_ranked_6 : decode cX13_ranked 6 = .ok (.istore 4, 2) := by decide +kernel
theorem dX13_ranked_8 : decode cX13_ranked 8 = .ok (.iload 4, 2) := by decide +kernel
theorem dX13_ranked_10 : decode cX13_ranked 10 = .ok (.iload_n 2, 1) := by decide +kernel
theorem dX13_ranked_11 : decode cX13_ranked 11 = .ok (.if_icmp .ge 82, 3) := by decide +kernel
theorem dX13_ranked_14 : decode cX13_ranked 14 = .ok (.iconst 0, 1) := by decide +kernel
theorem dX13_ranked_15 : decode cX13_ranked 15 = .ok (.istore 5, 2) := by decide +kernel
theorem dX13_ranked_17 : decode cX13_ranked 17 = .ok (.iconst 0, 1) := by decide +kernel
theorem dX13_ranked_18 : decode cX13_ranked 18 = .ok (.istore 6, 2) := by decide +kernel
theorem dX13_ranked_20 : decode cX13_ranked 20 = .ok (.iload 6, 2) := by decide +kernel
theorem dX13_ranked_22 : decode cX13_ranked 22 = .ok (.iload_n 2, 1) := by decide +kernel
theorem dX13_ranked_23 : decode cX13_ranked 23 = .ok (.if_icmp .ge 55, 3) := by decide +kernel
theorem dX13_ranked_26 : decode cX13_ranked 26 = .ok (.iload 5, 2) := by decide +kernel
theorem dX13_ranked_28 : decode cX13_ranked 28 = .ok (.iload 6, 2) := by decide +kernel
theorem dX13_ranked_30 : decode cX13_ranked 30 = .ok (.iload 4, 2) := by decide +kernel
theorem dX13_ranked_32 : decode cX13_ranked 32 = .ok (.if_icmp .eq 36, 3) := by decide +kernel
theorem dX13_ranked_35 : decode cX13_ranked 35 = .ok (.iload_n 3, 1) := by decide +kernel
theorem dX13_ranked_36 : decode cX13_ranked 36 = .ok (.ifCond .eq 17, 3) := by decide +kernel
theorem dX13_ranked_39 : decode cX13_ranked 39 = .ok (.aload_n 0, 1) := by decide +kernel
theorem dX13_ranked_40 : decode cX13_ranked 40 = .ok (.iload 6, 2) := by decide +kernel
theorem dX13_ranked_42 : decode cX13_ranked 42 = .ok (.iload 4, 2) := by decide +kernel
theorem dX13_ranked_44 : decode cX13_ranked 44 = .ok (.invokevirtual 282, 3) := by decide +kernel
theorem dX13_ranked_47 : decode cX13_ranked 47 = .ok (.ifCond .eq 21, 3) := by decide +kernel
theorem dX13_ranked_50 : decode cX13_ranked 50 = .ok (.goto 14, 3) := by decide +kernel
theorem dX13_ranked_53 : decode cX13_ranked 53 = .ok (.aload_n 0, 1) := by decide +kernel
theorem dX13_ranked_54 : decode cX13_ranked 54 = .ok (.iload 6, 2) := by decide +kernel
theorem dX13_ranked_56 : decode cX13_ranked 56 = .ok (.iload 4, 2) := by decide +kernel
theorem dX13_ranked_58 : decode cX13_ranked 58 = .ok (.invokevirtual 285, 3) := by decide +kernel
theorem dX13_ranked_61 : decode cX13_ranked 61 = .ok (.ifCond .eq 7, 3) := by decide +kernel
theorem dX13_ranked_64 : decode cX13_ranked 64 = .ok (.iconst 1, 1) := by decide +kernel
theorem dX13_ranked_65 : decode cX13_ranked 65 = .ok (.goto 4, 3) := by decide +kernel
theorem dX13_ranked_68 : decode cX13_ranked 68 = .ok (.iconst 0, 1) := by decide +kernel
theorem dX13_ranked_69 : decode cX13_ranked 69 = .ok (.iadd, 1) := by decide +kernel
theorem dX13_ranked_70 : decode cX13_ranked 70 = .ok (.istore 5, 2) := by decide +kernel
theorem dX13_ranked_72 : decode cX13_ranked 72 = .ok (.iinc 6 1, 3) := by decide +kernel
theorem dX13_ranked_75 : decode cX13_ranked 75 = .ok (.goto (-55), 3) := by decide +kernel
theorem dX13_ranked_78 : decode cX13_ranked 78 = .ok (.iload 5, 2) := by decide +kernel
theorem dX13_ranked_80 : decode cX13_ranked 80 = .ok (.iload_n 1, 1) := by decide +kernel
theorem dX13_ranked_81 : decode cX13_ranked 81 = .ok (.if_icmp .ne 6, 3) := by decide +kernel
theorem dX13_ranked_84 : decode cX13_ranked 84 = .ok (.iload 4, 2) := by decide +kernel
theorem dX13_ranked_86 : decode cX13_ranked 86 = .ok (.ireturn, 1) := by decide +kernel
theorem dX13_ranked_87 : decode cX13_ranked 87 = .ok (.iinc 4 1, 3) := by decide +kernel
theorem dX13_ranked_90 : decode cX13_ranked 90 = .ok (.goto (-82), 3) := by decide +kernel
theorem dX13_ranked_93 : decode cX13_ranked 93 = .ok (.aload_n 0, 1) := by decide +kernel
theorem dX13_ranked_94 : decode cX13_ranked 94 = .ok (.iconst 1, 1) := by decide +kernel
theorem dX13_ranked_95 : decode cX13_ranked 95 = .ok (.invokevirtual 94, 3) := by decide +kernel
theorem dX13_ranked_98 : decode cX13_ranked 98 = .ok (.ireturn, 1) := by decide +kernel
theorem dX13_lineByTickets_0 : decode cX13_lineByTickets 0 = .ok (.aload_n 0, 1) := by decide +kernel
theorem dX13_lineByTickets_1 : decode cX13_lineByTickets 1 = .ok (.iload_n 1, 1) := by decide +kernel
theorem dX13_lineByTickets_2 : decode cX13_lineByTickets 2 = .ok (.aload_n 0, 1) := by decide +kernel
theorem dX13_lineByTickets_3 : decode cX13_lineByTickets 3 = .ok (.getfield 7, 3) := by decide +kernel
theorem dX13_lineByTickets_6 : decode cX13_lineByTickets 6 = .ok (.iconst 2, 1) := by decide +kernel
theorem dX13_lineByTickets_7 : decode cX13_lineByTickets 7 = .ok (.iaload, 1) := by decide +kernel
theorem dX13_lineByTickets_8 : decode cX13_lineByTickets 8 = .ok (.iconst 1, 1) := by decide +kernel
theorem dX13_lineByTickets_9 : decode cX13_lineByTickets 9 = .ok (.invokevirtual 288, 3) := by decide +kernel
theorem dX13_lineByTickets_12 : decode cX13_lineByTickets 12 = .ok (.ireturn, 1) := by decide +kernel
theorem dX13_stopByLines_0 : decode cX13_stopByLines 0 = .ok (.aload_n 0, 1) := by decide +kernel
theorem dX13_stopByLines_1 : decode cX13_stopByLines 1 = .ok (.iload_n 1, 1) := by decide +kernel
theorem dX13_stopByLines_2 : decode cX13_stopByLines 2 = .ok (.aload_n 0, 1) := by decide +kernel
theorem dX13_stopByLines_3 : decode cX13_stopByLines 3 = .ok (.getfield 7, 3) := by decide +kernel
theorem dX13_stopByLines_6 : decode cX13_stopByLines 6 = .ok (.iconst 0, 1) := by decide +kernel
theorem dX13_stopByLines_7 : decode cX13_stopByLines 7 = .ok (.iaload, 1) := by decide +kernel
theorem dX13_stopByLines_8 : decode cX13_stopByLines 8 = .ok (.iconst 0, 1) := by decide +kernel
theorem dX13_stopByLines_9 : decode cX13_stopByLines 9 = .ok (.invokevirtual 288, 3) := by decide +kernel
theorem dX13_stopByLines_12 : decode cX13_stopByLines 12 = .ok (.ireturn, 1) := by decide +kernel
theorem dX13_meanPrice_0 : decode cX13_meanPrice 0 = .ok (.aload_n 0, 1) := by decide +kernel
theorem dX13_meanPrice_1 : decode cX13_meanPrice 1 = .ok (.aload_n 0, 1) := by decide +kernel
theorem dX13_meanPrice_2 : decode cX13_meanPrice 2 = .ok (.getfield 7, 3) := by decide +kernel
theorem dX13_meanPrice_5 : decode cX13_meanPrice 5 = .ok (.iconst 3, 1) := by decide +kernel
theorem dX13_meanPrice_6 : decode cX13_meanPrice 6 = .ok (.iaload, 1) := by decide +kernel
theorem dX13_meanPrice_7 : decode cX13_meanPrice 7 = .ok (.ifCond .le 7, 3) := by decide +kernel
theorem dX13_meanPrice_10 : decode cX13_meanPrice 10 = .ok (.iconst 1, 1) := by decide +kernel
theorem dX13_meanPrice_11 : decode cX13_meanPrice 11 = .ok (.goto 4, 3) := by decide +kernel
theorem dX13_meanPrice_14 : decode cX13_meanPrice 14 = .ok (.iconst 0, 1) := by decide +kernel
theorem dX13_meanPrice_15 : decode cX13_meanPrice 15 = .ok (.invokevirtual 217, 3) := by decide +kernel
theorem dX13_meanPrice_18 : decode cX13_meanPrice 18 = .ok (.ifCond .le 5, 3) := by decide +kernel
theorem dX13_meanPrice_21 : decode cX13_meanPrice 21 = .ok (.dconst 0, 1) := by decide +kernel
theorem dX13_meanPrice_22 : decode cX13_meanPrice 22 = .ok (.dreturn, 1) := by decide +kernel
theorem dX13_meanPrice_23 : decode cX13_meanPrice 23 = .ok (.iconst 0, 1) := by decide +kernel
theorem dX13_meanPrice_24 : decode cX13_meanPrice 24 = .ok (.istore_n 1, 1) := by decide +kernel
theorem dX13_meanPrice_25 : decode cX13_meanPrice 25 = .ok (.iconst 0, 1) := by decide +kernel
theorem dX13_meanPrice_26 : decode cX13_meanPrice 26 = .ok (.istore_n 2, 1) := by decide +kernel
theorem dX13_meanPrice_27 : decode cX13_meanPrice 27 = .ok (.iload_n 2, 1) := by decide +kernel
theorem dX13_meanPrice_28 : decode cX13_meanPrice 28 = .ok (.aload_n 0, 1) := by decide +kernel
theorem dX13_meanPrice_29 : decode cX13_meanPrice 29 = .ok (.getfield 7, 3) := by decide +kernel
theorem dX13_meanPrice_32 : decode cX13_meanPrice 32 = .ok (.iconst 3, 1) := by decide +kernel
theorem dX13_meanPrice_33 : decode cX13_meanPrice 33 = .ok (.iaload, 1) := by decide +kernel
theorem dX13_meanPrice_34 : decode cX13_meanPrice 34 = .ok (.if_icmp .ge 18, 3) := by decide +kernel
theorem dX13_meanPrice_37 : decode cX13_meanPrice 37 = .ok (.iload_n 1, 1) := by decide +kernel
theorem dX13_meanPrice_38 : decode cX13_meanPrice 38 = .ok (.aload_n 0, 1) := by decide +kernel
theorem dX13_meanPrice_39 : decode cX13_meanPrice 39 = .ok (.iload_n 2, 1) := by decide +kernel
theorem dX13_meanPrice_40 : decode cX13_meanPrice 40 = .ok (.iconst 5, 1) := by decide +kernel
theorem dX13_meanPrice_41 : decode cX13_meanPrice 41 = .ok (.invokevirtual 147, 3) := by decide +kernel
theorem dX13_meanPrice_44 : decode cX13_meanPrice 44 = .ok (.iadd, 1) := by decide +kernel
theorem dX13_meanPrice_45 : decode cX13_meanPrice 45 = .ok (.istore_n 1, 1) := by decide +kernel
theorem dX13_meanPrice_46 : decode cX13_meanPrice 46 = .ok (.iinc 2 1, 3) := by decide +kernel
theorem dX13_meanPrice_49 : decode cX13_meanPrice 49 = .ok (.goto (-22), 3) := by decide +kernel
theorem dX13_meanPrice_52 : decode cX13_meanPrice 52 = .ok (.iload_n 1, 1) := by decide +kernel
theorem dX13_meanPrice_53 : decode cX13_meanPrice 53 = .ok (.i2d, 1) := by decide +kernel
theorem dX13_meanPrice_54 : decode cX13_meanPrice 54 = .ok (.aload_n 0, 1) := by decide +kernel
theorem dX13_meanPrice_55 : decode cX13_meanPrice 55 = .ok (.getfield 7, 3) := by decide +kernel
theorem dX13_meanPrice_58 : decode cX13_meanPrice 58 = .ok (.iconst 3, 1) := by decide +kernel
theorem dX13_meanPrice_59 : decode cX13_meanPrice 59 = .ok (.iaload, 1) := by decide +kernel
theorem dX13_meanPrice_60 : decode cX13_meanPrice 60 = .ok (.i2d, 1) := by decide +kernel
theorem dX13_meanPrice_61 : decode cX13_meanPrice 61 = .ok (.ddiv, 1) := by decide +kernel
theorem dX13_meanPrice_62 : decode cX13_meanPrice 62 = .ok (.dreturn, 1) := by decide +kernel
theorem dX13_closedShare_0 : decode cX13_closedShare 0 = .ok (.aload_n 0, 1) := by decide +kernel
theorem dX13_closedShare_1 : decode cX13_closedShare 1 = .ok (.aload_n 0, 1) := by decide +kernel
theorem dX13_closedShare_2 : decode cX13_closedShare 2 = .ok (.getfield 7, 3) := by decide +kernel
theorem dX13_closedShare_5 : decode cX13_closedShare 5 = .ok (.iconst 0, 1) := by decide +kernel
theorem dX13_closedShare_6 : decode cX13_closedShare 6 = .ok (.iaload, 1) := by decide +kernel
theorem dX13_closedShare_7 : decode cX13_closedShare 7 = .ok (.ifCond .le 7, 3) := by decide +kernel
theorem dX13_closedShare_10 : decode cX13_closedShare 10 = .ok (.iconst 1, 1) := by decide +kernel
theorem dX13_closedShare_11 : decode cX13_closedShare 11 = .ok (.goto 4, 3) := by decide +kernel
theorem dX13_closedShare_14 : decode cX13_closedShare 14 = .ok (.iconst 0, 1) := by decide +kernel
theorem dX13_closedShare_15 : decode cX13_closedShare 15 = .ok (.invokevirtual 217, 3) := by decide +kernel
theorem dX13_closedShare_18 : decode cX13_closedShare 18 = .ok (.ifCond .le 5, 3) := by decide +kernel
theorem dX13_closedShare_21 : decode cX13_closedShare 21 = .ok (.fconst 0, 1) := by decide +kernel
theorem dX13_closedShare_22 : decode cX13_closedShare 22 = .ok (.freturn, 1) := by decide +kernel
theorem dX13_closedShare_23 : decode cX13_closedShare 23 = .ok (.iconst 0, 1) := by decide +kernel
theorem dX13_closedShare_24 : decode cX13_closedShare 24 = .ok (.istore_n 1, 1) := by decide +kernel
theorem dX13_closedShare_25 : decode cX13_closedShare 25 = .ok (.iconst 0, 1) := by decide +kernel
theorem dX13_closedShare_26 : decode cX13_closedShare 26 = .ok (.istore_n 2, 1) := by decide +kernel
theorem dX13_closedShare_27 : decode cX13_closedShare 27 = .ok (.iload_n 2, 1) := by decide +kernel
theorem dX13_closedShare_28 : decode cX13_closedShare 28 = .ok (.aload_n 0, 1) := by decide +kernel
theorem dX13_closedShare_29 : decode cX13_closedShare 29 = .ok (.getfield 7, 3) := by decide +kernel
theorem dX13_closedShare_32 : decode cX13_closedShare 32 = .ok (.iconst 0, 1) := by decide +kernel
theorem dX13_closedShare_33 : decode cX13_closedShare 33 = .ok (.iaload, 1) := by decide +kernel
theorem dX13_closedShare_34 : decode cX13_closedShare 34 = .ok (.if_icmp .ge 25, 3) := by decide +kernel
theorem dX13_closedShare_37 : decode cX13_closedShare 37 = .ok (.iload_n 1, 1) := by decide +kernel
theorem dX13_closedShare_38 : decode cX13_closedShare 38 = .ok (.aload_n 0, 1) := by decide +kernel
theorem dX13_closedShare_39 : decode cX13_closedShare 39 = .ok (.iload_n 2, 1) := by decide +kernel
theorem dX13_closedShare_40 : decode cX13_closedShare 40 = .ok (.invokevirtual 224, 3) := by decide +kernel
theorem dX13_closedShare_43 : decode cX13_closedShare 43 = .ok (.ifCond .eq 7, 3) := by decide +kernel
theorem dX13_closedShare_46 : decode cX13_closedShare 46 = .ok (.iconst 0, 1) := by decide +kernel
theorem dX13_closedShare_47 : decode cX13_closedShare 47 = .ok (.goto 4, 3) := by decide +kernel
theorem dX13_closedShare_50 : decode cX13_closedShare 50 = .ok (.iconst 1, 1) := by decide +kernel
theorem dX13_closedShare_51 : decode cX13_closedShare 51 = .ok (.iadd, 1) := by decide +kernel
theorem dX13_closedShare_52 : decode cX13_closedShare 52 = .ok (.istore_n 1, 1) := by decide +kernel
theorem dX13_closedShare_53 : decode cX13_closedShare 53 = .ok (.iinc 2 1, 3) := by decide +kernel
theorem dX13_closedShare_56 : decode cX13_closedShare 56 = .ok (.goto (-29), 3) := by decide +kernel
theorem dX13_closedShare_59 : decode cX13_closedShare 59 = .ok (.iload_n 1, 1) := by decide +kernel
theorem dX13_closedShare_60 : decode cX13_closedShare 60 = .ok (.i2f, 1) := by decide +kernel
theorem dX13_closedShare_61 : decode cX13_closedShare 61 = .ok (.aload_n 0, 1) := by decide +kernel
theorem dX13_closedShare_62 : decode cX13_closedShare 62 = .ok (.getfield 7, 3) := by decide +kernel
theorem dX13_closedShare_65 : decode cX13_closedShare 65 = .ok (.iconst 0, 1) := by decide +kernel
theorem dX13_closedShare_66 : decode cX13_closedShare 66 = .ok (.iaload, 1) := by decide +kernel
theorem dX13_closedShare_67 : decode cX13_closedShare 67 = .ok (.i2f, 1) := by decide +kernel
theorem dX13_closedShare_68 : decode cX13_closedShare 68 = .ok (.fdiv, 1) := by decide +kernel
theorem dX13_closedShare_69 : decode cX13_closedShare 69 = .ok (.freturn, 1) := by decide +kernel
theorem dX13_isConsistent_0 : decode cX13_isConsistent 0 = .ok (.aload_n 0, 1) := by decide +kernel
theorem dX13_isConsistent_1 : decode cX13_isConsistent 1 = .ok (.iconst 1, 1) := by decide +kernel
theorem dX13_isConsistent_2 : decode cX13_isConsistent 2 = .ok (.invokevirtual 214, 3) := by decide +kernel
theorem dX13_isConsistent_5 : decode cX13_isConsistent 5 = .ok (.iconst 1, 1) := by decide +kernel
theorem dX13_isConsistent_6 : decode cX13_isConsistent 6 = .ok (.if_icmp .ne 7, 3) := by decide +kernel
theorem dX13_isConsistent_9 : decode cX13_isConsistent 9 = .ok (.iconst 1, 1) := by decide +kernel
theorem dX13_isConsistent_10 : decode cX13_isConsistent 10 = .ok (.goto 4, 3) := by decide +kernel
theorem dX13_isConsistent_13 : decode cX13_isConsistent 13 = .ok (.iconst 0, 1) := by decide +kernel
theorem dX13_isConsistent_14 : decode cX13_isConsistent 14 = .ok (.ireturn, 1) := by decide +kernel
theorem dX13_write_0 : decode cX13_write 0 = .ok (.aload_n 0, 1) := by decide +kernel
theorem dX13_write_1 : decode cX13_write 1 = .ok (.getfield 45, 3) := by decide +kernel
theorem dX13_write_4 : decode cX13_write 4 = .ok (.aload_n 0, 1) := by decide +kernel
theorem dX13_write_5 : decode cX13_write 5 = .ok (.getfield 48, 3) := by decide +kernel
theorem dX13_write_8 : decode cX13_write 8 = .ok (.iload_n 1, 1) := by decide +kernel
theorem dX13_write_9 : decode cX13_write 9 = .ok (.iastore, 1) := by decide +kernel
theorem dX13_write_10 : decode cX13_write 10 = .ok (.aload_n 0, 1) := by decide +kernel
theorem dX13_write_11 : decode cX13_write 11 = .ok (.dup, 1) := by decide +kernel
theorem dX13_write_12 : decode cX13_write 12 = .ok (.getfield 48, 3) := by decide +kernel
theorem dX13_write_15 : decode cX13_write 15 = .ok (.iconst 1, 1) := by decide +kernel
theorem dX13_write_16 : decode cX13_write 16 = .ok (.iadd, 1) := by decide +kernel
theorem dX13_write_17 : decode cX13_write 17 = .ok (.putfield 48, 3) := by decide +kernel
theorem dX13_write_20 : decode cX13_write 20 = .ok (.return_, 1) := by decide +kernel
theorem dX13_writeNumber_0 : decode cX13_writeNumber 0 = .ok (.iconst 1, 1) := by decide +kernel
theorem dX13_writeNumber_1 : decode cX13_writeNumber 1 = .ok (.istore_n 2, 1) := by decide +kernel
theorem dX13_writeNumber_2 : decode cX13_writeNumber 2 = .ok (.iload_n 1, 1) := by decide +kernel
theorem dX13_writeNumber_3 : decode cX13_writeNumber 3 = .ok (.iload_n 2, 1) := by decide +kernel
theorem dX13_writeNumber_4 : decode cX13_writeNumber 4 = .ok (.idiv, 1) := by decide +kernel
theorem dX13_writeNumber_5 : decode cX13_writeNumber 5 = .ok (.bipush 9, 2) := by decide +kernel
theorem dX13_writeNumber_7 : decode cX13_writeNumber 7 = .ok (.if_icmp .le 11, 3) := by decide +kernel
theorem dX13_writeNumber_10 : decode cX13_writeNumber 10 = .ok (.iload_n 2, 1) := by decide +kernel
theorem dX13_writeNumber_11 : decode cX13_writeNumber 11 = .ok (.bipush 10, 2) := by decide +kernel
theorem dX13_writeNumber_13 : decode cX13_writeNumber 13 = .ok (.imul, 1) := by decide +kernel
theorem dX13_writeNumber_14 : decode cX13_writeNumber 14 = .ok (.istore_n 2, 1) := by decide +kernel
theorem dX13_writeNumber_15 : decode cX13_writeNumber 15 = .ok (.goto (-13), 3) := by decide +kernel
theorem dX13_writeNumber_18 : decode cX13_writeNumber 18 = .ok (.iload_n 2, 1) := by decide +kernel
theorem dX13_writeNumber_19 : decode cX13_writeNumber 19 = .ok (.ifCond .le 24, 3) := by decide +kernel
theorem dX13_writeNumber_22 : decode cX13_writeNumber 22 = .ok (.aload_n 0, 1) := by decide +kernel
theorem dX13_writeNumber_23 : decode cX13_writeNumber 23 = .ok (.bipush 48, 2) := by decide +kernel
theorem dX13_writeNumber_25 : decode cX13_writeNumber 25 = .ok (.iload_n 1, 1) := by decide +kernel
theorem dX13_writeNumber_26 : decode cX13_writeNumber 26 = .ok (.iload_n 2, 1) := by decide +kernel
theorem dX13_writeNumber_27 : decode cX13_writeNumber 27 = .ok (.idiv, 1) := by decide +kernel
theorem dX13_writeNumber_28 : decode cX13_writeNumber 28 = .ok (.bipush 10, 2) := by decide +kernel
theorem dX13_writeNumber_30 : decode cX13_writeNumber 30 = .ok (.irem, 1) := by decide +kernel
theorem dX13_writeNumber_31 : decode cX13_writeNumber 31 = .ok (.iadd, 1) := by decide +kernel
theorem dX13_writeNumber_32 : decode cX13_writeNumber 32 = .ok (.invokevirtual 292, 3) := by decide +kernel
theorem dX13_writeNumber_35 : decode cX13_writeNumber 35 = .ok (.iload_n 2, 1) := by decide +kernel
theorem dX13_writeNumber_36 : decode cX13_writeNumber 36 = .ok (.bipush 10, 2) := by decide +kernel
theorem dX13_writeNumber_38 : decode cX13_writeNumber 38 = .ok (.idiv, 1) := by decide +kernel
theorem dX13_writeNumber_39 : decode cX13_writeNumber 39 = .ok (.istore_n 2, 1) := by decide +kernel
theorem dX13_writeNumber_40 : decode cX13_writeNumber 40 = .ok (.goto (-22), 3) := by decide +kernel
theorem dX13_writeNumber_43 : decode cX13_writeNumber 43 = .ok (.return_, 1) := by decide +kernel
theorem dX13_renderLine_0 : decode cX13_renderLine 0 = .ok (.aload_n 0, 1) := by decide +kernel
theorem dX13_renderLine_1 : decode cX13_renderLine 1 = .ok (.aload_n 0, 1) := by decide +kernel
theorem dX13_renderLine_2 : decode cX13_renderLine 2 = .ok (.iload_n 1, 1) := by decide +kernel
theorem dX13_renderLine_3 : decode cX13_renderLine 3 = .ok (.invokevirtual 150, 3) := by decide +kernel
theorem dX13_renderLine_6 : decode cX13_renderLine 6 = .ok (.invokevirtual 217, 3) := by decide +kernel
theorem dX13_renderLine_9 : decode cX13_renderLine 9 = .ok (.ifCond .le 5, 3) := by decide +kernel
theorem dX13_renderLine_12 : decode cX13_renderLine 12 = .ok (.iconst 0, 1) := by decide +kernel
theorem dX13_renderLine_13 : decode cX13_renderLine 13 = .ok (.ireturn, 1) := by decide +kernel
theorem dX13_renderLine_14 : decode cX13_renderLine 14 = .ok (.aload_n 0, 1) := by decide +kernel
theorem dX13_renderLine_15 : decode cX13_renderLine 15 = .ok (.iconst 0, 1) := by decide +kernel
theorem dX13_renderLine_16 : decode cX13_renderLine 16 = .ok (.putfield 48, 3) := by decide +kernel
theorem dX13_renderLine_19 : decode cX13_renderLine 19 = .ok (.aload_n 0, 1) := by decide +kernel
theorem dX13_renderLine_20 : decode cX13_renderLine 20 = .ok (.aload_n 0, 1) := by decide +kernel
theorem dX13_renderLine_21 : decode cX13_renderLine 21 = .ok (.iload_n 1, 1) := by decide +kernel
theorem dX13_renderLine_22 : decode cX13_renderLine 22 = .ok (.iconst 0, 1) := by decide +kernel
theorem dX13_renderLine_23 : decode cX13_renderLine 23 = .ok (.invokevirtual 128, 3) := by decide +kernel
theorem dX13_renderLine_26 : decode cX13_renderLine 26 = .ok (.invokevirtual 295, 3) := by decide +kernel
theorem dX13_renderLine_29 : decode cX13_renderLine 29 = .ok (.aload_n 0, 1) := by decide +kernel
theorem dX13_renderLine_30 : decode cX13_renderLine 30 = .ok (.bipush 47, 2) := by decide +kernel
theorem dX13_renderLine_32 : decode cX13_renderLine 32 = .ok (.invokevirtual 292, 3) := by decide +kernel
theorem dX13_renderLine_35 : decode cX13_renderLine 35 = .ok (.aload_n 0, 1) := by decide +kernel
theorem dX13_renderLine_36 : decode cX13_renderLine 36 = .ok (.aload_n 0, 1) := by decide +kernel
theorem dX13_renderLine_37 : decode cX13_renderLine 37 = .ok (.iload_n 1, 1) := by decide +kernel
theorem dX13_renderLine_38 : decode cX13_renderLine 38 = .ok (.iconst 1, 1) := by decide +kernel
theorem dX13_renderLine_39 : decode cX13_renderLine 39 = .ok (.invokevirtual 128, 3) := by decide +kernel
theorem dX13_renderLine_42 : decode cX13_renderLine 42 = .ok (.invokevirtual 295, 3) := by decide +kernel
theorem dX13_renderLine_45 : decode cX13_renderLine 45 = .ok (.aload_n 0, 1) := by decide +kernel
theorem dX13_renderLine_46 : decode cX13_renderLine 46 = .ok (.bipush 43, 2) := by decide +kernel
theorem dX13_renderLine_48 : decode cX13_renderLine 48 = .ok (.invokevirtual 292, 3) := by decide +kernel
theorem dX13_renderLine_51 : decode cX13_renderLine 51 = .ok (.aload_n 0, 1) := by decide +kernel
theorem dX13_renderLine_52 : decode cX13_renderLine 52 = .ok (.aload_n 0, 1) := by decide +kernel
theorem dX13_renderLine_53 : decode cX13_renderLine 53 = .ok (.iload_n 1, 1) := by decide +kernel
theorem dX13_renderLine_54 : decode cX13_renderLine 54 = .ok (.invokevirtual 131, 3) := by decide +kernel
theorem dX13_renderLine_57 : decode cX13_renderLine 57 = .ok (.invokevirtual 295, 3) := by decide +kernel
theorem dX13_renderLine_60 : decode cX13_renderLine 60 = .ok (.aload_n 0, 1) := by decide +kernel
theorem dX13_renderLine_61 : decode cX13_renderLine 61 = .ok (.bipush 120, 2) := by decide +kernel
theorem dX13_renderLine_63 : decode cX13_renderLine 63 = .ok (.invokevirtual 292, 3) := by decide +kernel
theorem dX13_renderLine_66 : decode cX13_renderLine 66 = .ok (.aload_n 0, 1) := by decide +kernel
theorem dX13_renderLine_67 : decode cX13_renderLine 67 = .ok (.aload_n 0, 1) := by decide +kernel
theorem dX13_renderLine_68 : decode cX13_renderLine 68 = .ok (.iload_n 1, 1) := by decide +kernel
theorem dX13_renderLine_69 : decode cX13_renderLine 69 = .ok (.iconst 4, 1) := by decide +kernel
theorem dX13_renderLine_70 : decode cX13_renderLine 70 = .ok (.invokevirtual 128, 3) := by decide +kernel
theorem dX13_renderLine_73 : decode cX13_renderLine 73 = .ok (.invokevirtual 295, 3) := by decide +kernel
theorem dX13_renderLine_76 : decode cX13_renderLine 76 = .ok (.aload_n 0, 1) := by decide +kernel
theorem dX13_renderLine_77 : decode cX13_renderLine 77 = .ok (.bipush 58, 2) := by decide +kernel
theorem dX13_renderLine_79 : decode cX13_renderLine 79 = .ok (.invokevirtual 292, 3) := by decide +kernel
theorem dX13_renderLine_82 : decode cX13_renderLine 82 = .ok (.iconst 0, 1) := by decide +kernel
theorem dX13_renderLine_83 : decode cX13_renderLine 83 = .ok (.istore_n 2, 1) := by decide +kernel
theorem dX13_renderLine_84 : decode cX13_renderLine 84 = .ok (.iload_n 2, 1) := by decide +kernel
theorem dX13_renderLine_85 : decode cX13_renderLine 85 = .ok (.aload_n 0, 1) := by decide +kernel
theorem dX13_renderLine_86 : decode cX13_renderLine 86 = .ok (.iload_n 1, 1) := by decide +kernel
theorem dX13_renderLine_87 : decode cX13_renderLine 87 = .ok (.iconst 5, 1) := by decide +kernel
theorem dX13_renderLine_88 : decode cX13_renderLine 88 = .ok (.invokevirtual 128, 3) := by decide +kernel
theorem dX13_renderLine_91 : decode cX13_renderLine 91 = .ok (.if_icmp .ge 29, 3) := by decide +kernel
theorem dX13_renderLine_94 : decode cX13_renderLine 94 = .ok (.iload_n 2, 1) := by decide +kernel
theorem dX13_renderLine_95 : decode cX13_renderLine 95 = .ok (.ifCond .le 9, 3) := by decide +kernel
theorem dX13_renderLine_98 : decode cX13_renderLine 98 = .ok (.aload_n 0, 1) := by decide +kernel
theorem dX13_renderLine_99 : decode cX13_renderLine 99 = .ok (.bipush 62, 2) := by decide +kernel
theorem dX13_renderLine_101 : decode cX13_renderLine 101 = .ok (.invokevirtual 292, 3) := by decide +kernel
theorem dX13_renderLine_104 : decode cX13_renderLine 104 = .ok (.aload_n 0, 1) := by decide +kernel
theorem dX13_renderLine_105 : decode cX13_renderLine 105 = .ok (.aload_n 0, 1) := by decide +kernel
theorem dX13_renderLine_106 : decode cX13_renderLine 106 = .ok (.iload_n 1, 1) := by decide +kernel
theorem dX13_renderLine_107 : decode cX13_renderLine 107 = .ok (.iload_n 2, 1) := by decide +kernel
theorem dX13_renderLine_108 : decode cX13_renderLine 108 = .ok (.invokevirtual 227, 3) := by decide +kernel
theorem dX13_renderLine_111 : decode cX13_renderLine 111 = .ok (.invokevirtual 295, 3) := by decide +kernel
theorem dX13_renderLine_114 : decode cX13_renderLine 114 = .ok (.iinc 2 1, 3) := by decide +kernel
theorem dX13_renderLine_117 : decode cX13_renderLine 117 = .ok (.goto (-33), 3) := by decide +kernel
theorem dX13_renderLine_120 : decode cX13_renderLine 120 = .ok (.aload_n 0, 1) := by decide +kernel
theorem dX13_renderLine_121 : decode cX13_renderLine 121 = .ok (.iload_n 1, 1) := by decide +kernel
theorem dX13_renderLine_122 : decode cX13_renderLine 122 = .ok (.bipush 6, 2) := by decide +kernel
theorem dX13_renderLine_124 : decode cX13_renderLine 124 = .ok (.invokevirtual 128, 3) := by decide +kernel
theorem dX13_renderLine_127 : decode cX13_renderLine 127 = .ok (.iconst 1, 1) := by decide +kernel
theorem dX13_renderLine_128 : decode cX13_renderLine 128 = .ok (.if_icmp .ne 9, 3) := by decide +kernel
theorem dX13_renderLine_131 : decode cX13_renderLine 131 = .ok (.aload_n 0, 1) := by decide +kernel
theorem dX13_renderLine_132 : decode cX13_renderLine 132 = .ok (.bipush 33, 2) := by decide +kernel
theorem dX13_renderLine_134 : decode cX13_renderLine 134 = .ok (.invokevirtual 292, 3) := by decide +kernel
theorem dX13_renderLine_137 : decode cX13_renderLine 137 = .ok (.aload_n 0, 1) := by decide +kernel
theorem dX13_renderLine_138 : decode cX13_renderLine 138 = .ok (.getfield 48, 3) := by decide +kernel
theorem dX13_renderLine_141 : decode cX13_renderLine 141 = .ok (.ireturn, 1) := by decide +kernel
theorem dX13_renderTicket_0 : decode cX13_renderTicket 0 = .ok (.aload_n 0, 1) := by decide +kernel
theorem dX13_renderTicket_1 : decode cX13_renderTicket 1 = .ok (.aload_n 0, 1) := by decide +kernel
theorem dX13_renderTicket_2 : decode cX13_renderTicket 2 = .ok (.iload_n 1, 1) := by decide +kernel
theorem dX13_renderTicket_3 : decode cX13_renderTicket 3 = .ok (.invokevirtual 197, 3) := by decide +kernel
theorem dX13_renderTicket_6 : decode cX13_renderTicket 6 = .ok (.ifCond .lt 7, 3) := by decide +kernel
theorem dX13_renderTicket_9 : decode cX13_renderTicket 9 = .ok (.iconst 1, 1) := by decide +kernel
theorem dX13_renderTicket_10 : decode cX13_renderTicket 10 = .ok (.goto 4, 3) := by decide +kernel
theorem dX13_renderTicket_13 : decode cX13_renderTicket 13 = .ok (.iconst 0, 1) := by decide +kernel
theorem dX13_renderTicket_14 : decode cX13_renderTicket 14 = .ok (.invokevirtual 217, 3) := by decide +kernel
theorem dX13_renderTicket_17 : decode cX13_renderTicket 17 = .ok (.ifCond .le 5, 3) := by decide +kernel
theorem dX13_renderTicket_20 : decode cX13_renderTicket 20 = .ok (.iconst 0, 1) := by decide +kernel
theorem dX13_renderTicket_21 : decode cX13_renderTicket 21 = .ok (.ireturn, 1) := by decide +kernel
theorem dX13_renderTicket_22 : decode cX13_renderTicket 22 = .ok (.aload_n 0, 1) := by decide +kernel
theorem dX13_renderTicket_23 : decode cX13_renderTicket 23 = .ok (.iload_n 1, 1) := by decide +kernel
theorem dX13_renderTicket_24 : decode cX13_renderTicket 24 = .ok (.invokevirtual 197, 3) := by decide +kernel
theorem dX13_renderTicket_27 : decode cX13_renderTicket 27 = .ok (.istore_n 2, 1) := by decide +kernel
theorem dX13_renderTicket_28 : decode cX13_renderTicket 28 = .ok (.aload_n 0, 1) := by decide +kernel
theorem dX13_renderTicket_29 : decode cX13_renderTicket 29 = .ok (.iconst 0, 1) := by decide +kernel
theorem dX13_renderTicket_30 : decode cX13_renderTicket 30 = .ok (.putfield 48, 3) := by decide +kernel
theorem dX13_renderTicket_33 : decode cX13_renderTicket 33 = .ok (.aload_n 0, 1) := by decide +kernel
theorem dX13_renderTicket_34 : decode cX13_renderTicket 34 = .ok (.bipush 35, 2) := by decide +kernel
theorem dX13_renderTicket_36 : decode cX13_renderTicket 36 = .ok (.invokevirtual 292, 3) := by decide +kernel
theorem dX13_renderTicket_39 : decode cX13_renderTicket 39 = .ok (.aload_n 0, 1) := by decide +kernel
theorem dX13_renderTicket_40 : decode cX13_renderTicket 40 = .ok (.iload_n 1, 1) := by decide +kernel
theorem dX13_renderTicket_41 : decode cX13_renderTicket 41 = .ok (.invokevirtual 295, 3) := by decide +kernel
theorem dX13_renderTicket_44 : decode cX13_renderTicket 44 = .ok (.aload_n 0, 1) := by decide +kernel
theorem dX13_renderTicket_45 : decode cX13_renderTicket 45 = .ok (.bipush 32, 2) := by decide +kernel
theorem dX13_renderTicket_47 : decode cX13_renderTicket 47 = .ok (.invokevirtual 292, 3) := by decide +kernel
theorem dX13_renderTicket_50 : decode cX13_renderTicket 50 = .ok (.aload_n 0, 1) := by decide +kernel
theorem dX13_renderTicket_51 : decode cX13_renderTicket 51 = .ok (.aload_n 0, 1) := by decide +kernel
theorem dX13_renderTicket_52 : decode cX13_renderTicket 52 = .ok (.iload_n 2, 1) := by decide +kernel
theorem dX13_renderTicket_53 : decode cX13_renderTicket 53 = .ok (.iconst 1, 1) := by decide +kernel
theorem dX13_renderTicket_54 : decode cX13_renderTicket 54 = .ok (.invokevirtual 147, 3) := by decide +kernel
theorem dX13_renderTicket_57 : decode cX13_renderTicket 57 = .ok (.invokevirtual 295, 3) := by decide +kernel
theorem dX13_renderTicket_60 : decode cX13_renderTicket 60 = .ok (.aload_n 0, 1) := by decide +kernel
theorem dX13_renderTicket_61 : decode cX13_renderTicket 61 = .ok (.bipush 46, 2) := by decide +kernel
theorem dX13_renderTicket_63 : decode cX13_renderTicket 63 = .ok (.invokevirtual 292, 3) := by decide +kernel
theorem dX13_renderTicket_66 : decode cX13_renderTicket 66 = .ok (.aload_n 0, 1) := by decide +kernel
theorem dX13_renderTicket_67 : decode cX13_renderTicket 67 = .ok (.aload_n 0, 1) := by decide +kernel
theorem dX13_renderTicket_68 : decode cX13_renderTicket 68 = .ok (.iload_n 2, 1) := by decide +kernel
theorem dX13_renderTicket_69 : decode cX13_renderTicket 69 = .ok (.iconst 2, 1) := by decide +kernel
theorem dX13_renderTicket_70 : decode cX13_renderTicket 70 = .ok (.invokevirtual 147, 3) := by decide +kernel
theorem dX13_renderTicket_73 : decode cX13_renderTicket 73 = .ok (.invokevirtual 295, 3) := by decide +kernel
theorem dX13_renderTicket_76 : decode cX13_renderTicket 76 = .ok (.aload_n 0, 1) := by decide +kernel
theorem dX13_renderTicket_77 : decode cX13_renderTicket 77 = .ok (.bipush 32, 2) := by decide +kernel
theorem dX13_renderTicket_79 : decode cX13_renderTicket 79 = .ok (.invokevirtual 292, 3) := by decide +kernel
theorem dX13_renderTicket_82 : decode cX13_renderTicket 82 = .ok (.aload_n 0, 1) := by decide +kernel
theorem dX13_renderTicket_83 : decode cX13_renderTicket 83 = .ok (.aload_n 0, 1) := by decide +kernel
theorem dX13_renderTicket_84 : decode cX13_renderTicket 84 = .ok (.iload_n 2, 1) := by decide +kernel
theorem dX13_renderTicket_85 : decode cX13_renderTicket 85 = .ok (.iconst 3, 1) := by decide +kernel
theorem dX13_renderTicket_86 : decode cX13_renderTicket 86 = .ok (.invokevirtual 147, 3) := by decide +kernel
theorem dX13_renderTicket_89 : decode cX13_renderTicket 89 = .ok (.invokevirtual 295, 3) := by decide +kernel
theorem dX13_renderTicket_92 : decode cX13_renderTicket 92 = .ok (.aload_n 0, 1) := by decide +kernel
theorem dX13_renderTicket_93 : decode cX13_renderTicket 93 = .ok (.bipush 62, 2) := by decide +kernel
theorem dX13_renderTicket_95 : decode cX13_renderTicket 95 = .ok (.invokevirtual 292, 3) := by decide +kernel
theorem dX13_renderTicket_98 : decode cX13_renderTicket 98 = .ok (.aload_n 0, 1) := by decide +kernel
theorem dX13_renderTicket_99 : decode cX13_renderTicket 99 = .ok (.aload_n 0, 1) := by decide +kernel
theorem dX13_renderTicket_100 : decode cX13_renderTicket 100 = .ok (.iload_n 2, 1) := by decide +kernel
theorem dX13_renderTicket_101 : decode cX13_renderTicket 101 = .ok (.iconst 4, 1) := by decide +kernel
theorem dX13_renderTicket_102 : decode cX13_renderTicket 102 = .ok (.invokevirtual 147, 3) := by decide +kernel
theorem dX13_renderTicket_105 : decode cX13_renderTicket 105 = .ok (.invokevirtual 295, 3) := by decide +kernel
theorem dX13_renderTicket_108 : decode cX13_renderTicket 108 = .ok (.aload_n 0, 1) := by decide +kernel
theorem dX13_renderTicket_109 : decode cX13_renderTicket 109 = .ok (.bipush 61, 2) := by decide +kernel
theorem dX13_renderTicket_111 : decode cX13_renderTicket 111 = .ok (.invokevirtual 292, 3) := by decide +kernel
theorem dX13_renderTicket_114 : decode cX13_renderTicket 114 = .ok (.aload_n 0, 1) := by decide +kernel
theorem dX13_renderTicket_115 : decode cX13_renderTicket 115 = .ok (.aload_n 0, 1) := by decide +kernel
theorem dX13_renderTicket_116 : decode cX13_renderTicket 116 = .ok (.iload_n 2, 1) := by decide +kernel
theorem dX13_renderTicket_117 : decode cX13_renderTicket 117 = .ok (.iconst 5, 1) := by decide +kernel
theorem dX13_renderTicket_118 : decode cX13_renderTicket 118 = .ok (.invokevirtual 147, 3) := by decide +kernel
theorem dX13_renderTicket_121 : decode cX13_renderTicket 121 = .ok (.invokevirtual 295, 3) := by decide +kernel
theorem dX13_renderTicket_124 : decode cX13_renderTicket 124 = .ok (.aload_n 0, 1) := by decide +kernel
theorem dX13_renderTicket_125 : decode cX13_renderTicket 125 = .ok (.getfield 48, 3) := by decide +kernel
theorem dX13_renderTicket_128 : decode cX13_renderTicket 128 = .ok (.ireturn, 1) := by decide +kernel
theorem dX13_outputAt_0 : decode cX13_outputAt 0 = .ok (.aload_n 0, 1) := by decide +kernel
theorem dX13_outputAt_1 : decode cX13_outputAt 1 = .ok (.iload_n 1, 1) := by decide +kernel
theorem dX13_outputAt_2 : decode cX13_outputAt 2 = .ok (.iconst 0, 1) := by decide +kernel
theorem dX13_outputAt_3 : decode cX13_outputAt 3 = .ok (.aload_n 0, 1) := by decide +kernel
theorem dX13_outputAt_4 : decode cX13_outputAt 4 = .ok (.getfield 48, 3) := by decide +kernel
theorem dX13_outputAt_7 : decode cX13_outputAt 7 = .ok (.iconst 1, 1) := by decide +kernel
theorem dX13_outputAt_8 : decode cX13_outputAt 8 = .ok (.isub, 1) := by decide +kernel
theorem dX13_outputAt_9 : decode cX13_outputAt 9 = .ok (.invokestatic 79, 3) := by decide +kernel
theorem dX13_outputAt_12 : decode cX13_outputAt 12 = .ok (.invokevirtual 217, 3) := by decide +kernel
theorem dX13_outputAt_15 : decode cX13_outputAt 15 = .ok (.ifCond .le 8, 3) := by decide +kernel
theorem dX13_outputAt_18 : decode cX13_outputAt 18 = .ok (.bipush 32, 2) := by decide +kernel
theorem dX13_outputAt_20 : decode cX13_outputAt 20 = .ok (.goto 10, 3) := by decide +kernel
theorem dX13_outputAt_23 : decode cX13_outputAt 23 = .ok (.aload_n 0, 1) := by decide +kernel
theorem dX13_outputAt_24 : decode cX13_outputAt 24 = .ok (.getfield 45, 3) := by decide +kernel
theorem dX13_outputAt_27 : decode cX13_outputAt 27 = .ok (.iload_n 1, 1) := by decide +kernel
theorem dX13_outputAt_28 : decode cX13_outputAt 28 = .ok (.iaload, 1) := by decide +kernel
theorem dX13_outputAt_29 : decode cX13_outputAt 29 = .ok (.i2c, 1) := by decide +kernel
theorem dX13_outputAt_30 : decode cX13_outputAt 30 = .ok (.ireturn, 1) := by decide +kernel
theorem dX13_type_0 : decode cX13_type 0 = .ok (.aload_n 0, 1) := by decide +kernel
theorem dX13_type_1 : decode cX13_type 1 = .ok (.iload_n 1, 1) := by decide +kernel
theorem dX13_type_2 : decode cX13_type 2 = .ok (.bipush 32, 2) := by decide +kernel
theorem dX13_type_4 : decode cX13_type 4 = .ok (.bipush 126, 2) := by decide +kernel
theorem dX13_type_6 : decode cX13_type 6 = .ok (.invokestatic 79, 3) := by decide +kernel
theorem dX13_type_9 : decode cX13_type 9 = .ok (.ifCond .ne 7, 3) := by decide +kernel
theorem dX13_type_12 : decode cX13_type 12 = .ok (.iconst 1, 1) := by decide +kernel
theorem dX13_type_13 : decode cX13_type 13 = .ok (.goto 17, 3) := by decide +kernel
theorem dX13_type_16 : decode cX13_type 16 = .ok (.aload_n 0, 1) := by decide +kernel
theorem dX13_type_17 : decode cX13_type 17 = .ok (.getfield 60, 3) := by decide +kernel
theorem dX13_type_20 : decode cX13_type 20 = .ok (.bipush 60, 2) := by decide +kernel
theorem dX13_type_22 : decode cX13_type 22 = .ok (.if_icmp .ne 7, 3) := by decide +kernel
theorem dX13_type_25 : decode cX13_type 25 = .ok (.iconst 2, 1) := by decide +kernel
theorem dX13_type_26 : decode cX13_type 26 = .ok (.goto 4, 3) := by decide +kernel
theorem dX13_type_29 : decode cX13_type 29 = .ok (.iconst 0, 1) := by decide +kernel
theorem dX13_type_30 : decode cX13_type 30 = .ok (.putfield 28, 3) := by decide +kernel
theorem dX13_type_33 : decode cX13_type 33 = .ok (.aload_n 0, 1) := by decide +kernel
theorem dX13_type_34 : decode cX13_type 34 = .ok (.getfield 28, 3) := by decide +kernel
theorem dX13_type_37 : decode cX13_type 37 = .ok (.ifCond .le 5, 3) := by decide +kernel
theorem dX13_type_40 : decode cX13_type 40 = .ok (.iconst 0, 1) := by decide +kernel
theorem dX13_type_41 : decode cX13_type 41 = .ok (.ireturn, 1) := by decide +kernel
theorem dX13_type_42 : decode cX13_type 42 = .ok (.aload_n 0, 1) := by decide +kernel
theorem dX13_type_43 : decode cX13_type 43 = .ok (.getfield 51, 3) := by decide +kernel
theorem dX13_type_46 : decode cX13_type 46 = .ok (.aload_n 0, 1) := by decide +kernel
theorem dX13_type_47 : decode cX13_type 47 = .ok (.getfield 60, 3) := by decide +kernel
theorem dX13_type_50 : decode cX13_type 50 = .ok (.iload_n 1, 1) := by decide +kernel
theorem dX13_type_51 : decode cX13_type 51 = .ok (.iastore, 1) := by decide +kernel
theorem dX13_type_52 : decode cX13_type 52 = .ok (.aload_n 0, 1) := by decide +kernel
theorem dX13_type_53 : decode cX13_type 53 = .ok (.dup, 1) := by decide +kernel
theorem dX13_type_54 : decode cX13_type 54 = .ok (.getfield 60, 3) := by decide +kernel
theorem dX13_type_57 : decode cX13_type 57 = .ok (.iconst 1, 1) := by decide +kernel
theorem dX13_type_58 : decode cX13_type 58 = .ok (.iadd, 1) := by decide +kernel
theorem dX13_type_59 : decode cX13_type 59 = .ok (.putfield 60, 3) := by decide +kernel
theorem dX13_type_62 : decode cX13_type 62 = .ok (.aload_n 0, 1) := by decide +kernel
theorem dX13_type_63 : decode cX13_type 63 = .ok (.getfield 60, 3) := by decide +kernel
theorem dX13_type_66 : decode cX13_type 66 = .ok (.ireturn, 1) := by decide +kernel
theorem dX13_mark_0 : decode cX13_mark 0 = .ok (.aload_n 0, 1) := by decide +kernel
theorem dX13_mark_1 : decode cX13_mark 1 = .ok (.getfield 72, 3) := by decide +kernel
theorem dX13_mark_4 : decode cX13_mark 4 = .ok (.ifCond .ne 26, 3) := by decide +kernel
theorem dX13_mark_7 : decode cX13_mark 7 = .ok (.aload_n 0, 1) := by decide +kernel
theorem dX13_mark_8 : decode cX13_mark 8 = .ok (.getfield 66, 3) := by decide +kernel
theorem dX13_mark_11 : decode cX13_mark 11 = .ok (.aload_n 0, 1) := by decide +kernel
theorem dX13_mark_12 : decode cX13_mark 12 = .ok (.getfield 63, 3) := by decide +kernel
theorem dX13_mark_15 : decode cX13_mark 15 = .ok (.if_icmp .ge 15, 3) := by decide +kernel
theorem dX13_mark_18 : decode cX13_mark 18 = .ok (.aload_n 0, 1) := by decide +kernel
theorem dX13_mark_19 : decode cX13_mark 19 = .ok (.getfield 51, 3) := by decide +kernel
theorem dX13_mark_22 : decode cX13_mark 22 = .ok (.aload_n 0, 1) := by decide +kernel
theorem dX13_mark_23 : decode cX13_mark 23 = .ok (.getfield 66, 3) := by decide +kernel
theorem dX13_mark_26 : decode cX13_mark 26 = .ok (.iaload, 1) := by decide +kernel
theorem dX13_mark_27 : decode cX13_mark 27 = .ok (.goto 4, 3) := by decide +kernel
theorem dX13_mark_30 : decode cX13_mark 30 = .ok (.iconst (-1), 1) := by decide +kernel
theorem dX13_mark_31 : decode cX13_mark 31 = .ok (.ireturn, 1) := by decide +kernel
theorem dX13_expect_0 : decode cX13_expect 0 = .ok (.aload_n 0, 1) := by decide +kernel
theorem dX13_expect_1 : decode cX13_expect 1 = .ok (.dup, 1) := by decide +kernel
theorem dX13_expect_2 : decode cX13_expect 2 = .ok (.getfield 72, 3) := by decide +kernel
theorem dX13_expect_5 : decode cX13_expect 5 = .ok (.aload_n 0, 1) := by decide +kernel
theorem dX13_expect_6 : decode cX13_expect 6 = .ok (.invokevirtual 298, 3) := by decide +kernel
theorem dX13_expect_9 : decode cX13_expect 9 = .ok (.iload_n 1, 1) := by decide +kernel
theorem dX13_expect_10 : decode cX13_expect 10 = .ok (.if_icmp .eq 7, 3) := by decide +kernel
theorem dX13_expect_13 : decode cX13_expect 13 = .ok (.iconst 1, 1) := by decide +kernel
theorem dX13_expect_14 : decode cX13_expect 14 = .ok (.goto 4, 3) := by decide +kernel
theorem dX13_expect_17 : decode cX13_expect 17 = .ok (.iconst 0, 1) := by decide +kernel
theorem dX13_expect_18 : decode cX13_expect 18 = .ok (.ior, 1) := by decide +kernel
theorem dX13_expect_19 : decode cX13_expect 19 = .ok (.putfield 72, 3) := by decide +kernel
theorem dX13_expect_22 : decode cX13_expect 22 = .ok (.aload_n 0, 1) := by decide +kernel
theorem dX13_expect_23 : decode cX13_expect 23 = .ok (.dup, 1) := by decide +kernel
theorem dX13_expect_24 : decode cX13_expect 24 = .ok (.getfield 66, 3) := by decide +kernel
theorem dX13_expect_27 : decode cX13_expect 27 = .ok (.aload_n 0, 1) := by decide +kernel
theorem dX13_expect_28 : decode cX13_expect 28 = .ok (.getfield 72, 3) := by decide +kernel
theorem dX13_expect_31 : decode cX13_expect 31 = .ok (.ifCond .eq 7, 3) := by decide +kernel
theorem dX13_expect_34 : decode cX13_expect 34 = .ok (.iconst 0, 1) := by decide +kernel
theorem dX13_expect_35 : decode cX13_expect 35 = .ok (.goto 4, 3) := by decide +kernel
theorem dX13_expect_38 : decode cX13_expect 38 = .ok (.iconst 1, 1) := by decide +kernel
theorem dX13_expect_39 : decode cX13_expect 39 = .ok (.iadd, 1) := by decide +kernel
theorem dX13_expect_40 : decode cX13_expect 40 = .ok (.putfield 66, 3) := by decide +kernel
theorem dX13_expect_43 : decode cX13_expect 43 = .ok (.return_, 1) := by decide +kernel
theorem dX13_number_0 : decode cX13_number 0 = .ok (.aload_n 0, 1) := by decide +kernel
theorem dX13_number_1 : decode cX13_number 1 = .ok (.dup, 1) := by decide +kernel
theorem dX13_number_2 : decode cX13_number 2 = .ok (.getfield 72, 3) := by decide +kernel
theorem dX13_number_5 : decode cX13_number 5 = .ok (.aload_n 0, 1) := by decide +kernel
theorem dX13_number_6 : decode cX13_number 6 = .ok (.invokevirtual 298, 3) := by decide +kernel
theorem dX13_number_9 : decode cX13_number 9 = .ok (.bipush 48, 2) := by decide +kernel
theorem dX13_number_11 : decode cX13_number 11 = .ok (.bipush 57, 2) := by decide +kernel
theorem dX13_number_13 : decode cX13_number 13 = .ok (.invokestatic 79, 3) := by decide +kernel
theorem dX13_number_16 : decode cX13_number 16 = .ok (.ifCond .ne 7, 3) := by decide +kernel
theorem dX13_number_19 : decode cX13_number 19 = .ok (.iconst 1, 1) := by decide +kernel
theorem dX13_number_20 : decode cX13_number 20 = .ok (.goto 4, 3) := by decide +kernel
theorem dX13_number_23 : decode cX13_number 23 = .ok (.iconst 0, 1) := by decide +kernel
theorem dX13_number_24 : decode cX13_number 24 = .ok (.ior, 1) := by decide +kernel
theorem dX13_number_25 : decode cX13_number 25 = .ok (.putfield 72, 3) := by decide +kernel
theorem dX13_number_28 : decode cX13_number 28 = .ok (.iconst 0, 1) := by decide +kernel
theorem dX13_number_29 : decode cX13_number 29 = .ok (.istore_n 2, 1) := by decide +kernel
theorem dX13_number_30 : decode cX13_number 30 = .ok (.iconst 0, 1) := by decide +kernel
theorem dX13_number_31 : decode cX13_number 31 = .ok (.istore_n 3, 1) := by decide +kernel
theorem dX13_number_32 : decode cX13_number 32 = .ok (.iload_n 3, 1) := by decide +kernel
theorem dX13_number_33 : decode cX13_number 33 = .ok (.iload_n 1, 1) := by decide +kernel
theorem dX13_number_34 : decode cX13_number 34 = .ok (.if_icmp .ge 51, 3) := by decide +kernel
theorem dX13_number_37 : decode cX13_number 37 = .ok (.aload_n 0, 1) := by decide +kernel
theorem dX13_number_38 : decode cX13_number 38 = .ok (.invokevirtual 298, 3) := by decide +kernel
theorem dX13_number_41 : decode cX13_number 41 = .ok (.bipush 48, 2) := by decide +kernel
theorem dX13_number_43 : decode cX13_number 43 = .ok (.bipush 57, 2) := by decide +kernel
theorem dX13_number_45 : decode cX13_number 45 = .ok (.invokestatic 79, 3) := by decide +kernel
theorem dX13_number_48 : decode cX13_number 48 = .ok (.ifCond .eq 37, 3) := by decide +kernel
theorem dX13_number_51 : decode cX13_number 51 = .ok (.bipush 10, 2) := by decide +kernel
theorem dX13_number_53 : decode cX13_number 53 = .ok (.iload_n 2, 1) := by decide +kernel
theorem dX13_number_54 : decode cX13_number 54 = .ok (.imul, 1) := by decide +kernel
theorem dX13_number_55 : decode cX13_number 55 = .ok (.aload_n 0, 1) := by decide +kernel
theorem dX13_number_56 : decode cX13_number 56 = .ok (.getfield 51, 3) := by decide +kernel
theorem dX13_number_59 : decode cX13_number 59 = .ok (.aload_n 0, 1) := by decide +kernel
theorem dX13_number_60 : decode cX13_number 60 = .ok (.getfield 66, 3) := by decide +kernel
theorem dX13_number_63 : decode cX13_number 63 = .ok (.iaload, 1) := by decide +kernel
theorem dX13_number_64 : decode cX13_number 64 = .ok (.iadd, 1) := by decide +kernel
theorem dX13_number_65 : decode cX13_number 65 = .ok (.bipush 48, 2) := by decide +kernel
theorem dX13_number_67 : decode cX13_number 67 = .ok (.isub, 1) := by decide +kernel
theorem dX13_number_68 : decode cX13_number 68 = .ok (.istore_n 2, 1) := by decide +kernel
theorem dX13_number_69 : decode cX13_number 69 = .ok (.aload_n 0, 1) := by decide +kernel
theorem dX13_number_70 : decode cX13_number 70 = .ok (.dup, 1) := by decide +kernel
theorem dX13_number_71 : decode cX13_number 71 = .ok (.getfield 66, 3) := by decide +kernel
theorem dX13_number_74 : decode cX13_number 74 = .ok (.iconst 1, 1) := by decide +kernel
theorem dX13_number_75 : decode cX13_number 75 = .ok (.iadd, 1) := by decide +kernel
theorem dX13_number_76 : decode cX13_number 76 = .ok (.putfield 66, 3) := by decide +kernel
theorem dX13_number_79 : decode cX13_number 79 = .ok (.iinc 3 1, 3) := by decide +kernel
theorem dX13_number_82 : decode cX13_number 82 = .ok (.goto (-50), 3) := by decide +kernel
theorem dX13_number_85 : decode cX13_number 85 = .ok (.iload_n 2, 1) := by decide +kernel
theorem dX13_number_86 : decode cX13_number 86 = .ok (.ireturn, 1) := by decide +kernel
theorem dX13_pick_0 : decode cX13_pick 0 = .ok (.iload_n 0, 1) := by decide +kernel
theorem dX13_pick_1 : decode cX13_pick 1 = .ok (.tableswitch 54 0 5 #[39, 41, 43, 45, 48, 51], 39) := by decide +kernel
theorem dX13_pick_40 : decode cX13_pick 40 = .ok (.iload_n 1, 1) := by decide +kernel
theorem dX13_pick_41 : decode cX13_pick 41 = .ok (.ireturn, 1) := by decide +kernel
theorem dX13_pick_42 : decode cX13_pick 42 = .ok (.iload_n 2, 1) := by decide +kernel
theorem dX13_pick_43 : decode cX13_pick 43 = .ok (.ireturn, 1) := by decide +kernel
theorem dX13_pick_44 : decode cX13_pick 44 = .ok (.iload_n 3, 1) := by decide +kernel
theorem dX13_pick_45 : decode cX13_pick 45 = .ok (.ireturn, 1) := by decide +kernel
theorem dX13_pick_46 : decode cX13_pick 46 = .ok (.iload 4, 2) := by decide +kernel
theorem dX13_pick_48 : decode cX13_pick 48 = .ok (.ireturn, 1) := by decide +kernel
theorem dX13_pick_49 : decode cX13_pick 49 = .ok (.iload 5, 2) := by decide +kernel
theorem dX13_pick_51 : decode cX13_pick 51 = .ok (.ireturn, 1) := by decide +kernel
theorem dX13_pick_52 : decode cX13_pick 52 = .ok (.iload 6, 2) := by decide +kernel
theorem dX13_pick_54 : decode cX13_pick 54 = .ok (.ireturn, 1) := by decide +kernel
theorem dX13_pick_55 : decode cX13_pick 55 = .ok (.iconst 0, 1) := by decide +kernel
theorem dX13_pick_56 : decode cX13_pick 56 = .ok (.ireturn, 1) := by decide +kernel
theorem dX13_spelled_0 : decode cX13_spelled 0 = .ok (.iload_n 0, 1) := by decide +kernel
theorem dX13_spelled_1 : decode cX13_spelled 1 = .ok (.tableswitch 260 0 12 #[67, 82, 97, 112, 126, 140, 155, 169, 185, 200, 215, 228, 243], 67) := by decide +kernel
theorem dX13_spelled_68 : decode cX13_spelled 68 = .ok (.iload_n 1, 1) := by decide +kernel
theorem dX13_spelled_69 : decode cX13_spelled 69 = .ok (.bipush 115, 2) := by decide +kernel
theorem dX13_spelled_71 : decode cX13_spelled 71 = .ok (.bipush 116, 2) := by decide +kernel
theorem dX13_spelled_73 : decode cX13_spelled 73 = .ok (.bipush 111, 2) := by decide +kernel
theorem dX13_spelled_75 : decode cX13_spelled 75 = .ok (.bipush 112, 2) := by decide +kernel
theorem dX13_spelled_77 : decode cX13_spelled 77 = .ok (.iconst 0, 1) := by decide +kernel
theorem dX13_spelled_78 : decode cX13_spelled 78 = .ok (.iconst 0, 1) := by decide +kernel
theorem dX13_spelled_79 : decode cX13_spelled 79 = .ok (.invokestatic 301, 3) := by decide +kernel
theorem dX13_spelled_82 : decode cX13_spelled 82 = .ok (.ireturn, 1) := by decide +kernel
theorem dX13_spelled_83 : decode cX13_spelled 83 = .ok (.iload_n 1, 1) := by decide +kernel
theorem dX13_spelled_84 : decode cX13_spelled 84 = .ok (.bipush 119, 2) := by decide +kernel
theorem dX13_spelled_86 : decode cX13_spelled 86 = .ok (.bipush 97, 2) := by decide +kernel
theorem dX13_spelled_88 : decode cX13_spelled 88 = .ok (.bipush 108, 2) := by decide +kernel
theorem dX13_spelled_90 : decode cX13_spelled 90 = .ok (.bipush 107, 2) := by decide +kernel
theorem dX13_spelled_92 : decode cX13_spelled 92 = .ok (.iconst 0, 1) := by decide +kernel
theorem dX13_spelled_93 : decode cX13_spelled 93 = .ok (.iconst 0, 1) := by decide +kernel
theorem dX13_spelled_94 : decode cX13_spelled 94 = .ok (.invokestatic 301, 3) := by decide +kernel
theorem dX13_spelled_97 : decode cX13_spelled 97 = .ok (.ireturn, 1) := by decide +kernel
theorem dX13_spelled_98 : decode cX13_spelled 98 = .ok (.iload_n 1, 1) := by decide +kernel
theorem dX13_spelled_99 : decode cX13_spelled 99 = .ok (.bipush 108, 2) := by decide +kernel
theorem dX13_spelled_101 : decode cX13_spelled 101 = .ok (.bipush 105, 2) := by decide +kernel
theorem dX13_spelled_103 : decode cX13_spelled 103 = .ok (.bipush 110, 2) := by decide +kernel
theorem dX13_spelled_105 : decode cX13_spelled 105 = .ok (.bipush 101, 2) := by decide +kernel
theorem dX13_spelled_107 : decode cX13_spelled 107 = .ok (.iconst 0, 1) := by decide +kernel
theorem dX13_spelled_108 : decode cX13_spelled 108 = .ok (.iconst 0, 1) := by decide +kernel
theorem dX13_spelled_109 : decode cX13_spelled 109 = .ok (.invokestatic 301, 3) := by decide +kernel
theorem dX13_spelled_112 : decode cX13_spelled 112 = .ok (.ireturn, 1) := by decide +kernel
theorem dX13_spelled_113 : decode cX13_spelled 113 = .ok (.iload_n 1, 1) := by decide +kernel
theorem dX13_spelled_114 : decode cX13_spelled 114 = .ok (.bipush 97, 2) := by decide +kernel
theorem dX13_spelled_116 : decode cX13_spelled 116 = .ok (.bipush 100, 2) := by decide +kernel
theorem dX13_spelled_118 : decode cX13_spelled 118 = .ok (.bipush 100, 2) := by decide +kernel
theorem dX13_spelled_120 : decode cX13_spelled 120 = .ok (.iconst 0, 1) := by decide +kernel
theorem dX13_spelled_121 : decode cX13_spelled 121 = .ok (.iconst 0, 1) := by decide +kernel
theorem dX13_spelled_122 : decode cX13_spelled 122 = .ok (.iconst 0, 1) := by decide +kernel
theorem dX13_spelled_123 : decode cX13_spelled 123 = .ok (.invokestatic 301, 3) := by decide +kernel
theorem dX13_spelled_126 : decode cX13_spelled 126 = .ok (.ireturn, 1) := by decide +kernel
theorem dX13_spelled_127 : decode cX13_spelled 127 = .ok (.iload_n 1, 1) := by decide +kernel
theorem dX13_spelled_128 : decode cX13_spelled 128 = .ok (.bipush 99, 2) := by decide +kernel
theorem dX13_spelled_130 : decode cX13_spelled 130 = .ok (.bipush 117, 2) := by decide +kernel
theorem dX13_spelled_132 : decode cX13_spelled 132 = .ok (.bipush 116, 2) := by decide +kernel
theorem dX13_spelled_134 : decode cX13_spelled 134 = .ok (.iconst 0, 1) := by decide +kernel
theorem dX13_spelled_135 : decode cX13_spelled 135 = .ok (.iconst 0, 1) := by decide +kernel
theorem dX13_spelled_136 : decode cX13_spelled 136 = .ok (.iconst 0, 1) := by decide +kernel
theorem dX13_spelled_137 : decode cX13_spelled 137 = .ok (.invokestatic 301, 3) := by decide +kernel
theorem dX13_spelled_140 : decode cX13_spelled 140 = .ok (.ireturn, 1) := by decide +kernel
theorem dX13_spelled_141 : decode cX13_spelled 141 = .ok (.iload_n 1, 1) := by decide +kernel
theorem dX13_spelled_142 : decode cX13_spelled 142 = .ok (.bipush 114, 2) := by decide +kernel
theorem dX13_spelled_144 : decode cX13_spelled 144 = .ok (.bipush 97, 2) := by decide +kernel
theorem dX13_spelled_146 : decode cX13_spelled 146 = .ok (.bipush 105, 2) := by decide +kernel
theorem dX13_spelled_148 : decode cX13_spelled 148 = .ok (.bipush 110, 2) := by decide +kernel
theorem dX13_spelled_150 : decode cX13_spelled 150 = .ok (.iconst 0, 1) := by decide +kernel
theorem dX13_spelled_151 : decode cX13_spelled 151 = .ok (.iconst 0, 1) := by decide +kernel
theorem dX13_spelled_152 : decode cX13_spelled 152 = .ok (.invokestatic 301, 3) := by decide +kernel
theorem dX13_spelled_155 : decode cX13_spelled 155 = .ok (.ireturn, 1) := by decide +kernel
theorem dX13_spelled_156 : decode cX13_spelled 156 = .ok (.iload_n 1, 1) := by decide +kernel
theorem dX13_spelled_157 : decode cX13_spelled 157 = .ok (.bipush 100, 2) := by decide +kernel
theorem dX13_spelled_159 : decode cX13_spelled 159 = .ok (.bipush 114, 2) := by decide +kernel
theorem dX13_spelled_161 : decode cX13_spelled 161 = .ok (.bipush 121, 2) := by decide +kernel
theorem dX13_spelled_163 : decode cX13_spelled 163 = .ok (.iconst 0, 1) := by decide +kernel
theorem dX13_spelled_164 : decode cX13_spelled 164 = .ok (.iconst 0, 1) := by decide +kernel
theorem dX13_spelled_165 : decode cX13_spelled 165 = .ok (.iconst 0, 1) := by decide +kernel
theorem dX13_spelled_166 : decode cX13_spelled 166 = .ok (.invokestatic 301, 3) := by decide +kernel
theorem dX13_spelled_169 : decode cX13_spelled 169 = .ok (.ireturn, 1) := by decide +kernel
theorem dX13_spelled_170 : decode cX13_spelled 170 = .ok (.iload_n 1, 1) := by decide +kernel
theorem dX13_spelled_171 : decode cX13_spelled 171 = .ok (.bipush 99, 2) := by decide +kernel
theorem dX13_spelled_173 : decode cX13_spelled 173 = .ok (.bipush 108, 2) := by decide +kernel
theorem dX13_spelled_175 : decode cX13_spelled 175 = .ok (.bipush 111, 2) := by decide +kernel
theorem dX13_spelled_177 : decode cX13_spelled 177 = .ok (.bipush 115, 2) := by decide +kernel
theorem dX13_spelled_179 : decode cX13_spelled 179 = .ok (.bipush 101, 2) := by decide +kernel
theorem dX13_spelled_181 : decode cX13_spelled 181 = .ok (.iconst 0, 1) := by decide +kernel
theorem dX13_spelled_182 : decode cX13_spelled 182 = .ok (.invokestatic 301, 3) := by decide +kernel
theorem dX13_spelled_185 : decode cX13_spelled 185 = .ok (.ireturn, 1) := by decide +kernel
theorem dX13_spelled_186 : decode cX13_spelled 186 = .ok (.iload_n 1, 1) := by decide +kernel
theorem dX13_spelled_187 : decode cX13_spelled 187 = .ok (.bipush 111, 2) := by decide +kernel
theorem dX13_spelled_189 : decode cX13_spelled 189 = .ok (.bipush 112, 2) := by decide +kernel
theorem dX13_spelled_191 : decode cX13_spelled 191 = .ok (.bipush 101, 2) := by decide +kernel
theorem dX13_spelled_193 : decode cX13_spelled 193 = .ok (.bipush 110, 2) := by decide +kernel
theorem dX13_spelled_195 : decode cX13_spelled 195 = .ok (.iconst 0, 1) := by decide +kernel
theorem dX13_spelled_196 : decode cX13_spelled 196 = .ok (.iconst 0, 1) := by decide +kernel
theorem dX13_spelled_197 : decode cX13_spelled 197 = .ok (.invokestatic 301, 3) := by decide +kernel
theorem dX13_spelled_200 : decode cX13_spelled 200 = .ok (.ireturn, 1) := by decide +kernel
theorem dX13_spelled_201 : decode cX13_spelled 201 = .ok (.iload_n 1, 1) := by decide +kernel
theorem dX13_spelled_202 : decode cX13_spelled 202 = .ok (.bipush 104, 2) := by decide +kernel
theorem dX13_spelled_204 : decode cX13_spelled 204 = .ok (.bipush 97, 2) := by decide +kernel
theorem dX13_spelled_206 : decode cX13_spelled 206 = .ok (.bipush 108, 2) := by decide +kernel
theorem dX13_spelled_208 : decode cX13_spelled 208 = .ok (.bipush 116, 2) := by decide +kernel
theorem dX13_spelled_210 : decode cX13_spelled 210 = .ok (.iconst 0, 1) := by decide +kernel
theorem dX13_spelled_211 : decode cX13_spelled 211 = .ok (.iconst 0, 1) := by decide +kernel
theorem dX13_spelled_212 : decode cX13_spelled 212 = .ok (.invokestatic 301, 3) := by decide +kernel
theorem dX13_spelled_215 : decode cX13_spelled 215 = .ok (.ireturn, 1) := by decide +kernel
theorem dX13_spelled_216 : decode cX13_spelled 216 = .ok (.iload_n 1, 1) := by decide +kernel
theorem dX13_spelled_217 : decode cX13_spelled 217 = .ok (.bipush 103, 2) := by decide +kernel
theorem dX13_spelled_219 : decode cX13_spelled 219 = .ok (.bipush 111, 2) := by decide +kernel
theorem dX13_spelled_221 : decode cX13_spelled 221 = .ok (.iconst 0, 1) := by decide +kernel
theorem dX13_spelled_222 : decode cX13_spelled 222 = .ok (.iconst 0, 1) := by decide +kernel
theorem dX13_spelled_223 : decode cX13_spelled 223 = .ok (.iconst 0, 1) := by decide +kernel
theorem dX13_spelled_224 : decode cX13_spelled 224 = .ok (.iconst 0, 1) := by decide +kernel
theorem dX13_spelled_225 : decode cX13_spelled 225 = .ok (.invokestatic 301, 3) := by decide +kernel
theorem dX13_spelled_228 : decode cX13_spelled 228 = .ok (.ireturn, 1) := by decide +kernel
theorem dX13_spelled_229 : decode cX13_spelled 229 = .ok (.iload_n 1, 1) := by decide +kernel
theorem dX13_spelled_230 : decode cX13_spelled 230 = .ok (.bipush 115, 2) := by decide +kernel
theorem dX13_spelled_232 : decode cX13_spelled 232 = .ok (.bipush 101, 2) := by decide +kernel
theorem dX13_spelled_234 : decode cX13_spelled 234 = .ok (.bipush 108, 2) := by decide +kernel
theorem dX13_spelled_236 : decode cX13_spelled 236 = .ok (.bipush 108, 2) := by decide +kernel
theorem dX13_spelled_238 : decode cX13_spelled 238 = .ok (.iconst 0, 1) := by decide +kernel
theorem dX13_spelled_239 : decode cX13_spelled 239 = .ok (.iconst 0, 1) := by decide +kernel
theorem dX13_spelled_240 : decode cX13_spelled 240 = .ok (.invokestatic 301, 3) := by decide +kernel
theorem dX13_spelled_243 : decode cX13_spelled 243 = .ok (.ireturn, 1) := by decide +kernel
theorem dX13_spelled_244 : decode cX13_spelled 244 = .ok (.iload_n 1, 1) := by decide +kernel
theorem dX13_spelled_245 : decode cX13_spelled 245 = .ok (.bipush 114, 2) := by decide +kernel
theorem dX13_spelled_247 : decode cX13_spelled 247 = .ok (.bipush 101, 2) := by decide +kernel
theorem dX13_spelled_249 : decode cX13_spelled 249 = .ok (.bipush 102, 2) := by decide +kernel
theorem dX13_spelled_251 : decode cX13_spelled 251 = .ok (.bipush 117, 2) := by decide +kernel
theorem dX13_spelled_253 : decode cX13_spelled 253 = .ok (.bipush 110, 2) := by decide +kernel
theorem dX13_spelled_255 : decode cX13_spelled 255 = .ok (.bipush 100, 2) := by decide +kernel
theorem dX13_spelled_257 : decode cX13_spelled 257 = .ok (.invokestatic 301, 3) := by decide +kernel
theorem dX13_spelled_260 : decode cX13_spelled 260 = .ok (.ireturn, 1) := by decide +kernel
theorem dX13_spelled_261 : decode cX13_spelled 261 = .ok (.iload_n 1, 1) := by decide +kernel
theorem dX13_spelled_262 : decode cX13_spelled 262 = .ok (.bipush 119, 2) := by decide +kernel
theorem dX13_spelled_264 : decode cX13_spelled 264 = .ok (.bipush 97, 2) := by decide +kernel
theorem dX13_spelled_266 : decode cX13_spelled 266 = .ok (.bipush 105, 2) := by decide +kernel
theorem dX13_spelled_268 : decode cX13_spelled 268 = .ok (.bipush 116, 2) := by decide +kernel
theorem dX13_spelled_270 : decode cX13_spelled 270 = .ok (.iconst 0, 1) := by decide +kernel
theorem dX13_spelled_271 : decode cX13_spelled 271 = .ok (.iconst 0, 1) := by decide +kernel
theorem dX13_spelled_272 : decode cX13_spelled 272 = .ok (.invokestatic 301, 3) := by decide +kernel
theorem dX13_spelled_275 : decode cX13_spelled 275 = .ok (.ireturn, 1) := by decide +kernel
theorem dX13_word_0 : decode cX13_word 0 = .ok (.iconst 0, 1) := by decide +kernel
theorem dX13_word_1 : decode cX13_word 1 = .ok (.istore_n 1, 1) := by decide +kernel
theorem dX13_word_2 : decode cX13_word 2 = .ok (.iconst 0, 1) := by decide +kernel
theorem dX13_word_3 : decode cX13_word 3 = .ok (.istore_n 2, 1) := by decide +kernel
theorem dX13_word_4 : decode cX13_word 4 = .ok (.iload_n 2, 1) := by decide +kernel
theorem dX13_word_5 : decode cX13_word 5 = .ok (.bipush 14, 2) := by decide +kernel
theorem dX13_word_7 : decode cX13_word 7 = .ok (.if_icmp .ge 88, 3) := by decide +kernel
theorem dX13_word_10 : decode cX13_word 10 = .ok (.iconst 0, 1) := by decide +kernel
theorem dX13_word_11 : decode cX13_word 11 = .ok (.istore_n 3, 1) := by decide +kernel
theorem dX13_word_12 : decode cX13_word 12 = .ok (.iload_n 2, 1) := by decide +kernel
theorem dX13_word_13 : decode cX13_word 13 = .ok (.iload_n 3, 1) := by decide +kernel
theorem dX13_word_14 : decode cX13_word 14 = .ok (.invokestatic 305, 3) := by decide +kernel
theorem dX13_word_17 : decode cX13_word 17 = .ok (.ifCond .le 41, 3) := by decide +kernel
theorem dX13_word_20 : decode cX13_word 20 = .ok (.aload_n 0, 1) := by decide +kernel
theorem dX13_word_21 : decode cX13_word 21 = .ok (.getfield 66, 3) := by decide +kernel
theorem dX13_word_24 : decode cX13_word 24 = .ok (.iload_n 3, 1) := by decide +kernel
theorem dX13_word_25 : decode cX13_word 25 = .ok (.iadd, 1) := by decide +kernel
theorem dX13_word_26 : decode cX13_word 26 = .ok (.aload_n 0, 1) := by decide +kernel
theorem dX13_word_27 : decode cX13_word 27 = .ok (.getfield 63, 3) := by decide +kernel
theorem dX13_word_30 : decode cX13_word 30 = .ok (.if_icmp .ge 28, 3) := by decide +kernel
theorem dX13_word_33 : decode cX13_word 33 = .ok (.aload_n 0, 1) := by decide +kernel
theorem dX13_word_34 : decode cX13_word 34 = .ok (.getfield 51, 3) := by decide +kernel
theorem dX13_word_37 : decode cX13_word 37 = .ok (.aload_n 0, 1) := by decide +kernel
theorem dX13_word_38 : decode cX13_word 38 = .ok (.getfield 66, 3) := by decide +kernel
theorem dX13_word_41 : decode cX13_word 41 = .ok (.iload_n 3, 1) := by decide +kernel
theorem dX13_word_42 : decode cX13_word 42 = .ok (.iadd, 1) := by decide +kernel
theorem dX13_word_43 : decode cX13_word 43 = .ok (.iaload, 1) := by decide +kernel
theorem dX13_word_44 : decode cX13_word 44 = .ok (.iload_n 2, 1) := by decide +kernel
theorem dX13_word_45 : decode cX13_word 45 = .ok (.iload_n 3, 1) := by decide +kernel
theorem dX13_word_46 : decode cX13_word 46 = .ok (.invokestatic 305, 3) := by decide +kernel
theorem dX13_word_49 : decode cX13_word 49 = .ok (.if_icmp .ne 9, 3) := by decide +kernel
theorem dX13_word_52 : decode cX13_word 52 = .ok (.iinc 3 1, 3) := by decide +kernel
theorem dX13_word_55 : decode cX13_word 55 = .ok (.goto (-43), 3) := by decide +kernel
theorem dX13_word_58 : decode cX13_word 58 = .ok (.iload_n 2, 1) := by decide +kernel
theorem dX13_word_59 : decode cX13_word 59 = .ok (.iload_n 3, 1) := by decide +kernel
theorem dX13_word_60 : decode cX13_word 60 = .ok (.invokestatic 305, 3) := by decide +kernel
theorem dX13_word_63 : decode cX13_word 63 = .ok (.ifCond .ne 15, 3) := by decide +kernel
theorem dX13_word_66 : decode cX13_word 66 = .ok (.aload_n 0, 1) := by decide +kernel
theorem dX13_word_67 : decode cX13_word 67 = .ok (.dup, 1) := by decide +kernel
theorem dX13_word_68 : decode cX13_word 68 = .ok (.getfield 66, 3) := by decide +kernel
theorem dX13_word_71 : decode cX13_word 71 = .ok (.iload_n 3, 1) := by decide +kernel
theorem dX13_word_72 : decode cX13_word 72 = .ok (.iadd, 1) := by decide +kernel
theorem dX13_word_73 : decode cX13_word 73 = .ok (.putfield 66, 3) := by decide +kernel
theorem dX13_word_76 : decode cX13_word 76 = .ok (.iload_n 2, 1) := by decide +kernel
theorem dX13_word_77 : decode cX13_word 77 = .ok (.ireturn, 1) := by decide +kernel
theorem dX13_word_78 : decode cX13_word 78 = .ok (.iload_n 3, 1) := by decide +kernel
theorem dX13_word_79 : decode cX13_word 79 = .ok (.iload_n 1, 1) := by decide +kernel
theorem dX13_word_80 : decode cX13_word 80 = .ok (.if_icmp .le 7, 3) := by decide +kernel
theorem dX13_word_83 : decode cX13_word 83 = .ok (.iload_n 3, 1) := by decide +kernel
theorem dX13_word_84 : decode cX13_word 84 = .ok (.goto 4, 3) := by decide +kernel
theorem dX13_word_87 : decode cX13_word 87 = .ok (.iload_n 1, 1) := by decide +kernel
theorem dX13_word_88 : decode cX13_word 88 = .ok (.istore_n 1, 1) := by decide +kernel
theorem dX13_word_89 : decode cX13_word 89 = .ok (.iinc 2 1, 3) := by decide +kernel
theorem dX13_word_92 : decode cX13_word 92 = .ok (.goto (-88), 3) := by decide +kernel
theorem dX13_word_95 : decode cX13_word 95 = .ok (.aload_n 0, 1) := by decide +kernel
theorem dX13_word_96 : decode cX13_word 96 = .ok (.dup, 1) := by decide +kernel
theorem dX13_word_97 : decode cX13_word 97 = .ok (.getfield 66, 3) := by decide +kernel
theorem dX13_word_100 : decode cX13_word 100 = .ok (.iload_n 1, 1) := by decide +kernel
theorem dX13_word_101 : decode cX13_word 101 = .ok (.iadd, 1) := by decide +kernel
theorem dX13_word_102 : decode cX13_word 102 = .ok (.putfield 66, 3) := by decide +kernel
theorem dX13_word_105 : decode cX13_word 105 = .ok (.aload_n 0, 1) := by decide +kernel
theorem dX13_word_106 : decode cX13_word 106 = .ok (.iconst 1, 1) := by decide +kernel
theorem dX13_word_107 : decode cX13_word 107 = .ok (.putfield 72, 3) := by decide +kernel
theorem dX13_word_110 : decode cX13_word 110 = .ok (.iconst 0, 1) := by decide +kernel
theorem dX13_word_111 : decode cX13_word 111 = .ok (.ireturn, 1) := by decide +kernel
theorem dX13_put_0 : decode cX13_put 0 = .ok (.aload_n 0, 1) := by decide +kernel
theorem dX13_put_1 : decode cX13_put 1 = .ok (.getfield 57, 3) := by decide +kernel
theorem dX13_put_4 : decode cX13_put 4 = .ok (.iconst 4, 1) := by decide +kernel
theorem dX13_put_5 : decode cX13_put 5 = .ok (.aload_n 0, 1) := by decide +kernel
theorem dX13_put_6 : decode cX13_put 6 = .ok (.getfield 69, 3) := by decide +kernel
theorem dX13_put_9 : decode cX13_put 9 = .ok (.imul, 1) := by decide +kernel
theorem dX13_put_10 : decode cX13_put 10 = .ok (.iload_n 1, 1) := by decide +kernel
theorem dX13_put_11 : decode cX13_put 11 = .ok (.iadd, 1) := by decide +kernel
theorem dX13_put_12 : decode cX13_put 12 = .ok (.iload_n 2, 1) := by decide +kernel
theorem dX13_put_13 : decode cX13_put 13 = .ok (.iastore, 1) := by decide +kernel
theorem dX13_put_14 : decode cX13_put 14 = .ok (.return_, 1) := by decide +kernel
theorem dX13_readsWalk_0 : decode cX13_readsWalk 0 = .ok (.aload_n 0, 1) := by decide +kernel
theorem dX13_readsWalk_1 : decode cX13_readsWalk 1 = .ok (.iconst 0, 1) := by decide +kernel
theorem dX13_readsWalk_2 : decode cX13_readsWalk 2 = .ok (.aload_n 0, 1) := by decide +kernel
theorem dX13_readsWalk_3 : decode cX13_readsWalk 3 = .ok (.iconst 1, 1) := by decide +kernel
theorem dX13_readsWalk_4 : decode cX13_readsWalk 4 = .ok (.invokevirtual 308, 3) := by decide +kernel
theorem dX13_readsWalk_7 : decode cX13_readsWalk 7 = .ok (.invokevirtual 311, 3) := by decide +kernel
theorem dX13_readsWalk_10 : decode cX13_readsWalk 10 = .ok (.aload_n 0, 1) := by decide +kernel
theorem dX13_readsWalk_11 : decode cX13_readsWalk 11 = .ok (.bipush 45, 2) := by decide +kernel
theorem dX13_readsWalk_13 : decode cX13_readsWalk 13 = .ok (.invokevirtual 315, 3) := by decide +kernel
theorem dX13_readsWalk_16 : decode cX13_readsWalk 16 = .ok (.aload_n 0, 1) := by decide +kernel
theorem dX13_readsWalk_17 : decode cX13_readsWalk 17 = .ok (.iconst 1, 1) := by decide +kernel
theorem dX13_readsWalk_18 : decode cX13_readsWalk 18 = .ok (.aload_n 0, 1) := by decide +kernel
theorem dX13_readsWalk_19 : decode cX13_readsWalk 19 = .ok (.iconst 1, 1) := by decide +kernel
theorem dX13_readsWalk_20 : decode cX13_readsWalk 20 = .ok (.invokevirtual 308, 3) := by decide +kernel
theorem dX13_readsWalk_23 : decode cX13_readsWalk 23 = .ok (.invokevirtual 311, 3) := by decide +kernel
theorem dX13_readsWalk_26 : decode cX13_readsWalk 26 = .ok (.aload_n 0, 1) := by decide +kernel
theorem dX13_readsWalk_27 : decode cX13_readsWalk 27 = .ok (.bipush 32, 2) := by decide +kernel
theorem dX13_readsWalk_29 : decode cX13_readsWalk 29 = .ok (.invokevirtual 315, 3) := by decide +kernel
theorem dX13_readsWalk_32 : decode cX13_readsWalk 32 = .ok (.aload_n 0, 1) := by decide +kernel
theorem dX13_readsWalk_33 : decode cX13_readsWalk 33 = .ok (.iconst 2, 1) := by decide +kernel
theorem dX13_readsWalk_34 : decode cX13_readsWalk 34 = .ok (.aload_n 0, 1) := by decide +kernel
theorem dX13_readsWalk_35 : decode cX13_readsWalk 35 = .ok (.iconst 3, 1) := by decide +kernel
theorem dX13_readsWalk_36 : decode cX13_readsWalk 36 = .ok (.invokevirtual 308, 3) := by decide +kernel
theorem dX13_readsWalk_39 : decode cX13_readsWalk 39 = .ok (.invokevirtual 311, 3) := by decide +kernel
theorem dX13_readsWalk_42 : decode cX13_readsWalk 42 = .ok (.return_, 1) := by decide +kernel
theorem dX13_readsLine_0 : decode cX13_readsLine 0 = .ok (.aload_n 0, 1) := by decide +kernel
theorem dX13_readsLine_1 : decode cX13_readsLine 1 = .ok (.iconst 0, 1) := by decide +kernel
theorem dX13_readsLine_2 : decode cX13_readsLine 2 = .ok (.aload_n 0, 1) := by decide +kernel
theorem dX13_readsLine_3 : decode cX13_readsLine 3 = .ok (.iconst 3, 1) := by decide +kernel
theorem dX13_readsLine_4 : decode cX13_readsLine 4 = .ok (.invokevirtual 308, 3) := by decide +kernel
theorem dX13_readsLine_7 : decode cX13_readsLine 7 = .ok (.invokevirtual 311, 3) := by decide +kernel
theorem dX13_readsLine_10 : decode cX13_readsLine 10 = .ok (.aload_n 0, 1) := by decide +kernel
theorem dX13_readsLine_11 : decode cX13_readsLine 11 = .ok (.bipush 47, 2) := by decide +kernel
theorem dX13_readsLine_13 : decode cX13_readsLine 13 = .ok (.invokevirtual 315, 3) := by decide +kernel
theorem dX13_readsLine_16 : decode cX13_readsLine 16 = .ok (.aload_n 0, 1) := by decide +kernel
theorem dX13_readsLine_17 : decode cX13_readsLine 17 = .ok (.iconst 1, 1) := by decide +kernel
theorem dX13_readsLine_18 : decode cX13_readsLine 18 = .ok (.aload_n 0, 1) := by decide +kernel
theorem dX13_readsLine_19 : decode cX13_readsLine 19 = .ok (.iconst 3, 1) := by decide +kernel
theorem dX13_readsLine_20 : decode cX13_readsLine 20 = .ok (.invokevirtual 308, 3) := by decide +kernel
theorem dX13_readsLine_23 : decode cX13_readsLine 23 = .ok (.invokevirtual 311, 3) := by decide +kernel
theorem dX13_readsLine_26 : decode cX13_readsLine 26 = .ok (.aload_n 0, 1) := by decide +kernel
theorem dX13_readsLine_27 : decode cX13_readsLine 27 = .ok (.bipush 32, 2) := by decide +kernel
theorem dX13_readsLine_29 : decode cX13_readsLine 29 = .ok (.invokevirtual 315, 3) := by decide +kernel
theorem dX13_readsLine_32 : decode cX13_readsLine 32 = .ok (.aload_n 0, 1) := by decide +kernel
theorem dX13_readsLine_33 : decode cX13_readsLine 33 = .ok (.iconst 2, 1) := by decide +kernel
theorem dX13_readsLine_34 : decode cX13_readsLine 34 = .ok (.aload_n 0, 1) := by decide +kernel
theorem dX13_readsLine_35 : decode cX13_readsLine 35 = .ok (.iconst 1, 1) := by decide +kernel
theorem dX13_readsLine_36 : decode cX13_readsLine 36 = .ok (.invokevirtual 308, 3) := by decide +kernel
theorem dX13_readsLine_39 : decode cX13_readsLine 39 = .ok (.invokevirtual 311, 3) := by decide +kernel
theorem dX13_readsLine_42 : decode cX13_readsLine 42 = .ok (.aload_n 0, 1) := by decide +kernel
theorem dX13_readsLine_43 : decode cX13_readsLine 43 = .ok (.bipush 120, 2) := by decide +kernel
theorem dX13_readsLine_45 : decode cX13_readsLine 45 = .ok (.invokevirtual 315, 3) := by decide +kernel
theorem dX13_readsLine_48 : decode cX13_readsLine 48 = .ok (.aload_n 0, 1) := by decide +kernel
theorem dX13_readsLine_49 : decode cX13_readsLine 49 = .ok (.iconst 3, 1) := by decide +kernel
theorem dX13_readsLine_50 : decode cX13_readsLine 50 = .ok (.aload_n 0, 1) := by decide +kernel
theorem dX13_readsLine_51 : decode cX13_readsLine 51 = .ok (.iconst 3, 1) := by decide +kernel
theorem dX13_readsLine_52 : decode cX13_readsLine 52 = .ok (.invokevirtual 308, 3) := by decide +kernel
theorem dX13_readsLine_55 : decode cX13_readsLine 55 = .ok (.invokevirtual 311, 3) := by decide +kernel
theorem dX13_readsLine_58 : decode cX13_readsLine 58 = .ok (.return_, 1) := by decide +kernel
theorem dX13_readsSale_0 : decode cX13_readsSale 0 = .ok (.aload_n 0, 1) := by decide +kernel
theorem dX13_readsSale_1 : decode cX13_readsSale 1 = .ok (.iconst 0, 1) := by decide +kernel
theorem dX13_readsSale_2 : decode cX13_readsSale 2 = .ok (.aload_n 0, 1) := by decide +kernel
theorem dX13_readsSale_3 : decode cX13_readsSale 3 = .ok (.iconst 1, 1) := by decide +kernel
theorem dX13_readsSale_4 : decode cX13_readsSale 4 = .ok (.invokevirtual 308, 3) := by decide +kernel
theorem dX13_readsSale_7 : decode cX13_readsSale 7 = .ok (.invokevirtual 311, 3) := by decide +kernel
theorem dX13_readsSale_10 : decode cX13_readsSale 10 = .ok (.aload_n 0, 1) := by decide +kernel
theorem dX13_readsSale_11 : decode cX13_readsSale 11 = .ok (.bipush 32, 2) := by decide +kernel
theorem dX13_readsSale_13 : decode cX13_readsSale 13 = .ok (.invokevirtual 315, 3) := by decide +kernel
theorem dX13_readsSale_16 : decode cX13_readsSale 16 = .ok (.aload_n 0, 1) := by decide +kernel
theorem dX13_readsSale_17 : decode cX13_readsSale 17 = .ok (.iconst 1, 1) := by decide +kernel
theorem dX13_readsSale_18 : decode cX13_readsSale 18 = .ok (.aload_n 0, 1) := by decide +kernel
theorem dX13_readsSale_19 : decode cX13_readsSale 19 = .ok (.iconst 3, 1) := by decide +kernel
theorem dX13_readsSale_20 : decode cX13_readsSale 20 = .ok (.invokevirtual 308, 3) := by decide +kernel
theorem dX13_readsSale_23 : decode cX13_readsSale 23 = .ok (.invokevirtual 311, 3) := by decide +kernel
theorem dX13_readsSale_26 : decode cX13_readsSale 26 = .ok (.aload_n 0, 1) := by decide +kernel
theorem dX13_readsSale_27 : decode cX13_readsSale 27 = .ok (.bipush 32, 2) := by decide +kernel
theorem dX13_readsSale_29 : decode cX13_readsSale 29 = .ok (.invokevirtual 315, 3) := by decide +kernel
theorem dX13_readsSale_32 : decode cX13_readsSale 32 = .ok (.aload_n 0, 1) := by decide +kernel
theorem dX13_readsSale_33 : decode cX13_readsSale 33 = .ok (.iconst 2, 1) := by decide +kernel
theorem dX13_readsSale_34 : decode cX13_readsSale 34 = .ok (.aload_n 0, 1) := by decide +kernel
theorem dX13_readsSale_35 : decode cX13_readsSale 35 = .ok (.iconst 1, 1) := by decide +kernel
theorem dX13_readsSale_36 : decode cX13_readsSale 36 = .ok (.invokevirtual 308, 3) := by decide +kernel
theorem dX13_readsSale_39 : decode cX13_readsSale 39 = .ok (.invokevirtual 311, 3) := by decide +kernel
theorem dX13_readsSale_42 : decode cX13_readsSale 42 = .ok (.aload_n 0, 1) := by decide +kernel
theorem dX13_readsSale_43 : decode cX13_readsSale 43 = .ok (.bipush 62, 2) := by decide +kernel
theorem dX13_readsSale_45 : decode cX13_readsSale 45 = .ok (.invokevirtual 315, 3) := by decide +kernel
theorem dX13_readsSale_48 : decode cX13_readsSale 48 = .ok (.aload_n 0, 1) := by decide +kernel
theorem dX13_readsSale_49 : decode cX13_readsSale 49 = .ok (.iconst 3, 1) := by decide +kernel
theorem dX13_readsSale_50 : decode cX13_readsSale 50 = .ok (.aload_n 0, 1) := by decide +kernel
theorem dX13_readsSale_51 : decode cX13_readsSale 51 = .ok (.iconst 1, 1) := by decide +kernel
theorem dX13_readsSale_52 : decode cX13_readsSale 52 = .ok (.invokevirtual 308, 3) := by decide +kernel
theorem dX13_readsSale_55 : decode cX13_readsSale 55 = .ok (.invokevirtual 311, 3) := by decide +kernel
theorem dX13_readsSale_58 : decode cX13_readsSale 58 = .ok (.return_, 1) := by decide +kernel
theorem dX13_readsArguments_0 : decode cX13_readsArguments 0 = .ok (.aload_n 0, 1) := by decide +kernel
theorem dX13_readsArguments_1 : decode cX13_readsArguments 1 = .ok (.bipush 32, 2) := by decide +kernel
theorem dX13_readsArguments_3 : decode cX13_readsArguments 3 = .ok (.invokevirtual 315, 3) := by decide +kernel
theorem dX13_readsArguments_6 : decode cX13_readsArguments 6 = .ok (.iload_n 1, 1) := by decide +kernel
theorem dX13_readsArguments_7 : decode cX13_readsArguments 7 = .ok (.iconst 1, 1) := by decide +kernel
theorem dX13_readsArguments_8 : decode cX13_readsArguments 8 = .ok (.if_icmp .ne 10, 3) := by decide +kernel
theorem dX13_readsArguments_11 : decode cX13_readsArguments 11 = .ok (.aload_n 0, 1) := by decide +kernel
theorem dX13_readsArguments_12 : decode cX13_readsArguments 12 = .ok (.invokevirtual 318, 3) := by decide +kernel
theorem dX13_readsArguments_15 : decode cX13_readsArguments 15 = .ok (.goto 48, 3) := by decide +kernel
theorem dX13_readsArguments_18 : decode cX13_readsArguments 18 = .ok (.iload_n 1, 1) := by decide +kernel
theorem dX13_readsArguments_19 : decode cX13_readsArguments 19 = .ok (.iconst 2, 1) := by decide +kernel
theorem dX13_readsArguments_20 : decode cX13_readsArguments 20 = .ok (.if_icmp .ne 10, 3) := by decide +kernel
theorem dX13_readsArguments_23 : decode cX13_readsArguments 23 = .ok (.aload_n 0, 1) := by decide +kernel
theorem dX13_readsArguments_24 : decode cX13_readsArguments 24 = .ok (.invokevirtual 321, 3) := by decide +kernel
theorem dX13_readsArguments_27 : decode cX13_readsArguments 27 = .ok (.goto 36, 3) := by decide +kernel
theorem dX13_readsArguments_30 : decode cX13_readsArguments 30 = .ok (.iload_n 1, 1) := by decide +kernel
theorem dX13_readsArguments_31 : decode cX13_readsArguments 31 = .ok (.bipush 11, 2) := by decide +kernel
theorem dX13_readsArguments_33 : decode cX13_readsArguments 33 = .ok (.if_icmp .ne 10, 3) := by decide +kernel
theorem dX13_readsArguments_36 : decode cX13_readsArguments 36 = .ok (.aload_n 0, 1) := by decide +kernel
theorem dX13_readsArguments_37 : decode cX13_readsArguments 37 = .ok (.invokevirtual 324, 3) := by decide +kernel
theorem dX13_readsArguments_40 : decode cX13_readsArguments 40 = .ok (.goto 23, 3) := by decide +kernel
theorem dX13_readsArguments_43 : decode cX13_readsArguments 43 = .ok (.aload_n 0, 1) := by decide +kernel
theorem dX13_readsArguments_44 : decode cX13_readsArguments 44 = .ok (.iconst 0, 1) := by decide +kernel
theorem dX13_readsArguments_45 : decode cX13_readsArguments 45 = .ok (.aload_n 0, 1) := by decide +kernel
theorem dX13_readsArguments_46 : decode cX13_readsArguments 46 = .ok (.iload_n 1, 1) := by decide +kernel
theorem dX13_readsArguments_47 : decode cX13_readsArguments 47 = .ok (.bipush 12, 2) := by decide +kernel
theorem dX13_readsArguments_49 : decode cX13_readsArguments 49 = .ok (.if_icmp .lt 7, 3) := by decide +kernel
theorem dX13_readsArguments_52 : decode cX13_readsArguments 52 = .ok (.iconst 3, 1) := by decide +kernel
theorem dX13_readsArguments_53 : decode cX13_readsArguments 53 = .ok (.goto 4, 3) := by decide +kernel
theorem dX13_readsArguments_56 : decode cX13_readsArguments 56 = .ok (.iconst 1, 1) := by decide +kernel
theorem dX13_readsArguments_57 : decode cX13_readsArguments 57 = .ok (.invokevirtual 308, 3) := by decide +kernel
theorem dX13_readsArguments_60 : decode cX13_readsArguments 60 = .ok (.invokevirtual 311, 3) := by decide +kernel
theorem dX13_readsArguments_63 : decode cX13_readsArguments 63 = .ok (.iload_n 1, 1) := by decide +kernel
theorem dX13_readsArguments_64 : decode cX13_readsArguments 64 = .ok (.iconst 3, 1) := by decide +kernel
theorem dX13_readsArguments_65 : decode cX13_readsArguments 65 = .ok (.if_icmp .ne 19, 3) := by decide +kernel
theorem dX13_readsArguments_68 : decode cX13_readsArguments 68 = .ok (.aload_n 0, 1) := by decide +kernel
theorem dX13_readsArguments_69 : decode cX13_readsArguments 69 = .ok (.bipush 32, 2) := by decide +kernel
theorem dX13_readsArguments_71 : decode cX13_readsArguments 71 = .ok (.invokevirtual 315, 3) := by decide +kernel
theorem dX13_readsArguments_74 : decode cX13_readsArguments 74 = .ok (.aload_n 0, 1) := by decide +kernel
theorem dX13_readsArguments_75 : decode cX13_readsArguments 75 = .ok (.iconst 1, 1) := by decide +kernel
theorem dX13_readsArguments_76 : decode cX13_readsArguments 76 = .ok (.aload_n 0, 1) := by decide +kernel
theorem dX13_readsArguments_77 : decode cX13_readsArguments 77 = .ok (.iconst 1, 1) := by decide +kernel
theorem dX13_readsArguments_78 : decode cX13_readsArguments 78 = .ok (.invokevirtual 308, 3) := by decide +kernel
theorem dX13_readsArguments_81 : decode cX13_readsArguments 81 = .ok (.invokevirtual 311, 3) := by decide +kernel
theorem dX13_readsArguments_84 : decode cX13_readsArguments 84 = .ok (.return_, 1) := by decide +kernel
theorem dX13_command_0 : decode cX13_command 0 = .ok (.aload_n 0, 1) := by decide +kernel
theorem dX13_command_1 : decode cX13_command 1 = .ok (.invokevirtual 327, 3) := by decide +kernel
theorem dX13_command_4 : decode cX13_command 4 = .ok (.istore_n 1, 1) := by decide +kernel
theorem dX13_command_5 : decode cX13_command 5 = .ok (.iload_n 1, 1) := by decide +kernel
theorem dX13_command_6 : decode cX13_command 6 = .ok (.iconst 5, 1) := by decide +kernel
theorem dX13_command_7 : decode cX13_command 7 = .ok (.if_icmp .eq 14, 3) := by decide +kernel
theorem dX13_command_10 : decode cX13_command 10 = .ok (.iload_n 1, 1) := by decide +kernel
theorem dX13_command_11 : decode cX13_command 11 = .ok (.bipush 6, 2) := by decide +kernel
theorem dX13_command_13 : decode cX13_command 13 = .ok (.if_icmp .eq 8, 3) := by decide +kernel
theorem dX13_command_16 : decode cX13_command 16 = .ok (.aload_n 0, 1) := by decide +kernel
theorem dX13_command_17 : decode cX13_command 17 = .ok (.iload_n 1, 1) := by decide +kernel
theorem dX13_command_18 : decode cX13_command 18 = .ok (.invokevirtual 330, 3) := by decide +kernel
theorem dX13_command_21 : decode cX13_command 21 = .ok (.aload_n 0, 1) := by decide +kernel
theorem dX13_command_22 : decode cX13_command 22 = .ok (.getfield 72, 3) := by decide +kernel
theorem dX13_command_25 : decode cX13_command 25 = .ok (.ifCond .eq 4, 3) := by decide +kernel
theorem dX13_command_28 : decode cX13_command 28 = .ok (.return_, 1) := by decide +kernel
theorem dX13_command_29 : decode cX13_command 29 = .ok (.aload_n 0, 1) := by decide +kernel
theorem dX13_command_30 : decode cX13_command 30 = .ok (.getfield 54, 3) := by decide +kernel
theorem dX13_command_33 : decode cX13_command 33 = .ok (.aload_n 0, 1) := by decide +kernel
theorem dX13_command_34 : decode cX13_command 34 = .ok (.getfield 69, 3) := by decide +kernel
theorem dX13_command_37 : decode cX13_command 37 = .ok (.iload_n 1, 1) := by decide +kernel
theorem dX13_command_38 : decode cX13_command 38 = .ok (.iastore, 1) := by decide +kernel
theorem dX13_command_39 : decode cX13_command 39 = .ok (.aload_n 0, 1) := by decide +kernel
theorem dX13_command_40 : decode cX13_command 40 = .ok (.dup, 1) := by decide +kernel
theorem dX13_command_41 : decode cX13_command 41 = .ok (.getfield 69, 3) := by decide +kernel
theorem dX13_command_44 : decode cX13_command 44 = .ok (.iconst 1, 1) := by decide +kernel
theorem dX13_command_45 : decode cX13_command 45 = .ok (.iadd, 1) := by decide +kernel
theorem dX13_command_46 : decode cX13_command 46 = .ok (.putfield 69, 3) := by decide +kernel
theorem dX13_command_49 : decode cX13_command 49 = .ok (.return_, 1) := by decide +kernel
theorem dX13_parse_0 : decode cX13_parse 0 = .ok (.aload_n 0, 1) := by decide +kernel
theorem dX13_parse_1 : decode cX13_parse 1 = .ok (.aload_n 0, 1) := by decide +kernel
theorem dX13_parse_2 : decode cX13_parse 2 = .ok (.getfield 60, 3) := by decide +kernel
theorem dX13_parse_5 : decode cX13_parse 5 = .ok (.putfield 63, 3) := by decide +kernel
theorem dX13_parse_8 : decode cX13_parse 8 = .ok (.aload_n 0, 1) := by decide +kernel
theorem dX13_parse_9 : decode cX13_parse 9 = .ok (.iconst 0, 1) := by decide +kernel
theorem dX13_parse_10 : decode cX13_parse 10 = .ok (.putfield 60, 3) := by decide +kernel
theorem dX13_parse_13 : decode cX13_parse 13 = .ok (.aload_n 0, 1) := by decide +kernel
theorem dX13_parse_14 : decode cX13_parse 14 = .ok (.iconst 0, 1) := by decide +kernel
theorem dX13_parse_15 : decode cX13_parse 15 = .ok (.putfield 66, 3) := by decide +kernel
theorem dX13_parse_18 : decode cX13_parse 18 = .ok (.aload_n 0, 1) := by decide +kernel
theorem dX13_parse_19 : decode cX13_parse 19 = .ok (.iconst 0, 1) := by decide +kernel
theorem dX13_parse_20 : decode cX13_parse 20 = .ok (.putfield 69, 3) := by decide +kernel
theorem dX13_parse_23 : decode cX13_parse 23 = .ok (.aload_n 0, 1) := by decide +kernel
theorem dX13_parse_24 : decode cX13_parse 24 = .ok (.iconst 0, 1) := by decide +kernel
theorem dX13_parse_25 : decode cX13_parse 25 = .ok (.putfield 72, 3) := by decide +kernel
theorem dX13_parse_28 : decode cX13_parse 28 = .ok (.aload_n 0, 1) := by decide +kernel
theorem dX13_parse_29 : decode cX13_parse 29 = .ok (.invokevirtual 333, 3) := by decide +kernel
theorem dX13_parse_32 : decode cX13_parse 32 = .ok (.aload_n 0, 1) := by decide +kernel
theorem dX13_parse_33 : decode cX13_parse 33 = .ok (.invokevirtual 298, 3) := by decide +kernel
theorem dX13_parse_36 : decode cX13_parse 36 = .ok (.bipush 59, 2) := by decide +kernel
theorem dX13_parse_38 : decode cX13_parse 38 = .ok (.if_icmp .ne 20, 3) := by decide +kernel
theorem dX13_parse_41 : decode cX13_parse 41 = .ok (.aload_n 0, 1) := by decide +kernel
theorem dX13_parse_42 : decode cX13_parse 42 = .ok (.dup, 1) := by decide +kernel
theorem dX13_parse_43 : decode cX13_parse 43 = .ok (.getfield 66, 3) := by decide +kernel
theorem dX13_parse_46 : decode cX13_parse 46 = .ok (.iconst 1, 1) := by decide +kernel
theorem dX13_parse_47 : decode cX13_parse 47 = .ok (.iadd, 1) := by decide +kernel
theorem dX13_parse_48 : decode cX13_parse 48 = .ok (.putfield 66, 3) := by decide +kernel
theorem dX13_parse_51 : decode cX13_parse 51 = .ok (.aload_n 0, 1) := by decide +kernel
theorem dX13_parse_52 : decode cX13_parse 52 = .ok (.invokevirtual 333, 3) := by decide +kernel
theorem dX13_parse_55 : decode cX13_parse 55 = .ok (.goto (-23), 3) := by decide +kernel
theorem dX13_parse_58 : decode cX13_parse 58 = .ok (.aload_n 0, 1) := by decide +kernel
theorem dX13_parse_59 : decode cX13_parse 59 = .ok (.dup, 1) := by decide +kernel
theorem dX13_parse_60 : decode cX13_parse 60 = .ok (.getfield 72, 3) := by decide +kernel
theorem dX13_parse_63 : decode cX13_parse 63 = .ok (.aload_n 0, 1) := by decide +kernel
theorem dX13_parse_64 : decode cX13_parse 64 = .ok (.getfield 66, 3) := by decide +kernel
theorem dX13_parse_67 : decode cX13_parse 67 = .ok (.aload_n 0, 1) := by decide +kernel
theorem dX13_parse_68 : decode cX13_parse 68 = .ok (.getfield 63, 3) := by decide +kernel
theorem dX13_parse_71 : decode cX13_parse 71 = .ok (.if_icmp .ge 7, 3) := by decide +kernel
theorem dX13_parse_74 : decode cX13_parse 74 = .ok (.iconst 1, 1) := by decide +kernel
theorem dX13_parse_75 : decode cX13_parse 75 = .ok (.goto 4, 3) := by decide +kernel
theorem dX13_parse_78 : decode cX13_parse 78 = .ok (.iconst 0, 1) := by decide +kernel
theorem dX13_parse_79 : decode cX13_parse 79 = .ok (.ior, 1) := by decide +kernel
theorem dX13_parse_80 : decode cX13_parse 80 = .ok (.putfield 72, 3) := by decide +kernel
theorem dX13_parse_83 : decode cX13_parse 83 = .ok (.return_, 1) := by decide +kernel
theorem dX13_cannot_0 : decode cX13_cannot 0 = .ok (.iconst 0, 1) := by decide +kernel
theorem dX13_cannot_1 : decode cX13_cannot 1 = .ok (.istore 6, 2) := by decide +kernel
theorem dX13_cannot_3 : decode cX13_cannot 3 = .ok (.iload_n 1, 1) := by decide +kernel
theorem dX13_cannot_4 : decode cX13_cannot 4 = .ok (.tableswitch 326 0 12 #[68, 87, 112, 141, 162, 181, 181, 201, 201, 238, 238, 278, 307], 68) := by decide +kernel
theorem dX13_cannot_72 : decode cX13_cannot 72 = .ok (.aload_n 0, 1) := by decide +kernel
theorem dX13_cannot_73 : decode cX13_cannot 73 = .ok (.iload_n 2, 1) := by decide +kernel
theorem dX13_cannot_74 : decode cX13_cannot 74 = .ok (.invokevirtual 90, 3) := by decide +kernel
theorem dX13_cannot_77 : decode cX13_cannot 77 = .ok (.ifCond .le 5, 3) := by decide +kernel
theorem dX13_cannot_80 : decode cX13_cannot 80 = .ok (.iconst 1, 1) := by decide +kernel
theorem dX13_cannot_81 : decode cX13_cannot 81 = .ok (.ireturn, 1) := by decide +kernel
theorem dX13_cannot_82 : decode cX13_cannot 82 = .ok (.aload_n 0, 1) := by decide +kernel
theorem dX13_cannot_83 : decode cX13_cannot 83 = .ok (.iload_n 2, 1) := by decide +kernel
theorem dX13_cannot_84 : decode cX13_cannot 84 = .ok (.invokevirtual 97, 3) := by decide +kernel
theorem dX13_cannot_87 : decode cX13_cannot 87 = .ok (.istore 6, 2) := by decide +kernel
theorem dX13_cannot_89 : decode cX13_cannot 89 = .ok (.iconst 0, 1) := by decide +kernel
theorem dX13_cannot_90 : decode cX13_cannot 90 = .ok (.ireturn, 1) := by decide +kernel
theorem dX13_cannot_91 : decode cX13_cannot 91 = .ok (.aload_n 0, 1) := by decide +kernel
theorem dX13_cannot_92 : decode cX13_cannot 92 = .ok (.iload_n 2, 1) := by decide +kernel
theorem dX13_cannot_93 : decode cX13_cannot 93 = .ok (.iload_n 3, 1) := by decide +kernel
theorem dX13_cannot_94 : decode cX13_cannot 94 = .ok (.iload 4, 2) := by decide +kernel
theorem dX13_cannot_96 : decode cX13_cannot 96 = .ok (.invokevirtual 115, 3) := by decide +kernel
theorem dX13_cannot_99 : decode cX13_cannot 99 = .ok (.ifCond .le 5, 3) := by decide +kernel
theorem dX13_cannot_102 : decode cX13_cannot 102 = .ok (.iconst 1, 1) := by decide +kernel
theorem dX13_cannot_103 : decode cX13_cannot 103 = .ok (.ireturn, 1) := by decide +kernel
theorem dX13_cannot_104 : decode cX13_cannot 104 = .ok (.aload_n 0, 1) := by decide +kernel
theorem dX13_cannot_105 : decode cX13_cannot 105 = .ok (.iload_n 2, 1) := by decide +kernel
theorem dX13_cannot_106 : decode cX13_cannot 106 = .ok (.iload_n 3, 1) := by decide +kernel
theorem dX13_cannot_107 : decode cX13_cannot 107 = .ok (.iload 4, 2) := by decide +kernel
theorem dX13_cannot_109 : decode cX13_cannot 109 = .ok (.invokevirtual 119, 3) := by decide +kernel
theorem dX13_cannot_112 : decode cX13_cannot 112 = .ok (.istore 6, 2) := by decide +kernel
theorem dX13_cannot_114 : decode cX13_cannot 114 = .ok (.iconst 0, 1) := by decide +kernel
theorem dX13_cannot_115 : decode cX13_cannot 115 = .ok (.ireturn, 1) := by decide +kernel
theorem dX13_cannot_116 : decode cX13_cannot 116 = .ok (.aload_n 0, 1) := by decide +kernel
theorem dX13_cannot_117 : decode cX13_cannot 117 = .ok (.iload_n 2, 1) := by decide +kernel
theorem dX13_cannot_118 : decode cX13_cannot 118 = .ok (.iload_n 3, 1) := by decide +kernel
theorem dX13_cannot_119 : decode cX13_cannot 119 = .ok (.iload 4, 2) := by decide +kernel
theorem dX13_cannot_121 : decode cX13_cannot 121 = .ok (.iload 5, 2) := by decide +kernel
theorem dX13_cannot_123 : decode cX13_cannot 123 = .ok (.invokevirtual 140, 3) := by decide +kernel
theorem dX13_cannot_126 : decode cX13_cannot 126 = .ok (.ifCond .le 5, 3) := by decide +kernel
theorem dX13_cannot_129 : decode cX13_cannot 129 = .ok (.iconst 1, 1) := by decide +kernel
theorem dX13_cannot_130 : decode cX13_cannot 130 = .ok (.ireturn, 1) := by decide +kernel
theorem dX13_cannot_131 : decode cX13_cannot 131 = .ok (.aload_n 0, 1) := by decide +kernel
theorem dX13_cannot_132 : decode cX13_cannot 132 = .ok (.iload_n 2, 1) := by decide +kernel
theorem dX13_cannot_133 : decode cX13_cannot 133 = .ok (.iload_n 3, 1) := by decide +kernel
theorem dX13_cannot_134 : decode cX13_cannot 134 = .ok (.iload 4, 2) := by decide +kernel
theorem dX13_cannot_136 : decode cX13_cannot 136 = .ok (.iload 5, 2) := by decide +kernel
theorem dX13_cannot_138 : decode cX13_cannot 138 = .ok (.invokevirtual 144, 3) := by decide +kernel
theorem dX13_cannot_141 : decode cX13_cannot 141 = .ok (.istore 6, 2) := by decide +kernel
theorem dX13_cannot_143 : decode cX13_cannot 143 = .ok (.iconst 0, 1) := by decide +kernel
theorem dX13_cannot_144 : decode cX13_cannot 144 = .ok (.ireturn, 1) := by decide +kernel
theorem dX13_cannot_145 : decode cX13_cannot 145 = .ok (.aload_n 0, 1) := by decide +kernel
theorem dX13_cannot_146 : decode cX13_cannot 146 = .ok (.iload_n 2, 1) := by decide +kernel
theorem dX13_cannot_147 : decode cX13_cannot 147 = .ok (.iload_n 3, 1) := by decide +kernel
theorem dX13_cannot_148 : decode cX13_cannot 148 = .ok (.invokevirtual 159, 3) := by decide +kernel
theorem dX13_cannot_151 : decode cX13_cannot 151 = .ok (.ifCond .le 5, 3) := by decide +kernel
theorem dX13_cannot_154 : decode cX13_cannot 154 = .ok (.iconst 1, 1) := by decide +kernel
theorem dX13_cannot_155 : decode cX13_cannot 155 = .ok (.ireturn, 1) := by decide +kernel
theorem dX13_cannot_156 : decode cX13_cannot 156 = .ok (.aload_n 0, 1) := by decide +kernel
theorem dX13_cannot_157 : decode cX13_cannot 157 = .ok (.iload_n 2, 1) := by decide +kernel
theorem dX13_cannot_158 : decode cX13_cannot 158 = .ok (.iload_n 3, 1) := by decide +kernel
theorem dX13_cannot_159 : decode cX13_cannot 159 = .ok (.invokevirtual 162, 3) := by decide +kernel
theorem dX13_cannot_162 : decode cX13_cannot 162 = .ok (.istore 6, 2) := by decide +kernel
theorem dX13_cannot_164 : decode cX13_cannot 164 = .ok (.iconst 0, 1) := by decide +kernel
theorem dX13_cannot_165 : decode cX13_cannot 165 = .ok (.ireturn, 1) := by decide +kernel
theorem dX13_cannot_166 : decode cX13_cannot 166 = .ok (.aload_n 0, 1) := by decide +kernel
theorem dX13_cannot_167 : decode cX13_cannot 167 = .ok (.iload_n 2, 1) := by decide +kernel
theorem dX13_cannot_168 : decode cX13_cannot 168 = .ok (.invokevirtual 165, 3) := by decide +kernel
theorem dX13_cannot_171 : decode cX13_cannot 171 = .ok (.ifCond .le 5, 3) := by decide +kernel
theorem dX13_cannot_174 : decode cX13_cannot 174 = .ok (.iconst 1, 1) := by decide +kernel
theorem dX13_cannot_175 : decode cX13_cannot 175 = .ok (.ireturn, 1) := by decide +kernel
theorem dX13_cannot_176 : decode cX13_cannot 176 = .ok (.aload_n 0, 1) := by decide +kernel
theorem dX13_cannot_177 : decode cX13_cannot 177 = .ok (.iload_n 2, 1) := by decide +kernel
theorem dX13_cannot_178 : decode cX13_cannot 178 = .ok (.invokevirtual 168, 3) := by decide +kernel
theorem dX13_cannot_181 : decode cX13_cannot 181 = .ok (.istore 6, 2) := by decide +kernel
theorem dX13_cannot_183 : decode cX13_cannot 183 = .ok (.iconst 0, 1) := by decide +kernel
theorem dX13_cannot_184 : decode cX13_cannot 184 = .ok (.ireturn, 1) := by decide +kernel
theorem dX13_cannot_185 : decode cX13_cannot 185 = .ok (.aload_n 0, 1) := by decide +kernel
theorem dX13_cannot_186 : decode cX13_cannot 186 = .ok (.bipush 6, 2) := by decide +kernel
theorem dX13_cannot_188 : decode cX13_cannot 188 = .ok (.iload_n 1, 1) := by decide +kernel
theorem dX13_cannot_189 : decode cX13_cannot 189 = .ok (.iconst 5, 1) := by decide +kernel
theorem dX13_cannot_190 : decode cX13_cannot 190 = .ok (.if_icmp .ne 7, 3) := by decide +kernel
theorem dX13_cannot_193 : decode cX13_cannot 193 = .ok (.iconst 1, 1) := by decide +kernel
theorem dX13_cannot_194 : decode cX13_cannot 194 = .ok (.goto 4, 3) := by decide +kernel
theorem dX13_cannot_197 : decode cX13_cannot 197 = .ok (.iconst 0, 1) := by decide +kernel
theorem dX13_cannot_198 : decode cX13_cannot 198 = .ok (.invokevirtual 171, 3) := by decide +kernel
theorem dX13_cannot_201 : decode cX13_cannot 201 = .ok (.istore 6, 2) := by decide +kernel
theorem dX13_cannot_203 : decode cX13_cannot 203 = .ok (.iconst 0, 1) := by decide +kernel
theorem dX13_cannot_204 : decode cX13_cannot 204 = .ok (.ireturn, 1) := by decide +kernel
theorem dX13_cannot_205 : decode cX13_cannot 205 = .ok (.aload_n 0, 1) := by decide +kernel
theorem dX13_cannot_206 : decode cX13_cannot 206 = .ok (.iload_n 2, 1) := by decide +kernel
theorem dX13_cannot_207 : decode cX13_cannot 207 = .ok (.invokevirtual 83, 3) := by decide +kernel
theorem dX13_cannot_210 : decode cX13_cannot 210 = .ok (.ifCond .ne 5, 3) := by decide +kernel
theorem dX13_cannot_213 : decode cX13_cannot 213 = .ok (.iconst 1, 1) := by decide +kernel
theorem dX13_cannot_214 : decode cX13_cannot 214 = .ok (.ireturn, 1) := by decide +kernel
theorem dX13_cannot_215 : decode cX13_cannot 215 = .ok (.aload_n 0, 1) := by decide +kernel
theorem dX13_cannot_216 : decode cX13_cannot 216 = .ok (.bipush 12, 2) := by decide +kernel
theorem dX13_cannot_218 : decode cX13_cannot 218 = .ok (.iconst 2, 1) := by decide +kernel
theorem dX13_cannot_219 : decode cX13_cannot 219 = .ok (.iload_n 2, 1) := by decide +kernel
theorem dX13_cannot_220 : decode cX13_cannot 220 = .ok (.imul, 1) := by decide +kernel
theorem dX13_cannot_221 : decode cX13_cannot 221 = .ok (.iadd, 1) := by decide +kernel
theorem dX13_cannot_222 : decode cX13_cannot 222 = .ok (.iconst 1, 1) := by decide +kernel
theorem dX13_cannot_223 : decode cX13_cannot 223 = .ok (.iadd, 1) := by decide +kernel
theorem dX13_cannot_224 : decode cX13_cannot 224 = .ok (.iload_n 1, 1) := by decide +kernel
theorem dX13_cannot_225 : decode cX13_cannot 225 = .ok (.bipush 7, 2) := by decide +kernel
theorem dX13_cannot_227 : decode cX13_cannot 227 = .ok (.if_icmp .ne 7, 3) := by decide +kernel
theorem dX13_cannot_230 : decode cX13_cannot 230 = .ok (.iconst 1, 1) := by decide +kernel
theorem dX13_cannot_231 : decode cX13_cannot 231 = .ok (.goto 4, 3) := by decide +kernel
theorem dX13_cannot_234 : decode cX13_cannot 234 = .ok (.iconst 0, 1) := by decide +kernel
theorem dX13_cannot_235 : decode cX13_cannot 235 = .ok (.invokevirtual 171, 3) := by decide +kernel
theorem dX13_cannot_238 : decode cX13_cannot 238 = .ok (.istore 6, 2) := by decide +kernel
theorem dX13_cannot_240 : decode cX13_cannot 240 = .ok (.iconst 0, 1) := by decide +kernel
theorem dX13_cannot_241 : decode cX13_cannot 241 = .ok (.ireturn, 1) := by decide +kernel
theorem dX13_cannot_242 : decode cX13_cannot 242 = .ok (.aload_n 0, 1) := by decide +kernel
theorem dX13_cannot_243 : decode cX13_cannot 243 = .ok (.iload_n 2, 1) := by decide +kernel
theorem dX13_cannot_244 : decode cX13_cannot 244 = .ok (.invokevirtual 150, 3) := by decide +kernel
theorem dX13_cannot_247 : decode cX13_cannot 247 = .ok (.ifCond .ne 5, 3) := by decide +kernel
theorem dX13_cannot_250 : decode cX13_cannot 250 = .ok (.iconst 1, 1) := by decide +kernel
theorem dX13_cannot_251 : decode cX13_cannot 251 = .ok (.ireturn, 1) := by decide +kernel
theorem dX13_cannot_252 : decode cX13_cannot 252 = .ok (.aload_n 0, 1) := by decide +kernel
theorem dX13_cannot_253 : decode cX13_cannot 253 = .ok (.sipush 132, 3) := by decide +kernel
theorem dX13_cannot_256 : decode cX13_cannot 256 = .ok (.bipush 16, 2) := by decide +kernel
theorem dX13_cannot_258 : decode cX13_cannot 258 = .ok (.iload_n 2, 1) := by decide +kernel
theorem dX13_cannot_259 : decode cX13_cannot 259 = .ok (.imul, 1) := by decide +kernel
theorem dX13_cannot_260 : decode cX13_cannot 260 = .ok (.iadd, 1) := by decide +kernel
theorem dX13_cannot_261 : decode cX13_cannot 261 = .ok (.bipush 6, 2) := by decide +kernel
theorem dX13_cannot_263 : decode cX13_cannot 263 = .ok (.iadd, 1) := by decide +kernel
theorem dX13_cannot_264 : decode cX13_cannot 264 = .ok (.iload_n 1, 1) := by decide +kernel
theorem dX13_cannot_265 : decode cX13_cannot 265 = .ok (.bipush 9, 2) := by decide +kernel
theorem dX13_cannot_267 : decode cX13_cannot 267 = .ok (.if_icmp .ne 7, 3) := by decide +kernel
theorem dX13_cannot_270 : decode cX13_cannot 270 = .ok (.iconst 1, 1) := by decide +kernel
theorem dX13_cannot_271 : decode cX13_cannot 271 = .ok (.goto 4, 3) := by decide +kernel
theorem dX13_cannot_274 : decode cX13_cannot 274 = .ok (.iconst 0, 1) := by decide +kernel
theorem dX13_cannot_275 : decode cX13_cannot 275 = .ok (.invokevirtual 171, 3) := by decide +kernel
theorem dX13_cannot_278 : decode cX13_cannot 278 = .ok (.istore 6, 2) := by decide +kernel
theorem dX13_cannot_280 : decode cX13_cannot 280 = .ok (.iconst 0, 1) := by decide +kernel
theorem dX13_cannot_281 : decode cX13_cannot 281 = .ok (.ireturn, 1) := by decide +kernel
theorem dX13_cannot_282 : decode cX13_cannot 282 = .ok (.aload_n 0, 1) := by decide +kernel
theorem dX13_cannot_283 : decode cX13_cannot 283 = .ok (.iload_n 2, 1) := by decide +kernel
theorem dX13_cannot_284 : decode cX13_cannot 284 = .ok (.iload_n 3, 1) := by decide +kernel
theorem dX13_cannot_285 : decode cX13_cannot 285 = .ok (.iload 4, 2) := by decide +kernel
theorem dX13_cannot_287 : decode cX13_cannot 287 = .ok (.iload 5, 2) := by decide +kernel
theorem dX13_cannot_289 : decode cX13_cannot 289 = .ok (.invokevirtual 191, 3) := by decide +kernel
theorem dX13_cannot_292 : decode cX13_cannot 292 = .ok (.ifCond .le 5, 3) := by decide +kernel
theorem dX13_cannot_295 : decode cX13_cannot 295 = .ok (.iconst 1, 1) := by decide +kernel
theorem dX13_cannot_296 : decode cX13_cannot 296 = .ok (.ireturn, 1) := by decide +kernel
theorem dX13_cannot_297 : decode cX13_cannot 297 = .ok (.aload_n 0, 1) := by decide +kernel
theorem dX13_cannot_298 : decode cX13_cannot 298 = .ok (.iload_n 2, 1) := by decide +kernel
theorem dX13_cannot_299 : decode cX13_cannot 299 = .ok (.iload_n 3, 1) := by decide +kernel
theorem dX13_cannot_300 : decode cX13_cannot 300 = .ok (.iload 4, 2) := by decide +kernel
theorem dX13_cannot_302 : decode cX13_cannot 302 = .ok (.iload 5, 2) := by decide +kernel
theorem dX13_cannot_304 : decode cX13_cannot 304 = .ok (.invokevirtual 194, 3) := by decide +kernel
theorem dX13_cannot_307 : decode cX13_cannot 307 = .ok (.istore 6, 2) := by decide +kernel
theorem dX13_cannot_309 : decode cX13_cannot 309 = .ok (.iconst 0, 1) := by decide +kernel
theorem dX13_cannot_310 : decode cX13_cannot 310 = .ok (.ireturn, 1) := by decide +kernel
theorem dX13_cannot_311 : decode cX13_cannot 311 = .ok (.aload_n 0, 1) := by decide +kernel
theorem dX13_cannot_312 : decode cX13_cannot 312 = .ok (.iload_n 2, 1) := by decide +kernel
theorem dX13_cannot_313 : decode cX13_cannot 313 = .ok (.invokevirtual 197, 3) := by decide +kernel
theorem dX13_cannot_316 : decode cX13_cannot 316 = .ok (.ifCond .ge 5, 3) := by decide +kernel
theorem dX13_cannot_319 : decode cX13_cannot 319 = .ok (.iconst 1, 1) := by decide +kernel
theorem dX13_cannot_320 : decode cX13_cannot 320 = .ok (.ireturn, 1) := by decide +kernel
theorem dX13_cannot_321 : decode cX13_cannot 321 = .ok (.aload_n 0, 1) := by decide +kernel
theorem dX13_cannot_322 : decode cX13_cannot 322 = .ok (.iload_n 2, 1) := by decide +kernel
theorem dX13_cannot_323 : decode cX13_cannot 323 = .ok (.invokevirtual 204, 3) := by decide +kernel
theorem dX13_cannot_326 : decode cX13_cannot 326 = .ok (.istore 6, 2) := by decide +kernel
theorem dX13_cannot_328 : decode cX13_cannot 328 = .ok (.iconst 0, 1) := by decide +kernel
theorem dX13_cannot_329 : decode cX13_cannot 329 = .ok (.ireturn, 1) := by decide +kernel
theorem dX13_cannot_330 : decode cX13_cannot 330 = .ok (.iload_n 2, 1) := by decide +kernel
theorem dX13_cannot_331 : decode cX13_cannot 331 = .ok (.iconst 1, 1) := by decide +kernel
theorem dX13_cannot_332 : decode cX13_cannot 332 = .ok (.bipush 120, 2) := by decide +kernel
theorem dX13_cannot_334 : decode cX13_cannot 334 = .ok (.invokestatic 79, 3) := by decide +kernel
theorem dX13_cannot_337 : decode cX13_cannot 337 = .ok (.ifCond .ne 5, 3) := by decide +kernel
theorem dX13_cannot_340 : decode cX13_cannot 340 = .ok (.iconst 1, 1) := by decide +kernel
theorem dX13_cannot_341 : decode cX13_cannot 341 = .ok (.ireturn, 1) := by decide +kernel
theorem dX13_cannot_342 : decode cX13_cannot 342 = .ok (.aload_n 0, 1) := by decide +kernel
theorem dX13_cannot_343 : decode cX13_cannot 343 = .ok (.iload_n 2, 1) := by decide +kernel
theorem dX13_cannot_344 : decode cX13_cannot 344 = .ok (.invokevirtual 211, 3) := by decide +kernel
theorem dX13_cannot_347 : decode cX13_cannot 347 = .ok (.istore 6, 2) := by decide +kernel
theorem dX13_cannot_349 : decode cX13_cannot 349 = .ok (.iconst 0, 1) := by decide +kernel
theorem dX13_cannot_350 : decode cX13_cannot 350 = .ok (.ireturn, 1) := by decide +kernel
theorem dX13_runScript_0 : decode cX13_runScript 0 = .ok (.aload_n 0, 1) := by decide +kernel
theorem dX13_runScript_1 : decode cX13_runScript 1 = .ok (.invokevirtual 87, 3) := by decide +kernel
theorem dX13_runScript_4 : decode cX13_runScript 4 = .ok (.aload_n 0, 1) := by decide +kernel
theorem dX13_runScript_5 : decode cX13_runScript 5 = .ok (.invokevirtual 336, 3) := by decide +kernel
theorem dX13_runScript_8 : decode cX13_runScript 8 = .ok (.aload_n 0, 1) := by decide +kernel
theorem dX13_runScript_9 : decode cX13_runScript 9 = .ok (.getfield 72, 3) := by decide +kernel
theorem dX13_runScript_12 : decode cX13_runScript 12 = .ok (.ifCond .eq 17, 3) := by decide +kernel
theorem dX13_runScript_15 : decode cX13_runScript 15 = .ok (.aload_n 0, 1) := by decide +kernel
theorem dX13_runScript_16 : decode cX13_runScript 16 = .ok (.aload_n 0, 1) := by decide +kernel
theorem dX13_runScript_17 : decode cX13_runScript 17 = .ok (.getfield 66, 3) := by decide +kernel
theorem dX13_runScript_20 : decode cX13_runScript 20 = .ok (.putfield 35, 3) := by decide +kernel
theorem dX13_runScript_23 : decode cX13_runScript 23 = .ok (.aload_n 0, 1) := by decide +kernel
theorem dX13_runScript_24 : decode cX13_runScript 24 = .ok (.iconst 1, 1) := by decide +kernel
theorem dX13_runScript_25 : decode cX13_runScript 25 = .ok (.invokevirtual 94, 3) := by decide +kernel
theorem dX13_runScript_28 : decode cX13_runScript 28 = .ok (.ireturn, 1) := by decide +kernel
theorem dX13_runScript_29 : decode cX13_runScript 29 = .ok (.iconst 0, 1) := by decide +kernel
theorem dX13_runScript_30 : decode cX13_runScript 30 = .ok (.istore_n 1, 1) := by decide +kernel
theorem dX13_runScript_31 : decode cX13_runScript 31 = .ok (.iload_n 1, 1) := by decide +kernel
theorem dX13_runScript_32 : decode cX13_runScript 32 = .ok (.aload_n 0, 1) := by decide +kernel
theorem dX13_runScript_33 : decode cX13_runScript 33 = .ok (.getfield 69, 3) := by decide +kernel
theorem dX13_runScript_36 : decode cX13_runScript 36 = .ok (.if_icmp .ge 87, 3) := by decide +kernel
theorem dX13_runScript_39 : decode cX13_runScript 39 = .ok (.aload_n 0, 1) := by decide +kernel
theorem dX13_runScript_40 : decode cX13_runScript 40 = .ok (.aload_n 0, 1) := by decide +kernel
theorem dX13_runScript_41 : decode cX13_runScript 41 = .ok (.getfield 54, 3) := by decide +kernel
theorem dX13_runScript_44 : decode cX13_runScript 44 = .ok (.iload_n 1, 1) := by decide +kernel
theorem dX13_runScript_45 : decode cX13_runScript 45 = .ok (.iaload, 1) := by decide +kernel
theorem dX13_runScript_46 : decode cX13_runScript 46 = .ok (.aload_n 0, 1) := by decide +kernel
theorem dX13_runScript_47 : decode cX13_runScript 47 = .ok (.getfield 57, 3) := by decide +kernel
theorem dX13_runScript_50 : decode cX13_runScript 50 = .ok (.iconst 4, 1) := by decide +kernel
theorem dX13_runScript_51 : decode cX13_runScript 51 = .ok (.iload_n 1, 1) := by decide +kernel
theorem dX13_runScript_52 : decode cX13_runScript 52 = .ok (.imul, 1) := by decide +kernel
theorem dX13_runScript_53 : decode cX13_runScript 53 = .ok (.iaload, 1) := by decide +kernel
theorem dX13_runScript_54 : decode cX13_runScript 54 = .ok (.aload_n 0, 1) := by decide +kernel
theorem dX13_runScript_55 : decode cX13_runScript 55 = .ok (.getfield 57, 3) := by decide +kernel
theorem dX13_runScript_58 : decode cX13_runScript 58 = .ok (.iconst 4, 1) := by decide +kernel
theorem dX13_runScript_59 : decode cX13_runScript 59 = .ok (.iload_n 1, 1) := by decide +kernel
theorem dX13_runScript_60 : decode cX13_runScript 60 = .ok (.imul, 1) := by decide +kernel
theorem dX13_runScript_61 : decode cX13_runScript 61 = .ok (.iconst 1, 1) := by decide +kernel
theorem dX13_runScript_62 : decode cX13_runScript 62 = .ok (.iadd, 1) := by decide +kernel
theorem dX13_runScript_63 : decode cX13_runScript 63 = .ok (.iaload, 1) := by decide +kernel
theorem dX13_runScript_64 : decode cX13_runScript 64 = .ok (.aload_n 0, 1) := by decide +kernel
theorem dX13_runScript_65 : decode cX13_runScript 65 = .ok (.getfield 57, 3) := by decide +kernel
theorem dX13_runScript_68 : decode cX13_runScript 68 = .ok (.iconst 4, 1) := by decide +kernel
theorem dX13_runScript_69 : decode cX13_runScript 69 = .ok (.iload_n 1, 1) := by decide +kernel
theorem dX13_runScript_70 : decode cX13_runScript 70 = .ok (.imul, 1) := by decide +kernel
theorem dX13_runScript_71 : decode cX13_runScript 71 = .ok (.iconst 2, 1) := by decide +kernel
theorem dX13_runScript_72 : decode cX13_runScript 72 = .ok (.iadd, 1) := by decide +kernel
theorem dX13_runScript_73 : decode cX13_runScript 73 = .ok (.iaload, 1) := by decide +kernel
theorem dX13_runScript_74 : decode cX13_runScript 74 = .ok (.aload_n 0, 1) := by decide +kernel
theorem dX13_runScript_75 : decode cX13_runScript 75 = .ok (.getfield 57, 3) := by decide +kernel
theorem dX13_runScript_78 : decode cX13_runScript 78 = .ok (.iconst 4, 1) := by decide +kernel
theorem dX13_runScript_79 : decode cX13_runScript 79 = .ok (.iload_n 1, 1) := by decide +kernel
theorem dX13_runScript_80 : decode cX13_runScript 80 = .ok (.imul, 1) := by decide +kernel
theorem dX13_runScript_81 : decode cX13_runScript 81 = .ok (.iconst 3, 1) := by decide +kernel
theorem dX13_runScript_82 : decode cX13_runScript 82 = .ok (.iadd, 1) := by decide +kernel
theorem dX13_runScript_83 : decode cX13_runScript 83 = .ok (.iaload, 1) := by decide +kernel
theorem dX13_runScript_84 : decode cX13_runScript 84 = .ok (.invokevirtual 339, 3) := by decide +kernel
theorem dX13_runScript_87 : decode cX13_runScript 87 = .ok (.ifCond .ne 6, 3) := by decide +kernel
theorem dX13_runScript_90 : decode cX13_runScript 90 = .ok (.goto 27, 3) := by decide +kernel
theorem dX13_runScript_93 : decode cX13_runScript 93 = .ok (.aload_n 0, 1) := by decide +kernel
theorem dX13_runScript_94 : decode cX13_runScript 94 = .ok (.getfield 13, 3) := by decide +kernel
theorem dX13_runScript_97 : decode cX13_runScript 97 = .ok (.iconst 0, 1) := by decide +kernel
theorem dX13_runScript_98 : decode cX13_runScript 98 = .ok (.aload_n 0, 1) := by decide +kernel
theorem dX13_runScript_99 : decode cX13_runScript 99 = .ok (.getfield 7, 3) := by decide +kernel
theorem dX13_runScript_102 : decode cX13_runScript 102 = .ok (.iconst 0, 1) := by decide +kernel
theorem dX13_runScript_103 : decode cX13_runScript 103 = .ok (.invokestatic 75, 3) := by decide +kernel
theorem dX13_runScript_106 : decode cX13_runScript 106 = .ok (.aload_n 0, 1) := by decide +kernel
theorem dX13_runScript_107 : decode cX13_runScript 107 = .ok (.iload_n 1, 1) := by decide +kernel
theorem dX13_runScript_108 : decode cX13_runScript 108 = .ok (.putfield 38, 3) := by decide +kernel
theorem dX13_runScript_111 : decode cX13_runScript 111 = .ok (.aload_n 0, 1) := by decide +kernel
theorem dX13_runScript_112 : decode cX13_runScript 112 = .ok (.iconst 2, 1) := by decide +kernel
theorem dX13_runScript_113 : decode cX13_runScript 113 = .ok (.invokevirtual 94, 3) := by decide +kernel
theorem dX13_runScript_116 : decode cX13_runScript 116 = .ok (.ireturn, 1) := by decide +kernel
theorem dX13_runScript_117 : decode cX13_runScript 117 = .ok (.iinc 1 1, 3) := by decide +kernel
theorem dX13_runScript_120 : decode cX13_runScript 120 = .ok (.goto (-89), 3) := by decide +kernel
theorem dX13_runScript_123 : decode cX13_runScript 123 = .ok (.aload_n 0, 1) := by decide +kernel
theorem dX13_runScript_124 : decode cX13_runScript 124 = .ok (.aload_n 0, 1) := by decide +kernel
theorem dX13_runScript_125 : decode cX13_runScript 125 = .ok (.getfield 69, 3) := by decide +kernel
theorem dX13_runScript_128 : decode cX13_runScript 128 = .ok (.invokevirtual 100, 3) := by decide +kernel
theorem dX13_runScript_131 : decode cX13_runScript 131 = .ok (.ireturn, 1) := by decide +kernel
theorem dX13_present_0 : decode cX13_present 0 = .ok (.aload_n 0, 1) := by decide +kernel
theorem dX13_present_1 : decode cX13_present 1 = .ok (.iload_n 1, 1) := by decide +kernel
theorem dX13_present_2 : decode cX13_present 2 = .ok (.ifCond .lt 7, 3) := by decide +kernel
theorem dX13_present_5 : decode cX13_present 5 = .ok (.iconst 1, 1) := by decide +kernel
theorem dX13_present_6 : decode cX13_present 6 = .ok (.goto 4, 3) := by decide +kernel
theorem dX13_present_9 : decode cX13_present 9 = .ok (.iconst 0, 1) := by decide +kernel
theorem dX13_present_10 : decode cX13_present 10 = .ok (.invokevirtual 217, 3) := by decide +kernel
theorem dX13_present_13 : decode cX13_present 13 = .ok (.ifCond .le 7, 3) := by decide +kernel
theorem dX13_present_16 : decode cX13_present 16 = .ok (.iconst 0, 1) := by decide +kernel
theorem dX13_present_17 : decode cX13_present 17 = .ok (.goto 4, 3) := by decide +kernel
theorem dX13_present_20 : decode cX13_present 20 = .ok (.iload_n 1, 1) := by decide +kernel
theorem dX13_present_21 : decode cX13_present 21 = .ok (.ireturn, 1) := by decide +kernel
theorem dX13_errorPosition_0 : decode cX13_errorPosition 0 = .ok (.aload_n 0, 1) := by decide +kernel
theorem dX13_errorPosition_1 : decode cX13_errorPosition 1 = .ok (.aload_n 0, 1) := by decide +kernel
theorem dX13_errorPosition_2 : decode cX13_errorPosition 2 = .ok (.getfield 35, 3) := by decide +kernel
theorem dX13_errorPosition_5 : decode cX13_errorPosition 5 = .ok (.invokevirtual 343, 3) := by decide +kernel
theorem dX13_errorPosition_8 : decode cX13_errorPosition 8 = .ok (.ireturn, 1) := by decide +kernel
theorem dX13_failedCommand_0 : decode cX13_failedCommand 0 = .ok (.aload_n 0, 1) := by decide +kernel
theorem dX13_failedCommand_1 : decode cX13_failedCommand 1 = .ok (.aload_n 0, 1) := by decide +kernel
theorem dX13_failedCommand_2 : decode cX13_failedCommand 2 = .ok (.getfield 38, 3) := by decide +kernel
theorem dX13_failedCommand_5 : decode cX13_failedCommand 5 = .ok (.invokevirtual 343, 3) := by decide +kernel
theorem dX13_failedCommand_8 : decode cX13_failedCommand 8 = .ok (.ireturn, 1) := by decide +kernel
theorem dX13_undo_0 : decode cX13_undo 0 = .ok (.aload_n 0, 1) := by decide +kernel
theorem dX13_undo_1 : decode cX13_undo 1 = .ok (.aload_n 0, 1) := by decide +kernel
theorem dX13_undo_2 : decode cX13_undo 2 = .ok (.getfield 32, 3) := by decide +kernel
theorem dX13_undo_5 : decode cX13_undo 5 = .ok (.ifCond .le 7, 3) := by decide +kernel
theorem dX13_undo_8 : decode cX13_undo 8 = .ok (.iconst 1, 1) := by decide +kernel
theorem dX13_undo_9 : decode cX13_undo 9 = .ok (.goto 4, 3) := by decide +kernel
theorem dX13_undo_12 : decode cX13_undo 12 = .ok (.iconst 0, 1) := by decide +kernel
theorem dX13_undo_13 : decode cX13_undo 13 = .ok (.invokevirtual 217, 3) := by decide +kernel
theorem dX13_undo_16 : decode cX13_undo 16 = .ok (.ifCond .le 5, 3) := by decide +kernel
theorem dX13_undo_19 : decode cX13_undo 19 = .ok (.iconst 0, 1) := by decide +kernel
theorem dX13_undo_20 : decode cX13_undo 20 = .ok (.ireturn, 1) := by decide +kernel
theorem dX13_undo_21 : decode cX13_undo 21 = .ok (.aload_n 0, 1) := by decide +kernel
theorem dX13_undo_22 : decode cX13_undo 22 = .ok (.dup, 1) := by decide +kernel
theorem dX13_undo_23 : decode cX13_undo 23 = .ok (.getfield 32, 3) := by decide +kernel
theorem dX13_undo_26 : decode cX13_undo 26 = .ok (.iconst 1, 1) := by decide +kernel
theorem dX13_undo_27 : decode cX13_undo 27 = .ok (.isub, 1) := by decide +kernel
theorem dX13_undo_28 : decode cX13_undo 28 = .ok (.putfield 32, 3) := by decide +kernel
theorem dX13_undo_31 : decode cX13_undo 31 = .ok (.aload_n 0, 1) := by decide +kernel
theorem dX13_undo_32 : decode cX13_undo 32 = .ok (.getfield 19, 3) := by decide +kernel
theorem dX13_undo_35 : decode cX13_undo 35 = .ok (.sipush 340, 3) := by decide +kernel
theorem dX13_undo_38 : decode cX13_undo 38 = .ok (.aload_n 0, 1) := by decide +kernel
theorem dX13_undo_39 : decode cX13_undo 39 = .ok (.getfield 32, 3) := by decide +kernel
theorem dX13_undo_42 : decode cX13_undo 42 = .ok (.imul, 1) := by decide +kernel
theorem dX13_undo_43 : decode cX13_undo 43 = .ok (.aload_n 0, 1) := by decide +kernel
theorem dX13_undo_44 : decode cX13_undo 44 = .ok (.getfield 7, 3) := by decide +kernel
theorem dX13_undo_47 : decode cX13_undo 47 = .ok (.iconst 0, 1) := by decide +kernel
theorem dX13_undo_48 : decode cX13_undo 48 = .ok (.invokestatic 75, 3) := by decide +kernel
theorem dX13_undo_51 : decode cX13_undo 51 = .ok (.aload_n 0, 1) := by decide +kernel
theorem dX13_undo_52 : decode cX13_undo 52 = .ok (.getfield 32, 3) := by decide +kernel
theorem dX13_undo_55 : decode cX13_undo 55 = .ok (.ireturn, 1) := by decide +kernel
theorem dX13_save_0 : decode cX13_save 0 = .ok (.aload_n 0, 1) := by decide +kernel
theorem dX13_save_1 : decode cX13_save 1 = .ok (.iconst 0, 1) := by decide +kernel
theorem dX13_save_2 : decode cX13_save 2 = .ok (.putfield 28, 3) := by decide +kernel
theorem dX13_save_5 : decode cX13_save 5 = .ok (.aload_n 0, 1) := by decide +kernel
theorem dX13_save_6 : decode cX13_save 6 = .ok (.getfield 7, 3) := by decide +kernel
theorem dX13_save_9 : decode cX13_save 9 = .ok (.iconst 0, 1) := by decide +kernel
theorem dX13_save_10 : decode cX13_save 10 = .ok (.aload_n 0, 1) := by decide +kernel
theorem dX13_save_11 : decode cX13_save 11 = .ok (.getfield 16, 3) := by decide +kernel
theorem dX13_save_14 : decode cX13_save 14 = .ok (.iconst 0, 1) := by decide +kernel
theorem dX13_save_15 : decode cX13_save 15 = .ok (.invokestatic 75, 3) := by decide +kernel
theorem dX13_save_18 : decode cX13_save 18 = .ok (.aload_n 0, 1) := by decide +kernel
theorem dX13_save_19 : decode cX13_save 19 = .ok (.iconst 1, 1) := by decide +kernel
theorem dX13_save_20 : decode cX13_save 20 = .ok (.putfield 41, 3) := by decide +kernel
theorem dX13_save_23 : decode cX13_save 23 = .ok (.aload_n 0, 1) := by decide +kernel
theorem dX13_save_24 : decode cX13_save 24 = .ok (.getfield 7, 3) := by decide +kernel
theorem dX13_save_27 : decode cX13_save 27 = .ok (.iconst 3, 1) := by decide +kernel
theorem dX13_save_28 : decode cX13_save 28 = .ok (.iaload, 1) := by decide +kernel
theorem dX13_save_29 : decode cX13_save 29 = .ok (.ireturn, 1) := by decide +kernel
theorem dX13_restore_0 : decode cX13_restore 0 = .ok (.aload_n 0, 1) := by decide +kernel
theorem dX13_restore_1 : decode cX13_restore 1 = .ok (.aload_n 0, 1) := by decide +kernel
theorem dX13_restore_2 : decode cX13_restore 2 = .ok (.getfield 41, 3) := by decide +kernel
theorem dX13_restore_5 : decode cX13_restore 5 = .ok (.invokevirtual 217, 3) := by decide +kernel
theorem dX13_restore_8 : decode cX13_restore 8 = .ok (.ifCond .le 5, 3) := by decide +kernel
theorem dX13_restore_11 : decode cX13_restore 11 = .ok (.iconst 0, 1) := by decide +kernel
theorem dX13_restore_12 : decode cX13_restore 12 = .ok (.ireturn, 1) := by decide +kernel
theorem dX13_restore_13 : decode cX13_restore 13 = .ok (.aload_n 0, 1) := by decide +kernel
theorem dX13_restore_14 : decode cX13_restore 14 = .ok (.getfield 16, 3) := by decide +kernel
theorem dX13_restore_17 : decode cX13_restore 17 = .ok (.iconst 0, 1) := by decide +kernel
theorem dX13_restore_18 : decode cX13_restore 18 = .ok (.aload_n 0, 1) := by decide +kernel
theorem dX13_restore_19 : decode cX13_restore 19 = .ok (.getfield 7, 3) := by decide +kernel
theorem dX13_restore_22 : decode cX13_restore 22 = .ok (.iconst 0, 1) := by decide +kernel
theorem dX13_restore_23 : decode cX13_restore 23 = .ok (.invokestatic 75, 3) := by decide +kernel
theorem dX13_restore_26 : decode cX13_restore 26 = .ok (.aload_n 0, 1) := by decide +kernel
theorem dX13_restore_27 : decode cX13_restore 27 = .ok (.iconst 0, 1) := by decide +kernel
theorem dX13_restore_28 : decode cX13_restore 28 = .ok (.putfield 32, 3) := by decide +kernel
theorem dX13_restore_31 : decode cX13_restore 31 = .ok (.aload_n 0, 1) := by decide +kernel
theorem dX13_restore_32 : decode cX13_restore 32 = .ok (.getfield 7, 3) := by decide +kernel
theorem dX13_restore_35 : decode cX13_restore 35 = .ok (.iconst 3, 1) := by decide +kernel
theorem dX13_restore_36 : decode cX13_restore 36 = .ok (.iaload, 1) := by decide +kernel
theorem dX13_restore_37 : decode cX13_restore 37 = .ok (.ireturn, 1) := by decide +kernel
