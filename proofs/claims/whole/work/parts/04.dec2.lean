theorem dX9_init_0 : decode cX9_init 0 = .ok (.aload_n 0, 1) := by decide +kernel
theorem dX9_init_1 : decode cX9_init 1 = .ok (.invokespecial 3, 3) := by decide +kernel
theorem dX9_init_4 : decode cX9_init 4 = .ok (.aload_n 0, 1) := by decide +kernel
theorem dX9_init_5 : decode cX9_init 5 = .ok (.sipush 228, 3) := by decide +kernel
theorem dX9_init_8 : decode cX9_init 8 = .ok (.newarray .int, 2) := by decide +kernel
theorem dX9_init_10 : decode cX9_init 10 = .ok (.putfield 9, 3) := by decide +kernel
theorem dX9_init_13 : decode cX9_init 13 = .ok (.aload_n 0, 1) := by decide +kernel
theorem dX9_init_14 : decode cX9_init 14 = .ok (.sipush 228, 3) := by decide +kernel
theorem dX9_init_17 : decode cX9_init 17 = .ok (.newarray .int, 2) := by decide +kernel
theorem dX9_init_19 : decode cX9_init 19 = .ok (.putfield 13, 3) := by decide +kernel
theorem dX9_init_22 : decode cX9_init 22 = .ok (.aload_n 0, 1) := by decide +kernel
theorem dX9_init_23 : decode cX9_init 23 = .ok (.sipush 1824, 3) := by decide +kernel
theorem dX9_init_26 : decode cX9_init 26 = .ok (.newarray .int, 2) := by decide +kernel
theorem dX9_init_28 : decode cX9_init 28 = .ok (.putfield 16, 3) := by decide +kernel
theorem dX9_init_31 : decode cX9_init 31 = .ok (.aload_n 0, 1) := by decide +kernel
theorem dX9_init_32 : decode cX9_init 32 = .ok (.sipush 228, 3) := by decide +kernel
theorem dX9_init_35 : decode cX9_init 35 = .ok (.newarray .int, 2) := by decide +kernel
theorem dX9_init_37 : decode cX9_init 37 = .ok (.putfield 19, 3) := by decide +kernel
theorem dX9_init_40 : decode cX9_init 40 = .ok (.aload_n 0, 1) := by decide +kernel
theorem dX9_init_41 : decode cX9_init 41 = .ok (.bipush 40, 2) := by decide +kernel
theorem dX9_init_43 : decode cX9_init 43 = .ok (.newarray .char, 2) := by decide +kernel
theorem dX9_init_45 : decode cX9_init 45 = .ok (.putfield 22, 3) := by decide +kernel
theorem dX9_init_48 : decode cX9_init 48 = .ok (.aload_n 0, 1) := by decide +kernel
theorem dX9_init_49 : decode cX9_init 49 = .ok (.bipush 60, 2) := by decide +kernel
theorem dX9_init_51 : decode cX9_init 51 = .ok (.newarray .char, 2) := by decide +kernel
theorem dX9_init_53 : decode cX9_init 53 = .ok (.putfield 26, 3) := by decide +kernel
theorem dX9_init_56 : decode cX9_init 56 = .ok (.aload_n 0, 1) := by decide +kernel
theorem dX9_init_57 : decode cX9_init 57 = .ok (.iconst 3, 1) := by decide +kernel
theorem dX9_init_58 : decode cX9_init 58 = .ok (.newarray .int, 2) := by decide +kernel
theorem dX9_init_60 : decode cX9_init 60 = .ok (.putfield 29, 3) := by decide +kernel
theorem dX9_init_63 : decode cX9_init 63 = .ok (.aload_n 0, 1) := by decide +kernel
theorem dX9_init_64 : decode cX9_init 64 = .ok (.iconst (-1), 1) := by decide +kernel
theorem dX9_init_65 : decode cX9_init 65 = .ok (.putfield 32, 3) := by decide +kernel
theorem dX9_init_68 : decode cX9_init 68 = .ok (.aload_n 0, 1) := by decide +kernel
theorem dX9_init_69 : decode cX9_init 69 = .ok (.bipush 6, 2) := by decide +kernel
theorem dX9_init_71 : decode cX9_init 71 = .ok (.newarray .int, 2) := by decide +kernel
theorem dX9_init_73 : decode cX9_init 73 = .ok (.putfield 36, 3) := by decide +kernel
theorem dX9_init_76 : decode cX9_init 76 = .ok (.aload_n 0, 1) := by decide +kernel
theorem dX9_init_77 : decode cX9_init 77 = .ok (.getfield 9, 3) := by decide +kernel
theorem dX9_init_80 : decode cX9_init 80 = .ok (.iconst 0, 1) := by decide +kernel
theorem dX9_init_81 : decode cX9_init 81 = .ok (.iconst 1, 1) := by decide +kernel
theorem dX9_init_82 : decode cX9_init 82 = .ok (.iastore, 1) := by decide +kernel
theorem dX9_init_83 : decode cX9_init 83 = .ok (.aload_n 0, 1) := by decide +kernel
theorem dX9_init_84 : decode cX9_init 84 = .ok (.getfield 9, 3) := by decide +kernel
theorem dX9_init_87 : decode cX9_init 87 = .ok (.iconst 1, 1) := by decide +kernel
theorem dX9_init_88 : decode cX9_init 88 = .ok (.iconst 1, 1) := by decide +kernel
theorem dX9_init_89 : decode cX9_init 89 = .ok (.iastore, 1) := by decide +kernel
theorem dX9_init_90 : decode cX9_init 90 = .ok (.aload_n 0, 1) := by decide +kernel
theorem dX9_init_91 : decode cX9_init 91 = .ok (.getfield 9, 3) := by decide +kernel
theorem dX9_init_94 : decode cX9_init 94 = .ok (.iconst 2, 1) := by decide +kernel
theorem dX9_init_95 : decode cX9_init 95 = .ok (.iconst (-1), 1) := by decide +kernel
theorem dX9_init_96 : decode cX9_init 96 = .ok (.iastore, 1) := by decide +kernel
theorem dX9_init_97 : decode cX9_init 97 = .ok (.aload_n 0, 1) := by decide +kernel
theorem dX9_init_98 : decode cX9_init 98 = .ok (.getfield 9, 3) := by decide +kernel
theorem dX9_init_101 : decode cX9_init 101 = .ok (.bipush 13, 2) := by decide +kernel
theorem dX9_init_103 : decode cX9_init 103 = .ok (.iconst (-1), 1) := by decide +kernel
theorem dX9_init_104 : decode cX9_init 104 = .ok (.iastore, 1) := by decide +kernel
theorem dX9_init_105 : decode cX9_init 105 = .ok (.aload_n 0, 1) := by decide +kernel
theorem dX9_init_106 : decode cX9_init 106 = .ok (.getfield 9, 3) := by decide +kernel
theorem dX9_init_109 : decode cX9_init 109 = .ok (.bipush 14, 2) := by decide +kernel
theorem dX9_init_111 : decode cX9_init 111 = .ok (.iconst (-1), 1) := by decide +kernel
theorem dX9_init_112 : decode cX9_init 112 = .ok (.iastore, 1) := by decide +kernel
theorem dX9_init_113 : decode cX9_init 113 = .ok (.return_, 1) := by decide +kernel
theorem dX9_thrown_0 : decode cX9_thrown 0 = .ok (.aload_n 0, 1) := by decide +kernel
theorem dX9_thrown_1 : decode cX9_thrown 1 = .ok (.getfield 39, 3) := by decide +kernel
theorem dX9_thrown_4 : decode cX9_thrown 4 = .ok (.ireturn, 1) := by decide +kernel
theorem dX9_raises_0 : decode cX9_raises 0 = .ok (.aload_n 0, 1) := by decide +kernel
theorem dX9_raises_1 : decode cX9_raises 1 = .ok (.iload_n 1, 1) := by decide +kernel
theorem dX9_raises_2 : decode cX9_raises 2 = .ok (.putfield 39, 3) := by decide +kernel
theorem dX9_raises_5 : decode cX9_raises 5 = .ok (.iconst 0, 1) := by decide +kernel
theorem dX9_raises_6 : decode cX9_raises 6 = .ok (.ireturn, 1) := by decide +kernel
theorem dX9_in_0 : decode cX9_in 0 = .ok (.iload_n 0, 1) := by decide +kernel
theorem dX9_in_1 : decode cX9_in 1 = .ok (.iload_n 1, 1) := by decide +kernel
theorem dX9_in_2 : decode cX9_in 2 = .ok (.if_icmp .lt 12, 3) := by decide +kernel
theorem dX9_in_5 : decode cX9_in 5 = .ok (.iload_n 0, 1) := by decide +kernel
theorem dX9_in_6 : decode cX9_in 6 = .ok (.iload_n 2, 1) := by decide +kernel
theorem dX9_in_7 : decode cX9_in 7 = .ok (.if_icmp .gt 7, 3) := by decide +kernel
theorem dX9_in_10 : decode cX9_in 10 = .ok (.iconst 1, 1) := by decide +kernel
theorem dX9_in_11 : decode cX9_in 11 = .ok (.goto 4, 3) := by decide +kernel
theorem dX9_in_14 : decode cX9_in 14 = .ok (.iconst 0, 1) := by decide +kernel
theorem dX9_in_15 : decode cX9_in 15 = .ok (.ireturn, 1) := by decide +kernel
theorem dX9_tries_0 : decode cX9_tries 0 = .ok (.aload_n 0, 1) := by decide +kernel
theorem dX9_tries_1 : decode cX9_tries 1 = .ok (.iconst 0, 1) := by decide +kernel
theorem dX9_tries_2 : decode cX9_tries 2 = .ok (.putfield 39, 3) := by decide +kernel
theorem dX9_tries_5 : decode cX9_tries 5 = .ok (.iconst 0, 1) := by decide +kernel
theorem dX9_tries_6 : decode cX9_tries 6 = .ok (.istore_n 1, 1) := by decide +kernel
theorem dX9_tries_7 : decode cX9_tries 7 = .ok (.iload_n 1, 1) := by decide +kernel
theorem dX9_tries_8 : decode cX9_tries 8 = .ok (.sipush 228, 3) := by decide +kernel
theorem dX9_tries_11 : decode cX9_tries 11 = .ok (.if_icmp .ge 21, 3) := by decide +kernel
theorem dX9_tries_14 : decode cX9_tries 14 = .ok (.aload_n 0, 1) := by decide +kernel
theorem dX9_tries_15 : decode cX9_tries 15 = .ok (.getfield 13, 3) := by decide +kernel
theorem dX9_tries_18 : decode cX9_tries 18 = .ok (.iload_n 1, 1) := by decide +kernel
theorem dX9_tries_19 : decode cX9_tries 19 = .ok (.aload_n 0, 1) := by decide +kernel
theorem dX9_tries_20 : decode cX9_tries 20 = .ok (.getfield 9, 3) := by decide +kernel
theorem dX9_tries_23 : decode cX9_tries 23 = .ok (.iload_n 1, 1) := by decide +kernel
theorem dX9_tries_24 : decode cX9_tries 24 = .ok (.iaload, 1) := by decide +kernel
theorem dX9_tries_25 : decode cX9_tries 25 = .ok (.iastore, 1) := by decide +kernel
theorem dX9_tries_26 : decode cX9_tries 26 = .ok (.iinc 1 1, 3) := by decide +kernel
theorem dX9_tries_29 : decode cX9_tries 29 = .ok (.goto (-22), 3) := by decide +kernel
theorem dX9_tries_32 : decode cX9_tries 32 = .ok (.return_, 1) := by decide +kernel
theorem dX9_comesBack_0 : decode cX9_comesBack 0 = .ok (.iconst 0, 1) := by decide +kernel
theorem dX9_comesBack_1 : decode cX9_comesBack 1 = .ok (.istore_n 1, 1) := by decide +kernel
theorem dX9_comesBack_2 : decode cX9_comesBack 2 = .ok (.iload_n 1, 1) := by decide +kernel
theorem dX9_comesBack_3 : decode cX9_comesBack 3 = .ok (.sipush 228, 3) := by decide +kernel
theorem dX9_comesBack_6 : decode cX9_comesBack 6 = .ok (.if_icmp .ge 21, 3) := by decide +kernel
theorem dX9_comesBack_9 : decode cX9_comesBack 9 = .ok (.aload_n 0, 1) := by decide +kernel
theorem dX9_comesBack_10 : decode cX9_comesBack 10 = .ok (.getfield 9, 3) := by decide +kernel
theorem dX9_comesBack_13 : decode cX9_comesBack 13 = .ok (.iload_n 1, 1) := by decide +kernel
theorem dX9_comesBack_14 : decode cX9_comesBack 14 = .ok (.aload_n 0, 1) := by decide +kernel
theorem dX9_comesBack_15 : decode cX9_comesBack 15 = .ok (.getfield 13, 3) := by decide +kernel
theorem dX9_comesBack_18 : decode cX9_comesBack 18 = .ok (.iload_n 1, 1) := by decide +kernel
theorem dX9_comesBack_19 : decode cX9_comesBack 19 = .ok (.iaload, 1) := by decide +kernel
theorem dX9_comesBack_20 : decode cX9_comesBack 20 = .ok (.iastore, 1) := by decide +kernel
theorem dX9_comesBack_21 : decode cX9_comesBack 21 = .ok (.iinc 1 1, 3) := by decide +kernel
theorem dX9_comesBack_24 : decode cX9_comesBack 24 = .ok (.goto (-22), 3) := by decide +kernel
theorem dX9_comesBack_27 : decode cX9_comesBack 27 = .ok (.return_, 1) := by decide +kernel
theorem dX9_keeps_0 : decode cX9_keeps 0 = .ok (.aload_n 0, 1) := by decide +kernel
theorem dX9_keeps_1 : decode cX9_keeps 1 = .ok (.getfield 42, 3) := by decide +kernel
theorem dX9_keeps_4 : decode cX9_keeps 4 = .ok (.bipush 8, 2) := by decide +kernel
theorem dX9_keeps_6 : decode cX9_keeps 6 = .ok (.if_icmp .ne 44, 3) := by decide +kernel
theorem dX9_keeps_9 : decode cX9_keeps 9 = .ok (.iconst 0, 1) := by decide +kernel
theorem dX9_keeps_10 : decode cX9_keeps 10 = .ok (.istore_n 2, 1) := by decide +kernel
theorem dX9_keeps_11 : decode cX9_keeps 11 = .ok (.iload_n 2, 1) := by decide +kernel
theorem dX9_keeps_12 : decode cX9_keeps 12 = .ok (.sipush 1596, 3) := by decide +kernel
theorem dX9_keeps_15 : decode cX9_keeps 15 = .ok (.if_icmp .ge 25, 3) := by decide +kernel
theorem dX9_keeps_18 : decode cX9_keeps 18 = .ok (.aload_n 0, 1) := by decide +kernel
theorem dX9_keeps_19 : decode cX9_keeps 19 = .ok (.getfield 16, 3) := by decide +kernel
theorem dX9_keeps_22 : decode cX9_keeps 22 = .ok (.iload_n 2, 1) := by decide +kernel
theorem dX9_keeps_23 : decode cX9_keeps 23 = .ok (.aload_n 0, 1) := by decide +kernel
theorem dX9_keeps_24 : decode cX9_keeps 24 = .ok (.getfield 16, 3) := by decide +kernel
theorem dX9_keeps_27 : decode cX9_keeps 27 = .ok (.sipush 228, 3) := by decide +kernel
theorem dX9_keeps_30 : decode cX9_keeps 30 = .ok (.iload_n 2, 1) := by decide +kernel
theorem dX9_keeps_31 : decode cX9_keeps 31 = .ok (.iadd, 1) := by decide +kernel
theorem dX9_keeps_32 : decode cX9_keeps 32 = .ok (.iaload, 1) := by decide +kernel
theorem dX9_keeps_33 : decode cX9_keeps 33 = .ok (.iastore, 1) := by decide +kernel
theorem dX9_keeps_34 : decode cX9_keeps 34 = .ok (.iinc 2 1, 3) := by decide +kernel
theorem dX9_keeps_37 : decode cX9_keeps 37 = .ok (.goto (-26), 3) := by decide +kernel
theorem dX9_keeps_40 : decode cX9_keeps 40 = .ok (.aload_n 0, 1) := by decide +kernel
theorem dX9_keeps_41 : decode cX9_keeps 41 = .ok (.dup, 1) := by decide +kernel
theorem dX9_keeps_42 : decode cX9_keeps 42 = .ok (.getfield 42, 3) := by decide +kernel
theorem dX9_keeps_45 : decode cX9_keeps 45 = .ok (.iconst 1, 1) := by decide +kernel
theorem dX9_keeps_46 : decode cX9_keeps 46 = .ok (.isub, 1) := by decide +kernel
theorem dX9_keeps_47 : decode cX9_keeps 47 = .ok (.putfield 42, 3) := by decide +kernel
theorem dX9_keeps_50 : decode cX9_keeps 50 = .ok (.iconst 0, 1) := by decide +kernel
theorem dX9_keeps_51 : decode cX9_keeps 51 = .ok (.istore_n 2, 1) := by decide +kernel
theorem dX9_keeps_52 : decode cX9_keeps 52 = .ok (.iload_n 2, 1) := by decide +kernel
theorem dX9_keeps_53 : decode cX9_keeps 53 = .ok (.sipush 228, 3) := by decide +kernel
theorem dX9_keeps_56 : decode cX9_keeps 56 = .ok (.if_icmp .ge 30, 3) := by decide +kernel
theorem dX9_keeps_59 : decode cX9_keeps 59 = .ok (.aload_n 0, 1) := by decide +kernel
theorem dX9_keeps_60 : decode cX9_keeps 60 = .ok (.getfield 16, 3) := by decide +kernel
theorem dX9_keeps_63 : decode cX9_keeps 63 = .ok (.sipush 228, 3) := by decide +kernel
theorem dX9_keeps_66 : decode cX9_keeps 66 = .ok (.aload_n 0, 1) := by decide +kernel
theorem dX9_keeps_67 : decode cX9_keeps 67 = .ok (.getfield 42, 3) := by decide +kernel
theorem dX9_keeps_70 : decode cX9_keeps 70 = .ok (.imul, 1) := by decide +kernel
theorem dX9_keeps_71 : decode cX9_keeps 71 = .ok (.iload_n 2, 1) := by decide +kernel
theorem dX9_keeps_72 : decode cX9_keeps 72 = .ok (.iadd, 1) := by decide +kernel
theorem dX9_keeps_73 : decode cX9_keeps 73 = .ok (.aload_n 0, 1) := by decide +kernel
theorem dX9_keeps_74 : decode cX9_keeps 74 = .ok (.getfield 13, 3) := by decide +kernel
theorem dX9_keeps_77 : decode cX9_keeps 77 = .ok (.iload_n 2, 1) := by decide +kernel
theorem dX9_keeps_78 : decode cX9_keeps 78 = .ok (.iaload, 1) := by decide +kernel
theorem dX9_keeps_79 : decode cX9_keeps 79 = .ok (.iastore, 1) := by decide +kernel
theorem dX9_keeps_80 : decode cX9_keeps 80 = .ok (.iinc 2 1, 3) := by decide +kernel
theorem dX9_keeps_83 : decode cX9_keeps 83 = .ok (.goto (-31), 3) := by decide +kernel
theorem dX9_keeps_86 : decode cX9_keeps 86 = .ok (.aload_n 0, 1) := by decide +kernel
theorem dX9_keeps_87 : decode cX9_keeps 87 = .ok (.dup, 1) := by decide +kernel
theorem dX9_keeps_88 : decode cX9_keeps 88 = .ok (.getfield 42, 3) := by decide +kernel
theorem dX9_keeps_91 : decode cX9_keeps 91 = .ok (.iconst 1, 1) := by decide +kernel
theorem dX9_keeps_92 : decode cX9_keeps 92 = .ok (.iadd, 1) := by decide +kernel
theorem dX9_keeps_93 : decode cX9_keeps 93 = .ok (.putfield 42, 3) := by decide +kernel
theorem dX9_keeps_96 : decode cX9_keeps 96 = .ok (.iload_n 1, 1) := by decide +kernel
theorem dX9_keeps_97 : decode cX9_keeps 97 = .ok (.ireturn, 1) := by decide +kernel
theorem dX9_does_0 : decode cX9_does 0 = .ok (.aload_n 0, 1) := by decide +kernel
theorem dX9_does_1 : decode cX9_does 1 = .ok (.iload_n 1, 1) := by decide +kernel
theorem dX9_does_2 : decode cX9_does 2 = .ok (.putfield 45, 3) := by decide +kernel
theorem dX9_does_5 : decode cX9_does 5 = .ok (.iconst 0, 1) := by decide +kernel
theorem dX9_does_6 : decode cX9_does 6 = .ok (.ireturn, 1) := by decide +kernel
theorem dX9_refuses_0 : decode cX9_refuses 0 = .ok (.aload_n 0, 1) := by decide +kernel
theorem dX9_refuses_1 : decode cX9_refuses 1 = .ok (.iload_n 1, 1) := by decide +kernel
theorem dX9_refuses_2 : decode cX9_refuses 2 = .ok (.putfield 48, 3) := by decide +kernel
theorem dX9_refuses_5 : decode cX9_refuses 5 = .ok (.aload_n 0, 1) := by decide +kernel
theorem dX9_refuses_6 : decode cX9_refuses 6 = .ok (.iload_n 2, 1) := by decide +kernel
theorem dX9_refuses_7 : decode cX9_refuses 7 = .ok (.putfield 51, 3) := by decide +kernel
theorem dX9_refuses_10 : decode cX9_refuses 10 = .ok (.iconst 3, 1) := by decide +kernel
theorem dX9_refuses_11 : decode cX9_refuses 11 = .ok (.ireturn, 1) := by decide +kernel
theorem dX9_ends_0 : decode cX9_ends 0 = .ok (.iload_n 1, 1) := by decide +kernel
theorem dX9_ends_1 : decode cX9_ends 1 = .ok (.ifCond .ne 14, 3) := by decide +kernel
theorem dX9_ends_4 : decode cX9_ends 4 = .ok (.aload_n 0, 1) := by decide +kernel
theorem dX9_ends_5 : decode cX9_ends 5 = .ok (.aload_n 0, 1) := by decide +kernel
theorem dX9_ends_6 : decode cX9_ends 6 = .ok (.getfield 45, 3) := by decide +kernel
theorem dX9_ends_9 : decode cX9_ends 9 = .ok (.invokevirtual 54, 3) := by decide +kernel
theorem dX9_ends_12 : decode cX9_ends 12 = .ok (.goto 8, 3) := by decide +kernel
theorem dX9_ends_15 : decode cX9_ends 15 = .ok (.aload_n 0, 1) := by decide +kernel
theorem dX9_ends_16 : decode cX9_ends 16 = .ok (.iload_n 1, 1) := by decide +kernel
theorem dX9_ends_17 : decode cX9_ends 17 = .ok (.invokevirtual 58, 3) := by decide +kernel
theorem dX9_ends_20 : decode cX9_ends 20 = .ok (.ireturn, 1) := by decide +kernel
theorem dX9_isBranch_0 : decode cX9_isBranch 0 = .ok (.iload_n 1, 1) := by decide +kernel
theorem dX9_isBranch_1 : decode cX9_isBranch 1 = .ok (.iconst 0, 1) := by decide +kernel
theorem dX9_isBranch_2 : decode cX9_isBranch 2 = .ok (.aload_n 0, 1) := by decide +kernel
theorem dX9_isBranch_3 : decode cX9_isBranch 3 = .ok (.getfield 9, 3) := by decide +kernel
theorem dX9_isBranch_6 : decode cX9_isBranch 6 = .ok (.iconst 1, 1) := by decide +kernel
theorem dX9_isBranch_7 : decode cX9_isBranch 7 = .ok (.iaload, 1) := by decide +kernel
theorem dX9_isBranch_8 : decode cX9_isBranch 8 = .ok (.iconst 1, 1) := by decide +kernel
theorem dX9_isBranch_9 : decode cX9_isBranch 9 = .ok (.isub, 1) := by decide +kernel
theorem dX9_isBranch_10 : decode cX9_isBranch 10 = .ok (.invokestatic 61, 3) := by decide +kernel
theorem dX9_isBranch_13 : decode cX9_isBranch 13 = .ok (.ireturn, 1) := by decide +kernel
theorem dX9_isCommit_0 : decode cX9_isCommit 0 = .ok (.iload_n 1, 1) := by decide +kernel
theorem dX9_isCommit_1 : decode cX9_isCommit 1 = .ok (.iconst 0, 1) := by decide +kernel
theorem dX9_isCommit_2 : decode cX9_isCommit 2 = .ok (.aload_n 0, 1) := by decide +kernel
theorem dX9_isCommit_3 : decode cX9_isCommit 3 = .ok (.getfield 9, 3) := by decide +kernel
theorem dX9_isCommit_6 : decode cX9_isCommit 6 = .ok (.iconst 0, 1) := by decide +kernel
theorem dX9_isCommit_7 : decode cX9_isCommit 7 = .ok (.iaload, 1) := by decide +kernel
theorem dX9_isCommit_8 : decode cX9_isCommit 8 = .ok (.iconst 1, 1) := by decide +kernel
theorem dX9_isCommit_9 : decode cX9_isCommit 9 = .ok (.isub, 1) := by decide +kernel
theorem dX9_isCommit_10 : decode cX9_isCommit 10 = .ok (.invokestatic 61, 3) := by decide +kernel
theorem dX9_isCommit_13 : decode cX9_isCommit 13 = .ok (.ireturn, 1) := by decide +kernel
theorem dX9_isKind_0 : decode cX9_isKind 0 = .ok (.iload_n 0, 1) := by decide +kernel
theorem dX9_isKind_1 : decode cX9_isKind 1 = .ok (.iconst 0, 1) := by decide +kernel
theorem dX9_isKind_2 : decode cX9_isKind 2 = .ok (.iconst 5, 1) := by decide +kernel
theorem dX9_isKind_3 : decode cX9_isKind 3 = .ok (.invokestatic 61, 3) := by decide +kernel
theorem dX9_isKind_6 : decode cX9_isKind 6 = .ok (.ireturn, 1) := by decide +kernel
theorem dX9_of_0 : decode cX9_of 0 = .ok (.aload_n 0, 1) := by decide +kernel
theorem dX9_of_1 : decode cX9_of 1 = .ok (.getfield 9, 3) := by decide +kernel
theorem dX9_of_4 : decode cX9_of 4 = .ok (.bipush 12, 2) := by decide +kernel
theorem dX9_of_6 : decode cX9_of 6 = .ok (.bipush 9, 2) := by decide +kernel
theorem dX9_of_8 : decode cX9_of 8 = .ok (.iload_n 1, 1) := by decide +kernel
theorem dX9_of_9 : decode cX9_of 9 = .ok (.imul, 1) := by decide +kernel
theorem dX9_of_10 : decode cX9_of 10 = .ok (.iadd, 1) := by decide +kernel
theorem dX9_of_11 : decode cX9_of 11 = .ok (.iload_n 2, 1) := by decide +kernel
theorem dX9_of_12 : decode cX9_of 12 = .ok (.iadd, 1) := by decide +kernel
theorem dX9_of_13 : decode cX9_of 13 = .ok (.iaload, 1) := by decide +kernel
theorem dX9_of_14 : decode cX9_of 14 = .ok (.ireturn, 1) := by decide +kernel
theorem dX9_has_0 : decode cX9_has 0 = .ok (.aload_n 0, 1) := by decide +kernel
theorem dX9_has_1 : decode cX9_has 1 = .ok (.iload_n 1, 1) := by decide +kernel
theorem dX9_has_2 : decode cX9_has 2 = .ok (.iconst 3, 1) := by decide +kernel
theorem dX9_has_3 : decode cX9_has 3 = .ok (.iload_n 2, 1) := by decide +kernel
theorem dX9_has_4 : decode cX9_has 4 = .ok (.iadd, 1) := by decide +kernel
theorem dX9_has_5 : decode cX9_has 5 = .ok (.invokevirtual 65, 3) := by decide +kernel
theorem dX9_has_8 : decode cX9_has 8 = .ok (.ireturn, 1) := by decide +kernel
theorem dX9_top_0 : decode cX9_top 0 = .ok (.aload_n 0, 1) := by decide +kernel
theorem dX9_top_1 : decode cX9_top 1 = .ok (.getfield 9, 3) := by decide +kernel
theorem dX9_top_4 : decode cX9_top 4 = .ok (.bipush 7, 2) := by decide +kernel
theorem dX9_top_6 : decode cX9_top 6 = .ok (.iload_n 1, 1) := by decide +kernel
theorem dX9_top_7 : decode cX9_top 7 = .ok (.iadd, 1) := by decide +kernel
theorem dX9_top_8 : decode cX9_top 8 = .ok (.iaload, 1) := by decide +kernel
theorem dX9_top_9 : decode cX9_top 9 = .ok (.ireturn, 1) := by decide +kernel
theorem dX9_comes_0 : decode cX9_comes 0 = .ok (.aload_n 0, 1) := by decide +kernel
theorem dX9_comes_1 : decode cX9_comes 1 = .ok (.getfield 9, 3) := by decide +kernel
theorem dX9_comes_4 : decode cX9_comes 4 = .ok (.iconst 0, 1) := by decide +kernel
theorem dX9_comes_5 : decode cX9_comes 5 = .ok (.dup2, 1) := by decide +kernel
theorem dX9_comes_6 : decode cX9_comes 6 = .ok (.iaload, 1) := by decide +kernel
theorem dX9_comes_7 : decode cX9_comes 7 = .ok (.dup_x2, 1) := by decide +kernel
theorem dX9_comes_8 : decode cX9_comes 8 = .ok (.iconst 1, 1) := by decide +kernel
theorem dX9_comes_9 : decode cX9_comes 9 = .ok (.iadd, 1) := by decide +kernel
theorem dX9_comes_10 : decode cX9_comes 10 = .ok (.iastore, 1) := by decide +kernel
theorem dX9_comes_11 : decode cX9_comes 11 = .ok (.istore 4, 2) := by decide +kernel
theorem dX9_comes_13 : decode cX9_comes 13 = .ok (.aload_n 0, 1) := by decide +kernel
theorem dX9_comes_14 : decode cX9_comes 14 = .ok (.getfield 9, 3) := by decide +kernel
theorem dX9_comes_17 : decode cX9_comes 17 = .ok (.bipush 12, 2) := by decide +kernel
theorem dX9_comes_19 : decode cX9_comes 19 = .ok (.bipush 9, 2) := by decide +kernel
theorem dX9_comes_21 : decode cX9_comes 21 = .ok (.iload 4, 2) := by decide +kernel
theorem dX9_comes_23 : decode cX9_comes 23 = .ok (.imul, 1) := by decide +kernel
theorem dX9_comes_24 : decode cX9_comes 24 = .ok (.iadd, 1) := by decide +kernel
theorem dX9_comes_25 : decode cX9_comes 25 = .ok (.iload_n 2, 1) := by decide +kernel
theorem dX9_comes_26 : decode cX9_comes 26 = .ok (.iastore, 1) := by decide +kernel
theorem dX9_comes_27 : decode cX9_comes 27 = .ok (.aload_n 0, 1) := by decide +kernel
theorem dX9_comes_28 : decode cX9_comes 28 = .ok (.getfield 9, 3) := by decide +kernel
theorem dX9_comes_31 : decode cX9_comes 31 = .ok (.bipush 12, 2) := by decide +kernel
theorem dX9_comes_33 : decode cX9_comes 33 = .ok (.bipush 9, 2) := by decide +kernel
theorem dX9_comes_35 : decode cX9_comes 35 = .ok (.iload 4, 2) := by decide +kernel
theorem dX9_comes_37 : decode cX9_comes 37 = .ok (.imul, 1) := by decide +kernel
theorem dX9_comes_38 : decode cX9_comes 38 = .ok (.iadd, 1) := by decide +kernel
theorem dX9_comes_39 : decode cX9_comes 39 = .ok (.iconst 1, 1) := by decide +kernel
theorem dX9_comes_40 : decode cX9_comes 40 = .ok (.iadd, 1) := by decide +kernel
theorem dX9_comes_41 : decode cX9_comes 41 = .ok (.aload_n 0, 1) := by decide +kernel
theorem dX9_comes_42 : decode cX9_comes 42 = .ok (.iload_n 1, 1) := by decide +kernel
theorem dX9_comes_43 : decode cX9_comes 43 = .ok (.invokevirtual 69, 3) := by decide +kernel
theorem dX9_comes_46 : decode cX9_comes 46 = .ok (.iastore, 1) := by decide +kernel
theorem dX9_comes_47 : decode cX9_comes 47 = .ok (.aload_n 0, 1) := by decide +kernel
theorem dX9_comes_48 : decode cX9_comes 48 = .ok (.getfield 9, 3) := by decide +kernel
theorem dX9_comes_51 : decode cX9_comes 51 = .ok (.bipush 12, 2) := by decide +kernel
theorem dX9_comes_53 : decode cX9_comes 53 = .ok (.bipush 9, 2) := by decide +kernel
theorem dX9_comes_55 : decode cX9_comes 55 = .ok (.iload 4, 2) := by decide +kernel
theorem dX9_comes_57 : decode cX9_comes 57 = .ok (.imul, 1) := by decide +kernel
theorem dX9_comes_58 : decode cX9_comes 58 = .ok (.iadd, 1) := by decide +kernel
theorem dX9_comes_59 : decode cX9_comes 59 = .ok (.iconst 2, 1) := by decide +kernel
theorem dX9_comes_60 : decode cX9_comes 60 = .ok (.iadd, 1) := by decide +kernel
theorem dX9_comes_61 : decode cX9_comes 61 = .ok (.iload_n 3, 1) := by decide +kernel
theorem dX9_comes_62 : decode cX9_comes 62 = .ok (.iastore, 1) := by decide +kernel
theorem dX9_comes_63 : decode cX9_comes 63 = .ok (.iconst 0, 1) := by decide +kernel
theorem dX9_comes_64 : decode cX9_comes 64 = .ok (.istore 5, 2) := by decide +kernel
theorem dX9_comes_66 : decode cX9_comes 66 = .ok (.iload 5, 2) := by decide +kernel
theorem dX9_comes_68 : decode cX9_comes 68 = .ok (.bipush 6, 2) := by decide +kernel
theorem dX9_comes_70 : decode cX9_comes 70 = .ok (.if_icmp .ge 38, 3) := by decide +kernel
theorem dX9_comes_73 : decode cX9_comes 73 = .ok (.aload_n 0, 1) := by decide +kernel
theorem dX9_comes_74 : decode cX9_comes 74 = .ok (.getfield 9, 3) := by decide +kernel
theorem dX9_comes_77 : decode cX9_comes 77 = .ok (.bipush 12, 2) := by decide +kernel
theorem dX9_comes_79 : decode cX9_comes 79 = .ok (.bipush 9, 2) := by decide +kernel
theorem dX9_comes_81 : decode cX9_comes 81 = .ok (.iload 4, 2) := by decide +kernel
theorem dX9_comes_83 : decode cX9_comes 83 = .ok (.imul, 1) := by decide +kernel
theorem dX9_comes_84 : decode cX9_comes 84 = .ok (.iadd, 1) := by decide +kernel
theorem dX9_comes_85 : decode cX9_comes 85 = .ok (.iconst 3, 1) := by decide +kernel
theorem dX9_comes_86 : decode cX9_comes 86 = .ok (.iadd, 1) := by decide +kernel
theorem dX9_comes_87 : decode cX9_comes 87 = .ok (.iload 5, 2) := by decide +kernel
theorem dX9_comes_89 : decode cX9_comes 89 = .ok (.iadd, 1) := by decide +kernel
theorem dX9_comes_90 : decode cX9_comes 90 = .ok (.aload_n 0, 1) := by decide +kernel
theorem dX9_comes_91 : decode cX9_comes 91 = .ok (.aload_n 0, 1) := by decide +kernel
theorem dX9_comes_92 : decode cX9_comes 92 = .ok (.iload_n 1, 1) := by decide +kernel
theorem dX9_comes_93 : decode cX9_comes 93 = .ok (.invokevirtual 69, 3) := by decide +kernel
theorem dX9_comes_96 : decode cX9_comes 96 = .ok (.iload 5, 2) := by decide +kernel
theorem dX9_comes_98 : decode cX9_comes 98 = .ok (.invokevirtual 72, 3) := by decide +kernel
theorem dX9_comes_101 : decode cX9_comes 101 = .ok (.iastore, 1) := by decide +kernel
theorem dX9_comes_102 : decode cX9_comes 102 = .ok (.iinc 5 1, 3) := by decide +kernel
theorem dX9_comes_105 : decode cX9_comes 105 = .ok (.goto (-39), 3) := by decide +kernel
theorem dX9_comes_108 : decode cX9_comes 108 = .ok (.aload_n 0, 1) := by decide +kernel
theorem dX9_comes_109 : decode cX9_comes 109 = .ok (.getfield 9, 3) := by decide +kernel
theorem dX9_comes_112 : decode cX9_comes 112 = .ok (.bipush 7, 2) := by decide +kernel
theorem dX9_comes_114 : decode cX9_comes 114 = .ok (.iload_n 1, 1) := by decide +kernel
theorem dX9_comes_115 : decode cX9_comes 115 = .ok (.iadd, 1) := by decide +kernel
theorem dX9_comes_116 : decode cX9_comes 116 = .ok (.iload 4, 2) := by decide +kernel
theorem dX9_comes_118 : decode cX9_comes 118 = .ok (.iastore, 1) := by decide +kernel
theorem dX9_comes_119 : decode cX9_comes 119 = .ok (.iload 4, 2) := by decide +kernel
theorem dX9_comes_121 : decode cX9_comes 121 = .ok (.ireturn, 1) := by decide +kernel
theorem dX9_family_0 : decode cX9_family 0 = .ok (.iconst 1, 1) := by decide +kernel
theorem dX9_family_1 : decode cX9_family 1 = .ok (.iload_n 1, 1) := by decide +kernel
theorem dX9_family_2 : decode cX9_family 2 = .ok (.ishl, 1) := by decide +kernel
theorem dX9_family_3 : decode cX9_family 3 = .ok (.istore_n 2, 1) := by decide +kernel
theorem dX9_family_4 : decode cX9_family 4 = .ok (.iload_n 1, 1) := by decide +kernel
theorem dX9_family_5 : decode cX9_family 5 = .ok (.istore_n 3, 1) := by decide +kernel
theorem dX9_family_6 : decode cX9_family 6 = .ok (.iload_n 3, 1) := by decide +kernel
theorem dX9_family_7 : decode cX9_family 7 = .ok (.ifCond .le 51, 3) := by decide +kernel
theorem dX9_family_10 : decode cX9_family 10 = .ok (.iload_n 2, 1) := by decide +kernel
theorem dX9_family_11 : decode cX9_family 11 = .ok (.iload_n 3, 1) := by decide +kernel
theorem dX9_family_12 : decode cX9_family 12 = .ok (.ishr, 1) := by decide +kernel
theorem dX9_family_13 : decode cX9_family 13 = .ok (.iconst 1, 1) := by decide +kernel
theorem dX9_family_14 : decode cX9_family 14 = .ok (.iand, 1) := by decide +kernel
theorem dX9_family_15 : decode cX9_family 15 = .ok (.ifCond .ne 6, 3) := by decide +kernel
theorem dX9_family_18 : decode cX9_family 18 = .ok (.goto 34, 3) := by decide +kernel
theorem dX9_family_21 : decode cX9_family 21 = .ok (.iload_n 2, 1) := by decide +kernel
theorem dX9_family_22 : decode cX9_family 22 = .ok (.iconst 1, 1) := by decide +kernel
theorem dX9_family_23 : decode cX9_family 23 = .ok (.aload_n 0, 1) := by decide +kernel
theorem dX9_family_24 : decode cX9_family 24 = .ok (.iload_n 3, 1) := by decide +kernel
theorem dX9_family_25 : decode cX9_family 25 = .ok (.iconst 1, 1) := by decide +kernel
theorem dX9_family_26 : decode cX9_family 26 = .ok (.invokevirtual 65, 3) := by decide +kernel
theorem dX9_family_29 : decode cX9_family 29 = .ok (.ishl, 1) := by decide +kernel
theorem dX9_family_30 : decode cX9_family 30 = .ok (.ior, 1) := by decide +kernel
theorem dX9_family_31 : decode cX9_family 31 = .ok (.istore_n 2, 1) := by decide +kernel
theorem dX9_family_32 : decode cX9_family 32 = .ok (.aload_n 0, 1) := by decide +kernel
theorem dX9_family_33 : decode cX9_family 33 = .ok (.iload_n 3, 1) := by decide +kernel
theorem dX9_family_34 : decode cX9_family 34 = .ok (.iconst 2, 1) := by decide +kernel
theorem dX9_family_35 : decode cX9_family 35 = .ok (.invokevirtual 65, 3) := by decide +kernel
theorem dX9_family_38 : decode cX9_family 38 = .ok (.ifCond .lt 14, 3) := by decide +kernel
theorem dX9_family_41 : decode cX9_family 41 = .ok (.iload_n 2, 1) := by decide +kernel
theorem dX9_family_42 : decode cX9_family 42 = .ok (.iconst 1, 1) := by decide +kernel
theorem dX9_family_43 : decode cX9_family 43 = .ok (.aload_n 0, 1) := by decide +kernel
theorem dX9_family_44 : decode cX9_family 44 = .ok (.iload_n 3, 1) := by decide +kernel
theorem dX9_family_45 : decode cX9_family 45 = .ok (.iconst 2, 1) := by decide +kernel
theorem dX9_family_46 : decode cX9_family 46 = .ok (.invokevirtual 65, 3) := by decide +kernel
theorem dX9_family_49 : decode cX9_family 49 = .ok (.ishl, 1) := by decide +kernel
theorem dX9_family_50 : decode cX9_family 50 = .ok (.ior, 1) := by decide +kernel
theorem dX9_family_51 : decode cX9_family 51 = .ok (.istore_n 2, 1) := by decide +kernel
theorem dX9_family_52 : decode cX9_family 52 = .ok (.iinc 3 (-1), 3) := by decide +kernel
theorem dX9_family_55 : decode cX9_family 55 = .ok (.goto (-49), 3) := by decide +kernel
theorem dX9_family_58 : decode cX9_family 58 = .ok (.iload_n 2, 1) := by decide +kernel
theorem dX9_family_59 : decode cX9_family 59 = .ok (.ireturn, 1) := by decide +kernel
theorem dX9_isWithin_0 : decode cX9_isWithin 0 = .ok (.aload_n 0, 1) := by decide +kernel
theorem dX9_isWithin_1 : decode cX9_isWithin 1 = .ok (.iload_n 2, 1) := by decide +kernel
theorem dX9_isWithin_2 : decode cX9_isWithin 2 = .ok (.invokevirtual 75, 3) := by decide +kernel
theorem dX9_isWithin_5 : decode cX9_isWithin 5 = .ok (.iload_n 1, 1) := by decide +kernel
theorem dX9_isWithin_6 : decode cX9_isWithin 6 = .ok (.ishr, 1) := by decide +kernel
theorem dX9_isWithin_7 : decode cX9_isWithin 7 = .ok (.iconst 1, 1) := by decide +kernel
theorem dX9_isWithin_8 : decode cX9_isWithin 8 = .ok (.iand, 1) := by decide +kernel
theorem dX9_isWithin_9 : decode cX9_isWithin 9 = .ok (.iconst 1, 1) := by decide +kernel
theorem dX9_isWithin_10 : decode cX9_isWithin 10 = .ok (.if_icmp .ne 7, 3) := by decide +kernel
theorem dX9_isWithin_13 : decode cX9_isWithin 13 = .ok (.iconst 1, 1) := by decide +kernel
theorem dX9_isWithin_14 : decode cX9_isWithin 14 = .ok (.goto 4, 3) := by decide +kernel
theorem dX9_isWithin_17 : decode cX9_isWithin 17 = .ok (.iconst 0, 1) := by decide +kernel
theorem dX9_isWithin_18 : decode cX9_isWithin 18 = .ok (.ireturn, 1) := by decide +kernel
theorem dX9_common_0 : decode cX9_common 0 = .ok (.aload_n 0, 1) := by decide +kernel
theorem dX9_common_1 : decode cX9_common 1 = .ok (.iload_n 1, 1) := by decide +kernel
theorem dX9_common_2 : decode cX9_common 2 = .ok (.invokevirtual 75, 3) := by decide +kernel
theorem dX9_common_5 : decode cX9_common 5 = .ok (.aload_n 0, 1) := by decide +kernel
theorem dX9_common_6 : decode cX9_common 6 = .ok (.iload_n 2, 1) := by decide +kernel
theorem dX9_common_7 : decode cX9_common 7 = .ok (.invokevirtual 75, 3) := by decide +kernel
theorem dX9_common_10 : decode cX9_common 10 = .ok (.iand, 1) := by decide +kernel
theorem dX9_common_11 : decode cX9_common 11 = .ok (.istore_n 3, 1) := by decide +kernel
theorem dX9_common_12 : decode cX9_common 12 = .ok (.bipush 23, 2) := by decide +kernel
theorem dX9_common_14 : decode cX9_common 14 = .ok (.istore 4, 2) := by decide +kernel
theorem dX9_common_16 : decode cX9_common 16 = .ok (.iload_n 3, 1) := by decide +kernel
theorem dX9_common_17 : decode cX9_common 17 = .ok (.iload 4, 2) := by decide +kernel
theorem dX9_common_19 : decode cX9_common 19 = .ok (.ishr, 1) := by decide +kernel
theorem dX9_common_20 : decode cX9_common 20 = .ok (.iconst 1, 1) := by decide +kernel
theorem dX9_common_21 : decode cX9_common 21 = .ok (.iand, 1) := by decide +kernel
theorem dX9_common_22 : decode cX9_common 22 = .ok (.ifCond .ne 9, 3) := by decide +kernel
theorem dX9_common_25 : decode cX9_common 25 = .ok (.iinc 4 (-1), 3) := by decide +kernel
theorem dX9_common_28 : decode cX9_common 28 = .ok (.goto (-12), 3) := by decide +kernel
theorem dX9_common_31 : decode cX9_common 31 = .ok (.iload 4, 2) := by decide +kernel
theorem dX9_common_33 : decode cX9_common 33 = .ok (.ireturn, 1) := by decide +kernel
theorem dX9_edits_0 : decode cX9_edits 0 = .ok (.aload_n 0, 1) := by decide +kernel
theorem dX9_edits_1 : decode cX9_edits 1 = .ok (.iload_n 1, 1) := by decide +kernel
theorem dX9_edits_2 : decode cX9_edits 2 = .ok (.invokevirtual 78, 3) := by decide +kernel
theorem dX9_edits_5 : decode cX9_edits 5 = .ok (.ifCond .eq 10, 3) := by decide +kernel
theorem dX9_edits_8 : decode cX9_edits 8 = .ok (.iload_n 2, 1) := by decide +kernel
theorem dX9_edits_9 : decode cX9_edits 9 = .ok (.invokestatic 82, 3) := by decide +kernel
theorem dX9_edits_12 : decode cX9_edits 12 = .ok (.ifCond .ne 5, 3) := by decide +kernel
theorem dX9_edits_15 : decode cX9_edits 15 = .ok (.iconst 1, 1) := by decide +kernel
theorem dX9_edits_16 : decode cX9_edits 16 = .ok (.ireturn, 1) := by decide +kernel
theorem dX9_edits_17 : decode cX9_edits 17 = .ok (.iload_n 3, 1) := by decide +kernel
theorem dX9_edits_18 : decode cX9_edits 18 = .ok (.iconst 0, 1) := by decide +kernel
theorem dX9_edits_19 : decode cX9_edits 19 = .ok (.bipush 99, 2) := by decide +kernel
theorem dX9_edits_21 : decode cX9_edits 21 = .ok (.invokestatic 61, 3) := by decide +kernel
theorem dX9_edits_24 : decode cX9_edits 24 = .ok (.ifCond .ne 5, 3) := by decide +kernel
theorem dX9_edits_27 : decode cX9_edits 27 = .ok (.iconst 2, 1) := by decide +kernel
theorem dX9_edits_28 : decode cX9_edits 28 = .ok (.ireturn, 1) := by decide +kernel
theorem dX9_edits_29 : decode cX9_edits 29 = .ok (.aload_n 0, 1) := by decide +kernel
theorem dX9_edits_30 : decode cX9_edits 30 = .ok (.aload_n 0, 1) := by decide +kernel
theorem dX9_edits_31 : decode cX9_edits 31 = .ok (.iload_n 1, 1) := by decide +kernel
theorem dX9_edits_32 : decode cX9_edits 32 = .ok (.invokevirtual 69, 3) := by decide +kernel
theorem dX9_edits_35 : decode cX9_edits 35 = .ok (.iload_n 2, 1) := by decide +kernel
theorem dX9_edits_36 : decode cX9_edits 36 = .ok (.invokevirtual 72, 3) := by decide +kernel
theorem dX9_edits_39 : decode cX9_edits 39 = .ok (.iload_n 3, 1) := by decide +kernel
theorem dX9_edits_40 : decode cX9_edits 40 = .ok (.if_icmp .ne 10, 3) := by decide +kernel
theorem dX9_edits_43 : decode cX9_edits 43 = .ok (.aload_n 0, 1) := by decide +kernel
theorem dX9_edits_44 : decode cX9_edits 44 = .ok (.iconst 2, 1) := by decide +kernel
theorem dX9_edits_45 : decode cX9_edits 45 = .ok (.iload_n 3, 1) := by decide +kernel
theorem dX9_edits_46 : decode cX9_edits 46 = .ok (.invokevirtual 85, 3) := by decide +kernel
theorem dX9_edits_49 : decode cX9_edits 49 = .ok (.ireturn, 1) := by decide +kernel
theorem dX9_edits_50 : decode cX9_edits 50 = .ok (.aload_n 0, 1) := by decide +kernel
theorem dX9_edits_51 : decode cX9_edits 51 = .ok (.getfield 9, 3) := by decide +kernel
theorem dX9_edits_54 : decode cX9_edits 54 = .ok (.iconst 0, 1) := by decide +kernel
theorem dX9_edits_55 : decode cX9_edits 55 = .ok (.iaload, 1) := by decide +kernel
theorem dX9_edits_56 : decode cX9_edits 56 = .ok (.bipush 24, 2) := by decide +kernel
theorem dX9_edits_58 : decode cX9_edits 58 = .ok (.if_icmp .ne 11, 3) := by decide +kernel
theorem dX9_edits_61 : decode cX9_edits 61 = .ok (.aload_n 0, 1) := by decide +kernel
theorem dX9_edits_62 : decode cX9_edits 62 = .ok (.iconst 1, 1) := by decide +kernel
theorem dX9_edits_63 : decode cX9_edits 63 = .ok (.bipush 24, 2) := by decide +kernel
theorem dX9_edits_65 : decode cX9_edits 65 = .ok (.invokevirtual 85, 3) := by decide +kernel
theorem dX9_edits_68 : decode cX9_edits 68 = .ok (.ireturn, 1) := by decide +kernel
theorem dX9_edits_69 : decode cX9_edits 69 = .ok (.aload_n 0, 1) := by decide +kernel
theorem dX9_edits_70 : decode cX9_edits 70 = .ok (.iload_n 1, 1) := by decide +kernel
theorem dX9_edits_71 : decode cX9_edits 71 = .ok (.iconst 0, 1) := by decide +kernel
theorem dX9_edits_72 : decode cX9_edits 72 = .ok (.iconst (-1), 1) := by decide +kernel
theorem dX9_edits_73 : decode cX9_edits 73 = .ok (.invokevirtual 88, 3) := by decide +kernel
theorem dX9_edits_76 : decode cX9_edits 76 = .ok (.istore 4, 2) := by decide +kernel
theorem dX9_edits_78 : decode cX9_edits 78 = .ok (.aload_n 0, 1) := by decide +kernel
theorem dX9_edits_79 : decode cX9_edits 79 = .ok (.getfield 9, 3) := by decide +kernel
theorem dX9_edits_82 : decode cX9_edits 82 = .ok (.bipush 12, 2) := by decide +kernel
theorem dX9_edits_84 : decode cX9_edits 84 = .ok (.bipush 9, 2) := by decide +kernel
theorem dX9_edits_86 : decode cX9_edits 86 = .ok (.iload 4, 2) := by decide +kernel
theorem dX9_edits_88 : decode cX9_edits 88 = .ok (.imul, 1) := by decide +kernel
theorem dX9_edits_89 : decode cX9_edits 89 = .ok (.iadd, 1) := by decide +kernel
theorem dX9_edits_90 : decode cX9_edits 90 = .ok (.iconst 3, 1) := by decide +kernel
theorem dX9_edits_91 : decode cX9_edits 91 = .ok (.iadd, 1) := by decide +kernel
theorem dX9_edits_92 : decode cX9_edits 92 = .ok (.iload_n 2, 1) := by decide +kernel
theorem dX9_edits_93 : decode cX9_edits 93 = .ok (.iadd, 1) := by decide +kernel
theorem dX9_edits_94 : decode cX9_edits 94 = .ok (.iload_n 3, 1) := by decide +kernel
theorem dX9_edits_95 : decode cX9_edits 95 = .ok (.iastore, 1) := by decide +kernel
theorem dX9_edits_96 : decode cX9_edits 96 = .ok (.aload_n 0, 1) := by decide +kernel
theorem dX9_edits_97 : decode cX9_edits 97 = .ok (.iload 4, 2) := by decide +kernel
theorem dX9_edits_99 : decode cX9_edits 99 = .ok (.invokevirtual 92, 3) := by decide +kernel
theorem dX9_edits_102 : decode cX9_edits 102 = .ok (.ireturn, 1) := by decide +kernel
theorem dX9_edit_0 : decode cX9_edit 0 = .ok (.aload_n 0, 1) := by decide +kernel
theorem dX9_edit_1 : decode cX9_edit 1 = .ok (.invokevirtual 95, 3) := by decide +kernel
theorem dX9_edit_4 : decode cX9_edit 4 = .ok (.aload_n 0, 1) := by decide +kernel
theorem dX9_edit_5 : decode cX9_edit 5 = .ok (.aload_n 0, 1) := by decide +kernel
theorem dX9_edit_6 : decode cX9_edit 6 = .ok (.iload_n 1, 1) := by decide +kernel
theorem dX9_edit_7 : decode cX9_edit 7 = .ok (.iload_n 2, 1) := by decide +kernel
theorem dX9_edit_8 : decode cX9_edit 8 = .ok (.iload_n 3, 1) := by decide +kernel
theorem dX9_edit_9 : decode cX9_edit 9 = .ok (.invokevirtual 98, 3) := by decide +kernel
theorem dX9_edit_12 : decode cX9_edit 12 = .ok (.invokevirtual 101, 3) := by decide +kernel
theorem dX9_edit_15 : decode cX9_edit 15 = .ok (.ireturn, 1) := by decide +kernel
theorem dX9_endsAt_0 : decode cX9_endsAt 0 = .ok (.iload_n 1, 1) := by decide +kernel
theorem dX9_endsAt_1 : decode cX9_endsAt 1 = .ok (.iconst 3, 1) := by decide +kernel
theorem dX9_endsAt_2 : decode cX9_endsAt 2 = .ok (.if_icmp .ne 11, 3) := by decide +kernel
theorem dX9_endsAt_5 : decode cX9_endsAt 5 = .ok (.aload_n 0, 1) := by decide +kernel
theorem dX9_endsAt_6 : decode cX9_endsAt 6 = .ok (.iconst 2, 1) := by decide +kernel
theorem dX9_endsAt_7 : decode cX9_endsAt 7 = .ok (.invokevirtual 58, 3) := by decide +kernel
theorem dX9_endsAt_10 : decode cX9_endsAt 10 = .ok (.goto 8, 3) := by decide +kernel
theorem dX9_endsAt_13 : decode cX9_endsAt 13 = .ok (.aload_n 0, 1) := by decide +kernel
theorem dX9_endsAt_14 : decode cX9_endsAt 14 = .ok (.iload_n 1, 1) := by decide +kernel
theorem dX9_endsAt_15 : decode cX9_endsAt 15 = .ok (.invokevirtual 101, 3) := by decide +kernel
theorem dX9_endsAt_18 : decode cX9_endsAt 18 = .ok (.ireturn, 1) := by decide +kernel
theorem dX9_forks_0 : decode cX9_forks 0 = .ok (.aload_n 0, 1) := by decide +kernel
theorem dX9_forks_1 : decode cX9_forks 1 = .ok (.iload_n 1, 1) := by decide +kernel
theorem dX9_forks_2 : decode cX9_forks 2 = .ok (.invokevirtual 78, 3) := by decide +kernel
theorem dX9_forks_5 : decode cX9_forks 5 = .ok (.ifCond .ne 5, 3) := by decide +kernel
theorem dX9_forks_8 : decode cX9_forks 8 = .ok (.iconst 1, 1) := by decide +kernel
theorem dX9_forks_9 : decode cX9_forks 9 = .ok (.ireturn, 1) := by decide +kernel
theorem dX9_forks_10 : decode cX9_forks 10 = .ok (.aload_n 0, 1) := by decide +kernel
theorem dX9_forks_11 : decode cX9_forks 11 = .ok (.getfield 9, 3) := by decide +kernel
theorem dX9_forks_14 : decode cX9_forks 14 = .ok (.iconst 1, 1) := by decide +kernel
theorem dX9_forks_15 : decode cX9_forks 15 = .ok (.iaload, 1) := by decide +kernel
theorem dX9_forks_16 : decode cX9_forks 16 = .ok (.istore_n 2, 1) := by decide +kernel
theorem dX9_forks_17 : decode cX9_forks 17 = .ok (.iload_n 2, 1) := by decide +kernel
theorem dX9_forks_18 : decode cX9_forks 18 = .ok (.iconst 5, 1) := by decide +kernel
theorem dX9_forks_19 : decode cX9_forks 19 = .ok (.if_icmp .ne 10, 3) := by decide +kernel
theorem dX9_forks_22 : decode cX9_forks 22 = .ok (.aload_n 0, 1) := by decide +kernel
theorem dX9_forks_23 : decode cX9_forks 23 = .ok (.iconst 1, 1) := by decide +kernel
theorem dX9_forks_24 : decode cX9_forks 24 = .ok (.iconst 5, 1) := by decide +kernel
theorem dX9_forks_25 : decode cX9_forks 25 = .ok (.invokevirtual 85, 3) := by decide +kernel
theorem dX9_forks_28 : decode cX9_forks 28 = .ok (.ireturn, 1) := by decide +kernel
theorem dX9_forks_29 : decode cX9_forks 29 = .ok (.aload_n 0, 1) := by decide +kernel
theorem dX9_forks_30 : decode cX9_forks 30 = .ok (.getfield 9, 3) := by decide +kernel
theorem dX9_forks_33 : decode cX9_forks 33 = .ok (.iconst 1, 1) := by decide +kernel
theorem dX9_forks_34 : decode cX9_forks 34 = .ok (.dup2, 1) := by decide +kernel
theorem dX9_forks_35 : decode cX9_forks 35 = .ok (.iaload, 1) := by decide +kernel
theorem dX9_forks_36 : decode cX9_forks 36 = .ok (.iconst 1, 1) := by decide +kernel
theorem dX9_forks_37 : decode cX9_forks 37 = .ok (.iadd, 1) := by decide +kernel
theorem dX9_forks_38 : decode cX9_forks 38 = .ok (.iastore, 1) := by decide +kernel
theorem dX9_forks_39 : decode cX9_forks 39 = .ok (.aload_n 0, 1) := by decide +kernel
theorem dX9_forks_40 : decode cX9_forks 40 = .ok (.getfield 9, 3) := by decide +kernel
theorem dX9_forks_43 : decode cX9_forks 43 = .ok (.bipush 7, 2) := by decide +kernel
theorem dX9_forks_45 : decode cX9_forks 45 = .ok (.iload_n 2, 1) := by decide +kernel
theorem dX9_forks_46 : decode cX9_forks 46 = .ok (.iadd, 1) := by decide +kernel
theorem dX9_forks_47 : decode cX9_forks 47 = .ok (.aload_n 0, 1) := by decide +kernel
theorem dX9_forks_48 : decode cX9_forks 48 = .ok (.iload_n 1, 1) := by decide +kernel
theorem dX9_forks_49 : decode cX9_forks 49 = .ok (.invokevirtual 69, 3) := by decide +kernel
theorem dX9_forks_52 : decode cX9_forks 52 = .ok (.iastore, 1) := by decide +kernel
theorem dX9_forks_53 : decode cX9_forks 53 = .ok (.aload_n 0, 1) := by decide +kernel
theorem dX9_forks_54 : decode cX9_forks 54 = .ok (.iload_n 2, 1) := by decide +kernel
theorem dX9_forks_55 : decode cX9_forks 55 = .ok (.invokevirtual 92, 3) := by decide +kernel
theorem dX9_forks_58 : decode cX9_forks 58 = .ok (.ireturn, 1) := by decide +kernel
theorem dX9_fork_0 : decode cX9_fork 0 = .ok (.aload_n 0, 1) := by decide +kernel
theorem dX9_fork_1 : decode cX9_fork 1 = .ok (.invokevirtual 95, 3) := by decide +kernel
theorem dX9_fork_4 : decode cX9_fork 4 = .ok (.aload_n 0, 1) := by decide +kernel
theorem dX9_fork_5 : decode cX9_fork 5 = .ok (.aload_n 0, 1) := by decide +kernel
theorem dX9_fork_6 : decode cX9_fork 6 = .ok (.iload_n 1, 1) := by decide +kernel
theorem dX9_fork_7 : decode cX9_fork 7 = .ok (.invokevirtual 104, 3) := by decide +kernel
theorem dX9_fork_10 : decode cX9_fork 10 = .ok (.invokevirtual 107, 3) := by decide +kernel
theorem dX9_fork_13 : decode cX9_fork 13 = .ok (.ireturn, 1) := by decide +kernel
theorem dX9_resets_0 : decode cX9_resets 0 = .ok (.aload_n 0, 1) := by decide +kernel
theorem dX9_resets_1 : decode cX9_resets 1 = .ok (.iload_n 1, 1) := by decide +kernel
theorem dX9_resets_2 : decode cX9_resets 2 = .ok (.invokevirtual 78, 3) := by decide +kernel
theorem dX9_resets_5 : decode cX9_resets 5 = .ok (.ifCond .eq 11, 3) := by decide +kernel
theorem dX9_resets_8 : decode cX9_resets 8 = .ok (.aload_n 0, 1) := by decide +kernel
theorem dX9_resets_9 : decode cX9_resets 9 = .ok (.iload_n 2, 1) := by decide +kernel
theorem dX9_resets_10 : decode cX9_resets 10 = .ok (.invokevirtual 110, 3) := by decide +kernel
theorem dX9_resets_13 : decode cX9_resets 13 = .ok (.ifCond .ne 5, 3) := by decide +kernel
theorem dX9_resets_16 : decode cX9_resets 16 = .ok (.iconst 1, 1) := by decide +kernel
theorem dX9_resets_17 : decode cX9_resets 17 = .ok (.ireturn, 1) := by decide +kernel
theorem dX9_resets_18 : decode cX9_resets 18 = .ok (.aload_n 0, 1) := by decide +kernel
theorem dX9_resets_19 : decode cX9_resets 19 = .ok (.iload_n 1, 1) := by decide +kernel
theorem dX9_resets_20 : decode cX9_resets 20 = .ok (.invokevirtual 69, 3) := by decide +kernel
theorem dX9_resets_23 : decode cX9_resets 23 = .ok (.iload_n 2, 1) := by decide +kernel
theorem dX9_resets_24 : decode cX9_resets 24 = .ok (.if_icmp .ne 10, 3) := by decide +kernel
theorem dX9_resets_27 : decode cX9_resets 27 = .ok (.aload_n 0, 1) := by decide +kernel
theorem dX9_resets_28 : decode cX9_resets 28 = .ok (.iconst 3, 1) := by decide +kernel
theorem dX9_resets_29 : decode cX9_resets 29 = .ok (.iload_n 2, 1) := by decide +kernel
theorem dX9_resets_30 : decode cX9_resets 30 = .ok (.invokevirtual 85, 3) := by decide +kernel
theorem dX9_resets_33 : decode cX9_resets 33 = .ok (.ireturn, 1) := by decide +kernel
theorem dX9_resets_34 : decode cX9_resets 34 = .ok (.aload_n 0, 1) := by decide +kernel
theorem dX9_resets_35 : decode cX9_resets 35 = .ok (.iload_n 1, 1) := by decide +kernel
theorem dX9_resets_36 : decode cX9_resets 36 = .ok (.invokevirtual 69, 3) := by decide +kernel
theorem dX9_resets_39 : decode cX9_resets 39 = .ok (.istore_n 3, 1) := by decide +kernel
theorem dX9_resets_40 : decode cX9_resets 40 = .ok (.aload_n 0, 1) := by decide +kernel
theorem dX9_resets_41 : decode cX9_resets 41 = .ok (.getfield 9, 3) := by decide +kernel
theorem dX9_resets_44 : decode cX9_resets 44 = .ok (.bipush 7, 2) := by decide +kernel
theorem dX9_resets_46 : decode cX9_resets 46 = .ok (.iload_n 1, 1) := by decide +kernel
theorem dX9_resets_47 : decode cX9_resets 47 = .ok (.iadd, 1) := by decide +kernel
theorem dX9_resets_48 : decode cX9_resets 48 = .ok (.iload_n 2, 1) := by decide +kernel
theorem dX9_resets_49 : decode cX9_resets 49 = .ok (.iastore, 1) := by decide +kernel
theorem dX9_resets_50 : decode cX9_resets 50 = .ok (.aload_n 0, 1) := by decide +kernel
theorem dX9_resets_51 : decode cX9_resets 51 = .ok (.iload_n 3, 1) := by decide +kernel
theorem dX9_resets_52 : decode cX9_resets 52 = .ok (.invokevirtual 92, 3) := by decide +kernel
theorem dX9_resets_55 : decode cX9_resets 55 = .ok (.ireturn, 1) := by decide +kernel
theorem dX9_reset_0 : decode cX9_reset 0 = .ok (.aload_n 0, 1) := by decide +kernel
theorem dX9_reset_1 : decode cX9_reset 1 = .ok (.invokevirtual 95, 3) := by decide +kernel
theorem dX9_reset_4 : decode cX9_reset 4 = .ok (.aload_n 0, 1) := by decide +kernel
theorem dX9_reset_5 : decode cX9_reset 5 = .ok (.aload_n 0, 1) := by decide +kernel
theorem dX9_reset_6 : decode cX9_reset 6 = .ok (.iload_n 1, 1) := by decide +kernel
theorem dX9_reset_7 : decode cX9_reset 7 = .ok (.iload_n 2, 1) := by decide +kernel
theorem dX9_reset_8 : decode cX9_reset 8 = .ok (.invokevirtual 113, 3) := by decide +kernel
theorem dX9_reset_11 : decode cX9_reset 11 = .ok (.invokevirtual 107, 3) := by decide +kernel
theorem dX9_reset_14 : decode cX9_reset 14 = .ok (.ireturn, 1) := by decide +kernel
theorem dX9_tip_0 : decode cX9_tip 0 = .ok (.aload_n 0, 1) := by decide +kernel
theorem dX9_tip_1 : decode cX9_tip 1 = .ok (.iconst 0, 1) := by decide +kernel
theorem dX9_tip_2 : decode cX9_tip 2 = .ok (.putfield 39, 3) := by decide +kernel
theorem dX9_tip_5 : decode cX9_tip 5 = .ok (.aload_n 0, 1) := by decide +kernel
theorem dX9_tip_6 : decode cX9_tip 6 = .ok (.iload_n 1, 1) := by decide +kernel
theorem dX9_tip_7 : decode cX9_tip 7 = .ok (.invokevirtual 78, 3) := by decide +kernel
theorem dX9_tip_10 : decode cX9_tip 10 = .ok (.ifCond .eq 11, 3) := by decide +kernel
theorem dX9_tip_13 : decode cX9_tip 13 = .ok (.aload_n 0, 1) := by decide +kernel
theorem dX9_tip_14 : decode cX9_tip 14 = .ok (.iload_n 1, 1) := by decide +kernel
theorem dX9_tip_15 : decode cX9_tip 15 = .ok (.invokevirtual 69, 3) := by decide +kernel
theorem dX9_tip_18 : decode cX9_tip 18 = .ok (.goto 8, 3) := by decide +kernel
theorem dX9_tip_21 : decode cX9_tip 21 = .ok (.aload_n 0, 1) := by decide +kernel
theorem dX9_tip_22 : decode cX9_tip 22 = .ok (.iconst 1, 1) := by decide +kernel
theorem dX9_tip_23 : decode cX9_tip 23 = .ok (.invokevirtual 58, 3) := by decide +kernel
theorem dX9_tip_26 : decode cX9_tip 26 = .ok (.ireturn, 1) := by decide +kernel
theorem dX9_amount_0 : decode cX9_amount 0 = .ok (.aload_n 0, 1) := by decide +kernel
theorem dX9_amount_1 : decode cX9_amount 1 = .ok (.iconst 0, 1) := by decide +kernel
theorem dX9_amount_2 : decode cX9_amount 2 = .ok (.putfield 39, 3) := by decide +kernel
theorem dX9_amount_5 : decode cX9_amount 5 = .ok (.aload_n 0, 1) := by decide +kernel
theorem dX9_amount_6 : decode cX9_amount 6 = .ok (.iload_n 1, 1) := by decide +kernel
theorem dX9_amount_7 : decode cX9_amount 7 = .ok (.invokevirtual 110, 3) := by decide +kernel
theorem dX9_amount_10 : decode cX9_amount 10 = .ok (.ifCond .eq 19, 3) := by decide +kernel
theorem dX9_amount_13 : decode cX9_amount 13 = .ok (.iload_n 2, 1) := by decide +kernel
theorem dX9_amount_14 : decode cX9_amount 14 = .ok (.invokestatic 82, 3) := by decide +kernel
theorem dX9_amount_17 : decode cX9_amount 17 = .ok (.ifCond .eq 12, 3) := by decide +kernel
theorem dX9_amount_20 : decode cX9_amount 20 = .ok (.aload_n 0, 1) := by decide +kernel
theorem dX9_amount_21 : decode cX9_amount 21 = .ok (.iload_n 1, 1) := by decide +kernel
theorem dX9_amount_22 : decode cX9_amount 22 = .ok (.iload_n 2, 1) := by decide +kernel
theorem dX9_amount_23 : decode cX9_amount 23 = .ok (.invokevirtual 72, 3) := by decide +kernel
theorem dX9_amount_26 : decode cX9_amount 26 = .ok (.goto 8, 3) := by decide +kernel
theorem dX9_amount_29 : decode cX9_amount 29 = .ok (.aload_n 0, 1) := by decide +kernel
theorem dX9_amount_30 : decode cX9_amount 30 = .ok (.iconst 1, 1) := by decide +kernel
theorem dX9_amount_31 : decode cX9_amount 31 = .ok (.invokevirtual 58, 3) := by decide +kernel
theorem dX9_amount_34 : decode cX9_amount 34 = .ok (.ireturn, 1) := by decide +kernel
theorem dX9_unlike_0 : decode cX9_unlike 0 = .ok (.iconst 0, 1) := by decide +kernel
theorem dX9_unlike_1 : decode cX9_unlike 1 = .ok (.istore_n 3, 1) := by decide +kernel
theorem dX9_unlike_2 : decode cX9_unlike 2 = .ok (.iconst 0, 1) := by decide +kernel
theorem dX9_unlike_3 : decode cX9_unlike 3 = .ok (.istore 4, 2) := by decide +kernel
theorem dX9_unlike_5 : decode cX9_unlike 5 = .ok (.iload 4, 2) := by decide +kernel
theorem dX9_unlike_7 : decode cX9_unlike 7 = .ok (.bipush 6, 2) := by decide +kernel
theorem dX9_unlike_9 : decode cX9_unlike 9 = .ok (.if_icmp .ge 29, 3) := by decide +kernel
theorem dX9_unlike_12 : decode cX9_unlike 12 = .ok (.aload_n 0, 1) := by decide +kernel
theorem dX9_unlike_13 : decode cX9_unlike 13 = .ok (.iload_n 1, 1) := by decide +kernel
theorem dX9_unlike_14 : decode cX9_unlike 14 = .ok (.iload 4, 2) := by decide +kernel
theorem dX9_unlike_16 : decode cX9_unlike 16 = .ok (.invokevirtual 72, 3) := by decide +kernel
theorem dX9_unlike_19 : decode cX9_unlike 19 = .ok (.aload_n 0, 1) := by decide +kernel
theorem dX9_unlike_20 : decode cX9_unlike 20 = .ok (.iload_n 2, 1) := by decide +kernel
theorem dX9_unlike_21 : decode cX9_unlike 21 = .ok (.iload 4, 2) := by decide +kernel
theorem dX9_unlike_23 : decode cX9_unlike 23 = .ok (.invokevirtual 72, 3) := by decide +kernel
theorem dX9_unlike_26 : decode cX9_unlike 26 = .ok (.if_icmp .eq 6, 3) := by decide +kernel
theorem dX9_unlike_29 : decode cX9_unlike 29 = .ok (.iinc 3 1, 3) := by decide +kernel
theorem dX9_unlike_32 : decode cX9_unlike 32 = .ok (.iinc 4 1, 3) := by decide +kernel
theorem dX9_unlike_35 : decode cX9_unlike 35 = .ok (.goto (-30), 3) := by decide +kernel
theorem dX9_unlike_38 : decode cX9_unlike 38 = .ok (.iload_n 3, 1) := by decide +kernel
theorem dX9_unlike_39 : decode cX9_unlike 39 = .ok (.ireturn, 1) := by decide +kernel
theorem dX9_deep_0 : decode cX9_deep 0 = .ok (.bipush 24, 2) := by decide +kernel
theorem dX9_deep_2 : decode cX9_deep 2 = .ok (.newarray .int, 2) := by decide +kernel
theorem dX9_deep_4 : decode cX9_deep 4 = .ok (.astore_n 2, 1) := by decide +kernel
theorem dX9_deep_5 : decode cX9_deep 5 = .ok (.iconst 1, 1) := by decide +kernel
theorem dX9_deep_6 : decode cX9_deep 6 = .ok (.istore_n 3, 1) := by decide +kernel
theorem dX9_deep_7 : decode cX9_deep 7 = .ok (.iload_n 3, 1) := by decide +kernel
theorem dX9_deep_8 : decode cX9_deep 8 = .ok (.iload_n 1, 1) := by decide +kernel
theorem dX9_deep_9 : decode cX9_deep 9 = .ok (.if_icmp .gt 50, 3) := by decide +kernel
theorem dX9_deep_12 : decode cX9_deep 12 = .ok (.aload_n 2, 1) := by decide +kernel
theorem dX9_deep_13 : decode cX9_deep 13 = .ok (.iload_n 3, 1) := by decide +kernel
theorem dX9_deep_14 : decode cX9_deep 14 = .ok (.aload_n 2, 1) := by decide +kernel
theorem dX9_deep_15 : decode cX9_deep 15 = .ok (.aload_n 0, 1) := by decide +kernel
theorem dX9_deep_16 : decode cX9_deep 16 = .ok (.iload_n 3, 1) := by decide +kernel
theorem dX9_deep_17 : decode cX9_deep 17 = .ok (.iconst 1, 1) := by decide +kernel
theorem dX9_deep_18 : decode cX9_deep 18 = .ok (.invokevirtual 65, 3) := by decide +kernel
theorem dX9_deep_21 : decode cX9_deep 21 = .ok (.iaload, 1) := by decide +kernel
theorem dX9_deep_22 : decode cX9_deep 22 = .ok (.iconst 1, 1) := by decide +kernel
theorem dX9_deep_23 : decode cX9_deep 23 = .ok (.iadd, 1) := by decide +kernel
theorem dX9_deep_24 : decode cX9_deep 24 = .ok (.iastore, 1) := by decide +kernel
theorem dX9_deep_25 : decode cX9_deep 25 = .ok (.aload_n 0, 1) := by decide +kernel
theorem dX9_deep_26 : decode cX9_deep 26 = .ok (.iload_n 3, 1) := by decide +kernel
theorem dX9_deep_27 : decode cX9_deep 27 = .ok (.iconst 2, 1) := by decide +kernel
theorem dX9_deep_28 : decode cX9_deep 28 = .ok (.invokevirtual 65, 3) := by decide +kernel
theorem dX9_deep_31 : decode cX9_deep 31 = .ok (.ifCond .lt 22, 3) := by decide +kernel
theorem dX9_deep_34 : decode cX9_deep 34 = .ok (.aload_n 2, 1) := by decide +kernel
theorem dX9_deep_35 : decode cX9_deep 35 = .ok (.iload_n 3, 1) := by decide +kernel
theorem dX9_deep_36 : decode cX9_deep 36 = .ok (.aload_n 2, 1) := by decide +kernel
theorem dX9_deep_37 : decode cX9_deep 37 = .ok (.iload_n 3, 1) := by decide +kernel
theorem dX9_deep_38 : decode cX9_deep 38 = .ok (.iaload, 1) := by decide +kernel
theorem dX9_deep_39 : decode cX9_deep 39 = .ok (.aload_n 2, 1) := by decide +kernel
theorem dX9_deep_40 : decode cX9_deep 40 = .ok (.aload_n 0, 1) := by decide +kernel
theorem dX9_deep_41 : decode cX9_deep 41 = .ok (.iload_n 3, 1) := by decide +kernel
theorem dX9_deep_42 : decode cX9_deep 42 = .ok (.iconst 2, 1) := by decide +kernel
theorem dX9_deep_43 : decode cX9_deep 43 = .ok (.invokevirtual 65, 3) := by decide +kernel
theorem dX9_deep_46 : decode cX9_deep 46 = .ok (.iaload, 1) := by decide +kernel
theorem dX9_deep_47 : decode cX9_deep 47 = .ok (.iconst 1, 1) := by decide +kernel
theorem dX9_deep_48 : decode cX9_deep 48 = .ok (.iadd, 1) := by decide +kernel
theorem dX9_deep_49 : decode cX9_deep 49 = .ok (.invokestatic 116, 3) := by decide +kernel
theorem dX9_deep_52 : decode cX9_deep 52 = .ok (.iastore, 1) := by decide +kernel
theorem dX9_deep_53 : decode cX9_deep 53 = .ok (.iinc 3 1, 3) := by decide +kernel
theorem dX9_deep_56 : decode cX9_deep 56 = .ok (.goto (-49), 3) := by decide +kernel
theorem dX9_deep_59 : decode cX9_deep 59 = .ok (.aload_n 2, 1) := by decide +kernel
theorem dX9_deep_60 : decode cX9_deep 60 = .ok (.iload_n 1, 1) := by decide +kernel
theorem dX9_deep_61 : decode cX9_deep 61 = .ok (.iaload, 1) := by decide +kernel
theorem dX9_deep_62 : decode cX9_deep 62 = .ok (.ireturn, 1) := by decide +kernel
theorem dX9_commitOf_0 : decode cX9_commitOf 0 = .ok (.aload_n 0, 1) := by decide +kernel
theorem dX9_commitOf_1 : decode cX9_commitOf 1 = .ok (.iconst 0, 1) := by decide +kernel
theorem dX9_commitOf_2 : decode cX9_commitOf 2 = .ok (.putfield 39, 3) := by decide +kernel
theorem dX9_commitOf_5 : decode cX9_commitOf 5 = .ok (.aload_n 0, 1) := by decide +kernel
theorem dX9_commitOf_6 : decode cX9_commitOf 6 = .ok (.iload_n 1, 1) := by decide +kernel
theorem dX9_commitOf_7 : decode cX9_commitOf 7 = .ok (.invokevirtual 110, 3) := by decide +kernel
theorem dX9_commitOf_10 : decode cX9_commitOf 10 = .ok (.ifCond .ne 9, 3) := by decide +kernel
theorem dX9_commitOf_13 : decode cX9_commitOf 13 = .ok (.aload_n 0, 1) := by decide +kernel
theorem dX9_commitOf_14 : decode cX9_commitOf 14 = .ok (.iconst 1, 1) := by decide +kernel
theorem dX9_commitOf_15 : decode cX9_commitOf 15 = .ok (.invokevirtual 58, 3) := by decide +kernel
theorem dX9_commitOf_18 : decode cX9_commitOf 18 = .ok (.ireturn, 1) := by decide +kernel
theorem dX9_commitOf_19 : decode cX9_commitOf 19 = .ok (.iload_n 2, 1) := by decide +kernel
theorem dX9_commitOf_20 : decode cX9_commitOf 20 = .ok (.tableswitch 84 0 5 #[40, 40, 40, 47, 67, 78], 40) := by decide +kernel
theorem dX9_commitOf_60 : decode cX9_commitOf 60 = .ok (.aload_n 0, 1) := by decide +kernel
theorem dX9_commitOf_61 : decode cX9_commitOf 61 = .ok (.iload_n 1, 1) := by decide +kernel
theorem dX9_commitOf_62 : decode cX9_commitOf 62 = .ok (.iload_n 2, 1) := by decide +kernel
theorem dX9_commitOf_63 : decode cX9_commitOf 63 = .ok (.invokevirtual 65, 3) := by decide +kernel
theorem dX9_commitOf_66 : decode cX9_commitOf 66 = .ok (.ireturn, 1) := by decide +kernel
theorem dX9_commitOf_67 : decode cX9_commitOf 67 = .ok (.iload_n 1, 1) := by decide +kernel
theorem dX9_commitOf_68 : decode cX9_commitOf 68 = .ok (.ifCond .ne 7, 3) := by decide +kernel
theorem dX9_commitOf_71 : decode cX9_commitOf 71 = .ok (.iconst 0, 1) := by decide +kernel
theorem dX9_commitOf_72 : decode cX9_commitOf 72 = .ok (.goto 14, 3) := by decide +kernel
theorem dX9_commitOf_75 : decode cX9_commitOf 75 = .ok (.aload_n 0, 1) := by decide +kernel
theorem dX9_commitOf_76 : decode cX9_commitOf 76 = .ok (.iload_n 1, 1) := by decide +kernel
theorem dX9_commitOf_77 : decode cX9_commitOf 77 = .ok (.aload_n 0, 1) := by decide +kernel
theorem dX9_commitOf_78 : decode cX9_commitOf 78 = .ok (.iload_n 1, 1) := by decide +kernel
theorem dX9_commitOf_79 : decode cX9_commitOf 79 = .ok (.iconst 1, 1) := by decide +kernel
theorem dX9_commitOf_80 : decode cX9_commitOf 80 = .ok (.invokevirtual 65, 3) := by decide +kernel
theorem dX9_commitOf_83 : decode cX9_commitOf 83 = .ok (.invokevirtual 121, 3) := by decide +kernel
theorem dX9_commitOf_86 : decode cX9_commitOf 86 = .ok (.ireturn, 1) := by decide +kernel
theorem dX9_commitOf_87 : decode cX9_commitOf 87 = .ok (.aload_n 0, 1) := by decide +kernel
theorem dX9_commitOf_88 : decode cX9_commitOf 88 = .ok (.iload_n 1, 1) := by decide +kernel
theorem dX9_commitOf_89 : decode cX9_commitOf 89 = .ok (.invokevirtual 75, 3) := by decide +kernel
theorem dX9_commitOf_92 : decode cX9_commitOf 92 = .ok (.invokestatic 124, 3) := by decide +kernel
theorem dX9_commitOf_95 : decode cX9_commitOf 95 = .ok (.iconst 1, 1) := by decide +kernel
theorem dX9_commitOf_96 : decode cX9_commitOf 96 = .ok (.isub, 1) := by decide +kernel
theorem dX9_commitOf_97 : decode cX9_commitOf 97 = .ok (.ireturn, 1) := by decide +kernel
theorem dX9_commitOf_98 : decode cX9_commitOf 98 = .ok (.aload_n 0, 1) := by decide +kernel
theorem dX9_commitOf_99 : decode cX9_commitOf 99 = .ok (.iload_n 1, 1) := by decide +kernel
theorem dX9_commitOf_100 : decode cX9_commitOf 100 = .ok (.invokevirtual 129, 3) := by decide +kernel
theorem dX9_commitOf_103 : decode cX9_commitOf 103 = .ok (.ireturn, 1) := by decide +kernel
theorem dX9_commitOf_104 : decode cX9_commitOf 104 = .ok (.aload_n 0, 1) := by decide +kernel
theorem dX9_commitOf_105 : decode cX9_commitOf 105 = .ok (.iconst 2, 1) := by decide +kernel
theorem dX9_commitOf_106 : decode cX9_commitOf 106 = .ok (.invokevirtual 58, 3) := by decide +kernel
theorem dX9_commitOf_109 : decode cX9_commitOf 109 = .ok (.ireturn, 1) := by decide +kernel
theorem dX9_mixes_0 : decode cX9_mixes 0 = .ok (.aload_n 0, 1) := by decide +kernel
theorem dX9_mixes_1 : decode cX9_mixes 1 = .ok (.iconst 0, 1) := by decide +kernel
theorem dX9_mixes_2 : decode cX9_mixes 2 = .ok (.putfield 132, 3) := by decide +kernel
theorem dX9_mixes_5 : decode cX9_mixes 5 = .ok (.aload_n 0, 1) := by decide +kernel
theorem dX9_mixes_6 : decode cX9_mixes 6 = .ok (.iconst (-1), 1) := by decide +kernel
theorem dX9_mixes_7 : decode cX9_mixes 7 = .ok (.putfield 135, 3) := by decide +kernel
theorem dX9_mixes_10 : decode cX9_mixes 10 = .ok (.iconst 0, 1) := by decide +kernel
theorem dX9_mixes_11 : decode cX9_mixes 11 = .ok (.istore 5, 2) := by decide +kernel
theorem dX9_mixes_13 : decode cX9_mixes 13 = .ok (.iload 5, 2) := by decide +kernel
theorem dX9_mixes_15 : decode cX9_mixes 15 = .ok (.bipush 6, 2) := by decide +kernel
theorem dX9_mixes_17 : decode cX9_mixes 17 = .ok (.if_icmp .ge 135, 3) := by decide +kernel
theorem dX9_mixes_20 : decode cX9_mixes 20 = .ok (.aload_n 0, 1) := by decide +kernel
theorem dX9_mixes_21 : decode cX9_mixes 21 = .ok (.iload_n 1, 1) := by decide +kernel
theorem dX9_mixes_22 : decode cX9_mixes 22 = .ok (.iload 5, 2) := by decide +kernel
theorem dX9_mixes_24 : decode cX9_mixes 24 = .ok (.invokevirtual 72, 3) := by decide +kernel
theorem dX9_mixes_27 : decode cX9_mixes 27 = .ok (.istore 6, 2) := by decide +kernel
theorem dX9_mixes_29 : decode cX9_mixes 29 = .ok (.aload_n 0, 1) := by decide +kernel
theorem dX9_mixes_30 : decode cX9_mixes 30 = .ok (.iload_n 2, 1) := by decide +kernel
theorem dX9_mixes_31 : decode cX9_mixes 31 = .ok (.iload 5, 2) := by decide +kernel
theorem dX9_mixes_33 : decode cX9_mixes 33 = .ok (.invokevirtual 72, 3) := by decide +kernel
theorem dX9_mixes_36 : decode cX9_mixes 36 = .ok (.istore 7, 2) := by decide +kernel
theorem dX9_mixes_38 : decode cX9_mixes 38 = .ok (.aload_n 0, 1) := by decide +kernel
theorem dX9_mixes_39 : decode cX9_mixes 39 = .ok (.iload_n 3, 1) := by decide +kernel
theorem dX9_mixes_40 : decode cX9_mixes 40 = .ok (.iload 5, 2) := by decide +kernel
theorem dX9_mixes_42 : decode cX9_mixes 42 = .ok (.invokevirtual 72, 3) := by decide +kernel
theorem dX9_mixes_45 : decode cX9_mixes 45 = .ok (.istore 8, 2) := by decide +kernel
theorem dX9_mixes_47 : decode cX9_mixes 47 = .ok (.aload_n 0, 1) := by decide +kernel
theorem dX9_mixes_48 : decode cX9_mixes 48 = .ok (.getfield 36, 3) := by decide +kernel
theorem dX9_mixes_51 : decode cX9_mixes 51 = .ok (.iload 5, 2) := by decide +kernel
theorem dX9_mixes_53 : decode cX9_mixes 53 = .ok (.iload 6, 2) := by decide +kernel
theorem dX9_mixes_55 : decode cX9_mixes 55 = .ok (.iastore, 1) := by decide +kernel
theorem dX9_mixes_56 : decode cX9_mixes 56 = .ok (.iload 6, 2) := by decide +kernel
theorem dX9_mixes_58 : decode cX9_mixes 58 = .ok (.iload 8, 2) := by decide +kernel
theorem dX9_mixes_60 : decode cX9_mixes 60 = .ok (.if_icmp .ne 15, 3) := by decide +kernel
theorem dX9_mixes_63 : decode cX9_mixes 63 = .ok (.aload_n 0, 1) := by decide +kernel
theorem dX9_mixes_64 : decode cX9_mixes 64 = .ok (.getfield 36, 3) := by decide +kernel
theorem dX9_mixes_67 : decode cX9_mixes 67 = .ok (.iload 5, 2) := by decide +kernel
theorem dX9_mixes_69 : decode cX9_mixes 69 = .ok (.iload 7, 2) := by decide +kernel
theorem dX9_mixes_71 : decode cX9_mixes 71 = .ok (.iastore, 1) := by decide +kernel
theorem dX9_mixes_72 : decode cX9_mixes 72 = .ok (.goto 74, 3) := by decide +kernel
theorem dX9_mixes_75 : decode cX9_mixes 75 = .ok (.iload 7, 2) := by decide +kernel
theorem dX9_mixes_77 : decode cX9_mixes 77 = .ok (.iload 8, 2) := by decide +kernel
theorem dX9_mixes_79 : decode cX9_mixes 79 = .ok (.if_icmp .eq 67, 3) := by decide +kernel
theorem dX9_mixes_82 : decode cX9_mixes 82 = .ok (.iload 6, 2) := by decide +kernel
theorem dX9_mixes_84 : decode cX9_mixes 84 = .ok (.iload 7, 2) := by decide +kernel
theorem dX9_mixes_86 : decode cX9_mixes 86 = .ok (.if_icmp .ne 6, 3) := by decide +kernel
theorem dX9_mixes_89 : decode cX9_mixes 89 = .ok (.goto 57, 3) := by decide +kernel
theorem dX9_mixes_92 : decode cX9_mixes 92 = .ok (.aload_n 0, 1) := by decide +kernel
theorem dX9_mixes_93 : decode cX9_mixes 93 = .ok (.dup, 1) := by decide +kernel
theorem dX9_mixes_94 : decode cX9_mixes 94 = .ok (.getfield 132, 3) := by decide +kernel
theorem dX9_mixes_97 : decode cX9_mixes 97 = .ok (.iconst 1, 1) := by decide +kernel
theorem dX9_mixes_98 : decode cX9_mixes 98 = .ok (.iadd, 1) := by decide +kernel
theorem dX9_mixes_99 : decode cX9_mixes 99 = .ok (.putfield 132, 3) := by decide +kernel
theorem dX9_mixes_102 : decode cX9_mixes 102 = .ok (.aload_n 0, 1) := by decide +kernel
theorem dX9_mixes_103 : decode cX9_mixes 103 = .ok (.getfield 135, 3) := by decide +kernel
theorem dX9_mixes_106 : decode cX9_mixes 106 = .ok (.ifCond .ge 9, 3) := by decide +kernel
theorem dX9_mixes_109 : decode cX9_mixes 109 = .ok (.aload_n 0, 1) := by decide +kernel
theorem dX9_mixes_110 : decode cX9_mixes 110 = .ok (.iload 5, 2) := by decide +kernel
theorem dX9_mixes_112 : decode cX9_mixes 112 = .ok (.putfield 135, 3) := by decide +kernel
theorem dX9_mixes_115 : decode cX9_mixes 115 = .ok (.iload 4, 2) := by decide +kernel
theorem dX9_mixes_117 : decode cX9_mixes 117 = .ok (.iconst 1, 1) := by decide +kernel
theorem dX9_mixes_118 : decode cX9_mixes 118 = .ok (.if_icmp .le 28, 3) := by decide +kernel
theorem dX9_mixes_121 : decode cX9_mixes 121 = .ok (.aload_n 0, 1) := by decide +kernel
theorem dX9_mixes_122 : decode cX9_mixes 122 = .ok (.getfield 36, 3) := by decide +kernel
theorem dX9_mixes_125 : decode cX9_mixes 125 = .ok (.iload 5, 2) := by decide +kernel
theorem dX9_mixes_127 : decode cX9_mixes 127 = .ok (.iload 4, 2) := by decide +kernel
theorem dX9_mixes_129 : decode cX9_mixes 129 = .ok (.iconst 2, 1) := by decide +kernel
theorem dX9_mixes_130 : decode cX9_mixes 130 = .ok (.if_icmp .ne 8, 3) := by decide +kernel
theorem dX9_mixes_133 : decode cX9_mixes 133 = .ok (.iload 7, 2) := by decide +kernel
theorem dX9_mixes_135 : decode cX9_mixes 135 = .ok (.goto 10, 3) := by decide +kernel
theorem dX9_mixes_138 : decode cX9_mixes 138 = .ok (.iload 6, 2) := by decide +kernel
theorem dX9_mixes_140 : decode cX9_mixes 140 = .ok (.iload 7, 2) := by decide +kernel
theorem dX9_mixes_142 : decode cX9_mixes 142 = .ok (.iadd, 1) := by decide +kernel
theorem dX9_mixes_143 : decode cX9_mixes 143 = .ok (.iconst 2, 1) := by decide +kernel
theorem dX9_mixes_144 : decode cX9_mixes 144 = .ok (.idiv, 1) := by decide +kernel
theorem dX9_mixes_145 : decode cX9_mixes 145 = .ok (.iastore, 1) := by decide +kernel
theorem dX9_mixes_146 : decode cX9_mixes 146 = .ok (.iinc 5 1, 3) := by decide +kernel
theorem dX9_mixes_149 : decode cX9_mixes 149 = .ok (.goto (-136), 3) := by decide +kernel
theorem dX9_mixes_152 : decode cX9_mixes 152 = .ok (.return_, 1) := by decide +kernel
theorem dX9_lays_0 : decode cX9_lays 0 = .ok (.iconst 0, 1) := by decide +kernel
theorem dX9_lays_1 : decode cX9_lays 1 = .ok (.istore_n 2, 1) := by decide +kernel
theorem dX9_lays_2 : decode cX9_lays 2 = .ok (.iload_n 2, 1) := by decide +kernel
theorem dX9_lays_3 : decode cX9_lays 3 = .ok (.bipush 6, 2) := by decide +kernel
theorem dX9_lays_5 : decode cX9_lays 5 = .ok (.if_icmp .ge 31, 3) := by decide +kernel
theorem dX9_lays_8 : decode cX9_lays 8 = .ok (.aload_n 0, 1) := by decide +kernel
theorem dX9_lays_9 : decode cX9_lays 9 = .ok (.getfield 9, 3) := by decide +kernel
theorem dX9_lays_12 : decode cX9_lays 12 = .ok (.bipush 12, 2) := by decide +kernel
theorem dX9_lays_14 : decode cX9_lays 14 = .ok (.bipush 9, 2) := by decide +kernel
theorem dX9_lays_16 : decode cX9_lays 16 = .ok (.iload_n 1, 1) := by decide +kernel
theorem dX9_lays_17 : decode cX9_lays 17 = .ok (.imul, 1) := by decide +kernel
theorem dX9_lays_18 : decode cX9_lays 18 = .ok (.iadd, 1) := by decide +kernel
theorem dX9_lays_19 : decode cX9_lays 19 = .ok (.iconst 3, 1) := by decide +kernel
theorem dX9_lays_20 : decode cX9_lays 20 = .ok (.iadd, 1) := by decide +kernel
theorem dX9_lays_21 : decode cX9_lays 21 = .ok (.iload_n 2, 1) := by decide +kernel
theorem dX9_lays_22 : decode cX9_lays 22 = .ok (.iadd, 1) := by decide +kernel
theorem dX9_lays_23 : decode cX9_lays 23 = .ok (.aload_n 0, 1) := by decide +kernel
theorem dX9_lays_24 : decode cX9_lays 24 = .ok (.getfield 36, 3) := by decide +kernel
theorem dX9_lays_27 : decode cX9_lays 27 = .ok (.iload_n 2, 1) := by decide +kernel
theorem dX9_lays_28 : decode cX9_lays 28 = .ok (.iaload, 1) := by decide +kernel
theorem dX9_lays_29 : decode cX9_lays 29 = .ok (.iastore, 1) := by decide +kernel
theorem dX9_lays_30 : decode cX9_lays 30 = .ok (.iinc 2 1, 3) := by decide +kernel
theorem dX9_lays_33 : decode cX9_lays 33 = .ok (.goto (-31), 3) := by decide +kernel
theorem dX9_lays_36 : decode cX9_lays 36 = .ok (.return_, 1) := by decide +kernel
theorem dX9_merges_0 : decode cX9_merges 0 = .ok (.aload_n 0, 1) := by decide +kernel
theorem dX9_merges_1 : decode cX9_merges 1 = .ok (.iload_n 1, 1) := by decide +kernel
theorem dX9_merges_2 : decode cX9_merges 2 = .ok (.invokevirtual 78, 3) := by decide +kernel
theorem dX9_merges_5 : decode cX9_merges 5 = .ok (.ifCond .eq 11, 3) := by decide +kernel
theorem dX9_merges_8 : decode cX9_merges 8 = .ok (.aload_n 0, 1) := by decide +kernel
theorem dX9_merges_9 : decode cX9_merges 9 = .ok (.iload_n 2, 1) := by decide +kernel
theorem dX9_merges_10 : decode cX9_merges 10 = .ok (.invokevirtual 78, 3) := by decide +kernel
theorem dX9_merges_13 : decode cX9_merges 13 = .ok (.ifCond .ne 5, 3) := by decide +kernel
theorem dX9_merges_16 : decode cX9_merges 16 = .ok (.iconst 1, 1) := by decide +kernel
theorem dX9_merges_17 : decode cX9_merges 17 = .ok (.ireturn, 1) := by decide +kernel
theorem dX9_merges_18 : decode cX9_merges 18 = .ok (.iload_n 3, 1) := by decide +kernel
theorem dX9_merges_19 : decode cX9_merges 19 = .ok (.iconst 0, 1) := by decide +kernel
theorem dX9_merges_20 : decode cX9_merges 20 = .ok (.iconst 3, 1) := by decide +kernel
theorem dX9_merges_21 : decode cX9_merges 21 = .ok (.invokestatic 61, 3) := by decide +kernel
theorem dX9_merges_24 : decode cX9_merges 24 = .ok (.ifCond .ne 5, 3) := by decide +kernel
theorem dX9_merges_27 : decode cX9_merges 27 = .ok (.iconst 2, 1) := by decide +kernel
theorem dX9_merges_28 : decode cX9_merges 28 = .ok (.ireturn, 1) := by decide +kernel
theorem dX9_merges_29 : decode cX9_merges 29 = .ok (.aload_n 0, 1) := by decide +kernel
theorem dX9_merges_30 : decode cX9_merges 30 = .ok (.iload_n 1, 1) := by decide +kernel
theorem dX9_merges_31 : decode cX9_merges 31 = .ok (.invokevirtual 69, 3) := by decide +kernel
theorem dX9_merges_34 : decode cX9_merges 34 = .ok (.istore 4, 2) := by decide +kernel
theorem dX9_merges_36 : decode cX9_merges 36 = .ok (.aload_n 0, 1) := by decide +kernel
theorem dX9_merges_37 : decode cX9_merges 37 = .ok (.iload_n 2, 1) := by decide +kernel
theorem dX9_merges_38 : decode cX9_merges 38 = .ok (.invokevirtual 69, 3) := by decide +kernel
theorem dX9_merges_41 : decode cX9_merges 41 = .ok (.istore 5, 2) := by decide +kernel
theorem dX9_merges_43 : decode cX9_merges 43 = .ok (.aload_n 0, 1) := by decide +kernel
theorem dX9_merges_44 : decode cX9_merges 44 = .ok (.iload 5, 2) := by decide +kernel
theorem dX9_merges_46 : decode cX9_merges 46 = .ok (.iload 4, 2) := by decide +kernel
theorem dX9_merges_48 : decode cX9_merges 48 = .ok (.invokevirtual 138, 3) := by decide +kernel
theorem dX9_merges_51 : decode cX9_merges 51 = .ok (.ifCond .eq 11, 3) := by decide +kernel
theorem dX9_merges_54 : decode cX9_merges 54 = .ok (.aload_n 0, 1) := by decide +kernel
theorem dX9_merges_55 : decode cX9_merges 55 = .ok (.iconst 4, 1) := by decide +kernel
theorem dX9_merges_56 : decode cX9_merges 56 = .ok (.iload 5, 2) := by decide +kernel
theorem dX9_merges_58 : decode cX9_merges 58 = .ok (.invokevirtual 85, 3) := by decide +kernel
theorem dX9_merges_61 : decode cX9_merges 61 = .ok (.ireturn, 1) := by decide +kernel
theorem dX9_merges_62 : decode cX9_merges 62 = .ok (.aload_n 0, 1) := by decide +kernel
theorem dX9_merges_63 : decode cX9_merges 63 = .ok (.iload 4, 2) := by decide +kernel
theorem dX9_merges_65 : decode cX9_merges 65 = .ok (.iload 5, 2) := by decide +kernel
theorem dX9_merges_67 : decode cX9_merges 67 = .ok (.invokevirtual 138, 3) := by decide +kernel
theorem dX9_merges_70 : decode cX9_merges 70 = .ok (.ifCond .eq 21, 3) := by decide +kernel
theorem dX9_merges_73 : decode cX9_merges 73 = .ok (.aload_n 0, 1) := by decide +kernel
theorem dX9_merges_74 : decode cX9_merges 74 = .ok (.getfield 9, 3) := by decide +kernel
theorem dX9_merges_77 : decode cX9_merges 77 = .ok (.bipush 7, 2) := by decide +kernel
theorem dX9_merges_79 : decode cX9_merges 79 = .ok (.iload_n 1, 1) := by decide +kernel
theorem dX9_merges_80 : decode cX9_merges 80 = .ok (.iadd, 1) := by decide +kernel
theorem dX9_merges_81 : decode cX9_merges 81 = .ok (.iload 5, 2) := by decide +kernel
theorem dX9_merges_83 : decode cX9_merges 83 = .ok (.iastore, 1) := by decide +kernel
theorem dX9_merges_84 : decode cX9_merges 84 = .ok (.aload_n 0, 1) := by decide +kernel
theorem dX9_merges_85 : decode cX9_merges 85 = .ok (.iload 5, 2) := by decide +kernel
theorem dX9_merges_87 : decode cX9_merges 87 = .ok (.invokevirtual 92, 3) := by decide +kernel
theorem dX9_merges_90 : decode cX9_merges 90 = .ok (.ireturn, 1) := by decide +kernel
theorem dX9_merges_91 : decode cX9_merges 91 = .ok (.aload_n 0, 1) := by decide +kernel
theorem dX9_merges_92 : decode cX9_merges 92 = .ok (.iload 4, 2) := by decide +kernel
theorem dX9_merges_94 : decode cX9_merges 94 = .ok (.iload 5, 2) := by decide +kernel
theorem dX9_merges_96 : decode cX9_merges 96 = .ok (.aload_n 0, 1) := by decide +kernel
theorem dX9_merges_97 : decode cX9_merges 97 = .ok (.iload 4, 2) := by decide +kernel
theorem dX9_merges_99 : decode cX9_merges 99 = .ok (.iload 5, 2) := by decide +kernel
theorem dX9_merges_101 : decode cX9_merges 101 = .ok (.invokevirtual 142, 3) := by decide +kernel
theorem dX9_merges_104 : decode cX9_merges 104 = .ok (.iload_n 3, 1) := by decide +kernel
theorem dX9_merges_105 : decode cX9_merges 105 = .ok (.invokevirtual 145, 3) := by decide +kernel
theorem dX9_merges_108 : decode cX9_merges 108 = .ok (.aload_n 0, 1) := by decide +kernel
theorem dX9_merges_109 : decode cX9_merges 109 = .ok (.getfield 132, 3) := by decide +kernel
theorem dX9_merges_112 : decode cX9_merges 112 = .ok (.ifCond .le 17, 3) := by decide +kernel
theorem dX9_merges_115 : decode cX9_merges 115 = .ok (.iload_n 3, 1) := by decide +kernel
theorem dX9_merges_116 : decode cX9_merges 116 = .ok (.ifCond .ne 13, 3) := by decide +kernel
theorem dX9_merges_119 : decode cX9_merges 119 = .ok (.aload_n 0, 1) := by decide +kernel
theorem dX9_merges_120 : decode cX9_merges 120 = .ok (.iconst 5, 1) := by decide +kernel
theorem dX9_merges_121 : decode cX9_merges 121 = .ok (.aload_n 0, 1) := by decide +kernel
theorem dX9_merges_122 : decode cX9_merges 122 = .ok (.getfield 135, 3) := by decide +kernel
theorem dX9_merges_125 : decode cX9_merges 125 = .ok (.invokevirtual 85, 3) := by decide +kernel
theorem dX9_merges_128 : decode cX9_merges 128 = .ok (.ireturn, 1) := by decide +kernel
theorem dX9_merges_129 : decode cX9_merges 129 = .ok (.aload_n 0, 1) := by decide +kernel
theorem dX9_merges_130 : decode cX9_merges 130 = .ok (.getfield 9, 3) := by decide +kernel
theorem dX9_merges_133 : decode cX9_merges 133 = .ok (.iconst 0, 1) := by decide +kernel
theorem dX9_merges_134 : decode cX9_merges 134 = .ok (.iaload, 1) := by decide +kernel
theorem dX9_merges_135 : decode cX9_merges 135 = .ok (.bipush 24, 2) := by decide +kernel
theorem dX9_merges_137 : decode cX9_merges 137 = .ok (.if_icmp .ne 11, 3) := by decide +kernel
theorem dX9_merges_140 : decode cX9_merges 140 = .ok (.aload_n 0, 1) := by decide +kernel
theorem dX9_merges_141 : decode cX9_merges 141 = .ok (.iconst 1, 1) := by decide +kernel
theorem dX9_merges_142 : decode cX9_merges 142 = .ok (.bipush 24, 2) := by decide +kernel
theorem dX9_merges_144 : decode cX9_merges 144 = .ok (.invokevirtual 85, 3) := by decide +kernel
theorem dX9_merges_147 : decode cX9_merges 147 = .ok (.ireturn, 1) := by decide +kernel
theorem dX9_merges_148 : decode cX9_merges 148 = .ok (.aload_n 0, 1) := by decide +kernel
theorem dX9_merges_149 : decode cX9_merges 149 = .ok (.iload_n 1, 1) := by decide +kernel
theorem dX9_merges_150 : decode cX9_merges 150 = .ok (.iconst 1, 1) := by decide +kernel
theorem dX9_merges_151 : decode cX9_merges 151 = .ok (.iload 5, 2) := by decide +kernel
theorem dX9_merges_153 : decode cX9_merges 153 = .ok (.invokevirtual 88, 3) := by decide +kernel
theorem dX9_merges_156 : decode cX9_merges 156 = .ok (.istore 6, 2) := by decide +kernel
theorem dX9_merges_158 : decode cX9_merges 158 = .ok (.aload_n 0, 1) := by decide +kernel
theorem dX9_merges_159 : decode cX9_merges 159 = .ok (.iload 6, 2) := by decide +kernel
theorem dX9_merges_161 : decode cX9_merges 161 = .ok (.invokevirtual 149, 3) := by decide +kernel
theorem dX9_merges_164 : decode cX9_merges 164 = .ok (.aload_n 0, 1) := by decide +kernel
theorem dX9_merges_165 : decode cX9_merges 165 = .ok (.iload 6, 2) := by decide +kernel
theorem dX9_merges_167 : decode cX9_merges 167 = .ok (.invokevirtual 92, 3) := by decide +kernel
theorem dX9_merges_170 : decode cX9_merges 170 = .ok (.ireturn, 1) := by decide +kernel
theorem dX9_merge_0 : decode cX9_merge 0 = .ok (.aload_n 0, 1) := by decide +kernel
theorem dX9_merge_1 : decode cX9_merge 1 = .ok (.invokevirtual 95, 3) := by decide +kernel
theorem dX9_merge_4 : decode cX9_merge 4 = .ok (.aload_n 0, 1) := by decide +kernel
theorem dX9_merge_5 : decode cX9_merge 5 = .ok (.aload_n 0, 1) := by decide +kernel
theorem dX9_merge_6 : decode cX9_merge 6 = .ok (.iload_n 1, 1) := by decide +kernel
theorem dX9_merge_7 : decode cX9_merge 7 = .ok (.iload_n 2, 1) := by decide +kernel
theorem dX9_merge_8 : decode cX9_merge 8 = .ok (.iload_n 3, 1) := by decide +kernel
theorem dX9_merge_9 : decode cX9_merge 9 = .ok (.invokevirtual 153, 3) := by decide +kernel
theorem dX9_merge_12 : decode cX9_merge 12 = .ok (.invokevirtual 101, 3) := by decide +kernel
theorem dX9_merge_15 : decode cX9_merge 15 = .ok (.ireturn, 1) := by decide +kernel
theorem dX9_picked_0 : decode cX9_picked 0 = .ok (.aload_n 0, 1) := by decide +kernel
theorem dX9_picked_1 : decode cX9_picked 1 = .ok (.getfield 132, 3) := by decide +kernel
theorem dX9_picked_4 : decode cX9_picked 4 = .ok (.ifCond .le 17, 3) := by decide +kernel
theorem dX9_picked_7 : decode cX9_picked 7 = .ok (.iload_n 2, 1) := by decide +kernel
theorem dX9_picked_8 : decode cX9_picked 8 = .ok (.ifCond .ne 13, 3) := by decide +kernel
theorem dX9_picked_11 : decode cX9_picked 11 = .ok (.aload_n 0, 1) := by decide +kernel
theorem dX9_picked_12 : decode cX9_picked 12 = .ok (.iconst 5, 1) := by decide +kernel
theorem dX9_picked_13 : decode cX9_picked 13 = .ok (.aload_n 0, 1) := by decide +kernel
theorem dX9_picked_14 : decode cX9_picked 14 = .ok (.getfield 135, 3) := by decide +kernel
theorem dX9_picked_17 : decode cX9_picked 17 = .ok (.invokevirtual 85, 3) := by decide +kernel
theorem dX9_picked_20 : decode cX9_picked 20 = .ok (.ireturn, 1) := by decide +kernel
theorem dX9_picked_21 : decode cX9_picked 21 = .ok (.iconst 1, 1) := by decide +kernel
theorem dX9_picked_22 : decode cX9_picked 22 = .ok (.istore_n 3, 1) := by decide +kernel
theorem dX9_picked_23 : decode cX9_picked 23 = .ok (.iconst 0, 1) := by decide +kernel
theorem dX9_picked_24 : decode cX9_picked 24 = .ok (.istore 4, 2) := by decide +kernel
theorem dX9_picked_26 : decode cX9_picked 26 = .ok (.iload 4, 2) := by decide +kernel
theorem dX9_picked_28 : decode cX9_picked 28 = .ok (.bipush 6, 2) := by decide +kernel
theorem dX9_picked_30 : decode cX9_picked 30 = .ok (.if_icmp .ge 38, 3) := by decide +kernel
theorem dX9_picked_33 : decode cX9_picked 33 = .ok (.iload_n 3, 1) := by decide +kernel
theorem dX9_picked_34 : decode cX9_picked 34 = .ok (.aload_n 0, 1) := by decide +kernel
theorem dX9_picked_35 : decode cX9_picked 35 = .ok (.getfield 36, 3) := by decide +kernel
theorem dX9_picked_38 : decode cX9_picked 38 = .ok (.iload 4, 2) := by decide +kernel
theorem dX9_picked_40 : decode cX9_picked 40 = .ok (.iaload, 1) := by decide +kernel
theorem dX9_picked_41 : decode cX9_picked 41 = .ok (.aload_n 0, 1) := by decide +kernel
theorem dX9_picked_42 : decode cX9_picked 42 = .ok (.aload_n 0, 1) := by decide +kernel
theorem dX9_picked_43 : decode cX9_picked 43 = .ok (.iload_n 1, 1) := by decide +kernel
theorem dX9_picked_44 : decode cX9_picked 44 = .ok (.invokevirtual 69, 3) := by decide +kernel
theorem dX9_picked_47 : decode cX9_picked 47 = .ok (.iload 4, 2) := by decide +kernel
theorem dX9_picked_49 : decode cX9_picked 49 = .ok (.invokevirtual 72, 3) := by decide +kernel
theorem dX9_picked_52 : decode cX9_picked 52 = .ok (.if_icmp .ne 7, 3) := by decide +kernel
theorem dX9_picked_55 : decode cX9_picked 55 = .ok (.iconst 1, 1) := by decide +kernel
theorem dX9_picked_56 : decode cX9_picked 56 = .ok (.goto 4, 3) := by decide +kernel
theorem dX9_picked_59 : decode cX9_picked 59 = .ok (.iconst 0, 1) := by decide +kernel
theorem dX9_picked_60 : decode cX9_picked 60 = .ok (.iand, 1) := by decide +kernel
theorem dX9_picked_61 : decode cX9_picked 61 = .ok (.istore_n 3, 1) := by decide +kernel
theorem dX9_picked_62 : decode cX9_picked 62 = .ok (.iinc 4 1, 3) := by decide +kernel
theorem dX9_picked_65 : decode cX9_picked 65 = .ok (.goto (-39), 3) := by decide +kernel
theorem dX9_picked_68 : decode cX9_picked 68 = .ok (.iload_n 3, 1) := by decide +kernel
theorem dX9_picked_69 : decode cX9_picked 69 = .ok (.ifCond .eq 15, 3) := by decide +kernel
theorem dX9_picked_72 : decode cX9_picked 72 = .ok (.aload_n 0, 1) := by decide +kernel
theorem dX9_picked_73 : decode cX9_picked 73 = .ok (.bipush 7, 2) := by decide +kernel
theorem dX9_picked_75 : decode cX9_picked 75 = .ok (.aload_n 0, 1) := by decide +kernel
theorem dX9_picked_76 : decode cX9_picked 76 = .ok (.iload_n 1, 1) := by decide +kernel
theorem dX9_picked_77 : decode cX9_picked 77 = .ok (.invokevirtual 69, 3) := by decide +kernel
theorem dX9_picked_80 : decode cX9_picked 80 = .ok (.invokevirtual 85, 3) := by decide +kernel
theorem dX9_picked_83 : decode cX9_picked 83 = .ok (.ireturn, 1) := by decide +kernel
theorem dX9_picked_84 : decode cX9_picked 84 = .ok (.aload_n 0, 1) := by decide +kernel
theorem dX9_picked_85 : decode cX9_picked 85 = .ok (.getfield 9, 3) := by decide +kernel
theorem dX9_picked_88 : decode cX9_picked 88 = .ok (.iconst 0, 1) := by decide +kernel
theorem dX9_picked_89 : decode cX9_picked 89 = .ok (.iaload, 1) := by decide +kernel
theorem dX9_picked_90 : decode cX9_picked 90 = .ok (.bipush 24, 2) := by decide +kernel
theorem dX9_picked_92 : decode cX9_picked 92 = .ok (.if_icmp .ne 11, 3) := by decide +kernel
theorem dX9_picked_95 : decode cX9_picked 95 = .ok (.aload_n 0, 1) := by decide +kernel
theorem dX9_picked_96 : decode cX9_picked 96 = .ok (.iconst 1, 1) := by decide +kernel
theorem dX9_picked_97 : decode cX9_picked 97 = .ok (.bipush 24, 2) := by decide +kernel
theorem dX9_picked_99 : decode cX9_picked 99 = .ok (.invokevirtual 85, 3) := by decide +kernel
theorem dX9_picked_102 : decode cX9_picked 102 = .ok (.ireturn, 1) := by decide +kernel
theorem dX9_picked_103 : decode cX9_picked 103 = .ok (.aload_n 0, 1) := by decide +kernel
theorem dX9_picked_104 : decode cX9_picked 104 = .ok (.iload_n 1, 1) := by decide +kernel
theorem dX9_picked_105 : decode cX9_picked 105 = .ok (.iconst 2, 1) := by decide +kernel
theorem dX9_picked_106 : decode cX9_picked 106 = .ok (.iconst (-1), 1) := by decide +kernel
theorem dX9_picked_107 : decode cX9_picked 107 = .ok (.invokevirtual 88, 3) := by decide +kernel
theorem dX9_picked_110 : decode cX9_picked 110 = .ok (.istore 4, 2) := by decide +kernel
theorem dX9_picked_112 : decode cX9_picked 112 = .ok (.aload_n 0, 1) := by decide +kernel
theorem dX9_picked_113 : decode cX9_picked 113 = .ok (.iload 4, 2) := by decide +kernel
theorem dX9_picked_115 : decode cX9_picked 115 = .ok (.invokevirtual 149, 3) := by decide +kernel
theorem dX9_picked_118 : decode cX9_picked 118 = .ok (.aload_n 0, 1) := by decide +kernel
theorem dX9_picked_119 : decode cX9_picked 119 = .ok (.iload 4, 2) := by decide +kernel
theorem dX9_picked_121 : decode cX9_picked 121 = .ok (.invokevirtual 92, 3) := by decide +kernel
theorem dX9_picked_124 : decode cX9_picked 124 = .ok (.ireturn, 1) := by decide +kernel
theorem dX9_picks_0 : decode cX9_picks 0 = .ok (.aload_n 0, 1) := by decide +kernel
theorem dX9_picks_1 : decode cX9_picks 1 = .ok (.iload_n 1, 1) := by decide +kernel
theorem dX9_picks_2 : decode cX9_picks 2 = .ok (.invokevirtual 78, 3) := by decide +kernel
theorem dX9_picks_5 : decode cX9_picks 5 = .ok (.ifCond .eq 11, 3) := by decide +kernel
theorem dX9_picks_8 : decode cX9_picks 8 = .ok (.aload_n 0, 1) := by decide +kernel
theorem dX9_picks_9 : decode cX9_picks 9 = .ok (.iload_n 2, 1) := by decide +kernel
theorem dX9_picks_10 : decode cX9_picks 10 = .ok (.invokevirtual 110, 3) := by decide +kernel
theorem dX9_picks_13 : decode cX9_picks 13 = .ok (.ifCond .ne 5, 3) := by decide +kernel
theorem dX9_picks_16 : decode cX9_picks 16 = .ok (.iconst 1, 1) := by decide +kernel
theorem dX9_picks_17 : decode cX9_picks 17 = .ok (.ireturn, 1) := by decide +kernel
theorem dX9_picks_18 : decode cX9_picks 18 = .ok (.iload_n 3, 1) := by decide +kernel
theorem dX9_picks_19 : decode cX9_picks 19 = .ok (.iconst 0, 1) := by decide +kernel
theorem dX9_picks_20 : decode cX9_picks 20 = .ok (.iconst 3, 1) := by decide +kernel
theorem dX9_picks_21 : decode cX9_picks 21 = .ok (.invokestatic 61, 3) := by decide +kernel
theorem dX9_picks_24 : decode cX9_picks 24 = .ok (.ifCond .ne 5, 3) := by decide +kernel
theorem dX9_picks_27 : decode cX9_picks 27 = .ok (.iconst 2, 1) := by decide +kernel
theorem dX9_picks_28 : decode cX9_picks 28 = .ok (.ireturn, 1) := by decide +kernel
theorem dX9_picks_29 : decode cX9_picks 29 = .ok (.aload_n 0, 1) := by decide +kernel
theorem dX9_picks_30 : decode cX9_picks 30 = .ok (.iload_n 2, 1) := by decide +kernel
theorem dX9_picks_31 : decode cX9_picks 31 = .ok (.aload_n 0, 1) := by decide +kernel
theorem dX9_picks_32 : decode cX9_picks 32 = .ok (.iload_n 1, 1) := by decide +kernel
theorem dX9_picks_33 : decode cX9_picks 33 = .ok (.invokevirtual 69, 3) := by decide +kernel
theorem dX9_picks_36 : decode cX9_picks 36 = .ok (.invokevirtual 138, 3) := by decide +kernel
theorem dX9_picks_39 : decode cX9_picks 39 = .ok (.ifCond .eq 10, 3) := by decide +kernel
theorem dX9_picks_42 : decode cX9_picks 42 = .ok (.aload_n 0, 1) := by decide +kernel
theorem dX9_picks_43 : decode cX9_picks 43 = .ok (.iconst 4, 1) := by decide +kernel
theorem dX9_picks_44 : decode cX9_picks 44 = .ok (.iload_n 2, 1) := by decide +kernel
theorem dX9_picks_45 : decode cX9_picks 45 = .ok (.invokevirtual 85, 3) := by decide +kernel
theorem dX9_picks_48 : decode cX9_picks 48 = .ok (.ireturn, 1) := by decide +kernel
theorem dX9_picks_49 : decode cX9_picks 49 = .ok (.iload_n 2, 1) := by decide +kernel
theorem dX9_picks_50 : decode cX9_picks 50 = .ok (.ifCond .ne 11, 3) := by decide +kernel
theorem dX9_picks_53 : decode cX9_picks 53 = .ok (.aload_n 0, 1) := by decide +kernel
theorem dX9_picks_54 : decode cX9_picks 54 = .ok (.bipush 6, 2) := by decide +kernel
theorem dX9_picks_56 : decode cX9_picks 56 = .ok (.iconst 0, 1) := by decide +kernel
theorem dX9_picks_57 : decode cX9_picks 57 = .ok (.invokevirtual 85, 3) := by decide +kernel
theorem dX9_picks_60 : decode cX9_picks 60 = .ok (.ireturn, 1) := by decide +kernel
theorem dX9_picks_61 : decode cX9_picks 61 = .ok (.aload_n 0, 1) := by decide +kernel
theorem dX9_picks_62 : decode cX9_picks 62 = .ok (.aload_n 0, 1) := by decide +kernel
theorem dX9_picks_63 : decode cX9_picks 63 = .ok (.iload_n 1, 1) := by decide +kernel
theorem dX9_picks_64 : decode cX9_picks 64 = .ok (.invokevirtual 69, 3) := by decide +kernel
theorem dX9_picks_67 : decode cX9_picks 67 = .ok (.iload_n 2, 1) := by decide +kernel
theorem dX9_picks_68 : decode cX9_picks 68 = .ok (.aload_n 0, 1) := by decide +kernel
theorem dX9_picks_69 : decode cX9_picks 69 = .ok (.iload_n 2, 1) := by decide +kernel
theorem dX9_picks_70 : decode cX9_picks 70 = .ok (.iconst 1, 1) := by decide +kernel
theorem dX9_picks_71 : decode cX9_picks 71 = .ok (.invokevirtual 65, 3) := by decide +kernel
theorem dX9_picks_74 : decode cX9_picks 74 = .ok (.iload_n 3, 1) := by decide +kernel
theorem dX9_picks_75 : decode cX9_picks 75 = .ok (.invokevirtual 145, 3) := by decide +kernel
theorem dX9_picks_78 : decode cX9_picks 78 = .ok (.aload_n 0, 1) := by decide +kernel
theorem dX9_picks_79 : decode cX9_picks 79 = .ok (.iload_n 1, 1) := by decide +kernel
theorem dX9_picks_80 : decode cX9_picks 80 = .ok (.iload_n 3, 1) := by decide +kernel
theorem dX9_picks_81 : decode cX9_picks 81 = .ok (.invokevirtual 156, 3) := by decide +kernel
theorem dX9_picks_84 : decode cX9_picks 84 = .ok (.ireturn, 1) := by decide +kernel
theorem dX9_pick_0 : decode cX9_pick 0 = .ok (.aload_n 0, 1) := by decide +kernel
theorem dX9_pick_1 : decode cX9_pick 1 = .ok (.invokevirtual 95, 3) := by decide +kernel
theorem dX9_pick_4 : decode cX9_pick 4 = .ok (.aload_n 0, 1) := by decide +kernel
theorem dX9_pick_5 : decode cX9_pick 5 = .ok (.aload_n 0, 1) := by decide +kernel
theorem dX9_pick_6 : decode cX9_pick 6 = .ok (.iload_n 1, 1) := by decide +kernel
theorem dX9_pick_7 : decode cX9_pick 7 = .ok (.iload_n 2, 1) := by decide +kernel
theorem dX9_pick_8 : decode cX9_pick 8 = .ok (.iload_n 3, 1) := by decide +kernel
theorem dX9_pick_9 : decode cX9_pick 9 = .ok (.invokevirtual 159, 3) := by decide +kernel
theorem dX9_pick_12 : decode cX9_pick 12 = .ok (.invokevirtual 101, 3) := by decide +kernel
theorem dX9_pick_15 : decode cX9_pick 15 = .ok (.ireturn, 1) := by decide +kernel
theorem dX9_reverts_0 : decode cX9_reverts 0 = .ok (.aload_n 0, 1) := by decide +kernel
theorem dX9_reverts_1 : decode cX9_reverts 1 = .ok (.iload_n 1, 1) := by decide +kernel
theorem dX9_reverts_2 : decode cX9_reverts 2 = .ok (.invokevirtual 78, 3) := by decide +kernel
theorem dX9_reverts_5 : decode cX9_reverts 5 = .ok (.ifCond .eq 11, 3) := by decide +kernel
theorem dX9_reverts_8 : decode cX9_reverts 8 = .ok (.aload_n 0, 1) := by decide +kernel
theorem dX9_reverts_9 : decode cX9_reverts 9 = .ok (.iload_n 2, 1) := by decide +kernel
theorem dX9_reverts_10 : decode cX9_reverts 10 = .ok (.invokevirtual 110, 3) := by decide +kernel
theorem dX9_reverts_13 : decode cX9_reverts 13 = .ok (.ifCond .ne 5, 3) := by decide +kernel
theorem dX9_reverts_16 : decode cX9_reverts 16 = .ok (.iconst 1, 1) := by decide +kernel
theorem dX9_reverts_17 : decode cX9_reverts 17 = .ok (.ireturn, 1) := by decide +kernel
theorem dX9_reverts_18 : decode cX9_reverts 18 = .ok (.iload_n 3, 1) := by decide +kernel
theorem dX9_reverts_19 : decode cX9_reverts 19 = .ok (.iconst 0, 1) := by decide +kernel
theorem dX9_reverts_20 : decode cX9_reverts 20 = .ok (.iconst 3, 1) := by decide +kernel
theorem dX9_reverts_21 : decode cX9_reverts 21 = .ok (.invokestatic 61, 3) := by decide +kernel
theorem dX9_reverts_24 : decode cX9_reverts 24 = .ok (.ifCond .ne 5, 3) := by decide +kernel
theorem dX9_reverts_27 : decode cX9_reverts 27 = .ok (.iconst 2, 1) := by decide +kernel
theorem dX9_reverts_28 : decode cX9_reverts 28 = .ok (.ireturn, 1) := by decide +kernel
theorem dX9_reverts_29 : decode cX9_reverts 29 = .ok (.iload_n 2, 1) := by decide +kernel
theorem dX9_reverts_30 : decode cX9_reverts 30 = .ok (.ifCond .ne 11, 3) := by decide +kernel
theorem dX9_reverts_33 : decode cX9_reverts 33 = .ok (.aload_n 0, 1) := by decide +kernel
theorem dX9_reverts_34 : decode cX9_reverts 34 = .ok (.bipush 6, 2) := by decide +kernel
theorem dX9_reverts_36 : decode cX9_reverts 36 = .ok (.iconst 0, 1) := by decide +kernel
theorem dX9_reverts_37 : decode cX9_reverts 37 = .ok (.invokevirtual 85, 3) := by decide +kernel
theorem dX9_reverts_40 : decode cX9_reverts 40 = .ok (.ireturn, 1) := by decide +kernel
theorem dX9_reverts_41 : decode cX9_reverts 41 = .ok (.aload_n 0, 1) := by decide +kernel
theorem dX9_reverts_42 : decode cX9_reverts 42 = .ok (.iload_n 2, 1) := by decide +kernel
theorem dX9_reverts_43 : decode cX9_reverts 43 = .ok (.aload_n 0, 1) := by decide +kernel
theorem dX9_reverts_44 : decode cX9_reverts 44 = .ok (.iload_n 1, 1) := by decide +kernel
theorem dX9_reverts_45 : decode cX9_reverts 45 = .ok (.invokevirtual 69, 3) := by decide +kernel
theorem dX9_reverts_48 : decode cX9_reverts 48 = .ok (.invokevirtual 138, 3) := by decide +kernel
theorem dX9_reverts_51 : decode cX9_reverts 51 = .ok (.ifCond .ne 11, 3) := by decide +kernel
theorem dX9_reverts_54 : decode cX9_reverts 54 = .ok (.aload_n 0, 1) := by decide +kernel
theorem dX9_reverts_55 : decode cX9_reverts 55 = .ok (.bipush 8, 2) := by decide +kernel
theorem dX9_reverts_57 : decode cX9_reverts 57 = .ok (.iload_n 2, 1) := by decide +kernel
theorem dX9_reverts_58 : decode cX9_reverts 58 = .ok (.invokevirtual 85, 3) := by decide +kernel
theorem dX9_reverts_61 : decode cX9_reverts 61 = .ok (.ireturn, 1) := by decide +kernel
theorem dX9_reverts_62 : decode cX9_reverts 62 = .ok (.aload_n 0, 1) := by decide +kernel
theorem dX9_reverts_63 : decode cX9_reverts 63 = .ok (.aload_n 0, 1) := by decide +kernel
theorem dX9_reverts_64 : decode cX9_reverts 64 = .ok (.iload_n 1, 1) := by decide +kernel
theorem dX9_reverts_65 : decode cX9_reverts 65 = .ok (.invokevirtual 69, 3) := by decide +kernel
theorem dX9_reverts_68 : decode cX9_reverts 68 = .ok (.aload_n 0, 1) := by decide +kernel
theorem dX9_reverts_69 : decode cX9_reverts 69 = .ok (.iload_n 2, 1) := by decide +kernel
theorem dX9_reverts_70 : decode cX9_reverts 70 = .ok (.iconst 1, 1) := by decide +kernel
theorem dX9_reverts_71 : decode cX9_reverts 71 = .ok (.invokevirtual 65, 3) := by decide +kernel
theorem dX9_reverts_74 : decode cX9_reverts 74 = .ok (.iload_n 2, 1) := by decide +kernel
theorem dX9_reverts_75 : decode cX9_reverts 75 = .ok (.iload_n 3, 1) := by decide +kernel
theorem dX9_reverts_76 : decode cX9_reverts 76 = .ok (.invokevirtual 145, 3) := by decide +kernel
theorem dX9_reverts_79 : decode cX9_reverts 79 = .ok (.aload_n 0, 1) := by decide +kernel
theorem dX9_reverts_80 : decode cX9_reverts 80 = .ok (.iload_n 1, 1) := by decide +kernel
theorem dX9_reverts_81 : decode cX9_reverts 81 = .ok (.iload_n 3, 1) := by decide +kernel
theorem dX9_reverts_82 : decode cX9_reverts 82 = .ok (.invokevirtual 156, 3) := by decide +kernel
theorem dX9_reverts_85 : decode cX9_reverts 85 = .ok (.ireturn, 1) := by decide +kernel
theorem dX9_revert_0 : decode cX9_revert 0 = .ok (.aload_n 0, 1) := by decide +kernel
theorem dX9_revert_1 : decode cX9_revert 1 = .ok (.invokevirtual 95, 3) := by decide +kernel
theorem dX9_revert_4 : decode cX9_revert 4 = .ok (.aload_n 0, 1) := by decide +kernel
theorem dX9_revert_5 : decode cX9_revert 5 = .ok (.aload_n 0, 1) := by decide +kernel
theorem dX9_revert_6 : decode cX9_revert 6 = .ok (.iload_n 1, 1) := by decide +kernel
theorem dX9_revert_7 : decode cX9_revert 7 = .ok (.iload_n 2, 1) := by decide +kernel
theorem dX9_revert_8 : decode cX9_revert 8 = .ok (.iload_n 3, 1) := by decide +kernel
theorem dX9_revert_9 : decode cX9_revert 9 = .ok (.invokevirtual 162, 3) := by decide +kernel
theorem dX9_revert_12 : decode cX9_revert 12 = .ok (.invokevirtual 101, 3) := by decide +kernel
theorem dX9_revert_15 : decode cX9_revert 15 = .ok (.ireturn, 1) := by decide +kernel
theorem dX9_conflicts_0 : decode cX9_conflicts 0 = .ok (.aload_n 0, 1) := by decide +kernel
theorem dX9_conflicts_1 : decode cX9_conflicts 1 = .ok (.iconst 0, 1) := by decide +kernel
theorem dX9_conflicts_2 : decode cX9_conflicts 2 = .ok (.putfield 39, 3) := by decide +kernel
theorem dX9_conflicts_5 : decode cX9_conflicts 5 = .ok (.aload_n 0, 1) := by decide +kernel
theorem dX9_conflicts_6 : decode cX9_conflicts 6 = .ok (.iload_n 1, 1) := by decide +kernel
theorem dX9_conflicts_7 : decode cX9_conflicts 7 = .ok (.invokevirtual 78, 3) := by decide +kernel
theorem dX9_conflicts_10 : decode cX9_conflicts 10 = .ok (.ifCond .eq 11, 3) := by decide +kernel
theorem dX9_conflicts_13 : decode cX9_conflicts 13 = .ok (.aload_n 0, 1) := by decide +kernel
theorem dX9_conflicts_14 : decode cX9_conflicts 14 = .ok (.iload_n 2, 1) := by decide +kernel
theorem dX9_conflicts_15 : decode cX9_conflicts 15 = .ok (.invokevirtual 78, 3) := by decide +kernel
theorem dX9_conflicts_18 : decode cX9_conflicts 18 = .ok (.ifCond .ne 9, 3) := by decide +kernel
theorem dX9_conflicts_21 : decode cX9_conflicts 21 = .ok (.aload_n 0, 1) := by decide +kernel
theorem dX9_conflicts_22 : decode cX9_conflicts 22 = .ok (.iconst 1, 1) := by decide +kernel
theorem dX9_conflicts_23 : decode cX9_conflicts 23 = .ok (.invokevirtual 58, 3) := by decide +kernel
theorem dX9_conflicts_26 : decode cX9_conflicts 26 = .ok (.ireturn, 1) := by decide +kernel
theorem dX9_conflicts_27 : decode cX9_conflicts 27 = .ok (.aload_n 0, 1) := by decide +kernel
theorem dX9_conflicts_28 : decode cX9_conflicts 28 = .ok (.aload_n 0, 1) := by decide +kernel
theorem dX9_conflicts_29 : decode cX9_conflicts 29 = .ok (.iload_n 1, 1) := by decide +kernel
theorem dX9_conflicts_30 : decode cX9_conflicts 30 = .ok (.invokevirtual 69, 3) := by decide +kernel
theorem dX9_conflicts_33 : decode cX9_conflicts 33 = .ok (.aload_n 0, 1) := by decide +kernel
theorem dX9_conflicts_34 : decode cX9_conflicts 34 = .ok (.iload_n 2, 1) := by decide +kernel
theorem dX9_conflicts_35 : decode cX9_conflicts 35 = .ok (.invokevirtual 69, 3) := by decide +kernel
theorem dX9_conflicts_38 : decode cX9_conflicts 38 = .ok (.aload_n 0, 1) := by decide +kernel
theorem dX9_conflicts_39 : decode cX9_conflicts 39 = .ok (.aload_n 0, 1) := by decide +kernel
theorem dX9_conflicts_40 : decode cX9_conflicts 40 = .ok (.iload_n 1, 1) := by decide +kernel
theorem dX9_conflicts_41 : decode cX9_conflicts 41 = .ok (.invokevirtual 69, 3) := by decide +kernel
theorem dX9_conflicts_44 : decode cX9_conflicts 44 = .ok (.aload_n 0, 1) := by decide +kernel
theorem dX9_conflicts_45 : decode cX9_conflicts 45 = .ok (.iload_n 2, 1) := by decide +kernel
theorem dX9_conflicts_46 : decode cX9_conflicts 46 = .ok (.invokevirtual 69, 3) := by decide +kernel
theorem dX9_conflicts_49 : decode cX9_conflicts 49 = .ok (.invokevirtual 142, 3) := by decide +kernel
theorem dX9_conflicts_52 : decode cX9_conflicts 52 = .ok (.iconst 1, 1) := by decide +kernel
theorem dX9_conflicts_53 : decode cX9_conflicts 53 = .ok (.invokevirtual 145, 3) := by decide +kernel
theorem dX9_conflicts_56 : decode cX9_conflicts 56 = .ok (.aload_n 0, 1) := by decide +kernel
theorem dX9_conflicts_57 : decode cX9_conflicts 57 = .ok (.getfield 132, 3) := by decide +kernel
theorem dX9_conflicts_60 : decode cX9_conflicts 60 = .ok (.ireturn, 1) := by decide +kernel
theorem dX9_isIn_0 : decode cX9_isIn 0 = .ok (.aload_n 0, 1) := by decide +kernel
theorem dX9_isIn_1 : decode cX9_isIn 1 = .ok (.aload_n 0, 1) := by decide +kernel
theorem dX9_isIn_2 : decode cX9_isIn 2 = .ok (.iload_n 1, 1) := by decide +kernel
theorem dX9_isIn_3 : decode cX9_isIn 3 = .ok (.invokevirtual 110, 3) := by decide +kernel
theorem dX9_isIn_6 : decode cX9_isIn 6 = .ok (.ifCond .eq 15, 3) := by decide +kernel
theorem dX9_isIn_9 : decode cX9_isIn 9 = .ok (.aload_n 0, 1) := by decide +kernel
theorem dX9_isIn_10 : decode cX9_isIn 10 = .ok (.iload_n 2, 1) := by decide +kernel
theorem dX9_isIn_11 : decode cX9_isIn 11 = .ok (.invokevirtual 110, 3) := by decide +kernel
theorem dX9_isIn_14 : decode cX9_isIn 14 = .ok (.ifCond .eq 7, 3) := by decide +kernel
theorem dX9_isIn_17 : decode cX9_isIn 17 = .ok (.iconst 0, 1) := by decide +kernel
theorem dX9_isIn_18 : decode cX9_isIn 18 = .ok (.goto 4, 3) := by decide +kernel
theorem dX9_isIn_21 : decode cX9_isIn 21 = .ok (.iconst 1, 1) := by decide +kernel
theorem dX9_isIn_22 : decode cX9_isIn 22 = .ok (.putfield 39, 3) := by decide +kernel
theorem dX9_isIn_25 : decode cX9_isIn 25 = .ok (.aload_n 0, 1) := by decide +kernel
theorem dX9_isIn_26 : decode cX9_isIn 26 = .ok (.getfield 39, 3) := by decide +kernel
theorem dX9_isIn_29 : decode cX9_isIn 29 = .ok (.ifCond .ne 16, 3) := by decide +kernel
theorem dX9_isIn_32 : decode cX9_isIn 32 = .ok (.aload_n 0, 1) := by decide +kernel
theorem dX9_isIn_33 : decode cX9_isIn 33 = .ok (.iload_n 1, 1) := by decide +kernel
theorem dX9_isIn_34 : decode cX9_isIn 34 = .ok (.iload_n 2, 1) := by decide +kernel
theorem dX9_isIn_35 : decode cX9_isIn 35 = .ok (.invokevirtual 138, 3) := by decide +kernel
theorem dX9_isIn_38 : decode cX9_isIn 38 = .ok (.ifCond .eq 7, 3) := by decide +kernel
theorem dX9_isIn_41 : decode cX9_isIn 41 = .ok (.iconst 1, 1) := by decide +kernel
theorem dX9_isIn_42 : decode cX9_isIn 42 = .ok (.goto 4, 3) := by decide +kernel
theorem dX9_isIn_45 : decode cX9_isIn 45 = .ok (.iconst 0, 1) := by decide +kernel
theorem dX9_isIn_46 : decode cX9_isIn 46 = .ok (.ireturn, 1) := by decide +kernel
theorem dX9_base_0 : decode cX9_base 0 = .ok (.aload_n 0, 1) := by decide +kernel
theorem dX9_base_1 : decode cX9_base 1 = .ok (.iconst 0, 1) := by decide +kernel
theorem dX9_base_2 : decode cX9_base 2 = .ok (.putfield 39, 3) := by decide +kernel
theorem dX9_base_5 : decode cX9_base 5 = .ok (.aload_n 0, 1) := by decide +kernel
theorem dX9_base_6 : decode cX9_base 6 = .ok (.iload_n 1, 1) := by decide +kernel
theorem dX9_base_7 : decode cX9_base 7 = .ok (.invokevirtual 110, 3) := by decide +kernel
theorem dX9_base_10 : decode cX9_base 10 = .ok (.ifCond .eq 20, 3) := by decide +kernel
theorem dX9_base_13 : decode cX9_base 13 = .ok (.aload_n 0, 1) := by decide +kernel
theorem dX9_base_14 : decode cX9_base 14 = .ok (.iload_n 2, 1) := by decide +kernel
theorem dX9_base_15 : decode cX9_base 15 = .ok (.invokevirtual 110, 3) := by decide +kernel
theorem dX9_base_18 : decode cX9_base 18 = .ok (.ifCond .eq 12, 3) := by decide +kernel
theorem dX9_base_21 : decode cX9_base 21 = .ok (.aload_n 0, 1) := by decide +kernel
theorem dX9_base_22 : decode cX9_base 22 = .ok (.iload_n 1, 1) := by decide +kernel
theorem dX9_base_23 : decode cX9_base 23 = .ok (.iload_n 2, 1) := by decide +kernel
theorem dX9_base_24 : decode cX9_base 24 = .ok (.invokevirtual 142, 3) := by decide +kernel
theorem dX9_base_27 : decode cX9_base 27 = .ok (.goto 8, 3) := by decide +kernel
theorem dX9_base_30 : decode cX9_base 30 = .ok (.aload_n 0, 1) := by decide +kernel
theorem dX9_base_31 : decode cX9_base 31 = .ok (.iconst 1, 1) := by decide +kernel
theorem dX9_base_32 : decode cX9_base 32 = .ok (.invokevirtual 58, 3) := by decide +kernel
theorem dX9_base_35 : decode cX9_base 35 = .ok (.ireturn, 1) := by decide +kernel
theorem dX9_baseAgain_0 : decode cX9_baseAgain 0 = .ok (.aload_n 0, 1) := by decide +kernel
theorem dX9_baseAgain_1 : decode cX9_baseAgain 1 = .ok (.iload_n 1, 1) := by decide +kernel
theorem dX9_baseAgain_2 : decode cX9_baseAgain 2 = .ok (.iload_n 2, 1) := by decide +kernel
theorem dX9_baseAgain_3 : decode cX9_baseAgain 3 = .ok (.invokevirtual 165, 3) := by decide +kernel
theorem dX9_baseAgain_6 : decode cX9_baseAgain 6 = .ok (.ireturn, 1) := by decide +kernel
theorem dX9_difference_0 : decode cX9_difference 0 = .ok (.aload_n 0, 1) := by decide +kernel
theorem dX9_difference_1 : decode cX9_difference 1 = .ok (.iconst 0, 1) := by decide +kernel
theorem dX9_difference_2 : decode cX9_difference 2 = .ok (.putfield 39, 3) := by decide +kernel
theorem dX9_difference_5 : decode cX9_difference 5 = .ok (.aload_n 0, 1) := by decide +kernel
theorem dX9_difference_6 : decode cX9_difference 6 = .ok (.iload_n 1, 1) := by decide +kernel
theorem dX9_difference_7 : decode cX9_difference 7 = .ok (.invokevirtual 110, 3) := by decide +kernel
theorem dX9_difference_10 : decode cX9_difference 10 = .ok (.ifCond .eq 11, 3) := by decide +kernel
theorem dX9_difference_13 : decode cX9_difference 13 = .ok (.aload_n 0, 1) := by decide +kernel
theorem dX9_difference_14 : decode cX9_difference 14 = .ok (.iload_n 2, 1) := by decide +kernel
theorem dX9_difference_15 : decode cX9_difference 15 = .ok (.invokevirtual 110, 3) := by decide +kernel
theorem dX9_difference_18 : decode cX9_difference 18 = .ok (.ifCond .ne 9, 3) := by decide +kernel
theorem dX9_difference_21 : decode cX9_difference 21 = .ok (.aload_n 0, 1) := by decide +kernel
theorem dX9_difference_22 : decode cX9_difference 22 = .ok (.iconst 1, 1) := by decide +kernel
theorem dX9_difference_23 : decode cX9_difference 23 = .ok (.invokevirtual 58, 3) := by decide +kernel
theorem dX9_difference_26 : decode cX9_difference 26 = .ok (.ireturn, 1) := by decide +kernel
theorem dX9_difference_27 : decode cX9_difference 27 = .ok (.iconst 0, 1) := by decide +kernel
theorem dX9_difference_28 : decode cX9_difference 28 = .ok (.istore_n 3, 1) := by decide +kernel
theorem dX9_difference_29 : decode cX9_difference 29 = .ok (.iconst 0, 1) := by decide +kernel
theorem dX9_difference_30 : decode cX9_difference 30 = .ok (.istore 4, 2) := by decide +kernel
theorem dX9_difference_32 : decode cX9_difference 32 = .ok (.iload 4, 2) := by decide +kernel
theorem dX9_difference_34 : decode cX9_difference 34 = .ok (.bipush 6, 2) := by decide +kernel
theorem dX9_difference_36 : decode cX9_difference 36 = .ok (.if_icmp .ge 30, 3) := by decide +kernel
theorem dX9_difference_39 : decode cX9_difference 39 = .ok (.iload_n 3, 1) := by decide +kernel
theorem dX9_difference_40 : decode cX9_difference 40 = .ok (.aload_n 0, 1) := by decide +kernel
theorem dX9_difference_41 : decode cX9_difference 41 = .ok (.iload_n 1, 1) := by decide +kernel
theorem dX9_difference_42 : decode cX9_difference 42 = .ok (.iload 4, 2) := by decide +kernel
theorem dX9_difference_44 : decode cX9_difference 44 = .ok (.invokevirtual 72, 3) := by decide +kernel
theorem dX9_difference_47 : decode cX9_difference 47 = .ok (.aload_n 0, 1) := by decide +kernel
theorem dX9_difference_48 : decode cX9_difference 48 = .ok (.iload_n 2, 1) := by decide +kernel
theorem dX9_difference_49 : decode cX9_difference 49 = .ok (.iload 4, 2) := by decide +kernel
theorem dX9_difference_51 : decode cX9_difference 51 = .ok (.invokevirtual 72, 3) := by decide +kernel
theorem dX9_difference_54 : decode cX9_difference 54 = .ok (.isub, 1) := by decide +kernel
theorem dX9_difference_55 : decode cX9_difference 55 = .ok (.invokestatic 168, 3) := by decide +kernel
theorem dX9_difference_58 : decode cX9_difference 58 = .ok (.iadd, 1) := by decide +kernel
theorem dX9_difference_59 : decode cX9_difference 59 = .ok (.istore_n 3, 1) := by decide +kernel
theorem dX9_difference_60 : decode cX9_difference 60 = .ok (.iinc 4 1, 3) := by decide +kernel
theorem dX9_difference_63 : decode cX9_difference 63 = .ok (.goto (-31), 3) := by decide +kernel
theorem dX9_difference_66 : decode cX9_difference 66 = .ok (.iload_n 3, 1) := by decide +kernel
theorem dX9_difference_67 : decode cX9_difference 67 = .ok (.ireturn, 1) := by decide +kernel
theorem dX9_far_0 : decode cX9_far 0 = .ok (.iconst 0, 1) := by decide +kernel
theorem dX9_far_1 : decode cX9_far 1 = .ok (.istore_n 2, 1) := by decide +kernel
theorem dX9_far_2 : decode cX9_far 2 = .ok (.aload_n 0, 1) := by decide +kernel
theorem dX9_far_3 : decode cX9_far 3 = .ok (.iload_n 1, 1) := by decide +kernel
theorem dX9_far_4 : decode cX9_far 4 = .ok (.invokevirtual 69, 3) := by decide +kernel
theorem dX9_far_7 : decode cX9_far 7 = .ok (.istore_n 3, 1) := by decide +kernel
theorem dX9_far_8 : decode cX9_far 8 = .ok (.iload_n 3, 1) := by decide +kernel
theorem dX9_far_9 : decode cX9_far 9 = .ok (.ifCond .le 16, 3) := by decide +kernel
theorem dX9_far_12 : decode cX9_far 12 = .ok (.iinc 2 1, 3) := by decide +kernel
theorem dX9_far_15 : decode cX9_far 15 = .ok (.aload_n 0, 1) := by decide +kernel
theorem dX9_far_16 : decode cX9_far 16 = .ok (.iload_n 3, 1) := by decide +kernel
theorem dX9_far_17 : decode cX9_far 17 = .ok (.iconst 1, 1) := by decide +kernel
theorem dX9_far_18 : decode cX9_far 18 = .ok (.invokevirtual 65, 3) := by decide +kernel
theorem dX9_far_21 : decode cX9_far 21 = .ok (.istore_n 3, 1) := by decide +kernel
theorem dX9_far_22 : decode cX9_far 22 = .ok (.goto (-14), 3) := by decide +kernel
theorem dX9_far_25 : decode cX9_far 25 = .ok (.iload_n 2, 1) := by decide +kernel
theorem dX9_far_26 : decode cX9_far 26 = .ok (.ireturn, 1) := by decide +kernel
theorem dX9_onLineOf_0 : decode cX9_onLineOf 0 = .ok (.aload_n 0, 1) := by decide +kernel
theorem dX9_onLineOf_1 : decode cX9_onLineOf 1 = .ok (.iload_n 1, 1) := by decide +kernel
theorem dX9_onLineOf_2 : decode cX9_onLineOf 2 = .ok (.invokevirtual 69, 3) := by decide +kernel
theorem dX9_onLineOf_5 : decode cX9_onLineOf 5 = .ok (.istore_n 3, 1) := by decide +kernel
theorem dX9_onLineOf_6 : decode cX9_onLineOf 6 = .ok (.iconst 0, 1) := by decide +kernel
theorem dX9_onLineOf_7 : decode cX9_onLineOf 7 = .ok (.istore 4, 2) := by decide +kernel
theorem dX9_onLineOf_9 : decode cX9_onLineOf 9 = .ok (.iload 4, 2) := by decide +kernel
theorem dX9_onLineOf_11 : decode cX9_onLineOf 11 = .ok (.iload_n 2, 1) := by decide +kernel
theorem dX9_onLineOf_12 : decode cX9_onLineOf 12 = .ok (.if_icmp .ge 16, 3) := by decide +kernel
theorem dX9_onLineOf_15 : decode cX9_onLineOf 15 = .ok (.aload_n 0, 1) := by decide +kernel
theorem dX9_onLineOf_16 : decode cX9_onLineOf 16 = .ok (.iload_n 3, 1) := by decide +kernel
theorem dX9_onLineOf_17 : decode cX9_onLineOf 17 = .ok (.iconst 1, 1) := by decide +kernel
theorem dX9_onLineOf_18 : decode cX9_onLineOf 18 = .ok (.invokevirtual 65, 3) := by decide +kernel
theorem dX9_onLineOf_21 : decode cX9_onLineOf 21 = .ok (.istore_n 3, 1) := by decide +kernel
theorem dX9_onLineOf_22 : decode cX9_onLineOf 22 = .ok (.iinc 4 1, 3) := by decide +kernel
theorem dX9_onLineOf_25 : decode cX9_onLineOf 25 = .ok (.goto (-16), 3) := by decide +kernel
theorem dX9_onLineOf_28 : decode cX9_onLineOf 28 = .ok (.iload_n 3, 1) := by decide +kernel
theorem dX9_onLineOf_29 : decode cX9_onLineOf 29 = .ok (.ireturn, 1) := by decide +kernel
theorem dX9_onLine_0 : decode cX9_onLine 0 = .ok (.aload_n 0, 1) := by decide +kernel
theorem dX9_onLine_1 : decode cX9_onLine 1 = .ok (.iconst 0, 1) := by decide +kernel
theorem dX9_onLine_2 : decode cX9_onLine 2 = .ok (.putfield 39, 3) := by decide +kernel
theorem dX9_onLine_5 : decode cX9_onLine 5 = .ok (.aload_n 0, 1) := by decide +kernel
theorem dX9_onLine_6 : decode cX9_onLine 6 = .ok (.iload_n 1, 1) := by decide +kernel
theorem dX9_onLine_7 : decode cX9_onLine 7 = .ok (.invokevirtual 78, 3) := by decide +kernel
theorem dX9_onLine_10 : decode cX9_onLine 10 = .ok (.ifCond .ne 9, 3) := by decide +kernel
theorem dX9_onLine_13 : decode cX9_onLine 13 = .ok (.aload_n 0, 1) := by decide +kernel
theorem dX9_onLine_14 : decode cX9_onLine 14 = .ok (.iconst 1, 1) := by decide +kernel
theorem dX9_onLine_15 : decode cX9_onLine 15 = .ok (.invokevirtual 58, 3) := by decide +kernel
theorem dX9_onLine_18 : decode cX9_onLine 18 = .ok (.ireturn, 1) := by decide +kernel
theorem dX9_onLine_19 : decode cX9_onLine 19 = .ok (.iload_n 2, 1) := by decide +kernel
theorem dX9_onLine_20 : decode cX9_onLine 20 = .ok (.iconst 0, 1) := by decide +kernel
theorem dX9_onLine_21 : decode cX9_onLine 21 = .ok (.aload_n 0, 1) := by decide +kernel
theorem dX9_onLine_22 : decode cX9_onLine 22 = .ok (.iload_n 1, 1) := by decide +kernel
theorem dX9_onLine_23 : decode cX9_onLine 23 = .ok (.invokevirtual 171, 3) := by decide +kernel
theorem dX9_onLine_26 : decode cX9_onLine 26 = .ok (.invokestatic 61, 3) := by decide +kernel
theorem dX9_onLine_29 : decode cX9_onLine 29 = .ok (.ifCond .eq 12, 3) := by decide +kernel
theorem dX9_onLine_32 : decode cX9_onLine 32 = .ok (.aload_n 0, 1) := by decide +kernel
theorem dX9_onLine_33 : decode cX9_onLine 33 = .ok (.iload_n 1, 1) := by decide +kernel
theorem dX9_onLine_34 : decode cX9_onLine 34 = .ok (.iload_n 2, 1) := by decide +kernel
theorem dX9_onLine_35 : decode cX9_onLine 35 = .ok (.invokevirtual 174, 3) := by decide +kernel
theorem dX9_onLine_38 : decode cX9_onLine 38 = .ok (.goto 8, 3) := by decide +kernel
theorem dX9_onLine_41 : decode cX9_onLine 41 = .ok (.aload_n 0, 1) := by decide +kernel
theorem dX9_onLine_42 : decode cX9_onLine 42 = .ok (.iconst 2, 1) := by decide +kernel
theorem dX9_onLine_43 : decode cX9_onLine 43 = .ok (.invokevirtual 58, 3) := by decide +kernel
theorem dX9_onLine_46 : decode cX9_onLine 46 = .ok (.ireturn, 1) := by decide +kernel
theorem dX9_isBad_0 : decode cX9_isBad 0 = .ok (.aload_n 0, 1) := by decide +kernel
theorem dX9_isBad_1 : decode cX9_isBad 1 = .ok (.iload_n 1, 1) := by decide +kernel
theorem dX9_isBad_2 : decode cX9_isBad 2 = .ok (.iload_n 2, 1) := by decide +kernel
theorem dX9_isBad_3 : decode cX9_isBad 3 = .ok (.invokevirtual 72, 3) := by decide +kernel
theorem dX9_isBad_6 : decode cX9_isBad 6 = .ok (.iload_n 3, 1) := by decide +kernel
theorem dX9_isBad_7 : decode cX9_isBad 7 = .ok (.if_icmp .le 7, 3) := by decide +kernel
theorem dX9_isBad_10 : decode cX9_isBad 10 = .ok (.iconst 1, 1) := by decide +kernel
theorem dX9_isBad_11 : decode cX9_isBad 11 = .ok (.goto 4, 3) := by decide +kernel
theorem dX9_isBad_14 : decode cX9_isBad 14 = .ok (.iconst 0, 1) := by decide +kernel
theorem dX9_isBad_15 : decode cX9_isBad 15 = .ok (.ireturn, 1) := by decide +kernel
theorem dX9_halve_0 : decode cX9_halve 0 = .ok (.aload_n 0, 1) := by decide +kernel
theorem dX9_halve_1 : decode cX9_halve 1 = .ok (.iconst 0, 1) := by decide +kernel
theorem dX9_halve_2 : decode cX9_halve 2 = .ok (.putfield 39, 3) := by decide +kernel
theorem dX9_halve_5 : decode cX9_halve 5 = .ok (.aload_n 0, 1) := by decide +kernel
theorem dX9_halve_6 : decode cX9_halve 6 = .ok (.iload_n 1, 1) := by decide +kernel
theorem dX9_halve_7 : decode cX9_halve 7 = .ok (.invokevirtual 78, 3) := by decide +kernel
theorem dX9_halve_10 : decode cX9_halve 10 = .ok (.ifCond .eq 10, 3) := by decide +kernel
theorem dX9_halve_13 : decode cX9_halve 13 = .ok (.iload_n 2, 1) := by decide +kernel
theorem dX9_halve_14 : decode cX9_halve 14 = .ok (.invokestatic 82, 3) := by decide +kernel
theorem dX9_halve_17 : decode cX9_halve 17 = .ok (.ifCond .ne 9, 3) := by decide +kernel
theorem dX9_halve_20 : decode cX9_halve 20 = .ok (.aload_n 0, 1) := by decide +kernel
theorem dX9_halve_21 : decode cX9_halve 21 = .ok (.iconst 1, 1) := by decide +kernel
theorem dX9_halve_22 : decode cX9_halve 22 = .ok (.invokevirtual 58, 3) := by decide +kernel
theorem dX9_halve_25 : decode cX9_halve 25 = .ok (.ireturn, 1) := by decide +kernel
theorem dX9_halve_26 : decode cX9_halve 26 = .ok (.iload_n 3, 1) := by decide +kernel
theorem dX9_halve_27 : decode cX9_halve 27 = .ok (.iconst 0, 1) := by decide +kernel
theorem dX9_halve_28 : decode cX9_halve 28 = .ok (.bipush 99, 2) := by decide +kernel
theorem dX9_halve_30 : decode cX9_halve 30 = .ok (.invokestatic 61, 3) := by decide +kernel
theorem dX9_halve_33 : decode cX9_halve 33 = .ok (.ifCond .ne 9, 3) := by decide +kernel
theorem dX9_halve_36 : decode cX9_halve 36 = .ok (.aload_n 0, 1) := by decide +kernel
theorem dX9_halve_37 : decode cX9_halve 37 = .ok (.iconst 2, 1) := by decide +kernel
theorem dX9_halve_38 : decode cX9_halve 38 = .ok (.invokevirtual 58, 3) := by decide +kernel
theorem dX9_halve_41 : decode cX9_halve 41 = .ok (.ireturn, 1) := by decide +kernel
theorem dX9_halve_42 : decode cX9_halve 42 = .ok (.aload_n 0, 1) := by decide +kernel
theorem dX9_halve_43 : decode cX9_halve 43 = .ok (.aload_n 0, 1) := by decide +kernel
theorem dX9_halve_44 : decode cX9_halve 44 = .ok (.iload_n 1, 1) := by decide +kernel
theorem dX9_halve_45 : decode cX9_halve 45 = .ok (.invokevirtual 69, 3) := by decide +kernel
theorem dX9_halve_48 : decode cX9_halve 48 = .ok (.iload_n 2, 1) := by decide +kernel
theorem dX9_halve_49 : decode cX9_halve 49 = .ok (.iload_n 3, 1) := by decide +kernel
theorem dX9_halve_50 : decode cX9_halve 50 = .ok (.invokevirtual 177, 3) := by decide +kernel
theorem dX9_halve_53 : decode cX9_halve 53 = .ok (.ifCond .ne 9, 3) := by decide +kernel
theorem dX9_halve_56 : decode cX9_halve 56 = .ok (.aload_n 0, 1) := by decide +kernel
theorem dX9_halve_57 : decode cX9_halve 57 = .ok (.iconst 3, 1) := by decide +kernel
theorem dX9_halve_58 : decode cX9_halve 58 = .ok (.invokevirtual 58, 3) := by decide +kernel
theorem dX9_halve_61 : decode cX9_halve 61 = .ok (.ireturn, 1) := by decide +kernel
theorem dX9_halve_62 : decode cX9_halve 62 = .ok (.iconst 0, 1) := by decide +kernel
theorem dX9_halve_63 : decode cX9_halve 63 = .ok (.istore 5, 2) := by decide +kernel
theorem dX9_halve_65 : decode cX9_halve 65 = .ok (.aload_n 0, 1) := by decide +kernel
theorem dX9_halve_66 : decode cX9_halve 66 = .ok (.iload_n 1, 1) := by decide +kernel
theorem dX9_halve_67 : decode cX9_halve 67 = .ok (.invokevirtual 171, 3) := by decide +kernel
theorem dX9_halve_70 : decode cX9_halve 70 = .ok (.istore 6, 2) := by decide +kernel
theorem dX9_halve_72 : decode cX9_halve 72 = .ok (.iconst 0, 1) := by decide +kernel
theorem dX9_halve_73 : decode cX9_halve 73 = .ok (.istore 7, 2) := by decide +kernel
theorem dX9_halve_75 : decode cX9_halve 75 = .ok (.iload 6, 2) := by decide +kernel
theorem dX9_halve_77 : decode cX9_halve 77 = .ok (.iload 5, 2) := by decide +kernel
theorem dX9_halve_79 : decode cX9_halve 79 = .ok (.isub, 1) := by decide +kernel
theorem dX9_halve_80 : decode cX9_halve 80 = .ok (.iconst 1, 1) := by decide +kernel
theorem dX9_halve_81 : decode cX9_halve 81 = .ok (.if_icmp .le 45, 3) := by decide +kernel
theorem dX9_halve_84 : decode cX9_halve 84 = .ok (.iload 5, 2) := by decide +kernel
theorem dX9_halve_86 : decode cX9_halve 86 = .ok (.iload 6, 2) := by decide +kernel
theorem dX9_halve_88 : decode cX9_halve 88 = .ok (.iadd, 1) := by decide +kernel
theorem dX9_halve_89 : decode cX9_halve 89 = .ok (.iconst 2, 1) := by decide +kernel
theorem dX9_halve_90 : decode cX9_halve 90 = .ok (.idiv, 1) := by decide +kernel
theorem dX9_halve_91 : decode cX9_halve 91 = .ok (.istore 8, 2) := by decide +kernel
theorem dX9_halve_93 : decode cX9_halve 93 = .ok (.iinc 7 1, 3) := by decide +kernel
theorem dX9_halve_96 : decode cX9_halve 96 = .ok (.aload_n 0, 1) := by decide +kernel
theorem dX9_halve_97 : decode cX9_halve 97 = .ok (.aload_n 0, 1) := by decide +kernel
theorem dX9_halve_98 : decode cX9_halve 98 = .ok (.iload_n 1, 1) := by decide +kernel
theorem dX9_halve_99 : decode cX9_halve 99 = .ok (.iload 8, 2) := by decide +kernel
theorem dX9_halve_101 : decode cX9_halve 101 = .ok (.invokevirtual 174, 3) := by decide +kernel
theorem dX9_halve_104 : decode cX9_halve 104 = .ok (.iload_n 2, 1) := by decide +kernel
theorem dX9_halve_105 : decode cX9_halve 105 = .ok (.iload_n 3, 1) := by decide +kernel
theorem dX9_halve_106 : decode cX9_halve 106 = .ok (.invokevirtual 177, 3) := by decide +kernel
theorem dX9_halve_109 : decode cX9_halve 109 = .ok (.ifCond .eq 10, 3) := by decide +kernel
theorem dX9_halve_112 : decode cX9_halve 112 = .ok (.iload 8, 2) := by decide +kernel
theorem dX9_halve_114 : decode cX9_halve 114 = .ok (.istore 5, 2) := by decide +kernel
theorem dX9_halve_116 : decode cX9_halve 116 = .ok (.goto 7, 3) := by decide +kernel
theorem dX9_halve_119 : decode cX9_halve 119 = .ok (.iload 8, 2) := by decide +kernel
theorem dX9_halve_121 : decode cX9_halve 121 = .ok (.istore 6, 2) := by decide +kernel
theorem dX9_halve_123 : decode cX9_halve 123 = .ok (.goto (-48), 3) := by decide +kernel
theorem dX9_halve_126 : decode cX9_halve 126 = .ok (.iload 4, 2) := by decide +kernel
theorem dX9_halve_128 : decode cX9_halve 128 = .ok (.ifCond .eq 8, 3) := by decide +kernel
theorem dX9_halve_131 : decode cX9_halve 131 = .ok (.iload 7, 2) := by decide +kernel
theorem dX9_halve_133 : decode cX9_halve 133 = .ok (.goto 10, 3) := by decide +kernel
theorem dX9_halve_136 : decode cX9_halve 136 = .ok (.aload_n 0, 1) := by decide +kernel
theorem dX9_halve_137 : decode cX9_halve 137 = .ok (.iload_n 1, 1) := by decide +kernel
theorem dX9_halve_138 : decode cX9_halve 138 = .ok (.iload 5, 2) := by decide +kernel
theorem dX9_halve_140 : decode cX9_halve 140 = .ok (.invokevirtual 174, 3) := by decide +kernel
theorem dX9_halve_143 : decode cX9_halve 143 = .ok (.ireturn, 1) := by decide +kernel
theorem dX9_firstBad_0 : decode cX9_firstBad 0 = .ok (.aload_n 0, 1) := by decide +kernel
theorem dX9_firstBad_1 : decode cX9_firstBad 1 = .ok (.iconst 0, 1) := by decide +kernel
theorem dX9_firstBad_2 : decode cX9_firstBad 2 = .ok (.putfield 39, 3) := by decide +kernel
theorem dX9_firstBad_5 : decode cX9_firstBad 5 = .ok (.aload_n 0, 1) := by decide +kernel
theorem dX9_firstBad_6 : decode cX9_firstBad 6 = .ok (.iload_n 1, 1) := by decide +kernel
theorem dX9_firstBad_7 : decode cX9_firstBad 7 = .ok (.invokevirtual 78, 3) := by decide +kernel
theorem dX9_firstBad_10 : decode cX9_firstBad 10 = .ok (.ifCond .eq 10, 3) := by decide +kernel
theorem dX9_firstBad_13 : decode cX9_firstBad 13 = .ok (.iload_n 2, 1) := by decide +kernel
theorem dX9_firstBad_14 : decode cX9_firstBad 14 = .ok (.invokestatic 82, 3) := by decide +kernel
theorem dX9_firstBad_17 : decode cX9_firstBad 17 = .ok (.ifCond .ne 9, 3) := by decide +kernel
theorem dX9_firstBad_20 : decode cX9_firstBad 20 = .ok (.aload_n 0, 1) := by decide +kernel
theorem dX9_firstBad_21 : decode cX9_firstBad 21 = .ok (.iconst 1, 1) := by decide +kernel
theorem dX9_firstBad_22 : decode cX9_firstBad 22 = .ok (.invokevirtual 58, 3) := by decide +kernel
theorem dX9_firstBad_25 : decode cX9_firstBad 25 = .ok (.ireturn, 1) := by decide +kernel
theorem dX9_firstBad_26 : decode cX9_firstBad 26 = .ok (.iload_n 3, 1) := by decide +kernel
theorem dX9_firstBad_27 : decode cX9_firstBad 27 = .ok (.iconst 0, 1) := by decide +kernel
theorem dX9_firstBad_28 : decode cX9_firstBad 28 = .ok (.bipush 99, 2) := by decide +kernel
theorem dX9_firstBad_30 : decode cX9_firstBad 30 = .ok (.invokestatic 61, 3) := by decide +kernel
theorem dX9_firstBad_33 : decode cX9_firstBad 33 = .ok (.ifCond .ne 9, 3) := by decide +kernel
theorem dX9_firstBad_36 : decode cX9_firstBad 36 = .ok (.aload_n 0, 1) := by decide +kernel
theorem dX9_firstBad_37 : decode cX9_firstBad 37 = .ok (.iconst 2, 1) := by decide +kernel
theorem dX9_firstBad_38 : decode cX9_firstBad 38 = .ok (.invokevirtual 58, 3) := by decide +kernel
theorem dX9_firstBad_41 : decode cX9_firstBad 41 = .ok (.ireturn, 1) := by decide +kernel
theorem dX9_firstBad_42 : decode cX9_firstBad 42 = .ok (.aload_n 0, 1) := by decide +kernel
theorem dX9_firstBad_43 : decode cX9_firstBad 43 = .ok (.iload_n 1, 1) := by decide +kernel
theorem dX9_firstBad_44 : decode cX9_firstBad 44 = .ok (.invokevirtual 171, 3) := by decide +kernel
theorem dX9_firstBad_47 : decode cX9_firstBad 47 = .ok (.istore 4, 2) := by decide +kernel
theorem dX9_firstBad_49 : decode cX9_firstBad 49 = .ok (.iload 4, 2) := by decide +kernel
theorem dX9_firstBad_51 : decode cX9_firstBad 51 = .ok (.ifCond .lt 33, 3) := by decide +kernel
theorem dX9_firstBad_54 : decode cX9_firstBad 54 = .ok (.aload_n 0, 1) := by decide +kernel
theorem dX9_firstBad_55 : decode cX9_firstBad 55 = .ok (.aload_n 0, 1) := by decide +kernel
theorem dX9_firstBad_56 : decode cX9_firstBad 56 = .ok (.iload_n 1, 1) := by decide +kernel
theorem dX9_firstBad_57 : decode cX9_firstBad 57 = .ok (.iload 4, 2) := by decide +kernel
theorem dX9_firstBad_59 : decode cX9_firstBad 59 = .ok (.invokevirtual 174, 3) := by decide +kernel
theorem dX9_firstBad_62 : decode cX9_firstBad 62 = .ok (.iload_n 2, 1) := by decide +kernel
theorem dX9_firstBad_63 : decode cX9_firstBad 63 = .ok (.iload_n 3, 1) := by decide +kernel
theorem dX9_firstBad_64 : decode cX9_firstBad 64 = .ok (.invokevirtual 177, 3) := by decide +kernel
theorem dX9_firstBad_67 : decode cX9_firstBad 67 = .ok (.ifCond .eq 11, 3) := by decide +kernel
theorem dX9_firstBad_70 : decode cX9_firstBad 70 = .ok (.aload_n 0, 1) := by decide +kernel
theorem dX9_firstBad_71 : decode cX9_firstBad 71 = .ok (.iload_n 1, 1) := by decide +kernel
theorem dX9_firstBad_72 : decode cX9_firstBad 72 = .ok (.iload 4, 2) := by decide +kernel
theorem dX9_firstBad_74 : decode cX9_firstBad 74 = .ok (.invokevirtual 174, 3) := by decide +kernel
theorem dX9_firstBad_77 : decode cX9_firstBad 77 = .ok (.ireturn, 1) := by decide +kernel
theorem dX9_firstBad_78 : decode cX9_firstBad 78 = .ok (.iinc 4 (-1), 3) := by decide +kernel
theorem dX9_firstBad_81 : decode cX9_firstBad 81 = .ok (.goto (-32), 3) := by decide +kernel
theorem dX9_firstBad_84 : decode cX9_firstBad 84 = .ok (.aload_n 0, 1) := by decide +kernel
theorem dX9_firstBad_85 : decode cX9_firstBad 85 = .ok (.iconst 3, 1) := by decide +kernel
theorem dX9_firstBad_86 : decode cX9_firstBad 86 = .ok (.invokevirtual 58, 3) := by decide +kernel
theorem dX9_firstBad_89 : decode cX9_firstBad 89 = .ok (.ireturn, 1) := by decide +kernel
theorem dX9_blame_0 : decode cX9_blame 0 = .ok (.aload_n 0, 1) := by decide +kernel
theorem dX9_blame_1 : decode cX9_blame 1 = .ok (.iconst 0, 1) := by decide +kernel
theorem dX9_blame_2 : decode cX9_blame 2 = .ok (.putfield 39, 3) := by decide +kernel
theorem dX9_blame_5 : decode cX9_blame 5 = .ok (.aload_n 0, 1) := by decide +kernel
theorem dX9_blame_6 : decode cX9_blame 6 = .ok (.iload_n 1, 1) := by decide +kernel
theorem dX9_blame_7 : decode cX9_blame 7 = .ok (.invokevirtual 78, 3) := by decide +kernel
theorem dX9_blame_10 : decode cX9_blame 10 = .ok (.ifCond .eq 10, 3) := by decide +kernel
theorem dX9_blame_13 : decode cX9_blame 13 = .ok (.iload_n 2, 1) := by decide +kernel
theorem dX9_blame_14 : decode cX9_blame 14 = .ok (.invokestatic 82, 3) := by decide +kernel
theorem dX9_blame_17 : decode cX9_blame 17 = .ok (.ifCond .ne 9, 3) := by decide +kernel
theorem dX9_blame_20 : decode cX9_blame 20 = .ok (.aload_n 0, 1) := by decide +kernel
theorem dX9_blame_21 : decode cX9_blame 21 = .ok (.iconst 1, 1) := by decide +kernel
theorem dX9_blame_22 : decode cX9_blame 22 = .ok (.invokevirtual 58, 3) := by decide +kernel
theorem dX9_blame_25 : decode cX9_blame 25 = .ok (.ireturn, 1) := by decide +kernel
theorem dX9_blame_26 : decode cX9_blame 26 = .ok (.aload_n 0, 1) := by decide +kernel
theorem dX9_blame_27 : decode cX9_blame 27 = .ok (.iload_n 1, 1) := by decide +kernel
theorem dX9_blame_28 : decode cX9_blame 28 = .ok (.invokevirtual 69, 3) := by decide +kernel
theorem dX9_blame_31 : decode cX9_blame 31 = .ok (.istore_n 3, 1) := by decide +kernel
theorem dX9_blame_32 : decode cX9_blame 32 = .ok (.iload_n 3, 1) := by decide +kernel
theorem dX9_blame_33 : decode cX9_blame 33 = .ok (.ifCond .le 33, 3) := by decide +kernel
theorem dX9_blame_36 : decode cX9_blame 36 = .ok (.aload_n 0, 1) := by decide +kernel
theorem dX9_blame_37 : decode cX9_blame 37 = .ok (.iload_n 3, 1) := by decide +kernel
theorem dX9_blame_38 : decode cX9_blame 38 = .ok (.iload_n 2, 1) := by decide +kernel
theorem dX9_blame_39 : decode cX9_blame 39 = .ok (.invokevirtual 72, 3) := by decide +kernel
theorem dX9_blame_42 : decode cX9_blame 42 = .ok (.aload_n 0, 1) := by decide +kernel
theorem dX9_blame_43 : decode cX9_blame 43 = .ok (.aload_n 0, 1) := by decide +kernel
theorem dX9_blame_44 : decode cX9_blame 44 = .ok (.iload_n 3, 1) := by decide +kernel
theorem dX9_blame_45 : decode cX9_blame 45 = .ok (.iconst 1, 1) := by decide +kernel
theorem dX9_blame_46 : decode cX9_blame 46 = .ok (.invokevirtual 65, 3) := by decide +kernel
theorem dX9_blame_49 : decode cX9_blame 49 = .ok (.iload_n 2, 1) := by decide +kernel
theorem dX9_blame_50 : decode cX9_blame 50 = .ok (.invokevirtual 72, 3) := by decide +kernel
theorem dX9_blame_53 : decode cX9_blame 53 = .ok (.if_icmp .ne 13, 3) := by decide +kernel
theorem dX9_blame_56 : decode cX9_blame 56 = .ok (.aload_n 0, 1) := by decide +kernel
theorem dX9_blame_57 : decode cX9_blame 57 = .ok (.iload_n 3, 1) := by decide +kernel
theorem dX9_blame_58 : decode cX9_blame 58 = .ok (.iconst 1, 1) := by decide +kernel
theorem dX9_blame_59 : decode cX9_blame 59 = .ok (.invokevirtual 65, 3) := by decide +kernel
theorem dX9_blame_62 : decode cX9_blame 62 = .ok (.istore_n 3, 1) := by decide +kernel
theorem dX9_blame_63 : decode cX9_blame 63 = .ok (.goto (-31), 3) := by decide +kernel
theorem dX9_blame_66 : decode cX9_blame 66 = .ok (.iload_n 3, 1) := by decide +kernel
theorem dX9_blame_67 : decode cX9_blame 67 = .ok (.ireturn, 1) := by decide +kernel
theorem dX9_tasteOf_0 : decode cX9_tasteOf 0 = .ok (.fconst 0, 1) := by decide +kernel
theorem dX9_tasteOf_1 : decode cX9_tasteOf 1 = .ok (.fstore_n 2, 1) := by decide +kernel
theorem dX9_tasteOf_2 : decode cX9_tasteOf 2 = .ok (.iconst 0, 1) := by decide +kernel
theorem dX9_tasteOf_3 : decode cX9_tasteOf 3 = .ok (.istore_n 3, 1) := by decide +kernel
theorem dX9_tasteOf_4 : decode cX9_tasteOf 4 = .ok (.iconst 0, 1) := by decide +kernel
theorem dX9_tasteOf_5 : decode cX9_tasteOf 5 = .ok (.istore 4, 2) := by decide +kernel
theorem dX9_tasteOf_7 : decode cX9_tasteOf 7 = .ok (.iload 4, 2) := by decide +kernel
theorem dX9_tasteOf_9 : decode cX9_tasteOf 9 = .ok (.bipush 6, 2) := by decide +kernel
theorem dX9_tasteOf_11 : decode cX9_tasteOf 11 = .ok (.if_icmp .ge 38, 3) := by decide +kernel
theorem dX9_tasteOf_14 : decode cX9_tasteOf 14 = .ok (.fload_n 2, 1) := by decide +kernel
theorem dX9_tasteOf_15 : decode cX9_tasteOf 15 = .ok (.aload_n 0, 1) := by decide +kernel
theorem dX9_tasteOf_16 : decode cX9_tasteOf 16 = .ok (.iload_n 1, 1) := by decide +kernel
theorem dX9_tasteOf_17 : decode cX9_tasteOf 17 = .ok (.iload 4, 2) := by decide +kernel
theorem dX9_tasteOf_19 : decode cX9_tasteOf 19 = .ok (.invokevirtual 72, 3) := by decide +kernel
theorem dX9_tasteOf_22 : decode cX9_tasteOf 22 = .ok (.iload 4, 2) := by decide +kernel
theorem dX9_tasteOf_24 : decode cX9_tasteOf 24 = .ok (.iconst 1, 1) := by decide +kernel
theorem dX9_tasteOf_25 : decode cX9_tasteOf 25 = .ok (.iadd, 1) := by decide +kernel
theorem dX9_tasteOf_26 : decode cX9_tasteOf 26 = .ok (.imul, 1) := by decide +kernel
theorem dX9_tasteOf_27 : decode cX9_tasteOf 27 = .ok (.i2f, 1) := by decide +kernel
theorem dX9_tasteOf_28 : decode cX9_tasteOf 28 = .ok (.ldc 180, 2) := by decide +kernel
theorem dX9_tasteOf_30 : decode cX9_tasteOf 30 = .ok (.fdiv, 1) := by decide +kernel
theorem dX9_tasteOf_31 : decode cX9_tasteOf 31 = .ok (.fadd, 1) := by decide +kernel
theorem dX9_tasteOf_32 : decode cX9_tasteOf 32 = .ok (.fstore_n 2, 1) := by decide +kernel
theorem dX9_tasteOf_33 : decode cX9_tasteOf 33 = .ok (.iload_n 3, 1) := by decide +kernel
theorem dX9_tasteOf_34 : decode cX9_tasteOf 34 = .ok (.aload_n 0, 1) := by decide +kernel
theorem dX9_tasteOf_35 : decode cX9_tasteOf 35 = .ok (.iload_n 1, 1) := by decide +kernel
theorem dX9_tasteOf_36 : decode cX9_tasteOf 36 = .ok (.iload 4, 2) := by decide +kernel
theorem dX9_tasteOf_38 : decode cX9_tasteOf 38 = .ok (.invokevirtual 72, 3) := by decide +kernel
theorem dX9_tasteOf_41 : decode cX9_tasteOf 41 = .ok (.iadd, 1) := by decide +kernel
theorem dX9_tasteOf_42 : decode cX9_tasteOf 42 = .ok (.istore_n 3, 1) := by decide +kernel
theorem dX9_tasteOf_43 : decode cX9_tasteOf 43 = .ok (.iinc 4 1, 3) := by decide +kernel
theorem dX9_tasteOf_46 : decode cX9_tasteOf 46 = .ok (.goto (-39), 3) := by decide +kernel
theorem dX9_tasteOf_49 : decode cX9_tasteOf 49 = .ok (.fload_n 2, 1) := by decide +kernel
theorem dX9_tasteOf_50 : decode cX9_tasteOf 50 = .ok (.iconst 1, 1) := by decide +kernel
theorem dX9_tasteOf_51 : decode cX9_tasteOf 51 = .ok (.iload_n 3, 1) := by decide +kernel
theorem dX9_tasteOf_52 : decode cX9_tasteOf 52 = .ok (.iadd, 1) := by decide +kernel
theorem dX9_tasteOf_53 : decode cX9_tasteOf 53 = .ok (.i2f, 1) := by decide +kernel
theorem dX9_tasteOf_54 : decode cX9_tasteOf 54 = .ok (.fdiv, 1) := by decide +kernel
theorem dX9_tasteOf_55 : decode cX9_tasteOf 55 = .ok (.freturn, 1) := by decide +kernel
theorem dX9_taste_0 : decode cX9_taste 0 = .ok (.aload_n 0, 1) := by decide +kernel
theorem dX9_taste_1 : decode cX9_taste 1 = .ok (.iconst 0, 1) := by decide +kernel
theorem dX9_taste_2 : decode cX9_taste 2 = .ok (.putfield 39, 3) := by decide +kernel
theorem dX9_taste_5 : decode cX9_taste 5 = .ok (.aload_n 0, 1) := by decide +kernel
theorem dX9_taste_6 : decode cX9_taste 6 = .ok (.iload_n 1, 1) := by decide +kernel
theorem dX9_taste_7 : decode cX9_taste 7 = .ok (.invokevirtual 110, 3) := by decide +kernel
theorem dX9_taste_10 : decode cX9_taste 10 = .ok (.ifCond .eq 11, 3) := by decide +kernel
theorem dX9_taste_13 : decode cX9_taste 13 = .ok (.aload_n 0, 1) := by decide +kernel
theorem dX9_taste_14 : decode cX9_taste 14 = .ok (.iload_n 1, 1) := by decide +kernel
theorem dX9_taste_15 : decode cX9_taste 15 = .ok (.invokevirtual 181, 3) := by decide +kernel
theorem dX9_taste_18 : decode cX9_taste 18 = .ok (.goto 9, 3) := by decide +kernel
theorem dX9_taste_21 : decode cX9_taste 21 = .ok (.aload_n 0, 1) := by decide +kernel
theorem dX9_taste_22 : decode cX9_taste 22 = .ok (.iconst 1, 1) := by decide +kernel
theorem dX9_taste_23 : decode cX9_taste 23 = .ok (.invokevirtual 58, 3) := by decide +kernel
theorem dX9_taste_26 : decode cX9_taste 26 = .ok (.i2f, 1) := by decide +kernel
theorem dX9_taste_27 : decode cX9_taste 27 = .ok (.freturn, 1) := by decide +kernel
theorem dX9_tasteBits_0 : decode cX9_tasteBits 0 = .ok (.aload_n 0, 1) := by decide +kernel
theorem dX9_tasteBits_1 : decode cX9_tasteBits 1 = .ok (.iconst 0, 1) := by decide +kernel
theorem dX9_tasteBits_2 : decode cX9_tasteBits 2 = .ok (.putfield 39, 3) := by decide +kernel
theorem dX9_tasteBits_5 : decode cX9_tasteBits 5 = .ok (.aload_n 0, 1) := by decide +kernel
theorem dX9_tasteBits_6 : decode cX9_tasteBits 6 = .ok (.iload_n 1, 1) := by decide +kernel
theorem dX9_tasteBits_7 : decode cX9_tasteBits 7 = .ok (.invokevirtual 110, 3) := by decide +kernel
theorem dX9_tasteBits_10 : decode cX9_tasteBits 10 = .ok (.ifCond .eq 14, 3) := by decide +kernel
theorem dX9_tasteBits_13 : decode cX9_tasteBits 13 = .ok (.aload_n 0, 1) := by decide +kernel
theorem dX9_tasteBits_14 : decode cX9_tasteBits 14 = .ok (.iload_n 1, 1) := by decide +kernel
theorem dX9_tasteBits_15 : decode cX9_tasteBits 15 = .ok (.invokevirtual 181, 3) := by decide +kernel
theorem dX9_tasteBits_18 : decode cX9_tasteBits 18 = .ok (.invokestatic 185, 3) := by decide +kernel
theorem dX9_tasteBits_21 : decode cX9_tasteBits 21 = .ok (.goto 8, 3) := by decide +kernel
theorem dX9_tasteBits_24 : decode cX9_tasteBits 24 = .ok (.aload_n 0, 1) := by decide +kernel
theorem dX9_tasteBits_25 : decode cX9_tasteBits 25 = .ok (.iconst 1, 1) := by decide +kernel
theorem dX9_tasteBits_26 : decode cX9_tasteBits 26 = .ok (.invokevirtual 58, 3) := by decide +kernel
theorem dX9_tasteBits_29 : decode cX9_tasteBits 29 = .ok (.ireturn, 1) := by decide +kernel
theorem dX9_tastiest_0 : decode cX9_tastiest 0 = .ok (.aload_n 0, 1) := by decide +kernel
theorem dX9_tastiest_1 : decode cX9_tastiest 1 = .ok (.iconst 0, 1) := by decide +kernel
theorem dX9_tastiest_2 : decode cX9_tastiest 2 = .ok (.putfield 39, 3) := by decide +kernel
theorem dX9_tastiest_5 : decode cX9_tastiest 5 = .ok (.aload_n 0, 1) := by decide +kernel
theorem dX9_tastiest_6 : decode cX9_tastiest 6 = .ok (.iload_n 1, 1) := by decide +kernel
theorem dX9_tastiest_7 : decode cX9_tastiest 7 = .ok (.invokevirtual 78, 3) := by decide +kernel
theorem dX9_tastiest_10 : decode cX9_tastiest 10 = .ok (.ifCond .ne 9, 3) := by decide +kernel
theorem dX9_tastiest_13 : decode cX9_tastiest 13 = .ok (.aload_n 0, 1) := by decide +kernel
theorem dX9_tastiest_14 : decode cX9_tastiest 14 = .ok (.iconst 1, 1) := by decide +kernel
theorem dX9_tastiest_15 : decode cX9_tastiest 15 = .ok (.invokevirtual 58, 3) := by decide +kernel
theorem dX9_tastiest_18 : decode cX9_tastiest 18 = .ok (.ireturn, 1) := by decide +kernel
theorem dX9_tastiest_19 : decode cX9_tastiest 19 = .ok (.aload_n 0, 1) := by decide +kernel
theorem dX9_tastiest_20 : decode cX9_tastiest 20 = .ok (.iload_n 1, 1) := by decide +kernel
theorem dX9_tastiest_21 : decode cX9_tastiest 21 = .ok (.invokevirtual 69, 3) := by decide +kernel
theorem dX9_tastiest_24 : decode cX9_tastiest 24 = .ok (.istore_n 2, 1) := by decide +kernel
theorem dX9_tastiest_25 : decode cX9_tastiest 25 = .ok (.iload_n 2, 1) := by decide +kernel
theorem dX9_tastiest_26 : decode cX9_tastiest 26 = .ok (.istore_n 3, 1) := by decide +kernel
theorem dX9_tastiest_27 : decode cX9_tastiest 27 = .ok (.iload_n 3, 1) := by decide +kernel
theorem dX9_tastiest_28 : decode cX9_tastiest 28 = .ok (.ifCond .le 39, 3) := by decide +kernel
theorem dX9_tastiest_31 : decode cX9_tastiest 31 = .ok (.aload_n 0, 1) := by decide +kernel
theorem dX9_tastiest_32 : decode cX9_tastiest 32 = .ok (.aload_n 0, 1) := by decide +kernel
theorem dX9_tastiest_33 : decode cX9_tastiest 33 = .ok (.iload_n 3, 1) := by decide +kernel
theorem dX9_tastiest_34 : decode cX9_tastiest 34 = .ok (.iconst 1, 1) := by decide +kernel
theorem dX9_tastiest_35 : decode cX9_tastiest 35 = .ok (.invokevirtual 65, 3) := by decide +kernel
theorem dX9_tastiest_38 : decode cX9_tastiest 38 = .ok (.invokevirtual 181, 3) := by decide +kernel
theorem dX9_tastiest_41 : decode cX9_tastiest 41 = .ok (.aload_n 0, 1) := by decide +kernel
theorem dX9_tastiest_42 : decode cX9_tastiest 42 = .ok (.iload_n 2, 1) := by decide +kernel
theorem dX9_tastiest_43 : decode cX9_tastiest 43 = .ok (.invokevirtual 181, 3) := by decide +kernel
theorem dX9_tastiest_46 : decode cX9_tastiest 46 = .ok (.fcmp .l, 1) := by decide +kernel
theorem dX9_tastiest_47 : decode cX9_tastiest 47 = .ok (.ifCond .lt 10, 3) := by decide +kernel
theorem dX9_tastiest_50 : decode cX9_tastiest 50 = .ok (.aload_n 0, 1) := by decide +kernel
theorem dX9_tastiest_51 : decode cX9_tastiest 51 = .ok (.iload_n 3, 1) := by decide +kernel
theorem dX9_tastiest_52 : decode cX9_tastiest 52 = .ok (.iconst 1, 1) := by decide +kernel
theorem dX9_tastiest_53 : decode cX9_tastiest 53 = .ok (.invokevirtual 65, 3) := by decide +kernel
theorem dX9_tastiest_56 : decode cX9_tastiest 56 = .ok (.istore_n 2, 1) := by decide +kernel
theorem dX9_tastiest_57 : decode cX9_tastiest 57 = .ok (.aload_n 0, 1) := by decide +kernel
theorem dX9_tastiest_58 : decode cX9_tastiest 58 = .ok (.iload_n 3, 1) := by decide +kernel
theorem dX9_tastiest_59 : decode cX9_tastiest 59 = .ok (.iconst 1, 1) := by decide +kernel
theorem dX9_tastiest_60 : decode cX9_tastiest 60 = .ok (.invokevirtual 65, 3) := by decide +kernel
theorem dX9_tastiest_63 : decode cX9_tastiest 63 = .ok (.istore_n 3, 1) := by decide +kernel
theorem dX9_tastiest_64 : decode cX9_tastiest 64 = .ok (.goto (-37), 3) := by decide +kernel
theorem dX9_tastiest_67 : decode cX9_tastiest 67 = .ok (.iload_n 2, 1) := by decide +kernel
theorem dX9_tastiest_68 : decode cX9_tastiest 68 = .ok (.ireturn, 1) := by decide +kernel
theorem dX9_inBundle_0 : decode cX9_inBundle 0 = .ok (.iconst 0, 1) := by decide +kernel
theorem dX9_inBundle_1 : decode cX9_inBundle 1 = .ok (.istore_n 1, 1) := by decide +kernel
theorem dX9_inBundle_2 : decode cX9_inBundle 2 = .ok (.iconst 0, 1) := by decide +kernel
theorem dX9_inBundle_3 : decode cX9_inBundle 3 = .ok (.istore_n 2, 1) := by decide +kernel
theorem dX9_inBundle_4 : decode cX9_inBundle 4 = .ok (.iload_n 2, 1) := by decide +kernel
theorem dX9_inBundle_5 : decode cX9_inBundle 5 = .ok (.iconst 4, 1) := by decide +kernel
theorem dX9_inBundle_6 : decode cX9_inBundle 6 = .ok (.if_icmp .ge 23, 3) := by decide +kernel
theorem dX9_inBundle_9 : decode cX9_inBundle 9 = .ok (.aload_n 0, 1) := by decide +kernel
theorem dX9_inBundle_10 : decode cX9_inBundle 10 = .ok (.getfield 9, 3) := by decide +kernel
theorem dX9_inBundle_13 : decode cX9_inBundle 13 = .ok (.iconst 3, 1) := by decide +kernel
theorem dX9_inBundle_14 : decode cX9_inBundle 14 = .ok (.iload_n 2, 1) := by decide +kernel
theorem dX9_inBundle_15 : decode cX9_inBundle 15 = .ok (.iadd, 1) := by decide +kernel
theorem dX9_inBundle_16 : decode cX9_inBundle 16 = .ok (.iaload, 1) := by decide +kernel
theorem dX9_inBundle_17 : decode cX9_inBundle 17 = .ok (.ifCond .le 6, 3) := by decide +kernel
theorem dX9_inBundle_20 : decode cX9_inBundle 20 = .ok (.iinc 1 1, 3) := by decide +kernel
theorem dX9_inBundle_23 : decode cX9_inBundle 23 = .ok (.iinc 2 1, 3) := by decide +kernel
theorem dX9_inBundle_26 : decode cX9_inBundle 26 = .ok (.goto (-22), 3) := by decide +kernel
theorem dX9_inBundle_29 : decode cX9_inBundle 29 = .ok (.iload_n 1, 1) := by decide +kernel
theorem dX9_inBundle_30 : decode cX9_inBundle 30 = .ok (.ireturn, 1) := by decide +kernel
theorem dX9_bundle_0 : decode cX9_bundle 0 = .ok (.aload_n 0, 1) := by decide +kernel
theorem dX9_bundle_1 : decode cX9_bundle 1 = .ok (.invokevirtual 95, 3) := by decide +kernel
theorem dX9_bundle_4 : decode cX9_bundle 4 = .ok (.iload_n 1, 1) := by decide +kernel
theorem dX9_bundle_5 : decode cX9_bundle 5 = .ok (.iconst 0, 1) := by decide +kernel
theorem dX9_bundle_6 : decode cX9_bundle 6 = .ok (.iconst 2, 1) := by decide +kernel
theorem dX9_bundle_7 : decode cX9_bundle 7 = .ok (.invokestatic 61, 3) := by decide +kernel
theorem dX9_bundle_10 : decode cX9_bundle 10 = .ok (.ifCond .ne 9, 3) := by decide +kernel
theorem dX9_bundle_13 : decode cX9_bundle 13 = .ok (.aload_n 0, 1) := by decide +kernel
theorem dX9_bundle_14 : decode cX9_bundle 14 = .ok (.iconst 1, 1) := by decide +kernel
theorem dX9_bundle_15 : decode cX9_bundle 15 = .ok (.invokevirtual 58, 3) := by decide +kernel
theorem dX9_bundle_18 : decode cX9_bundle 18 = .ok (.ireturn, 1) := by decide +kernel
theorem dX9_bundle_19 : decode cX9_bundle 19 = .ok (.aload_n 0, 1) := by decide +kernel
theorem dX9_bundle_20 : decode cX9_bundle 20 = .ok (.invokevirtual 191, 3) := by decide +kernel
theorem dX9_bundle_23 : decode cX9_bundle 23 = .ok (.istore_n 2, 1) := by decide +kernel
theorem dX9_bundle_24 : decode cX9_bundle 24 = .ok (.iconst 0, 1) := by decide +kernel
theorem dX9_bundle_25 : decode cX9_bundle 25 = .ok (.istore_n 3, 1) := by decide +kernel
theorem dX9_bundle_26 : decode cX9_bundle 26 = .ok (.iload_n 3, 1) := by decide +kernel
theorem dX9_bundle_27 : decode cX9_bundle 27 = .ok (.iconst 4, 1) := by decide +kernel
theorem dX9_bundle_28 : decode cX9_bundle 28 = .ok (.if_icmp .ge 18, 3) := by decide +kernel
theorem dX9_bundle_31 : decode cX9_bundle 31 = .ok (.aload_n 0, 1) := by decide +kernel
theorem dX9_bundle_32 : decode cX9_bundle 32 = .ok (.getfield 9, 3) := by decide +kernel
theorem dX9_bundle_35 : decode cX9_bundle 35 = .ok (.iconst 3, 1) := by decide +kernel
theorem dX9_bundle_36 : decode cX9_bundle 36 = .ok (.iload_n 3, 1) := by decide +kernel
theorem dX9_bundle_37 : decode cX9_bundle 37 = .ok (.iadd, 1) := by decide +kernel
theorem dX9_bundle_38 : decode cX9_bundle 38 = .ok (.iconst 0, 1) := by decide +kernel
theorem dX9_bundle_39 : decode cX9_bundle 39 = .ok (.iastore, 1) := by decide +kernel
theorem dX9_bundle_40 : decode cX9_bundle 40 = .ok (.iinc 3 1, 3) := by decide +kernel
theorem dX9_bundle_43 : decode cX9_bundle 43 = .ok (.goto (-17), 3) := by decide +kernel
theorem dX9_bundle_46 : decode cX9_bundle 46 = .ok (.aload_n 0, 1) := by decide +kernel
theorem dX9_bundle_47 : decode cX9_bundle 47 = .ok (.getfield 9, 3) := by decide +kernel
theorem dX9_bundle_50 : decode cX9_bundle 50 = .ok (.iconst 2, 1) := by decide +kernel
theorem dX9_bundle_51 : decode cX9_bundle 51 = .ok (.iload_n 1, 1) := by decide +kernel
theorem dX9_bundle_52 : decode cX9_bundle 52 = .ok (.iastore, 1) := by decide +kernel
theorem dX9_bundle_53 : decode cX9_bundle 53 = .ok (.aload_n 0, 1) := by decide +kernel
theorem dX9_bundle_54 : decode cX9_bundle 54 = .ok (.iload_n 2, 1) := by decide +kernel
theorem dX9_bundle_55 : decode cX9_bundle 55 = .ok (.invokevirtual 54, 3) := by decide +kernel
theorem dX9_bundle_58 : decode cX9_bundle 58 = .ok (.ireturn, 1) := by decide +kernel
theorem dX9_puts_0 : decode cX9_puts 0 = .ok (.iload_n 1, 1) := by decide +kernel
theorem dX9_puts_1 : decode cX9_puts 1 = .ok (.iconst 0, 1) := by decide +kernel
theorem dX9_puts_2 : decode cX9_puts 2 = .ok (.iconst 3, 1) := by decide +kernel
theorem dX9_puts_3 : decode cX9_puts 3 = .ok (.invokestatic 61, 3) := by decide +kernel
theorem dX9_puts_6 : decode cX9_puts 6 = .ok (.ifCond .eq 11, 3) := by decide +kernel
theorem dX9_puts_9 : decode cX9_puts 9 = .ok (.aload_n 0, 1) := by decide +kernel
theorem dX9_puts_10 : decode cX9_puts 10 = .ok (.iload_n 2, 1) := by decide +kernel
theorem dX9_puts_11 : decode cX9_puts 11 = .ok (.invokevirtual 110, 3) := by decide +kernel
theorem dX9_puts_14 : decode cX9_puts 14 = .ok (.ifCond .ne 5, 3) := by decide +kernel
theorem dX9_puts_17 : decode cX9_puts 17 = .ok (.iconst 1, 1) := by decide +kernel
theorem dX9_puts_18 : decode cX9_puts 18 = .ok (.ireturn, 1) := by decide +kernel
theorem dX9_puts_19 : decode cX9_puts 19 = .ok (.aload_n 0, 1) := by decide +kernel
theorem dX9_puts_20 : decode cX9_puts 20 = .ok (.getfield 9, 3) := by decide +kernel
theorem dX9_puts_23 : decode cX9_puts 23 = .ok (.iconst 2, 1) := by decide +kernel
theorem dX9_puts_24 : decode cX9_puts 24 = .ok (.iaload, 1) := by decide +kernel
theorem dX9_puts_25 : decode cX9_puts 25 = .ok (.aload_n 0, 1) := by decide +kernel
theorem dX9_puts_26 : decode cX9_puts 26 = .ok (.iload_n 2, 1) := by decide +kernel
theorem dX9_puts_27 : decode cX9_puts 27 = .ok (.iconst 0, 1) := by decide +kernel
theorem dX9_puts_28 : decode cX9_puts 28 = .ok (.invokevirtual 65, 3) := by decide +kernel
theorem dX9_puts_31 : decode cX9_puts 31 = .ok (.if_icmp .eq 16, 3) := by decide +kernel
theorem dX9_puts_34 : decode cX9_puts 34 = .ok (.aload_n 0, 1) := by decide +kernel
theorem dX9_puts_35 : decode cX9_puts 35 = .ok (.bipush 9, 2) := by decide +kernel
theorem dX9_puts_37 : decode cX9_puts 37 = .ok (.aload_n 0, 1) := by decide +kernel
theorem dX9_puts_38 : decode cX9_puts 38 = .ok (.getfield 9, 3) := by decide +kernel
theorem dX9_puts_41 : decode cX9_puts 41 = .ok (.iconst 2, 1) := by decide +kernel
theorem dX9_puts_42 : decode cX9_puts 42 = .ok (.iaload, 1) := by decide +kernel
theorem dX9_puts_43 : decode cX9_puts 43 = .ok (.invokevirtual 85, 3) := by decide +kernel
theorem dX9_puts_46 : decode cX9_puts 46 = .ok (.ireturn, 1) := by decide +kernel
theorem dX9_puts_47 : decode cX9_puts 47 = .ok (.iconst 0, 1) := by decide +kernel
theorem dX9_puts_48 : decode cX9_puts 48 = .ok (.istore_n 3, 1) := by decide +kernel
theorem dX9_puts_49 : decode cX9_puts 49 = .ok (.iload_n 3, 1) := by decide +kernel
theorem dX9_puts_50 : decode cX9_puts 50 = .ok (.iconst 4, 1) := by decide +kernel
theorem dX9_puts_51 : decode cX9_puts 51 = .ok (.if_icmp .ge 31, 3) := by decide +kernel
theorem dX9_puts_54 : decode cX9_puts 54 = .ok (.aload_n 0, 1) := by decide +kernel
theorem dX9_puts_55 : decode cX9_puts 55 = .ok (.getfield 9, 3) := by decide +kernel
theorem dX9_puts_58 : decode cX9_puts 58 = .ok (.iconst 3, 1) := by decide +kernel
theorem dX9_puts_59 : decode cX9_puts 59 = .ok (.iload_n 3, 1) := by decide +kernel
theorem dX9_puts_60 : decode cX9_puts 60 = .ok (.iadd, 1) := by decide +kernel
theorem dX9_puts_61 : decode cX9_puts 61 = .ok (.iaload, 1) := by decide +kernel
theorem dX9_puts_62 : decode cX9_puts 62 = .ok (.iload_n 2, 1) := by decide +kernel
theorem dX9_puts_63 : decode cX9_puts 63 = .ok (.iconst 1, 1) := by decide +kernel
theorem dX9_puts_64 : decode cX9_puts 64 = .ok (.iadd, 1) := by decide +kernel
theorem dX9_puts_65 : decode cX9_puts 65 = .ok (.if_icmp .ne 11, 3) := by decide +kernel
theorem dX9_puts_68 : decode cX9_puts 68 = .ok (.aload_n 0, 1) := by decide +kernel
theorem dX9_puts_69 : decode cX9_puts 69 = .ok (.bipush 10, 2) := by decide +kernel
theorem dX9_puts_71 : decode cX9_puts 71 = .ok (.iload_n 3, 1) := by decide +kernel
theorem dX9_puts_72 : decode cX9_puts 72 = .ok (.invokevirtual 85, 3) := by decide +kernel
theorem dX9_puts_75 : decode cX9_puts 75 = .ok (.ireturn, 1) := by decide +kernel
theorem dX9_puts_76 : decode cX9_puts 76 = .ok (.iinc 3 1, 3) := by decide +kernel
theorem dX9_puts_79 : decode cX9_puts 79 = .ok (.goto (-30), 3) := by decide +kernel
theorem dX9_puts_82 : decode cX9_puts 82 = .ok (.aload_n 0, 1) := by decide +kernel
theorem dX9_puts_83 : decode cX9_puts 83 = .ok (.getfield 9, 3) := by decide +kernel
theorem dX9_puts_86 : decode cX9_puts 86 = .ok (.iconst 3, 1) := by decide +kernel
theorem dX9_puts_87 : decode cX9_puts 87 = .ok (.iload_n 1, 1) := by decide +kernel
theorem dX9_puts_88 : decode cX9_puts 88 = .ok (.iadd, 1) := by decide +kernel
theorem dX9_puts_89 : decode cX9_puts 89 = .ok (.iload_n 2, 1) := by decide +kernel
theorem dX9_puts_90 : decode cX9_puts 90 = .ok (.iconst 1, 1) := by decide +kernel
theorem dX9_puts_91 : decode cX9_puts 91 = .ok (.iadd, 1) := by decide +kernel
theorem dX9_puts_92 : decode cX9_puts 92 = .ok (.iastore, 1) := by decide +kernel
theorem dX9_puts_93 : decode cX9_puts 93 = .ok (.aload_n 0, 1) := by decide +kernel
theorem dX9_puts_94 : decode cX9_puts 94 = .ok (.aload_n 0, 1) := by decide +kernel
theorem dX9_puts_95 : decode cX9_puts 95 = .ok (.invokevirtual 191, 3) := by decide +kernel
theorem dX9_puts_98 : decode cX9_puts 98 = .ok (.invokevirtual 92, 3) := by decide +kernel
theorem dX9_puts_101 : decode cX9_puts 101 = .ok (.ireturn, 1) := by decide +kernel
theorem dX9_put_0 : decode cX9_put 0 = .ok (.aload_n 0, 1) := by decide +kernel
theorem dX9_put_1 : decode cX9_put 1 = .ok (.invokevirtual 95, 3) := by decide +kernel
theorem dX9_put_4 : decode cX9_put 4 = .ok (.aload_n 0, 1) := by decide +kernel
theorem dX9_put_5 : decode cX9_put 5 = .ok (.aload_n 0, 1) := by decide +kernel
theorem dX9_put_6 : decode cX9_put 6 = .ok (.iload_n 1, 1) := by decide +kernel
theorem dX9_put_7 : decode cX9_put 7 = .ok (.iload_n 2, 1) := by decide +kernel
theorem dX9_put_8 : decode cX9_put 8 = .ok (.invokevirtual 195, 3) := by decide +kernel
theorem dX9_put_11 : decode cX9_put 11 = .ok (.invokevirtual 107, 3) := by decide +kernel
theorem dX9_put_14 : decode cX9_put 14 = .ok (.ireturn, 1) := by decide +kernel
theorem dX9_inBundle__0 : decode cX9_inBundle_ 0 = .ok (.aload_n 0, 1) := by decide +kernel
theorem dX9_inBundle__1 : decode cX9_inBundle_ 1 = .ok (.iconst 0, 1) := by decide +kernel
theorem dX9_inBundle__2 : decode cX9_inBundle_ 2 = .ok (.putfield 39, 3) := by decide +kernel
theorem dX9_inBundle__5 : decode cX9_inBundle_ 5 = .ok (.iload_n 1, 1) := by decide +kernel
theorem dX9_inBundle__6 : decode cX9_inBundle_ 6 = .ok (.iconst 0, 1) := by decide +kernel
theorem dX9_inBundle__7 : decode cX9_inBundle_ 7 = .ok (.iconst 3, 1) := by decide +kernel
theorem dX9_inBundle__8 : decode cX9_inBundle_ 8 = .ok (.invokestatic 61, 3) := by decide +kernel
theorem dX9_inBundle__11 : decode cX9_inBundle_ 11 = .ok (.ifCond .ne 9, 3) := by decide +kernel
theorem dX9_inBundle__14 : decode cX9_inBundle_ 14 = .ok (.aload_n 0, 1) := by decide +kernel
theorem dX9_inBundle__15 : decode cX9_inBundle_ 15 = .ok (.iconst 1, 1) := by decide +kernel
theorem dX9_inBundle__16 : decode cX9_inBundle_ 16 = .ok (.invokevirtual 58, 3) := by decide +kernel
theorem dX9_inBundle__19 : decode cX9_inBundle_ 19 = .ok (.ireturn, 1) := by decide +kernel
theorem dX9_inBundle__20 : decode cX9_inBundle_ 20 = .ok (.aload_n 0, 1) := by decide +kernel
theorem dX9_inBundle__21 : decode cX9_inBundle_ 21 = .ok (.getfield 9, 3) := by decide +kernel
theorem dX9_inBundle__24 : decode cX9_inBundle_ 24 = .ok (.iconst 3, 1) := by decide +kernel
theorem dX9_inBundle__25 : decode cX9_inBundle_ 25 = .ok (.iload_n 1, 1) := by decide +kernel
theorem dX9_inBundle__26 : decode cX9_inBundle_ 26 = .ok (.iadd, 1) := by decide +kernel
theorem dX9_inBundle__27 : decode cX9_inBundle_ 27 = .ok (.iaload, 1) := by decide +kernel
theorem dX9_inBundle__28 : decode cX9_inBundle_ 28 = .ok (.ifCond .ne 11, 3) := by decide +kernel
theorem dX9_inBundle__31 : decode cX9_inBundle_ 31 = .ok (.aload_n 0, 1) := by decide +kernel
theorem dX9_inBundle__32 : decode cX9_inBundle_ 32 = .ok (.iconst 2, 1) := by decide +kernel
theorem dX9_inBundle__33 : decode cX9_inBundle_ 33 = .ok (.invokevirtual 58, 3) := by decide +kernel
theorem dX9_inBundle__36 : decode cX9_inBundle_ 36 = .ok (.goto 13, 3) := by decide +kernel
theorem dX9_inBundle__39 : decode cX9_inBundle_ 39 = .ok (.aload_n 0, 1) := by decide +kernel
theorem dX9_inBundle__40 : decode cX9_inBundle_ 40 = .ok (.getfield 9, 3) := by decide +kernel
theorem dX9_inBundle__43 : decode cX9_inBundle_ 43 = .ok (.iconst 3, 1) := by decide +kernel
theorem dX9_inBundle__44 : decode cX9_inBundle_ 44 = .ok (.iload_n 1, 1) := by decide +kernel
theorem dX9_inBundle__45 : decode cX9_inBundle_ 45 = .ok (.iadd, 1) := by decide +kernel
theorem dX9_inBundle__46 : decode cX9_inBundle_ 46 = .ok (.iaload, 1) := by decide +kernel
theorem dX9_inBundle__47 : decode cX9_inBundle_ 47 = .ok (.iconst 1, 1) := by decide +kernel
theorem dX9_inBundle__48 : decode cX9_inBundle_ 48 = .ok (.isub, 1) := by decide +kernel
theorem dX9_inBundle__49 : decode cX9_inBundle_ 49 = .ok (.ireturn, 1) := by decide +kernel
theorem dX9_plays_0 : decode cX9_plays 0 = .ok (.aload_n 0, 1) := by decide +kernel
theorem dX9_plays_1 : decode cX9_plays 1 = .ok (.iload_n 1, 1) := by decide +kernel
theorem dX9_plays_2 : decode cX9_plays 2 = .ok (.invokevirtual 78, 3) := by decide +kernel
theorem dX9_plays_5 : decode cX9_plays 5 = .ok (.ifCond .ne 5, 3) := by decide +kernel
theorem dX9_plays_8 : decode cX9_plays 8 = .ok (.iconst 1, 1) := by decide +kernel
theorem dX9_plays_9 : decode cX9_plays 9 = .ok (.ireturn, 1) := by decide +kernel
theorem dX9_plays_10 : decode cX9_plays 10 = .ok (.iload_n 2, 1) := by decide +kernel
theorem dX9_plays_11 : decode cX9_plays 11 = .ok (.iconst 0, 1) := by decide +kernel
theorem dX9_plays_12 : decode cX9_plays 12 = .ok (.iconst 3, 1) := by decide +kernel
theorem dX9_plays_13 : decode cX9_plays 13 = .ok (.invokestatic 61, 3) := by decide +kernel
theorem dX9_plays_16 : decode cX9_plays 16 = .ok (.ifCond .ne 5, 3) := by decide +kernel
theorem dX9_plays_19 : decode cX9_plays 19 = .ok (.iconst 2, 1) := by decide +kernel
theorem dX9_plays_20 : decode cX9_plays 20 = .ok (.ireturn, 1) := by decide +kernel
theorem dX9_plays_21 : decode cX9_plays 21 = .ok (.aload_n 0, 1) := by decide +kernel
theorem dX9_plays_22 : decode cX9_plays 22 = .ok (.invokevirtual 191, 3) := by decide +kernel
theorem dX9_plays_25 : decode cX9_plays 25 = .ok (.ifCond .ne 16, 3) := by decide +kernel
theorem dX9_plays_28 : decode cX9_plays 28 = .ok (.aload_n 0, 1) := by decide +kernel
theorem dX9_plays_29 : decode cX9_plays 29 = .ok (.bipush 11, 2) := by decide +kernel
theorem dX9_plays_31 : decode cX9_plays 31 = .ok (.aload_n 0, 1) := by decide +kernel
theorem dX9_plays_32 : decode cX9_plays 32 = .ok (.getfield 9, 3) := by decide +kernel
theorem dX9_plays_35 : decode cX9_plays 35 = .ok (.iconst 2, 1) := by decide +kernel
theorem dX9_plays_36 : decode cX9_plays 36 = .ok (.iaload, 1) := by decide +kernel
theorem dX9_plays_37 : decode cX9_plays 37 = .ok (.invokevirtual 85, 3) := by decide +kernel
theorem dX9_plays_40 : decode cX9_plays 40 = .ok (.ireturn, 1) := by decide +kernel
theorem dX9_plays_41 : decode cX9_plays 41 = .ok (.iconst 0, 1) := by decide +kernel
theorem dX9_plays_42 : decode cX9_plays 42 = .ok (.istore_n 3, 1) := by decide +kernel
theorem dX9_plays_43 : decode cX9_plays 43 = .ok (.iconst 0, 1) := by decide +kernel
theorem dX9_plays_44 : decode cX9_plays 44 = .ok (.istore 4, 2) := by decide +kernel
theorem dX9_plays_46 : decode cX9_plays 46 = .ok (.iload 4, 2) := by decide +kernel
theorem dX9_plays_48 : decode cX9_plays 48 = .ok (.iconst 4, 1) := by decide +kernel
theorem dX9_plays_49 : decode cX9_plays 49 = .ok (.if_icmp .ge 54, 3) := by decide +kernel
theorem dX9_plays_52 : decode cX9_plays 52 = .ok (.aload_n 0, 1) := by decide +kernel
theorem dX9_plays_53 : decode cX9_plays 53 = .ok (.getfield 9, 3) := by decide +kernel
theorem dX9_plays_56 : decode cX9_plays 56 = .ok (.iconst 3, 1) := by decide +kernel
theorem dX9_plays_57 : decode cX9_plays 57 = .ok (.iload 4, 2) := by decide +kernel
theorem dX9_plays_59 : decode cX9_plays 59 = .ok (.iadd, 1) := by decide +kernel
theorem dX9_plays_60 : decode cX9_plays 60 = .ok (.iaload, 1) := by decide +kernel
theorem dX9_plays_61 : decode cX9_plays 61 = .ok (.ifCond .ne 6, 3) := by decide +kernel
theorem dX9_plays_64 : decode cX9_plays 64 = .ok (.goto 33, 3) := by decide +kernel
theorem dX9_plays_67 : decode cX9_plays 67 = .ok (.aload_n 0, 1) := by decide +kernel
theorem dX9_plays_68 : decode cX9_plays 68 = .ok (.iload_n 1, 1) := by decide +kernel
theorem dX9_plays_69 : decode cX9_plays 69 = .ok (.aload_n 0, 1) := by decide +kernel
theorem dX9_plays_70 : decode cX9_plays 70 = .ok (.getfield 9, 3) := by decide +kernel
theorem dX9_plays_73 : decode cX9_plays 73 = .ok (.iconst 3, 1) := by decide +kernel
theorem dX9_plays_74 : decode cX9_plays 74 = .ok (.iload 4, 2) := by decide +kernel
theorem dX9_plays_76 : decode cX9_plays 76 = .ok (.iadd, 1) := by decide +kernel
theorem dX9_plays_77 : decode cX9_plays 77 = .ok (.iaload, 1) := by decide +kernel
theorem dX9_plays_78 : decode cX9_plays 78 = .ok (.iconst 1, 1) := by decide +kernel
theorem dX9_plays_79 : decode cX9_plays 79 = .ok (.isub, 1) := by decide +kernel
theorem dX9_plays_80 : decode cX9_plays 80 = .ok (.iload_n 2, 1) := by decide +kernel
theorem dX9_plays_81 : decode cX9_plays 81 = .ok (.invokevirtual 159, 3) := by decide +kernel
theorem dX9_plays_84 : decode cX9_plays 84 = .ok (.istore 5, 2) := by decide +kernel
theorem dX9_plays_86 : decode cX9_plays 86 = .ok (.iload 5, 2) := by decide +kernel
theorem dX9_plays_88 : decode cX9_plays 88 = .ok (.ifCond .eq 6, 3) := by decide +kernel
theorem dX9_plays_91 : decode cX9_plays 91 = .ok (.iload 5, 2) := by decide +kernel
theorem dX9_plays_93 : decode cX9_plays 93 = .ok (.ireturn, 1) := by decide +kernel
theorem dX9_plays_94 : decode cX9_plays 94 = .ok (.iinc 3 1, 3) := by decide +kernel
theorem dX9_plays_97 : decode cX9_plays 97 = .ok (.iinc 4 1, 3) := by decide +kernel
theorem dX9_plays_100 : decode cX9_plays 100 = .ok (.goto (-54), 3) := by decide +kernel
theorem dX9_plays_103 : decode cX9_plays 103 = .ok (.aload_n 0, 1) := by decide +kernel
theorem dX9_plays_104 : decode cX9_plays 104 = .ok (.iload_n 3, 1) := by decide +kernel
theorem dX9_plays_105 : decode cX9_plays 105 = .ok (.invokevirtual 92, 3) := by decide +kernel
theorem dX9_plays_108 : decode cX9_plays 108 = .ok (.ireturn, 1) := by decide +kernel
theorem dX9_play_0 : decode cX9_play 0 = .ok (.aload_n 0, 1) := by decide +kernel
theorem dX9_play_1 : decode cX9_play 1 = .ok (.invokevirtual 95, 3) := by decide +kernel
theorem dX9_play_4 : decode cX9_play 4 = .ok (.aload_n 0, 1) := by decide +kernel
theorem dX9_play_5 : decode cX9_play 5 = .ok (.iload_n 1, 1) := by decide +kernel
theorem dX9_play_6 : decode cX9_play 6 = .ok (.iload_n 2, 1) := by decide +kernel
theorem dX9_play_7 : decode cX9_play 7 = .ok (.invokevirtual 198, 3) := by decide +kernel
theorem dX9_play_10 : decode cX9_play 10 = .ok (.istore_n 3, 1) := by decide +kernel
theorem dX9_play_11 : decode cX9_play 11 = .ok (.iload_n 3, 1) := by decide +kernel
theorem dX9_play_12 : decode cX9_play 12 = .ok (.ifCond .eq 7, 3) := by decide +kernel
theorem dX9_play_15 : decode cX9_play 15 = .ok (.aload_n 0, 1) := by decide +kernel
theorem dX9_play_16 : decode cX9_play 16 = .ok (.invokevirtual 201, 3) := by decide +kernel
theorem dX9_play_19 : decode cX9_play 19 = .ok (.aload_n 0, 1) := by decide +kernel
theorem dX9_play_20 : decode cX9_play 20 = .ok (.iload_n 3, 1) := by decide +kernel
theorem dX9_play_21 : decode cX9_play 21 = .ok (.invokevirtual 101, 3) := by decide +kernel
theorem dX9_play_24 : decode cX9_play 24 = .ok (.ireturn, 1) := by decide +kernel
theorem dX9_writesNumber_0 : decode cX9_writesNumber 0 = .ok (.iload_n 1, 1) := by decide +kernel
theorem dX9_writesNumber_1 : decode cX9_writesNumber 1 = .ok (.bipush 9, 2) := by decide +kernel
theorem dX9_writesNumber_3 : decode cX9_writesNumber 3 = .ok (.if_icmp .le 27, 3) := by decide +kernel
theorem dX9_writesNumber_6 : decode cX9_writesNumber 6 = .ok (.aload_n 0, 1) := by decide +kernel
theorem dX9_writesNumber_7 : decode cX9_writesNumber 7 = .ok (.getfield 22, 3) := by decide +kernel
theorem dX9_writesNumber_10 : decode cX9_writesNumber 10 = .ok (.aload_n 0, 1) := by decide +kernel
theorem dX9_writesNumber_11 : decode cX9_writesNumber 11 = .ok (.dup, 1) := by decide +kernel
theorem dX9_writesNumber_12 : decode cX9_writesNumber 12 = .ok (.getfield 204, 3) := by decide +kernel
theorem dX9_writesNumber_15 : decode cX9_writesNumber 15 = .ok (.dup_x1, 1) := by decide +kernel
theorem dX9_writesNumber_16 : decode cX9_writesNumber 16 = .ok (.iconst 1, 1) := by decide +kernel
theorem dX9_writesNumber_17 : decode cX9_writesNumber 17 = .ok (.iadd, 1) := by decide +kernel
theorem dX9_writesNumber_18 : decode cX9_writesNumber 18 = .ok (.putfield 204, 3) := by decide +kernel
theorem dX9_writesNumber_21 : decode cX9_writesNumber 21 = .ok (.bipush 48, 2) := by decide +kernel
theorem dX9_writesNumber_23 : decode cX9_writesNumber 23 = .ok (.iload_n 1, 1) := by decide +kernel
theorem dX9_writesNumber_24 : decode cX9_writesNumber 24 = .ok (.bipush 10, 2) := by decide +kernel
theorem dX9_writesNumber_26 : decode cX9_writesNumber 26 = .ok (.idiv, 1) := by decide +kernel
theorem dX9_writesNumber_27 : decode cX9_writesNumber 27 = .ok (.iadd, 1) := by decide +kernel
theorem dX9_writesNumber_28 : decode cX9_writesNumber 28 = .ok (.i2c, 1) := by decide +kernel
theorem dX9_writesNumber_29 : decode cX9_writesNumber 29 = .ok (.castore, 1) := by decide +kernel
theorem dX9_writesNumber_30 : decode cX9_writesNumber 30 = .ok (.aload_n 0, 1) := by decide +kernel
theorem dX9_writesNumber_31 : decode cX9_writesNumber 31 = .ok (.getfield 22, 3) := by decide +kernel
theorem dX9_writesNumber_34 : decode cX9_writesNumber 34 = .ok (.aload_n 0, 1) := by decide +kernel
theorem dX9_writesNumber_35 : decode cX9_writesNumber 35 = .ok (.dup, 1) := by decide +kernel
theorem dX9_writesNumber_36 : decode cX9_writesNumber 36 = .ok (.getfield 204, 3) := by decide +kernel
theorem dX9_writesNumber_39 : decode cX9_writesNumber 39 = .ok (.dup_x1, 1) := by decide +kernel
theorem dX9_writesNumber_40 : decode cX9_writesNumber 40 = .ok (.iconst 1, 1) := by decide +kernel
theorem dX9_writesNumber_41 : decode cX9_writesNumber 41 = .ok (.iadd, 1) := by decide +kernel
theorem dX9_writesNumber_42 : decode cX9_writesNumber 42 = .ok (.putfield 204, 3) := by decide +kernel
theorem dX9_writesNumber_45 : decode cX9_writesNumber 45 = .ok (.bipush 48, 2) := by decide +kernel
theorem dX9_writesNumber_47 : decode cX9_writesNumber 47 = .ok (.iload_n 1, 1) := by decide +kernel
theorem dX9_writesNumber_48 : decode cX9_writesNumber 48 = .ok (.bipush 10, 2) := by decide +kernel
theorem dX9_writesNumber_50 : decode cX9_writesNumber 50 = .ok (.irem, 1) := by decide +kernel
theorem dX9_writesNumber_51 : decode cX9_writesNumber 51 = .ok (.iadd, 1) := by decide +kernel
theorem dX9_writesNumber_52 : decode cX9_writesNumber 52 = .ok (.i2c, 1) := by decide +kernel
theorem dX9_writesNumber_53 : decode cX9_writesNumber 53 = .ok (.castore, 1) := by decide +kernel
theorem dX9_writesNumber_54 : decode cX9_writesNumber 54 = .ok (.return_, 1) := by decide +kernel
theorem dX9_line_0 : decode cX9_line 0 = .ok (.aload_n 0, 1) := by decide +kernel
theorem dX9_line_1 : decode cX9_line 1 = .ok (.iconst 0, 1) := by decide +kernel
theorem dX9_line_2 : decode cX9_line 2 = .ok (.putfield 39, 3) := by decide +kernel
theorem dX9_line_5 : decode cX9_line 5 = .ok (.aload_n 0, 1) := by decide +kernel
theorem dX9_line_6 : decode cX9_line 6 = .ok (.iload_n 1, 1) := by decide +kernel
theorem dX9_line_7 : decode cX9_line 7 = .ok (.invokevirtual 110, 3) := by decide +kernel
theorem dX9_line_10 : decode cX9_line 10 = .ok (.ifCond .ne 9, 3) := by decide +kernel
theorem dX9_line_13 : decode cX9_line 13 = .ok (.aload_n 0, 1) := by decide +kernel
theorem dX9_line_14 : decode cX9_line 14 = .ok (.iconst 1, 1) := by decide +kernel
theorem dX9_line_15 : decode cX9_line 15 = .ok (.invokevirtual 58, 3) := by decide +kernel
theorem dX9_line_18 : decode cX9_line 18 = .ok (.ireturn, 1) := by decide +kernel
theorem dX9_line_19 : decode cX9_line 19 = .ok (.aload_n 0, 1) := by decide +kernel
theorem dX9_line_20 : decode cX9_line 20 = .ok (.iconst 0, 1) := by decide +kernel
theorem dX9_line_21 : decode cX9_line 21 = .ok (.putfield 204, 3) := by decide +kernel
theorem dX9_line_24 : decode cX9_line 24 = .ok (.aload_n 0, 1) := by decide +kernel
theorem dX9_line_25 : decode cX9_line 25 = .ok (.iload_n 1, 1) := by decide +kernel
theorem dX9_line_26 : decode cX9_line 26 = .ok (.invokevirtual 207, 3) := by decide +kernel
theorem dX9_line_29 : decode cX9_line 29 = .ok (.aload_n 0, 1) := by decide +kernel
theorem dX9_line_30 : decode cX9_line 30 = .ok (.getfield 22, 3) := by decide +kernel
theorem dX9_line_33 : decode cX9_line 33 = .ok (.aload_n 0, 1) := by decide +kernel
theorem dX9_line_34 : decode cX9_line 34 = .ok (.dup, 1) := by decide +kernel
theorem dX9_line_35 : decode cX9_line 35 = .ok (.getfield 204, 3) := by decide +kernel
theorem dX9_line_38 : decode cX9_line 38 = .ok (.dup_x1, 1) := by decide +kernel
theorem dX9_line_39 : decode cX9_line 39 = .ok (.iconst 1, 1) := by decide +kernel
theorem dX9_line_40 : decode cX9_line 40 = .ok (.iadd, 1) := by decide +kernel
theorem dX9_line_41 : decode cX9_line 41 = .ok (.putfield 204, 3) := by decide +kernel
theorem dX9_line_44 : decode cX9_line 44 = .ok (.bipush 32, 2) := by decide +kernel
theorem dX9_line_46 : decode cX9_line 46 = .ok (.castore, 1) := by decide +kernel
theorem dX9_line_47 : decode cX9_line 47 = .ok (.aload_n 0, 1) := by decide +kernel
theorem dX9_line_48 : decode cX9_line 48 = .ok (.getfield 22, 3) := by decide +kernel
theorem dX9_line_51 : decode cX9_line 51 = .ok (.aload_n 0, 1) := by decide +kernel
theorem dX9_line_52 : decode cX9_line 52 = .ok (.dup, 1) := by decide +kernel
theorem dX9_line_53 : decode cX9_line 53 = .ok (.getfield 204, 3) := by decide +kernel
theorem dX9_line_56 : decode cX9_line 56 = .ok (.dup_x1, 1) := by decide +kernel
theorem dX9_line_57 : decode cX9_line 57 = .ok (.iconst 1, 1) := by decide +kernel
theorem dX9_line_58 : decode cX9_line 58 = .ok (.iadd, 1) := by decide +kernel
theorem dX9_line_59 : decode cX9_line 59 = .ok (.putfield 204, 3) := by decide +kernel
theorem dX9_line_62 : decode cX9_line 62 = .ok (.ldc 210, 2) := by decide +kernel
theorem dX9_line_64 : decode cX9_line 64 = .ok (.aload_n 0, 1) := by decide +kernel
theorem dX9_line_65 : decode cX9_line 65 = .ok (.iload_n 1, 1) := by decide +kernel
theorem dX9_line_66 : decode cX9_line 66 = .ok (.iconst 0, 1) := by decide +kernel
theorem dX9_line_67 : decode cX9_line 67 = .ok (.invokevirtual 65, 3) := by decide +kernel
theorem dX9_line_70 : decode cX9_line 70 = .ok (.invokevirtual 212, 3) := by decide +kernel
theorem dX9_line_73 : decode cX9_line 73 = .ok (.castore, 1) := by decide +kernel
theorem dX9_line_74 : decode cX9_line 74 = .ok (.aload_n 0, 1) := by decide +kernel
theorem dX9_line_75 : decode cX9_line 75 = .ok (.getfield 22, 3) := by decide +kernel
theorem dX9_line_78 : decode cX9_line 78 = .ok (.aload_n 0, 1) := by decide +kernel
theorem dX9_line_79 : decode cX9_line 79 = .ok (.dup, 1) := by decide +kernel
theorem dX9_line_80 : decode cX9_line 80 = .ok (.getfield 204, 3) := by decide +kernel
theorem dX9_line_83 : decode cX9_line 83 = .ok (.dup_x1, 1) := by decide +kernel
theorem dX9_line_84 : decode cX9_line 84 = .ok (.iconst 1, 1) := by decide +kernel
theorem dX9_line_85 : decode cX9_line 85 = .ok (.iadd, 1) := by decide +kernel
theorem dX9_line_86 : decode cX9_line 86 = .ok (.putfield 204, 3) := by decide +kernel
theorem dX9_line_89 : decode cX9_line 89 = .ok (.bipush 58, 2) := by decide +kernel
theorem dX9_line_91 : decode cX9_line 91 = .ok (.castore, 1) := by decide +kernel
theorem dX9_line_92 : decode cX9_line 92 = .ok (.iconst 0, 1) := by decide +kernel
theorem dX9_line_93 : decode cX9_line 93 = .ok (.istore_n 2, 1) := by decide +kernel
theorem dX9_line_94 : decode cX9_line 94 = .ok (.iload_n 2, 1) := by decide +kernel
theorem dX9_line_95 : decode cX9_line 95 = .ok (.bipush 6, 2) := by decide +kernel
theorem dX9_line_97 : decode cX9_line 97 = .ok (.if_icmp .ge 37, 3) := by decide +kernel
theorem dX9_line_100 : decode cX9_line 100 = .ok (.aload_n 0, 1) := by decide +kernel
theorem dX9_line_101 : decode cX9_line 101 = .ok (.getfield 22, 3) := by decide +kernel
theorem dX9_line_104 : decode cX9_line 104 = .ok (.aload_n 0, 1) := by decide +kernel
theorem dX9_line_105 : decode cX9_line 105 = .ok (.dup, 1) := by decide +kernel
theorem dX9_line_106 : decode cX9_line 106 = .ok (.getfield 204, 3) := by decide +kernel
theorem dX9_line_109 : decode cX9_line 109 = .ok (.dup_x1, 1) := by decide +kernel
theorem dX9_line_110 : decode cX9_line 110 = .ok (.iconst 1, 1) := by decide +kernel
theorem dX9_line_111 : decode cX9_line 111 = .ok (.iadd, 1) := by decide +kernel
theorem dX9_line_112 : decode cX9_line 112 = .ok (.putfield 204, 3) := by decide +kernel
theorem dX9_line_115 : decode cX9_line 115 = .ok (.bipush 32, 2) := by decide +kernel
theorem dX9_line_117 : decode cX9_line 117 = .ok (.castore, 1) := by decide +kernel
theorem dX9_line_118 : decode cX9_line 118 = .ok (.aload_n 0, 1) := by decide +kernel
theorem dX9_line_119 : decode cX9_line 119 = .ok (.aload_n 0, 1) := by decide +kernel
theorem dX9_line_120 : decode cX9_line 120 = .ok (.iload_n 1, 1) := by decide +kernel
theorem dX9_line_121 : decode cX9_line 121 = .ok (.iload_n 2, 1) := by decide +kernel
theorem dX9_line_122 : decode cX9_line 122 = .ok (.invokevirtual 72, 3) := by decide +kernel
theorem dX9_line_125 : decode cX9_line 125 = .ok (.invokevirtual 207, 3) := by decide +kernel
theorem dX9_line_128 : decode cX9_line 128 = .ok (.iinc 2 1, 3) := by decide +kernel
theorem dX9_line_131 : decode cX9_line 131 = .ok (.goto (-37), 3) := by decide +kernel
theorem dX9_line_134 : decode cX9_line 134 = .ok (.aload_n 0, 1) := by decide +kernel
theorem dX9_line_135 : decode cX9_line 135 = .ok (.getfield 204, 3) := by decide +kernel
theorem dX9_line_138 : decode cX9_line 138 = .ok (.ireturn, 1) := by decide +kernel
theorem dX9_character_0 : decode cX9_character 0 = .ok (.aload_n 0, 1) := by decide +kernel
theorem dX9_character_1 : decode cX9_character 1 = .ok (.iload_n 1, 1) := by decide +kernel
theorem dX9_character_2 : decode cX9_character 2 = .ok (.iconst 0, 1) := by decide +kernel
theorem dX9_character_3 : decode cX9_character 3 = .ok (.aload_n 0, 1) := by decide +kernel
theorem dX9_character_4 : decode cX9_character 4 = .ok (.getfield 204, 3) := by decide +kernel
theorem dX9_character_7 : decode cX9_character 7 = .ok (.iconst 1, 1) := by decide +kernel
theorem dX9_character_8 : decode cX9_character 8 = .ok (.isub, 1) := by decide +kernel
theorem dX9_character_9 : decode cX9_character 9 = .ok (.invokestatic 61, 3) := by decide +kernel
theorem dX9_character_12 : decode cX9_character 12 = .ok (.ifCond .eq 7, 3) := by decide +kernel
theorem dX9_character_15 : decode cX9_character 15 = .ok (.iconst 0, 1) := by decide +kernel
theorem dX9_character_16 : decode cX9_character 16 = .ok (.goto 4, 3) := by decide +kernel
theorem dX9_character_19 : decode cX9_character 19 = .ok (.iconst 1, 1) := by decide +kernel
theorem dX9_character_20 : decode cX9_character 20 = .ok (.putfield 39, 3) := by decide +kernel
theorem dX9_character_23 : decode cX9_character 23 = .ok (.aload_n 0, 1) := by decide +kernel
theorem dX9_character_24 : decode cX9_character 24 = .ok (.getfield 39, 3) := by decide +kernel
theorem dX9_character_27 : decode cX9_character 27 = .ok (.ifCond .ne 12, 3) := by decide +kernel
theorem dX9_character_30 : decode cX9_character 30 = .ok (.aload_n 0, 1) := by decide +kernel
theorem dX9_character_31 : decode cX9_character 31 = .ok (.getfield 22, 3) := by decide +kernel
theorem dX9_character_34 : decode cX9_character 34 = .ok (.iload_n 1, 1) := by decide +kernel
theorem dX9_character_35 : decode cX9_character 35 = .ok (.caload, 1) := by decide +kernel
theorem dX9_character_36 : decode cX9_character 36 = .ok (.goto 5, 3) := by decide +kernel
theorem dX9_character_39 : decode cX9_character 39 = .ok (.bipush 97, 2) := by decide +kernel
theorem dX9_character_41 : decode cX9_character 41 = .ok (.ireturn, 1) := by decide +kernel
theorem dX9_append_0 : decode cX9_append 0 = .ok (.aload_n 0, 1) := by decide +kernel
theorem dX9_append_1 : decode cX9_append 1 = .ok (.iconst 0, 1) := by decide +kernel
theorem dX9_append_2 : decode cX9_append 2 = .ok (.putfield 39, 3) := by decide +kernel
theorem dX9_append_5 : decode cX9_append 5 = .ok (.aload_n 0, 1) := by decide +kernel
theorem dX9_append_6 : decode cX9_append 6 = .ok (.getfield 218, 3) := by decide +kernel
theorem dX9_append_9 : decode cX9_append 9 = .ok (.bipush 60, 2) := by decide +kernel
theorem dX9_append_11 : decode cX9_append 11 = .ok (.if_icmp .ne 9, 3) := by decide +kernel
theorem dX9_append_14 : decode cX9_append 14 = .ok (.aload_n 0, 1) := by decide +kernel
theorem dX9_append_15 : decode cX9_append 15 = .ok (.iconst 1, 1) := by decide +kernel
theorem dX9_append_16 : decode cX9_append 16 = .ok (.invokevirtual 58, 3) := by decide +kernel
theorem dX9_append_19 : decode cX9_append 19 = .ok (.ireturn, 1) := by decide +kernel
theorem dX9_append_20 : decode cX9_append 20 = .ok (.aload_n 0, 1) := by decide +kernel
theorem dX9_append_21 : decode cX9_append 21 = .ok (.getfield 26, 3) := by decide +kernel
theorem dX9_append_24 : decode cX9_append 24 = .ok (.aload_n 0, 1) := by decide +kernel
theorem dX9_append_25 : decode cX9_append 25 = .ok (.dup, 1) := by decide +kernel
theorem dX9_append_26 : decode cX9_append 26 = .ok (.getfield 218, 3) := by decide +kernel
theorem dX9_append_29 : decode cX9_append 29 = .ok (.dup_x1, 1) := by decide +kernel
theorem dX9_append_30 : decode cX9_append 30 = .ok (.iconst 1, 1) := by decide +kernel
theorem dX9_append_31 : decode cX9_append 31 = .ok (.iadd, 1) := by decide +kernel
theorem dX9_append_32 : decode cX9_append 32 = .ok (.putfield 218, 3) := by decide +kernel
theorem dX9_append_35 : decode cX9_append 35 = .ok (.iload_n 1, 1) := by decide +kernel
theorem dX9_append_36 : decode cX9_append 36 = .ok (.castore, 1) := by decide +kernel
theorem dX9_append_37 : decode cX9_append 37 = .ok (.aload_n 0, 1) := by decide +kernel
theorem dX9_append_38 : decode cX9_append 38 = .ok (.getfield 218, 3) := by decide +kernel
theorem dX9_append_41 : decode cX9_append 41 = .ok (.ireturn, 1) := by decide +kernel
theorem dX9_sign_0 : decode cX9_sign 0 = .ok (.aload_n 0, 1) := by decide +kernel
theorem dX9_sign_1 : decode cX9_sign 1 = .ok (.getfield 221, 3) := by decide +kernel
theorem dX9_sign_4 : decode cX9_sign 4 = .ok (.aload_n 0, 1) := by decide +kernel
theorem dX9_sign_5 : decode cX9_sign 5 = .ok (.getfield 218, 3) := by decide +kernel
theorem dX9_sign_8 : decode cX9_sign 8 = .ok (.if_icmp .eq 16, 3) := by decide +kernel
theorem dX9_sign_11 : decode cX9_sign 11 = .ok (.aload_n 0, 1) := by decide +kernel
theorem dX9_sign_12 : decode cX9_sign 12 = .ok (.getfield 26, 3) := by decide +kernel
theorem dX9_sign_15 : decode cX9_sign 15 = .ok (.aload_n 0, 1) := by decide +kernel
theorem dX9_sign_16 : decode cX9_sign 16 = .ok (.getfield 221, 3) := by decide +kernel
theorem dX9_sign_19 : decode cX9_sign 19 = .ok (.caload, 1) := by decide +kernel
theorem dX9_sign_20 : decode cX9_sign 20 = .ok (.iload_n 1, 1) := by decide +kernel
theorem dX9_sign_21 : decode cX9_sign 21 = .ok (.if_icmp .eq 5, 3) := by decide +kernel
theorem dX9_sign_24 : decode cX9_sign 24 = .ok (.iconst 0, 1) := by decide +kernel
theorem dX9_sign_25 : decode cX9_sign 25 = .ok (.ireturn, 1) := by decide +kernel
theorem dX9_sign_26 : decode cX9_sign 26 = .ok (.aload_n 0, 1) := by decide +kernel
theorem dX9_sign_27 : decode cX9_sign 27 = .ok (.dup, 1) := by decide +kernel
theorem dX9_sign_28 : decode cX9_sign 28 = .ok (.getfield 221, 3) := by decide +kernel
theorem dX9_sign_31 : decode cX9_sign 31 = .ok (.iconst 1, 1) := by decide +kernel
theorem dX9_sign_32 : decode cX9_sign 32 = .ok (.iadd, 1) := by decide +kernel
theorem dX9_sign_33 : decode cX9_sign 33 = .ok (.putfield 221, 3) := by decide +kernel
theorem dX9_sign_36 : decode cX9_sign 36 = .ok (.iconst 1, 1) := by decide +kernel
theorem dX9_sign_37 : decode cX9_sign 37 = .ok (.ireturn, 1) := by decide +kernel
theorem dX9_digits_0 : decode cX9_digits 0 = .ok (.iconst 0, 1) := by decide +kernel
theorem dX9_digits_1 : decode cX9_digits 1 = .ok (.istore_n 3, 1) := by decide +kernel
theorem dX9_digits_2 : decode cX9_digits 2 = .ok (.aload_n 0, 1) := by decide +kernel
theorem dX9_digits_3 : decode cX9_digits 3 = .ok (.getfield 29, 3) := by decide +kernel
theorem dX9_digits_6 : decode cX9_digits 6 = .ok (.iload_n 1, 1) := by decide +kernel
theorem dX9_digits_7 : decode cX9_digits 7 = .ok (.iconst 0, 1) := by decide +kernel
theorem dX9_digits_8 : decode cX9_digits 8 = .ok (.iastore, 1) := by decide +kernel
theorem dX9_digits_9 : decode cX9_digits 9 = .ok (.iload_n 3, 1) := by decide +kernel
theorem dX9_digits_10 : decode cX9_digits 10 = .ok (.iload_n 2, 1) := by decide +kernel
theorem dX9_digits_11 : decode cX9_digits 11 = .ok (.if_icmp .ge 74, 3) := by decide +kernel
theorem dX9_digits_14 : decode cX9_digits 14 = .ok (.aload_n 0, 1) := by decide +kernel
theorem dX9_digits_15 : decode cX9_digits 15 = .ok (.getfield 221, 3) := by decide +kernel
theorem dX9_digits_18 : decode cX9_digits 18 = .ok (.aload_n 0, 1) := by decide +kernel
theorem dX9_digits_19 : decode cX9_digits 19 = .ok (.getfield 218, 3) := by decide +kernel
theorem dX9_digits_22 : decode cX9_digits 22 = .ok (.if_icmp .ge 63, 3) := by decide +kernel
theorem dX9_digits_25 : decode cX9_digits 25 = .ok (.aload_n 0, 1) := by decide +kernel
theorem dX9_digits_26 : decode cX9_digits 26 = .ok (.getfield 26, 3) := by decide +kernel
theorem dX9_digits_29 : decode cX9_digits 29 = .ok (.aload_n 0, 1) := by decide +kernel
theorem dX9_digits_30 : decode cX9_digits 30 = .ok (.getfield 221, 3) := by decide +kernel
theorem dX9_digits_33 : decode cX9_digits 33 = .ok (.caload, 1) := by decide +kernel
theorem dX9_digits_34 : decode cX9_digits 34 = .ok (.bipush 48, 2) := by decide +kernel
theorem dX9_digits_36 : decode cX9_digits 36 = .ok (.bipush 57, 2) := by decide +kernel
theorem dX9_digits_38 : decode cX9_digits 38 = .ok (.invokestatic 61, 3) := by decide +kernel
theorem dX9_digits_41 : decode cX9_digits 41 = .ok (.ifCond .eq 44, 3) := by decide +kernel
theorem dX9_digits_44 : decode cX9_digits 44 = .ok (.aload_n 0, 1) := by decide +kernel
theorem dX9_digits_45 : decode cX9_digits 45 = .ok (.getfield 29, 3) := by decide +kernel
theorem dX9_digits_48 : decode cX9_digits 48 = .ok (.iload_n 1, 1) := by decide +kernel
theorem dX9_digits_49 : decode cX9_digits 49 = .ok (.bipush 10, 2) := by decide +kernel
theorem dX9_digits_51 : decode cX9_digits 51 = .ok (.aload_n 0, 1) := by decide +kernel
theorem dX9_digits_52 : decode cX9_digits 52 = .ok (.getfield 29, 3) := by decide +kernel
theorem dX9_digits_55 : decode cX9_digits 55 = .ok (.iload_n 1, 1) := by decide +kernel
theorem dX9_digits_56 : decode cX9_digits 56 = .ok (.iaload, 1) := by decide +kernel
theorem dX9_digits_57 : decode cX9_digits 57 = .ok (.imul, 1) := by decide +kernel
theorem dX9_digits_58 : decode cX9_digits 58 = .ok (.aload_n 0, 1) := by decide +kernel
theorem dX9_digits_59 : decode cX9_digits 59 = .ok (.getfield 26, 3) := by decide +kernel
theorem dX9_digits_62 : decode cX9_digits 62 = .ok (.aload_n 0, 1) := by decide +kernel
theorem dX9_digits_63 : decode cX9_digits 63 = .ok (.dup, 1) := by decide +kernel
theorem dX9_digits_64 : decode cX9_digits 64 = .ok (.getfield 221, 3) := by decide +kernel
theorem dX9_digits_67 : decode cX9_digits 67 = .ok (.dup_x1, 1) := by decide +kernel
theorem dX9_digits_68 : decode cX9_digits 68 = .ok (.iconst 1, 1) := by decide +kernel
theorem dX9_digits_69 : decode cX9_digits 69 = .ok (.iadd, 1) := by decide +kernel
theorem dX9_digits_70 : decode cX9_digits 70 = .ok (.putfield 221, 3) := by decide +kernel
theorem dX9_digits_73 : decode cX9_digits 73 = .ok (.caload, 1) := by decide +kernel
theorem dX9_digits_74 : decode cX9_digits 74 = .ok (.iadd, 1) := by decide +kernel
theorem dX9_digits_75 : decode cX9_digits 75 = .ok (.bipush 48, 2) := by decide +kernel
theorem dX9_digits_77 : decode cX9_digits 77 = .ok (.isub, 1) := by decide +kernel
theorem dX9_digits_78 : decode cX9_digits 78 = .ok (.iastore, 1) := by decide +kernel
theorem dX9_digits_79 : decode cX9_digits 79 = .ok (.iinc 3 1, 3) := by decide +kernel
theorem dX9_digits_82 : decode cX9_digits 82 = .ok (.goto (-73), 3) := by decide +kernel
theorem dX9_digits_85 : decode cX9_digits 85 = .ok (.iload_n 3, 1) := by decide +kernel
theorem dX9_digits_86 : decode cX9_digits 86 = .ok (.ifCond .le 7, 3) := by decide +kernel
theorem dX9_digits_89 : decode cX9_digits 89 = .ok (.iconst 1, 1) := by decide +kernel
theorem dX9_digits_90 : decode cX9_digits 90 = .ok (.goto 4, 3) := by decide +kernel
theorem dX9_digits_93 : decode cX9_digits 93 = .ok (.iconst 0, 1) := by decide +kernel
theorem dX9_digits_94 : decode cX9_digits 94 = .ok (.ireturn, 1) := by decide +kernel
theorem dX9_isOrder_0 : decode cX9_isOrder 0 = .ok (.aload_n 0, 1) := by decide +kernel
theorem dX9_isOrder_1 : decode cX9_isOrder 1 = .ok (.getfield 221, 3) := by decide +kernel
theorem dX9_isOrder_4 : decode cX9_isOrder 4 = .ok (.aload_n 0, 1) := by decide +kernel
theorem dX9_isOrder_5 : decode cX9_isOrder 5 = .ok (.getfield 218, 3) := by decide +kernel
theorem dX9_isOrder_8 : decode cX9_isOrder 8 = .ok (.if_icmp .ne 5, 3) := by decide +kernel
theorem dX9_isOrder_11 : decode cX9_isOrder 11 = .ok (.iconst 0, 1) := by decide +kernel
theorem dX9_isOrder_12 : decode cX9_isOrder 12 = .ok (.ireturn, 1) := by decide +kernel
theorem dX9_isOrder_13 : decode cX9_isOrder 13 = .ok (.aload_n 0, 1) := by decide +kernel
theorem dX9_isOrder_14 : decode cX9_isOrder 14 = .ok (.aload_n 0, 1) := by decide +kernel
theorem dX9_isOrder_15 : decode cX9_isOrder 15 = .ok (.getfield 26, 3) := by decide +kernel
theorem dX9_isOrder_18 : decode cX9_isOrder 18 = .ok (.aload_n 0, 1) := by decide +kernel
theorem dX9_isOrder_19 : decode cX9_isOrder 19 = .ok (.getfield 221, 3) := by decide +kernel
theorem dX9_isOrder_22 : decode cX9_isOrder 22 = .ok (.caload, 1) := by decide +kernel
theorem dX9_isOrder_23 : decode cX9_isOrder 23 = .ok (.putfield 224, 3) := by decide +kernel
theorem dX9_isOrder_26 : decode cX9_isOrder 26 = .ok (.aload_n 0, 1) := by decide +kernel
theorem dX9_isOrder_27 : decode cX9_isOrder 27 = .ok (.getfield 224, 3) := by decide +kernel
theorem dX9_isOrder_30 : decode cX9_isOrder 30 = .ok (.tableswitch 329 101 118 #[86, 147, 329, 329, 329, 329, 329, 329, 164, 329, 329, 225, 329, 286, 329, 329, 329, 225], 86) := by decide +kernel
theorem dX9_isOrder_116 : decode cX9_isOrder 116 = .ok (.aload_n 0, 1) := by decide +kernel
theorem dX9_isOrder_117 : decode cX9_isOrder 117 = .ok (.dup, 1) := by decide +kernel
theorem dX9_isOrder_118 : decode cX9_isOrder 118 = .ok (.getfield 221, 3) := by decide +kernel
theorem dX9_isOrder_121 : decode cX9_isOrder 121 = .ok (.iconst 1, 1) := by decide +kernel
theorem dX9_isOrder_122 : decode cX9_isOrder 122 = .ok (.iadd, 1) := by decide +kernel
theorem dX9_isOrder_123 : decode cX9_isOrder 123 = .ok (.putfield 221, 3) := by decide +kernel
theorem dX9_isOrder_126 : decode cX9_isOrder 126 = .ok (.aload_n 0, 1) := by decide +kernel
theorem dX9_isOrder_127 : decode cX9_isOrder 127 = .ok (.iconst 0, 1) := by decide +kernel
theorem dX9_isOrder_128 : decode cX9_isOrder 128 = .ok (.iconst 1, 1) := by decide +kernel
theorem dX9_isOrder_129 : decode cX9_isOrder 129 = .ok (.invokevirtual 228, 3) := by decide +kernel
theorem dX9_isOrder_132 : decode cX9_isOrder 132 = .ok (.ifCond .eq 43, 3) := by decide +kernel
theorem dX9_isOrder_135 : decode cX9_isOrder 135 = .ok (.aload_n 0, 1) := by decide +kernel
theorem dX9_isOrder_136 : decode cX9_isOrder 136 = .ok (.bipush 46, 2) := by decide +kernel
theorem dX9_isOrder_138 : decode cX9_isOrder 138 = .ok (.invokevirtual 231, 3) := by decide +kernel
theorem dX9_isOrder_141 : decode cX9_isOrder 141 = .ok (.ifCond .eq 34, 3) := by decide +kernel
theorem dX9_isOrder_144 : decode cX9_isOrder 144 = .ok (.aload_n 0, 1) := by decide +kernel
theorem dX9_isOrder_145 : decode cX9_isOrder 145 = .ok (.iconst 1, 1) := by decide +kernel
theorem dX9_isOrder_146 : decode cX9_isOrder 146 = .ok (.iconst 1, 1) := by decide +kernel
theorem dX9_isOrder_147 : decode cX9_isOrder 147 = .ok (.invokevirtual 228, 3) := by decide +kernel
theorem dX9_isOrder_150 : decode cX9_isOrder 150 = .ok (.ifCond .eq 25, 3) := by decide +kernel
theorem dX9_isOrder_153 : decode cX9_isOrder 153 = .ok (.aload_n 0, 1) := by decide +kernel
theorem dX9_isOrder_154 : decode cX9_isOrder 154 = .ok (.bipush 61, 2) := by decide +kernel
theorem dX9_isOrder_156 : decode cX9_isOrder 156 = .ok (.invokevirtual 231, 3) := by decide +kernel
theorem dX9_isOrder_159 : decode cX9_isOrder 159 = .ok (.ifCond .eq 16, 3) := by decide +kernel
theorem dX9_isOrder_162 : decode cX9_isOrder 162 = .ok (.aload_n 0, 1) := by decide +kernel
theorem dX9_isOrder_163 : decode cX9_isOrder 163 = .ok (.iconst 2, 1) := by decide +kernel
theorem dX9_isOrder_164 : decode cX9_isOrder 164 = .ok (.iconst 2, 1) := by decide +kernel
theorem dX9_isOrder_165 : decode cX9_isOrder 165 = .ok (.invokevirtual 228, 3) := by decide +kernel
theorem dX9_isOrder_168 : decode cX9_isOrder 168 = .ok (.ifCond .eq 7, 3) := by decide +kernel
theorem dX9_isOrder_171 : decode cX9_isOrder 171 = .ok (.iconst 1, 1) := by decide +kernel
theorem dX9_isOrder_172 : decode cX9_isOrder 172 = .ok (.goto 4, 3) := by decide +kernel
theorem dX9_isOrder_175 : decode cX9_isOrder 175 = .ok (.iconst 0, 1) := by decide +kernel
theorem dX9_isOrder_176 : decode cX9_isOrder 176 = .ok (.ireturn, 1) := by decide +kernel
theorem dX9_isOrder_177 : decode cX9_isOrder 177 = .ok (.aload_n 0, 1) := by decide +kernel
theorem dX9_isOrder_178 : decode cX9_isOrder 178 = .ok (.dup, 1) := by decide +kernel
theorem dX9_isOrder_179 : decode cX9_isOrder 179 = .ok (.getfield 221, 3) := by decide +kernel
theorem dX9_isOrder_182 : decode cX9_isOrder 182 = .ok (.iconst 1, 1) := by decide +kernel
theorem dX9_isOrder_183 : decode cX9_isOrder 183 = .ok (.iadd, 1) := by decide +kernel
theorem dX9_isOrder_184 : decode cX9_isOrder 184 = .ok (.putfield 221, 3) := by decide +kernel
theorem dX9_isOrder_187 : decode cX9_isOrder 187 = .ok (.aload_n 0, 1) := by decide +kernel
theorem dX9_isOrder_188 : decode cX9_isOrder 188 = .ok (.iconst 0, 1) := by decide +kernel
theorem dX9_isOrder_189 : decode cX9_isOrder 189 = .ok (.iconst 1, 1) := by decide +kernel
theorem dX9_isOrder_190 : decode cX9_isOrder 190 = .ok (.invokevirtual 228, 3) := by decide +kernel
theorem dX9_isOrder_193 : decode cX9_isOrder 193 = .ok (.ireturn, 1) := by decide +kernel
theorem dX9_isOrder_194 : decode cX9_isOrder 194 = .ok (.aload_n 0, 1) := by decide +kernel
theorem dX9_isOrder_195 : decode cX9_isOrder 195 = .ok (.dup, 1) := by decide +kernel
theorem dX9_isOrder_196 : decode cX9_isOrder 196 = .ok (.getfield 221, 3) := by decide +kernel
theorem dX9_isOrder_199 : decode cX9_isOrder 199 = .ok (.iconst 1, 1) := by decide +kernel
theorem dX9_isOrder_200 : decode cX9_isOrder 200 = .ok (.iadd, 1) := by decide +kernel
theorem dX9_isOrder_201 : decode cX9_isOrder 201 = .ok (.putfield 221, 3) := by decide +kernel
theorem dX9_isOrder_204 : decode cX9_isOrder 204 = .ok (.aload_n 0, 1) := by decide +kernel
theorem dX9_isOrder_205 : decode cX9_isOrder 205 = .ok (.iconst 0, 1) := by decide +kernel
theorem dX9_isOrder_206 : decode cX9_isOrder 206 = .ok (.iconst 1, 1) := by decide +kernel
theorem dX9_isOrder_207 : decode cX9_isOrder 207 = .ok (.invokevirtual 228, 3) := by decide +kernel
theorem dX9_isOrder_210 : decode cX9_isOrder 210 = .ok (.ifCond .eq 43, 3) := by decide +kernel
theorem dX9_isOrder_213 : decode cX9_isOrder 213 = .ok (.aload_n 0, 1) := by decide +kernel
theorem dX9_isOrder_214 : decode cX9_isOrder 214 = .ok (.bipush 60, 2) := by decide +kernel
theorem dX9_isOrder_216 : decode cX9_isOrder 216 = .ok (.invokevirtual 231, 3) := by decide +kernel
theorem dX9_isOrder_219 : decode cX9_isOrder 219 = .ok (.ifCond .eq 34, 3) := by decide +kernel
theorem dX9_isOrder_222 : decode cX9_isOrder 222 = .ok (.aload_n 0, 1) := by decide +kernel
theorem dX9_isOrder_223 : decode cX9_isOrder 223 = .ok (.iconst 1, 1) := by decide +kernel
theorem dX9_isOrder_224 : decode cX9_isOrder 224 = .ok (.iconst 1, 1) := by decide +kernel
theorem dX9_isOrder_225 : decode cX9_isOrder 225 = .ok (.invokevirtual 228, 3) := by decide +kernel
theorem dX9_isOrder_228 : decode cX9_isOrder 228 = .ok (.ifCond .eq 25, 3) := by decide +kernel
theorem dX9_isOrder_231 : decode cX9_isOrder 231 = .ok (.aload_n 0, 1) := by decide +kernel
theorem dX9_isOrder_232 : decode cX9_isOrder 232 = .ok (.bipush 33, 2) := by decide +kernel
theorem dX9_isOrder_234 : decode cX9_isOrder 234 = .ok (.invokevirtual 231, 3) := by decide +kernel
theorem dX9_isOrder_237 : decode cX9_isOrder 237 = .ok (.ifCond .eq 16, 3) := by decide +kernel
theorem dX9_isOrder_240 : decode cX9_isOrder 240 = .ok (.aload_n 0, 1) := by decide +kernel
theorem dX9_isOrder_241 : decode cX9_isOrder 241 = .ok (.iconst 2, 1) := by decide +kernel
theorem dX9_isOrder_242 : decode cX9_isOrder 242 = .ok (.iconst 1, 1) := by decide +kernel
theorem dX9_isOrder_243 : decode cX9_isOrder 243 = .ok (.invokevirtual 228, 3) := by decide +kernel
theorem dX9_isOrder_246 : decode cX9_isOrder 246 = .ok (.ifCond .eq 7, 3) := by decide +kernel
theorem dX9_isOrder_249 : decode cX9_isOrder 249 = .ok (.iconst 1, 1) := by decide +kernel
theorem dX9_isOrder_250 : decode cX9_isOrder 250 = .ok (.goto 4, 3) := by decide +kernel
theorem dX9_isOrder_253 : decode cX9_isOrder 253 = .ok (.iconst 0, 1) := by decide +kernel
theorem dX9_isOrder_254 : decode cX9_isOrder 254 = .ok (.ireturn, 1) := by decide +kernel
theorem dX9_isOrder_255 : decode cX9_isOrder 255 = .ok (.aload_n 0, 1) := by decide +kernel
theorem dX9_isOrder_256 : decode cX9_isOrder 256 = .ok (.dup, 1) := by decide +kernel
theorem dX9_isOrder_257 : decode cX9_isOrder 257 = .ok (.getfield 221, 3) := by decide +kernel
theorem dX9_isOrder_260 : decode cX9_isOrder 260 = .ok (.iconst 1, 1) := by decide +kernel
theorem dX9_isOrder_261 : decode cX9_isOrder 261 = .ok (.iadd, 1) := by decide +kernel
theorem dX9_isOrder_262 : decode cX9_isOrder 262 = .ok (.putfield 221, 3) := by decide +kernel
theorem dX9_isOrder_265 : decode cX9_isOrder 265 = .ok (.aload_n 0, 1) := by decide +kernel
theorem dX9_isOrder_266 : decode cX9_isOrder 266 = .ok (.iconst 0, 1) := by decide +kernel
theorem dX9_isOrder_267 : decode cX9_isOrder 267 = .ok (.iconst 1, 1) := by decide +kernel
theorem dX9_isOrder_268 : decode cX9_isOrder 268 = .ok (.invokevirtual 228, 3) := by decide +kernel
theorem dX9_isOrder_271 : decode cX9_isOrder 271 = .ok (.ifCond .eq 43, 3) := by decide +kernel
theorem dX9_isOrder_274 : decode cX9_isOrder 274 = .ok (.aload_n 0, 1) := by decide +kernel
theorem dX9_isOrder_275 : decode cX9_isOrder 275 = .ok (.bipush 60, 2) := by decide +kernel
theorem dX9_isOrder_277 : decode cX9_isOrder 277 = .ok (.invokevirtual 231, 3) := by decide +kernel
theorem dX9_isOrder_280 : decode cX9_isOrder 280 = .ok (.ifCond .eq 34, 3) := by decide +kernel
theorem dX9_isOrder_283 : decode cX9_isOrder 283 = .ok (.aload_n 0, 1) := by decide +kernel
theorem dX9_isOrder_284 : decode cX9_isOrder 284 = .ok (.iconst 1, 1) := by decide +kernel
theorem dX9_isOrder_285 : decode cX9_isOrder 285 = .ok (.iconst 2, 1) := by decide +kernel
theorem dX9_isOrder_286 : decode cX9_isOrder 286 = .ok (.invokevirtual 228, 3) := by decide +kernel
theorem dX9_isOrder_289 : decode cX9_isOrder 289 = .ok (.ifCond .eq 25, 3) := by decide +kernel
theorem dX9_isOrder_292 : decode cX9_isOrder 292 = .ok (.aload_n 0, 1) := by decide +kernel
theorem dX9_isOrder_293 : decode cX9_isOrder 293 = .ok (.bipush 33, 2) := by decide +kernel
theorem dX9_isOrder_295 : decode cX9_isOrder 295 = .ok (.invokevirtual 231, 3) := by decide +kernel
theorem dX9_isOrder_298 : decode cX9_isOrder 298 = .ok (.ifCond .eq 16, 3) := by decide +kernel
theorem dX9_isOrder_301 : decode cX9_isOrder 301 = .ok (.aload_n 0, 1) := by decide +kernel
theorem dX9_isOrder_302 : decode cX9_isOrder 302 = .ok (.iconst 2, 1) := by decide +kernel
theorem dX9_isOrder_303 : decode cX9_isOrder 303 = .ok (.iconst 1, 1) := by decide +kernel
theorem dX9_isOrder_304 : decode cX9_isOrder 304 = .ok (.invokevirtual 228, 3) := by decide +kernel
theorem dX9_isOrder_307 : decode cX9_isOrder 307 = .ok (.ifCond .eq 7, 3) := by decide +kernel
theorem dX9_isOrder_310 : decode cX9_isOrder 310 = .ok (.iconst 1, 1) := by decide +kernel
theorem dX9_isOrder_311 : decode cX9_isOrder 311 = .ok (.goto 4, 3) := by decide +kernel
theorem dX9_isOrder_314 : decode cX9_isOrder 314 = .ok (.iconst 0, 1) := by decide +kernel
theorem dX9_isOrder_315 : decode cX9_isOrder 315 = .ok (.ireturn, 1) := by decide +kernel
theorem dX9_isOrder_316 : decode cX9_isOrder 316 = .ok (.aload_n 0, 1) := by decide +kernel
theorem dX9_isOrder_317 : decode cX9_isOrder 317 = .ok (.dup, 1) := by decide +kernel
theorem dX9_isOrder_318 : decode cX9_isOrder 318 = .ok (.getfield 221, 3) := by decide +kernel
theorem dX9_isOrder_321 : decode cX9_isOrder 321 = .ok (.iconst 1, 1) := by decide +kernel
theorem dX9_isOrder_322 : decode cX9_isOrder 322 = .ok (.iadd, 1) := by decide +kernel
theorem dX9_isOrder_323 : decode cX9_isOrder 323 = .ok (.putfield 221, 3) := by decide +kernel
theorem dX9_isOrder_326 : decode cX9_isOrder 326 = .ok (.aload_n 0, 1) := by decide +kernel
theorem dX9_isOrder_327 : decode cX9_isOrder 327 = .ok (.iconst 0, 1) := by decide +kernel
theorem dX9_isOrder_328 : decode cX9_isOrder 328 = .ok (.iconst 1, 1) := by decide +kernel
theorem dX9_isOrder_329 : decode cX9_isOrder 329 = .ok (.invokevirtual 228, 3) := by decide +kernel
theorem dX9_isOrder_332 : decode cX9_isOrder 332 = .ok (.ifCond .eq 25, 3) := by decide +kernel
theorem dX9_isOrder_335 : decode cX9_isOrder 335 = .ok (.aload_n 0, 1) := by decide +kernel
theorem dX9_isOrder_336 : decode cX9_isOrder 336 = .ok (.bipush 61, 2) := by decide +kernel
theorem dX9_isOrder_338 : decode cX9_isOrder 338 = .ok (.invokevirtual 231, 3) := by decide +kernel
theorem dX9_isOrder_341 : decode cX9_isOrder 341 = .ok (.ifCond .eq 16, 3) := by decide +kernel
theorem dX9_isOrder_344 : decode cX9_isOrder 344 = .ok (.aload_n 0, 1) := by decide +kernel
theorem dX9_isOrder_345 : decode cX9_isOrder 345 = .ok (.iconst 1, 1) := by decide +kernel
theorem dX9_isOrder_346 : decode cX9_isOrder 346 = .ok (.iconst 2, 1) := by decide +kernel
theorem dX9_isOrder_347 : decode cX9_isOrder 347 = .ok (.invokevirtual 228, 3) := by decide +kernel
theorem dX9_isOrder_350 : decode cX9_isOrder 350 = .ok (.ifCond .eq 7, 3) := by decide +kernel
theorem dX9_isOrder_353 : decode cX9_isOrder 353 = .ok (.iconst 1, 1) := by decide +kernel
theorem dX9_isOrder_354 : decode cX9_isOrder 354 = .ok (.goto 4, 3) := by decide +kernel
theorem dX9_isOrder_357 : decode cX9_isOrder 357 = .ok (.iconst 0, 1) := by decide +kernel
theorem dX9_isOrder_358 : decode cX9_isOrder 358 = .ok (.ireturn, 1) := by decide +kernel
theorem dX9_isOrder_359 : decode cX9_isOrder 359 = .ok (.iconst 0, 1) := by decide +kernel
theorem dX9_isOrder_360 : decode cX9_isOrder 360 = .ok (.ireturn, 1) := by decide +kernel
theorem dX9_carries_0 : decode cX9_carries 0 = .ok (.aload_n 0, 1) := by decide +kernel
theorem dX9_carries_1 : decode cX9_carries 1 = .ok (.getfield 224, 3) := by decide +kernel
theorem dX9_carries_4 : decode cX9_carries 4 = .ok (.lookupswitch 155 #[(101, 52), (102, 75), (109, 86), (112, 109), (118, 132)], 52) := by decide +kernel
theorem dX9_carries_56 : decode cX9_carries 56 = .ok (.aload_n 0, 1) := by decide +kernel
theorem dX9_carries_57 : decode cX9_carries 57 = .ok (.aload_n 0, 1) := by decide +kernel
theorem dX9_carries_58 : decode cX9_carries 58 = .ok (.getfield 29, 3) := by decide +kernel
theorem dX9_carries_61 : decode cX9_carries 61 = .ok (.iconst 0, 1) := by decide +kernel
theorem dX9_carries_62 : decode cX9_carries 62 = .ok (.iaload, 1) := by decide +kernel
theorem dX9_carries_63 : decode cX9_carries 63 = .ok (.aload_n 0, 1) := by decide +kernel
theorem dX9_carries_64 : decode cX9_carries 64 = .ok (.getfield 29, 3) := by decide +kernel
theorem dX9_carries_67 : decode cX9_carries 67 = .ok (.iconst 1, 1) := by decide +kernel
theorem dX9_carries_68 : decode cX9_carries 68 = .ok (.iaload, 1) := by decide +kernel
theorem dX9_carries_69 : decode cX9_carries 69 = .ok (.aload_n 0, 1) := by decide +kernel
theorem dX9_carries_70 : decode cX9_carries 70 = .ok (.getfield 29, 3) := by decide +kernel
theorem dX9_carries_73 : decode cX9_carries 73 = .ok (.iconst 2, 1) := by decide +kernel
theorem dX9_carries_74 : decode cX9_carries 74 = .ok (.iaload, 1) := by decide +kernel
theorem dX9_carries_75 : decode cX9_carries 75 = .ok (.invokevirtual 98, 3) := by decide +kernel
theorem dX9_carries_78 : decode cX9_carries 78 = .ok (.ireturn, 1) := by decide +kernel
theorem dX9_carries_79 : decode cX9_carries 79 = .ok (.aload_n 0, 1) := by decide +kernel
theorem dX9_carries_80 : decode cX9_carries 80 = .ok (.aload_n 0, 1) := by decide +kernel
theorem dX9_carries_81 : decode cX9_carries 81 = .ok (.getfield 29, 3) := by decide +kernel
theorem dX9_carries_84 : decode cX9_carries 84 = .ok (.iconst 0, 1) := by decide +kernel
theorem dX9_carries_85 : decode cX9_carries 85 = .ok (.iaload, 1) := by decide +kernel
theorem dX9_carries_86 : decode cX9_carries 86 = .ok (.invokevirtual 104, 3) := by decide +kernel
theorem dX9_carries_89 : decode cX9_carries 89 = .ok (.ireturn, 1) := by decide +kernel
theorem dX9_carries_90 : decode cX9_carries 90 = .ok (.aload_n 0, 1) := by decide +kernel
theorem dX9_carries_91 : decode cX9_carries 91 = .ok (.aload_n 0, 1) := by decide +kernel
theorem dX9_carries_92 : decode cX9_carries 92 = .ok (.getfield 29, 3) := by decide +kernel
theorem dX9_carries_95 : decode cX9_carries 95 = .ok (.iconst 0, 1) := by decide +kernel
theorem dX9_carries_96 : decode cX9_carries 96 = .ok (.iaload, 1) := by decide +kernel
theorem dX9_carries_97 : decode cX9_carries 97 = .ok (.aload_n 0, 1) := by decide +kernel
theorem dX9_carries_98 : decode cX9_carries 98 = .ok (.getfield 29, 3) := by decide +kernel
theorem dX9_carries_101 : decode cX9_carries 101 = .ok (.iconst 1, 1) := by decide +kernel
theorem dX9_carries_102 : decode cX9_carries 102 = .ok (.iaload, 1) := by decide +kernel
theorem dX9_carries_103 : decode cX9_carries 103 = .ok (.aload_n 0, 1) := by decide +kernel
theorem dX9_carries_104 : decode cX9_carries 104 = .ok (.getfield 29, 3) := by decide +kernel
theorem dX9_carries_107 : decode cX9_carries 107 = .ok (.iconst 2, 1) := by decide +kernel
theorem dX9_carries_108 : decode cX9_carries 108 = .ok (.iaload, 1) := by decide +kernel
theorem dX9_carries_109 : decode cX9_carries 109 = .ok (.invokevirtual 153, 3) := by decide +kernel
theorem dX9_carries_112 : decode cX9_carries 112 = .ok (.ireturn, 1) := by decide +kernel
theorem dX9_carries_113 : decode cX9_carries 113 = .ok (.aload_n 0, 1) := by decide +kernel
theorem dX9_carries_114 : decode cX9_carries 114 = .ok (.aload_n 0, 1) := by decide +kernel
theorem dX9_carries_115 : decode cX9_carries 115 = .ok (.getfield 29, 3) := by decide +kernel
theorem dX9_carries_118 : decode cX9_carries 118 = .ok (.iconst 0, 1) := by decide +kernel
theorem dX9_carries_119 : decode cX9_carries 119 = .ok (.iaload, 1) := by decide +kernel
theorem dX9_carries_120 : decode cX9_carries 120 = .ok (.aload_n 0, 1) := by decide +kernel
theorem dX9_carries_121 : decode cX9_carries 121 = .ok (.getfield 29, 3) := by decide +kernel
theorem dX9_carries_124 : decode cX9_carries 124 = .ok (.iconst 1, 1) := by decide +kernel
theorem dX9_carries_125 : decode cX9_carries 125 = .ok (.iaload, 1) := by decide +kernel
theorem dX9_carries_126 : decode cX9_carries 126 = .ok (.aload_n 0, 1) := by decide +kernel
theorem dX9_carries_127 : decode cX9_carries 127 = .ok (.getfield 29, 3) := by decide +kernel
theorem dX9_carries_130 : decode cX9_carries 130 = .ok (.iconst 2, 1) := by decide +kernel
theorem dX9_carries_131 : decode cX9_carries 131 = .ok (.iaload, 1) := by decide +kernel
theorem dX9_carries_132 : decode cX9_carries 132 = .ok (.invokevirtual 159, 3) := by decide +kernel
theorem dX9_carries_135 : decode cX9_carries 135 = .ok (.ireturn, 1) := by decide +kernel
theorem dX9_carries_136 : decode cX9_carries 136 = .ok (.aload_n 0, 1) := by decide +kernel
theorem dX9_carries_137 : decode cX9_carries 137 = .ok (.aload_n 0, 1) := by decide +kernel
theorem dX9_carries_138 : decode cX9_carries 138 = .ok (.getfield 29, 3) := by decide +kernel
theorem dX9_carries_141 : decode cX9_carries 141 = .ok (.iconst 0, 1) := by decide +kernel
theorem dX9_carries_142 : decode cX9_carries 142 = .ok (.iaload, 1) := by decide +kernel
theorem dX9_carries_143 : decode cX9_carries 143 = .ok (.aload_n 0, 1) := by decide +kernel
theorem dX9_carries_144 : decode cX9_carries 144 = .ok (.getfield 29, 3) := by decide +kernel
theorem dX9_carries_147 : decode cX9_carries 147 = .ok (.iconst 1, 1) := by decide +kernel
theorem dX9_carries_148 : decode cX9_carries 148 = .ok (.iaload, 1) := by decide +kernel
theorem dX9_carries_149 : decode cX9_carries 149 = .ok (.aload_n 0, 1) := by decide +kernel
theorem dX9_carries_150 : decode cX9_carries 150 = .ok (.getfield 29, 3) := by decide +kernel
theorem dX9_carries_153 : decode cX9_carries 153 = .ok (.iconst 2, 1) := by decide +kernel
theorem dX9_carries_154 : decode cX9_carries 154 = .ok (.iaload, 1) := by decide +kernel
theorem dX9_carries_155 : decode cX9_carries 155 = .ok (.invokevirtual 162, 3) := by decide +kernel
theorem dX9_carries_158 : decode cX9_carries 158 = .ok (.ireturn, 1) := by decide +kernel
theorem dX9_carries_159 : decode cX9_carries 159 = .ok (.aload_n 0, 1) := by decide +kernel
theorem dX9_carries_160 : decode cX9_carries 160 = .ok (.aload_n 0, 1) := by decide +kernel
theorem dX9_carries_161 : decode cX9_carries 161 = .ok (.getfield 29, 3) := by decide +kernel
theorem dX9_carries_164 : decode cX9_carries 164 = .ok (.iconst 0, 1) := by decide +kernel
theorem dX9_carries_165 : decode cX9_carries 165 = .ok (.iaload, 1) := by decide +kernel
theorem dX9_carries_166 : decode cX9_carries 166 = .ok (.aload_n 0, 1) := by decide +kernel
theorem dX9_carries_167 : decode cX9_carries 167 = .ok (.getfield 29, 3) := by decide +kernel
theorem dX9_carries_170 : decode cX9_carries 170 = .ok (.iconst 1, 1) := by decide +kernel
theorem dX9_carries_171 : decode cX9_carries 171 = .ok (.iaload, 1) := by decide +kernel
theorem dX9_carries_172 : decode cX9_carries 172 = .ok (.invokevirtual 113, 3) := by decide +kernel
theorem dX9_carries_175 : decode cX9_carries 175 = .ok (.ireturn, 1) := by decide +kernel
theorem dX9_read_0 : decode cX9_read 0 = .ok (.aload_n 0, 1) := by decide +kernel
theorem dX9_read_1 : decode cX9_read 1 = .ok (.invokevirtual 95, 3) := by decide +kernel
theorem dX9_read_4 : decode cX9_read 4 = .ok (.aload_n 0, 1) := by decide +kernel
theorem dX9_read_5 : decode cX9_read 5 = .ok (.iconst 0, 1) := by decide +kernel
theorem dX9_read_6 : decode cX9_read 6 = .ok (.putfield 221, 3) := by decide +kernel
theorem dX9_read_9 : decode cX9_read 9 = .ok (.aload_n 0, 1) := by decide +kernel
theorem dX9_read_10 : decode cX9_read 10 = .ok (.iconst (-1), 1) := by decide +kernel
theorem dX9_read_11 : decode cX9_read 11 = .ok (.putfield 32, 3) := by decide +kernel
theorem dX9_read_14 : decode cX9_read 14 = .ok (.aload_n 0, 1) := by decide +kernel
theorem dX9_read_15 : decode cX9_read 15 = .ok (.invokevirtual 235, 3) := by decide +kernel
theorem dX9_read_18 : decode cX9_read 18 = .ok (.istore_n 1, 1) := by decide +kernel
theorem dX9_read_19 : decode cX9_read 19 = .ok (.iload_n 1, 1) := by decide +kernel
theorem dX9_read_20 : decode cX9_read 20 = .ok (.ifCond .eq 39, 3) := by decide +kernel
theorem dX9_read_23 : decode cX9_read 23 = .ok (.aload_n 0, 1) := by decide +kernel
theorem dX9_read_24 : decode cX9_read 24 = .ok (.getfield 221, 3) := by decide +kernel
theorem dX9_read_27 : decode cX9_read 27 = .ok (.aload_n 0, 1) := by decide +kernel
theorem dX9_read_28 : decode cX9_read 28 = .ok (.getfield 218, 3) := by decide +kernel
theorem dX9_read_31 : decode cX9_read 31 = .ok (.if_icmp .ge 28, 3) := by decide +kernel
theorem dX9_read_34 : decode cX9_read 34 = .ok (.aload_n 0, 1) := by decide +kernel
theorem dX9_read_35 : decode cX9_read 35 = .ok (.bipush 59, 2) := by decide +kernel
theorem dX9_read_37 : decode cX9_read 37 = .ok (.invokevirtual 231, 3) := by decide +kernel
theorem dX9_read_40 : decode cX9_read 40 = .ok (.ifCond .eq 14, 3) := by decide +kernel
theorem dX9_read_43 : decode cX9_read 43 = .ok (.aload_n 0, 1) := by decide +kernel
theorem dX9_read_44 : decode cX9_read 44 = .ok (.invokevirtual 235, 3) := by decide +kernel
theorem dX9_read_47 : decode cX9_read 47 = .ok (.ifCond .eq 7, 3) := by decide +kernel
theorem dX9_read_50 : decode cX9_read 50 = .ok (.iconst 1, 1) := by decide +kernel
theorem dX9_read_51 : decode cX9_read 51 = .ok (.goto 4, 3) := by decide +kernel
theorem dX9_read_54 : decode cX9_read 54 = .ok (.iconst 0, 1) := by decide +kernel
theorem dX9_read_55 : decode cX9_read 55 = .ok (.istore_n 1, 1) := by decide +kernel
theorem dX9_read_56 : decode cX9_read 56 = .ok (.goto (-37), 3) := by decide +kernel
theorem dX9_read_59 : decode cX9_read 59 = .ok (.iload_n 1, 1) := by decide +kernel
theorem dX9_read_60 : decode cX9_read 60 = .ok (.ifCond .ne 22, 3) := by decide +kernel
theorem dX9_read_63 : decode cX9_read 63 = .ok (.aload_n 0, 1) := by decide +kernel
theorem dX9_read_64 : decode cX9_read 64 = .ok (.aload_n 0, 1) := by decide +kernel
theorem dX9_read_65 : decode cX9_read 65 = .ok (.getfield 221, 3) := by decide +kernel
theorem dX9_read_68 : decode cX9_read 68 = .ok (.putfield 32, 3) := by decide +kernel
theorem dX9_read_71 : decode cX9_read 71 = .ok (.aload_n 0, 1) := by decide +kernel
theorem dX9_read_72 : decode cX9_read 72 = .ok (.iconst 0, 1) := by decide +kernel
theorem dX9_read_73 : decode cX9_read 73 = .ok (.putfield 218, 3) := by decide +kernel
theorem dX9_read_76 : decode cX9_read 76 = .ok (.aload_n 0, 1) := by decide +kernel
theorem dX9_read_77 : decode cX9_read 77 = .ok (.iconst 1, 1) := by decide +kernel
theorem dX9_read_78 : decode cX9_read 78 = .ok (.invokevirtual 58, 3) := by decide +kernel
theorem dX9_read_81 : decode cX9_read 81 = .ok (.ireturn, 1) := by decide +kernel
theorem dX9_read_82 : decode cX9_read 82 = .ok (.aload_n 0, 1) := by decide +kernel
theorem dX9_read_83 : decode cX9_read 83 = .ok (.iconst 0, 1) := by decide +kernel
theorem dX9_read_84 : decode cX9_read 84 = .ok (.putfield 221, 3) := by decide +kernel
theorem dX9_read_87 : decode cX9_read 87 = .ok (.iconst 0, 1) := by decide +kernel
theorem dX9_read_88 : decode cX9_read 88 = .ok (.istore_n 2, 1) := by decide +kernel
theorem dX9_read_89 : decode cX9_read 89 = .ok (.iconst 0, 1) := by decide +kernel
theorem dX9_read_90 : decode cX9_read 90 = .ok (.istore_n 3, 1) := by decide +kernel
theorem dX9_read_91 : decode cX9_read 91 = .ok (.iconst 1, 1) := by decide +kernel
theorem dX9_read_92 : decode cX9_read 92 = .ok (.istore 4, 2) := by decide +kernel
theorem dX9_read_94 : decode cX9_read 94 = .ok (.iload 4, 2) := by decide +kernel
theorem dX9_read_96 : decode cX9_read 96 = .ok (.ifCond .eq 43, 3) := by decide +kernel
theorem dX9_read_99 : decode cX9_read 99 = .ok (.aload_n 0, 1) := by decide +kernel
theorem dX9_read_100 : decode cX9_read 100 = .ok (.invokevirtual 235, 3) := by decide +kernel
theorem dX9_read_103 : decode cX9_read 103 = .ok (.istore_n 1, 1) := by decide +kernel
theorem dX9_read_104 : decode cX9_read 104 = .ok (.aload_n 0, 1) := by decide +kernel
theorem dX9_read_105 : decode cX9_read 105 = .ok (.invokevirtual 239, 3) := by decide +kernel
theorem dX9_read_108 : decode cX9_read 108 = .ok (.istore_n 3, 1) := by decide +kernel
theorem dX9_read_109 : decode cX9_read 109 = .ok (.iload_n 3, 1) := by decide +kernel
theorem dX9_read_110 : decode cX9_read 110 = .ok (.ifCond .ne 6, 3) := by decide +kernel
theorem dX9_read_113 : decode cX9_read 113 = .ok (.iinc 2 1, 3) := by decide +kernel
theorem dX9_read_116 : decode cX9_read 116 = .ok (.iload_n 3, 1) := by decide +kernel
theorem dX9_read_117 : decode cX9_read 117 = .ok (.ifCond .ne 16, 3) := by decide +kernel
theorem dX9_read_120 : decode cX9_read 120 = .ok (.aload_n 0, 1) := by decide +kernel
theorem dX9_read_121 : decode cX9_read 121 = .ok (.bipush 59, 2) := by decide +kernel
theorem dX9_read_123 : decode cX9_read 123 = .ok (.invokevirtual 231, 3) := by decide +kernel
theorem dX9_read_126 : decode cX9_read 126 = .ok (.ifCond .eq 7, 3) := by decide +kernel
theorem dX9_read_129 : decode cX9_read 129 = .ok (.iconst 1, 1) := by decide +kernel
theorem dX9_read_130 : decode cX9_read 130 = .ok (.goto 4, 3) := by decide +kernel
theorem dX9_read_133 : decode cX9_read 133 = .ok (.iconst 0, 1) := by decide +kernel
theorem dX9_read_134 : decode cX9_read 134 = .ok (.istore 4, 2) := by decide +kernel
theorem dX9_read_136 : decode cX9_read 136 = .ok (.goto (-42), 3) := by decide +kernel
theorem dX9_read_139 : decode cX9_read 139 = .ok (.aload_n 0, 1) := by decide +kernel
theorem dX9_read_140 : decode cX9_read 140 = .ok (.iconst 0, 1) := by decide +kernel
theorem dX9_read_141 : decode cX9_read 141 = .ok (.putfield 218, 3) := by decide +kernel
theorem dX9_read_144 : decode cX9_read 144 = .ok (.iload_n 3, 1) := by decide +kernel
theorem dX9_read_145 : decode cX9_read 145 = .ok (.ifCond .ne 9, 3) := by decide +kernel
theorem dX9_read_148 : decode cX9_read 148 = .ok (.aload_n 0, 1) := by decide +kernel
theorem dX9_read_149 : decode cX9_read 149 = .ok (.iload_n 2, 1) := by decide +kernel
theorem dX9_read_150 : decode cX9_read 150 = .ok (.invokevirtual 54, 3) := by decide +kernel
theorem dX9_read_153 : decode cX9_read 153 = .ok (.ireturn, 1) := by decide +kernel
theorem dX9_read_154 : decode cX9_read 154 = .ok (.aload_n 0, 1) := by decide +kernel
theorem dX9_read_155 : decode cX9_read 155 = .ok (.invokevirtual 201, 3) := by decide +kernel
theorem dX9_read_158 : decode cX9_read 158 = .ok (.aload_n 0, 1) := by decide +kernel
theorem dX9_read_159 : decode cX9_read 159 = .ok (.iload_n 3, 1) := by decide +kernel
theorem dX9_read_160 : decode cX9_read 160 = .ok (.iconst 3, 1) := by decide +kernel
theorem dX9_read_161 : decode cX9_read 161 = .ok (.if_icmp .ne 7, 3) := by decide +kernel
theorem dX9_read_164 : decode cX9_read 164 = .ok (.iconst 2, 1) := by decide +kernel
theorem dX9_read_165 : decode cX9_read 165 = .ok (.goto 4, 3) := by decide +kernel
theorem dX9_read_168 : decode cX9_read 168 = .ok (.iconst 1, 1) := by decide +kernel
theorem dX9_read_169 : decode cX9_read 169 = .ok (.invokevirtual 58, 3) := by decide +kernel
theorem dX9_read_172 : decode cX9_read 172 = .ok (.ireturn, 1) := by decide +kernel
theorem dX9_errorPosition_0 : decode cX9_errorPosition 0 = .ok (.aload_n 0, 1) := by decide +kernel
theorem dX9_errorPosition_1 : decode cX9_errorPosition 1 = .ok (.iconst 0, 1) := by decide +kernel
theorem dX9_errorPosition_2 : decode cX9_errorPosition 2 = .ok (.putfield 39, 3) := by decide +kernel
theorem dX9_errorPosition_5 : decode cX9_errorPosition 5 = .ok (.aload_n 0, 1) := by decide +kernel
theorem dX9_errorPosition_6 : decode cX9_errorPosition 6 = .ok (.getfield 32, 3) := by decide +kernel
theorem dX9_errorPosition_9 : decode cX9_errorPosition 9 = .ok (.ireturn, 1) := by decide +kernel
theorem dX9_refusal_0 : decode cX9_refusal 0 = .ok (.aload_n 0, 1) := by decide +kernel
theorem dX9_refusal_1 : decode cX9_refusal 1 = .ok (.iconst 0, 1) := by decide +kernel
theorem dX9_refusal_2 : decode cX9_refusal 2 = .ok (.putfield 39, 3) := by decide +kernel
theorem dX9_refusal_5 : decode cX9_refusal 5 = .ok (.aload_n 0, 1) := by decide +kernel
theorem dX9_refusal_6 : decode cX9_refusal 6 = .ok (.getfield 48, 3) := by decide +kernel
theorem dX9_refusal_9 : decode cX9_refusal 9 = .ok (.ifCond .ne 9, 3) := by decide +kernel
theorem dX9_refusal_12 : decode cX9_refusal 12 = .ok (.aload_n 0, 1) := by decide +kernel
theorem dX9_refusal_13 : decode cX9_refusal 13 = .ok (.iconst 1, 1) := by decide +kernel
theorem dX9_refusal_14 : decode cX9_refusal 14 = .ok (.invokevirtual 58, 3) := by decide +kernel
theorem dX9_refusal_17 : decode cX9_refusal 17 = .ok (.ireturn, 1) := by decide +kernel
theorem dX9_refusal_18 : decode cX9_refusal 18 = .ok (.iload_n 1, 1) := by decide +kernel
theorem dX9_refusal_19 : decode cX9_refusal 19 = .ok (.ifCond .eq 10, 3) := by decide +kernel
theorem dX9_refusal_22 : decode cX9_refusal 22 = .ok (.aload_n 0, 1) := by decide +kernel
theorem dX9_refusal_23 : decode cX9_refusal 23 = .ok (.getfield 51, 3) := by decide +kernel
theorem dX9_refusal_26 : decode cX9_refusal 26 = .ok (.goto 7, 3) := by decide +kernel
theorem dX9_refusal_29 : decode cX9_refusal 29 = .ok (.aload_n 0, 1) := by decide +kernel
theorem dX9_refusal_30 : decode cX9_refusal 30 = .ok (.getfield 48, 3) := by decide +kernel
theorem dX9_refusal_33 : decode cX9_refusal 33 = .ok (.ireturn, 1) := by decide +kernel
theorem dX9_those_0 : decode cX9_those 0 = .ok (.iconst 0, 1) := by decide +kernel
theorem dX9_those_1 : decode cX9_those 1 = .ok (.istore_n 2, 1) := by decide +kernel
theorem dX9_those_2 : decode cX9_those 2 = .ok (.iconst 0, 1) := by decide +kernel
theorem dX9_those_3 : decode cX9_those 3 = .ok (.istore_n 3, 1) := by decide +kernel
theorem dX9_those_4 : decode cX9_those 4 = .ok (.iload_n 3, 1) := by decide +kernel
theorem dX9_those_5 : decode cX9_those 5 = .ok (.aload_n 0, 1) := by decide +kernel
theorem dX9_those_6 : decode cX9_those 6 = .ok (.getfield 9, 3) := by decide +kernel
theorem dX9_those_9 : decode cX9_those 9 = .ok (.iconst 0, 1) := by decide +kernel
theorem dX9_those_10 : decode cX9_those 10 = .ok (.iaload, 1) := by decide +kernel
theorem dX9_those_11 : decode cX9_those 11 = .ok (.if_icmp .ge 22, 3) := by decide +kernel
theorem dX9_those_14 : decode cX9_those 14 = .ok (.aload_n 0, 1) := by decide +kernel
theorem dX9_those_15 : decode cX9_those 15 = .ok (.iload_n 3, 1) := by decide +kernel
theorem dX9_those_16 : decode cX9_those 16 = .ok (.iconst 0, 1) := by decide +kernel
theorem dX9_those_17 : decode cX9_those 17 = .ok (.invokevirtual 65, 3) := by decide +kernel
theorem dX9_those_20 : decode cX9_those 20 = .ok (.iload_n 1, 1) := by decide +kernel
theorem dX9_those_21 : decode cX9_those 21 = .ok (.if_icmp .ne 6, 3) := by decide +kernel
theorem dX9_those_24 : decode cX9_those 24 = .ok (.iinc 2 1, 3) := by decide +kernel
theorem dX9_those_27 : decode cX9_those 27 = .ok (.iinc 3 1, 3) := by decide +kernel
theorem dX9_those_30 : decode cX9_those 30 = .ok (.goto (-26), 3) := by decide +kernel
theorem dX9_those_33 : decode cX9_those 33 = .ok (.iload_n 2, 1) := by decide +kernel
theorem dX9_those_34 : decode cX9_those 34 = .ok (.ireturn, 1) := by decide +kernel
theorem dX9_account_0 : decode cX9_account 0 = .ok (.aload_n 0, 1) := by decide +kernel
theorem dX9_account_1 : decode cX9_account 1 = .ok (.iconst 0, 1) := by decide +kernel
theorem dX9_account_2 : decode cX9_account 2 = .ok (.putfield 39, 3) := by decide +kernel
theorem dX9_account_5 : decode cX9_account 5 = .ok (.iconst 0, 1) := by decide +kernel
theorem dX9_account_6 : decode cX9_account 6 = .ok (.istore_n 2, 1) := by decide +kernel
theorem dX9_account_7 : decode cX9_account 7 = .ok (.iload_n 1, 1) := by decide +kernel
theorem dX9_account_8 : decode cX9_account 8 = .ok (.tableswitch 196 0 10 #[60, 67, 74, 74, 74, 82, 124, 131, 136, 186, 191], 60) := by decide +kernel
theorem dX9_account_68 : decode cX9_account 68 = .ok (.aload_n 0, 1) := by decide +kernel
theorem dX9_account_69 : decode cX9_account 69 = .ok (.getfield 9, 3) := by decide +kernel
theorem dX9_account_72 : decode cX9_account 72 = .ok (.iconst 0, 1) := by decide +kernel
theorem dX9_account_73 : decode cX9_account 73 = .ok (.iaload, 1) := by decide +kernel
theorem dX9_account_74 : decode cX9_account 74 = .ok (.ireturn, 1) := by decide +kernel
theorem dX9_account_75 : decode cX9_account 75 = .ok (.aload_n 0, 1) := by decide +kernel
theorem dX9_account_76 : decode cX9_account 76 = .ok (.getfield 9, 3) := by decide +kernel
theorem dX9_account_79 : decode cX9_account 79 = .ok (.iconst 1, 1) := by decide +kernel
theorem dX9_account_80 : decode cX9_account 80 = .ok (.iaload, 1) := by decide +kernel
theorem dX9_account_81 : decode cX9_account 81 = .ok (.ireturn, 1) := by decide +kernel
theorem dX9_account_82 : decode cX9_account 82 = .ok (.aload_n 0, 1) := by decide +kernel
theorem dX9_account_83 : decode cX9_account 83 = .ok (.iload_n 1, 1) := by decide +kernel
theorem dX9_account_84 : decode cX9_account 84 = .ok (.iconst 2, 1) := by decide +kernel
theorem dX9_account_85 : decode cX9_account 85 = .ok (.isub, 1) := by decide +kernel
theorem dX9_account_86 : decode cX9_account 86 = .ok (.invokevirtual 242, 3) := by decide +kernel
theorem dX9_account_89 : decode cX9_account 89 = .ok (.ireturn, 1) := by decide +kernel
theorem dX9_account_90 : decode cX9_account 90 = .ok (.iconst 0, 1) := by decide +kernel
theorem dX9_account_91 : decode cX9_account 91 = .ok (.istore_n 3, 1) := by decide +kernel
theorem dX9_account_92 : decode cX9_account 92 = .ok (.iload_n 3, 1) := by decide +kernel
theorem dX9_account_93 : decode cX9_account 93 = .ok (.aload_n 0, 1) := by decide +kernel
theorem dX9_account_94 : decode cX9_account 94 = .ok (.getfield 9, 3) := by decide +kernel
theorem dX9_account_97 : decode cX9_account 97 = .ok (.iconst 1, 1) := by decide +kernel
theorem dX9_account_98 : decode cX9_account 98 = .ok (.iaload, 1) := by decide +kernel
theorem dX9_account_99 : decode cX9_account 99 = .ok (.if_icmp .ge 21, 3) := by decide +kernel
theorem dX9_account_102 : decode cX9_account 102 = .ok (.iload_n 2, 1) := by decide +kernel
theorem dX9_account_103 : decode cX9_account 103 = .ok (.aload_n 0, 1) := by decide +kernel
theorem dX9_account_104 : decode cX9_account 104 = .ok (.aload_n 0, 1) := by decide +kernel
theorem dX9_account_105 : decode cX9_account 105 = .ok (.iload_n 3, 1) := by decide +kernel
theorem dX9_account_106 : decode cX9_account 106 = .ok (.invokevirtual 69, 3) := by decide +kernel
theorem dX9_account_109 : decode cX9_account 109 = .ok (.invokevirtual 75, 3) := by decide +kernel
theorem dX9_account_112 : decode cX9_account 112 = .ok (.ior, 1) := by decide +kernel
theorem dX9_account_113 : decode cX9_account 113 = .ok (.istore_n 2, 1) := by decide +kernel
theorem dX9_account_114 : decode cX9_account 114 = .ok (.iinc 3 1, 3) := by decide +kernel
theorem dX9_account_117 : decode cX9_account 117 = .ok (.goto (-25), 3) := by decide +kernel
theorem dX9_account_120 : decode cX9_account 120 = .ok (.aload_n 0, 1) := by decide +kernel
theorem dX9_account_121 : decode cX9_account 121 = .ok (.getfield 9, 3) := by decide +kernel
theorem dX9_account_124 : decode cX9_account 124 = .ok (.iconst 0, 1) := by decide +kernel
theorem dX9_account_125 : decode cX9_account 125 = .ok (.iaload, 1) := by decide +kernel
theorem dX9_account_126 : decode cX9_account 126 = .ok (.iload_n 2, 1) := by decide +kernel
theorem dX9_account_127 : decode cX9_account 127 = .ok (.invokestatic 124, 3) := by decide +kernel
theorem dX9_account_130 : decode cX9_account 130 = .ok (.isub, 1) := by decide +kernel
theorem dX9_account_131 : decode cX9_account 131 = .ok (.ireturn, 1) := by decide +kernel
theorem dX9_account_132 : decode cX9_account 132 = .ok (.aload_n 0, 1) := by decide +kernel
theorem dX9_account_133 : decode cX9_account 133 = .ok (.getfield 9, 3) := by decide +kernel
theorem dX9_account_136 : decode cX9_account 136 = .ok (.iconst 2, 1) := by decide +kernel
theorem dX9_account_137 : decode cX9_account 137 = .ok (.iaload, 1) := by decide +kernel
theorem dX9_account_138 : decode cX9_account 138 = .ok (.ireturn, 1) := by decide +kernel
theorem dX9_account_139 : decode cX9_account 139 = .ok (.aload_n 0, 1) := by decide +kernel
theorem dX9_account_140 : decode cX9_account 140 = .ok (.invokevirtual 191, 3) := by decide +kernel
theorem dX9_account_143 : decode cX9_account 143 = .ok (.ireturn, 1) := by decide +kernel
theorem dX9_account_144 : decode cX9_account 144 = .ok (.iconst 0, 1) := by decide +kernel
theorem dX9_account_145 : decode cX9_account 145 = .ok (.istore_n 3, 1) := by decide +kernel
theorem dX9_account_146 : decode cX9_account 146 = .ok (.iload_n 3, 1) := by decide +kernel
theorem dX9_account_147 : decode cX9_account 147 = .ok (.aload_n 0, 1) := by decide +kernel
theorem dX9_account_148 : decode cX9_account 148 = .ok (.getfield 9, 3) := by decide +kernel
theorem dX9_account_151 : decode cX9_account 151 = .ok (.iconst 1, 1) := by decide +kernel
theorem dX9_account_152 : decode cX9_account 152 = .ok (.iaload, 1) := by decide +kernel
theorem dX9_account_153 : decode cX9_account 153 = .ok (.if_icmp .ge 39, 3) := by decide +kernel
theorem dX9_account_156 : decode cX9_account 156 = .ok (.iconst 0, 1) := by decide +kernel
theorem dX9_account_157 : decode cX9_account 157 = .ok (.istore 4, 2) := by decide +kernel
theorem dX9_account_159 : decode cX9_account 159 = .ok (.iload 4, 2) := by decide +kernel
theorem dX9_account_161 : decode cX9_account 161 = .ok (.bipush 6, 2) := by decide +kernel
theorem dX9_account_163 : decode cX9_account 163 = .ok (.if_icmp .ge 23, 3) := by decide +kernel
theorem dX9_account_166 : decode cX9_account 166 = .ok (.iload_n 2, 1) := by decide +kernel
theorem dX9_account_167 : decode cX9_account 167 = .ok (.aload_n 0, 1) := by decide +kernel
theorem dX9_account_168 : decode cX9_account 168 = .ok (.aload_n 0, 1) := by decide +kernel
theorem dX9_account_169 : decode cX9_account 169 = .ok (.iload_n 3, 1) := by decide +kernel
theorem dX9_account_170 : decode cX9_account 170 = .ok (.invokevirtual 69, 3) := by decide +kernel
theorem dX9_account_173 : decode cX9_account 173 = .ok (.iload 4, 2) := by decide +kernel
theorem dX9_account_175 : decode cX9_account 175 = .ok (.invokevirtual 72, 3) := by decide +kernel
theorem dX9_account_178 : decode cX9_account 178 = .ok (.iadd, 1) := by decide +kernel
theorem dX9_account_179 : decode cX9_account 179 = .ok (.istore_n 2, 1) := by decide +kernel
theorem dX9_account_180 : decode cX9_account 180 = .ok (.iinc 4 1, 3) := by decide +kernel
theorem dX9_account_183 : decode cX9_account 183 = .ok (.goto (-24), 3) := by decide +kernel
theorem dX9_account_186 : decode cX9_account 186 = .ok (.iinc 3 1, 3) := by decide +kernel
theorem dX9_account_189 : decode cX9_account 189 = .ok (.goto (-43), 3) := by decide +kernel
theorem dX9_account_192 : decode cX9_account 192 = .ok (.iload_n 2, 1) := by decide +kernel
theorem dX9_account_193 : decode cX9_account 193 = .ok (.ireturn, 1) := by decide +kernel
theorem dX9_account_194 : decode cX9_account 194 = .ok (.aload_n 0, 1) := by decide +kernel
theorem dX9_account_195 : decode cX9_account 195 = .ok (.getfield 218, 3) := by decide +kernel
theorem dX9_account_198 : decode cX9_account 198 = .ok (.ireturn, 1) := by decide +kernel
theorem dX9_account_199 : decode cX9_account 199 = .ok (.aload_n 0, 1) := by decide +kernel
theorem dX9_account_200 : decode cX9_account 200 = .ok (.getfield 42, 3) := by decide +kernel
theorem dX9_account_203 : decode cX9_account 203 = .ok (.ireturn, 1) := by decide +kernel
theorem dX9_account_204 : decode cX9_account 204 = .ok (.aload_n 0, 1) := by decide +kernel
theorem dX9_account_205 : decode cX9_account 205 = .ok (.iconst 1, 1) := by decide +kernel
theorem dX9_account_206 : decode cX9_account 206 = .ok (.invokevirtual 58, 3) := by decide +kernel
theorem dX9_account_209 : decode cX9_account 209 = .ok (.ireturn, 1) := by decide +kernel
theorem dX9_isWell_0 : decode cX9_isWell 0 = .ok (.aload_n 0, 1) := by decide +kernel
theorem dX9_isWell_1 : decode cX9_isWell 1 = .ok (.iconst 0, 1) := by decide +kernel
theorem dX9_isWell_2 : decode cX9_isWell 2 = .ok (.putfield 39, 3) := by decide +kernel
theorem dX9_isWell_5 : decode cX9_isWell 5 = .ok (.iconst 1, 1) := by decide +kernel
theorem dX9_isWell_6 : decode cX9_isWell 6 = .ok (.ireturn, 1) := by decide +kernel
theorem dX9_meanTaste_0 : decode cX9_meanTaste 0 = .ok (.aload_n 0, 1) := by decide +kernel
theorem dX9_meanTaste_1 : decode cX9_meanTaste 1 = .ok (.iconst 0, 1) := by decide +kernel
theorem dX9_meanTaste_2 : decode cX9_meanTaste 2 = .ok (.putfield 39, 3) := by decide +kernel
theorem dX9_meanTaste_5 : decode cX9_meanTaste 5 = .ok (.dconst 0, 1) := by decide +kernel
theorem dX9_meanTaste_6 : decode cX9_meanTaste 6 = .ok (.dstore_n 1, 1) := by decide +kernel
theorem dX9_meanTaste_7 : decode cX9_meanTaste 7 = .ok (.iconst 0, 1) := by decide +kernel
theorem dX9_meanTaste_8 : decode cX9_meanTaste 8 = .ok (.istore_n 3, 1) := by decide +kernel
theorem dX9_meanTaste_9 : decode cX9_meanTaste 9 = .ok (.iload_n 3, 1) := by decide +kernel
theorem dX9_meanTaste_10 : decode cX9_meanTaste 10 = .ok (.aload_n 0, 1) := by decide +kernel
theorem dX9_meanTaste_11 : decode cX9_meanTaste 11 = .ok (.getfield 9, 3) := by decide +kernel
theorem dX9_meanTaste_14 : decode cX9_meanTaste 14 = .ok (.iconst 1, 1) := by decide +kernel
theorem dX9_meanTaste_15 : decode cX9_meanTaste 15 = .ok (.iaload, 1) := by decide +kernel
theorem dX9_meanTaste_16 : decode cX9_meanTaste 16 = .ok (.if_icmp .ge 22, 3) := by decide +kernel
theorem dX9_meanTaste_19 : decode cX9_meanTaste 19 = .ok (.dload_n 1, 1) := by decide +kernel
theorem dX9_meanTaste_20 : decode cX9_meanTaste 20 = .ok (.aload_n 0, 1) := by decide +kernel
theorem dX9_meanTaste_21 : decode cX9_meanTaste 21 = .ok (.aload_n 0, 1) := by decide +kernel
theorem dX9_meanTaste_22 : decode cX9_meanTaste 22 = .ok (.iload_n 3, 1) := by decide +kernel
theorem dX9_meanTaste_23 : decode cX9_meanTaste 23 = .ok (.invokevirtual 69, 3) := by decide +kernel
theorem dX9_meanTaste_26 : decode cX9_meanTaste 26 = .ok (.invokevirtual 181, 3) := by decide +kernel
theorem dX9_meanTaste_29 : decode cX9_meanTaste 29 = .ok (.f2d, 1) := by decide +kernel
theorem dX9_meanTaste_30 : decode cX9_meanTaste 30 = .ok (.dadd, 1) := by decide +kernel
theorem dX9_meanTaste_31 : decode cX9_meanTaste 31 = .ok (.dstore_n 1, 1) := by decide +kernel
theorem dX9_meanTaste_32 : decode cX9_meanTaste 32 = .ok (.iinc 3 1, 3) := by decide +kernel
theorem dX9_meanTaste_35 : decode cX9_meanTaste 35 = .ok (.goto (-26), 3) := by decide +kernel
theorem dX9_meanTaste_38 : decode cX9_meanTaste 38 = .ok (.dload_n 1, 1) := by decide +kernel
theorem dX9_meanTaste_39 : decode cX9_meanTaste 39 = .ok (.aload_n 0, 1) := by decide +kernel
theorem dX9_meanTaste_40 : decode cX9_meanTaste 40 = .ok (.getfield 9, 3) := by decide +kernel
theorem dX9_meanTaste_43 : decode cX9_meanTaste 43 = .ok (.iconst 1, 1) := by decide +kernel
theorem dX9_meanTaste_44 : decode cX9_meanTaste 44 = .ok (.iaload, 1) := by decide +kernel
theorem dX9_meanTaste_45 : decode cX9_meanTaste 45 = .ok (.i2d, 1) := by decide +kernel
theorem dX9_meanTaste_46 : decode cX9_meanTaste 46 = .ok (.ddiv, 1) := by decide +kernel
theorem dX9_meanTaste_47 : decode cX9_meanTaste 47 = .ok (.dreturn, 1) := by decide +kernel
theorem dX9_editShare_0 : decode cX9_editShare 0 = .ok (.aload_n 0, 1) := by decide +kernel
theorem dX9_editShare_1 : decode cX9_editShare 1 = .ok (.iconst 0, 1) := by decide +kernel
theorem dX9_editShare_2 : decode cX9_editShare 2 = .ok (.putfield 39, 3) := by decide +kernel
theorem dX9_editShare_5 : decode cX9_editShare 5 = .ok (.aload_n 0, 1) := by decide +kernel
theorem dX9_editShare_6 : decode cX9_editShare 6 = .ok (.iconst 0, 1) := by decide +kernel
theorem dX9_editShare_7 : decode cX9_editShare 7 = .ok (.invokevirtual 242, 3) := by decide +kernel
theorem dX9_editShare_10 : decode cX9_editShare 10 = .ok (.i2f, 1) := by decide +kernel
theorem dX9_editShare_11 : decode cX9_editShare 11 = .ok (.aload_n 0, 1) := by decide +kernel
theorem dX9_editShare_12 : decode cX9_editShare 12 = .ok (.getfield 9, 3) := by decide +kernel
theorem dX9_editShare_15 : decode cX9_editShare 15 = .ok (.iconst 0, 1) := by decide +kernel
theorem dX9_editShare_16 : decode cX9_editShare 16 = .ok (.iaload, 1) := by decide +kernel
theorem dX9_editShare_17 : decode cX9_editShare 17 = .ok (.i2f, 1) := by decide +kernel
theorem dX9_editShare_18 : decode cX9_editShare 18 = .ok (.fdiv, 1) := by decide +kernel
theorem dX9_editShare_19 : decode cX9_editShare 19 = .ok (.freturn, 1) := by decide +kernel
theorem dX9_undo_0 : decode cX9_undo 0 = .ok (.aload_n 0, 1) := by decide +kernel
theorem dX9_undo_1 : decode cX9_undo 1 = .ok (.iconst 0, 1) := by decide +kernel
theorem dX9_undo_2 : decode cX9_undo 2 = .ok (.putfield 39, 3) := by decide +kernel
theorem dX9_undo_5 : decode cX9_undo 5 = .ok (.aload_n 0, 1) := by decide +kernel
theorem dX9_undo_6 : decode cX9_undo 6 = .ok (.getfield 42, 3) := by decide +kernel
theorem dX9_undo_9 : decode cX9_undo 9 = .ok (.ifCond .ne 9, 3) := by decide +kernel
theorem dX9_undo_12 : decode cX9_undo 12 = .ok (.aload_n 0, 1) := by decide +kernel
theorem dX9_undo_13 : decode cX9_undo 13 = .ok (.iconst 1, 1) := by decide +kernel
theorem dX9_undo_14 : decode cX9_undo 14 = .ok (.invokevirtual 58, 3) := by decide +kernel
theorem dX9_undo_17 : decode cX9_undo 17 = .ok (.ireturn, 1) := by decide +kernel
theorem dX9_undo_18 : decode cX9_undo 18 = .ok (.aload_n 0, 1) := by decide +kernel
theorem dX9_undo_19 : decode cX9_undo 19 = .ok (.dup, 1) := by decide +kernel
theorem dX9_undo_20 : decode cX9_undo 20 = .ok (.getfield 42, 3) := by decide +kernel
theorem dX9_undo_23 : decode cX9_undo 23 = .ok (.iconst 1, 1) := by decide +kernel
theorem dX9_undo_24 : decode cX9_undo 24 = .ok (.isub, 1) := by decide +kernel
theorem dX9_undo_25 : decode cX9_undo 25 = .ok (.putfield 42, 3) := by decide +kernel
theorem dX9_undo_28 : decode cX9_undo 28 = .ok (.iconst 0, 1) := by decide +kernel
theorem dX9_undo_29 : decode cX9_undo 29 = .ok (.istore_n 1, 1) := by decide +kernel
theorem dX9_undo_30 : decode cX9_undo 30 = .ok (.iload_n 1, 1) := by decide +kernel
theorem dX9_undo_31 : decode cX9_undo 31 = .ok (.sipush 228, 3) := by decide +kernel
theorem dX9_undo_34 : decode cX9_undo 34 = .ok (.if_icmp .ge 30, 3) := by decide +kernel
theorem dX9_undo_37 : decode cX9_undo 37 = .ok (.aload_n 0, 1) := by decide +kernel
theorem dX9_undo_38 : decode cX9_undo 38 = .ok (.getfield 9, 3) := by decide +kernel
theorem dX9_undo_41 : decode cX9_undo 41 = .ok (.iload_n 1, 1) := by decide +kernel
theorem dX9_undo_42 : decode cX9_undo 42 = .ok (.aload_n 0, 1) := by decide +kernel
theorem dX9_undo_43 : decode cX9_undo 43 = .ok (.getfield 16, 3) := by decide +kernel
theorem dX9_undo_46 : decode cX9_undo 46 = .ok (.sipush 228, 3) := by decide +kernel
theorem dX9_undo_49 : decode cX9_undo 49 = .ok (.aload_n 0, 1) := by decide +kernel
theorem dX9_undo_50 : decode cX9_undo 50 = .ok (.getfield 42, 3) := by decide +kernel
theorem dX9_undo_53 : decode cX9_undo 53 = .ok (.imul, 1) := by decide +kernel
theorem dX9_undo_54 : decode cX9_undo 54 = .ok (.iload_n 1, 1) := by decide +kernel
theorem dX9_undo_55 : decode cX9_undo 55 = .ok (.iadd, 1) := by decide +kernel
theorem dX9_undo_56 : decode cX9_undo 56 = .ok (.iaload, 1) := by decide +kernel
theorem dX9_undo_57 : decode cX9_undo 57 = .ok (.iastore, 1) := by decide +kernel
theorem dX9_undo_58 : decode cX9_undo 58 = .ok (.iinc 1 1, 3) := by decide +kernel
theorem dX9_undo_61 : decode cX9_undo 61 = .ok (.goto (-31), 3) := by decide +kernel
theorem dX9_undo_64 : decode cX9_undo 64 = .ok (.aload_n 0, 1) := by decide +kernel
theorem dX9_undo_65 : decode cX9_undo 65 = .ok (.getfield 42, 3) := by decide +kernel
theorem dX9_undo_68 : decode cX9_undo 68 = .ok (.ireturn, 1) := by decide +kernel
theorem dX9_save_0 : decode cX9_save 0 = .ok (.aload_n 0, 1) := by decide +kernel
theorem dX9_save_1 : decode cX9_save 1 = .ok (.iconst 0, 1) := by decide +kernel
theorem dX9_save_2 : decode cX9_save 2 = .ok (.putfield 39, 3) := by decide +kernel
theorem dX9_save_5 : decode cX9_save 5 = .ok (.aload_n 0, 1) := by decide +kernel
theorem dX9_save_6 : decode cX9_save 6 = .ok (.iconst 1, 1) := by decide +kernel
theorem dX9_save_7 : decode cX9_save 7 = .ok (.putfield 245, 3) := by decide +kernel
theorem dX9_save_10 : decode cX9_save 10 = .ok (.iconst 0, 1) := by decide +kernel
theorem dX9_save_11 : decode cX9_save 11 = .ok (.istore_n 1, 1) := by decide +kernel
theorem dX9_save_12 : decode cX9_save 12 = .ok (.iload_n 1, 1) := by decide +kernel
theorem dX9_save_13 : decode cX9_save 13 = .ok (.sipush 228, 3) := by decide +kernel
theorem dX9_save_16 : decode cX9_save 16 = .ok (.if_icmp .ge 21, 3) := by decide +kernel
theorem dX9_save_19 : decode cX9_save 19 = .ok (.aload_n 0, 1) := by decide +kernel
theorem dX9_save_20 : decode cX9_save 20 = .ok (.getfield 19, 3) := by decide +kernel
theorem dX9_save_23 : decode cX9_save 23 = .ok (.iload_n 1, 1) := by decide +kernel
theorem dX9_save_24 : decode cX9_save 24 = .ok (.aload_n 0, 1) := by decide +kernel
theorem dX9_save_25 : decode cX9_save 25 = .ok (.getfield 9, 3) := by decide +kernel
theorem dX9_save_28 : decode cX9_save 28 = .ok (.iload_n 1, 1) := by decide +kernel
theorem dX9_save_29 : decode cX9_save 29 = .ok (.iaload, 1) := by decide +kernel
theorem dX9_save_30 : decode cX9_save 30 = .ok (.iastore, 1) := by decide +kernel
theorem dX9_save_31 : decode cX9_save 31 = .ok (.iinc 1 1, 3) := by decide +kernel
theorem dX9_save_34 : decode cX9_save 34 = .ok (.goto (-22), 3) := by decide +kernel
theorem dX9_save_37 : decode cX9_save 37 = .ok (.aload_n 0, 1) := by decide +kernel
theorem dX9_save_38 : decode cX9_save 38 = .ok (.getfield 9, 3) := by decide +kernel
theorem dX9_save_41 : decode cX9_save 41 = .ok (.iconst 0, 1) := by decide +kernel
theorem dX9_save_42 : decode cX9_save 42 = .ok (.iaload, 1) := by decide +kernel
theorem dX9_save_43 : decode cX9_save 43 = .ok (.ireturn, 1) := by decide +kernel
theorem dX9_restore_0 : decode cX9_restore 0 = .ok (.aload_n 0, 1) := by decide +kernel
theorem dX9_restore_1 : decode cX9_restore 1 = .ok (.iconst 0, 1) := by decide +kernel
theorem dX9_restore_2 : decode cX9_restore 2 = .ok (.putfield 39, 3) := by decide +kernel
theorem dX9_restore_5 : decode cX9_restore 5 = .ok (.aload_n 0, 1) := by decide +kernel
theorem dX9_restore_6 : decode cX9_restore 6 = .ok (.getfield 245, 3) := by decide +kernel
theorem dX9_restore_9 : decode cX9_restore 9 = .ok (.ifCond .ne 9, 3) := by decide +kernel
theorem dX9_restore_12 : decode cX9_restore 12 = .ok (.aload_n 0, 1) := by decide +kernel
theorem dX9_restore_13 : decode cX9_restore 13 = .ok (.iconst 1, 1) := by decide +kernel
theorem dX9_restore_14 : decode cX9_restore 14 = .ok (.invokevirtual 58, 3) := by decide +kernel
theorem dX9_restore_17 : decode cX9_restore 17 = .ok (.ireturn, 1) := by decide +kernel
theorem dX9_restore_18 : decode cX9_restore 18 = .ok (.iconst 0, 1) := by decide +kernel
theorem dX9_restore_19 : decode cX9_restore 19 = .ok (.istore_n 1, 1) := by decide +kernel
theorem dX9_restore_20 : decode cX9_restore 20 = .ok (.iload_n 1, 1) := by decide +kernel
theorem dX9_restore_21 : decode cX9_restore 21 = .ok (.sipush 228, 3) := by decide +kernel
theorem dX9_restore_24 : decode cX9_restore 24 = .ok (.if_icmp .ge 21, 3) := by decide +kernel
theorem dX9_restore_27 : decode cX9_restore 27 = .ok (.aload_n 0, 1) := by decide +kernel
theorem dX9_restore_28 : decode cX9_restore 28 = .ok (.getfield 9, 3) := by decide +kernel
theorem dX9_restore_31 : decode cX9_restore 31 = .ok (.iload_n 1, 1) := by decide +kernel
theorem dX9_restore_32 : decode cX9_restore 32 = .ok (.aload_n 0, 1) := by decide +kernel
theorem dX9_restore_33 : decode cX9_restore 33 = .ok (.getfield 19, 3) := by decide +kernel
theorem dX9_restore_36 : decode cX9_restore 36 = .ok (.iload_n 1, 1) := by decide +kernel
theorem dX9_restore_37 : decode cX9_restore 37 = .ok (.iaload, 1) := by decide +kernel
theorem dX9_restore_38 : decode cX9_restore 38 = .ok (.iastore, 1) := by decide +kernel
theorem dX9_restore_39 : decode cX9_restore 39 = .ok (.iinc 1 1, 3) := by decide +kernel
theorem dX9_restore_42 : decode cX9_restore 42 = .ok (.goto (-22), 3) := by decide +kernel
theorem dX9_restore_45 : decode cX9_restore 45 = .ok (.aload_n 0, 1) := by decide +kernel
theorem dX9_restore_46 : decode cX9_restore 46 = .ok (.iconst 0, 1) := by decide +kernel
theorem dX9_restore_47 : decode cX9_restore 47 = .ok (.putfield 42, 3) := by decide +kernel
theorem dX9_restore_50 : decode cX9_restore 50 = .ok (.aload_n 0, 1) := by decide +kernel
theorem dX9_restore_51 : decode cX9_restore 51 = .ok (.getfield 9, 3) := by decide +kernel
theorem dX9_restore_54 : decode cX9_restore 54 = .ok (.iconst 0, 1) := by decide +kernel
theorem dX9_restore_55 : decode cX9_restore 55 = .ok (.iaload, 1) := by decide +kernel
theorem dX9_restore_56 : decode cX9_restore 56 = .ok (.ireturn, 1) := by decide +kernel
theorem dJxf58ca_isNaN_12338_0 : decode cJxf58ca_isNaN_12338 0 = .ok (.fload_n 0, 1) := by decide +kernel
theorem dJxf58ca_isNaN_12338_1 : decode cJxf58ca_isNaN_12338 1 = .ok (.fload_n 0, 1) := by decide +kernel
theorem dJxf58ca_isNaN_12338_2 : decode cJxf58ca_isNaN_12338 2 = .ok (.fcmp .l, 1) := by decide +kernel
theorem dJxf58ca_isNaN_12338_3 : decode cJxf58ca_isNaN_12338 3 = .ok (.ifCond .eq 7, 3) := by decide +kernel
theorem dJxf58ca_isNaN_12338_6 : decode cJxf58ca_isNaN_12338 6 = .ok (.iconst 1, 1) := by decide +kernel
theorem dJxf58ca_isNaN_12338_7 : decode cJxf58ca_isNaN_12338 7 = .ok (.goto 4, 3) := by decide +kernel
theorem dJxf58ca_isNaN_12338_10 : decode cJxf58ca_isNaN_12338 10 = .ok (.iconst 0, 1) := by decide +kernel
theorem dJxf58ca_isNaN_12338_11 : decode cJxf58ca_isNaN_12338 11 = .ok (.ireturn, 1) := by decide +kernel
theorem dJxf58ca_floatToIntBits_5c35a_0 : decode cJxf58ca_floatToIntBits_5c35a 0 = .ok (.fload_n 0, 1) := by decide +kernel
theorem dJxf58ca_floatToIntBits_5c35a_1 : decode cJxf58ca_floatToIntBits_5c35a 1 = .ok (.invokestatic 59, 3) := by decide +kernel
theorem dJxf58ca_floatToIntBits_5c35a_4 : decode cJxf58ca_floatToIntBits_5c35a 4 = .ok (.ifCond .ne 8, 3) := by decide +kernel
theorem dJxf58ca_floatToIntBits_5c35a_7 : decode cJxf58ca_floatToIntBits_5c35a 7 = .ok (.fload_n 0, 1) := by decide +kernel
theorem dJxf58ca_floatToIntBits_5c35a_8 : decode cJxf58ca_floatToIntBits_5c35a 8 = .ok (.invokestatic 74, 3) := by decide +kernel
theorem dJxf58ca_floatToIntBits_5c35a_11 : decode cJxf58ca_floatToIntBits_5c35a 11 = .ok (.ireturn, 1) := by decide +kernel
theorem dJxf58ca_floatToIntBits_5c35a_12 : decode cJxf58ca_floatToIntBits_5c35a 12 = .ok (.ldc 77, 2) := by decide +kernel
theorem dJxf58ca_floatToIntBits_5c35a_14 : decode cJxf58ca_floatToIntBits_5c35a 14 = .ok (.ireturn, 1) := by decide +kernel
theorem dJ6_bitCount_0f7a4_0 : decode cJ6_bitCount_0f7a4 0 = .ok (.iload_n 0, 1) := by decide +kernel
theorem dJ6_bitCount_0f7a4_1 : decode cJ6_bitCount_0f7a4 1 = .ok (.iload_n 0, 1) := by decide +kernel
theorem dJ6_bitCount_0f7a4_2 : decode cJ6_bitCount_0f7a4 2 = .ok (.iconst 1, 1) := by decide +kernel
theorem dJ6_bitCount_0f7a4_3 : decode cJ6_bitCount_0f7a4 3 = .ok (.iushr, 1) := by decide +kernel
theorem dJ6_bitCount_0f7a4_4 : decode cJ6_bitCount_0f7a4 4 = .ok (.ldc_w 265, 3) := by decide +kernel
theorem dJ6_bitCount_0f7a4_7 : decode cJ6_bitCount_0f7a4 7 = .ok (.iand, 1) := by decide +kernel
theorem dJ6_bitCount_0f7a4_8 : decode cJ6_bitCount_0f7a4 8 = .ok (.isub, 1) := by decide +kernel
theorem dJ6_bitCount_0f7a4_9 : decode cJ6_bitCount_0f7a4 9 = .ok (.istore_n 0, 1) := by decide +kernel
theorem dJ6_bitCount_0f7a4_10 : decode cJ6_bitCount_0f7a4 10 = .ok (.iload_n 0, 1) := by decide +kernel
theorem dJ6_bitCount_0f7a4_11 : decode cJ6_bitCount_0f7a4 11 = .ok (.ldc_w 266, 3) := by decide +kernel
theorem dJ6_bitCount_0f7a4_14 : decode cJ6_bitCount_0f7a4 14 = .ok (.iand, 1) := by decide +kernel
theorem dJ6_bitCount_0f7a4_15 : decode cJ6_bitCount_0f7a4 15 = .ok (.iload_n 0, 1) := by decide +kernel
theorem dJ6_bitCount_0f7a4_16 : decode cJ6_bitCount_0f7a4 16 = .ok (.iconst 2, 1) := by decide +kernel
theorem dJ6_bitCount_0f7a4_17 : decode cJ6_bitCount_0f7a4 17 = .ok (.iushr, 1) := by decide +kernel
theorem dJ6_bitCount_0f7a4_18 : decode cJ6_bitCount_0f7a4 18 = .ok (.ldc_w 266, 3) := by decide +kernel
theorem dJ6_bitCount_0f7a4_21 : decode cJ6_bitCount_0f7a4 21 = .ok (.iand, 1) := by decide +kernel
theorem dJ6_bitCount_0f7a4_22 : decode cJ6_bitCount_0f7a4 22 = .ok (.iadd, 1) := by decide +kernel
theorem dJ6_bitCount_0f7a4_23 : decode cJ6_bitCount_0f7a4 23 = .ok (.istore_n 0, 1) := by decide +kernel
theorem dJ6_bitCount_0f7a4_24 : decode cJ6_bitCount_0f7a4 24 = .ok (.iload_n 0, 1) := by decide +kernel
theorem dJ6_bitCount_0f7a4_25 : decode cJ6_bitCount_0f7a4 25 = .ok (.iload_n 0, 1) := by decide +kernel
theorem dJ6_bitCount_0f7a4_26 : decode cJ6_bitCount_0f7a4 26 = .ok (.iconst 4, 1) := by decide +kernel
theorem dJ6_bitCount_0f7a4_27 : decode cJ6_bitCount_0f7a4 27 = .ok (.iushr, 1) := by decide +kernel
theorem dJ6_bitCount_0f7a4_28 : decode cJ6_bitCount_0f7a4 28 = .ok (.iadd, 1) := by decide +kernel
theorem dJ6_bitCount_0f7a4_29 : decode cJ6_bitCount_0f7a4 29 = .ok (.ldc_w 267, 3) := by decide +kernel
theorem dJ6_bitCount_0f7a4_32 : decode cJ6_bitCount_0f7a4 32 = .ok (.iand, 1) := by decide +kernel
theorem dJ6_bitCount_0f7a4_33 : decode cJ6_bitCount_0f7a4 33 = .ok (.istore_n 0, 1) := by decide +kernel
theorem dJ6_bitCount_0f7a4_34 : decode cJ6_bitCount_0f7a4 34 = .ok (.iload_n 0, 1) := by decide +kernel
theorem dJ6_bitCount_0f7a4_35 : decode cJ6_bitCount_0f7a4 35 = .ok (.iload_n 0, 1) := by decide +kernel
theorem dJ6_bitCount_0f7a4_36 : decode cJ6_bitCount_0f7a4 36 = .ok (.bipush 8, 2) := by decide +kernel
theorem dJ6_bitCount_0f7a4_38 : decode cJ6_bitCount_0f7a4 38 = .ok (.iushr, 1) := by decide +kernel
theorem dJ6_bitCount_0f7a4_39 : decode cJ6_bitCount_0f7a4 39 = .ok (.iadd, 1) := by decide +kernel
theorem dJ6_bitCount_0f7a4_40 : decode cJ6_bitCount_0f7a4 40 = .ok (.istore_n 0, 1) := by decide +kernel
theorem dJ6_bitCount_0f7a4_41 : decode cJ6_bitCount_0f7a4 41 = .ok (.iload_n 0, 1) := by decide +kernel
theorem dJ6_bitCount_0f7a4_42 : decode cJ6_bitCount_0f7a4 42 = .ok (.iload_n 0, 1) := by decide +kernel
theorem dJ6_bitCount_0f7a4_43 : decode cJ6_bitCount_0f7a4 43 = .ok (.bipush 16, 2) := by decide +kernel
theorem dJ6_bitCount_0f7a4_45 : decode cJ6_bitCount_0f7a4 45 = .ok (.iushr, 1) := by decide +kernel
theorem dJ6_bitCount_0f7a4_46 : decode cJ6_bitCount_0f7a4 46 = .ok (.iadd, 1) := by decide +kernel
theorem dJ6_bitCount_0f7a4_47 : decode cJ6_bitCount_0f7a4 47 = .ok (.istore_n 0, 1) := by decide +kernel
theorem dJ6_bitCount_0f7a4_48 : decode cJ6_bitCount_0f7a4 48 = .ok (.iload_n 0, 1) := by decide +kernel
theorem dJ6_bitCount_0f7a4_49 : decode cJ6_bitCount_0f7a4 49 = .ok (.bipush 63, 2) := by decide +kernel
theorem dJ6_bitCount_0f7a4_51 : decode cJ6_bitCount_0f7a4 51 = .ok (.iand, 1) := by decide +kernel
theorem dJ6_bitCount_0f7a4_52 : decode cJ6_bitCount_0f7a4 52 = .ok (.ireturn, 1) := by decide +kernel
theorem dJ9_abs_0f7a4_0 : decode cJ9_abs_0f7a4 0 = .ok (.iload_n 0, 1) := by decide +kernel
theorem dJ9_abs_0f7a4_1 : decode cJ9_abs_0f7a4 1 = .ok (.ifCond .ge 8, 3) := by decide +kernel
theorem dJ9_abs_0f7a4_4 : decode cJ9_abs_0f7a4 4 = .ok (.iload_n 0, 1) := by decide +kernel
theorem dJ9_abs_0f7a4_5 : decode cJ9_abs_0f7a4 5 = .ok (.ineg, 1) := by decide +kernel
theorem dJ9_abs_0f7a4_6 : decode cJ9_abs_0f7a4 6 = .ok (.goto 4, 3) := by decide +kernel
theorem dJ9_abs_0f7a4_9 : decode cJ9_abs_0f7a4 9 = .ok (.iload_n 0, 1) := by decide +kernel
theorem dJ9_abs_0f7a4_10 : decode cJ9_abs_0f7a4 10 = .ok (.ireturn, 1) := by decide +kernel
theorem dJ9_max_7cf53_0 : decode cJ9_max_7cf53 0 = .ok (.iload_n 0, 1) := by decide +kernel
theorem dJ9_max_7cf53_1 : decode cJ9_max_7cf53 1 = .ok (.iload_n 1, 1) := by decide +kernel
theorem dJ9_max_7cf53_2 : decode cJ9_max_7cf53 2 = .ok (.if_icmp .lt 7, 3) := by decide +kernel
theorem dJ9_max_7cf53_5 : decode cJ9_max_7cf53 5 = .ok (.iload_n 0, 1) := by decide +kernel
theorem dJ9_max_7cf53_6 : decode cJ9_max_7cf53 6 = .ok (.goto 4, 3) := by decide +kernel
theorem dJ9_max_7cf53_9 : decode cJ9_max_7cf53 9 = .ok (.iload_n 1, 1) := by decide +kernel
theorem dJ9_max_7cf53_10 : decode cJ9_max_7cf53 10 = .ok (.ireturn, 1) := by decide +kernel
theorem dJ9_min_7cf53_0 : decode cJ9_min_7cf53 0 = .ok (.iload_n 0, 1) := by decide +kernel
theorem dJ9_min_7cf53_1 : decode cJ9_min_7cf53 1 = .ok (.iload_n 1, 1) := by decide +kernel
theorem dJ9_min_7cf53_2 : decode cJ9_min_7cf53 2 = .ok (.if_icmp .gt 7, 3) := by decide +kernel
theorem dJ9_min_7cf53_5 : decode cJ9_min_7cf53 5 = .ok (.iload_n 0, 1) := by decide +kernel
theorem dJ9_min_7cf53_6 : decode cJ9_min_7cf53 6 = .ok (.goto 4, 3) := by decide +kernel
theorem dJ9_min_7cf53_9 : decode cJ9_min_7cf53 9 = .ok (.iload_n 1, 1) := by decide +kernel
theorem dJ9_min_7cf53_10 : decode cJ9_min_7cf53 10 = .ok (.ireturn, 1) := by decide +kernel
theorem dJ0_length_8abf5_0 : decode cJ0_length_8abf5 0 = .ok (.aload_n 0, 1) := by decide +kernel
theorem dJ0_length_8abf5_1 : decode cJ0_length_8abf5 1 = .ok (.getfield 9, 3) := by decide +kernel
theorem dJ0_length_8abf5_4 : decode cJ0_length_8abf5 4 = .ok (.arraylength, 1) := by decide +kernel
theorem dJ0_length_8abf5_5 : decode cJ0_length_8abf5 5 = .ok (.aload_n 0, 1) := by decide +kernel
theorem dJ0_length_8abf5_6 : decode cJ0_length_8abf5 6 = .ok (.invokevirtual 335, 3) := by decide +kernel
theorem dJ0_length_8abf5_9 : decode cJ0_length_8abf5 9 = .ok (.ishr, 1) := by decide +kernel
theorem dJ0_length_8abf5_10 : decode cJ0_length_8abf5 10 = .ok (.ireturn, 1) := by decide +kernel
theorem dJ0_isEmpty_aae02_0 : decode cJ0_isEmpty_aae02 0 = .ok (.aload_n 0, 1) := by decide +kernel
theorem dJ0_isEmpty_aae02_1 : decode cJ0_isEmpty_aae02 1 = .ok (.getfield 9, 3) := by decide +kernel
theorem dJ0_isEmpty_aae02_4 : decode cJ0_isEmpty_aae02 4 = .ok (.arraylength, 1) := by decide +kernel
theorem dJ0_isEmpty_aae02_5 : decode cJ0_isEmpty_aae02 5 = .ok (.ifCond .ne 7, 3) := by decide +kernel
theorem dJ0_isEmpty_aae02_8 : decode cJ0_isEmpty_aae02 8 = .ok (.iconst 1, 1) := by decide +kernel
theorem dJ0_isEmpty_aae02_9 : decode cJ0_isEmpty_aae02 9 = .ok (.goto 4, 3) := by decide +kernel
theorem dJ0_isEmpty_aae02_12 : decode cJ0_isEmpty_aae02 12 = .ok (.iconst 0, 1) := by decide +kernel
theorem dJ0_isEmpty_aae02_13 : decode cJ0_isEmpty_aae02 13 = .ok (.ireturn, 1) := by decide +kernel
theorem dJ0_charAt_5068e_0 : decode cJ0_charAt_5068e 0 = .ok (.aload_n 0, 1) := by decide +kernel
theorem dJ0_charAt_5068e_1 : decode cJ0_charAt_5068e 1 = .ok (.invokevirtual 492, 3) := by decide +kernel
theorem dJ0_charAt_5068e_4 : decode cJ0_charAt_5068e 4 = .ok (.ifCond .eq 12, 3) := by decide +kernel
theorem dJ0_charAt_5068e_7 : decode cJ0_charAt_5068e 7 = .ok (.aload_n 0, 1) := by decide +kernel
theorem dJ0_charAt_5068e_8 : decode cJ0_charAt_5068e 8 = .ok (.getfield 9, 3) := by decide +kernel
theorem dJ0_charAt_5068e_11 : decode cJ0_charAt_5068e 11 = .ok (.iload_n 1, 1) := by decide +kernel
theorem dJ0_charAt_5068e_12 : decode cJ0_charAt_5068e 12 = .ok (.invokestatic 495, 3) := by decide +kernel
theorem dJ0_charAt_5068e_15 : decode cJ0_charAt_5068e 15 = .ok (.ireturn, 1) := by decide +kernel
theorem dJ0_charAt_5068e_16 : decode cJ0_charAt_5068e 16 = .ok (.aload_n 0, 1) := by decide +kernel
theorem dJ0_charAt_5068e_17 : decode cJ0_charAt_5068e 17 = .ok (.getfield 9, 3) := by decide +kernel
theorem dJ0_charAt_5068e_20 : decode cJ0_charAt_5068e 20 = .ok (.iload_n 1, 1) := by decide +kernel
theorem dJ0_charAt_5068e_21 : decode cJ0_charAt_5068e 21 = .ok (.invokestatic 498, 3) := by decide +kernel
theorem dJ0_charAt_5068e_24 : decode cJ0_charAt_5068e 24 = .ok (.ireturn, 1) := by decide +kernel
theorem dJ0_coder_7d493_0 : decode cJ0_coder_7d493 0 = .ok (.getstatic 38, 3) := by decide +kernel
theorem dJ0_coder_7d493_3 : decode cJ0_coder_7d493 3 = .ok (.ifCond .eq 10, 3) := by decide +kernel
theorem dJ0_coder_7d493_6 : decode cJ0_coder_7d493 6 = .ok (.aload_n 0, 1) := by decide +kernel
theorem dJ0_coder_7d493_7 : decode cJ0_coder_7d493 7 = .ok (.getfield 15, 3) := by decide +kernel
theorem dJ0_coder_7d493_10 : decode cJ0_coder_7d493 10 = .ok (.goto 4, 3) := by decide +kernel
theorem dJ0_coder_7d493_13 : decode cJ0_coder_7d493 13 = .ok (.iconst 1, 1) := by decide +kernel
theorem dJ0_coder_7d493_14 : decode cJ0_coder_7d493 14 = .ok (.ireturn, 1) := by decide +kernel
theorem dJ0_isLatin1_aae02_0 : decode cJ0_isLatin1_aae02 0 = .ok (.getstatic 38, 3) := by decide +kernel
theorem dJ0_isLatin1_aae02_3 : decode cJ0_isLatin1_aae02 3 = .ok (.ifCond .eq 14, 3) := by decide +kernel
theorem dJ0_isLatin1_aae02_6 : decode cJ0_isLatin1_aae02 6 = .ok (.aload_n 0, 1) := by decide +kernel
theorem dJ0_isLatin1_aae02_7 : decode cJ0_isLatin1_aae02 7 = .ok (.getfield 15, 3) := by decide +kernel
theorem dJ0_isLatin1_aae02_10 : decode cJ0_isLatin1_aae02 10 = .ok (.ifCond .ne 7, 3) := by decide +kernel
theorem dJ0_isLatin1_aae02_13 : decode cJ0_isLatin1_aae02 13 = .ok (.iconst 1, 1) := by decide +kernel
theorem dJ0_isLatin1_aae02_14 : decode cJ0_isLatin1_aae02 14 = .ok (.goto 4, 3) := by decide +kernel
theorem dJ0_isLatin1_aae02_17 : decode cJ0_isLatin1_aae02 17 = .ok (.iconst 0, 1) := by decide +kernel
theorem dJ0_isLatin1_aae02_18 : decode cJ0_isLatin1_aae02 18 = .ok (.ireturn, 1) := by decide +kernel
theorem dJ0_checkIndex_df160_0 : decode cJ0_checkIndex_df160 0 = .ok (.iload_n 0, 1) := by decide +kernel
theorem dJ0_checkIndex_df160_1 : decode cJ0_checkIndex_df160 1 = .ok (.iload_n 1, 1) := by decide +kernel
theorem dJ0_checkIndex_df160_2 : decode cJ0_checkIndex_df160 2 = .ok (.getstatic 1053, 3) := by decide +kernel
theorem dJ0_checkIndex_df160_5 : decode cJ0_checkIndex_df160 5 = .ok (.invokestatic 1059, 3) := by decide +kernel
theorem dJ0_checkIndex_df160_8 : decode cJ0_checkIndex_df160 8 = .ok (.pop, 1) := by decide +kernel
theorem dJ0_checkIndex_df160_9 : decode cJ0_checkIndex_df160 9 = .ok (.return_, 1) := by decide +kernel
theorem dJ1_charAt_3b067_0 : decode cJ1_charAt_3b067 0 = .ok (.iload_n 1, 1) := by decide +kernel
theorem dJ1_charAt_3b067_1 : decode cJ1_charAt_3b067 1 = .ok (.aload_n 0, 1) := by decide +kernel
theorem dJ1_charAt_3b067_2 : decode cJ1_charAt_3b067 2 = .ok (.arraylength, 1) := by decide +kernel
theorem dJ1_charAt_3b067_3 : decode cJ1_charAt_3b067 3 = .ok (.invokestatic 9, 3) := by decide +kernel
theorem dJ1_charAt_3b067_6 : decode cJ1_charAt_3b067 6 = .ok (.aload_n 0, 1) := by decide +kernel
theorem dJ1_charAt_3b067_7 : decode cJ1_charAt_3b067 7 = .ok (.iload_n 1, 1) := by decide +kernel
theorem dJ1_charAt_3b067_8 : decode cJ1_charAt_3b067 8 = .ok (.baload, 1) := by decide +kernel
theorem dJ1_charAt_3b067_9 : decode cJ1_charAt_3b067 9 = .ok (.sipush 255, 3) := by decide +kernel
theorem dJ1_charAt_3b067_12 : decode cJ1_charAt_3b067 12 = .ok (.iand, 1) := by decide +kernel
theorem dJ1_charAt_3b067_13 : decode cJ1_charAt_3b067 13 = .ok (.i2c, 1) := by decide +kernel
theorem dJ1_charAt_3b067_14 : decode cJ1_charAt_3b067 14 = .ok (.ireturn, 1) := by decide +kernel
theorem dJ2_getChar_3b067_0 : decode cJ2_getChar_3b067 0 = .ok (.getstatic 44, 3) := by decide +kernel
theorem dJ2_getChar_3b067_3 : decode cJ2_getChar_3b067 3 = .ok (.ifCond .ne 25, 3) := by decide +kernel
theorem dJ2_getChar_3b067_6 : decode cJ2_getChar_3b067 6 = .ok (.iload_n 1, 1) := by decide +kernel
theorem dJ2_getChar_3b067_7 : decode cJ2_getChar_3b067 7 = .ok (.ifCond .lt 11, 3) := by decide +kernel
theorem dJ2_getChar_3b067_10 : decode cJ2_getChar_3b067 10 = .ok (.iload_n 1, 1) := by decide +kernel
theorem dJ2_getChar_3b067_11 : decode cJ2_getChar_3b067 11 = .ok (.aload_n 0, 1) := by decide +kernel
theorem dJ2_getChar_3b067_12 : decode cJ2_getChar_3b067 12 = .ok (.invokestatic 48, 3) := by decide +kernel
theorem dJ2_getChar_3b067_15 : decode cJ2_getChar_3b067 15 = .ok (.if_icmp .lt 13, 3) := by decide +kernel
theorem dJ2_getChar_3b067_18 : decode cJ2_getChar_3b067 18 = .ok (.new 52, 3) := by decide +kernel
theorem dJ2_getChar_3b067_21 : decode cJ2_getChar_3b067 21 = .ok (.dup, 1) := by decide +kernel
theorem dJ2_getChar_3b067_22 : decode cJ2_getChar_3b067 22 = .ok (.ldc 54, 2) := by decide +kernel
theorem dJ2_getChar_3b067_24 : decode cJ2_getChar_3b067 24 = .ok (.invokespecial 56, 3) := by decide +kernel
theorem dJ2_getChar_3b067_27 : decode cJ2_getChar_3b067 27 = .ok (.athrow, 1) := by decide +kernel
theorem dJ2_getChar_3b067_28 : decode cJ2_getChar_3b067 28 = .ok (.iload_n 1, 1) := by decide +kernel
theorem dJ2_getChar_3b067_29 : decode cJ2_getChar_3b067 29 = .ok (.iconst 1, 1) := by decide +kernel
theorem dJ2_getChar_3b067_30 : decode cJ2_getChar_3b067 30 = .ok (.ishl, 1) := by decide +kernel
theorem dJ2_getChar_3b067_31 : decode cJ2_getChar_3b067 31 = .ok (.istore_n 1, 1) := by decide +kernel
theorem dJ2_getChar_3b067_32 : decode cJ2_getChar_3b067 32 = .ok (.aload_n 0, 1) := by decide +kernel
theorem dJ2_getChar_3b067_33 : decode cJ2_getChar_3b067 33 = .ok (.iload_n 1, 1) := by decide +kernel
theorem dJ2_getChar_3b067_34 : decode cJ2_getChar_3b067 34 = .ok (.iinc 1 1, 3) := by decide +kernel
theorem dJ2_getChar_3b067_37 : decode cJ2_getChar_3b067 37 = .ok (.baload, 1) := by decide +kernel
theorem dJ2_getChar_3b067_38 : decode cJ2_getChar_3b067 38 = .ok (.sipush 255, 3) := by decide +kernel
theorem dJ2_getChar_3b067_41 : decode cJ2_getChar_3b067 41 = .ok (.iand, 1) := by decide +kernel
theorem dJ2_getChar_3b067_42 : decode cJ2_getChar_3b067 42 = .ok (.getstatic 59, 3) := by decide +kernel
theorem dJ2_getChar_3b067_45 : decode cJ2_getChar_3b067 45 = .ok (.ishl, 1) := by decide +kernel
theorem dJ2_getChar_3b067_46 : decode cJ2_getChar_3b067 46 = .ok (.aload_n 0, 1) := by decide +kernel
theorem dJ2_getChar_3b067_47 : decode cJ2_getChar_3b067 47 = .ok (.iload_n 1, 1) := by decide +kernel
theorem dJ2_getChar_3b067_48 : decode cJ2_getChar_3b067 48 = .ok (.baload, 1) := by decide +kernel
theorem dJ2_getChar_3b067_49 : decode cJ2_getChar_3b067 49 = .ok (.sipush 255, 3) := by decide +kernel
theorem dJ2_getChar_3b067_52 : decode cJ2_getChar_3b067 52 = .ok (.iand, 1) := by decide +kernel
theorem dJ2_getChar_3b067_53 : decode cJ2_getChar_3b067 53 = .ok (.getstatic 63, 3) := by decide +kernel
theorem dJ2_getChar_3b067_56 : decode cJ2_getChar_3b067 56 = .ok (.ishl, 1) := by decide +kernel
theorem dJ2_getChar_3b067_57 : decode cJ2_getChar_3b067 57 = .ok (.ior, 1) := by decide +kernel
theorem dJ2_getChar_3b067_58 : decode cJ2_getChar_3b067 58 = .ok (.i2c, 1) := by decide +kernel
theorem dJ2_getChar_3b067_59 : decode cJ2_getChar_3b067 59 = .ok (.ireturn, 1) := by decide +kernel
theorem dJ2_length_9d52b_0 : decode cJ2_length_9d52b 0 = .ok (.aload_n 0, 1) := by decide +kernel
theorem dJ2_length_9d52b_1 : decode cJ2_length_9d52b 1 = .ok (.arraylength, 1) := by decide +kernel
theorem dJ2_length_9d52b_2 : decode cJ2_length_9d52b 2 = .ok (.iconst 1, 1) := by decide +kernel
theorem dJ2_length_9d52b_3 : decode cJ2_length_9d52b 3 = .ok (.ishr, 1) := by decide +kernel
theorem dJ2_length_9d52b_4 : decode cJ2_length_9d52b 4 = .ok (.ireturn, 1) := by decide +kernel
theorem dJ2_charAt_3b067_0 : decode cJ2_charAt_3b067 0 = .ok (.iload_n 1, 1) := by decide +kernel
theorem dJ2_charAt_3b067_1 : decode cJ2_charAt_3b067 1 = .ok (.aload_n 0, 1) := by decide +kernel
theorem dJ2_charAt_3b067_2 : decode cJ2_charAt_3b067 2 = .ok (.invokestatic 67, 3) := by decide +kernel
theorem dJ2_charAt_3b067_5 : decode cJ2_charAt_3b067 5 = .ok (.aload_n 0, 1) := by decide +kernel
theorem dJ2_charAt_3b067_6 : decode cJ2_charAt_3b067 6 = .ok (.iload_n 1, 1) := by decide +kernel
theorem dJ2_charAt_3b067_7 : decode cJ2_charAt_3b067 7 = .ok (.invokestatic 71, 3) := by decide +kernel
theorem dJ2_charAt_3b067_10 : decode cJ2_charAt_3b067 10 = .ok (.ireturn, 1) := by decide +kernel
theorem dJ2_checkIndex_2214a_0 : decode cJ2_checkIndex_2214a 0 = .ok (.iload_n 0, 1) := by decide +kernel
theorem dJ2_checkIndex_2214a_1 : decode cJ2_checkIndex_2214a 1 = .ok (.aload_n 1, 1) := by decide +kernel
theorem dJ2_checkIndex_2214a_2 : decode cJ2_checkIndex_2214a 2 = .ok (.invokestatic 48, 3) := by decide +kernel
theorem dJ2_checkIndex_2214a_5 : decode cJ2_checkIndex_2214a 5 = .ok (.invokestatic 414, 3) := by decide +kernel
theorem dJ2_checkIndex_2214a_8 : decode cJ2_checkIndex_2214a 8 = .ok (.return_, 1) := by decide +kernel
theorem dJ3_checkIndex_8e157_0 : decode cJ3_checkIndex_8e157 0 = .ok (.iload_n 0, 1) := by decide +kernel
theorem dJ3_checkIndex_8e157_1 : decode cJ3_checkIndex_8e157 1 = .ok (.ifCond .lt 8, 3) := by decide +kernel
theorem dJ3_checkIndex_8e157_4 : decode cJ3_checkIndex_8e157 4 = .ok (.iload_n 0, 1) := by decide +kernel
theorem dJ3_checkIndex_8e157_5 : decode cJ3_checkIndex_8e157 5 = .ok (.iload_n 1, 1) := by decide +kernel
theorem dJ3_checkIndex_8e157_6 : decode cJ3_checkIndex_8e157 6 = .ok (.if_icmp .lt 10, 3) := by decide +kernel
theorem dJ3_checkIndex_8e157_9 : decode cJ3_checkIndex_8e157 9 = .ok (.aload_n 2, 1) := by decide +kernel
theorem dJ3_checkIndex_8e157_10 : decode cJ3_checkIndex_8e157 10 = .ok (.iload_n 0, 1) := by decide +kernel
theorem dJ3_checkIndex_8e157_11 : decode cJ3_checkIndex_8e157 11 = .ok (.iload_n 1, 1) := by decide +kernel
theorem dJ3_checkIndex_8e157_12 : decode cJ3_checkIndex_8e157 12 = .ok (.invokestatic 95, 3) := by decide +kernel
theorem dJ3_checkIndex_8e157_15 : decode cJ3_checkIndex_8e157 15 = .ok (.athrow, 1) := by decide +kernel
theorem dJ3_checkIndex_8e157_16 : decode cJ3_checkIndex_8e157 16 = .ok (.iload_n 0, 1) := by decide +kernel
theorem dJ3_checkIndex_8e157_17 : decode cJ3_checkIndex_8e157 17 = .ok (.ireturn, 1) := by decide +kernel
