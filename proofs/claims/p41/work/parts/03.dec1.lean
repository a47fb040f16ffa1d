theorem dX0_init_0 : decode cX0_init 0 = .ok (.aload_n 0, 1) := by decide +kernel
theorem dX0_init_1 : decode cX0_init 1 = .ok (.invokespecial 3, 3) := by decide +kernel
theorem dX0_init_4 : decode cX0_init 4 = .ok (.aload_n 0, 1) := by decide +kernel
theorem dX0_init_5 : decode cX0_init 5 = .ok (.aload_n 1, 1) := by decide +kernel
theorem dX0_init_6 : decode cX0_init 6 = .ok (.putfield 9, 3) := by decide +kernel
theorem dX0_init_9 : decode cX0_init 9 = .ok (.aload_n 0, 1) := by decide +kernel
theorem dX0_init_10 : decode cX0_init 10 = .ok (.new 15, 3) := by decide +kernel
theorem dX0_init_13 : decode cX0_init 13 = .ok (.dup, 1) := by decide +kernel
theorem dX0_init_14 : decode cX0_init 14 = .ok (.invokespecial 17, 3) := by decide +kernel
theorem dX0_init_17 : decode cX0_init 17 = .ok (.putfield 18, 3) := by decide +kernel
theorem dX0_init_20 : decode cX0_init 20 = .ok (.aload_n 0, 1) := by decide +kernel
theorem dX0_init_21 : decode cX0_init 21 = .ok (.iconst (-1), 1) := by decide +kernel
theorem dX0_init_22 : decode cX0_init 22 = .ok (.putfield 22, 3) := by decide +kernel
theorem dX0_init_25 : decode cX0_init 25 = .ok (.aload_n 0, 1) := by decide +kernel
theorem dX0_init_26 : decode cX0_init 26 = .ok (.iconst (-1), 1) := by decide +kernel
theorem dX0_init_27 : decode cX0_init 27 = .ok (.putfield 26, 3) := by decide +kernel
theorem dX0_init_30 : decode cX0_init 30 = .ok (.return_, 1) := by decide +kernel
theorem dX0_latestReason_0 : decode cX0_latestReason 0 = .ok (.aload_n 0, 1) := by decide +kernel
theorem dX0_latestReason_1 : decode cX0_latestReason 1 = .ok (.getfield 22, 3) := by decide +kernel
theorem dX0_latestReason_4 : decode cX0_latestReason 4 = .ok (.ireturn, 1) := by decide +kernel
theorem dX0_latestDetail_0 : decode cX0_latestDetail 0 = .ok (.aload_n 0, 1) := by decide +kernel
theorem dX0_latestDetail_1 : decode cX0_latestDetail 1 = .ok (.getfield 26, 3) := by decide +kernel
theorem dX0_latestDetail_4 : decode cX0_latestDetail 4 = .ok (.ireturn, 1) := by decide +kernel
theorem dX0_tryEdit_0 : decode cX0_tryEdit 0 = .ok (.aload_n 0, 1) := by decide +kernel
theorem dX0_tryEdit_1 : decode cX0_tryEdit 1 = .ok (.getfield 9, 3) := by decide +kernel
theorem dX0_tryEdit_4 : decode cX0_tryEdit 4 = .ok (.iload_n 1, 1) := by decide +kernel
theorem dX0_tryEdit_5 : decode cX0_tryEdit 5 = .ok (.invokevirtual 29, 3) := by decide +kernel
theorem dX0_tryEdit_8 : decode cX0_tryEdit 8 = .ok (.ifCond .eq 10, 3) := by decide +kernel
theorem dX0_tryEdit_11 : decode cX0_tryEdit 11 = .ok (.iload_n 2, 1) := by decide +kernel
theorem dX0_tryEdit_12 : decode cX0_tryEdit 12 = .ok (.invokestatic 35, 3) := by decide +kernel
theorem dX0_tryEdit_15 : decode cX0_tryEdit 15 = .ok (.ifCond .ne 5, 3) := by decide +kernel
theorem dX0_tryEdit_18 : decode cX0_tryEdit 18 = .ok (.iconst (-1), 1) := by decide +kernel
theorem dX0_tryEdit_19 : decode cX0_tryEdit 19 = .ok (.ireturn, 1) := by decide +kernel
theorem dX0_tryEdit_20 : decode cX0_tryEdit 20 = .ok (.iload_n 3, 1) := by decide +kernel
theorem dX0_tryEdit_21 : decode cX0_tryEdit 21 = .ok (.invokestatic 38, 3) := by decide +kernel
theorem dX0_tryEdit_24 : decode cX0_tryEdit 24 = .ok (.ifCond .ne 6, 3) := by decide +kernel
theorem dX0_tryEdit_27 : decode cX0_tryEdit 27 = .ok (.bipush (-2), 2) := by decide +kernel
theorem dX0_tryEdit_29 : decode cX0_tryEdit 29 = .ok (.ireturn, 1) := by decide +kernel
theorem dX0_tryEdit_30 : decode cX0_tryEdit 30 = .ok (.aload_n 0, 1) := by decide +kernel
theorem dX0_tryEdit_31 : decode cX0_tryEdit 31 = .ok (.getfield 9, 3) := by decide +kernel
theorem dX0_tryEdit_34 : decode cX0_tryEdit 34 = .ok (.iload_n 1, 1) := by decide +kernel
theorem dX0_tryEdit_35 : decode cX0_tryEdit 35 = .ok (.invokevirtual 41, 3) := by decide +kernel
theorem dX0_tryEdit_38 : decode cX0_tryEdit 38 = .ok (.istore 4, 2) := by decide +kernel
theorem dX0_tryEdit_40 : decode cX0_tryEdit 40 = .ok (.aload_n 0, 1) := by decide +kernel
theorem dX0_tryEdit_41 : decode cX0_tryEdit 41 = .ok (.getfield 9, 3) := by decide +kernel
theorem dX0_tryEdit_44 : decode cX0_tryEdit 44 = .ok (.iload 4, 2) := by decide +kernel
theorem dX0_tryEdit_46 : decode cX0_tryEdit 46 = .ok (.iload_n 2, 1) := by decide +kernel
theorem dX0_tryEdit_47 : decode cX0_tryEdit 47 = .ok (.invokevirtual 45, 3) := by decide +kernel
theorem dX0_tryEdit_50 : decode cX0_tryEdit 50 = .ok (.iload_n 3, 1) := by decide +kernel
theorem dX0_tryEdit_51 : decode cX0_tryEdit 51 = .ok (.if_icmp .ne 10, 3) := by decide +kernel
theorem dX0_tryEdit_54 : decode cX0_tryEdit 54 = .ok (.aload_n 0, 1) := by decide +kernel
theorem dX0_tryEdit_55 : decode cX0_tryEdit 55 = .ok (.iconst 2, 1) := by decide +kernel
theorem dX0_tryEdit_56 : decode cX0_tryEdit 56 = .ok (.iload_n 3, 1) := by decide +kernel
theorem dX0_tryEdit_57 : decode cX0_tryEdit 57 = .ok (.invokevirtual 49, 3) := by decide +kernel
theorem dX0_tryEdit_60 : decode cX0_tryEdit 60 = .ok (.ireturn, 1) := by decide +kernel
theorem dX0_tryEdit_61 : decode cX0_tryEdit 61 = .ok (.aload_n 0, 1) := by decide +kernel
theorem dX0_tryEdit_62 : decode cX0_tryEdit 62 = .ok (.getfield 9, 3) := by decide +kernel
theorem dX0_tryEdit_65 : decode cX0_tryEdit 65 = .ok (.invokevirtual 52, 3) := by decide +kernel
theorem dX0_tryEdit_68 : decode cX0_tryEdit 68 = .ok (.ifCond .eq 11, 3) := by decide +kernel
theorem dX0_tryEdit_71 : decode cX0_tryEdit 71 = .ok (.aload_n 0, 1) := by decide +kernel
theorem dX0_tryEdit_72 : decode cX0_tryEdit 72 = .ok (.iconst 1, 1) := by decide +kernel
theorem dX0_tryEdit_73 : decode cX0_tryEdit 73 = .ok (.bipush 24, 2) := by decide +kernel
theorem dX0_tryEdit_75 : decode cX0_tryEdit 75 = .ok (.invokevirtual 49, 3) := by decide +kernel
theorem dX0_tryEdit_78 : decode cX0_tryEdit 78 = .ok (.ireturn, 1) := by decide +kernel
theorem dX0_tryEdit_79 : decode cX0_tryEdit 79 = .ok (.aload_n 0, 1) := by decide +kernel
theorem dX0_tryEdit_80 : decode cX0_tryEdit 80 = .ok (.getfield 18, 3) := by decide +kernel
theorem dX0_tryEdit_83 : decode cX0_tryEdit 83 = .ok (.aload_n 0, 1) := by decide +kernel
theorem dX0_tryEdit_84 : decode cX0_tryEdit 84 = .ok (.getfield 9, 3) := by decide +kernel
theorem dX0_tryEdit_87 : decode cX0_tryEdit 87 = .ok (.iload 4, 2) := by decide +kernel
theorem dX0_tryEdit_89 : decode cX0_tryEdit 89 = .ok (.iload_n 2, 1) := by decide +kernel
theorem dX0_tryEdit_90 : decode cX0_tryEdit 90 = .ok (.iload_n 3, 1) := by decide +kernel
theorem dX0_tryEdit_91 : decode cX0_tryEdit 91 = .ok (.invokevirtual 56, 3) := by decide +kernel
theorem dX0_tryEdit_94 : decode cX0_tryEdit 94 = .ok (.aload_n 0, 1) := by decide +kernel
theorem dX0_tryEdit_95 : decode cX0_tryEdit 95 = .ok (.getfield 9, 3) := by decide +kernel
theorem dX0_tryEdit_98 : decode cX0_tryEdit 98 = .ok (.iload_n 1, 1) := by decide +kernel
theorem dX0_tryEdit_99 : decode cX0_tryEdit 99 = .ok (.iconst 0, 1) := by decide +kernel
theorem dX0_tryEdit_100 : decode cX0_tryEdit 100 = .ok (.iconst (-1), 1) := by decide +kernel
theorem dX0_tryEdit_101 : decode cX0_tryEdit 101 = .ok (.aload_n 0, 1) := by decide +kernel
theorem dX0_tryEdit_102 : decode cX0_tryEdit 102 = .ok (.getfield 18, 3) := by decide +kernel
theorem dX0_tryEdit_105 : decode cX0_tryEdit 105 = .ok (.invokevirtual 60, 3) := by decide +kernel
theorem dX0_tryEdit_108 : decode cX0_tryEdit 108 = .ok (.invokevirtual 64, 3) := by decide +kernel
theorem dX0_tryEdit_111 : decode cX0_tryEdit 111 = .ok (.ireturn, 1) := by decide +kernel
theorem dX0_tryFork_0 : decode cX0_tryFork 0 = .ok (.aload_n 0, 1) := by decide +kernel
theorem dX0_tryFork_1 : decode cX0_tryFork 1 = .ok (.getfield 9, 3) := by decide +kernel
theorem dX0_tryFork_4 : decode cX0_tryFork 4 = .ok (.iload_n 1, 1) := by decide +kernel
theorem dX0_tryFork_5 : decode cX0_tryFork 5 = .ok (.invokevirtual 29, 3) := by decide +kernel
theorem dX0_tryFork_8 : decode cX0_tryFork 8 = .ok (.ifCond .ne 5, 3) := by decide +kernel
theorem dX0_tryFork_11 : decode cX0_tryFork 11 = .ok (.iconst (-1), 1) := by decide +kernel
theorem dX0_tryFork_12 : decode cX0_tryFork 12 = .ok (.ireturn, 1) := by decide +kernel
theorem dX0_tryFork_13 : decode cX0_tryFork 13 = .ok (.aload_n 0, 1) := by decide +kernel
theorem dX0_tryFork_14 : decode cX0_tryFork 14 = .ok (.getfield 9, 3) := by decide +kernel
theorem dX0_tryFork_17 : decode cX0_tryFork 17 = .ok (.invokevirtual 68, 3) := by decide +kernel
theorem dX0_tryFork_20 : decode cX0_tryFork 20 = .ok (.iconst 5, 1) := by decide +kernel
theorem dX0_tryFork_21 : decode cX0_tryFork 21 = .ok (.if_icmp .lt 10, 3) := by decide +kernel
theorem dX0_tryFork_24 : decode cX0_tryFork 24 = .ok (.aload_n 0, 1) := by decide +kernel
theorem dX0_tryFork_25 : decode cX0_tryFork 25 = .ok (.iconst 1, 1) := by decide +kernel
theorem dX0_tryFork_26 : decode cX0_tryFork 26 = .ok (.iconst 5, 1) := by decide +kernel
theorem dX0_tryFork_27 : decode cX0_tryFork 27 = .ok (.invokevirtual 49, 3) := by decide +kernel
theorem dX0_tryFork_30 : decode cX0_tryFork 30 = .ok (.ireturn, 1) := by decide +kernel
theorem dX0_tryFork_31 : decode cX0_tryFork 31 = .ok (.aload_n 0, 1) := by decide +kernel
theorem dX0_tryFork_32 : decode cX0_tryFork 32 = .ok (.getfield 9, 3) := by decide +kernel
theorem dX0_tryFork_35 : decode cX0_tryFork 35 = .ok (.aload_n 0, 1) := by decide +kernel
theorem dX0_tryFork_36 : decode cX0_tryFork 36 = .ok (.getfield 9, 3) := by decide +kernel
theorem dX0_tryFork_39 : decode cX0_tryFork 39 = .ok (.iload_n 1, 1) := by decide +kernel
theorem dX0_tryFork_40 : decode cX0_tryFork 40 = .ok (.invokevirtual 41, 3) := by decide +kernel
theorem dX0_tryFork_43 : decode cX0_tryFork 43 = .ok (.invokevirtual 72, 3) := by decide +kernel
theorem dX0_tryFork_46 : decode cX0_tryFork 46 = .ok (.ireturn, 1) := by decide +kernel
theorem dX0_tryReset_0 : decode cX0_tryReset 0 = .ok (.aload_n 0, 1) := by decide +kernel
theorem dX0_tryReset_1 : decode cX0_tryReset 1 = .ok (.getfield 9, 3) := by decide +kernel
theorem dX0_tryReset_4 : decode cX0_tryReset 4 = .ok (.iload_n 1, 1) := by decide +kernel
theorem dX0_tryReset_5 : decode cX0_tryReset 5 = .ok (.invokevirtual 29, 3) := by decide +kernel
theorem dX0_tryReset_8 : decode cX0_tryReset 8 = .ok (.ifCond .eq 14, 3) := by decide +kernel
theorem dX0_tryReset_11 : decode cX0_tryReset 11 = .ok (.aload_n 0, 1) := by decide +kernel
theorem dX0_tryReset_12 : decode cX0_tryReset 12 = .ok (.getfield 9, 3) := by decide +kernel
theorem dX0_tryReset_15 : decode cX0_tryReset 15 = .ok (.iload_n 2, 1) := by decide +kernel
theorem dX0_tryReset_16 : decode cX0_tryReset 16 = .ok (.invokevirtual 75, 3) := by decide +kernel
theorem dX0_tryReset_19 : decode cX0_tryReset 19 = .ok (.ifCond .ne 5, 3) := by decide +kernel
theorem dX0_tryReset_22 : decode cX0_tryReset 22 = .ok (.iconst (-1), 1) := by decide +kernel
theorem dX0_tryReset_23 : decode cX0_tryReset 23 = .ok (.ireturn, 1) := by decide +kernel
theorem dX0_tryReset_24 : decode cX0_tryReset 24 = .ok (.aload_n 0, 1) := by decide +kernel
theorem dX0_tryReset_25 : decode cX0_tryReset 25 = .ok (.getfield 9, 3) := by decide +kernel
theorem dX0_tryReset_28 : decode cX0_tryReset 28 = .ok (.iload_n 1, 1) := by decide +kernel
theorem dX0_tryReset_29 : decode cX0_tryReset 29 = .ok (.invokevirtual 41, 3) := by decide +kernel
theorem dX0_tryReset_32 : decode cX0_tryReset 32 = .ok (.istore_n 3, 1) := by decide +kernel
theorem dX0_tryReset_33 : decode cX0_tryReset 33 = .ok (.iload_n 3, 1) := by decide +kernel
theorem dX0_tryReset_34 : decode cX0_tryReset 34 = .ok (.iload_n 2, 1) := by decide +kernel
theorem dX0_tryReset_35 : decode cX0_tryReset 35 = .ok (.if_icmp .ne 10, 3) := by decide +kernel
theorem dX0_tryReset_38 : decode cX0_tryReset 38 = .ok (.aload_n 0, 1) := by decide +kernel
theorem dX0_tryReset_39 : decode cX0_tryReset 39 = .ok (.iconst 3, 1) := by decide +kernel
theorem dX0_tryReset_40 : decode cX0_tryReset 40 = .ok (.iload_n 3, 1) := by decide +kernel
theorem dX0_tryReset_41 : decode cX0_tryReset 41 = .ok (.invokevirtual 49, 3) := by decide +kernel
theorem dX0_tryReset_44 : decode cX0_tryReset 44 = .ok (.ireturn, 1) := by decide +kernel
theorem dX0_tryReset_45 : decode cX0_tryReset 45 = .ok (.aload_n 0, 1) := by decide +kernel
theorem dX0_tryReset_46 : decode cX0_tryReset 46 = .ok (.getfield 9, 3) := by decide +kernel
theorem dX0_tryReset_49 : decode cX0_tryReset 49 = .ok (.iload_n 1, 1) := by decide +kernel
theorem dX0_tryReset_50 : decode cX0_tryReset 50 = .ok (.iload_n 2, 1) := by decide +kernel
theorem dX0_tryReset_51 : decode cX0_tryReset 51 = .ok (.invokevirtual 78, 3) := by decide +kernel
theorem dX0_tryReset_54 : decode cX0_tryReset 54 = .ok (.iload_n 3, 1) := by decide +kernel
theorem dX0_tryReset_55 : decode cX0_tryReset 55 = .ok (.ireturn, 1) := by decide +kernel
theorem dX0_tryMerge_0 : decode cX0_tryMerge 0 = .ok (.aload_n 0, 1) := by decide +kernel
theorem dX0_tryMerge_1 : decode cX0_tryMerge 1 = .ok (.getfield 9, 3) := by decide +kernel
theorem dX0_tryMerge_4 : decode cX0_tryMerge 4 = .ok (.iload_n 1, 1) := by decide +kernel
theorem dX0_tryMerge_5 : decode cX0_tryMerge 5 = .ok (.invokevirtual 29, 3) := by decide +kernel
theorem dX0_tryMerge_8 : decode cX0_tryMerge 8 = .ok (.ifCond .eq 14, 3) := by decide +kernel
theorem dX0_tryMerge_11 : decode cX0_tryMerge 11 = .ok (.aload_n 0, 1) := by decide +kernel
theorem dX0_tryMerge_12 : decode cX0_tryMerge 12 = .ok (.getfield 9, 3) := by decide +kernel
theorem dX0_tryMerge_15 : decode cX0_tryMerge 15 = .ok (.iload_n 2, 1) := by decide +kernel
theorem dX0_tryMerge_16 : decode cX0_tryMerge 16 = .ok (.invokevirtual 29, 3) := by decide +kernel
theorem dX0_tryMerge_19 : decode cX0_tryMerge 19 = .ok (.ifCond .ne 5, 3) := by decide +kernel
theorem dX0_tryMerge_22 : decode cX0_tryMerge 22 = .ok (.iconst (-1), 1) := by decide +kernel
theorem dX0_tryMerge_23 : decode cX0_tryMerge 23 = .ok (.ireturn, 1) := by decide +kernel
theorem dX0_tryMerge_24 : decode cX0_tryMerge 24 = .ok (.iload_n 3, 1) := by decide +kernel
theorem dX0_tryMerge_25 : decode cX0_tryMerge 25 = .ok (.invokestatic 82, 3) := by decide +kernel
theorem dX0_tryMerge_28 : decode cX0_tryMerge 28 = .ok (.ifCond .ne 6, 3) := by decide +kernel
theorem dX0_tryMerge_31 : decode cX0_tryMerge 31 = .ok (.bipush (-2), 2) := by decide +kernel
theorem dX0_tryMerge_33 : decode cX0_tryMerge 33 = .ok (.ireturn, 1) := by decide +kernel
theorem dX0_tryMerge_34 : decode cX0_tryMerge 34 = .ok (.aload_n 0, 1) := by decide +kernel
theorem dX0_tryMerge_35 : decode cX0_tryMerge 35 = .ok (.getfield 9, 3) := by decide +kernel
theorem dX0_tryMerge_38 : decode cX0_tryMerge 38 = .ok (.iload_n 1, 1) := by decide +kernel
theorem dX0_tryMerge_39 : decode cX0_tryMerge 39 = .ok (.invokevirtual 41, 3) := by decide +kernel
theorem dX0_tryMerge_42 : decode cX0_tryMerge 42 = .ok (.istore 4, 2) := by decide +kernel
theorem dX0_tryMerge_44 : decode cX0_tryMerge 44 = .ok (.aload_n 0, 1) := by decide +kernel
theorem dX0_tryMerge_45 : decode cX0_tryMerge 45 = .ok (.getfield 9, 3) := by decide +kernel
theorem dX0_tryMerge_48 : decode cX0_tryMerge 48 = .ok (.iload_n 2, 1) := by decide +kernel
theorem dX0_tryMerge_49 : decode cX0_tryMerge 49 = .ok (.invokevirtual 41, 3) := by decide +kernel
theorem dX0_tryMerge_52 : decode cX0_tryMerge 52 = .ok (.istore 5, 2) := by decide +kernel
theorem dX0_tryMerge_54 : decode cX0_tryMerge 54 = .ok (.aload_n 0, 1) := by decide +kernel
theorem dX0_tryMerge_55 : decode cX0_tryMerge 55 = .ok (.getfield 9, 3) := by decide +kernel
theorem dX0_tryMerge_58 : decode cX0_tryMerge 58 = .ok (.iload 4, 2) := by decide +kernel
theorem dX0_tryMerge_60 : decode cX0_tryMerge 60 = .ok (.iload 5, 2) := by decide +kernel
theorem dX0_tryMerge_62 : decode cX0_tryMerge 62 = .ok (.invokevirtual 85, 3) := by decide +kernel
theorem dX0_tryMerge_65 : decode cX0_tryMerge 65 = .ok (.ifCond .eq 11, 3) := by decide +kernel
theorem dX0_tryMerge_68 : decode cX0_tryMerge 68 = .ok (.aload_n 0, 1) := by decide +kernel
theorem dX0_tryMerge_69 : decode cX0_tryMerge 69 = .ok (.iconst 4, 1) := by decide +kernel
theorem dX0_tryMerge_70 : decode cX0_tryMerge 70 = .ok (.iload 5, 2) := by decide +kernel
theorem dX0_tryMerge_72 : decode cX0_tryMerge 72 = .ok (.invokevirtual 49, 3) := by decide +kernel
theorem dX0_tryMerge_75 : decode cX0_tryMerge 75 = .ok (.ireturn, 1) := by decide +kernel
theorem dX0_tryMerge_76 : decode cX0_tryMerge 76 = .ok (.aload_n 0, 1) := by decide +kernel
theorem dX0_tryMerge_77 : decode cX0_tryMerge 77 = .ok (.getfield 9, 3) := by decide +kernel
theorem dX0_tryMerge_80 : decode cX0_tryMerge 80 = .ok (.iload 5, 2) := by decide +kernel
theorem dX0_tryMerge_82 : decode cX0_tryMerge 82 = .ok (.iload 4, 2) := by decide +kernel
theorem dX0_tryMerge_84 : decode cX0_tryMerge 84 = .ok (.invokevirtual 85, 3) := by decide +kernel
theorem dX0_tryMerge_87 : decode cX0_tryMerge 87 = .ok (.ifCond .eq 16, 3) := by decide +kernel
theorem dX0_tryMerge_90 : decode cX0_tryMerge 90 = .ok (.aload_n 0, 1) := by decide +kernel
theorem dX0_tryMerge_91 : decode cX0_tryMerge 91 = .ok (.getfield 9, 3) := by decide +kernel
theorem dX0_tryMerge_94 : decode cX0_tryMerge 94 = .ok (.iload_n 1, 1) := by decide +kernel
theorem dX0_tryMerge_95 : decode cX0_tryMerge 95 = .ok (.iload 5, 2) := by decide +kernel
theorem dX0_tryMerge_97 : decode cX0_tryMerge 97 = .ok (.invokevirtual 78, 3) := by decide +kernel
theorem dX0_tryMerge_100 : decode cX0_tryMerge 100 = .ok (.iload 5, 2) := by decide +kernel
theorem dX0_tryMerge_102 : decode cX0_tryMerge 102 = .ok (.ireturn, 1) := by decide +kernel
theorem dX0_tryMerge_103 : decode cX0_tryMerge 103 = .ok (.aload_n 0, 1) := by decide +kernel
theorem dX0_tryMerge_104 : decode cX0_tryMerge 104 = .ok (.getfield 18, 3) := by decide +kernel
theorem dX0_tryMerge_107 : decode cX0_tryMerge 107 = .ok (.aload_n 0, 1) := by decide +kernel
theorem dX0_tryMerge_108 : decode cX0_tryMerge 108 = .ok (.getfield 9, 3) := by decide +kernel
theorem dX0_tryMerge_111 : decode cX0_tryMerge 111 = .ok (.iload 4, 2) := by decide +kernel
theorem dX0_tryMerge_113 : decode cX0_tryMerge 113 = .ok (.iload 5, 2) := by decide +kernel
theorem dX0_tryMerge_115 : decode cX0_tryMerge 115 = .ok (.aload_n 0, 1) := by decide +kernel
theorem dX0_tryMerge_116 : decode cX0_tryMerge 116 = .ok (.getfield 9, 3) := by decide +kernel
theorem dX0_tryMerge_119 : decode cX0_tryMerge 119 = .ok (.iload 4, 2) := by decide +kernel
theorem dX0_tryMerge_121 : decode cX0_tryMerge 121 = .ok (.iload 5, 2) := by decide +kernel
theorem dX0_tryMerge_123 : decode cX0_tryMerge 123 = .ok (.invokevirtual 89, 3) := by decide +kernel
theorem dX0_tryMerge_126 : decode cX0_tryMerge 126 = .ok (.iload_n 3, 1) := by decide +kernel
theorem dX0_tryMerge_127 : decode cX0_tryMerge 127 = .ok (.invokevirtual 92, 3) := by decide +kernel
theorem dX0_tryMerge_130 : decode cX0_tryMerge 130 = .ok (.aload_n 0, 1) := by decide +kernel
theorem dX0_tryMerge_131 : decode cX0_tryMerge 131 = .ok (.iload_n 3, 1) := by decide +kernel
theorem dX0_tryMerge_132 : decode cX0_tryMerge 132 = .ok (.invokevirtual 96, 3) := by decide +kernel
theorem dX0_tryMerge_135 : decode cX0_tryMerge 135 = .ok (.ifCond .eq 16, 3) := by decide +kernel
theorem dX0_tryMerge_138 : decode cX0_tryMerge 138 = .ok (.aload_n 0, 1) := by decide +kernel
theorem dX0_tryMerge_139 : decode cX0_tryMerge 139 = .ok (.iconst 5, 1) := by decide +kernel
theorem dX0_tryMerge_140 : decode cX0_tryMerge 140 = .ok (.aload_n 0, 1) := by decide +kernel
theorem dX0_tryMerge_141 : decode cX0_tryMerge 141 = .ok (.getfield 18, 3) := by decide +kernel
theorem dX0_tryMerge_144 : decode cX0_tryMerge 144 = .ok (.invokevirtual 99, 3) := by decide +kernel
theorem dX0_tryMerge_147 : decode cX0_tryMerge 147 = .ok (.invokevirtual 49, 3) := by decide +kernel
theorem dX0_tryMerge_150 : decode cX0_tryMerge 150 = .ok (.ireturn, 1) := by decide +kernel
theorem dX0_tryMerge_151 : decode cX0_tryMerge 151 = .ok (.aload_n 0, 1) := by decide +kernel
theorem dX0_tryMerge_152 : decode cX0_tryMerge 152 = .ok (.getfield 9, 3) := by decide +kernel
theorem dX0_tryMerge_155 : decode cX0_tryMerge 155 = .ok (.invokevirtual 52, 3) := by decide +kernel
theorem dX0_tryMerge_158 : decode cX0_tryMerge 158 = .ok (.ifCond .eq 11, 3) := by decide +kernel
theorem dX0_tryMerge_161 : decode cX0_tryMerge 161 = .ok (.aload_n 0, 1) := by decide +kernel
theorem dX0_tryMerge_162 : decode cX0_tryMerge 162 = .ok (.iconst 1, 1) := by decide +kernel
theorem dX0_tryMerge_163 : decode cX0_tryMerge 163 = .ok (.bipush 24, 2) := by decide +kernel
theorem dX0_tryMerge_165 : decode cX0_tryMerge 165 = .ok (.invokevirtual 49, 3) := by decide +kernel
theorem dX0_tryMerge_168 : decode cX0_tryMerge 168 = .ok (.ireturn, 1) := by decide +kernel
theorem dX0_tryMerge_169 : decode cX0_tryMerge 169 = .ok (.aload_n 0, 1) := by decide +kernel
theorem dX0_tryMerge_170 : decode cX0_tryMerge 170 = .ok (.getfield 9, 3) := by decide +kernel
theorem dX0_tryMerge_173 : decode cX0_tryMerge 173 = .ok (.iload_n 1, 1) := by decide +kernel
theorem dX0_tryMerge_174 : decode cX0_tryMerge 174 = .ok (.iconst 1, 1) := by decide +kernel
theorem dX0_tryMerge_175 : decode cX0_tryMerge 175 = .ok (.iload 5, 2) := by decide +kernel
theorem dX0_tryMerge_177 : decode cX0_tryMerge 177 = .ok (.aload_n 0, 1) := by decide +kernel
theorem dX0_tryMerge_178 : decode cX0_tryMerge 178 = .ok (.getfield 18, 3) := by decide +kernel
theorem dX0_tryMerge_181 : decode cX0_tryMerge 181 = .ok (.invokevirtual 60, 3) := by decide +kernel
theorem dX0_tryMerge_184 : decode cX0_tryMerge 184 = .ok (.invokevirtual 64, 3) := by decide +kernel
theorem dX0_tryMerge_187 : decode cX0_tryMerge 187 = .ok (.ireturn, 1) := by decide +kernel
theorem dX0_tryPick_0 : decode cX0_tryPick 0 = .ok (.aload_n 0, 1) := by decide +kernel
theorem dX0_tryPick_1 : decode cX0_tryPick 1 = .ok (.getfield 9, 3) := by decide +kernel
theorem dX0_tryPick_4 : decode cX0_tryPick 4 = .ok (.iload_n 1, 1) := by decide +kernel
theorem dX0_tryPick_5 : decode cX0_tryPick 5 = .ok (.invokevirtual 29, 3) := by decide +kernel
theorem dX0_tryPick_8 : decode cX0_tryPick 8 = .ok (.ifCond .eq 14, 3) := by decide +kernel
theorem dX0_tryPick_11 : decode cX0_tryPick 11 = .ok (.aload_n 0, 1) := by decide +kernel
theorem dX0_tryPick_12 : decode cX0_tryPick 12 = .ok (.getfield 9, 3) := by decide +kernel
theorem dX0_tryPick_15 : decode cX0_tryPick 15 = .ok (.iload_n 2, 1) := by decide +kernel
theorem dX0_tryPick_16 : decode cX0_tryPick 16 = .ok (.invokevirtual 75, 3) := by decide +kernel
theorem dX0_tryPick_19 : decode cX0_tryPick 19 = .ok (.ifCond .ne 5, 3) := by decide +kernel
theorem dX0_tryPick_22 : decode cX0_tryPick 22 = .ok (.iconst (-1), 1) := by decide +kernel
theorem dX0_tryPick_23 : decode cX0_tryPick 23 = .ok (.ireturn, 1) := by decide +kernel
theorem dX0_tryPick_24 : decode cX0_tryPick 24 = .ok (.iload_n 3, 1) := by decide +kernel
theorem dX0_tryPick_25 : decode cX0_tryPick 25 = .ok (.invokestatic 82, 3) := by decide +kernel
theorem dX0_tryPick_28 : decode cX0_tryPick 28 = .ok (.ifCond .ne 6, 3) := by decide +kernel
theorem dX0_tryPick_31 : decode cX0_tryPick 31 = .ok (.bipush (-2), 2) := by decide +kernel
theorem dX0_tryPick_33 : decode cX0_tryPick 33 = .ok (.ireturn, 1) := by decide +kernel
theorem dX0_tryPick_34 : decode cX0_tryPick 34 = .ok (.aload_n 0, 1) := by decide +kernel
theorem dX0_tryPick_35 : decode cX0_tryPick 35 = .ok (.getfield 9, 3) := by decide +kernel
theorem dX0_tryPick_38 : decode cX0_tryPick 38 = .ok (.aload_n 0, 1) := by decide +kernel
theorem dX0_tryPick_39 : decode cX0_tryPick 39 = .ok (.getfield 9, 3) := by decide +kernel
theorem dX0_tryPick_42 : decode cX0_tryPick 42 = .ok (.iload_n 1, 1) := by decide +kernel
theorem dX0_tryPick_43 : decode cX0_tryPick 43 = .ok (.invokevirtual 41, 3) := by decide +kernel
theorem dX0_tryPick_46 : decode cX0_tryPick 46 = .ok (.iload_n 2, 1) := by decide +kernel
theorem dX0_tryPick_47 : decode cX0_tryPick 47 = .ok (.invokevirtual 85, 3) := by decide +kernel
theorem dX0_tryPick_50 : decode cX0_tryPick 50 = .ok (.ifCond .eq 10, 3) := by decide +kernel
theorem dX0_tryPick_53 : decode cX0_tryPick 53 = .ok (.aload_n 0, 1) := by decide +kernel
theorem dX0_tryPick_54 : decode cX0_tryPick 54 = .ok (.iconst 4, 1) := by decide +kernel
theorem dX0_tryPick_55 : decode cX0_tryPick 55 = .ok (.iload_n 2, 1) := by decide +kernel
theorem dX0_tryPick_56 : decode cX0_tryPick 56 = .ok (.invokevirtual 49, 3) := by decide +kernel
theorem dX0_tryPick_59 : decode cX0_tryPick 59 = .ok (.ireturn, 1) := by decide +kernel
theorem dX0_tryPick_60 : decode cX0_tryPick 60 = .ok (.aload_n 0, 1) := by decide +kernel
theorem dX0_tryPick_61 : decode cX0_tryPick 61 = .ok (.iload_n 1, 1) := by decide +kernel
theorem dX0_tryPick_62 : decode cX0_tryPick 62 = .ok (.iload_n 2, 1) := by decide +kernel
theorem dX0_tryPick_63 : decode cX0_tryPick 63 = .ok (.aload_n 0, 1) := by decide +kernel
theorem dX0_tryPick_64 : decode cX0_tryPick 64 = .ok (.getfield 9, 3) := by decide +kernel
theorem dX0_tryPick_67 : decode cX0_tryPick 67 = .ok (.iload_n 2, 1) := by decide +kernel
theorem dX0_tryPick_68 : decode cX0_tryPick 68 = .ok (.invokevirtual 102, 3) := by decide +kernel
theorem dX0_tryPick_71 : decode cX0_tryPick 71 = .ok (.iload_n 3, 1) := by decide +kernel
theorem dX0_tryPick_72 : decode cX0_tryPick 72 = .ok (.invokevirtual 105, 3) := by decide +kernel
theorem dX0_tryPick_75 : decode cX0_tryPick 75 = .ok (.ireturn, 1) := by decide +kernel
theorem dX0_tryRevert_0 : decode cX0_tryRevert 0 = .ok (.aload_n 0, 1) := by decide +kernel
theorem dX0_tryRevert_1 : decode cX0_tryRevert 1 = .ok (.getfield 9, 3) := by decide +kernel
theorem dX0_tryRevert_4 : decode cX0_tryRevert 4 = .ok (.iload_n 1, 1) := by decide +kernel
theorem dX0_tryRevert_5 : decode cX0_tryRevert 5 = .ok (.invokevirtual 29, 3) := by decide +kernel
theorem dX0_tryRevert_8 : decode cX0_tryRevert 8 = .ok (.ifCond .eq 14, 3) := by decide +kernel
theorem dX0_tryRevert_11 : decode cX0_tryRevert 11 = .ok (.aload_n 0, 1) := by decide +kernel
theorem dX0_tryRevert_12 : decode cX0_tryRevert 12 = .ok (.getfield 9, 3) := by decide +kernel
theorem dX0_tryRevert_15 : decode cX0_tryRevert 15 = .ok (.iload_n 2, 1) := by decide +kernel
theorem dX0_tryRevert_16 : decode cX0_tryRevert 16 = .ok (.invokevirtual 75, 3) := by decide +kernel
theorem dX0_tryRevert_19 : decode cX0_tryRevert 19 = .ok (.ifCond .ne 5, 3) := by decide +kernel
theorem dX0_tryRevert_22 : decode cX0_tryRevert 22 = .ok (.iconst (-1), 1) := by decide +kernel
theorem dX0_tryRevert_23 : decode cX0_tryRevert 23 = .ok (.ireturn, 1) := by decide +kernel
theorem dX0_tryRevert_24 : decode cX0_tryRevert 24 = .ok (.iload_n 3, 1) := by decide +kernel
theorem dX0_tryRevert_25 : decode cX0_tryRevert 25 = .ok (.invokestatic 82, 3) := by decide +kernel
theorem dX0_tryRevert_28 : decode cX0_tryRevert 28 = .ok (.ifCond .ne 6, 3) := by decide +kernel
theorem dX0_tryRevert_31 : decode cX0_tryRevert 31 = .ok (.bipush (-2), 2) := by decide +kernel
theorem dX0_tryRevert_33 : decode cX0_tryRevert 33 = .ok (.ireturn, 1) := by decide +kernel
theorem dX0_tryRevert_34 : decode cX0_tryRevert 34 = .ok (.aload_n 0, 1) := by decide +kernel
theorem dX0_tryRevert_35 : decode cX0_tryRevert 35 = .ok (.getfield 9, 3) := by decide +kernel
theorem dX0_tryRevert_38 : decode cX0_tryRevert 38 = .ok (.iload_n 2, 1) := by decide +kernel
theorem dX0_tryRevert_39 : decode cX0_tryRevert 39 = .ok (.invokevirtual 102, 3) := by decide +kernel
theorem dX0_tryRevert_42 : decode cX0_tryRevert 42 = .ok (.istore 4, 2) := by decide +kernel
theorem dX0_tryRevert_44 : decode cX0_tryRevert 44 = .ok (.iload 4, 2) := by decide +kernel
theorem dX0_tryRevert_46 : decode cX0_tryRevert 46 = .ok (.iconst (-1), 1) := by decide +kernel
theorem dX0_tryRevert_47 : decode cX0_tryRevert 47 = .ok (.if_icmp .ne 11, 3) := by decide +kernel
theorem dX0_tryRevert_50 : decode cX0_tryRevert 50 = .ok (.aload_n 0, 1) := by decide +kernel
theorem dX0_tryRevert_51 : decode cX0_tryRevert 51 = .ok (.bipush 6, 2) := by decide +kernel
theorem dX0_tryRevert_53 : decode cX0_tryRevert 53 = .ok (.iconst 0, 1) := by decide +kernel
theorem dX0_tryRevert_54 : decode cX0_tryRevert 54 = .ok (.invokevirtual 49, 3) := by decide +kernel
theorem dX0_tryRevert_57 : decode cX0_tryRevert 57 = .ok (.ireturn, 1) := by decide +kernel
theorem dX0_tryRevert_58 : decode cX0_tryRevert 58 = .ok (.aload_n 0, 1) := by decide +kernel
theorem dX0_tryRevert_59 : decode cX0_tryRevert 59 = .ok (.getfield 9, 3) := by decide +kernel
theorem dX0_tryRevert_62 : decode cX0_tryRevert 62 = .ok (.aload_n 0, 1) := by decide +kernel
theorem dX0_tryRevert_63 : decode cX0_tryRevert 63 = .ok (.getfield 9, 3) := by decide +kernel
theorem dX0_tryRevert_66 : decode cX0_tryRevert 66 = .ok (.iload_n 1, 1) := by decide +kernel
theorem dX0_tryRevert_67 : decode cX0_tryRevert 67 = .ok (.invokevirtual 41, 3) := by decide +kernel
theorem dX0_tryRevert_70 : decode cX0_tryRevert 70 = .ok (.iload_n 2, 1) := by decide +kernel
theorem dX0_tryRevert_71 : decode cX0_tryRevert 71 = .ok (.invokevirtual 85, 3) := by decide +kernel
theorem dX0_tryRevert_74 : decode cX0_tryRevert 74 = .ok (.ifCond .ne 11, 3) := by decide +kernel
theorem dX0_tryRevert_77 : decode cX0_tryRevert 77 = .ok (.aload_n 0, 1) := by decide +kernel
theorem dX0_tryRevert_78 : decode cX0_tryRevert 78 = .ok (.bipush 8, 2) := by decide +kernel
theorem dX0_tryRevert_80 : decode cX0_tryRevert 80 = .ok (.iload_n 2, 1) := by decide +kernel
theorem dX0_tryRevert_81 : decode cX0_tryRevert 81 = .ok (.invokevirtual 49, 3) := by decide +kernel
theorem dX0_tryRevert_84 : decode cX0_tryRevert 84 = .ok (.ireturn, 1) := by decide +kernel
theorem dX0_tryRevert_85 : decode cX0_tryRevert 85 = .ok (.aload_n 0, 1) := by decide +kernel
theorem dX0_tryRevert_86 : decode cX0_tryRevert 86 = .ok (.iload_n 1, 1) := by decide +kernel
theorem dX0_tryRevert_87 : decode cX0_tryRevert 87 = .ok (.iload 4, 2) := by decide +kernel
theorem dX0_tryRevert_89 : decode cX0_tryRevert 89 = .ok (.iload_n 2, 1) := by decide +kernel
theorem dX0_tryRevert_90 : decode cX0_tryRevert 90 = .ok (.iload_n 3, 1) := by decide +kernel
theorem dX0_tryRevert_91 : decode cX0_tryRevert 91 = .ok (.invokevirtual 105, 3) := by decide +kernel
theorem dX0_tryRevert_94 : decode cX0_tryRevert 94 = .ok (.ireturn, 1) := by decide +kernel
theorem dX0_tryBundle_0 : decode cX0_tryBundle 0 = .ok (.iload_n 1, 1) := by decide +kernel
theorem dX0_tryBundle_1 : decode cX0_tryBundle 1 = .ok (.ifCond .lt 8, 3) := by decide +kernel
theorem dX0_tryBundle_4 : decode cX0_tryBundle 4 = .ok (.iload_n 1, 1) := by decide +kernel
theorem dX0_tryBundle_5 : decode cX0_tryBundle 5 = .ok (.iconst 2, 1) := by decide +kernel
theorem dX0_tryBundle_6 : decode cX0_tryBundle 6 = .ok (.if_icmp .le 6, 3) := by decide +kernel
theorem dX0_tryBundle_9 : decode cX0_tryBundle 9 = .ok (.bipush (-2), 2) := by decide +kernel
theorem dX0_tryBundle_11 : decode cX0_tryBundle 11 = .ok (.ireturn, 1) := by decide +kernel
theorem dX0_tryBundle_12 : decode cX0_tryBundle 12 = .ok (.aload_n 0, 1) := by decide +kernel
theorem dX0_tryBundle_13 : decode cX0_tryBundle 13 = .ok (.getfield 9, 3) := by decide +kernel
theorem dX0_tryBundle_16 : decode cX0_tryBundle 16 = .ok (.invokevirtual 109, 3) := by decide +kernel
theorem dX0_tryBundle_19 : decode cX0_tryBundle 19 = .ok (.istore_n 2, 1) := by decide +kernel
theorem dX0_tryBundle_20 : decode cX0_tryBundle 20 = .ok (.aload_n 0, 1) := by decide +kernel
theorem dX0_tryBundle_21 : decode cX0_tryBundle 21 = .ok (.getfield 9, 3) := by decide +kernel
theorem dX0_tryBundle_24 : decode cX0_tryBundle 24 = .ok (.iload_n 1, 1) := by decide +kernel
theorem dX0_tryBundle_25 : decode cX0_tryBundle 25 = .ok (.invokevirtual 112, 3) := by decide +kernel
theorem dX0_tryBundle_28 : decode cX0_tryBundle 28 = .ok (.iload_n 2, 1) := by decide +kernel
theorem dX0_tryBundle_29 : decode cX0_tryBundle 29 = .ok (.ireturn, 1) := by decide +kernel
theorem dX0_tryPut_0 : decode cX0_tryPut 0 = .ok (.iload_n 1, 1) := by decide +kernel
theorem dX0_tryPut_1 : decode cX0_tryPut 1 = .ok (.invokestatic 116, 3) := by decide +kernel
theorem dX0_tryPut_4 : decode cX0_tryPut 4 = .ok (.ifCond .eq 14, 3) := by decide +kernel
theorem dX0_tryPut_7 : decode cX0_tryPut 7 = .ok (.aload_n 0, 1) := by decide +kernel
theorem dX0_tryPut_8 : decode cX0_tryPut 8 = .ok (.getfield 9, 3) := by decide +kernel
theorem dX0_tryPut_11 : decode cX0_tryPut 11 = .ok (.iload_n 2, 1) := by decide +kernel
theorem dX0_tryPut_12 : decode cX0_tryPut 12 = .ok (.invokevirtual 75, 3) := by decide +kernel
theorem dX0_tryPut_15 : decode cX0_tryPut 15 = .ok (.ifCond .ne 5, 3) := by decide +kernel
theorem dX0_tryPut_18 : decode cX0_tryPut 18 = .ok (.iconst (-1), 1) := by decide +kernel
theorem dX0_tryPut_19 : decode cX0_tryPut 19 = .ok (.ireturn, 1) := by decide +kernel
theorem dX0_tryPut_20 : decode cX0_tryPut 20 = .ok (.aload_n 0, 1) := by decide +kernel
theorem dX0_tryPut_21 : decode cX0_tryPut 21 = .ok (.getfield 9, 3) := by decide +kernel
theorem dX0_tryPut_24 : decode cX0_tryPut 24 = .ok (.invokevirtual 119, 3) := by decide +kernel
theorem dX0_tryPut_27 : decode cX0_tryPut 27 = .ok (.istore_n 3, 1) := by decide +kernel
theorem dX0_tryPut_28 : decode cX0_tryPut 28 = .ok (.iload_n 3, 1) := by decide +kernel
theorem dX0_tryPut_29 : decode cX0_tryPut 29 = .ok (.iconst (-1), 1) := by decide +kernel
theorem dX0_tryPut_30 : decode cX0_tryPut 30 = .ok (.if_icmp .eq 15, 3) := by decide +kernel
theorem dX0_tryPut_33 : decode cX0_tryPut 33 = .ok (.iload_n 3, 1) := by decide +kernel
theorem dX0_tryPut_34 : decode cX0_tryPut 34 = .ok (.aload_n 0, 1) := by decide +kernel
theorem dX0_tryPut_35 : decode cX0_tryPut 35 = .ok (.getfield 9, 3) := by decide +kernel
theorem dX0_tryPut_38 : decode cX0_tryPut 38 = .ok (.iload_n 2, 1) := by decide +kernel
theorem dX0_tryPut_39 : decode cX0_tryPut 39 = .ok (.invokevirtual 122, 3) := by decide +kernel
theorem dX0_tryPut_42 : decode cX0_tryPut 42 = .ok (.if_icmp .eq 11, 3) := by decide +kernel
theorem dX0_tryPut_45 : decode cX0_tryPut 45 = .ok (.aload_n 0, 1) := by decide +kernel
theorem dX0_tryPut_46 : decode cX0_tryPut 46 = .ok (.bipush 9, 2) := by decide +kernel
theorem dX0_tryPut_48 : decode cX0_tryPut 48 = .ok (.iload_n 3, 1) := by decide +kernel
theorem dX0_tryPut_49 : decode cX0_tryPut 49 = .ok (.invokevirtual 49, 3) := by decide +kernel
theorem dX0_tryPut_52 : decode cX0_tryPut 52 = .ok (.ireturn, 1) := by decide +kernel
theorem dX0_tryPut_53 : decode cX0_tryPut 53 = .ok (.aload_n 0, 1) := by decide +kernel
theorem dX0_tryPut_54 : decode cX0_tryPut 54 = .ok (.getfield 9, 3) := by decide +kernel
theorem dX0_tryPut_57 : decode cX0_tryPut 57 = .ok (.iload_n 2, 1) := by decide +kernel
theorem dX0_tryPut_58 : decode cX0_tryPut 58 = .ok (.invokevirtual 125, 3) := by decide +kernel
theorem dX0_tryPut_61 : decode cX0_tryPut 61 = .ok (.istore 4, 2) := by decide +kernel
theorem dX0_tryPut_63 : decode cX0_tryPut 63 = .ok (.iload 4, 2) := by decide +kernel
theorem dX0_tryPut_65 : decode cX0_tryPut 65 = .ok (.iconst (-1), 1) := by decide +kernel
theorem dX0_tryPut_66 : decode cX0_tryPut 66 = .ok (.if_icmp .eq 12, 3) := by decide +kernel
theorem dX0_tryPut_69 : decode cX0_tryPut 69 = .ok (.aload_n 0, 1) := by decide +kernel
theorem dX0_tryPut_70 : decode cX0_tryPut 70 = .ok (.bipush 10, 2) := by decide +kernel
theorem dX0_tryPut_72 : decode cX0_tryPut 72 = .ok (.iload 4, 2) := by decide +kernel
theorem dX0_tryPut_74 : decode cX0_tryPut 74 = .ok (.invokevirtual 49, 3) := by decide +kernel
theorem dX0_tryPut_77 : decode cX0_tryPut 77 = .ok (.ireturn, 1) := by decide +kernel
theorem dX0_tryPut_78 : decode cX0_tryPut 78 = .ok (.aload_n 0, 1) := by decide +kernel
theorem dX0_tryPut_79 : decode cX0_tryPut 79 = .ok (.getfield 9, 3) := by decide +kernel
theorem dX0_tryPut_82 : decode cX0_tryPut 82 = .ok (.iload_n 1, 1) := by decide +kernel
theorem dX0_tryPut_83 : decode cX0_tryPut 83 = .ok (.iload_n 2, 1) := by decide +kernel
theorem dX0_tryPut_84 : decode cX0_tryPut 84 = .ok (.invokevirtual 128, 3) := by decide +kernel
theorem dX0_tryPut_87 : decode cX0_tryPut 87 = .ok (.aload_n 0, 1) := by decide +kernel
theorem dX0_tryPut_88 : decode cX0_tryPut 88 = .ok (.getfield 9, 3) := by decide +kernel
theorem dX0_tryPut_91 : decode cX0_tryPut 91 = .ok (.invokevirtual 109, 3) := by decide +kernel
theorem dX0_tryPut_94 : decode cX0_tryPut 94 = .ok (.ireturn, 1) := by decide +kernel
theorem dX0_tryPlay_0 : decode cX0_tryPlay 0 = .ok (.aload_n 0, 1) := by decide +kernel
theorem dX0_tryPlay_1 : decode cX0_tryPlay 1 = .ok (.getfield 9, 3) := by decide +kernel
theorem dX0_tryPlay_4 : decode cX0_tryPlay 4 = .ok (.iload_n 1, 1) := by decide +kernel
theorem dX0_tryPlay_5 : decode cX0_tryPlay 5 = .ok (.invokevirtual 29, 3) := by decide +kernel
theorem dX0_tryPlay_8 : decode cX0_tryPlay 8 = .ok (.ifCond .ne 5, 3) := by decide +kernel
theorem dX0_tryPlay_11 : decode cX0_tryPlay 11 = .ok (.iconst (-1), 1) := by decide +kernel
theorem dX0_tryPlay_12 : decode cX0_tryPlay 12 = .ok (.ireturn, 1) := by decide +kernel
theorem dX0_tryPlay_13 : decode cX0_tryPlay 13 = .ok (.iload_n 2, 1) := by decide +kernel
theorem dX0_tryPlay_14 : decode cX0_tryPlay 14 = .ok (.invokestatic 82, 3) := by decide +kernel
theorem dX0_tryPlay_17 : decode cX0_tryPlay 17 = .ok (.ifCond .ne 6, 3) := by decide +kernel
theorem dX0_tryPlay_20 : decode cX0_tryPlay 20 = .ok (.bipush (-2), 2) := by decide +kernel
theorem dX0_tryPlay_22 : decode cX0_tryPlay 22 = .ok (.ireturn, 1) := by decide +kernel
theorem dX0_tryPlay_23 : decode cX0_tryPlay 23 = .ok (.aload_n 0, 1) := by decide +kernel
theorem dX0_tryPlay_24 : decode cX0_tryPlay 24 = .ok (.getfield 9, 3) := by decide +kernel
theorem dX0_tryPlay_27 : decode cX0_tryPlay 27 = .ok (.invokevirtual 109, 3) := by decide +kernel
theorem dX0_tryPlay_30 : decode cX0_tryPlay 30 = .ok (.ifCond .ne 17, 3) := by decide +kernel
theorem dX0_tryPlay_33 : decode cX0_tryPlay 33 = .ok (.aload_n 0, 1) := by decide +kernel
theorem dX0_tryPlay_34 : decode cX0_tryPlay 34 = .ok (.bipush 11, 2) := by decide +kernel
theorem dX0_tryPlay_36 : decode cX0_tryPlay 36 = .ok (.aload_n 0, 1) := by decide +kernel
theorem dX0_tryPlay_37 : decode cX0_tryPlay 37 = .ok (.getfield 9, 3) := by decide +kernel
theorem dX0_tryPlay_40 : decode cX0_tryPlay 40 = .ok (.invokevirtual 119, 3) := by decide +kernel
theorem dX0_tryPlay_43 : decode cX0_tryPlay 43 = .ok (.invokevirtual 49, 3) := by decide +kernel
theorem dX0_tryPlay_46 : decode cX0_tryPlay 46 = .ok (.ireturn, 1) := by decide +kernel
theorem dX0_tryPlay_47 : decode cX0_tryPlay 47 = .ok (.iconst 0, 1) := by decide +kernel
theorem dX0_tryPlay_48 : decode cX0_tryPlay 48 = .ok (.istore_n 3, 1) := by decide +kernel
theorem dX0_tryPlay_49 : decode cX0_tryPlay 49 = .ok (.iconst 0, 1) := by decide +kernel
theorem dX0_tryPlay_50 : decode cX0_tryPlay 50 = .ok (.istore 4, 2) := by decide +kernel
theorem dX0_tryPlay_52 : decode cX0_tryPlay 52 = .ok (.iload 4, 2) := by decide +kernel
theorem dX0_tryPlay_54 : decode cX0_tryPlay 54 = .ok (.iconst 4, 1) := by decide +kernel
theorem dX0_tryPlay_55 : decode cX0_tryPlay 55 = .ok (.if_icmp .ge 47, 3) := by decide +kernel
theorem dX0_tryPlay_58 : decode cX0_tryPlay 58 = .ok (.aload_n 0, 1) := by decide +kernel
theorem dX0_tryPlay_59 : decode cX0_tryPlay 59 = .ok (.getfield 9, 3) := by decide +kernel
theorem dX0_tryPlay_62 : decode cX0_tryPlay 62 = .ok (.iload 4, 2) := by decide +kernel
theorem dX0_tryPlay_64 : decode cX0_tryPlay 64 = .ok (.invokevirtual 131, 3) := by decide +kernel
theorem dX0_tryPlay_67 : decode cX0_tryPlay 67 = .ok (.istore 5, 2) := by decide +kernel
theorem dX0_tryPlay_69 : decode cX0_tryPlay 69 = .ok (.iload 5, 2) := by decide +kernel
theorem dX0_tryPlay_71 : decode cX0_tryPlay 71 = .ok (.iconst (-1), 1) := by decide +kernel
theorem dX0_tryPlay_72 : decode cX0_tryPlay 72 = .ok (.if_icmp .eq 24, 3) := by decide +kernel
theorem dX0_tryPlay_75 : decode cX0_tryPlay 75 = .ok (.aload_n 0, 1) := by decide +kernel
theorem dX0_tryPlay_76 : decode cX0_tryPlay 76 = .ok (.iload_n 1, 1) := by decide +kernel
theorem dX0_tryPlay_77 : decode cX0_tryPlay 77 = .ok (.iload 5, 2) := by decide +kernel
theorem dX0_tryPlay_79 : decode cX0_tryPlay 79 = .ok (.iload_n 2, 1) := by decide +kernel
theorem dX0_tryPlay_80 : decode cX0_tryPlay 80 = .ok (.invokevirtual 134, 3) := by decide +kernel
theorem dX0_tryPlay_83 : decode cX0_tryPlay 83 = .ok (.istore 6, 2) := by decide +kernel
theorem dX0_tryPlay_85 : decode cX0_tryPlay 85 = .ok (.iload 6, 2) := by decide +kernel
theorem dX0_tryPlay_87 : decode cX0_tryPlay 87 = .ok (.ifCond .ge 6, 3) := by decide +kernel
theorem dX0_tryPlay_90 : decode cX0_tryPlay 90 = .ok (.iload 6, 2) := by decide +kernel
theorem dX0_tryPlay_92 : decode cX0_tryPlay 92 = .ok (.ireturn, 1) := by decide +kernel
theorem dX0_tryPlay_93 : decode cX0_tryPlay 93 = .ok (.iinc 3 1, 3) := by decide +kernel
theorem dX0_tryPlay_96 : decode cX0_tryPlay 96 = .ok (.iinc 4 1, 3) := by decide +kernel
theorem dX0_tryPlay_99 : decode cX0_tryPlay 99 = .ok (.goto (-47), 3) := by decide +kernel
theorem dX0_tryPlay_102 : decode cX0_tryPlay 102 = .ok (.iload_n 3, 1) := by decide +kernel
theorem dX0_tryPlay_103 : decode cX0_tryPlay 103 = .ok (.ireturn, 1) := by decide +kernel
theorem dX0_conflictsBetween_0 : decode cX0_conflictsBetween 0 = .ok (.aload_n 0, 1) := by decide +kernel
theorem dX0_conflictsBetween_1 : decode cX0_conflictsBetween 1 = .ok (.getfield 18, 3) := by decide +kernel
theorem dX0_conflictsBetween_4 : decode cX0_conflictsBetween 4 = .ok (.aload_n 0, 1) := by decide +kernel
theorem dX0_conflictsBetween_5 : decode cX0_conflictsBetween 5 = .ok (.getfield 9, 3) := by decide +kernel
theorem dX0_conflictsBetween_8 : decode cX0_conflictsBetween 8 = .ok (.iload_n 1, 1) := by decide +kernel
theorem dX0_conflictsBetween_9 : decode cX0_conflictsBetween 9 = .ok (.iload_n 2, 1) := by decide +kernel
theorem dX0_conflictsBetween_10 : decode cX0_conflictsBetween 10 = .ok (.aload_n 0, 1) := by decide +kernel
theorem dX0_conflictsBetween_11 : decode cX0_conflictsBetween 11 = .ok (.getfield 9, 3) := by decide +kernel
theorem dX0_conflictsBetween_14 : decode cX0_conflictsBetween 14 = .ok (.iload_n 1, 1) := by decide +kernel
theorem dX0_conflictsBetween_15 : decode cX0_conflictsBetween 15 = .ok (.iload_n 2, 1) := by decide +kernel
theorem dX0_conflictsBetween_16 : decode cX0_conflictsBetween 16 = .ok (.invokevirtual 89, 3) := by decide +kernel
theorem dX0_conflictsBetween_19 : decode cX0_conflictsBetween 19 = .ok (.iconst 0, 1) := by decide +kernel
theorem dX0_conflictsBetween_20 : decode cX0_conflictsBetween 20 = .ok (.invokevirtual 92, 3) := by decide +kernel
theorem dX0_conflictsBetween_23 : decode cX0_conflictsBetween 23 = .ok (.aload_n 0, 1) := by decide +kernel
theorem dX0_conflictsBetween_24 : decode cX0_conflictsBetween 24 = .ok (.getfield 18, 3) := by decide +kernel
theorem dX0_conflictsBetween_27 : decode cX0_conflictsBetween 27 = .ok (.invokevirtual 138, 3) := by decide +kernel
theorem dX0_conflictsBetween_30 : decode cX0_conflictsBetween 30 = .ok (.ireturn, 1) := by decide +kernel
theorem dX0_pickChange_0 : decode cX0_pickChange 0 = .ok (.aload_n 0, 1) := by decide +kernel
theorem dX0_pickChange_1 : decode cX0_pickChange 1 = .ok (.getfield 9, 3) := by decide +kernel
theorem dX0_pickChange_4 : decode cX0_pickChange 4 = .ok (.iload_n 1, 1) := by decide +kernel
theorem dX0_pickChange_5 : decode cX0_pickChange 5 = .ok (.invokevirtual 41, 3) := by decide +kernel
theorem dX0_pickChange_8 : decode cX0_pickChange 8 = .ok (.istore 5, 2) := by decide +kernel
theorem dX0_pickChange_10 : decode cX0_pickChange 10 = .ok (.aload_n 0, 1) := by decide +kernel
theorem dX0_pickChange_11 : decode cX0_pickChange 11 = .ok (.getfield 18, 3) := by decide +kernel
theorem dX0_pickChange_14 : decode cX0_pickChange 14 = .ok (.aload_n 0, 1) := by decide +kernel
theorem dX0_pickChange_15 : decode cX0_pickChange 15 = .ok (.getfield 9, 3) := by decide +kernel
theorem dX0_pickChange_18 : decode cX0_pickChange 18 = .ok (.iload 5, 2) := by decide +kernel
theorem dX0_pickChange_20 : decode cX0_pickChange 20 = .ok (.iload_n 2, 1) := by decide +kernel
theorem dX0_pickChange_21 : decode cX0_pickChange 21 = .ok (.iload_n 3, 1) := by decide +kernel
theorem dX0_pickChange_22 : decode cX0_pickChange 22 = .ok (.iload 4, 2) := by decide +kernel
theorem dX0_pickChange_24 : decode cX0_pickChange 24 = .ok (.invokevirtual 92, 3) := by decide +kernel
theorem dX0_pickChange_27 : decode cX0_pickChange 27 = .ok (.aload_n 0, 1) := by decide +kernel
theorem dX0_pickChange_28 : decode cX0_pickChange 28 = .ok (.iload 4, 2) := by decide +kernel
theorem dX0_pickChange_30 : decode cX0_pickChange 30 = .ok (.invokevirtual 96, 3) := by decide +kernel
theorem dX0_pickChange_33 : decode cX0_pickChange 33 = .ok (.ifCond .eq 16, 3) := by decide +kernel
theorem dX0_pickChange_36 : decode cX0_pickChange 36 = .ok (.aload_n 0, 1) := by decide +kernel
theorem dX0_pickChange_37 : decode cX0_pickChange 37 = .ok (.iconst 5, 1) := by decide +kernel
theorem dX0_pickChange_38 : decode cX0_pickChange 38 = .ok (.aload_n 0, 1) := by decide +kernel
theorem dX0_pickChange_39 : decode cX0_pickChange 39 = .ok (.getfield 18, 3) := by decide +kernel
theorem dX0_pickChange_42 : decode cX0_pickChange 42 = .ok (.invokevirtual 99, 3) := by decide +kernel
theorem dX0_pickChange_45 : decode cX0_pickChange 45 = .ok (.invokevirtual 49, 3) := by decide +kernel
theorem dX0_pickChange_48 : decode cX0_pickChange 48 = .ok (.ireturn, 1) := by decide +kernel
theorem dX0_pickChange_49 : decode cX0_pickChange 49 = .ok (.aload_n 0, 1) := by decide +kernel
theorem dX0_pickChange_50 : decode cX0_pickChange 50 = .ok (.getfield 18, 3) := by decide +kernel
theorem dX0_pickChange_53 : decode cX0_pickChange 53 = .ok (.aload_n 0, 1) := by decide +kernel
theorem dX0_pickChange_54 : decode cX0_pickChange 54 = .ok (.getfield 9, 3) := by decide +kernel
theorem dX0_pickChange_57 : decode cX0_pickChange 57 = .ok (.iload 5, 2) := by decide +kernel
theorem dX0_pickChange_59 : decode cX0_pickChange 59 = .ok (.invokevirtual 141, 3) := by decide +kernel
theorem dX0_pickChange_62 : decode cX0_pickChange 62 = .ok (.ifCond .eq 12, 3) := by decide +kernel
theorem dX0_pickChange_65 : decode cX0_pickChange 65 = .ok (.aload_n 0, 1) := by decide +kernel
theorem dX0_pickChange_66 : decode cX0_pickChange 66 = .ok (.bipush 7, 2) := by decide +kernel
theorem dX0_pickChange_68 : decode cX0_pickChange 68 = .ok (.iload 5, 2) := by decide +kernel
theorem dX0_pickChange_70 : decode cX0_pickChange 70 = .ok (.invokevirtual 49, 3) := by decide +kernel
theorem dX0_pickChange_73 : decode cX0_pickChange 73 = .ok (.ireturn, 1) := by decide +kernel
theorem dX0_pickChange_74 : decode cX0_pickChange 74 = .ok (.aload_n 0, 1) := by decide +kernel
theorem dX0_pickChange_75 : decode cX0_pickChange 75 = .ok (.getfield 9, 3) := by decide +kernel
theorem dX0_pickChange_78 : decode cX0_pickChange 78 = .ok (.invokevirtual 52, 3) := by decide +kernel
theorem dX0_pickChange_81 : decode cX0_pickChange 81 = .ok (.ifCond .eq 11, 3) := by decide +kernel
theorem dX0_pickChange_84 : decode cX0_pickChange 84 = .ok (.aload_n 0, 1) := by decide +kernel
theorem dX0_pickChange_85 : decode cX0_pickChange 85 = .ok (.iconst 1, 1) := by decide +kernel
theorem dX0_pickChange_86 : decode cX0_pickChange 86 = .ok (.bipush 24, 2) := by decide +kernel
theorem dX0_pickChange_88 : decode cX0_pickChange 88 = .ok (.invokevirtual 49, 3) := by decide +kernel
theorem dX0_pickChange_91 : decode cX0_pickChange 91 = .ok (.ireturn, 1) := by decide +kernel
theorem dX0_pickChange_92 : decode cX0_pickChange 92 = .ok (.aload_n 0, 1) := by decide +kernel
theorem dX0_pickChange_93 : decode cX0_pickChange 93 = .ok (.getfield 9, 3) := by decide +kernel
theorem dX0_pickChange_96 : decode cX0_pickChange 96 = .ok (.iload_n 1, 1) := by decide +kernel
theorem dX0_pickChange_97 : decode cX0_pickChange 97 = .ok (.iconst 2, 1) := by decide +kernel
theorem dX0_pickChange_98 : decode cX0_pickChange 98 = .ok (.iconst (-1), 1) := by decide +kernel
theorem dX0_pickChange_99 : decode cX0_pickChange 99 = .ok (.aload_n 0, 1) := by decide +kernel
theorem dX0_pickChange_100 : decode cX0_pickChange 100 = .ok (.getfield 18, 3) := by decide +kernel
theorem dX0_pickChange_103 : decode cX0_pickChange 103 = .ok (.invokevirtual 60, 3) := by decide +kernel
theorem dX0_pickChange_106 : decode cX0_pickChange 106 = .ok (.invokevirtual 64, 3) := by decide +kernel
theorem dX0_pickChange_109 : decode cX0_pickChange 109 = .ok (.ireturn, 1) := by decide +kernel
theorem dX0_isStopped_0 : decode cX0_isStopped 0 = .ok (.iload_n 1, 1) := by decide +kernel
theorem dX0_isStopped_1 : decode cX0_isStopped 1 = .ok (.ifCond .ne 17, 3) := by decide +kernel
theorem dX0_isStopped_4 : decode cX0_isStopped 4 = .ok (.aload_n 0, 1) := by decide +kernel
theorem dX0_isStopped_5 : decode cX0_isStopped 5 = .ok (.getfield 18, 3) := by decide +kernel
theorem dX0_isStopped_8 : decode cX0_isStopped 8 = .ok (.invokevirtual 138, 3) := by decide +kernel
theorem dX0_isStopped_11 : decode cX0_isStopped 11 = .ok (.ifCond .le 7, 3) := by decide +kernel
theorem dX0_isStopped_14 : decode cX0_isStopped 14 = .ok (.iconst 1, 1) := by decide +kernel
theorem dX0_isStopped_15 : decode cX0_isStopped 15 = .ok (.goto 4, 3) := by decide +kernel
theorem dX0_isStopped_18 : decode cX0_isStopped 18 = .ok (.iconst 0, 1) := by decide +kernel
theorem dX0_isStopped_19 : decode cX0_isStopped 19 = .ok (.ireturn, 1) := by decide +kernel
theorem dX0_refuse_0 : decode cX0_refuse 0 = .ok (.aload_n 0, 1) := by decide +kernel
theorem dX0_refuse_1 : decode cX0_refuse 1 = .ok (.iload_n 1, 1) := by decide +kernel
theorem dX0_refuse_2 : decode cX0_refuse 2 = .ok (.putfield 22, 3) := by decide +kernel
theorem dX0_refuse_5 : decode cX0_refuse 5 = .ok (.aload_n 0, 1) := by decide +kernel
theorem dX0_refuse_6 : decode cX0_refuse 6 = .ok (.iload_n 2, 1) := by decide +kernel
theorem dX0_refuse_7 : decode cX0_refuse 7 = .ok (.putfield 26, 3) := by decide +kernel
theorem dX0_refuse_10 : decode cX0_refuse 10 = .ok (.bipush (-3), 2) := by decide +kernel
theorem dX0_refuse_12 : decode cX0_refuse 12 = .ok (.ireturn, 1) := by decide +kernel
theorem dX1_init_0 : decode cX1_init 0 = .ok (.aload_n 0, 1) := by decide +kernel
theorem dX1_init_1 : decode cX1_init 1 = .ok (.invokespecial 3, 3) := by decide +kernel
theorem dX1_init_4 : decode cX1_init 4 = .ok (.aload_n 0, 1) := by decide +kernel
theorem dX1_init_5 : decode cX1_init 5 = .ok (.bipush 24, 2) := by decide +kernel
theorem dX1_init_7 : decode cX1_init 7 = .ok (.newarray .int, 2) := by decide +kernel
theorem dX1_init_9 : decode cX1_init 9 = .ok (.putfield 9, 3) := by decide +kernel
theorem dX1_init_12 : decode cX1_init 12 = .ok (.aload_n 0, 1) := by decide +kernel
theorem dX1_init_13 : decode cX1_init 13 = .ok (.bipush 24, 2) := by decide +kernel
theorem dX1_init_15 : decode cX1_init 15 = .ok (.newarray .int, 2) := by decide +kernel
theorem dX1_init_17 : decode cX1_init 17 = .ok (.putfield 15, 3) := by decide +kernel
theorem dX1_init_20 : decode cX1_init 20 = .ok (.aload_n 0, 1) := by decide +kernel
theorem dX1_init_21 : decode cX1_init 21 = .ok (.bipush 24, 2) := by decide +kernel
theorem dX1_init_23 : decode cX1_init 23 = .ok (.newarray .int, 2) := by decide +kernel
theorem dX1_init_25 : decode cX1_init 25 = .ok (.putfield 18, 3) := by decide +kernel
theorem dX1_init_28 : decode cX1_init 28 = .ok (.aload_n 0, 1) := by decide +kernel
theorem dX1_init_29 : decode cX1_init 29 = .ok (.bipush 24, 2) := by decide +kernel
theorem dX1_init_31 : decode cX1_init 31 = .ok (.newarray .int, 2) := by decide +kernel
theorem dX1_init_33 : decode cX1_init 33 = .ok (.putfield 21, 3) := by decide +kernel
theorem dX1_init_36 : decode cX1_init 36 = .ok (.aload_n 0, 1) := by decide +kernel
theorem dX1_init_37 : decode cX1_init 37 = .ok (.bipush 24, 2) := by decide +kernel
theorem dX1_init_39 : decode cX1_init 39 = .ok (.newarray .int, 2) := by decide +kernel
theorem dX1_init_41 : decode cX1_init 41 = .ok (.putfield 24, 3) := by decide +kernel
theorem dX1_init_44 : decode cX1_init 44 = .ok (.aload_n 0, 1) := by decide +kernel
theorem dX1_init_45 : decode cX1_init 45 = .ok (.sipush 144, 3) := by decide +kernel
theorem dX1_init_48 : decode cX1_init 48 = .ok (.newarray .int, 2) := by decide +kernel
theorem dX1_init_50 : decode cX1_init 50 = .ok (.putfield 27, 3) := by decide +kernel
theorem dX1_init_53 : decode cX1_init 53 = .ok (.aload_n 0, 1) := by decide +kernel
theorem dX1_init_54 : decode cX1_init 54 = .ok (.iconst 5, 1) := by decide +kernel
theorem dX1_init_55 : decode cX1_init 55 = .ok (.newarray .int, 2) := by decide +kernel
theorem dX1_init_57 : decode cX1_init 57 = .ok (.putfield 30, 3) := by decide +kernel
theorem dX1_init_60 : decode cX1_init 60 = .ok (.aload_n 0, 1) := by decide +kernel
theorem dX1_init_61 : decode cX1_init 61 = .ok (.iconst 4, 1) := by decide +kernel
theorem dX1_init_62 : decode cX1_init 62 = .ok (.newarray .int, 2) := by decide +kernel
theorem dX1_init_64 : decode cX1_init 64 = .ok (.putfield 33, 3) := by decide +kernel
theorem dX1_init_67 : decode cX1_init 67 = .ok (.iconst 0, 1) := by decide +kernel
theorem dX1_init_68 : decode cX1_init 68 = .ok (.istore_n 1, 1) := by decide +kernel
theorem dX1_init_69 : decode cX1_init 69 = .ok (.iload_n 1, 1) := by decide +kernel
theorem dX1_init_70 : decode cX1_init 70 = .ok (.iconst 4, 1) := by decide +kernel
theorem dX1_init_71 : decode cX1_init 71 = .ok (.if_icmp .ge 16, 3) := by decide +kernel
theorem dX1_init_74 : decode cX1_init 74 = .ok (.aload_n 0, 1) := by decide +kernel
theorem dX1_init_75 : decode cX1_init 75 = .ok (.getfield 33, 3) := by decide +kernel
theorem dX1_init_78 : decode cX1_init 78 = .ok (.iload_n 1, 1) := by decide +kernel
theorem dX1_init_79 : decode cX1_init 79 = .ok (.iconst (-1), 1) := by decide +kernel
theorem dX1_init_80 : decode cX1_init 80 = .ok (.iastore, 1) := by decide +kernel
theorem dX1_init_81 : decode cX1_init 81 = .ok (.iinc 1 1, 3) := by decide +kernel
theorem dX1_init_84 : decode cX1_init 84 = .ok (.goto (-15), 3) := by decide +kernel
theorem dX1_init_87 : decode cX1_init 87 = .ok (.aload_n 0, 1) := by decide +kernel
theorem dX1_init_88 : decode cX1_init 88 = .ok (.getfield 15, 3) := by decide +kernel
theorem dX1_init_91 : decode cX1_init 91 = .ok (.iconst 0, 1) := by decide +kernel
theorem dX1_init_92 : decode cX1_init 92 = .ok (.iconst (-1), 1) := by decide +kernel
theorem dX1_init_93 : decode cX1_init 93 = .ok (.iastore, 1) := by decide +kernel
theorem dX1_init_94 : decode cX1_init 94 = .ok (.aload_n 0, 1) := by decide +kernel
theorem dX1_init_95 : decode cX1_init 95 = .ok (.getfield 18, 3) := by decide +kernel
theorem dX1_init_98 : decode cX1_init 98 = .ok (.iconst 0, 1) := by decide +kernel
theorem dX1_init_99 : decode cX1_init 99 = .ok (.iconst (-1), 1) := by decide +kernel
theorem dX1_init_100 : decode cX1_init 100 = .ok (.iastore, 1) := by decide +kernel
theorem dX1_init_101 : decode cX1_init 101 = .ok (.aload_n 0, 1) := by decide +kernel
theorem dX1_init_102 : decode cX1_init 102 = .ok (.getfield 21, 3) := by decide +kernel
theorem dX1_init_105 : decode cX1_init 105 = .ok (.iconst 0, 1) := by decide +kernel
theorem dX1_init_106 : decode cX1_init 106 = .ok (.iconst 1, 1) := by decide +kernel
theorem dX1_init_107 : decode cX1_init 107 = .ok (.iastore, 1) := by decide +kernel
theorem dX1_init_108 : decode cX1_init 108 = .ok (.aload_n 0, 1) := by decide +kernel
theorem dX1_init_109 : decode cX1_init 109 = .ok (.iconst 1, 1) := by decide +kernel
theorem dX1_init_110 : decode cX1_init 110 = .ok (.putfield 36, 3) := by decide +kernel
theorem dX1_init_113 : decode cX1_init 113 = .ok (.aload_n 0, 1) := by decide +kernel
theorem dX1_init_114 : decode cX1_init 114 = .ok (.iconst 1, 1) := by decide +kernel
theorem dX1_init_115 : decode cX1_init 115 = .ok (.putfield 40, 3) := by decide +kernel
theorem dX1_init_118 : decode cX1_init 118 = .ok (.aload_n 0, 1) := by decide +kernel
theorem dX1_init_119 : decode cX1_init 119 = .ok (.iconst (-1), 1) := by decide +kernel
theorem dX1_init_120 : decode cX1_init 120 = .ok (.putfield 43, 3) := by decide +kernel
theorem dX1_init_123 : decode cX1_init 123 = .ok (.return_, 1) := by decide +kernel
theorem dX1_become_0 : decode cX1_become 0 = .ok (.aload_n 1, 1) := by decide +kernel
theorem dX1_become_1 : decode cX1_become 1 = .ok (.getfield 9, 3) := by decide +kernel
theorem dX1_become_4 : decode cX1_become 4 = .ok (.iconst 0, 1) := by decide +kernel
theorem dX1_become_5 : decode cX1_become 5 = .ok (.aload_n 0, 1) := by decide +kernel
theorem dX1_become_6 : decode cX1_become 6 = .ok (.getfield 9, 3) := by decide +kernel
theorem dX1_become_9 : decode cX1_become 9 = .ok (.iconst 0, 1) := by decide +kernel
theorem dX1_become_10 : decode cX1_become 10 = .ok (.bipush 24, 2) := by decide +kernel
theorem dX1_become_12 : decode cX1_become 12 = .ok (.invokestatic 46, 3) := by decide +kernel
theorem dX1_become_15 : decode cX1_become 15 = .ok (.aload_n 1, 1) := by decide +kernel
theorem dX1_become_16 : decode cX1_become 16 = .ok (.getfield 15, 3) := by decide +kernel
theorem dX1_become_19 : decode cX1_become 19 = .ok (.iconst 0, 1) := by decide +kernel
theorem dX1_become_20 : decode cX1_become 20 = .ok (.aload_n 0, 1) := by decide +kernel
theorem dX1_become_21 : decode cX1_become 21 = .ok (.getfield 15, 3) := by decide +kernel
theorem dX1_become_24 : decode cX1_become 24 = .ok (.iconst 0, 1) := by decide +kernel
theorem dX1_become_25 : decode cX1_become 25 = .ok (.bipush 24, 2) := by decide +kernel
theorem dX1_become_27 : decode cX1_become 27 = .ok (.invokestatic 46, 3) := by decide +kernel
theorem dX1_become_30 : decode cX1_become 30 = .ok (.aload_n 1, 1) := by decide +kernel
theorem dX1_become_31 : decode cX1_become 31 = .ok (.getfield 18, 3) := by decide +kernel
theorem dX1_become_34 : decode cX1_become 34 = .ok (.iconst 0, 1) := by decide +kernel
theorem dX1_become_35 : decode cX1_become 35 = .ok (.aload_n 0, 1) := by decide +kernel
theorem dX1_become_36 : decode cX1_become 36 = .ok (.getfield 18, 3) := by decide +kernel
theorem dX1_become_39 : decode cX1_become 39 = .ok (.iconst 0, 1) := by decide +kernel
theorem dX1_become_40 : decode cX1_become 40 = .ok (.bipush 24, 2) := by decide +kernel
theorem dX1_become_42 : decode cX1_become 42 = .ok (.invokestatic 46, 3) := by decide +kernel
theorem dX1_become_45 : decode cX1_become 45 = .ok (.aload_n 1, 1) := by decide +kernel
theorem dX1_become_46 : decode cX1_become 46 = .ok (.getfield 21, 3) := by decide +kernel
theorem dX1_become_49 : decode cX1_become 49 = .ok (.iconst 0, 1) := by decide +kernel
theorem dX1_become_50 : decode cX1_become 50 = .ok (.aload_n 0, 1) := by decide +kernel
theorem dX1_become_51 : decode cX1_become 51 = .ok (.getfield 21, 3) := by decide +kernel
theorem dX1_become_54 : decode cX1_become 54 = .ok (.iconst 0, 1) := by decide +kernel
theorem dX1_become_55 : decode cX1_become 55 = .ok (.bipush 24, 2) := by decide +kernel
theorem dX1_become_57 : decode cX1_become 57 = .ok (.invokestatic 46, 3) := by decide +kernel
theorem dX1_become_60 : decode cX1_become 60 = .ok (.aload_n 1, 1) := by decide +kernel
theorem dX1_become_61 : decode cX1_become 61 = .ok (.getfield 24, 3) := by decide +kernel
theorem dX1_become_64 : decode cX1_become 64 = .ok (.iconst 0, 1) := by decide +kernel
theorem dX1_become_65 : decode cX1_become 65 = .ok (.aload_n 0, 1) := by decide +kernel
theorem dX1_become_66 : decode cX1_become 66 = .ok (.getfield 24, 3) := by decide +kernel
theorem dX1_become_69 : decode cX1_become 69 = .ok (.iconst 0, 1) := by decide +kernel
theorem dX1_become_70 : decode cX1_become 70 = .ok (.bipush 24, 2) := by decide +kernel
theorem dX1_become_72 : decode cX1_become 72 = .ok (.invokestatic 46, 3) := by decide +kernel
theorem dX1_become_75 : decode cX1_become 75 = .ok (.aload_n 1, 1) := by decide +kernel
theorem dX1_become_76 : decode cX1_become 76 = .ok (.getfield 27, 3) := by decide +kernel
theorem dX1_become_79 : decode cX1_become 79 = .ok (.iconst 0, 1) := by decide +kernel
theorem dX1_become_80 : decode cX1_become 80 = .ok (.aload_n 0, 1) := by decide +kernel
theorem dX1_become_81 : decode cX1_become 81 = .ok (.getfield 27, 3) := by decide +kernel
theorem dX1_become_84 : decode cX1_become 84 = .ok (.iconst 0, 1) := by decide +kernel
theorem dX1_become_85 : decode cX1_become 85 = .ok (.sipush 144, 3) := by decide +kernel
theorem dX1_become_88 : decode cX1_become 88 = .ok (.invokestatic 46, 3) := by decide +kernel
theorem dX1_become_91 : decode cX1_become 91 = .ok (.aload_n 1, 1) := by decide +kernel
theorem dX1_become_92 : decode cX1_become 92 = .ok (.getfield 30, 3) := by decide +kernel
theorem dX1_become_95 : decode cX1_become 95 = .ok (.iconst 0, 1) := by decide +kernel
theorem dX1_become_96 : decode cX1_become 96 = .ok (.aload_n 0, 1) := by decide +kernel
theorem dX1_become_97 : decode cX1_become 97 = .ok (.getfield 30, 3) := by decide +kernel
theorem dX1_become_100 : decode cX1_become 100 = .ok (.iconst 0, 1) := by decide +kernel
theorem dX1_become_101 : decode cX1_become 101 = .ok (.iconst 5, 1) := by decide +kernel
theorem dX1_become_102 : decode cX1_become 102 = .ok (.invokestatic 46, 3) := by decide +kernel
theorem dX1_become_105 : decode cX1_become 105 = .ok (.aload_n 1, 1) := by decide +kernel
theorem dX1_become_106 : decode cX1_become 106 = .ok (.getfield 33, 3) := by decide +kernel
theorem dX1_become_109 : decode cX1_become 109 = .ok (.iconst 0, 1) := by decide +kernel
theorem dX1_become_110 : decode cX1_become 110 = .ok (.aload_n 0, 1) := by decide +kernel
theorem dX1_become_111 : decode cX1_become 111 = .ok (.getfield 33, 3) := by decide +kernel
theorem dX1_become_114 : decode cX1_become 114 = .ok (.iconst 0, 1) := by decide +kernel
theorem dX1_become_115 : decode cX1_become 115 = .ok (.iconst 4, 1) := by decide +kernel
theorem dX1_become_116 : decode cX1_become 116 = .ok (.invokestatic 46, 3) := by decide +kernel
theorem dX1_become_119 : decode cX1_become 119 = .ok (.aload_n 0, 1) := by decide +kernel
theorem dX1_become_120 : decode cX1_become 120 = .ok (.aload_n 1, 1) := by decide +kernel
theorem dX1_become_121 : decode cX1_become 121 = .ok (.getfield 36, 3) := by decide +kernel
theorem dX1_become_124 : decode cX1_become 124 = .ok (.putfield 36, 3) := by decide +kernel
theorem dX1_become_127 : decode cX1_become 127 = .ok (.aload_n 0, 1) := by decide +kernel
theorem dX1_become_128 : decode cX1_become 128 = .ok (.aload_n 1, 1) := by decide +kernel
theorem dX1_become_129 : decode cX1_become 129 = .ok (.getfield 40, 3) := by decide +kernel
theorem dX1_become_132 : decode cX1_become 132 = .ok (.putfield 40, 3) := by decide +kernel
theorem dX1_become_135 : decode cX1_become 135 = .ok (.aload_n 0, 1) := by decide +kernel
theorem dX1_become_136 : decode cX1_become 136 = .ok (.aload_n 1, 1) := by decide +kernel
theorem dX1_become_137 : decode cX1_become 137 = .ok (.getfield 43, 3) := by decide +kernel
theorem dX1_become_140 : decode cX1_become 140 = .ok (.putfield 43, 3) := by decide +kernel
theorem dX1_become_143 : decode cX1_become 143 = .ok (.return_, 1) := by decide +kernel
theorem dX1_isCommit_0 : decode cX1_isCommit 0 = .ok (.iload_n 1, 1) := by decide +kernel
theorem dX1_isCommit_1 : decode cX1_isCommit 1 = .ok (.ifCond .lt 21, 3) := by decide +kernel
theorem dX1_isCommit_4 : decode cX1_isCommit 4 = .ok (.iload_n 1, 1) := by decide +kernel
theorem dX1_isCommit_5 : decode cX1_isCommit 5 = .ok (.aload_n 0, 1) := by decide +kernel
theorem dX1_isCommit_6 : decode cX1_isCommit 6 = .ok (.getfield 36, 3) := by decide +kernel
theorem dX1_isCommit_9 : decode cX1_isCommit 9 = .ok (.if_icmp .ge 13, 3) := by decide +kernel
theorem dX1_isCommit_12 : decode cX1_isCommit 12 = .ok (.iload_n 1, 1) := by decide +kernel
theorem dX1_isCommit_13 : decode cX1_isCommit 13 = .ok (.bipush 24, 2) := by decide +kernel
theorem dX1_isCommit_15 : decode cX1_isCommit 15 = .ok (.if_icmp .ge 7, 3) := by decide +kernel
theorem dX1_isCommit_18 : decode cX1_isCommit 18 = .ok (.iconst 1, 1) := by decide +kernel
theorem dX1_isCommit_19 : decode cX1_isCommit 19 = .ok (.goto 4, 3) := by decide +kernel
theorem dX1_isCommit_22 : decode cX1_isCommit 22 = .ok (.iconst 0, 1) := by decide +kernel
theorem dX1_isCommit_23 : decode cX1_isCommit 23 = .ok (.ireturn, 1) := by decide +kernel
theorem dX1_isBranch_0 : decode cX1_isBranch 0 = .ok (.iload_n 1, 1) := by decide +kernel
theorem dX1_isBranch_1 : decode cX1_isBranch 1 = .ok (.ifCond .lt 20, 3) := by decide +kernel
theorem dX1_isBranch_4 : decode cX1_isBranch 4 = .ok (.iload_n 1, 1) := by decide +kernel
theorem dX1_isBranch_5 : decode cX1_isBranch 5 = .ok (.aload_n 0, 1) := by decide +kernel
theorem dX1_isBranch_6 : decode cX1_isBranch 6 = .ok (.getfield 40, 3) := by decide +kernel
theorem dX1_isBranch_9 : decode cX1_isBranch 9 = .ok (.if_icmp .ge 12, 3) := by decide +kernel
theorem dX1_isBranch_12 : decode cX1_isBranch 12 = .ok (.iload_n 1, 1) := by decide +kernel
theorem dX1_isBranch_13 : decode cX1_isBranch 13 = .ok (.iconst 5, 1) := by decide +kernel
theorem dX1_isBranch_14 : decode cX1_isBranch 14 = .ok (.if_icmp .ge 7, 3) := by decide +kernel
theorem dX1_isBranch_17 : decode cX1_isBranch 17 = .ok (.iconst 1, 1) := by decide +kernel
theorem dX1_isBranch_18 : decode cX1_isBranch 18 = .ok (.goto 4, 3) := by decide +kernel
theorem dX1_isBranch_21 : decode cX1_isBranch 21 = .ok (.iconst 0, 1) := by decide +kernel
theorem dX1_isBranch_22 : decode cX1_isBranch 22 = .ok (.ireturn, 1) := by decide +kernel
theorem dX1_isFull_0 : decode cX1_isFull 0 = .ok (.aload_n 0, 1) := by decide +kernel
theorem dX1_isFull_1 : decode cX1_isFull 1 = .ok (.getfield 36, 3) := by decide +kernel
theorem dX1_isFull_4 : decode cX1_isFull 4 = .ok (.bipush 24, 2) := by decide +kernel
theorem dX1_isFull_6 : decode cX1_isFull 6 = .ok (.if_icmp .lt 7, 3) := by decide +kernel
theorem dX1_isFull_9 : decode cX1_isFull 9 = .ok (.iconst 1, 1) := by decide +kernel
theorem dX1_isFull_10 : decode cX1_isFull 10 = .ok (.goto 4, 3) := by decide +kernel
theorem dX1_isFull_13 : decode cX1_isFull 13 = .ok (.iconst 0, 1) := by decide +kernel
theorem dX1_isFull_14 : decode cX1_isFull 14 = .ok (.ireturn, 1) := by decide +kernel
theorem dX1_commitCount_0 : decode cX1_commitCount 0 = .ok (.aload_n 0, 1) := by decide +kernel
theorem dX1_commitCount_1 : decode cX1_commitCount 1 = .ok (.getfield 36, 3) := by decide +kernel
theorem dX1_commitCount_4 : decode cX1_commitCount 4 = .ok (.ireturn, 1) := by decide +kernel
theorem dX1_branchCount_0 : decode cX1_branchCount 0 = .ok (.aload_n 0, 1) := by decide +kernel
theorem dX1_branchCount_1 : decode cX1_branchCount 1 = .ok (.getfield 40, 3) := by decide +kernel
theorem dX1_branchCount_4 : decode cX1_branchCount 4 = .ok (.ireturn, 1) := by decide +kernel
theorem dX1_tipOf_0 : decode cX1_tipOf 0 = .ok (.iload_n 1, 1) := by decide +kernel
theorem dX1_tipOf_1 : decode cX1_tipOf 1 = .ok (.ifCond .lt 17, 3) := by decide +kernel
theorem dX1_tipOf_4 : decode cX1_tipOf 4 = .ok (.iload_n 1, 1) := by decide +kernel
theorem dX1_tipOf_5 : decode cX1_tipOf 5 = .ok (.iconst 5, 1) := by decide +kernel
theorem dX1_tipOf_6 : decode cX1_tipOf 6 = .ok (.if_icmp .ge 12, 3) := by decide +kernel
theorem dX1_tipOf_9 : decode cX1_tipOf 9 = .ok (.aload_n 0, 1) := by decide +kernel
theorem dX1_tipOf_10 : decode cX1_tipOf 10 = .ok (.getfield 30, 3) := by decide +kernel
theorem dX1_tipOf_13 : decode cX1_tipOf 13 = .ok (.iload_n 1, 1) := by decide +kernel
theorem dX1_tipOf_14 : decode cX1_tipOf 14 = .ok (.iaload, 1) := by decide +kernel
theorem dX1_tipOf_15 : decode cX1_tipOf 15 = .ok (.goto 4, 3) := by decide +kernel
theorem dX1_tipOf_18 : decode cX1_tipOf 18 = .ok (.iconst (-1), 1) := by decide +kernel
theorem dX1_tipOf_19 : decode cX1_tipOf 19 = .ok (.ireturn, 1) := by decide +kernel
theorem dX1_kindOf_0 : decode cX1_kindOf 0 = .ok (.iload_n 1, 1) := by decide +kernel
theorem dX1_kindOf_1 : decode cX1_kindOf 1 = .ok (.ifCond .lt 18, 3) := by decide +kernel
theorem dX1_kindOf_4 : decode cX1_kindOf 4 = .ok (.iload_n 1, 1) := by decide +kernel
theorem dX1_kindOf_5 : decode cX1_kindOf 5 = .ok (.bipush 24, 2) := by decide +kernel
theorem dX1_kindOf_7 : decode cX1_kindOf 7 = .ok (.if_icmp .ge 12, 3) := by decide +kernel
theorem dX1_kindOf_10 : decode cX1_kindOf 10 = .ok (.aload_n 0, 1) := by decide +kernel
theorem dX1_kindOf_11 : decode cX1_kindOf 11 = .ok (.getfield 9, 3) := by decide +kernel
theorem dX1_kindOf_14 : decode cX1_kindOf 14 = .ok (.iload_n 1, 1) := by decide +kernel
theorem dX1_kindOf_15 : decode cX1_kindOf 15 = .ok (.iaload, 1) := by decide +kernel
theorem dX1_kindOf_16 : decode cX1_kindOf 16 = .ok (.goto 4, 3) := by decide +kernel
theorem dX1_kindOf_19 : decode cX1_kindOf 19 = .ok (.iconst (-1), 1) := by decide +kernel
theorem dX1_kindOf_20 : decode cX1_kindOf 20 = .ok (.ireturn, 1) := by decide +kernel
theorem dX1_firstOf_0 : decode cX1_firstOf 0 = .ok (.iload_n 1, 1) := by decide +kernel
theorem dX1_firstOf_1 : decode cX1_firstOf 1 = .ok (.ifCond .lt 18, 3) := by decide +kernel
theorem dX1_firstOf_4 : decode cX1_firstOf 4 = .ok (.iload_n 1, 1) := by decide +kernel
theorem dX1_firstOf_5 : decode cX1_firstOf 5 = .ok (.bipush 24, 2) := by decide +kernel
theorem dX1_firstOf_7 : decode cX1_firstOf 7 = .ok (.if_icmp .ge 12, 3) := by decide +kernel
theorem dX1_firstOf_10 : decode cX1_firstOf 10 = .ok (.aload_n 0, 1) := by decide +kernel
theorem dX1_firstOf_11 : decode cX1_firstOf 11 = .ok (.getfield 15, 3) := by decide +kernel
theorem dX1_firstOf_14 : decode cX1_firstOf 14 = .ok (.iload_n 1, 1) := by decide +kernel
theorem dX1_firstOf_15 : decode cX1_firstOf 15 = .ok (.iaload, 1) := by decide +kernel
theorem dX1_firstOf_16 : decode cX1_firstOf 16 = .ok (.goto 4, 3) := by decide +kernel
theorem dX1_firstOf_19 : decode cX1_firstOf 19 = .ok (.iconst (-1), 1) := by decide +kernel
theorem dX1_firstOf_20 : decode cX1_firstOf 20 = .ok (.ireturn, 1) := by decide +kernel
theorem dX1_secondOf_0 : decode cX1_secondOf 0 = .ok (.iload_n 1, 1) := by decide +kernel
theorem dX1_secondOf_1 : decode cX1_secondOf 1 = .ok (.ifCond .lt 18, 3) := by decide +kernel
theorem dX1_secondOf_4 : decode cX1_secondOf 4 = .ok (.iload_n 1, 1) := by decide +kernel
theorem dX1_secondOf_5 : decode cX1_secondOf 5 = .ok (.bipush 24, 2) := by decide +kernel
theorem dX1_secondOf_7 : decode cX1_secondOf 7 = .ok (.if_icmp .ge 12, 3) := by decide +kernel
theorem dX1_secondOf_10 : decode cX1_secondOf 10 = .ok (.aload_n 0, 1) := by decide +kernel
theorem dX1_secondOf_11 : decode cX1_secondOf 11 = .ok (.getfield 18, 3) := by decide +kernel
theorem dX1_secondOf_14 : decode cX1_secondOf 14 = .ok (.iload_n 1, 1) := by decide +kernel
theorem dX1_secondOf_15 : decode cX1_secondOf 15 = .ok (.iaload, 1) := by decide +kernel
theorem dX1_secondOf_16 : decode cX1_secondOf 16 = .ok (.goto 4, 3) := by decide +kernel
theorem dX1_secondOf_19 : decode cX1_secondOf 19 = .ok (.iconst (-1), 1) := by decide +kernel
theorem dX1_secondOf_20 : decode cX1_secondOf 20 = .ok (.ireturn, 1) := by decide +kernel
theorem dX1_familyOf_0 : decode cX1_familyOf 0 = .ok (.iload_n 1, 1) := by decide +kernel
theorem dX1_familyOf_1 : decode cX1_familyOf 1 = .ok (.ifCond .lt 18, 3) := by decide +kernel
theorem dX1_familyOf_4 : decode cX1_familyOf 4 = .ok (.iload_n 1, 1) := by decide +kernel
theorem dX1_familyOf_5 : decode cX1_familyOf 5 = .ok (.bipush 24, 2) := by decide +kernel
theorem dX1_familyOf_7 : decode cX1_familyOf 7 = .ok (.if_icmp .ge 12, 3) := by decide +kernel
theorem dX1_familyOf_10 : decode cX1_familyOf 10 = .ok (.aload_n 0, 1) := by decide +kernel
theorem dX1_familyOf_11 : decode cX1_familyOf 11 = .ok (.getfield 21, 3) := by decide +kernel
theorem dX1_familyOf_14 : decode cX1_familyOf 14 = .ok (.iload_n 1, 1) := by decide +kernel
theorem dX1_familyOf_15 : decode cX1_familyOf 15 = .ok (.iaload, 1) := by decide +kernel
theorem dX1_familyOf_16 : decode cX1_familyOf 16 = .ok (.goto 4, 3) := by decide +kernel
theorem dX1_familyOf_19 : decode cX1_familyOf 19 = .ok (.iconst 0, 1) := by decide +kernel
theorem dX1_familyOf_20 : decode cX1_familyOf 20 = .ok (.ireturn, 1) := by decide +kernel
theorem dX1_depthOf_0 : decode cX1_depthOf 0 = .ok (.iload_n 1, 1) := by decide +kernel
theorem dX1_depthOf_1 : decode cX1_depthOf 1 = .ok (.ifCond .lt 18, 3) := by decide +kernel
theorem dX1_depthOf_4 : decode cX1_depthOf 4 = .ok (.iload_n 1, 1) := by decide +kernel
theorem dX1_depthOf_5 : decode cX1_depthOf 5 = .ok (.bipush 24, 2) := by decide +kernel
theorem dX1_depthOf_7 : decode cX1_depthOf 7 = .ok (.if_icmp .ge 12, 3) := by decide +kernel
theorem dX1_depthOf_10 : decode cX1_depthOf 10 = .ok (.aload_n 0, 1) := by decide +kernel
theorem dX1_depthOf_11 : decode cX1_depthOf 11 = .ok (.getfield 24, 3) := by decide +kernel
theorem dX1_depthOf_14 : decode cX1_depthOf 14 = .ok (.iload_n 1, 1) := by decide +kernel
theorem dX1_depthOf_15 : decode cX1_depthOf 15 = .ok (.iaload, 1) := by decide +kernel
theorem dX1_depthOf_16 : decode cX1_depthOf 16 = .ok (.goto 4, 3) := by decide +kernel
theorem dX1_depthOf_19 : decode cX1_depthOf 19 = .ok (.iconst (-1), 1) := by decide +kernel
theorem dX1_depthOf_20 : decode cX1_depthOf 20 = .ok (.ireturn, 1) := by decide +kernel
theorem dX1_amountIn_0 : decode cX1_amountIn 0 = .ok (.iload_n 1, 1) := by decide +kernel
theorem dX1_amountIn_1 : decode cX1_amountIn 1 = .ok (.ifCond .lt 19, 3) := by decide +kernel
theorem dX1_amountIn_4 : decode cX1_amountIn 4 = .ok (.iload_n 1, 1) := by decide +kernel
theorem dX1_amountIn_5 : decode cX1_amountIn 5 = .ok (.bipush 24, 2) := by decide +kernel
theorem dX1_amountIn_7 : decode cX1_amountIn 7 = .ok (.if_icmp .ge 13, 3) := by decide +kernel
theorem dX1_amountIn_10 : decode cX1_amountIn 10 = .ok (.iload_n 2, 1) := by decide +kernel
theorem dX1_amountIn_11 : decode cX1_amountIn 11 = .ok (.ifCond .lt 9, 3) := by decide +kernel
theorem dX1_amountIn_14 : decode cX1_amountIn 14 = .ok (.iload_n 2, 1) := by decide +kernel
theorem dX1_amountIn_15 : decode cX1_amountIn 15 = .ok (.bipush 6, 2) := by decide +kernel
theorem dX1_amountIn_17 : decode cX1_amountIn 17 = .ok (.if_icmp .lt 5, 3) := by decide +kernel
theorem dX1_amountIn_20 : decode cX1_amountIn 20 = .ok (.iconst 0, 1) := by decide +kernel
theorem dX1_amountIn_21 : decode cX1_amountIn 21 = .ok (.ireturn, 1) := by decide +kernel
theorem dX1_amountIn_22 : decode cX1_amountIn 22 = .ok (.aload_n 0, 1) := by decide +kernel
theorem dX1_amountIn_23 : decode cX1_amountIn 23 = .ok (.getfield 27, 3) := by decide +kernel
theorem dX1_amountIn_26 : decode cX1_amountIn 26 = .ok (.iload_n 1, 1) := by decide +kernel
theorem dX1_amountIn_27 : decode cX1_amountIn 27 = .ok (.bipush 6, 2) := by decide +kernel
theorem dX1_amountIn_29 : decode cX1_amountIn 29 = .ok (.imul, 1) := by decide +kernel
theorem dX1_amountIn_30 : decode cX1_amountIn 30 = .ok (.iload_n 2, 1) := by decide +kernel
theorem dX1_amountIn_31 : decode cX1_amountIn 31 = .ok (.iadd, 1) := by decide +kernel
theorem dX1_amountIn_32 : decode cX1_amountIn 32 = .ok (.iaload, 1) := by decide +kernel
theorem dX1_amountIn_33 : decode cX1_amountIn 33 = .ok (.ireturn, 1) := by decide +kernel
theorem dX1_changedIn_0 : decode cX1_changedIn 0 = .ok (.aload_n 0, 1) := by decide +kernel
theorem dX1_changedIn_1 : decode cX1_changedIn 1 = .ok (.iload_n 1, 1) := by decide +kernel
theorem dX1_changedIn_2 : decode cX1_changedIn 2 = .ok (.invokevirtual 52, 3) := by decide +kernel
theorem dX1_changedIn_5 : decode cX1_changedIn 5 = .ok (.istore_n 2, 1) := by decide +kernel
theorem dX1_changedIn_6 : decode cX1_changedIn 6 = .ok (.iload_n 2, 1) := by decide +kernel
theorem dX1_changedIn_7 : decode cX1_changedIn 7 = .ok (.iconst (-1), 1) := by decide +kernel
theorem dX1_changedIn_8 : decode cX1_changedIn 8 = .ok (.if_icmp .ne 5, 3) := by decide +kernel
theorem dX1_changedIn_11 : decode cX1_changedIn 11 = .ok (.iconst 0, 1) := by decide +kernel
theorem dX1_changedIn_12 : decode cX1_changedIn 12 = .ok (.ireturn, 1) := by decide +kernel
theorem dX1_changedIn_13 : decode cX1_changedIn 13 = .ok (.iconst 0, 1) := by decide +kernel
theorem dX1_changedIn_14 : decode cX1_changedIn 14 = .ok (.istore_n 3, 1) := by decide +kernel
theorem dX1_changedIn_15 : decode cX1_changedIn 15 = .ok (.iconst 0, 1) := by decide +kernel
theorem dX1_changedIn_16 : decode cX1_changedIn 16 = .ok (.istore 4, 2) := by decide +kernel
theorem dX1_changedIn_18 : decode cX1_changedIn 18 = .ok (.iload 4, 2) := by decide +kernel
theorem dX1_changedIn_20 : decode cX1_changedIn 20 = .ok (.bipush 6, 2) := by decide +kernel
theorem dX1_changedIn_22 : decode cX1_changedIn 22 = .ok (.if_icmp .ge 29, 3) := by decide +kernel
theorem dX1_changedIn_25 : decode cX1_changedIn 25 = .ok (.aload_n 0, 1) := by decide +kernel
theorem dX1_changedIn_26 : decode cX1_changedIn 26 = .ok (.iload_n 1, 1) := by decide +kernel
theorem dX1_changedIn_27 : decode cX1_changedIn 27 = .ok (.iload 4, 2) := by decide +kernel
theorem dX1_changedIn_29 : decode cX1_changedIn 29 = .ok (.invokevirtual 56, 3) := by decide +kernel
theorem dX1_changedIn_32 : decode cX1_changedIn 32 = .ok (.aload_n 0, 1) := by decide +kernel
theorem dX1_changedIn_33 : decode cX1_changedIn 33 = .ok (.iload_n 2, 1) := by decide +kernel
theorem dX1_changedIn_34 : decode cX1_changedIn 34 = .ok (.iload 4, 2) := by decide +kernel
theorem dX1_changedIn_36 : decode cX1_changedIn 36 = .ok (.invokevirtual 56, 3) := by decide +kernel
theorem dX1_changedIn_39 : decode cX1_changedIn 39 = .ok (.if_icmp .eq 6, 3) := by decide +kernel
theorem dX1_changedIn_42 : decode cX1_changedIn 42 = .ok (.iinc 3 1, 3) := by decide +kernel
theorem dX1_changedIn_45 : decode cX1_changedIn 45 = .ok (.iinc 4 1, 3) := by decide +kernel
theorem dX1_changedIn_48 : decode cX1_changedIn 48 = .ok (.goto (-30), 3) := by decide +kernel
theorem dX1_changedIn_51 : decode cX1_changedIn 51 = .ok (.iload_n 3, 1) := by decide +kernel
theorem dX1_changedIn_52 : decode cX1_changedIn 52 = .ok (.ireturn, 1) := by decide +kernel
theorem dX1_addCommit_0 : decode cX1_addCommit 0 = .ok (.aload_n 0, 1) := by decide +kernel
theorem dX1_addCommit_1 : decode cX1_addCommit 1 = .ok (.getfield 36, 3) := by decide +kernel
theorem dX1_addCommit_4 : decode cX1_addCommit 4 = .ok (.ifCond .lt 28, 3) := by decide +kernel
theorem dX1_addCommit_7 : decode cX1_addCommit 7 = .ok (.aload_n 0, 1) := by decide +kernel
theorem dX1_addCommit_8 : decode cX1_addCommit 8 = .ok (.getfield 36, 3) := by decide +kernel
theorem dX1_addCommit_11 : decode cX1_addCommit 11 = .ok (.bipush 24, 2) := by decide +kernel
theorem dX1_addCommit_13 : decode cX1_addCommit 13 = .ok (.if_icmp .ge 19, 3) := by decide +kernel
theorem dX1_addCommit_16 : decode cX1_addCommit 16 = .ok (.aload_n 0, 1) := by decide +kernel
theorem dX1_addCommit_17 : decode cX1_addCommit 17 = .ok (.iload_n 1, 1) := by decide +kernel
theorem dX1_addCommit_18 : decode cX1_addCommit 18 = .ok (.invokevirtual 60, 3) := by decide +kernel
theorem dX1_addCommit_21 : decode cX1_addCommit 21 = .ok (.ifCond .eq 11, 3) := by decide +kernel
theorem dX1_addCommit_24 : decode cX1_addCommit 24 = .ok (.aload 4, 2) := by decide +kernel
theorem dX1_addCommit_26 : decode cX1_addCommit 26 = .ok (.arraylength, 1) := by decide +kernel
theorem dX1_addCommit_27 : decode cX1_addCommit 27 = .ok (.bipush 6, 2) := by decide +kernel
theorem dX1_addCommit_29 : decode cX1_addCommit 29 = .ok (.if_icmp .ge 5, 3) := by decide +kernel
theorem dX1_addCommit_32 : decode cX1_addCommit 32 = .ok (.iconst (-1), 1) := by decide +kernel
theorem dX1_addCommit_33 : decode cX1_addCommit 33 = .ok (.ireturn, 1) := by decide +kernel
theorem dX1_addCommit_34 : decode cX1_addCommit 34 = .ok (.aload_n 0, 1) := by decide +kernel
theorem dX1_addCommit_35 : decode cX1_addCommit 35 = .ok (.getfield 36, 3) := by decide +kernel
theorem dX1_addCommit_38 : decode cX1_addCommit 38 = .ok (.istore 5, 2) := by decide +kernel
theorem dX1_addCommit_40 : decode cX1_addCommit 40 = .ok (.aload_n 0, 1) := by decide +kernel
theorem dX1_addCommit_41 : decode cX1_addCommit 41 = .ok (.getfield 30, 3) := by decide +kernel
theorem dX1_addCommit_44 : decode cX1_addCommit 44 = .ok (.iload_n 1, 1) := by decide +kernel
theorem dX1_addCommit_45 : decode cX1_addCommit 45 = .ok (.iaload, 1) := by decide +kernel
theorem dX1_addCommit_46 : decode cX1_addCommit 46 = .ok (.istore 6, 2) := by decide +kernel
theorem dX1_addCommit_48 : decode cX1_addCommit 48 = .ok (.aload_n 0, 1) := by decide +kernel
theorem dX1_addCommit_49 : decode cX1_addCommit 49 = .ok (.getfield 9, 3) := by decide +kernel
theorem dX1_addCommit_52 : decode cX1_addCommit 52 = .ok (.iload 5, 2) := by decide +kernel
theorem dX1_addCommit_54 : decode cX1_addCommit 54 = .ok (.iload_n 2, 1) := by decide +kernel
theorem dX1_addCommit_55 : decode cX1_addCommit 55 = .ok (.iastore, 1) := by decide +kernel
theorem dX1_addCommit_56 : decode cX1_addCommit 56 = .ok (.aload_n 0, 1) := by decide +kernel
theorem dX1_addCommit_57 : decode cX1_addCommit 57 = .ok (.getfield 15, 3) := by decide +kernel
theorem dX1_addCommit_60 : decode cX1_addCommit 60 = .ok (.iload 5, 2) := by decide +kernel
theorem dX1_addCommit_62 : decode cX1_addCommit 62 = .ok (.iload 6, 2) := by decide +kernel
theorem dX1_addCommit_64 : decode cX1_addCommit 64 = .ok (.iastore, 1) := by decide +kernel
theorem dX1_addCommit_65 : decode cX1_addCommit 65 = .ok (.aload_n 0, 1) := by decide +kernel
theorem dX1_addCommit_66 : decode cX1_addCommit 66 = .ok (.getfield 18, 3) := by decide +kernel
theorem dX1_addCommit_69 : decode cX1_addCommit 69 = .ok (.iload 5, 2) := by decide +kernel
theorem dX1_addCommit_71 : decode cX1_addCommit 71 = .ok (.iload_n 3, 1) := by decide +kernel
theorem dX1_addCommit_72 : decode cX1_addCommit 72 = .ok (.iastore, 1) := by decide +kernel
theorem dX1_addCommit_73 : decode cX1_addCommit 73 = .ok (.aload_n 0, 1) := by decide +kernel
theorem dX1_addCommit_74 : decode cX1_addCommit 74 = .ok (.getfield 21, 3) := by decide +kernel
theorem dX1_addCommit_77 : decode cX1_addCommit 77 = .ok (.iload 5, 2) := by decide +kernel
theorem dX1_addCommit_79 : decode cX1_addCommit 79 = .ok (.iload 5, 2) := by decide +kernel
theorem dX1_addCommit_81 : decode cX1_addCommit 81 = .ok (.invokestatic 64, 3) := by decide +kernel
theorem dX1_addCommit_84 : decode cX1_addCommit 84 = .ok (.aload_n 0, 1) := by decide +kernel
theorem dX1_addCommit_85 : decode cX1_addCommit 85 = .ok (.iload 6, 2) := by decide +kernel
theorem dX1_addCommit_87 : decode cX1_addCommit 87 = .ok (.invokevirtual 67, 3) := by decide +kernel
theorem dX1_addCommit_90 : decode cX1_addCommit 90 = .ok (.ior, 1) := by decide +kernel
theorem dX1_addCommit_91 : decode cX1_addCommit 91 = .ok (.aload_n 0, 1) := by decide +kernel
theorem dX1_addCommit_92 : decode cX1_addCommit 92 = .ok (.iload_n 3, 1) := by decide +kernel
theorem dX1_addCommit_93 : decode cX1_addCommit 93 = .ok (.invokevirtual 67, 3) := by decide +kernel
theorem dX1_addCommit_96 : decode cX1_addCommit 96 = .ok (.ior, 1) := by decide +kernel
theorem dX1_addCommit_97 : decode cX1_addCommit 97 = .ok (.iastore, 1) := by decide +kernel
theorem dX1_addCommit_98 : decode cX1_addCommit 98 = .ok (.aload_n 0, 1) := by decide +kernel
theorem dX1_addCommit_99 : decode cX1_addCommit 99 = .ok (.getfield 24, 3) := by decide +kernel
theorem dX1_addCommit_102 : decode cX1_addCommit 102 = .ok (.iload 5, 2) := by decide +kernel
theorem dX1_addCommit_104 : decode cX1_addCommit 104 = .ok (.iconst 1, 1) := by decide +kernel
theorem dX1_addCommit_105 : decode cX1_addCommit 105 = .ok (.aload_n 0, 1) := by decide +kernel
theorem dX1_addCommit_106 : decode cX1_addCommit 106 = .ok (.iload 6, 2) := by decide +kernel
theorem dX1_addCommit_108 : decode cX1_addCommit 108 = .ok (.invokevirtual 70, 3) := by decide +kernel
theorem dX1_addCommit_111 : decode cX1_addCommit 111 = .ok (.aload_n 0, 1) := by decide +kernel
theorem dX1_addCommit_112 : decode cX1_addCommit 112 = .ok (.iload_n 3, 1) := by decide +kernel
theorem dX1_addCommit_113 : decode cX1_addCommit 113 = .ok (.invokevirtual 70, 3) := by decide +kernel
theorem dX1_addCommit_116 : decode cX1_addCommit 116 = .ok (.invokestatic 73, 3) := by decide +kernel
theorem dX1_addCommit_119 : decode cX1_addCommit 119 = .ok (.iadd, 1) := by decide +kernel
theorem dX1_addCommit_120 : decode cX1_addCommit 120 = .ok (.iastore, 1) := by decide +kernel
theorem dX1_addCommit_121 : decode cX1_addCommit 121 = .ok (.iconst 0, 1) := by decide +kernel
theorem dX1_addCommit_122 : decode cX1_addCommit 122 = .ok (.istore 7, 2) := by decide +kernel
theorem dX1_addCommit_124 : decode cX1_addCommit 124 = .ok (.iload 7, 2) := by decide +kernel
theorem dX1_addCommit_126 : decode cX1_addCommit 126 = .ok (.bipush 6, 2) := by decide +kernel
theorem dX1_addCommit_128 : decode cX1_addCommit 128 = .ok (.if_icmp .ge 27, 3) := by decide +kernel
theorem dX1_addCommit_131 : decode cX1_addCommit 131 = .ok (.aload_n 0, 1) := by decide +kernel
theorem dX1_addCommit_132 : decode cX1_addCommit 132 = .ok (.getfield 27, 3) := by decide +kernel
theorem dX1_addCommit_135 : decode cX1_addCommit 135 = .ok (.iload 5, 2) := by decide +kernel
theorem dX1_addCommit_137 : decode cX1_addCommit 137 = .ok (.bipush 6, 2) := by decide +kernel
theorem dX1_addCommit_139 : decode cX1_addCommit 139 = .ok (.imul, 1) := by decide +kernel
theorem dX1_addCommit_140 : decode cX1_addCommit 140 = .ok (.iload 7, 2) := by decide +kernel
theorem dX1_addCommit_142 : decode cX1_addCommit 142 = .ok (.iadd, 1) := by decide +kernel
theorem dX1_addCommit_143 : decode cX1_addCommit 143 = .ok (.aload 4, 2) := by decide +kernel
theorem dX1_addCommit_145 : decode cX1_addCommit 145 = .ok (.iload 7, 2) := by decide +kernel
theorem dX1_addCommit_147 : decode cX1_addCommit 147 = .ok (.iaload, 1) := by decide +kernel
theorem dX1_addCommit_148 : decode cX1_addCommit 148 = .ok (.iastore, 1) := by decide +kernel
theorem dX1_addCommit_149 : decode cX1_addCommit 149 = .ok (.iinc 7 1, 3) := by decide +kernel
theorem dX1_addCommit_152 : decode cX1_addCommit 152 = .ok (.goto (-28), 3) := by decide +kernel
theorem dX1_addCommit_155 : decode cX1_addCommit 155 = .ok (.aload_n 0, 1) := by decide +kernel
theorem dX1_addCommit_156 : decode cX1_addCommit 156 = .ok (.getfield 30, 3) := by decide +kernel
theorem dX1_addCommit_159 : decode cX1_addCommit 159 = .ok (.iload_n 1, 1) := by decide +kernel
theorem dX1_addCommit_160 : decode cX1_addCommit 160 = .ok (.iload 5, 2) := by decide +kernel
theorem dX1_addCommit_162 : decode cX1_addCommit 162 = .ok (.iastore, 1) := by decide +kernel
theorem dX1_addCommit_163 : decode cX1_addCommit 163 = .ok (.aload_n 0, 1) := by decide +kernel
theorem dX1_addCommit_164 : decode cX1_addCommit 164 = .ok (.dup, 1) := by decide +kernel
theorem dX1_addCommit_165 : decode cX1_addCommit 165 = .ok (.getfield 36, 3) := by decide +kernel
theorem dX1_addCommit_168 : decode cX1_addCommit 168 = .ok (.iconst 1, 1) := by decide +kernel
theorem dX1_addCommit_169 : decode cX1_addCommit 169 = .ok (.iadd, 1) := by decide +kernel
theorem dX1_addCommit_170 : decode cX1_addCommit 170 = .ok (.putfield 36, 3) := by decide +kernel
theorem dX1_addCommit_173 : decode cX1_addCommit 173 = .ok (.iload 5, 2) := by decide +kernel
theorem dX1_addCommit_175 : decode cX1_addCommit 175 = .ok (.ireturn, 1) := by decide +kernel
theorem dX1_addBranch_0 : decode cX1_addBranch 0 = .ok (.aload_n 0, 1) := by decide +kernel
theorem dX1_addBranch_1 : decode cX1_addBranch 1 = .ok (.getfield 40, 3) := by decide +kernel
theorem dX1_addBranch_4 : decode cX1_addBranch 4 = .ok (.ifCond .lt 11, 3) := by decide +kernel
theorem dX1_addBranch_7 : decode cX1_addBranch 7 = .ok (.aload_n 0, 1) := by decide +kernel
theorem dX1_addBranch_8 : decode cX1_addBranch 8 = .ok (.getfield 40, 3) := by decide +kernel
theorem dX1_addBranch_11 : decode cX1_addBranch 11 = .ok (.iconst 5, 1) := by decide +kernel
theorem dX1_addBranch_12 : decode cX1_addBranch 12 = .ok (.if_icmp .lt 5, 3) := by decide +kernel
theorem dX1_addBranch_15 : decode cX1_addBranch 15 = .ok (.iconst (-1), 1) := by decide +kernel
theorem dX1_addBranch_16 : decode cX1_addBranch 16 = .ok (.ireturn, 1) := by decide +kernel
theorem dX1_addBranch_17 : decode cX1_addBranch 17 = .ok (.aload_n 0, 1) := by decide +kernel
theorem dX1_addBranch_18 : decode cX1_addBranch 18 = .ok (.getfield 40, 3) := by decide +kernel
theorem dX1_addBranch_21 : decode cX1_addBranch 21 = .ok (.istore_n 2, 1) := by decide +kernel
theorem dX1_addBranch_22 : decode cX1_addBranch 22 = .ok (.aload_n 0, 1) := by decide +kernel
theorem dX1_addBranch_23 : decode cX1_addBranch 23 = .ok (.getfield 30, 3) := by decide +kernel
theorem dX1_addBranch_26 : decode cX1_addBranch 26 = .ok (.iload_n 2, 1) := by decide +kernel
theorem dX1_addBranch_27 : decode cX1_addBranch 27 = .ok (.iload_n 1, 1) := by decide +kernel
theorem dX1_addBranch_28 : decode cX1_addBranch 28 = .ok (.iastore, 1) := by decide +kernel
theorem dX1_addBranch_29 : decode cX1_addBranch 29 = .ok (.aload_n 0, 1) := by decide +kernel
theorem dX1_addBranch_30 : decode cX1_addBranch 30 = .ok (.dup, 1) := by decide +kernel
theorem dX1_addBranch_31 : decode cX1_addBranch 31 = .ok (.getfield 40, 3) := by decide +kernel
theorem dX1_addBranch_34 : decode cX1_addBranch 34 = .ok (.iconst 1, 1) := by decide +kernel
theorem dX1_addBranch_35 : decode cX1_addBranch 35 = .ok (.iadd, 1) := by decide +kernel
theorem dX1_addBranch_36 : decode cX1_addBranch 36 = .ok (.putfield 40, 3) := by decide +kernel
theorem dX1_addBranch_39 : decode cX1_addBranch 39 = .ok (.iload_n 2, 1) := by decide +kernel
theorem dX1_addBranch_40 : decode cX1_addBranch 40 = .ok (.ireturn, 1) := by decide +kernel
theorem dX1_moveTip_0 : decode cX1_moveTip 0 = .ok (.aload_n 0, 1) := by decide +kernel
theorem dX1_moveTip_1 : decode cX1_moveTip 1 = .ok (.iload_n 1, 1) := by decide +kernel
theorem dX1_moveTip_2 : decode cX1_moveTip 2 = .ok (.invokevirtual 60, 3) := by decide +kernel
theorem dX1_moveTip_5 : decode cX1_moveTip 5 = .ok (.ifCond .eq 10, 3) := by decide +kernel
theorem dX1_moveTip_8 : decode cX1_moveTip 8 = .ok (.aload_n 0, 1) := by decide +kernel
theorem dX1_moveTip_9 : decode cX1_moveTip 9 = .ok (.getfield 30, 3) := by decide +kernel
theorem dX1_moveTip_12 : decode cX1_moveTip 12 = .ok (.iload_n 1, 1) := by decide +kernel
theorem dX1_moveTip_13 : decode cX1_moveTip 13 = .ok (.iload_n 2, 1) := by decide +kernel
theorem dX1_moveTip_14 : decode cX1_moveTip 14 = .ok (.iastore, 1) := by decide +kernel
theorem dX1_moveTip_15 : decode cX1_moveTip 15 = .ok (.return_, 1) := by decide +kernel
theorem dX1_hasInFamily_0 : decode cX1_hasInFamily 0 = .ok (.aload_n 0, 1) := by decide +kernel
theorem dX1_hasInFamily_1 : decode cX1_hasInFamily 1 = .ok (.iload_n 1, 1) := by decide +kernel
theorem dX1_hasInFamily_2 : decode cX1_hasInFamily 2 = .ok (.invokevirtual 67, 3) := by decide +kernel
theorem dX1_hasInFamily_5 : decode cX1_hasInFamily 5 = .ok (.iload_n 2, 1) := by decide +kernel
theorem dX1_hasInFamily_6 : decode cX1_hasInFamily 6 = .ok (.invokestatic 78, 3) := by decide +kernel
theorem dX1_hasInFamily_9 : decode cX1_hasInFamily 9 = .ok (.ireturn, 1) := by decide +kernel
theorem dX1_commonGround_0 : decode cX1_commonGround 0 = .ok (.aload_n 0, 1) := by decide +kernel
theorem dX1_commonGround_1 : decode cX1_commonGround 1 = .ok (.iload_n 1, 1) := by decide +kernel
theorem dX1_commonGround_2 : decode cX1_commonGround 2 = .ok (.invokevirtual 67, 3) := by decide +kernel
theorem dX1_commonGround_5 : decode cX1_commonGround 5 = .ok (.aload_n 0, 1) := by decide +kernel
theorem dX1_commonGround_6 : decode cX1_commonGround 6 = .ok (.iload_n 2, 1) := by decide +kernel
theorem dX1_commonGround_7 : decode cX1_commonGround 7 = .ok (.invokevirtual 67, 3) := by decide +kernel
theorem dX1_commonGround_10 : decode cX1_commonGround 10 = .ok (.iand, 1) := by decide +kernel
theorem dX1_commonGround_11 : decode cX1_commonGround 11 = .ok (.istore_n 3, 1) := by decide +kernel
theorem dX1_commonGround_12 : decode cX1_commonGround 12 = .ok (.iload_n 1, 1) := by decide +kernel
theorem dX1_commonGround_13 : decode cX1_commonGround 13 = .ok (.iload_n 2, 1) := by decide +kernel
theorem dX1_commonGround_14 : decode cX1_commonGround 14 = .ok (.invokestatic 82, 3) := by decide +kernel
theorem dX1_commonGround_17 : decode cX1_commonGround 17 = .ok (.istore 4, 2) := by decide +kernel
theorem dX1_commonGround_19 : decode cX1_commonGround 19 = .ok (.iload 4, 2) := by decide +kernel
theorem dX1_commonGround_21 : decode cX1_commonGround 21 = .ok (.ifCond .le 21, 3) := by decide +kernel
theorem dX1_commonGround_24 : decode cX1_commonGround 24 = .ok (.iload_n 3, 1) := by decide +kernel
theorem dX1_commonGround_25 : decode cX1_commonGround 25 = .ok (.iload 4, 2) := by decide +kernel
theorem dX1_commonGround_27 : decode cX1_commonGround 27 = .ok (.invokestatic 78, 3) := by decide +kernel
theorem dX1_commonGround_30 : decode cX1_commonGround 30 = .ok (.ifCond .eq 6, 3) := by decide +kernel
theorem dX1_commonGround_33 : decode cX1_commonGround 33 = .ok (.iload 4, 2) := by decide +kernel
theorem dX1_commonGround_35 : decode cX1_commonGround 35 = .ok (.ireturn, 1) := by decide +kernel
theorem dX1_commonGround_36 : decode cX1_commonGround 36 = .ok (.iinc 4 (-1), 3) := by decide +kernel
theorem dX1_commonGround_39 : decode cX1_commonGround 39 = .ok (.goto (-20), 3) := by decide +kernel
theorem dX1_commonGround_42 : decode cX1_commonGround 42 = .ok (.iconst 0, 1) := by decide +kernel
theorem dX1_commonGround_43 : decode cX1_commonGround 43 = .ok (.ireturn, 1) := by decide +kernel
theorem dX1_meetingPoint_0 : decode cX1_meetingPoint 0 = .ok (.iload_n 1, 1) := by decide +kernel
theorem dX1_meetingPoint_1 : decode cX1_meetingPoint 1 = .ok (.invokestatic 64, 3) := by decide +kernel
theorem dX1_meetingPoint_4 : decode cX1_meetingPoint 4 = .ok (.istore_n 3, 1) := by decide +kernel
theorem dX1_meetingPoint_5 : decode cX1_meetingPoint 5 = .ok (.iload_n 2, 1) := by decide +kernel
theorem dX1_meetingPoint_6 : decode cX1_meetingPoint 6 = .ok (.invokestatic 64, 3) := by decide +kernel
theorem dX1_meetingPoint_9 : decode cX1_meetingPoint 9 = .ok (.istore 4, 2) := by decide +kernel
theorem dX1_meetingPoint_11 : decode cX1_meetingPoint 11 = .ok (.iload_n 1, 1) := by decide +kernel
theorem dX1_meetingPoint_12 : decode cX1_meetingPoint 12 = .ok (.iload_n 2, 1) := by decide +kernel
theorem dX1_meetingPoint_13 : decode cX1_meetingPoint 13 = .ok (.invokestatic 73, 3) := by decide +kernel
theorem dX1_meetingPoint_16 : decode cX1_meetingPoint 16 = .ok (.istore 5, 2) := by decide +kernel
theorem dX1_meetingPoint_18 : decode cX1_meetingPoint 18 = .ok (.iload 5, 2) := by decide +kernel
theorem dX1_meetingPoint_20 : decode cX1_meetingPoint 20 = .ok (.ifCond .le 90, 3) := by decide +kernel
theorem dX1_meetingPoint_23 : decode cX1_meetingPoint 23 = .ok (.iload_n 3, 1) := by decide +kernel
theorem dX1_meetingPoint_24 : decode cX1_meetingPoint 24 = .ok (.iload 5, 2) := by decide +kernel
theorem dX1_meetingPoint_26 : decode cX1_meetingPoint 26 = .ok (.invokestatic 78, 3) := by decide +kernel
theorem dX1_meetingPoint_29 : decode cX1_meetingPoint 29 = .ok (.istore 6, 2) := by decide +kernel
theorem dX1_meetingPoint_31 : decode cX1_meetingPoint 31 = .ok (.iload 4, 2) := by decide +kernel
theorem dX1_meetingPoint_33 : decode cX1_meetingPoint 33 = .ok (.iload 5, 2) := by decide +kernel
theorem dX1_meetingPoint_35 : decode cX1_meetingPoint 35 = .ok (.invokestatic 78, 3) := by decide +kernel
theorem dX1_meetingPoint_38 : decode cX1_meetingPoint 38 = .ok (.istore 7, 2) := by decide +kernel
theorem dX1_meetingPoint_40 : decode cX1_meetingPoint 40 = .ok (.iload 6, 2) := by decide +kernel
theorem dX1_meetingPoint_42 : decode cX1_meetingPoint 42 = .ok (.ifCond .eq 11, 3) := by decide +kernel
theorem dX1_meetingPoint_45 : decode cX1_meetingPoint 45 = .ok (.iload 7, 2) := by decide +kernel
theorem dX1_meetingPoint_47 : decode cX1_meetingPoint 47 = .ok (.ifCond .eq 6, 3) := by decide +kernel
theorem dX1_meetingPoint_50 : decode cX1_meetingPoint 50 = .ok (.iload 5, 2) := by decide +kernel
theorem dX1_meetingPoint_52 : decode cX1_meetingPoint 52 = .ok (.ireturn, 1) := by decide +kernel
theorem dX1_meetingPoint_53 : decode cX1_meetingPoint 53 = .ok (.aload_n 0, 1) := by decide +kernel
theorem dX1_meetingPoint_54 : decode cX1_meetingPoint 54 = .ok (.iload 5, 2) := by decide +kernel
theorem dX1_meetingPoint_56 : decode cX1_meetingPoint 56 = .ok (.invokevirtual 52, 3) := by decide +kernel
theorem dX1_meetingPoint_59 : decode cX1_meetingPoint 59 = .ok (.invokestatic 64, 3) := by decide +kernel
theorem dX1_meetingPoint_62 : decode cX1_meetingPoint 62 = .ok (.aload_n 0, 1) := by decide +kernel
theorem dX1_meetingPoint_63 : decode cX1_meetingPoint 63 = .ok (.iload 5, 2) := by decide +kernel
theorem dX1_meetingPoint_65 : decode cX1_meetingPoint 65 = .ok (.invokevirtual 85, 3) := by decide +kernel
theorem dX1_meetingPoint_68 : decode cX1_meetingPoint 68 = .ok (.invokestatic 64, 3) := by decide +kernel
theorem dX1_meetingPoint_71 : decode cX1_meetingPoint 71 = .ok (.ior, 1) := by decide +kernel
theorem dX1_meetingPoint_72 : decode cX1_meetingPoint 72 = .ok (.istore 8, 2) := by decide +kernel
theorem dX1_meetingPoint_74 : decode cX1_meetingPoint 74 = .ok (.iload_n 3, 1) := by decide +kernel
theorem dX1_meetingPoint_75 : decode cX1_meetingPoint 75 = .ok (.iload 6, 2) := by decide +kernel
theorem dX1_meetingPoint_77 : decode cX1_meetingPoint 77 = .ok (.ifCond .eq 8, 3) := by decide +kernel
theorem dX1_meetingPoint_80 : decode cX1_meetingPoint 80 = .ok (.iload 8, 2) := by decide +kernel
theorem dX1_meetingPoint_82 : decode cX1_meetingPoint 82 = .ok (.goto 4, 3) := by decide +kernel
theorem dX1_meetingPoint_85 : decode cX1_meetingPoint 85 = .ok (.iconst 0, 1) := by decide +kernel
theorem dX1_meetingPoint_86 : decode cX1_meetingPoint 86 = .ok (.ior, 1) := by decide +kernel
theorem dX1_meetingPoint_87 : decode cX1_meetingPoint 87 = .ok (.istore_n 3, 1) := by decide +kernel
theorem dX1_meetingPoint_88 : decode cX1_meetingPoint 88 = .ok (.iload 4, 2) := by decide +kernel
theorem dX1_meetingPoint_90 : decode cX1_meetingPoint 90 = .ok (.iload 7, 2) := by decide +kernel
theorem dX1_meetingPoint_92 : decode cX1_meetingPoint 92 = .ok (.ifCond .eq 8, 3) := by decide +kernel
theorem dX1_meetingPoint_95 : decode cX1_meetingPoint 95 = .ok (.iload 8, 2) := by decide +kernel
theorem dX1_meetingPoint_97 : decode cX1_meetingPoint 97 = .ok (.goto 4, 3) := by decide +kernel
theorem dX1_meetingPoint_100 : decode cX1_meetingPoint 100 = .ok (.iconst 0, 1) := by decide +kernel
theorem dX1_meetingPoint_101 : decode cX1_meetingPoint 101 = .ok (.ior, 1) := by decide +kernel
theorem dX1_meetingPoint_102 : decode cX1_meetingPoint 102 = .ok (.istore 4, 2) := by decide +kernel
theorem dX1_meetingPoint_104 : decode cX1_meetingPoint 104 = .ok (.iinc 5 (-1), 3) := by decide +kernel
theorem dX1_meetingPoint_107 : decode cX1_meetingPoint 107 = .ok (.goto (-89), 3) := by decide +kernel
theorem dX1_meetingPoint_110 : decode cX1_meetingPoint 110 = .ok (.iconst 0, 1) := by decide +kernel
theorem dX1_meetingPoint_111 : decode cX1_meetingPoint 111 = .ok (.ireturn, 1) := by decide +kernel
theorem dX1_isBornWell_0 : decode cX1_isBornWell 0 = .ok (.aload_n 0, 1) := by decide +kernel
theorem dX1_isBornWell_1 : decode cX1_isBornWell 1 = .ok (.iload_n 1, 1) := by decide +kernel
theorem dX1_isBornWell_2 : decode cX1_isBornWell 2 = .ok (.invokevirtual 52, 3) := by decide +kernel
theorem dX1_isBornWell_5 : decode cX1_isBornWell 5 = .ok (.istore_n 2, 1) := by decide +kernel
theorem dX1_isBornWell_6 : decode cX1_isBornWell 6 = .ok (.iload_n 2, 1) := by decide +kernel
theorem dX1_isBornWell_7 : decode cX1_isBornWell 7 = .ok (.iload_n 1, 1) := by decide +kernel
theorem dX1_isBornWell_8 : decode cX1_isBornWell 8 = .ok (.if_icmp .ge 12, 3) := by decide +kernel
theorem dX1_isBornWell_11 : decode cX1_isBornWell 11 = .ok (.aload_n 0, 1) := by decide +kernel
theorem dX1_isBornWell_12 : decode cX1_isBornWell 12 = .ok (.iload_n 1, 1) := by decide +kernel
theorem dX1_isBornWell_13 : decode cX1_isBornWell 13 = .ok (.invokevirtual 85, 3) := by decide +kernel
theorem dX1_isBornWell_16 : decode cX1_isBornWell 16 = .ok (.iload_n 1, 1) := by decide +kernel
theorem dX1_isBornWell_17 : decode cX1_isBornWell 17 = .ok (.if_icmp .lt 5, 3) := by decide +kernel
theorem dX1_isBornWell_20 : decode cX1_isBornWell 20 = .ok (.iconst 0, 1) := by decide +kernel
theorem dX1_isBornWell_21 : decode cX1_isBornWell 21 = .ok (.ireturn, 1) := by decide +kernel
theorem dX1_isBornWell_22 : decode cX1_isBornWell 22 = .ok (.iload_n 2, 1) := by decide +kernel
theorem dX1_isBornWell_23 : decode cX1_isBornWell 23 = .ok (.iconst (-1), 1) := by decide +kernel
theorem dX1_isBornWell_24 : decode cX1_isBornWell 24 = .ok (.if_icmp .eq 20, 3) := by decide +kernel
theorem dX1_isBornWell_27 : decode cX1_isBornWell 27 = .ok (.aload_n 0, 1) := by decide +kernel
theorem dX1_isBornWell_28 : decode cX1_isBornWell 28 = .ok (.iload_n 1, 1) := by decide +kernel
theorem dX1_isBornWell_29 : decode cX1_isBornWell 29 = .ok (.invokevirtual 88, 3) := by decide +kernel
theorem dX1_isBornWell_32 : decode cX1_isBornWell 32 = .ok (.ifCond .ne 12, 3) := by decide +kernel
theorem dX1_isBornWell_35 : decode cX1_isBornWell 35 = .ok (.aload_n 0, 1) := by decide +kernel
theorem dX1_isBornWell_36 : decode cX1_isBornWell 36 = .ok (.iload_n 1, 1) := by decide +kernel
theorem dX1_isBornWell_37 : decode cX1_isBornWell 37 = .ok (.invokevirtual 91, 3) := by decide +kernel
theorem dX1_isBornWell_40 : decode cX1_isBornWell 40 = .ok (.iconst 1, 1) := by decide +kernel
theorem dX1_isBornWell_41 : decode cX1_isBornWell 41 = .ok (.if_icmp .ne 7, 3) := by decide +kernel
theorem dX1_isBornWell_44 : decode cX1_isBornWell 44 = .ok (.iconst 1, 1) := by decide +kernel
theorem dX1_isBornWell_45 : decode cX1_isBornWell 45 = .ok (.goto 4, 3) := by decide +kernel
theorem dX1_isBornWell_48 : decode cX1_isBornWell 48 = .ok (.iconst 0, 1) := by decide +kernel
theorem dX1_isBornWell_49 : decode cX1_isBornWell 49 = .ok (.ireturn, 1) := by decide +kernel
theorem dX1_areBasesSame_0 : decode cX1_areBasesSame 0 = .ok (.iconst 0, 1) := by decide +kernel
theorem dX1_areBasesSame_1 : decode cX1_areBasesSame 1 = .ok (.istore_n 2, 1) := by decide +kernel
theorem dX1_areBasesSame_2 : decode cX1_areBasesSame 2 = .ok (.iload_n 2, 1) := by decide +kernel
theorem dX1_areBasesSame_3 : decode cX1_areBasesSame 3 = .ok (.iload_n 1, 1) := by decide +kernel
theorem dX1_areBasesSame_4 : decode cX1_areBasesSame 4 = .ok (.if_icmp .gt 38, 3) := by decide +kernel
theorem dX1_areBasesSame_7 : decode cX1_areBasesSame 7 = .ok (.aload_n 0, 1) := by decide +kernel
theorem dX1_areBasesSame_8 : decode cX1_areBasesSame 8 = .ok (.iload_n 1, 1) := by decide +kernel
theorem dX1_areBasesSame_9 : decode cX1_areBasesSame 9 = .ok (.iload_n 2, 1) := by decide +kernel
theorem dX1_areBasesSame_10 : decode cX1_areBasesSame 10 = .ok (.invokevirtual 94, 3) := by decide +kernel
theorem dX1_areBasesSame_13 : decode cX1_areBasesSame 13 = .ok (.istore_n 3, 1) := by decide +kernel
theorem dX1_areBasesSame_14 : decode cX1_areBasesSame 14 = .ok (.iload_n 3, 1) := by decide +kernel
theorem dX1_areBasesSame_15 : decode cX1_areBasesSame 15 = .ok (.aload_n 0, 1) := by decide +kernel
theorem dX1_areBasesSame_16 : decode cX1_areBasesSame 16 = .ok (.iload_n 1, 1) := by decide +kernel
theorem dX1_areBasesSame_17 : decode cX1_areBasesSame 17 = .ok (.iload_n 2, 1) := by decide +kernel
theorem dX1_areBasesSame_18 : decode cX1_areBasesSame 18 = .ok (.invokevirtual 97, 3) := by decide +kernel
theorem dX1_areBasesSame_21 : decode cX1_areBasesSame 21 = .ok (.if_icmp .ne 13, 3) := by decide +kernel
theorem dX1_areBasesSame_24 : decode cX1_areBasesSame 24 = .ok (.iload_n 3, 1) := by decide +kernel
theorem dX1_areBasesSame_25 : decode cX1_areBasesSame 25 = .ok (.aload_n 0, 1) := by decide +kernel
theorem dX1_areBasesSame_26 : decode cX1_areBasesSame 26 = .ok (.iload_n 2, 1) := by decide +kernel
theorem dX1_areBasesSame_27 : decode cX1_areBasesSame 27 = .ok (.iload_n 1, 1) := by decide +kernel
theorem dX1_areBasesSame_28 : decode cX1_areBasesSame 28 = .ok (.invokevirtual 97, 3) := by decide +kernel
theorem dX1_areBasesSame_31 : decode cX1_areBasesSame 31 = .ok (.if_icmp .eq 5, 3) := by decide +kernel
theorem dX1_areBasesSame_34 : decode cX1_areBasesSame 34 = .ok (.iconst 0, 1) := by decide +kernel
theorem dX1_areBasesSame_35 : decode cX1_areBasesSame 35 = .ok (.ireturn, 1) := by decide +kernel
theorem dX1_areBasesSame_36 : decode cX1_areBasesSame 36 = .ok (.iinc 2 1, 3) := by decide +kernel
theorem dX1_areBasesSame_39 : decode cX1_areBasesSame 39 = .ok (.goto (-37), 3) := by decide +kernel
theorem dX1_areBasesSame_42 : decode cX1_areBasesSame 42 = .ok (.iconst 1, 1) := by decide +kernel
theorem dX1_areBasesSame_43 : decode cX1_areBasesSame 43 = .ok (.ireturn, 1) := by decide +kernel
theorem dX1_tasteOf_0 : decode cX1_tasteOf 0 = .ok (.fconst 0, 1) := by decide +kernel
theorem dX1_tasteOf_1 : decode cX1_tasteOf 1 = .ok (.fstore_n 2, 1) := by decide +kernel
theorem dX1_tasteOf_2 : decode cX1_tasteOf 2 = .ok (.iconst 0, 1) := by decide +kernel
theorem dX1_tasteOf_3 : decode cX1_tasteOf 3 = .ok (.istore_n 3, 1) := by decide +kernel
theorem dX1_tasteOf_4 : decode cX1_tasteOf 4 = .ok (.iconst 0, 1) := by decide +kernel
theorem dX1_tasteOf_5 : decode cX1_tasteOf 5 = .ok (.istore 4, 2) := by decide +kernel
theorem dX1_tasteOf_7 : decode cX1_tasteOf 7 = .ok (.iload 4, 2) := by decide +kernel
theorem dX1_tasteOf_9 : decode cX1_tasteOf 9 = .ok (.bipush 6, 2) := by decide +kernel
theorem dX1_tasteOf_11 : decode cX1_tasteOf 11 = .ok (.if_icmp .ge 38, 3) := by decide +kernel
theorem dX1_tasteOf_14 : decode cX1_tasteOf 14 = .ok (.aload_n 0, 1) := by decide +kernel
theorem dX1_tasteOf_15 : decode cX1_tasteOf 15 = .ok (.iload_n 1, 1) := by decide +kernel
theorem dX1_tasteOf_16 : decode cX1_tasteOf 16 = .ok (.iload 4, 2) := by decide +kernel
theorem dX1_tasteOf_18 : decode cX1_tasteOf 18 = .ok (.invokevirtual 56, 3) := by decide +kernel
theorem dX1_tasteOf_21 : decode cX1_tasteOf 21 = .ok (.istore 5, 2) := by decide +kernel
theorem dX1_tasteOf_23 : decode cX1_tasteOf 23 = .ok (.fload_n 2, 1) := by decide +kernel
theorem dX1_tasteOf_24 : decode cX1_tasteOf 24 = .ok (.iload 5, 2) := by decide +kernel
theorem dX1_tasteOf_26 : decode cX1_tasteOf 26 = .ok (.i2f, 1) := by decide +kernel
theorem dX1_tasteOf_27 : decode cX1_tasteOf 27 = .ok (.iload 4, 2) := by decide +kernel
theorem dX1_tasteOf_29 : decode cX1_tasteOf 29 = .ok (.iconst 1, 1) := by decide +kernel
theorem dX1_tasteOf_30 : decode cX1_tasteOf 30 = .ok (.iadd, 1) := by decide +kernel
theorem dX1_tasteOf_31 : decode cX1_tasteOf 31 = .ok (.i2f, 1) := by decide +kernel
theorem dX1_tasteOf_32 : decode cX1_tasteOf 32 = .ok (.fmul, 1) := by decide +kernel
theorem dX1_tasteOf_33 : decode cX1_tasteOf 33 = .ok (.ldc 100, 2) := by decide +kernel
theorem dX1_tasteOf_35 : decode cX1_tasteOf 35 = .ok (.fdiv, 1) := by decide +kernel
theorem dX1_tasteOf_36 : decode cX1_tasteOf 36 = .ok (.fadd, 1) := by decide +kernel
theorem dX1_tasteOf_37 : decode cX1_tasteOf 37 = .ok (.fstore_n 2, 1) := by decide +kernel
theorem dX1_tasteOf_38 : decode cX1_tasteOf 38 = .ok (.iload_n 3, 1) := by decide +kernel
theorem dX1_tasteOf_39 : decode cX1_tasteOf 39 = .ok (.iload 5, 2) := by decide +kernel
theorem dX1_tasteOf_41 : decode cX1_tasteOf 41 = .ok (.iadd, 1) := by decide +kernel
theorem dX1_tasteOf_42 : decode cX1_tasteOf 42 = .ok (.istore_n 3, 1) := by decide +kernel
theorem dX1_tasteOf_43 : decode cX1_tasteOf 43 = .ok (.iinc 4 1, 3) := by decide +kernel
theorem dX1_tasteOf_46 : decode cX1_tasteOf 46 = .ok (.goto (-39), 3) := by decide +kernel
theorem dX1_tasteOf_49 : decode cX1_tasteOf 49 = .ok (.iconst 1, 1) := by decide +kernel
theorem dX1_tasteOf_50 : decode cX1_tasteOf 50 = .ok (.iload_n 3, 1) := by decide +kernel
theorem dX1_tasteOf_51 : decode cX1_tasteOf 51 = .ok (.iadd, 1) := by decide +kernel
theorem dX1_tasteOf_52 : decode cX1_tasteOf 52 = .ok (.i2f, 1) := by decide +kernel
theorem dX1_tasteOf_53 : decode cX1_tasteOf 53 = .ok (.fstore 4, 2) := by decide +kernel
theorem dX1_tasteOf_55 : decode cX1_tasteOf 55 = .ok (.fload 4, 2) := by decide +kernel
theorem dX1_tasteOf_57 : decode cX1_tasteOf 57 = .ok (.fconst 0, 1) := by decide +kernel
theorem dX1_tasteOf_58 : decode cX1_tasteOf 58 = .ok (.fcmp .l, 1) := by decide +kernel
theorem dX1_tasteOf_59 : decode cX1_tasteOf 59 = .ok (.ifCond .le 10, 3) := by decide +kernel
theorem dX1_tasteOf_62 : decode cX1_tasteOf 62 = .ok (.fload_n 2, 1) := by decide +kernel
theorem dX1_tasteOf_63 : decode cX1_tasteOf 63 = .ok (.fload 4, 2) := by decide +kernel
theorem dX1_tasteOf_65 : decode cX1_tasteOf 65 = .ok (.fdiv, 1) := by decide +kernel
theorem dX1_tasteOf_66 : decode cX1_tasteOf 66 = .ok (.goto 4, 3) := by decide +kernel
theorem dX1_tasteOf_69 : decode cX1_tasteOf 69 = .ok (.fconst 0, 1) := by decide +kernel
theorem dX1_tasteOf_70 : decode cX1_tasteOf 70 = .ok (.freturn, 1) := by decide +kernel
theorem dX1_countKind_0 : decode cX1_countKind 0 = .ok (.iconst 0, 1) := by decide +kernel
theorem dX1_countKind_1 : decode cX1_countKind 1 = .ok (.istore_n 2, 1) := by decide +kernel
theorem dX1_countKind_2 : decode cX1_countKind 2 = .ok (.iconst 0, 1) := by decide +kernel
theorem dX1_countKind_3 : decode cX1_countKind 3 = .ok (.istore_n 3, 1) := by decide +kernel
theorem dX1_countKind_4 : decode cX1_countKind 4 = .ok (.iload_n 3, 1) := by decide +kernel
theorem dX1_countKind_5 : decode cX1_countKind 5 = .ok (.aload_n 0, 1) := by decide +kernel
theorem dX1_countKind_6 : decode cX1_countKind 6 = .ok (.getfield 36, 3) := by decide +kernel
theorem dX1_countKind_9 : decode cX1_countKind 9 = .ok (.if_icmp .ge 21, 3) := by decide +kernel
theorem dX1_countKind_12 : decode cX1_countKind 12 = .ok (.aload_n 0, 1) := by decide +kernel
theorem dX1_countKind_13 : decode cX1_countKind 13 = .ok (.iload_n 3, 1) := by decide +kernel
theorem dX1_countKind_14 : decode cX1_countKind 14 = .ok (.invokevirtual 88, 3) := by decide +kernel
theorem dX1_countKind_17 : decode cX1_countKind 17 = .ok (.iload_n 1, 1) := by decide +kernel
theorem dX1_countKind_18 : decode cX1_countKind 18 = .ok (.if_icmp .ne 6, 3) := by decide +kernel
theorem dX1_countKind_21 : decode cX1_countKind 21 = .ok (.iinc 2 1, 3) := by decide +kernel
theorem dX1_countKind_24 : decode cX1_countKind 24 = .ok (.iinc 3 1, 3) := by decide +kernel
theorem dX1_countKind_27 : decode cX1_countKind 27 = .ok (.goto (-23), 3) := by decide +kernel
theorem dX1_countKind_30 : decode cX1_countKind 30 = .ok (.iload_n 2, 1) := by decide +kernel
theorem dX1_countKind_31 : decode cX1_countKind 31 = .ok (.ireturn, 1) := by decide +kernel
theorem dX1_countLost_0 : decode cX1_countLost 0 = .ok (.iconst 0, 1) := by decide +kernel
theorem dX1_countLost_1 : decode cX1_countLost 1 = .ok (.istore_n 1, 1) := by decide +kernel
theorem dX1_countLost_2 : decode cX1_countLost 2 = .ok (.iconst 0, 1) := by decide +kernel
theorem dX1_countLost_3 : decode cX1_countLost 3 = .ok (.istore_n 2, 1) := by decide +kernel
theorem dX1_countLost_4 : decode cX1_countLost 4 = .ok (.iload_n 2, 1) := by decide +kernel
theorem dX1_countLost_5 : decode cX1_countLost 5 = .ok (.aload_n 0, 1) := by decide +kernel
theorem dX1_countLost_6 : decode cX1_countLost 6 = .ok (.getfield 40, 3) := by decide +kernel
theorem dX1_countLost_9 : decode cX1_countLost 9 = .ok (.if_icmp .ge 21, 3) := by decide +kernel
theorem dX1_countLost_12 : decode cX1_countLost 12 = .ok (.iload_n 1, 1) := by decide +kernel
theorem dX1_countLost_13 : decode cX1_countLost 13 = .ok (.aload_n 0, 1) := by decide +kernel
theorem dX1_countLost_14 : decode cX1_countLost 14 = .ok (.aload_n 0, 1) := by decide +kernel
theorem dX1_countLost_15 : decode cX1_countLost 15 = .ok (.iload_n 2, 1) := by decide +kernel
theorem dX1_countLost_16 : decode cX1_countLost 16 = .ok (.invokevirtual 101, 3) := by decide +kernel
theorem dX1_countLost_19 : decode cX1_countLost 19 = .ok (.invokevirtual 67, 3) := by decide +kernel
theorem dX1_countLost_22 : decode cX1_countLost 22 = .ok (.ior, 1) := by decide +kernel
theorem dX1_countLost_23 : decode cX1_countLost 23 = .ok (.istore_n 1, 1) := by decide +kernel
theorem dX1_countLost_24 : decode cX1_countLost 24 = .ok (.iinc 2 1, 3) := by decide +kernel
theorem dX1_countLost_27 : decode cX1_countLost 27 = .ok (.goto (-23), 3) := by decide +kernel
theorem dX1_countLost_30 : decode cX1_countLost 30 = .ok (.aload_n 0, 1) := by decide +kernel
theorem dX1_countLost_31 : decode cX1_countLost 31 = .ok (.getfield 36, 3) := by decide +kernel
theorem dX1_countLost_34 : decode cX1_countLost 34 = .ok (.iload_n 1, 1) := by decide +kernel
theorem dX1_countLost_35 : decode cX1_countLost 35 = .ok (.invokestatic 104, 3) := by decide +kernel
theorem dX1_countLost_38 : decode cX1_countLost 38 = .ok (.isub, 1) := by decide +kernel
theorem dX1_countLost_39 : decode cX1_countLost 39 = .ok (.ireturn, 1) := by decide +kernel
theorem dX1_sumOfTips_0 : decode cX1_sumOfTips 0 = .ok (.iconst 0, 1) := by decide +kernel
theorem dX1_sumOfTips_1 : decode cX1_sumOfTips 1 = .ok (.istore_n 1, 1) := by decide +kernel
theorem dX1_sumOfTips_2 : decode cX1_sumOfTips 2 = .ok (.iconst 0, 1) := by decide +kernel
theorem dX1_sumOfTips_3 : decode cX1_sumOfTips 3 = .ok (.istore_n 2, 1) := by decide +kernel
theorem dX1_sumOfTips_4 : decode cX1_sumOfTips 4 = .ok (.iload_n 2, 1) := by decide +kernel
theorem dX1_sumOfTips_5 : decode cX1_sumOfTips 5 = .ok (.aload_n 0, 1) := by decide +kernel
theorem dX1_sumOfTips_6 : decode cX1_sumOfTips 6 = .ok (.getfield 40, 3) := by decide +kernel
theorem dX1_sumOfTips_9 : decode cX1_sumOfTips 9 = .ok (.if_icmp .ge 36, 3) := by decide +kernel
theorem dX1_sumOfTips_12 : decode cX1_sumOfTips 12 = .ok (.iconst 0, 1) := by decide +kernel
theorem dX1_sumOfTips_13 : decode cX1_sumOfTips 13 = .ok (.istore_n 3, 1) := by decide +kernel
theorem dX1_sumOfTips_14 : decode cX1_sumOfTips 14 = .ok (.iload_n 3, 1) := by decide +kernel
theorem dX1_sumOfTips_15 : decode cX1_sumOfTips 15 = .ok (.bipush 6, 2) := by decide +kernel
theorem dX1_sumOfTips_17 : decode cX1_sumOfTips 17 = .ok (.if_icmp .ge 22, 3) := by decide +kernel
theorem dX1_sumOfTips_20 : decode cX1_sumOfTips 20 = .ok (.iload_n 1, 1) := by decide +kernel
theorem dX1_sumOfTips_21 : decode cX1_sumOfTips 21 = .ok (.aload_n 0, 1) := by decide +kernel
theorem dX1_sumOfTips_22 : decode cX1_sumOfTips 22 = .ok (.aload_n 0, 1) := by decide +kernel
theorem dX1_sumOfTips_23 : decode cX1_sumOfTips 23 = .ok (.iload_n 2, 1) := by decide +kernel
theorem dX1_sumOfTips_24 : decode cX1_sumOfTips 24 = .ok (.invokevirtual 101, 3) := by decide +kernel
theorem dX1_sumOfTips_27 : decode cX1_sumOfTips 27 = .ok (.iload_n 3, 1) := by decide +kernel
theorem dX1_sumOfTips_28 : decode cX1_sumOfTips 28 = .ok (.invokevirtual 56, 3) := by decide +kernel
theorem dX1_sumOfTips_31 : decode cX1_sumOfTips 31 = .ok (.iadd, 1) := by decide +kernel
theorem dX1_sumOfTips_32 : decode cX1_sumOfTips 32 = .ok (.istore_n 1, 1) := by decide +kernel
theorem dX1_sumOfTips_33 : decode cX1_sumOfTips 33 = .ok (.iinc 3 1, 3) := by decide +kernel
theorem dX1_sumOfTips_36 : decode cX1_sumOfTips 36 = .ok (.goto (-22), 3) := by decide +kernel
theorem dX1_sumOfTips_39 : decode cX1_sumOfTips 39 = .ok (.iinc 2 1, 3) := by decide +kernel
theorem dX1_sumOfTips_42 : decode cX1_sumOfTips 42 = .ok (.goto (-38), 3) := by decide +kernel
theorem dX1_sumOfTips_45 : decode cX1_sumOfTips 45 = .ok (.iload_n 1, 1) := by decide +kernel
theorem dX1_sumOfTips_46 : decode cX1_sumOfTips 46 = .ok (.ireturn, 1) := by decide +kernel
theorem dX1_bundleKind_0 : decode cX1_bundleKind 0 = .ok (.aload_n 0, 1) := by decide +kernel
theorem dX1_bundleKind_1 : decode cX1_bundleKind 1 = .ok (.getfield 43, 3) := by decide +kernel
theorem dX1_bundleKind_4 : decode cX1_bundleKind 4 = .ok (.ireturn, 1) := by decide +kernel
theorem dX1_bundledAt_0 : decode cX1_bundledAt 0 = .ok (.iload_n 1, 1) := by decide +kernel
theorem dX1_bundledAt_1 : decode cX1_bundledAt 1 = .ok (.ifCond .lt 17, 3) := by decide +kernel
theorem dX1_bundledAt_4 : decode cX1_bundledAt 4 = .ok (.iload_n 1, 1) := by decide +kernel
theorem dX1_bundledAt_5 : decode cX1_bundledAt 5 = .ok (.iconst 4, 1) := by decide +kernel
theorem dX1_bundledAt_6 : decode cX1_bundledAt 6 = .ok (.if_icmp .ge 12, 3) := by decide +kernel
theorem dX1_bundledAt_9 : decode cX1_bundledAt 9 = .ok (.aload_n 0, 1) := by decide +kernel
theorem dX1_bundledAt_10 : decode cX1_bundledAt 10 = .ok (.getfield 33, 3) := by decide +kernel
theorem dX1_bundledAt_13 : decode cX1_bundledAt 13 = .ok (.iload_n 1, 1) := by decide +kernel
theorem dX1_bundledAt_14 : decode cX1_bundledAt 14 = .ok (.iaload, 1) := by decide +kernel
theorem dX1_bundledAt_15 : decode cX1_bundledAt 15 = .ok (.goto 4, 3) := by decide +kernel
theorem dX1_bundledAt_18 : decode cX1_bundledAt 18 = .ok (.iconst (-1), 1) := by decide +kernel
theorem dX1_bundledAt_19 : decode cX1_bundledAt 19 = .ok (.ireturn, 1) := by decide +kernel
theorem dX1_bundledCount_0 : decode cX1_bundledCount 0 = .ok (.iconst 0, 1) := by decide +kernel
theorem dX1_bundledCount_1 : decode cX1_bundledCount 1 = .ok (.istore_n 1, 1) := by decide +kernel
theorem dX1_bundledCount_2 : decode cX1_bundledCount 2 = .ok (.iconst 0, 1) := by decide +kernel
theorem dX1_bundledCount_3 : decode cX1_bundledCount 3 = .ok (.istore_n 2, 1) := by decide +kernel
theorem dX1_bundledCount_4 : decode cX1_bundledCount 4 = .ok (.iload_n 2, 1) := by decide +kernel
theorem dX1_bundledCount_5 : decode cX1_bundledCount 5 = .ok (.iconst 4, 1) := by decide +kernel
theorem dX1_bundledCount_6 : decode cX1_bundledCount 6 = .ok (.if_icmp .ge 22, 3) := by decide +kernel
theorem dX1_bundledCount_9 : decode cX1_bundledCount 9 = .ok (.aload_n 0, 1) := by decide +kernel
theorem dX1_bundledCount_10 : decode cX1_bundledCount 10 = .ok (.getfield 33, 3) := by decide +kernel
theorem dX1_bundledCount_13 : decode cX1_bundledCount 13 = .ok (.iload_n 2, 1) := by decide +kernel
theorem dX1_bundledCount_14 : decode cX1_bundledCount 14 = .ok (.iaload, 1) := by decide +kernel
theorem dX1_bundledCount_15 : decode cX1_bundledCount 15 = .ok (.iconst (-1), 1) := by decide +kernel
theorem dX1_bundledCount_16 : decode cX1_bundledCount 16 = .ok (.if_icmp .eq 6, 3) := by decide +kernel
theorem dX1_bundledCount_19 : decode cX1_bundledCount 19 = .ok (.iinc 1 1, 3) := by decide +kernel
theorem dX1_bundledCount_22 : decode cX1_bundledCount 22 = .ok (.iinc 2 1, 3) := by decide +kernel
theorem dX1_bundledCount_25 : decode cX1_bundledCount 25 = .ok (.goto (-21), 3) := by decide +kernel
theorem dX1_bundledCount_28 : decode cX1_bundledCount 28 = .ok (.iload_n 1, 1) := by decide +kernel
theorem dX1_bundledCount_29 : decode cX1_bundledCount 29 = .ok (.ireturn, 1) := by decide +kernel
theorem dX1_placeOf_0 : decode cX1_placeOf 0 = .ok (.iconst 0, 1) := by decide +kernel
theorem dX1_placeOf_1 : decode cX1_placeOf 1 = .ok (.istore_n 2, 1) := by decide +kernel
theorem dX1_placeOf_2 : decode cX1_placeOf 2 = .ok (.iload_n 2, 1) := by decide +kernel
theorem dX1_placeOf_3 : decode cX1_placeOf 3 = .ok (.iconst 4, 1) := by decide +kernel
theorem dX1_placeOf_4 : decode cX1_placeOf 4 = .ok (.if_icmp .ge 21, 3) := by decide +kernel
theorem dX1_placeOf_7 : decode cX1_placeOf 7 = .ok (.aload_n 0, 1) := by decide +kernel
theorem dX1_placeOf_8 : decode cX1_placeOf 8 = .ok (.getfield 33, 3) := by decide +kernel
theorem dX1_placeOf_11 : decode cX1_placeOf 11 = .ok (.iload_n 2, 1) := by decide +kernel
theorem dX1_placeOf_12 : decode cX1_placeOf 12 = .ok (.iaload, 1) := by decide +kernel
theorem dX1_placeOf_13 : decode cX1_placeOf 13 = .ok (.iload_n 1, 1) := by decide +kernel
theorem dX1_placeOf_14 : decode cX1_placeOf 14 = .ok (.if_icmp .ne 5, 3) := by decide +kernel
theorem dX1_placeOf_17 : decode cX1_placeOf 17 = .ok (.iload_n 2, 1) := by decide +kernel
theorem dX1_placeOf_18 : decode cX1_placeOf 18 = .ok (.ireturn, 1) := by decide +kernel
theorem dX1_placeOf_19 : decode cX1_placeOf 19 = .ok (.iinc 2 1, 3) := by decide +kernel
theorem dX1_placeOf_22 : decode cX1_placeOf 22 = .ok (.goto (-20), 3) := by decide +kernel
theorem dX1_placeOf_25 : decode cX1_placeOf 25 = .ok (.iconst (-1), 1) := by decide +kernel
theorem dX1_placeOf_26 : decode cX1_placeOf 26 = .ok (.ireturn, 1) := by decide +kernel
theorem dX1_takeBundle_0 : decode cX1_takeBundle 0 = .ok (.aload_n 0, 1) := by decide +kernel
theorem dX1_takeBundle_1 : decode cX1_takeBundle 1 = .ok (.iload_n 1, 1) := by decide +kernel
theorem dX1_takeBundle_2 : decode cX1_takeBundle 2 = .ok (.putfield 43, 3) := by decide +kernel
theorem dX1_takeBundle_5 : decode cX1_takeBundle 5 = .ok (.iconst 0, 1) := by decide +kernel
theorem dX1_takeBundle_6 : decode cX1_takeBundle 6 = .ok (.istore_n 2, 1) := by decide +kernel
theorem dX1_takeBundle_7 : decode cX1_takeBundle 7 = .ok (.iload_n 2, 1) := by decide +kernel
theorem dX1_takeBundle_8 : decode cX1_takeBundle 8 = .ok (.iconst 4, 1) := by decide +kernel
theorem dX1_takeBundle_9 : decode cX1_takeBundle 9 = .ok (.if_icmp .ge 16, 3) := by decide +kernel
theorem dX1_takeBundle_12 : decode cX1_takeBundle 12 = .ok (.aload_n 0, 1) := by decide +kernel
theorem dX1_takeBundle_13 : decode cX1_takeBundle 13 = .ok (.getfield 33, 3) := by decide +kernel
theorem dX1_takeBundle_16 : decode cX1_takeBundle 16 = .ok (.iload_n 2, 1) := by decide +kernel
theorem dX1_takeBundle_17 : decode cX1_takeBundle 17 = .ok (.iconst (-1), 1) := by decide +kernel
theorem dX1_takeBundle_18 : decode cX1_takeBundle 18 = .ok (.iastore, 1) := by decide +kernel
theorem dX1_takeBundle_19 : decode cX1_takeBundle 19 = .ok (.iinc 2 1, 3) := by decide +kernel
theorem dX1_takeBundle_22 : decode cX1_takeBundle 22 = .ok (.goto (-15), 3) := by decide +kernel
theorem dX1_takeBundle_25 : decode cX1_takeBundle 25 = .ok (.return_, 1) := by decide +kernel
theorem dX1_fillPlace_0 : decode cX1_fillPlace 0 = .ok (.iload_n 1, 1) := by decide +kernel
theorem dX1_fillPlace_1 : decode cX1_fillPlace 1 = .ok (.ifCond .lt 15, 3) := by decide +kernel
theorem dX1_fillPlace_4 : decode cX1_fillPlace 4 = .ok (.iload_n 1, 1) := by decide +kernel
theorem dX1_fillPlace_5 : decode cX1_fillPlace 5 = .ok (.iconst 4, 1) := by decide +kernel
theorem dX1_fillPlace_6 : decode cX1_fillPlace 6 = .ok (.if_icmp .ge 10, 3) := by decide +kernel
theorem dX1_fillPlace_9 : decode cX1_fillPlace 9 = .ok (.aload_n 0, 1) := by decide +kernel
theorem dX1_fillPlace_10 : decode cX1_fillPlace 10 = .ok (.getfield 33, 3) := by decide +kernel
theorem dX1_fillPlace_13 : decode cX1_fillPlace 13 = .ok (.iload_n 1, 1) := by decide +kernel
theorem dX1_fillPlace_14 : decode cX1_fillPlace 14 = .ok (.iload_n 2, 1) := by decide +kernel
theorem dX1_fillPlace_15 : decode cX1_fillPlace 15 = .ok (.iastore, 1) := by decide +kernel
theorem dX1_fillPlace_16 : decode cX1_fillPlace 16 = .ok (.return_, 1) := by decide +kernel
theorem dX2_init_0 : decode cX2_init 0 = .ok (.aload_n 0, 1) := by decide +kernel
theorem dX2_init_1 : decode cX2_init 1 = .ok (.invokespecial 3, 3) := by decide +kernel
theorem dX2_init_4 : decode cX2_init 4 = .ok (.aload_n 0, 1) := by decide +kernel
theorem dX2_init_5 : decode cX2_init 5 = .ok (.bipush 8, 2) := by decide +kernel
theorem dX2_init_7 : decode cX2_init 7 = .ok (.anewarray 9, 3) := by decide +kernel
theorem dX2_init_10 : decode cX2_init 10 = .ok (.putfield 11, 3) := by decide +kernel
theorem dX2_init_13 : decode cX2_init 13 = .ok (.iconst 0, 1) := by decide +kernel
theorem dX2_init_14 : decode cX2_init 14 = .ok (.istore_n 1, 1) := by decide +kernel
theorem dX2_init_15 : decode cX2_init 15 = .ok (.iload_n 1, 1) := by decide +kernel
theorem dX2_init_16 : decode cX2_init 16 = .ok (.bipush 8, 2) := by decide +kernel
theorem dX2_init_18 : decode cX2_init 18 = .ok (.if_icmp .ge 22, 3) := by decide +kernel
theorem dX2_init_21 : decode cX2_init 21 = .ok (.aload_n 0, 1) := by decide +kernel
theorem dX2_init_22 : decode cX2_init 22 = .ok (.getfield 11, 3) := by decide +kernel
theorem dX2_init_25 : decode cX2_init 25 = .ok (.iload_n 1, 1) := by decide +kernel
theorem dX2_init_26 : decode cX2_init 26 = .ok (.new 9, 3) := by decide +kernel
theorem dX2_init_29 : decode cX2_init 29 = .ok (.dup, 1) := by decide +kernel
theorem dX2_init_30 : decode cX2_init 30 = .ok (.invokespecial 17, 3) := by decide +kernel
theorem dX2_init_33 : decode cX2_init 33 = .ok (.aastore, 1) := by decide +kernel
theorem dX2_init_34 : decode cX2_init 34 = .ok (.iinc 1 1, 3) := by decide +kernel
theorem dX2_init_37 : decode cX2_init 37 = .ok (.goto (-22), 3) := by decide +kernel
theorem dX2_init_40 : decode cX2_init 40 = .ok (.aload_n 0, 1) := by decide +kernel
theorem dX2_init_41 : decode cX2_init 41 = .ok (.iconst 0, 1) := by decide +kernel
theorem dX2_init_42 : decode cX2_init 42 = .ok (.putfield 18, 3) := by decide +kernel
theorem dX2_init_45 : decode cX2_init 45 = .ok (.aload_n 0, 1) := by decide +kernel
theorem dX2_init_46 : decode cX2_init 46 = .ok (.iconst 0, 1) := by decide +kernel
theorem dX2_init_47 : decode cX2_init 47 = .ok (.putfield 22, 3) := by decide +kernel
theorem dX2_init_50 : decode cX2_init 50 = .ok (.return_, 1) := by decide +kernel
theorem dX2_size_0 : decode cX2_size 0 = .ok (.aload_n 0, 1) := by decide +kernel
theorem dX2_size_1 : decode cX2_size 1 = .ok (.getfield 22, 3) := by decide +kernel
theorem dX2_size_4 : decode cX2_size 4 = .ok (.ireturn, 1) := by decide +kernel
theorem dX2_forgetAll_0 : decode cX2_forgetAll 0 = .ok (.aload_n 0, 1) := by decide +kernel
theorem dX2_forgetAll_1 : decode cX2_forgetAll 1 = .ok (.iconst 0, 1) := by decide +kernel
theorem dX2_forgetAll_2 : decode cX2_forgetAll 2 = .ok (.putfield 22, 3) := by decide +kernel
theorem dX2_forgetAll_5 : decode cX2_forgetAll 5 = .ok (.return_, 1) := by decide +kernel
theorem dX2_keep_0 : decode cX2_keep 0 = .ok (.aload_n 0, 1) := by decide +kernel
theorem dX2_keep_1 : decode cX2_keep 1 = .ok (.aload_n 0, 1) := by decide +kernel
theorem dX2_keep_2 : decode cX2_keep 2 = .ok (.getfield 18, 3) := by decide +kernel
theorem dX2_keep_5 : decode cX2_keep 5 = .ok (.invokevirtual 25, 3) := by decide +kernel
theorem dX2_keep_8 : decode cX2_keep 8 = .ok (.astore_n 2, 1) := by decide +kernel
theorem dX2_keep_9 : decode cX2_keep 9 = .ok (.aload_n 2, 1) := by decide +kernel
theorem dX2_keep_10 : decode cX2_keep 10 = .ok (.ifnonnull 4, 3) := by decide +kernel
theorem dX2_keep_13 : decode cX2_keep 13 = .ok (.return_, 1) := by decide +kernel
theorem dX2_keep_14 : decode cX2_keep 14 = .ok (.aload_n 2, 1) := by decide +kernel
theorem dX2_keep_15 : decode cX2_keep 15 = .ok (.aload_n 1, 1) := by decide +kernel
theorem dX2_keep_16 : decode cX2_keep 16 = .ok (.invokevirtual 29, 3) := by decide +kernel
theorem dX2_keep_19 : decode cX2_keep 19 = .ok (.aload_n 0, 1) := by decide +kernel
theorem dX2_keep_20 : decode cX2_keep 20 = .ok (.aload_n 0, 1) := by decide +kernel
theorem dX2_keep_21 : decode cX2_keep 21 = .ok (.getfield 18, 3) := by decide +kernel
theorem dX2_keep_24 : decode cX2_keep 24 = .ok (.iconst 1, 1) := by decide +kernel
theorem dX2_keep_25 : decode cX2_keep 25 = .ok (.iadd, 1) := by decide +kernel
theorem dX2_keep_26 : decode cX2_keep 26 = .ok (.bipush 8, 2) := by decide +kernel
theorem dX2_keep_28 : decode cX2_keep 28 = .ok (.irem, 1) := by decide +kernel
theorem dX2_keep_29 : decode cX2_keep 29 = .ok (.putfield 18, 3) := by decide +kernel
theorem dX2_keep_32 : decode cX2_keep 32 = .ok (.aload_n 0, 1) := by decide +kernel
theorem dX2_keep_33 : decode cX2_keep 33 = .ok (.aload_n 0, 1) := by decide +kernel
theorem dX2_keep_34 : decode cX2_keep 34 = .ok (.getfield 22, 3) := by decide +kernel
theorem dX2_keep_37 : decode cX2_keep 37 = .ok (.iconst 1, 1) := by decide +kernel
theorem dX2_keep_38 : decode cX2_keep 38 = .ok (.iadd, 1) := by decide +kernel
theorem dX2_keep_39 : decode cX2_keep 39 = .ok (.bipush 8, 2) := by decide +kernel
theorem dX2_keep_41 : decode cX2_keep 41 = .ok (.invokestatic 33, 3) := by decide +kernel
theorem dX2_keep_44 : decode cX2_keep 44 = .ok (.putfield 22, 3) := by decide +kernel
theorem dX2_keep_47 : decode cX2_keep 47 = .ok (.return_, 1) := by decide +kernel
theorem dX2_takeBack_0 : decode cX2_takeBack 0 = .ok (.aload_n 0, 1) := by decide +kernel
theorem dX2_takeBack_1 : decode cX2_takeBack 1 = .ok (.getfield 18, 3) := by decide +kernel
theorem dX2_takeBack_4 : decode cX2_takeBack 4 = .ok (.bipush 8, 2) := by decide +kernel
theorem dX2_takeBack_6 : decode cX2_takeBack 6 = .ok (.iadd, 1) := by decide +kernel
theorem dX2_takeBack_7 : decode cX2_takeBack 7 = .ok (.iconst 1, 1) := by decide +kernel
theorem dX2_takeBack_8 : decode cX2_takeBack 8 = .ok (.isub, 1) := by decide +kernel
theorem dX2_takeBack_9 : decode cX2_takeBack 9 = .ok (.bipush 8, 2) := by decide +kernel
theorem dX2_takeBack_11 : decode cX2_takeBack 11 = .ok (.irem, 1) := by decide +kernel
theorem dX2_takeBack_12 : decode cX2_takeBack 12 = .ok (.istore_n 2, 1) := by decide +kernel
theorem dX2_takeBack_13 : decode cX2_takeBack 13 = .ok (.aload_n 0, 1) := by decide +kernel
theorem dX2_takeBack_14 : decode cX2_takeBack 14 = .ok (.iload_n 2, 1) := by decide +kernel
theorem dX2_takeBack_15 : decode cX2_takeBack 15 = .ok (.invokevirtual 25, 3) := by decide +kernel
theorem dX2_takeBack_18 : decode cX2_takeBack 18 = .ok (.astore_n 3, 1) := by decide +kernel
theorem dX2_takeBack_19 : decode cX2_takeBack 19 = .ok (.aload_n 3, 1) := by decide +kernel
theorem dX2_takeBack_20 : decode cX2_takeBack 20 = .ok (.ifnull 11, 3) := by decide +kernel
theorem dX2_takeBack_23 : decode cX2_takeBack 23 = .ok (.aload_n 0, 1) := by decide +kernel
theorem dX2_takeBack_24 : decode cX2_takeBack 24 = .ok (.getfield 22, 3) := by decide +kernel
theorem dX2_takeBack_27 : decode cX2_takeBack 27 = .ok (.iconst 1, 1) := by decide +kernel
theorem dX2_takeBack_28 : decode cX2_takeBack 28 = .ok (.if_icmp .ge 5, 3) := by decide +kernel
theorem dX2_takeBack_31 : decode cX2_takeBack 31 = .ok (.iconst 0, 1) := by decide +kernel
theorem dX2_takeBack_32 : decode cX2_takeBack 32 = .ok (.ireturn, 1) := by decide +kernel
theorem dX2_takeBack_33 : decode cX2_takeBack 33 = .ok (.aload_n 1, 1) := by decide +kernel
theorem dX2_takeBack_34 : decode cX2_takeBack 34 = .ok (.aload_n 3, 1) := by decide +kernel
theorem dX2_takeBack_35 : decode cX2_takeBack 35 = .ok (.invokevirtual 29, 3) := by decide +kernel
theorem dX2_takeBack_38 : decode cX2_takeBack 38 = .ok (.aload_n 0, 1) := by decide +kernel
theorem dX2_takeBack_39 : decode cX2_takeBack 39 = .ok (.iload_n 2, 1) := by decide +kernel
theorem dX2_takeBack_40 : decode cX2_takeBack 40 = .ok (.putfield 18, 3) := by decide +kernel
theorem dX2_takeBack_43 : decode cX2_takeBack 43 = .ok (.aload_n 0, 1) := by decide +kernel
theorem dX2_takeBack_44 : decode cX2_takeBack 44 = .ok (.dup, 1) := by decide +kernel
theorem dX2_takeBack_45 : decode cX2_takeBack 45 = .ok (.getfield 22, 3) := by decide +kernel
theorem dX2_takeBack_48 : decode cX2_takeBack 48 = .ok (.iconst 1, 1) := by decide +kernel
theorem dX2_takeBack_49 : decode cX2_takeBack 49 = .ok (.isub, 1) := by decide +kernel
theorem dX2_takeBack_50 : decode cX2_takeBack 50 = .ok (.putfield 22, 3) := by decide +kernel
theorem dX2_takeBack_53 : decode cX2_takeBack 53 = .ok (.aload_n 0, 1) := by decide +kernel
theorem dX2_takeBack_54 : decode cX2_takeBack 54 = .ok (.getfield 22, 3) := by decide +kernel
theorem dX2_takeBack_57 : decode cX2_takeBack 57 = .ok (.ireturn, 1) := by decide +kernel
theorem dX2_rowAt_0 : decode cX2_rowAt 0 = .ok (.iload_n 1, 1) := by decide +kernel
theorem dX2_rowAt_1 : decode cX2_rowAt 1 = .ok (.ifCond .lt 21, 3) := by decide +kernel
theorem dX2_rowAt_4 : decode cX2_rowAt 4 = .ok (.iload_n 1, 1) := by decide +kernel
theorem dX2_rowAt_5 : decode cX2_rowAt 5 = .ok (.aload_n 0, 1) := by decide +kernel
theorem dX2_rowAt_6 : decode cX2_rowAt 6 = .ok (.getfield 11, 3) := by decide +kernel
theorem dX2_rowAt_9 : decode cX2_rowAt 9 = .ok (.arraylength, 1) := by decide +kernel
theorem dX2_rowAt_10 : decode cX2_rowAt 10 = .ok (.if_icmp .ge 12, 3) := by decide +kernel
theorem dX2_rowAt_13 : decode cX2_rowAt 13 = .ok (.aload_n 0, 1) := by decide +kernel
theorem dX2_rowAt_14 : decode cX2_rowAt 14 = .ok (.getfield 11, 3) := by decide +kernel
theorem dX2_rowAt_17 : decode cX2_rowAt 17 = .ok (.iload_n 1, 1) := by decide +kernel
theorem dX2_rowAt_18 : decode cX2_rowAt 18 = .ok (.aaload, 1) := by decide +kernel
theorem dX2_rowAt_19 : decode cX2_rowAt 19 = .ok (.goto 4, 3) := by decide +kernel
theorem dX2_rowAt_22 : decode cX2_rowAt 22 = .ok (.aconst_null, 1) := by decide +kernel
theorem dX2_rowAt_23 : decode cX2_rowAt 23 = .ok (.areturn, 1) := by decide +kernel
theorem dX3_init_0 : decode cX3_init 0 = .ok (.aload_n 0, 1) := by decide +kernel
theorem dX3_init_1 : decode cX3_init 1 = .ok (.invokespecial 3, 3) := by decide +kernel
theorem dX3_init_4 : decode cX3_init 4 = .ok (.aload_n 0, 1) := by decide +kernel
theorem dX3_init_5 : decode cX3_init 5 = .ok (.bipush 60, 2) := by decide +kernel
theorem dX3_init_7 : decode cX3_init 7 = .ok (.newarray .char, 2) := by decide +kernel
theorem dX3_init_9 : decode cX3_init 9 = .ok (.putfield 9, 3) := by decide +kernel
theorem dX3_init_12 : decode cX3_init 12 = .ok (.aload_n 0, 1) := by decide +kernel
theorem dX3_init_13 : decode cX3_init 13 = .ok (.iconst 0, 1) := by decide +kernel
theorem dX3_init_14 : decode cX3_init 14 = .ok (.putfield 15, 3) := by decide +kernel
theorem dX3_init_17 : decode cX3_init 17 = .ok (.return_, 1) := by decide +kernel
theorem dX3_size_0 : decode cX3_size 0 = .ok (.aload_n 0, 1) := by decide +kernel
theorem dX3_size_1 : decode cX3_size 1 = .ok (.getfield 15, 3) := by decide +kernel
theorem dX3_size_4 : decode cX3_size 4 = .ok (.ireturn, 1) := by decide +kernel
theorem dX3_isFull_0 : decode cX3_isFull 0 = .ok (.aload_n 0, 1) := by decide +kernel
theorem dX3_isFull_1 : decode cX3_isFull 1 = .ok (.getfield 15, 3) := by decide +kernel
theorem dX3_isFull_4 : decode cX3_isFull 4 = .ok (.bipush 60, 2) := by decide +kernel
theorem dX3_isFull_6 : decode cX3_isFull 6 = .ok (.if_icmp .lt 7, 3) := by decide +kernel
theorem dX3_isFull_9 : decode cX3_isFull 9 = .ok (.iconst 1, 1) := by decide +kernel
theorem dX3_isFull_10 : decode cX3_isFull 10 = .ok (.goto 4, 3) := by decide +kernel
theorem dX3_isFull_13 : decode cX3_isFull 13 = .ok (.iconst 0, 1) := by decide +kernel
theorem dX3_isFull_14 : decode cX3_isFull 14 = .ok (.ireturn, 1) := by decide +kernel
theorem dX3_add_0 : decode cX3_add 0 = .ok (.aload_n 0, 1) := by decide +kernel
theorem dX3_add_1 : decode cX3_add 1 = .ok (.getfield 15, 3) := by decide +kernel
theorem dX3_add_4 : decode cX3_add 4 = .ok (.ifCond .lt 32, 3) := by decide +kernel
theorem dX3_add_7 : decode cX3_add 7 = .ok (.aload_n 0, 1) := by decide +kernel
theorem dX3_add_8 : decode cX3_add 8 = .ok (.getfield 15, 3) := by decide +kernel
theorem dX3_add_11 : decode cX3_add 11 = .ok (.bipush 60, 2) := by decide +kernel
theorem dX3_add_13 : decode cX3_add 13 = .ok (.if_icmp .ge 23, 3) := by decide +kernel
theorem dX3_add_16 : decode cX3_add 16 = .ok (.aload_n 0, 1) := by decide +kernel
theorem dX3_add_17 : decode cX3_add 17 = .ok (.getfield 9, 3) := by decide +kernel
theorem dX3_add_20 : decode cX3_add 20 = .ok (.aload_n 0, 1) := by decide +kernel
theorem dX3_add_21 : decode cX3_add 21 = .ok (.getfield 15, 3) := by decide +kernel
theorem dX3_add_24 : decode cX3_add 24 = .ok (.iload_n 1, 1) := by decide +kernel
theorem dX3_add_25 : decode cX3_add 25 = .ok (.castore, 1) := by decide +kernel
theorem dX3_add_26 : decode cX3_add 26 = .ok (.aload_n 0, 1) := by decide +kernel
theorem dX3_add_27 : decode cX3_add 27 = .ok (.dup, 1) := by decide +kernel
theorem dX3_add_28 : decode cX3_add 28 = .ok (.getfield 15, 3) := by decide +kernel
theorem dX3_add_31 : decode cX3_add 31 = .ok (.iconst 1, 1) := by decide +kernel
theorem dX3_add_32 : decode cX3_add 32 = .ok (.iadd, 1) := by decide +kernel
theorem dX3_add_33 : decode cX3_add 33 = .ok (.putfield 15, 3) := by decide +kernel
theorem dX3_add_36 : decode cX3_add 36 = .ok (.aload_n 0, 1) := by decide +kernel
theorem dX3_add_37 : decode cX3_add 37 = .ok (.getfield 15, 3) := by decide +kernel
theorem dX3_add_40 : decode cX3_add 40 = .ok (.ireturn, 1) := by decide +kernel
theorem dX3_clear_0 : decode cX3_clear 0 = .ok (.aload_n 0, 1) := by decide +kernel
theorem dX3_clear_1 : decode cX3_clear 1 = .ok (.iconst 0, 1) := by decide +kernel
theorem dX3_clear_2 : decode cX3_clear 2 = .ok (.putfield 15, 3) := by decide +kernel
theorem dX3_clear_5 : decode cX3_clear 5 = .ok (.return_, 1) := by decide +kernel
theorem dX3_signAt_0 : decode cX3_signAt 0 = .ok (.iload_n 1, 1) := by decide +kernel
theorem dX3_signAt_1 : decode cX3_signAt 1 = .ok (.ifCond .lt 26, 3) := by decide +kernel
theorem dX3_signAt_4 : decode cX3_signAt 4 = .ok (.iload_n 1, 1) := by decide +kernel
theorem dX3_signAt_5 : decode cX3_signAt 5 = .ok (.aload_n 0, 1) := by decide +kernel
theorem dX3_signAt_6 : decode cX3_signAt 6 = .ok (.getfield 15, 3) := by decide +kernel
theorem dX3_signAt_9 : decode cX3_signAt 9 = .ok (.if_icmp .ge 18, 3) := by decide +kernel
theorem dX3_signAt_12 : decode cX3_signAt 12 = .ok (.iload_n 1, 1) := by decide +kernel
theorem dX3_signAt_13 : decode cX3_signAt 13 = .ok (.bipush 60, 2) := by decide +kernel
theorem dX3_signAt_15 : decode cX3_signAt 15 = .ok (.if_icmp .ge 12, 3) := by decide +kernel
theorem dX3_signAt_18 : decode cX3_signAt 18 = .ok (.aload_n 0, 1) := by decide +kernel
theorem dX3_signAt_19 : decode cX3_signAt 19 = .ok (.getfield 9, 3) := by decide +kernel
theorem dX3_signAt_22 : decode cX3_signAt 22 = .ok (.iload_n 1, 1) := by decide +kernel
theorem dX3_signAt_23 : decode cX3_signAt 23 = .ok (.caload, 1) := by decide +kernel
theorem dX3_signAt_24 : decode cX3_signAt 24 = .ok (.goto 4, 3) := by decide +kernel
theorem dX3_signAt_27 : decode cX3_signAt 27 = .ok (.iconst (-1), 1) := by decide +kernel
theorem dX3_signAt_28 : decode cX3_signAt 28 = .ok (.ireturn, 1) := by decide +kernel
theorem dX4_init_0 : decode cX4_init 0 = .ok (.aload_n 0, 1) := by decide +kernel
theorem dX4_init_1 : decode cX4_init 1 = .ok (.invokespecial 3, 3) := by decide +kernel
theorem dX4_init_4 : decode cX4_init 4 = .ok (.aload_n 0, 1) := by decide +kernel
theorem dX4_init_5 : decode cX4_init 5 = .ok (.bipush 24, 2) := by decide +kernel
theorem dX4_init_7 : decode cX4_init 7 = .ok (.newarray .char, 2) := by decide +kernel
theorem dX4_init_9 : decode cX4_init 9 = .ok (.putfield 9, 3) := by decide +kernel
theorem dX4_init_12 : decode cX4_init 12 = .ok (.aload_n 0, 1) := by decide +kernel
theorem dX4_init_13 : decode cX4_init 13 = .ok (.iconst 0, 1) := by decide +kernel
theorem dX4_init_14 : decode cX4_init 14 = .ok (.putfield 15, 3) := by decide +kernel
theorem dX4_init_17 : decode cX4_init 17 = .ok (.return_, 1) := by decide +kernel
theorem dX4_has_0 : decode cX4_has 0 = .ok (.iload_n 1, 1) := by decide +kernel
theorem dX4_has_1 : decode cX4_has 1 = .ok (.ifCond .lt 21, 3) := by decide +kernel
theorem dX4_has_4 : decode cX4_has 4 = .ok (.iload_n 1, 1) := by decide +kernel
theorem dX4_has_5 : decode cX4_has 5 = .ok (.aload_n 0, 1) := by decide +kernel
theorem dX4_has_6 : decode cX4_has 6 = .ok (.getfield 15, 3) := by decide +kernel
theorem dX4_has_9 : decode cX4_has 9 = .ok (.if_icmp .ge 13, 3) := by decide +kernel
theorem dX4_has_12 : decode cX4_has 12 = .ok (.iload_n 1, 1) := by decide +kernel
theorem dX4_has_13 : decode cX4_has 13 = .ok (.bipush 24, 2) := by decide +kernel
theorem dX4_has_15 : decode cX4_has 15 = .ok (.if_icmp .ge 7, 3) := by decide +kernel
theorem dX4_has_18 : decode cX4_has 18 = .ok (.iconst 1, 1) := by decide +kernel
theorem dX4_has_19 : decode cX4_has 19 = .ok (.goto 4, 3) := by decide +kernel
theorem dX4_has_22 : decode cX4_has 22 = .ok (.iconst 0, 1) := by decide +kernel
theorem dX4_has_23 : decode cX4_has 23 = .ok (.ireturn, 1) := by decide +kernel
theorem dX4_signAt_0 : decode cX4_signAt 0 = .ok (.aload_n 0, 1) := by decide +kernel
theorem dX4_signAt_1 : decode cX4_signAt 1 = .ok (.iload_n 1, 1) := by decide +kernel
theorem dX4_signAt_2 : decode cX4_signAt 2 = .ok (.invokevirtual 19, 3) := by decide +kernel
theorem dX4_signAt_5 : decode cX4_signAt 5 = .ok (.ifCond .eq 12, 3) := by decide +kernel
theorem dX4_signAt_8 : decode cX4_signAt 8 = .ok (.aload_n 0, 1) := by decide +kernel
theorem dX4_signAt_9 : decode cX4_signAt 9 = .ok (.getfield 9, 3) := by decide +kernel
theorem dX4_signAt_12 : decode cX4_signAt 12 = .ok (.iload_n 1, 1) := by decide +kernel
theorem dX4_signAt_13 : decode cX4_signAt 13 = .ok (.caload, 1) := by decide +kernel
theorem dX4_signAt_14 : decode cX4_signAt 14 = .ok (.goto 5, 3) := by decide +kernel
theorem dX4_signAt_17 : decode cX4_signAt 17 = .ok (.bipush 32, 2) := by decide +kernel
theorem dX4_signAt_19 : decode cX4_signAt 19 = .ok (.ireturn, 1) := by decide +kernel
theorem dX4_write_0 : decode cX4_write 0 = .ok (.aload_n 0, 1) := by decide +kernel
theorem dX4_write_1 : decode cX4_write 1 = .ok (.iconst 0, 1) := by decide +kernel
theorem dX4_write_2 : decode cX4_write 2 = .ok (.putfield 15, 3) := by decide +kernel
theorem dX4_write_5 : decode cX4_write 5 = .ok (.aload_n 0, 1) := by decide +kernel
theorem dX4_write_6 : decode cX4_write 6 = .ok (.iload_n 2, 1) := by decide +kernel
theorem dX4_write_7 : decode cX4_write 7 = .ok (.invokevirtual 23, 3) := by decide +kernel
theorem dX4_write_10 : decode cX4_write 10 = .ok (.aload_n 0, 1) := by decide +kernel
theorem dX4_write_11 : decode cX4_write 11 = .ok (.bipush 32, 2) := by decide +kernel
theorem dX4_write_13 : decode cX4_write 13 = .ok (.invokevirtual 27, 3) := by decide +kernel
theorem dX4_write_16 : decode cX4_write 16 = .ok (.aload_n 0, 1) := by decide +kernel
theorem dX4_write_17 : decode cX4_write 17 = .ok (.aload_n 1, 1) := by decide +kernel
theorem dX4_write_18 : decode cX4_write 18 = .ok (.iload_n 2, 1) := by decide +kernel
theorem dX4_write_19 : decode cX4_write 19 = .ok (.invokevirtual 31, 3) := by decide +kernel
theorem dX4_write_22 : decode cX4_write 22 = .ok (.invokestatic 37, 3) := by decide +kernel
theorem dX4_write_25 : decode cX4_write 25 = .ok (.invokevirtual 27, 3) := by decide +kernel
theorem dX4_write_28 : decode cX4_write 28 = .ok (.aload_n 0, 1) := by decide +kernel
theorem dX4_write_29 : decode cX4_write 29 = .ok (.bipush 58, 2) := by decide +kernel
theorem dX4_write_31 : decode cX4_write 31 = .ok (.invokevirtual 27, 3) := by decide +kernel
theorem dX4_write_34 : decode cX4_write 34 = .ok (.iconst 0, 1) := by decide +kernel
theorem dX4_write_35 : decode cX4_write 35 = .ok (.istore_n 3, 1) := by decide +kernel
theorem dX4_write_36 : decode cX4_write 36 = .ok (.iload_n 3, 1) := by decide +kernel
theorem dX4_write_37 : decode cX4_write 37 = .ok (.bipush 6, 2) := by decide +kernel
theorem dX4_write_39 : decode cX4_write 39 = .ok (.if_icmp .ge 25, 3) := by decide +kernel
theorem dX4_write_42 : decode cX4_write 42 = .ok (.aload_n 0, 1) := by decide +kernel
theorem dX4_write_43 : decode cX4_write 43 = .ok (.bipush 32, 2) := by decide +kernel
theorem dX4_write_45 : decode cX4_write 45 = .ok (.invokevirtual 27, 3) := by decide +kernel
theorem dX4_write_48 : decode cX4_write 48 = .ok (.aload_n 0, 1) := by decide +kernel
theorem dX4_write_49 : decode cX4_write 49 = .ok (.aload_n 1, 1) := by decide +kernel
theorem dX4_write_50 : decode cX4_write 50 = .ok (.iload_n 2, 1) := by decide +kernel
theorem dX4_write_51 : decode cX4_write 51 = .ok (.iload_n 3, 1) := by decide +kernel
theorem dX4_write_52 : decode cX4_write 52 = .ok (.invokevirtual 41, 3) := by decide +kernel
theorem dX4_write_55 : decode cX4_write 55 = .ok (.invokevirtual 23, 3) := by decide +kernel
theorem dX4_write_58 : decode cX4_write 58 = .ok (.iinc 3 1, 3) := by decide +kernel
theorem dX4_write_61 : decode cX4_write 61 = .ok (.goto (-25), 3) := by decide +kernel
theorem dX4_write_64 : decode cX4_write 64 = .ok (.aload_n 0, 1) := by decide +kernel
theorem dX4_write_65 : decode cX4_write 65 = .ok (.getfield 15, 3) := by decide +kernel
theorem dX4_write_68 : decode cX4_write 68 = .ok (.ireturn, 1) := by decide +kernel
theorem dX4_letterOf_0 : decode cX4_letterOf 0 = .ok (.iload_n 0, 1) := by decide +kernel
theorem dX4_letterOf_1 : decode cX4_letterOf 1 = .ok (.iconst 1, 1) := by decide +kernel
theorem dX4_letterOf_2 : decode cX4_letterOf 2 = .ok (.if_icmp .ne 6, 3) := by decide +kernel
theorem dX4_letterOf_5 : decode cX4_letterOf 5 = .ok (.bipush 109, 2) := by decide +kernel
theorem dX4_letterOf_7 : decode cX4_letterOf 7 = .ok (.ireturn, 1) := by decide +kernel
theorem dX4_letterOf_8 : decode cX4_letterOf 8 = .ok (.iload_n 0, 1) := by decide +kernel
theorem dX4_letterOf_9 : decode cX4_letterOf 9 = .ok (.iconst 2, 1) := by decide +kernel
theorem dX4_letterOf_10 : decode cX4_letterOf 10 = .ok (.if_icmp .ne 8, 3) := by decide +kernel
theorem dX4_letterOf_13 : decode cX4_letterOf 13 = .ok (.bipush 112, 2) := by decide +kernel
theorem dX4_letterOf_15 : decode cX4_letterOf 15 = .ok (.goto 5, 3) := by decide +kernel
theorem dX4_letterOf_18 : decode cX4_letterOf 18 = .ok (.bipush 101, 2) := by decide +kernel
theorem dX4_letterOf_20 : decode cX4_letterOf 20 = .ok (.ireturn, 1) := by decide +kernel
theorem dX4_addNumber_0 : decode cX4_addNumber 0 = .ok (.iload_n 1, 1) := by decide +kernel
theorem dX4_addNumber_1 : decode cX4_addNumber 1 = .ok (.bipush 10, 2) := by decide +kernel
theorem dX4_addNumber_3 : decode cX4_addNumber 3 = .ok (.if_icmp .lt 18, 3) := by decide +kernel
theorem dX4_addNumber_6 : decode cX4_addNumber 6 = .ok (.aload_n 0, 1) := by decide +kernel
theorem dX4_addNumber_7 : decode cX4_addNumber 7 = .ok (.bipush 48, 2) := by decide +kernel
theorem dX4_addNumber_9 : decode cX4_addNumber 9 = .ok (.iload_n 1, 1) := by decide +kernel
theorem dX4_addNumber_10 : decode cX4_addNumber 10 = .ok (.bipush 10, 2) := by decide +kernel
theorem dX4_addNumber_12 : decode cX4_addNumber 12 = .ok (.idiv, 1) := by decide +kernel
theorem dX4_addNumber_13 : decode cX4_addNumber 13 = .ok (.bipush 10, 2) := by decide +kernel
theorem dX4_addNumber_15 : decode cX4_addNumber 15 = .ok (.irem, 1) := by decide +kernel
theorem dX4_addNumber_16 : decode cX4_addNumber 16 = .ok (.iadd, 1) := by decide +kernel
theorem dX4_addNumber_17 : decode cX4_addNumber 17 = .ok (.i2c, 1) := by decide +kernel
theorem dX4_addNumber_18 : decode cX4_addNumber 18 = .ok (.invokevirtual 27, 3) := by decide +kernel
theorem dX4_addNumber_21 : decode cX4_addNumber 21 = .ok (.aload_n 0, 1) := by decide +kernel
theorem dX4_addNumber_22 : decode cX4_addNumber 22 = .ok (.bipush 48, 2) := by decide +kernel
theorem dX4_addNumber_24 : decode cX4_addNumber 24 = .ok (.iload_n 1, 1) := by decide +kernel
theorem dX4_addNumber_25 : decode cX4_addNumber 25 = .ok (.bipush 10, 2) := by decide +kernel
theorem dX4_addNumber_27 : decode cX4_addNumber 27 = .ok (.irem, 1) := by decide +kernel
theorem dX4_addNumber_28 : decode cX4_addNumber 28 = .ok (.iadd, 1) := by decide +kernel
theorem dX4_addNumber_29 : decode cX4_addNumber 29 = .ok (.i2c, 1) := by decide +kernel
theorem dX4_addNumber_30 : decode cX4_addNumber 30 = .ok (.invokevirtual 27, 3) := by decide +kernel
theorem dX4_addNumber_33 : decode cX4_addNumber 33 = .ok (.return_, 1) := by decide +kernel
theorem dX4_addSign_0 : decode cX4_addSign 0 = .ok (.aload_n 0, 1) := by decide +kernel
theorem dX4_addSign_1 : decode cX4_addSign 1 = .ok (.getfield 15, 3) := by decide +kernel
theorem dX4_addSign_4 : decode cX4_addSign 4 = .ok (.ifCond .lt 32, 3) := by decide +kernel
theorem dX4_addSign_7 : decode cX4_addSign 7 = .ok (.aload_n 0, 1) := by decide +kernel
theorem dX4_addSign_8 : decode cX4_addSign 8 = .ok (.getfield 15, 3) := by decide +kernel
theorem dX4_addSign_11 : decode cX4_addSign 11 = .ok (.bipush 24, 2) := by decide +kernel
theorem dX4_addSign_13 : decode cX4_addSign 13 = .ok (.if_icmp .ge 23, 3) := by decide +kernel
theorem dX4_addSign_16 : decode cX4_addSign 16 = .ok (.aload_n 0, 1) := by decide +kernel
theorem dX4_addSign_17 : decode cX4_addSign 17 = .ok (.getfield 9, 3) := by decide +kernel
theorem dX4_addSign_20 : decode cX4_addSign 20 = .ok (.aload_n 0, 1) := by decide +kernel
theorem dX4_addSign_21 : decode cX4_addSign 21 = .ok (.getfield 15, 3) := by decide +kernel
theorem dX4_addSign_24 : decode cX4_addSign 24 = .ok (.iload_n 1, 1) := by decide +kernel
theorem dX4_addSign_25 : decode cX4_addSign 25 = .ok (.castore, 1) := by decide +kernel
theorem dX4_addSign_26 : decode cX4_addSign 26 = .ok (.aload_n 0, 1) := by decide +kernel
theorem dX4_addSign_27 : decode cX4_addSign 27 = .ok (.dup, 1) := by decide +kernel
theorem dX4_addSign_28 : decode cX4_addSign 28 = .ok (.getfield 15, 3) := by decide +kernel
theorem dX4_addSign_31 : decode cX4_addSign 31 = .ok (.iconst 1, 1) := by decide +kernel
theorem dX4_addSign_32 : decode cX4_addSign 32 = .ok (.iadd, 1) := by decide +kernel
theorem dX4_addSign_33 : decode cX4_addSign 33 = .ok (.putfield 15, 3) := by decide +kernel
theorem dX4_addSign_36 : decode cX4_addSign 36 = .ok (.return_, 1) := by decide +kernel
theorem dX5_init_0 : decode cX5_init 0 = .ok (.aload_n 0, 1) := by decide +kernel
theorem dX5_init_1 : decode cX5_init 1 = .ok (.invokespecial 3, 3) := by decide +kernel
theorem dX5_init_4 : decode cX5_init 4 = .ok (.aload_n 0, 1) := by decide +kernel
theorem dX5_init_5 : decode cX5_init 5 = .ok (.bipush 6, 2) := by decide +kernel
theorem dX5_init_7 : decode cX5_init 7 = .ok (.newarray .int, 2) := by decide +kernel
theorem dX5_init_9 : decode cX5_init 9 = .ok (.putfield 9, 3) := by decide +kernel
theorem dX5_init_12 : decode cX5_init 12 = .ok (.aload_n 0, 1) := by decide +kernel
theorem dX5_init_13 : decode cX5_init 13 = .ok (.iconst 0, 1) := by decide +kernel
theorem dX5_init_14 : decode cX5_init 14 = .ok (.putfield 15, 3) := by decide +kernel
theorem dX5_init_17 : decode cX5_init 17 = .ok (.aload_n 0, 1) := by decide +kernel
theorem dX5_init_18 : decode cX5_init 18 = .ok (.iconst (-1), 1) := by decide +kernel
theorem dX5_init_19 : decode cX5_init 19 = .ok (.putfield 19, 3) := by decide +kernel
theorem dX5_init_22 : decode cX5_init 22 = .ok (.return_, 1) := by decide +kernel
theorem dX5_amounts_0 : decode cX5_amounts 0 = .ok (.aload_n 0, 1) := by decide +kernel
theorem dX5_amounts_1 : decode cX5_amounts 1 = .ok (.getfield 9, 3) := by decide +kernel
theorem dX5_amounts_4 : decode cX5_amounts 4 = .ok (.areturn, 1) := by decide +kernel
theorem dX5_conflictsFound_0 : decode cX5_conflictsFound 0 = .ok (.aload_n 0, 1) := by decide +kernel
theorem dX5_conflictsFound_1 : decode cX5_conflictsFound 1 = .ok (.getfield 15, 3) := by decide +kernel
theorem dX5_conflictsFound_4 : decode cX5_conflictsFound 4 = .ok (.ireturn, 1) := by decide +kernel
theorem dX5_lowestConflict_0 : decode cX5_lowestConflict 0 = .ok (.aload_n 0, 1) := by decide +kernel
theorem dX5_lowestConflict_1 : decode cX5_lowestConflict 1 = .ok (.getfield 19, 3) := by decide +kernel
theorem dX5_lowestConflict_4 : decode cX5_lowestConflict 4 = .ok (.ireturn, 1) := by decide +kernel
theorem dX5_change_0 : decode cX5_change 0 = .ok (.iconst 0, 1) := by decide +kernel
theorem dX5_change_1 : decode cX5_change 1 = .ok (.istore 5, 2) := by decide +kernel
theorem dX5_change_3 : decode cX5_change 3 = .ok (.iload 5, 2) := by decide +kernel
theorem dX5_change_5 : decode cX5_change 5 = .ok (.bipush 6, 2) := by decide +kernel
theorem dX5_change_7 : decode cX5_change 7 = .ok (.if_icmp .ge 34, 3) := by decide +kernel
theorem dX5_change_10 : decode cX5_change 10 = .ok (.aload_n 0, 1) := by decide +kernel
theorem dX5_change_11 : decode cX5_change 11 = .ok (.getfield 9, 3) := by decide +kernel
theorem dX5_change_14 : decode cX5_change 14 = .ok (.iload 5, 2) := by decide +kernel
theorem dX5_change_16 : decode cX5_change 16 = .ok (.iload 5, 2) := by decide +kernel
theorem dX5_change_18 : decode cX5_change 18 = .ok (.iload_n 3, 1) := by decide +kernel
theorem dX5_change_19 : decode cX5_change 19 = .ok (.if_icmp .ne 8, 3) := by decide +kernel
theorem dX5_change_22 : decode cX5_change 22 = .ok (.iload 4, 2) := by decide +kernel
theorem dX5_change_24 : decode cX5_change 24 = .ok (.goto 10, 3) := by decide +kernel
theorem dX5_change_27 : decode cX5_change 27 = .ok (.aload_n 1, 1) := by decide +kernel
theorem dX5_change_28 : decode cX5_change 28 = .ok (.iload_n 2, 1) := by decide +kernel
theorem dX5_change_29 : decode cX5_change 29 = .ok (.iload 5, 2) := by decide +kernel
theorem dX5_change_31 : decode cX5_change 31 = .ok (.invokevirtual 22, 3) := by decide +kernel
theorem dX5_change_34 : decode cX5_change 34 = .ok (.iastore, 1) := by decide +kernel
theorem dX5_change_35 : decode cX5_change 35 = .ok (.iinc 5 1, 3) := by decide +kernel
theorem dX5_change_38 : decode cX5_change 38 = .ok (.goto (-35), 3) := by decide +kernel
theorem dX5_change_41 : decode cX5_change 41 = .ok (.return_, 1) := by decide +kernel
theorem dX5_putTogether_0 : decode cX5_putTogether 0 = .ok (.aload_n 0, 1) := by decide +kernel
theorem dX5_putTogether_1 : decode cX5_putTogether 1 = .ok (.iconst 0, 1) := by decide +kernel
theorem dX5_putTogether_2 : decode cX5_putTogether 2 = .ok (.putfield 15, 3) := by decide +kernel
theorem dX5_putTogether_5 : decode cX5_putTogether 5 = .ok (.aload_n 0, 1) := by decide +kernel
theorem dX5_putTogether_6 : decode cX5_putTogether 6 = .ok (.iconst (-1), 1) := by decide +kernel
theorem dX5_putTogether_7 : decode cX5_putTogether 7 = .ok (.putfield 19, 3) := by decide +kernel
theorem dX5_putTogether_10 : decode cX5_putTogether 10 = .ok (.iconst 5, 1) := by decide +kernel
theorem dX5_putTogether_11 : decode cX5_putTogether 11 = .ok (.istore 6, 2) := by decide +kernel
theorem dX5_putTogether_13 : decode cX5_putTogether 13 = .ok (.iload 6, 2) := by decide +kernel
theorem dX5_putTogether_15 : decode cX5_putTogether 15 = .ok (.ifCond .lt 114, 3) := by decide +kernel
theorem dX5_putTogether_18 : decode cX5_putTogether 18 = .ok (.aload_n 1, 1) := by decide +kernel
theorem dX5_putTogether_19 : decode cX5_putTogether 19 = .ok (.iload_n 2, 1) := by decide +kernel
theorem dX5_putTogether_20 : decode cX5_putTogether 20 = .ok (.iload 6, 2) := by decide +kernel
theorem dX5_putTogether_22 : decode cX5_putTogether 22 = .ok (.invokevirtual 22, 3) := by decide +kernel
theorem dX5_putTogether_25 : decode cX5_putTogether 25 = .ok (.istore 7, 2) := by decide +kernel
theorem dX5_putTogether_27 : decode cX5_putTogether 27 = .ok (.aload_n 1, 1) := by decide +kernel
theorem dX5_putTogether_28 : decode cX5_putTogether 28 = .ok (.iload_n 3, 1) := by decide +kernel
theorem dX5_putTogether_29 : decode cX5_putTogether 29 = .ok (.iload 6, 2) := by decide +kernel
theorem dX5_putTogether_31 : decode cX5_putTogether 31 = .ok (.invokevirtual 22, 3) := by decide +kernel
theorem dX5_putTogether_34 : decode cX5_putTogether 34 = .ok (.istore 8, 2) := by decide +kernel
theorem dX5_putTogether_36 : decode cX5_putTogether 36 = .ok (.aload_n 1, 1) := by decide +kernel
theorem dX5_putTogether_37 : decode cX5_putTogether 37 = .ok (.iload 4, 2) := by decide +kernel
theorem dX5_putTogether_39 : decode cX5_putTogether 39 = .ok (.iload 6, 2) := by decide +kernel
theorem dX5_putTogether_41 : decode cX5_putTogether 41 = .ok (.invokevirtual 22, 3) := by decide +kernel
theorem dX5_putTogether_44 : decode cX5_putTogether 44 = .ok (.istore 9, 2) := by decide +kernel
theorem dX5_putTogether_46 : decode cX5_putTogether 46 = .ok (.iload 7, 2) := by decide +kernel
theorem dX5_putTogether_48 : decode cX5_putTogether 48 = .ok (.iload 9, 2) := by decide +kernel
theorem dX5_putTogether_50 : decode cX5_putTogether 50 = .ok (.if_icmp .ne 15, 3) := by decide +kernel
theorem dX5_putTogether_53 : decode cX5_putTogether 53 = .ok (.aload_n 0, 1) := by decide +kernel
theorem dX5_putTogether_54 : decode cX5_putTogether 54 = .ok (.getfield 9, 3) := by decide +kernel
theorem dX5_putTogether_57 : decode cX5_putTogether 57 = .ok (.iload 6, 2) := by decide +kernel
theorem dX5_putTogether_59 : decode cX5_putTogether 59 = .ok (.iload 8, 2) := by decide +kernel
theorem dX5_putTogether_61 : decode cX5_putTogether 61 = .ok (.iastore, 1) := by decide +kernel
theorem dX5_putTogether_62 : decode cX5_putTogether 62 = .ok (.goto 61, 3) := by decide +kernel
theorem dX5_putTogether_65 : decode cX5_putTogether 65 = .ok (.iload 8, 2) := by decide +kernel
theorem dX5_putTogether_67 : decode cX5_putTogether 67 = .ok (.iload 9, 2) := by decide +kernel
theorem dX5_putTogether_69 : decode cX5_putTogether 69 = .ok (.if_icmp .eq 10, 3) := by decide +kernel
theorem dX5_putTogether_72 : decode cX5_putTogether 72 = .ok (.iload 7, 2) := by decide +kernel
theorem dX5_putTogether_74 : decode cX5_putTogether 74 = .ok (.iload 8, 2) := by decide +kernel
theorem dX5_putTogether_76 : decode cX5_putTogether 76 = .ok (.if_icmp .ne 15, 3) := by decide +kernel
theorem dX5_putTogether_79 : decode cX5_putTogether 79 = .ok (.aload_n 0, 1) := by decide +kernel
theorem dX5_putTogether_80 : decode cX5_putTogether 80 = .ok (.getfield 9, 3) := by decide +kernel
theorem dX5_putTogether_83 : decode cX5_putTogether 83 = .ok (.iload 6, 2) := by decide +kernel
theorem dX5_putTogether_85 : decode cX5_putTogether 85 = .ok (.iload 7, 2) := by decide +kernel
theorem dX5_putTogether_87 : decode cX5_putTogether 87 = .ok (.iastore, 1) := by decide +kernel
theorem dX5_putTogether_88 : decode cX5_putTogether 88 = .ok (.goto 35, 3) := by decide +kernel
theorem dX5_putTogether_91 : decode cX5_putTogether 91 = .ok (.aload_n 0, 1) := by decide +kernel
theorem dX5_putTogether_92 : decode cX5_putTogether 92 = .ok (.getfield 9, 3) := by decide +kernel
theorem dX5_putTogether_95 : decode cX5_putTogether 95 = .ok (.iload 6, 2) := by decide +kernel
theorem dX5_putTogether_97 : decode cX5_putTogether 97 = .ok (.iload 7, 2) := by decide +kernel
theorem dX5_putTogether_99 : decode cX5_putTogether 99 = .ok (.iload 8, 2) := by decide +kernel
theorem dX5_putTogether_101 : decode cX5_putTogether 101 = .ok (.iload 5, 2) := by decide +kernel
theorem dX5_putTogether_103 : decode cX5_putTogether 103 = .ok (.invokestatic 28, 3) := by decide +kernel
theorem dX5_putTogether_106 : decode cX5_putTogether 106 = .ok (.iastore, 1) := by decide +kernel
theorem dX5_putTogether_107 : decode cX5_putTogether 107 = .ok (.aload_n 0, 1) := by decide +kernel
theorem dX5_putTogether_108 : decode cX5_putTogether 108 = .ok (.dup, 1) := by decide +kernel
theorem dX5_putTogether_109 : decode cX5_putTogether 109 = .ok (.getfield 15, 3) := by decide +kernel
theorem dX5_putTogether_112 : decode cX5_putTogether 112 = .ok (.iconst 1, 1) := by decide +kernel
theorem dX5_putTogether_113 : decode cX5_putTogether 113 = .ok (.iadd, 1) := by decide +kernel
theorem dX5_putTogether_114 : decode cX5_putTogether 114 = .ok (.putfield 15, 3) := by decide +kernel
theorem dX5_putTogether_117 : decode cX5_putTogether 117 = .ok (.aload_n 0, 1) := by decide +kernel
theorem dX5_putTogether_118 : decode cX5_putTogether 118 = .ok (.iload 6, 2) := by decide +kernel
theorem dX5_putTogether_120 : decode cX5_putTogether 120 = .ok (.putfield 19, 3) := by decide +kernel
theorem dX5_putTogether_123 : decode cX5_putTogether 123 = .ok (.iinc 6 (-1), 3) := by decide +kernel
theorem dX5_putTogether_126 : decode cX5_putTogether 126 = .ok (.goto (-113), 3) := by decide +kernel
theorem dX5_putTogether_129 : decode cX5_putTogether 129 = .ok (.return_, 1) := by decide +kernel
theorem dX5_isRowOf_0 : decode cX5_isRowOf 0 = .ok (.iconst 0, 1) := by decide +kernel
theorem dX5_isRowOf_1 : decode cX5_isRowOf 1 = .ok (.istore_n 3, 1) := by decide +kernel
theorem dX5_isRowOf_2 : decode cX5_isRowOf 2 = .ok (.iload_n 3, 1) := by decide +kernel
theorem dX5_isRowOf_3 : decode cX5_isRowOf 3 = .ok (.bipush 6, 2) := by decide +kernel
theorem dX5_isRowOf_5 : decode cX5_isRowOf 5 = .ok (.if_icmp .ge 26, 3) := by decide +kernel
theorem dX5_isRowOf_8 : decode cX5_isRowOf 8 = .ok (.aload_n 0, 1) := by decide +kernel
theorem dX5_isRowOf_9 : decode cX5_isRowOf 9 = .ok (.getfield 9, 3) := by decide +kernel
theorem dX5_isRowOf_12 : decode cX5_isRowOf 12 = .ok (.iload_n 3, 1) := by decide +kernel
theorem dX5_isRowOf_13 : decode cX5_isRowOf 13 = .ok (.iaload, 1) := by decide +kernel
theorem dX5_isRowOf_14 : decode cX5_isRowOf 14 = .ok (.aload_n 1, 1) := by decide +kernel
theorem dX5_isRowOf_15 : decode cX5_isRowOf 15 = .ok (.iload_n 2, 1) := by decide +kernel
theorem dX5_isRowOf_16 : decode cX5_isRowOf 16 = .ok (.iload_n 3, 1) := by decide +kernel
theorem dX5_isRowOf_17 : decode cX5_isRowOf 17 = .ok (.invokevirtual 22, 3) := by decide +kernel
theorem dX5_isRowOf_20 : decode cX5_isRowOf 20 = .ok (.if_icmp .eq 5, 3) := by decide +kernel
theorem dX5_isRowOf_23 : decode cX5_isRowOf 23 = .ok (.iconst 0, 1) := by decide +kernel
theorem dX5_isRowOf_24 : decode cX5_isRowOf 24 = .ok (.ireturn, 1) := by decide +kernel
theorem dX5_isRowOf_25 : decode cX5_isRowOf 25 = .ok (.iinc 3 1, 3) := by decide +kernel
theorem dX5_isRowOf_28 : decode cX5_isRowOf 28 = .ok (.goto (-26), 3) := by decide +kernel
theorem dX5_isRowOf_31 : decode cX5_isRowOf 31 = .ok (.iconst 1, 1) := by decide +kernel
theorem dX5_isRowOf_32 : decode cX5_isRowOf 32 = .ok (.ireturn, 1) := by decide +kernel
theorem dX5_byRule_0 : decode cX5_byRule 0 = .ok (.iload_n 2, 1) := by decide +kernel
theorem dX5_byRule_1 : decode cX5_byRule 1 = .ok (.iconst 2, 1) := by decide +kernel
theorem dX5_byRule_2 : decode cX5_byRule 2 = .ok (.if_icmp .ne 5, 3) := by decide +kernel
theorem dX5_byRule_5 : decode cX5_byRule 5 = .ok (.iload_n 1, 1) := by decide +kernel
theorem dX5_byRule_6 : decode cX5_byRule 6 = .ok (.ireturn, 1) := by decide +kernel
theorem dX5_byRule_7 : decode cX5_byRule 7 = .ok (.iload_n 2, 1) := by decide +kernel
theorem dX5_byRule_8 : decode cX5_byRule 8 = .ok (.iconst 3, 1) := by decide +kernel
theorem dX5_byRule_9 : decode cX5_byRule 9 = .ok (.if_icmp .ne 11, 3) := by decide +kernel
theorem dX5_byRule_12 : decode cX5_byRule 12 = .ok (.iload_n 0, 1) := by decide +kernel
theorem dX5_byRule_13 : decode cX5_byRule 13 = .ok (.iload_n 1, 1) := by decide +kernel
theorem dX5_byRule_14 : decode cX5_byRule 14 = .ok (.iadd, 1) := by decide +kernel
theorem dX5_byRule_15 : decode cX5_byRule 15 = .ok (.iconst 2, 1) := by decide +kernel
theorem dX5_byRule_16 : decode cX5_byRule 16 = .ok (.idiv, 1) := by decide +kernel
theorem dX5_byRule_17 : decode cX5_byRule 17 = .ok (.goto 4, 3) := by decide +kernel
theorem dX5_byRule_20 : decode cX5_byRule 20 = .ok (.iload_n 0, 1) := by decide +kernel
theorem dX5_byRule_21 : decode cX5_byRule 21 = .ok (.ireturn, 1) := by decide +kernel
theorem dX6_init_0 : decode cX6_init 0 = .ok (.aload_n 0, 1) := by decide +kernel
theorem dX6_init_1 : decode cX6_init 1 = .ok (.invokespecial 3, 3) := by decide +kernel
theorem dX6_init_4 : decode cX6_init 4 = .ok (.aload_n 0, 1) := by decide +kernel
theorem dX6_init_5 : decode cX6_init 5 = .ok (.bipush 84, 2) := by decide +kernel
theorem dX6_init_7 : decode cX6_init 7 = .ok (.newarray .int, 2) := by decide +kernel
theorem dX6_init_9 : decode cX6_init 9 = .ok (.putfield 9, 3) := by decide +kernel
theorem dX6_init_12 : decode cX6_init 12 = .ok (.aload_n 0, 1) := by decide +kernel
theorem dX6_init_13 : decode cX6_init 13 = .ok (.iconst 0, 1) := by decide +kernel
theorem dX6_init_14 : decode cX6_init 14 = .ok (.putfield 15, 3) := by decide +kernel
theorem dX6_init_17 : decode cX6_init 17 = .ok (.aload_n 0, 1) := by decide +kernel
theorem dX6_init_18 : decode cX6_init 18 = .ok (.iconst 0, 1) := by decide +kernel
theorem dX6_init_19 : decode cX6_init 19 = .ok (.putfield 19, 3) := by decide +kernel
theorem dX6_init_22 : decode cX6_init 22 = .ok (.aload_n 0, 1) := by decide +kernel
theorem dX6_init_23 : decode cX6_init 23 = .ok (.iconst 0, 1) := by decide +kernel
theorem dX6_init_24 : decode cX6_init 24 = .ok (.putfield 22, 3) := by decide +kernel
theorem dX6_init_27 : decode cX6_init 27 = .ok (.return_, 1) := by decide +kernel
theorem dX6_parse_0 : decode cX6_parse 0 = .ok (.aload_n 0, 1) := by decide +kernel
theorem dX6_parse_1 : decode cX6_parse 1 = .ok (.iconst 0, 1) := by decide +kernel
theorem dX6_parse_2 : decode cX6_parse 2 = .ok (.putfield 15, 3) := by decide +kernel
theorem dX6_parse_5 : decode cX6_parse 5 = .ok (.aload_n 0, 1) := by decide +kernel
theorem dX6_parse_6 : decode cX6_parse 6 = .ok (.iconst 0, 1) := by decide +kernel
theorem dX6_parse_7 : decode cX6_parse 7 = .ok (.putfield 19, 3) := by decide +kernel
theorem dX6_parse_10 : decode cX6_parse 10 = .ok (.iconst 0, 1) := by decide +kernel
theorem dX6_parse_11 : decode cX6_parse 11 = .ok (.istore_n 2, 1) := by decide +kernel
theorem dX6_parse_12 : decode cX6_parse 12 = .ok (.iload_n 2, 1) := by decide +kernel
theorem dX6_parse_13 : decode cX6_parse 13 = .ok (.bipush 21, 2) := by decide +kernel
theorem dX6_parse_15 : decode cX6_parse 15 = .ok (.if_icmp .ge 59, 3) := by decide +kernel
theorem dX6_parse_18 : decode cX6_parse 18 = .ok (.aload_n 0, 1) := by decide +kernel
theorem dX6_parse_19 : decode cX6_parse 19 = .ok (.aload_n 1, 1) := by decide +kernel
theorem dX6_parse_20 : decode cX6_parse 20 = .ok (.invokevirtual 25, 3) := by decide +kernel
theorem dX6_parse_23 : decode cX6_parse 23 = .ok (.ifCond .ne 8, 3) := by decide +kernel
theorem dX6_parse_26 : decode cX6_parse 26 = .ok (.aload_n 0, 1) := by decide +kernel
theorem dX6_parse_27 : decode cX6_parse 27 = .ok (.getfield 19, 3) := by decide +kernel
theorem dX6_parse_30 : decode cX6_parse 30 = .ok (.ireturn, 1) := by decide +kernel
theorem dX6_parse_31 : decode cX6_parse 31 = .ok (.aload_n 1, 1) := by decide +kernel
theorem dX6_parse_32 : decode cX6_parse 32 = .ok (.aload_n 0, 1) := by decide +kernel
theorem dX6_parse_33 : decode cX6_parse 33 = .ok (.getfield 19, 3) := by decide +kernel
theorem dX6_parse_36 : decode cX6_parse 36 = .ok (.invokevirtual 29, 3) := by decide +kernel
theorem dX6_parse_39 : decode cX6_parse 39 = .ok (.istore_n 3, 1) := by decide +kernel
theorem dX6_parse_40 : decode cX6_parse 40 = .ok (.iload_n 3, 1) := by decide +kernel
theorem dX6_parse_41 : decode cX6_parse 41 = .ok (.iconst (-1), 1) := by decide +kernel
theorem dX6_parse_42 : decode cX6_parse 42 = .ok (.if_icmp .ne 5, 3) := by decide +kernel
theorem dX6_parse_45 : decode cX6_parse 45 = .ok (.iconst (-1), 1) := by decide +kernel
theorem dX6_parse_46 : decode cX6_parse 46 = .ok (.ireturn, 1) := by decide +kernel
theorem dX6_parse_47 : decode cX6_parse 47 = .ok (.iload_n 3, 1) := by decide +kernel
theorem dX6_parse_48 : decode cX6_parse 48 = .ok (.bipush 59, 2) := by decide +kernel
theorem dX6_parse_50 : decode cX6_parse 50 = .ok (.if_icmp .eq 8, 3) := by decide +kernel
theorem dX6_parse_53 : decode cX6_parse 53 = .ok (.aload_n 0, 1) := by decide +kernel
theorem dX6_parse_54 : decode cX6_parse 54 = .ok (.getfield 19, 3) := by decide +kernel
theorem dX6_parse_57 : decode cX6_parse 57 = .ok (.ireturn, 1) := by decide +kernel
theorem dX6_parse_58 : decode cX6_parse 58 = .ok (.aload_n 0, 1) := by decide +kernel
theorem dX6_parse_59 : decode cX6_parse 59 = .ok (.dup, 1) := by decide +kernel
theorem dX6_parse_60 : decode cX6_parse 60 = .ok (.getfield 19, 3) := by decide +kernel
theorem dX6_parse_63 : decode cX6_parse 63 = .ok (.iconst 1, 1) := by decide +kernel
theorem dX6_parse_64 : decode cX6_parse 64 = .ok (.iadd, 1) := by decide +kernel
theorem dX6_parse_65 : decode cX6_parse 65 = .ok (.putfield 19, 3) := by decide +kernel
theorem dX6_parse_68 : decode cX6_parse 68 = .ok (.iinc 2 1, 3) := by decide +kernel
theorem dX6_parse_71 : decode cX6_parse 71 = .ok (.goto (-59), 3) := by decide +kernel
theorem dX6_parse_74 : decode cX6_parse 74 = .ok (.aload_n 0, 1) := by decide +kernel
theorem dX6_parse_75 : decode cX6_parse 75 = .ok (.getfield 19, 3) := by decide +kernel
theorem dX6_parse_78 : decode cX6_parse 78 = .ok (.ireturn, 1) := by decide +kernel
theorem dX6_carryOut_0 : decode cX6_carryOut 0 = .ok (.iconst 0, 1) := by decide +kernel
theorem dX6_carryOut_1 : decode cX6_carryOut 1 = .ok (.istore_n 2, 1) := by decide +kernel
theorem dX6_carryOut_2 : decode cX6_carryOut 2 = .ok (.iload_n 2, 1) := by decide +kernel
theorem dX6_carryOut_3 : decode cX6_carryOut 3 = .ok (.aload_n 0, 1) := by decide +kernel
theorem dX6_carryOut_4 : decode cX6_carryOut 4 = .ok (.getfield 15, 3) := by decide +kernel
theorem dX6_carryOut_7 : decode cX6_carryOut 7 = .ok (.if_icmp .ge 34, 3) := by decide +kernel
theorem dX6_carryOut_10 : decode cX6_carryOut 10 = .ok (.aload_n 0, 1) := by decide +kernel
theorem dX6_carryOut_11 : decode cX6_carryOut 11 = .ok (.aload_n 1, 1) := by decide +kernel
theorem dX6_carryOut_12 : decode cX6_carryOut 12 = .ok (.iload_n 2, 1) := by decide +kernel
theorem dX6_carryOut_13 : decode cX6_carryOut 13 = .ok (.invokevirtual 35, 3) := by decide +kernel
theorem dX6_carryOut_16 : decode cX6_carryOut 16 = .ok (.istore_n 3, 1) := by decide +kernel
theorem dX6_carryOut_17 : decode cX6_carryOut 17 = .ok (.iload_n 3, 1) := by decide +kernel
theorem dX6_carryOut_18 : decode cX6_carryOut 18 = .ok (.ifCond .ge 17, 3) := by decide +kernel
theorem dX6_carryOut_21 : decode cX6_carryOut 21 = .ok (.iload_n 3, 1) := by decide +kernel
theorem dX6_carryOut_22 : decode cX6_carryOut 22 = .ok (.bipush (-3), 2) := by decide +kernel
theorem dX6_carryOut_24 : decode cX6_carryOut 24 = .ok (.if_icmp .ne 8, 3) := by decide +kernel
theorem dX6_carryOut_27 : decode cX6_carryOut 27 = .ok (.bipush (-3), 2) := by decide +kernel
theorem dX6_carryOut_29 : decode cX6_carryOut 29 = .ok (.goto 5, 3) := by decide +kernel
theorem dX6_carryOut_32 : decode cX6_carryOut 32 = .ok (.bipush (-2), 2) := by decide +kernel
theorem dX6_carryOut_34 : decode cX6_carryOut 34 = .ok (.ireturn, 1) := by decide +kernel
theorem dX6_carryOut_35 : decode cX6_carryOut 35 = .ok (.iinc 2 1, 3) := by decide +kernel
theorem dX6_carryOut_38 : decode cX6_carryOut 38 = .ok (.goto (-36), 3) := by decide +kernel
theorem dX6_carryOut_41 : decode cX6_carryOut 41 = .ok (.aload_n 0, 1) := by decide +kernel
theorem dX6_carryOut_42 : decode cX6_carryOut 42 = .ok (.getfield 15, 3) := by decide +kernel
theorem dX6_carryOut_45 : decode cX6_carryOut 45 = .ok (.ireturn, 1) := by decide +kernel
theorem dX6_parseOrder_0 : decode cX6_parseOrder 0 = .ok (.aload_n 1, 1) := by decide +kernel
theorem dX6_parseOrder_1 : decode cX6_parseOrder 1 = .ok (.aload_n 0, 1) := by decide +kernel
theorem dX6_parseOrder_2 : decode cX6_parseOrder 2 = .ok (.getfield 19, 3) := by decide +kernel
theorem dX6_parseOrder_5 : decode cX6_parseOrder 5 = .ok (.invokevirtual 29, 3) := by decide +kernel
theorem dX6_parseOrder_8 : decode cX6_parseOrder 8 = .ok (.istore_n 2, 1) := by decide +kernel
theorem dX6_parseOrder_9 : decode cX6_parseOrder 9 = .ok (.iload_n 2, 1) := by decide +kernel
theorem dX6_parseOrder_10 : decode cX6_parseOrder 10 = .ok (.invokestatic 39, 3) := by decide +kernel
theorem dX6_parseOrder_13 : decode cX6_parseOrder 13 = .ok (.astore_n 3, 1) := by decide +kernel
theorem dX6_parseOrder_14 : decode cX6_parseOrder 14 = .ok (.aload_n 3, 1) := by decide +kernel
theorem dX6_parseOrder_15 : decode cX6_parseOrder 15 = .ok (.invokevirtual 43, 3) := by decide +kernel
theorem dX6_parseOrder_18 : decode cX6_parseOrder 18 = .ok (.ifCond .eq 5, 3) := by decide +kernel
theorem dX6_parseOrder_21 : decode cX6_parseOrder 21 = .ok (.iconst 0, 1) := by decide +kernel
theorem dX6_parseOrder_22 : decode cX6_parseOrder 22 = .ok (.ireturn, 1) := by decide +kernel
theorem dX6_parseOrder_23 : decode cX6_parseOrder 23 = .ok (.aload_n 0, 1) := by decide +kernel
theorem dX6_parseOrder_24 : decode cX6_parseOrder 24 = .ok (.dup, 1) := by decide +kernel
theorem dX6_parseOrder_25 : decode cX6_parseOrder 25 = .ok (.getfield 19, 3) := by decide +kernel
theorem dX6_parseOrder_28 : decode cX6_parseOrder 28 = .ok (.iconst 1, 1) := by decide +kernel
theorem dX6_parseOrder_29 : decode cX6_parseOrder 29 = .ok (.iadd, 1) := by decide +kernel
theorem dX6_parseOrder_30 : decode cX6_parseOrder 30 = .ok (.putfield 19, 3) := by decide +kernel
theorem dX6_parseOrder_33 : decode cX6_parseOrder 33 = .ok (.aload_n 0, 1) := by decide +kernel
theorem dX6_parseOrder_34 : decode cX6_parseOrder 34 = .ok (.iconst 0, 1) := by decide +kernel
theorem dX6_parseOrder_35 : decode cX6_parseOrder 35 = .ok (.putfield 22, 3) := by decide +kernel
theorem dX6_parseOrder_38 : decode cX6_parseOrder 38 = .ok (.aload_n 0, 1) := by decide +kernel
theorem dX6_parseOrder_39 : decode cX6_parseOrder 39 = .ok (.iload_n 2, 1) := by decide +kernel
theorem dX6_parseOrder_40 : decode cX6_parseOrder 40 = .ok (.invokevirtual 49, 3) := by decide +kernel
theorem dX6_parseOrder_43 : decode cX6_parseOrder 43 = .ok (.iconst 0, 1) := by decide +kernel
theorem dX6_parseOrder_44 : decode cX6_parseOrder 44 = .ok (.istore 4, 2) := by decide +kernel
theorem dX6_parseOrder_46 : decode cX6_parseOrder 46 = .ok (.iload 4, 2) := by decide +kernel
theorem dX6_parseOrder_48 : decode cX6_parseOrder 48 = .ok (.aload_n 3, 1) := by decide +kernel
theorem dX6_parseOrder_49 : decode cX6_parseOrder 49 = .ok (.invokevirtual 53, 3) := by decide +kernel
theorem dX6_parseOrder_52 : decode cX6_parseOrder 52 = .ok (.if_icmp .ge 25, 3) := by decide +kernel
theorem dX6_parseOrder_55 : decode cX6_parseOrder 55 = .ok (.aload_n 0, 1) := by decide +kernel
theorem dX6_parseOrder_56 : decode cX6_parseOrder 56 = .ok (.aload_n 1, 1) := by decide +kernel
theorem dX6_parseOrder_57 : decode cX6_parseOrder 57 = .ok (.aload_n 3, 1) := by decide +kernel
theorem dX6_parseOrder_58 : decode cX6_parseOrder 58 = .ok (.iload 4, 2) := by decide +kernel
theorem dX6_parseOrder_60 : decode cX6_parseOrder 60 = .ok (.invokevirtual 57, 3) := by decide +kernel
theorem dX6_parseOrder_63 : decode cX6_parseOrder 63 = .ok (.invokevirtual 61, 3) := by decide +kernel
theorem dX6_parseOrder_66 : decode cX6_parseOrder 66 = .ok (.ifCond .ne 5, 3) := by decide +kernel
theorem dX6_parseOrder_69 : decode cX6_parseOrder 69 = .ok (.iconst 0, 1) := by decide +kernel
theorem dX6_parseOrder_70 : decode cX6_parseOrder 70 = .ok (.ireturn, 1) := by decide +kernel
theorem dX6_parseOrder_71 : decode cX6_parseOrder 71 = .ok (.iinc 4 1, 3) := by decide +kernel
theorem dX6_parseOrder_74 : decode cX6_parseOrder 74 = .ok (.goto (-28), 3) := by decide +kernel
theorem dX6_parseOrder_77 : decode cX6_parseOrder 77 = .ok (.aload_n 0, 1) := by decide +kernel
theorem dX6_parseOrder_78 : decode cX6_parseOrder 78 = .ok (.dup, 1) := by decide +kernel
theorem dX6_parseOrder_79 : decode cX6_parseOrder 79 = .ok (.getfield 15, 3) := by decide +kernel
theorem dX6_parseOrder_82 : decode cX6_parseOrder 82 = .ok (.iconst 1, 1) := by decide +kernel
theorem dX6_parseOrder_83 : decode cX6_parseOrder 83 = .ok (.iadd, 1) := by decide +kernel
theorem dX6_parseOrder_84 : decode cX6_parseOrder 84 = .ok (.putfield 15, 3) := by decide +kernel
theorem dX6_parseOrder_87 : decode cX6_parseOrder 87 = .ok (.iconst 1, 1) := by decide +kernel
theorem dX6_parseOrder_88 : decode cX6_parseOrder 88 = .ok (.ireturn, 1) := by decide +kernel
theorem dX6_shapeOf_0 : decode cX6_shapeOf 0 = .ok (.iload_n 0, 1) := by decide +kernel
theorem dX6_shapeOf_1 : decode cX6_shapeOf 1 = .ok (.tableswitch 105 101 118 #[87, 90, 105, 105, 105, 105, 105, 105, 93, 105, 105, 96, 105, 102, 105, 105, 105, 99], 87) := by decide +kernel
theorem dX6_shapeOf_88 : decode cX6_shapeOf 88 = .ok (.ldc 65, 2) := by decide +kernel
theorem dX6_shapeOf_90 : decode cX6_shapeOf 90 = .ok (.areturn, 1) := by decide +kernel
theorem dX6_shapeOf_91 : decode cX6_shapeOf 91 = .ok (.ldc 67, 2) := by decide +kernel
theorem dX6_shapeOf_93 : decode cX6_shapeOf 93 = .ok (.areturn, 1) := by decide +kernel
theorem dX6_shapeOf_94 : decode cX6_shapeOf 94 = .ok (.ldc 69, 2) := by decide +kernel
theorem dX6_shapeOf_96 : decode cX6_shapeOf 96 = .ok (.areturn, 1) := by decide +kernel
theorem dX6_shapeOf_97 : decode cX6_shapeOf 97 = .ok (.ldc 71, 2) := by decide +kernel
theorem dX6_shapeOf_99 : decode cX6_shapeOf 99 = .ok (.areturn, 1) := by decide +kernel
theorem dX6_shapeOf_100 : decode cX6_shapeOf 100 = .ok (.ldc 71, 2) := by decide +kernel
theorem dX6_shapeOf_102 : decode cX6_shapeOf 102 = .ok (.areturn, 1) := by decide +kernel
theorem dX6_shapeOf_103 : decode cX6_shapeOf 103 = .ok (.ldc 73, 2) := by decide +kernel
theorem dX6_shapeOf_105 : decode cX6_shapeOf 105 = .ok (.areturn, 1) := by decide +kernel
theorem dX6_shapeOf_106 : decode cX6_shapeOf 106 = .ok (.ldc 75, 2) := by decide +kernel
theorem dX6_shapeOf_108 : decode cX6_shapeOf 108 = .ok (.areturn, 1) := by decide +kernel
theorem dX6_parseSign_0 : decode cX6_parseSign 0 = .ok (.aload_n 1, 1) := by decide +kernel
theorem dX6_parseSign_1 : decode cX6_parseSign 1 = .ok (.aload_n 0, 1) := by decide +kernel
theorem dX6_parseSign_2 : decode cX6_parseSign 2 = .ok (.getfield 19, 3) := by decide +kernel
theorem dX6_parseSign_5 : decode cX6_parseSign 5 = .ok (.invokevirtual 29, 3) := by decide +kernel
theorem dX6_parseSign_8 : decode cX6_parseSign 8 = .ok (.istore_n 3, 1) := by decide +kernel
theorem dX6_parseSign_9 : decode cX6_parseSign 9 = .ok (.iload_n 2, 1) := by decide +kernel
theorem dX6_parseSign_10 : decode cX6_parseSign 10 = .ok (.bipush 49, 2) := by decide +kernel
theorem dX6_parseSign_12 : decode cX6_parseSign 12 = .ok (.if_icmp .eq 28, 3) := by decide +kernel
theorem dX6_parseSign_15 : decode cX6_parseSign 15 = .ok (.iload_n 2, 1) := by decide +kernel
theorem dX6_parseSign_16 : decode cX6_parseSign 16 = .ok (.bipush 50, 2) := by decide +kernel
theorem dX6_parseSign_18 : decode cX6_parseSign 18 = .ok (.if_icmp .eq 22, 3) := by decide +kernel
theorem dX6_parseSign_21 : decode cX6_parseSign 21 = .ok (.iload_n 3, 1) := by decide +kernel
theorem dX6_parseSign_22 : decode cX6_parseSign 22 = .ok (.iload_n 2, 1) := by decide +kernel
theorem dX6_parseSign_23 : decode cX6_parseSign 23 = .ok (.if_icmp .eq 5, 3) := by decide +kernel
theorem dX6_parseSign_26 : decode cX6_parseSign 26 = .ok (.iconst 0, 1) := by decide +kernel
theorem dX6_parseSign_27 : decode cX6_parseSign 27 = .ok (.ireturn, 1) := by decide +kernel
theorem dX6_parseSign_28 : decode cX6_parseSign 28 = .ok (.aload_n 0, 1) := by decide +kernel
theorem dX6_parseSign_29 : decode cX6_parseSign 29 = .ok (.dup, 1) := by decide +kernel
theorem dX6_parseSign_30 : decode cX6_parseSign 30 = .ok (.getfield 19, 3) := by decide +kernel
theorem dX6_parseSign_33 : decode cX6_parseSign 33 = .ok (.iconst 1, 1) := by decide +kernel
theorem dX6_parseSign_34 : decode cX6_parseSign 34 = .ok (.iadd, 1) := by decide +kernel
theorem dX6_parseSign_35 : decode cX6_parseSign 35 = .ok (.putfield 19, 3) := by decide +kernel
theorem dX6_parseSign_38 : decode cX6_parseSign 38 = .ok (.iconst 1, 1) := by decide +kernel
theorem dX6_parseSign_39 : decode cX6_parseSign 39 = .ok (.ireturn, 1) := by decide +kernel
theorem dX6_parseSign_40 : decode cX6_parseSign 40 = .ok (.iload_n 3, 1) := by decide +kernel
theorem dX6_parseSign_41 : decode cX6_parseSign 41 = .ok (.invokestatic 77, 3) := by decide +kernel
theorem dX6_parseSign_44 : decode cX6_parseSign 44 = .ok (.ifCond .ne 5, 3) := by decide +kernel
theorem dX6_parseSign_47 : decode cX6_parseSign 47 = .ok (.iconst 0, 1) := by decide +kernel
theorem dX6_parseSign_48 : decode cX6_parseSign 48 = .ok (.ireturn, 1) := by decide +kernel
theorem dX6_parseSign_49 : decode cX6_parseSign 49 = .ok (.aload_n 0, 1) := by decide +kernel
theorem dX6_parseSign_50 : decode cX6_parseSign 50 = .ok (.dup, 1) := by decide +kernel
theorem dX6_parseSign_51 : decode cX6_parseSign 51 = .ok (.getfield 19, 3) := by decide +kernel
theorem dX6_parseSign_54 : decode cX6_parseSign 54 = .ok (.iconst 1, 1) := by decide +kernel
theorem dX6_parseSign_55 : decode cX6_parseSign 55 = .ok (.iadd, 1) := by decide +kernel
theorem dX6_parseSign_56 : decode cX6_parseSign 56 = .ok (.putfield 19, 3) := by decide +kernel
theorem dX6_parseSign_59 : decode cX6_parseSign 59 = .ok (.iload_n 3, 1) := by decide +kernel
theorem dX6_parseSign_60 : decode cX6_parseSign 60 = .ok (.bipush 48, 2) := by decide +kernel
theorem dX6_parseSign_62 : decode cX6_parseSign 62 = .ok (.isub, 1) := by decide +kernel
theorem dX6_parseSign_63 : decode cX6_parseSign 63 = .ok (.istore 4, 2) := by decide +kernel
theorem dX6_parseSign_65 : decode cX6_parseSign 65 = .ok (.aload_n 1, 1) := by decide +kernel
theorem dX6_parseSign_66 : decode cX6_parseSign 66 = .ok (.aload_n 0, 1) := by decide +kernel
theorem dX6_parseSign_67 : decode cX6_parseSign 67 = .ok (.getfield 19, 3) := by decide +kernel
theorem dX6_parseSign_70 : decode cX6_parseSign 70 = .ok (.invokevirtual 29, 3) := by decide +kernel
theorem dX6_parseSign_73 : decode cX6_parseSign 73 = .ok (.istore 5, 2) := by decide +kernel
theorem dX6_parseSign_75 : decode cX6_parseSign 75 = .ok (.iload_n 2, 1) := by decide +kernel
theorem dX6_parseSign_76 : decode cX6_parseSign 76 = .ok (.bipush 50, 2) := by decide +kernel
theorem dX6_parseSign_78 : decode cX6_parseSign 78 = .ok (.if_icmp .ne 34, 3) := by decide +kernel
theorem dX6_parseSign_81 : decode cX6_parseSign 81 = .ok (.iload 5, 2) := by decide +kernel
theorem dX6_parseSign_83 : decode cX6_parseSign 83 = .ok (.invokestatic 77, 3) := by decide +kernel
theorem dX6_parseSign_86 : decode cX6_parseSign 86 = .ok (.ifCond .eq 26, 3) := by decide +kernel
theorem dX6_parseSign_89 : decode cX6_parseSign 89 = .ok (.aload_n 0, 1) := by decide +kernel
theorem dX6_parseSign_90 : decode cX6_parseSign 90 = .ok (.dup, 1) := by decide +kernel
theorem dX6_parseSign_91 : decode cX6_parseSign 91 = .ok (.getfield 19, 3) := by decide +kernel
theorem dX6_parseSign_94 : decode cX6_parseSign 94 = .ok (.iconst 1, 1) := by decide +kernel
theorem dX6_parseSign_95 : decode cX6_parseSign 95 = .ok (.iadd, 1) := by decide +kernel
theorem dX6_parseSign_96 : decode cX6_parseSign 96 = .ok (.putfield 19, 3) := by decide +kernel
theorem dX6_parseSign_99 : decode cX6_parseSign 99 = .ok (.iload 4, 2) := by decide +kernel
theorem dX6_parseSign_101 : decode cX6_parseSign 101 = .ok (.bipush 10, 2) := by decide +kernel
theorem dX6_parseSign_103 : decode cX6_parseSign 103 = .ok (.imul, 1) := by decide +kernel
theorem dX6_parseSign_104 : decode cX6_parseSign 104 = .ok (.iload 5, 2) := by decide +kernel
theorem dX6_parseSign_106 : decode cX6_parseSign 106 = .ok (.iadd, 1) := by decide +kernel
theorem dX6_parseSign_107 : decode cX6_parseSign 107 = .ok (.bipush 48, 2) := by decide +kernel
theorem dX6_parseSign_109 : decode cX6_parseSign 109 = .ok (.isub, 1) := by decide +kernel
theorem dX6_parseSign_110 : decode cX6_parseSign 110 = .ok (.istore 4, 2) := by decide +kernel
theorem dX6_parseSign_112 : decode cX6_parseSign 112 = .ok (.aload_n 0, 1) := by decide +kernel
theorem dX6_parseSign_113 : decode cX6_parseSign 113 = .ok (.iload 4, 2) := by decide +kernel
theorem dX6_parseSign_115 : decode cX6_parseSign 115 = .ok (.invokevirtual 49, 3) := by decide +kernel
theorem dX6_parseSign_118 : decode cX6_parseSign 118 = .ok (.iconst 1, 1) := by decide +kernel
theorem dX6_parseSign_119 : decode cX6_parseSign 119 = .ok (.ireturn, 1) := by decide +kernel
theorem dX6_isDigit_0 : decode cX6_isDigit 0 = .ok (.iload_n 0, 1) := by decide +kernel
theorem dX6_isDigit_1 : decode cX6_isDigit 1 = .ok (.bipush 48, 2) := by decide +kernel
theorem dX6_isDigit_3 : decode cX6_isDigit 3 = .ok (.if_icmp .lt 13, 3) := by decide +kernel
theorem dX6_isDigit_6 : decode cX6_isDigit 6 = .ok (.iload_n 0, 1) := by decide +kernel
theorem dX6_isDigit_7 : decode cX6_isDigit 7 = .ok (.bipush 57, 2) := by decide +kernel
theorem dX6_isDigit_9 : decode cX6_isDigit 9 = .ok (.if_icmp .gt 7, 3) := by decide +kernel
theorem dX6_isDigit_12 : decode cX6_isDigit 12 = .ok (.iconst 1, 1) := by decide +kernel
theorem dX6_isDigit_13 : decode cX6_isDigit 13 = .ok (.goto 4, 3) := by decide +kernel
theorem dX6_isDigit_16 : decode cX6_isDigit 16 = .ok (.iconst 0, 1) := by decide +kernel
theorem dX6_isDigit_17 : decode cX6_isDigit 17 = .ok (.ireturn, 1) := by decide +kernel
theorem dX6_store_0 : decode cX6_store 0 = .ok (.aload_n 0, 1) := by decide +kernel
theorem dX6_store_1 : decode cX6_store 1 = .ok (.getfield 15, 3) := by decide +kernel
theorem dX6_store_4 : decode cX6_store 4 = .ok (.iconst 4, 1) := by decide +kernel
theorem dX6_store_5 : decode cX6_store 5 = .ok (.imul, 1) := by decide +kernel
theorem dX6_store_6 : decode cX6_store 6 = .ok (.aload_n 0, 1) := by decide +kernel
theorem dX6_store_7 : decode cX6_store 7 = .ok (.getfield 22, 3) := by decide +kernel
theorem dX6_store_10 : decode cX6_store 10 = .ok (.iadd, 1) := by decide +kernel
theorem dX6_store_11 : decode cX6_store 11 = .ok (.istore_n 2, 1) := by decide +kernel
theorem dX6_store_12 : decode cX6_store 12 = .ok (.iload_n 2, 1) := by decide +kernel
theorem dX6_store_13 : decode cX6_store 13 = .ok (.ifCond .lt 19, 3) := by decide +kernel
theorem dX6_store_16 : decode cX6_store 16 = .ok (.iload_n 2, 1) := by decide +kernel
theorem dX6_store_17 : decode cX6_store 17 = .ok (.aload_n 0, 1) := by decide +kernel
theorem dX6_store_18 : decode cX6_store 18 = .ok (.getfield 9, 3) := by decide +kernel
theorem dX6_store_21 : decode cX6_store 21 = .ok (.arraylength, 1) := by decide +kernel
theorem dX6_store_22 : decode cX6_store 22 = .ok (.if_icmp .ge 10, 3) := by decide +kernel
theorem dX6_store_25 : decode cX6_store 25 = .ok (.aload_n 0, 1) := by decide +kernel
theorem dX6_store_26 : decode cX6_store 26 = .ok (.getfield 9, 3) := by decide +kernel
theorem dX6_store_29 : decode cX6_store 29 = .ok (.iload_n 2, 1) := by decide +kernel
theorem dX6_store_30 : decode cX6_store 30 = .ok (.iload_n 1, 1) := by decide +kernel
theorem dX6_store_31 : decode cX6_store 31 = .ok (.iastore, 1) := by decide +kernel
theorem dX6_store_32 : decode cX6_store 32 = .ok (.aload_n 0, 1) := by decide +kernel
theorem dX6_store_33 : decode cX6_store 33 = .ok (.dup, 1) := by decide +kernel
theorem dX6_store_34 : decode cX6_store 34 = .ok (.getfield 22, 3) := by decide +kernel
theorem dX6_store_37 : decode cX6_store 37 = .ok (.iconst 1, 1) := by decide +kernel
theorem dX6_store_38 : decode cX6_store 38 = .ok (.iadd, 1) := by decide +kernel
theorem dX6_store_39 : decode cX6_store 39 = .ok (.putfield 22, 3) := by decide +kernel
theorem dX6_store_42 : decode cX6_store 42 = .ok (.return_, 1) := by decide +kernel
theorem dX6_numberAt_0 : decode cX6_numberAt 0 = .ok (.iload_n 1, 1) := by decide +kernel
theorem dX6_numberAt_1 : decode cX6_numberAt 1 = .ok (.iconst 4, 1) := by decide +kernel
theorem dX6_numberAt_2 : decode cX6_numberAt 2 = .ok (.imul, 1) := by decide +kernel
theorem dX6_numberAt_3 : decode cX6_numberAt 3 = .ok (.iload_n 2, 1) := by decide +kernel
theorem dX6_numberAt_4 : decode cX6_numberAt 4 = .ok (.iadd, 1) := by decide +kernel
theorem dX6_numberAt_5 : decode cX6_numberAt 5 = .ok (.istore_n 3, 1) := by decide +kernel
theorem dX6_numberAt_6 : decode cX6_numberAt 6 = .ok (.iload_n 3, 1) := by decide +kernel
theorem dX6_numberAt_7 : decode cX6_numberAt 7 = .ok (.ifCond .lt 21, 3) := by decide +kernel
theorem dX6_numberAt_10 : decode cX6_numberAt 10 = .ok (.iload_n 3, 1) := by decide +kernel
theorem dX6_numberAt_11 : decode cX6_numberAt 11 = .ok (.aload_n 0, 1) := by decide +kernel
theorem dX6_numberAt_12 : decode cX6_numberAt 12 = .ok (.getfield 9, 3) := by decide +kernel
theorem dX6_numberAt_15 : decode cX6_numberAt 15 = .ok (.arraylength, 1) := by decide +kernel
theorem dX6_numberAt_16 : decode cX6_numberAt 16 = .ok (.if_icmp .ge 12, 3) := by decide +kernel
theorem dX6_numberAt_19 : decode cX6_numberAt 19 = .ok (.aload_n 0, 1) := by decide +kernel
theorem dX6_numberAt_20 : decode cX6_numberAt 20 = .ok (.getfield 9, 3) := by decide +kernel
theorem dX6_numberAt_23 : decode cX6_numberAt 23 = .ok (.iload_n 3, 1) := by decide +kernel
theorem dX6_numberAt_24 : decode cX6_numberAt 24 = .ok (.iaload, 1) := by decide +kernel
theorem dX6_numberAt_25 : decode cX6_numberAt 25 = .ok (.goto 4, 3) := by decide +kernel
theorem dX6_numberAt_28 : decode cX6_numberAt 28 = .ok (.iconst (-1), 1) := by decide +kernel
theorem dX6_numberAt_29 : decode cX6_numberAt 29 = .ok (.ireturn, 1) := by decide +kernel
theorem dX6_carryOutOrder_0 : decode cX6_carryOutOrder 0 = .ok (.aload_n 0, 1) := by decide +kernel
theorem dX6_carryOutOrder_1 : decode cX6_carryOutOrder 1 = .ok (.iload_n 2, 1) := by decide +kernel
theorem dX6_carryOutOrder_2 : decode cX6_carryOutOrder 2 = .ok (.iconst 1, 1) := by decide +kernel
theorem dX6_carryOutOrder_3 : decode cX6_carryOutOrder 3 = .ok (.invokevirtual 81, 3) := by decide +kernel
theorem dX6_carryOutOrder_6 : decode cX6_carryOutOrder 6 = .ok (.istore_n 3, 1) := by decide +kernel
theorem dX6_carryOutOrder_7 : decode cX6_carryOutOrder 7 = .ok (.aload_n 0, 1) := by decide +kernel
theorem dX6_carryOutOrder_8 : decode cX6_carryOutOrder 8 = .ok (.iload_n 2, 1) := by decide +kernel
theorem dX6_carryOutOrder_9 : decode cX6_carryOutOrder 9 = .ok (.iconst 2, 1) := by decide +kernel
theorem dX6_carryOutOrder_10 : decode cX6_carryOutOrder 10 = .ok (.invokevirtual 81, 3) := by decide +kernel
theorem dX6_carryOutOrder_13 : decode cX6_carryOutOrder 13 = .ok (.istore 4, 2) := by decide +kernel
theorem dX6_carryOutOrder_15 : decode cX6_carryOutOrder 15 = .ok (.aload_n 0, 1) := by decide +kernel
theorem dX6_carryOutOrder_16 : decode cX6_carryOutOrder 16 = .ok (.iload_n 2, 1) := by decide +kernel
theorem dX6_carryOutOrder_17 : decode cX6_carryOutOrder 17 = .ok (.iconst 3, 1) := by decide +kernel
theorem dX6_carryOutOrder_18 : decode cX6_carryOutOrder 18 = .ok (.invokevirtual 81, 3) := by decide +kernel
theorem dX6_carryOutOrder_21 : decode cX6_carryOutOrder 21 = .ok (.istore 5, 2) := by decide +kernel
theorem dX6_carryOutOrder_23 : decode cX6_carryOutOrder 23 = .ok (.aload_n 0, 1) := by decide +kernel
theorem dX6_carryOutOrder_24 : decode cX6_carryOutOrder 24 = .ok (.iload_n 2, 1) := by decide +kernel
theorem dX6_carryOutOrder_25 : decode cX6_carryOutOrder 25 = .ok (.iconst 0, 1) := by decide +kernel
theorem dX6_carryOutOrder_26 : decode cX6_carryOutOrder 26 = .ok (.invokevirtual 81, 3) := by decide +kernel
theorem dX6_carryOutOrder_29 : decode cX6_carryOutOrder 29 = .ok (.tableswitch 141 101 118 #[87, 97, 141, 141, 141, 141, 141, 141, 103, 141, 141, 113, 141, 133, 141, 141, 141, 123], 87) := by decide +kernel
theorem dX6_carryOutOrder_116 : decode cX6_carryOutOrder 116 = .ok (.aload_n 1, 1) := by decide +kernel
theorem dX6_carryOutOrder_117 : decode cX6_carryOutOrder 117 = .ok (.iload_n 3, 1) := by decide +kernel
theorem dX6_carryOutOrder_118 : decode cX6_carryOutOrder 118 = .ok (.iload 4, 2) := by decide +kernel
theorem dX6_carryOutOrder_120 : decode cX6_carryOutOrder 120 = .ok (.iload 5, 2) := by decide +kernel
theorem dX6_carryOutOrder_122 : decode cX6_carryOutOrder 122 = .ok (.invokevirtual 85, 3) := by decide +kernel
theorem dX6_carryOutOrder_125 : decode cX6_carryOutOrder 125 = .ok (.ireturn, 1) := by decide +kernel
theorem dX6_carryOutOrder_126 : decode cX6_carryOutOrder 126 = .ok (.aload_n 1, 1) := by decide +kernel
theorem dX6_carryOutOrder_127 : decode cX6_carryOutOrder 127 = .ok (.iload_n 3, 1) := by decide +kernel
theorem dX6_carryOutOrder_128 : decode cX6_carryOutOrder 128 = .ok (.invokevirtual 91, 3) := by decide +kernel
theorem dX6_carryOutOrder_131 : decode cX6_carryOutOrder 131 = .ok (.ireturn, 1) := by decide +kernel
theorem dX6_carryOutOrder_132 : decode cX6_carryOutOrder 132 = .ok (.aload_n 1, 1) := by decide +kernel
theorem dX6_carryOutOrder_133 : decode cX6_carryOutOrder 133 = .ok (.iload_n 3, 1) := by decide +kernel
theorem dX6_carryOutOrder_134 : decode cX6_carryOutOrder 134 = .ok (.iload 4, 2) := by decide +kernel
theorem dX6_carryOutOrder_136 : decode cX6_carryOutOrder 136 = .ok (.iload 5, 2) := by decide +kernel
theorem dX6_carryOutOrder_138 : decode cX6_carryOutOrder 138 = .ok (.invokevirtual 94, 3) := by decide +kernel
theorem dX6_carryOutOrder_141 : decode cX6_carryOutOrder 141 = .ok (.ireturn, 1) := by decide +kernel
theorem dX6_carryOutOrder_142 : decode cX6_carryOutOrder 142 = .ok (.aload_n 1, 1) := by decide +kernel
theorem dX6_carryOutOrder_143 : decode cX6_carryOutOrder 143 = .ok (.iload_n 3, 1) := by decide +kernel
theorem dX6_carryOutOrder_144 : decode cX6_carryOutOrder 144 = .ok (.iload 4, 2) := by decide +kernel
theorem dX6_carryOutOrder_146 : decode cX6_carryOutOrder 146 = .ok (.iload 5, 2) := by decide +kernel
theorem dX6_carryOutOrder_148 : decode cX6_carryOutOrder 148 = .ok (.invokevirtual 97, 3) := by decide +kernel
theorem dX6_carryOutOrder_151 : decode cX6_carryOutOrder 151 = .ok (.ireturn, 1) := by decide +kernel
theorem dX6_carryOutOrder_152 : decode cX6_carryOutOrder 152 = .ok (.aload_n 1, 1) := by decide +kernel
theorem dX6_carryOutOrder_153 : decode cX6_carryOutOrder 153 = .ok (.iload_n 3, 1) := by decide +kernel
theorem dX6_carryOutOrder_154 : decode cX6_carryOutOrder 154 = .ok (.iload 4, 2) := by decide +kernel
theorem dX6_carryOutOrder_156 : decode cX6_carryOutOrder 156 = .ok (.iload 5, 2) := by decide +kernel
theorem dX6_carryOutOrder_158 : decode cX6_carryOutOrder 158 = .ok (.invokevirtual 100, 3) := by decide +kernel
theorem dX6_carryOutOrder_161 : decode cX6_carryOutOrder 161 = .ok (.ireturn, 1) := by decide +kernel
theorem dX6_carryOutOrder_162 : decode cX6_carryOutOrder 162 = .ok (.aload_n 1, 1) := by decide +kernel
theorem dX6_carryOutOrder_163 : decode cX6_carryOutOrder 163 = .ok (.iload_n 3, 1) := by decide +kernel
theorem dX6_carryOutOrder_164 : decode cX6_carryOutOrder 164 = .ok (.iload 4, 2) := by decide +kernel
theorem dX6_carryOutOrder_166 : decode cX6_carryOutOrder 166 = .ok (.invokevirtual 103, 3) := by decide +kernel
theorem dX6_carryOutOrder_169 : decode cX6_carryOutOrder 169 = .ok (.ireturn, 1) := by decide +kernel
theorem dX6_carryOutOrder_170 : decode cX6_carryOutOrder 170 = .ok (.bipush (-2), 2) := by decide +kernel
theorem dX6_carryOutOrder_172 : decode cX6_carryOutOrder 172 = .ok (.ireturn, 1) := by decide +kernel
theorem dX7_init_0 : decode cX7_init 0 = .ok (.aload_n 0, 1) := by decide +kernel
theorem dX7_init_1 : decode cX7_init 1 = .ok (.invokespecial 3, 3) := by decide +kernel
theorem dX7_init_4 : decode cX7_init 4 = .ok (.aload_n 0, 1) := by decide +kernel
theorem dX7_init_5 : decode cX7_init 5 = .ok (.bipush 24, 2) := by decide +kernel
theorem dX7_init_7 : decode cX7_init 7 = .ok (.newarray .int, 2) := by decide +kernel
theorem dX7_init_9 : decode cX7_init 9 = .ok (.putfield 9, 3) := by decide +kernel
theorem dX7_init_12 : decode cX7_init 12 = .ok (.aload_n 0, 1) := by decide +kernel
theorem dX7_init_13 : decode cX7_init 13 = .ok (.iconst 0, 1) := by decide +kernel
theorem dX7_init_14 : decode cX7_init 14 = .ok (.putfield 15, 3) := by decide +kernel
theorem dX7_init_17 : decode cX7_init 17 = .ok (.aload_n 0, 1) := by decide +kernel
theorem dX7_init_18 : decode cX7_init 18 = .ok (.iconst 0, 1) := by decide +kernel
theorem dX7_init_19 : decode cX7_init 19 = .ok (.putfield 19, 3) := by decide +kernel
theorem dX7_init_22 : decode cX7_init 22 = .ok (.return_, 1) := by decide +kernel
theorem dX7_follow_0 : decode cX7_follow 0 = .ok (.aload_n 0, 1) := by decide +kernel
theorem dX7_follow_1 : decode cX7_follow 1 = .ok (.iconst 0, 1) := by decide +kernel
theorem dX7_follow_2 : decode cX7_follow 2 = .ok (.putfield 15, 3) := by decide +kernel
theorem dX7_follow_5 : decode cX7_follow 5 = .ok (.iload_n 2, 1) := by decide +kernel
theorem dX7_follow_6 : decode cX7_follow 6 = .ok (.istore_n 3, 1) := by decide +kernel
theorem dX7_follow_7 : decode cX7_follow 7 = .ok (.iconst 0, 1) := by decide +kernel
theorem dX7_follow_8 : decode cX7_follow 8 = .ok (.istore 4, 2) := by decide +kernel
theorem dX7_follow_10 : decode cX7_follow 10 = .ok (.iload 4, 2) := by decide +kernel
theorem dX7_follow_12 : decode cX7_follow 12 = .ok (.bipush 24, 2) := by decide +kernel
theorem dX7_follow_14 : decode cX7_follow 14 = .ok (.if_icmp .ge 36, 3) := by decide +kernel
theorem dX7_follow_17 : decode cX7_follow 17 = .ok (.iload_n 3, 1) := by decide +kernel
theorem dX7_follow_18 : decode cX7_follow 18 = .ok (.iconst (-1), 1) := by decide +kernel
theorem dX7_follow_19 : decode cX7_follow 19 = .ok (.if_icmp .eq 31, 3) := by decide +kernel
theorem dX7_follow_22 : decode cX7_follow 22 = .ok (.aload_n 0, 1) := by decide +kernel
theorem dX7_follow_23 : decode cX7_follow 23 = .ok (.getfield 9, 3) := by decide +kernel
theorem dX7_follow_26 : decode cX7_follow 26 = .ok (.iload 4, 2) := by decide +kernel
theorem dX7_follow_28 : decode cX7_follow 28 = .ok (.iload_n 3, 1) := by decide +kernel
theorem dX7_follow_29 : decode cX7_follow 29 = .ok (.iastore, 1) := by decide +kernel
theorem dX7_follow_30 : decode cX7_follow 30 = .ok (.aload_n 0, 1) := by decide +kernel
theorem dX7_follow_31 : decode cX7_follow 31 = .ok (.iload 4, 2) := by decide +kernel
theorem dX7_follow_33 : decode cX7_follow 33 = .ok (.iconst 1, 1) := by decide +kernel
theorem dX7_follow_34 : decode cX7_follow 34 = .ok (.iadd, 1) := by decide +kernel
theorem dX7_follow_35 : decode cX7_follow 35 = .ok (.putfield 15, 3) := by decide +kernel
theorem dX7_follow_38 : decode cX7_follow 38 = .ok (.aload_n 1, 1) := by decide +kernel
theorem dX7_follow_39 : decode cX7_follow 39 = .ok (.iload_n 3, 1) := by decide +kernel
theorem dX7_follow_40 : decode cX7_follow 40 = .ok (.invokevirtual 22, 3) := by decide +kernel
theorem dX7_follow_43 : decode cX7_follow 43 = .ok (.istore_n 3, 1) := by decide +kernel
theorem dX7_follow_44 : decode cX7_follow 44 = .ok (.iinc 4 1, 3) := by decide +kernel
theorem dX7_follow_47 : decode cX7_follow 47 = .ok (.goto (-37), 3) := by decide +kernel
theorem dX7_follow_50 : decode cX7_follow 50 = .ok (.return_, 1) := by decide +kernel
theorem dX7_at_0 : decode cX7_at 0 = .ok (.iload_n 1, 1) := by decide +kernel
theorem dX7_at_1 : decode cX7_at 1 = .ok (.ifCond .lt 26, 3) := by decide +kernel
theorem dX7_at_4 : decode cX7_at 4 = .ok (.iload_n 1, 1) := by decide +kernel
theorem dX7_at_5 : decode cX7_at 5 = .ok (.aload_n 0, 1) := by decide +kernel
theorem dX7_at_6 : decode cX7_at 6 = .ok (.getfield 15, 3) := by decide +kernel
theorem dX7_at_9 : decode cX7_at 9 = .ok (.if_icmp .ge 18, 3) := by decide +kernel
theorem dX7_at_12 : decode cX7_at 12 = .ok (.iload_n 1, 1) := by decide +kernel
theorem dX7_at_13 : decode cX7_at 13 = .ok (.bipush 24, 2) := by decide +kernel
theorem dX7_at_15 : decode cX7_at 15 = .ok (.if_icmp .ge 12, 3) := by decide +kernel
theorem dX7_at_18 : decode cX7_at 18 = .ok (.aload_n 0, 1) := by decide +kernel
theorem dX7_at_19 : decode cX7_at 19 = .ok (.getfield 9, 3) := by decide +kernel
theorem dX7_at_22 : decode cX7_at 22 = .ok (.iload_n 1, 1) := by decide +kernel
theorem dX7_at_23 : decode cX7_at 23 = .ok (.iaload, 1) := by decide +kernel
theorem dX7_at_24 : decode cX7_at 24 = .ok (.goto 4, 3) := by decide +kernel
theorem dX7_at_27 : decode cX7_at 27 = .ok (.iconst (-1), 1) := by decide +kernel
theorem dX7_at_28 : decode cX7_at 28 = .ok (.ireturn, 1) := by decide +kernel
theorem dX7_looksTaken_0 : decode cX7_looksTaken 0 = .ok (.aload_n 0, 1) := by decide +kernel
theorem dX7_looksTaken_1 : decode cX7_looksTaken 1 = .ok (.getfield 19, 3) := by decide +kernel
theorem dX7_looksTaken_4 : decode cX7_looksTaken 4 = .ok (.ireturn, 1) := by decide +kernel
theorem dX7_searchByHalves_0 : decode cX7_searchByHalves 0 = .ok (.iconst 0, 1) := by decide +kernel
theorem dX7_searchByHalves_1 : decode cX7_searchByHalves 1 = .ok (.istore 4, 2) := by decide +kernel
theorem dX7_searchByHalves_3 : decode cX7_searchByHalves 3 = .ok (.aload_n 0, 1) := by decide +kernel
theorem dX7_searchByHalves_4 : decode cX7_searchByHalves 4 = .ok (.getfield 15, 3) := by decide +kernel
theorem dX7_searchByHalves_7 : decode cX7_searchByHalves 7 = .ok (.iconst 1, 1) := by decide +kernel
theorem dX7_searchByHalves_8 : decode cX7_searchByHalves 8 = .ok (.isub, 1) := by decide +kernel
theorem dX7_searchByHalves_9 : decode cX7_searchByHalves 9 = .ok (.istore 5, 2) := by decide +kernel
theorem dX7_searchByHalves_11 : decode cX7_searchByHalves 11 = .ok (.aload_n 0, 1) := by decide +kernel
theorem dX7_searchByHalves_12 : decode cX7_searchByHalves 12 = .ok (.iconst 0, 1) := by decide +kernel
theorem dX7_searchByHalves_13 : decode cX7_searchByHalves 13 = .ok (.putfield 19, 3) := by decide +kernel
theorem dX7_searchByHalves_16 : decode cX7_searchByHalves 16 = .ok (.iconst 0, 1) := by decide +kernel
theorem dX7_searchByHalves_17 : decode cX7_searchByHalves 17 = .ok (.istore 6, 2) := by decide +kernel
theorem dX7_searchByHalves_19 : decode cX7_searchByHalves 19 = .ok (.iload 6, 2) := by decide +kernel
theorem dX7_searchByHalves_21 : decode cX7_searchByHalves 21 = .ok (.bipush 24, 2) := by decide +kernel
theorem dX7_searchByHalves_23 : decode cX7_searchByHalves 23 = .ok (.if_icmp .ge 63, 3) := by decide +kernel
theorem dX7_searchByHalves_26 : decode cX7_searchByHalves 26 = .ok (.iload 5, 2) := by decide +kernel
theorem dX7_searchByHalves_28 : decode cX7_searchByHalves 28 = .ok (.iload 4, 2) := by decide +kernel
theorem dX7_searchByHalves_30 : decode cX7_searchByHalves 30 = .ok (.isub, 1) := by decide +kernel
theorem dX7_searchByHalves_31 : decode cX7_searchByHalves 31 = .ok (.iconst 1, 1) := by decide +kernel
theorem dX7_searchByHalves_32 : decode cX7_searchByHalves 32 = .ok (.if_icmp .le 54, 3) := by decide +kernel
theorem dX7_searchByHalves_35 : decode cX7_searchByHalves 35 = .ok (.iload 4, 2) := by decide +kernel
theorem dX7_searchByHalves_37 : decode cX7_searchByHalves 37 = .ok (.iload 5, 2) := by decide +kernel
theorem dX7_searchByHalves_39 : decode cX7_searchByHalves 39 = .ok (.iadd, 1) := by decide +kernel
theorem dX7_searchByHalves_40 : decode cX7_searchByHalves 40 = .ok (.iconst 2, 1) := by decide +kernel
theorem dX7_searchByHalves_41 : decode cX7_searchByHalves 41 = .ok (.idiv, 1) := by decide +kernel
theorem dX7_searchByHalves_42 : decode cX7_searchByHalves 42 = .ok (.istore 7, 2) := by decide +kernel
theorem dX7_searchByHalves_44 : decode cX7_searchByHalves 44 = .ok (.aload_n 0, 1) := by decide +kernel
theorem dX7_searchByHalves_45 : decode cX7_searchByHalves 45 = .ok (.dup, 1) := by decide +kernel
theorem dX7_searchByHalves_46 : decode cX7_searchByHalves 46 = .ok (.getfield 19, 3) := by decide +kernel
theorem dX7_searchByHalves_49 : decode cX7_searchByHalves 49 = .ok (.iconst 1, 1) := by decide +kernel
theorem dX7_searchByHalves_50 : decode cX7_searchByHalves 50 = .ok (.iadd, 1) := by decide +kernel
theorem dX7_searchByHalves_51 : decode cX7_searchByHalves 51 = .ok (.putfield 19, 3) := by decide +kernel
theorem dX7_searchByHalves_54 : decode cX7_searchByHalves 54 = .ok (.aload_n 1, 1) := by decide +kernel
theorem dX7_searchByHalves_55 : decode cX7_searchByHalves 55 = .ok (.aload_n 0, 1) := by decide +kernel
theorem dX7_searchByHalves_56 : decode cX7_searchByHalves 56 = .ok (.iload 7, 2) := by decide +kernel
theorem dX7_searchByHalves_58 : decode cX7_searchByHalves 58 = .ok (.invokevirtual 28, 3) := by decide +kernel
theorem dX7_searchByHalves_61 : decode cX7_searchByHalves 61 = .ok (.iload_n 2, 1) := by decide +kernel
theorem dX7_searchByHalves_62 : decode cX7_searchByHalves 62 = .ok (.invokevirtual 31, 3) := by decide +kernel
theorem dX7_searchByHalves_65 : decode cX7_searchByHalves 65 = .ok (.iload_n 3, 1) := by decide +kernel
theorem dX7_searchByHalves_66 : decode cX7_searchByHalves 66 = .ok (.if_icmp .le 10, 3) := by decide +kernel
theorem dX7_searchByHalves_69 : decode cX7_searchByHalves 69 = .ok (.iload 7, 2) := by decide +kernel
theorem dX7_searchByHalves_71 : decode cX7_searchByHalves 71 = .ok (.istore 4, 2) := by decide +kernel
theorem dX7_searchByHalves_73 : decode cX7_searchByHalves 73 = .ok (.goto 7, 3) := by decide +kernel
theorem dX7_searchByHalves_76 : decode cX7_searchByHalves 76 = .ok (.iload 7, 2) := by decide +kernel
theorem dX7_searchByHalves_78 : decode cX7_searchByHalves 78 = .ok (.istore 5, 2) := by decide +kernel
theorem dX7_searchByHalves_80 : decode cX7_searchByHalves 80 = .ok (.iinc 6 1, 3) := by decide +kernel
theorem dX7_searchByHalves_83 : decode cX7_searchByHalves 83 = .ok (.goto (-64), 3) := by decide +kernel
theorem dX7_searchByHalves_86 : decode cX7_searchByHalves 86 = .ok (.aload_n 0, 1) := by decide +kernel
theorem dX7_searchByHalves_87 : decode cX7_searchByHalves 87 = .ok (.iload 4, 2) := by decide +kernel
theorem dX7_searchByHalves_89 : decode cX7_searchByHalves 89 = .ok (.invokevirtual 28, 3) := by decide +kernel
theorem dX7_searchByHalves_92 : decode cX7_searchByHalves 92 = .ok (.ireturn, 1) := by decide +kernel
theorem dX7_farthestBad_0 : decode cX7_farthestBad 0 = .ok (.aload_n 0, 1) := by decide +kernel
theorem dX7_farthestBad_1 : decode cX7_farthestBad 1 = .ok (.getfield 15, 3) := by decide +kernel
theorem dX7_farthestBad_4 : decode cX7_farthestBad 4 = .ok (.iconst 1, 1) := by decide +kernel
theorem dX7_farthestBad_5 : decode cX7_farthestBad 5 = .ok (.isub, 1) := by decide +kernel
theorem dX7_farthestBad_6 : decode cX7_farthestBad 6 = .ok (.istore 4, 2) := by decide +kernel
theorem dX7_farthestBad_8 : decode cX7_farthestBad 8 = .ok (.iload 4, 2) := by decide +kernel
theorem dX7_farthestBad_10 : decode cX7_farthestBad 10 = .ok (.ifCond .lt 31, 3) := by decide +kernel
theorem dX7_farthestBad_13 : decode cX7_farthestBad 13 = .ok (.aload_n 1, 1) := by decide +kernel
theorem dX7_farthestBad_14 : decode cX7_farthestBad 14 = .ok (.aload_n 0, 1) := by decide +kernel
theorem dX7_farthestBad_15 : decode cX7_farthestBad 15 = .ok (.iload 4, 2) := by decide +kernel
theorem dX7_farthestBad_17 : decode cX7_farthestBad 17 = .ok (.invokevirtual 28, 3) := by decide +kernel
theorem dX7_farthestBad_20 : decode cX7_farthestBad 20 = .ok (.iload_n 2, 1) := by decide +kernel
theorem dX7_farthestBad_21 : decode cX7_farthestBad 21 = .ok (.invokevirtual 31, 3) := by decide +kernel
theorem dX7_farthestBad_24 : decode cX7_farthestBad 24 = .ok (.iload_n 3, 1) := by decide +kernel
theorem dX7_farthestBad_25 : decode cX7_farthestBad 25 = .ok (.if_icmp .le 10, 3) := by decide +kernel
theorem dX7_farthestBad_28 : decode cX7_farthestBad 28 = .ok (.aload_n 0, 1) := by decide +kernel
theorem dX7_farthestBad_29 : decode cX7_farthestBad 29 = .ok (.iload 4, 2) := by decide +kernel
theorem dX7_farthestBad_31 : decode cX7_farthestBad 31 = .ok (.invokevirtual 28, 3) := by decide +kernel
theorem dX7_farthestBad_34 : decode cX7_farthestBad 34 = .ok (.ireturn, 1) := by decide +kernel
theorem dX7_farthestBad_35 : decode cX7_farthestBad 35 = .ok (.iinc 4 (-1), 3) := by decide +kernel
theorem dX7_farthestBad_38 : decode cX7_farthestBad 38 = .ok (.goto (-30), 3) := by decide +kernel
theorem dX7_farthestBad_41 : decode cX7_farthestBad 41 = .ok (.iconst (-1), 1) := by decide +kernel
theorem dX7_farthestBad_42 : decode cX7_farthestBad 42 = .ok (.ireturn, 1) := by decide +kernel
theorem dX7_latestChange_0 : decode cX7_latestChange 0 = .ok (.iconst 0, 1) := by decide +kernel
theorem dX7_latestChange_1 : decode cX7_latestChange 1 = .ok (.istore_n 3, 1) := by decide +kernel
theorem dX7_latestChange_2 : decode cX7_latestChange 2 = .ok (.iload_n 3, 1) := by decide +kernel
theorem dX7_latestChange_3 : decode cX7_latestChange 3 = .ok (.aload_n 0, 1) := by decide +kernel
theorem dX7_latestChange_4 : decode cX7_latestChange 4 = .ok (.getfield 15, 3) := by decide +kernel
theorem dX7_latestChange_7 : decode cX7_latestChange 7 = .ok (.iconst 1, 1) := by decide +kernel
theorem dX7_latestChange_8 : decode cX7_latestChange 8 = .ok (.isub, 1) := by decide +kernel
theorem dX7_latestChange_9 : decode cX7_latestChange 9 = .ok (.if_icmp .ge 40, 3) := by decide +kernel
theorem dX7_latestChange_12 : decode cX7_latestChange 12 = .ok (.aload_n 1, 1) := by decide +kernel
theorem dX7_latestChange_13 : decode cX7_latestChange 13 = .ok (.aload_n 0, 1) := by decide +kernel
theorem dX7_latestChange_14 : decode cX7_latestChange 14 = .ok (.iload_n 3, 1) := by decide +kernel
theorem dX7_latestChange_15 : decode cX7_latestChange 15 = .ok (.invokevirtual 28, 3) := by decide +kernel
theorem dX7_latestChange_18 : decode cX7_latestChange 18 = .ok (.iload_n 2, 1) := by decide +kernel
theorem dX7_latestChange_19 : decode cX7_latestChange 19 = .ok (.invokevirtual 31, 3) := by decide +kernel
theorem dX7_latestChange_22 : decode cX7_latestChange 22 = .ok (.aload_n 1, 1) := by decide +kernel
theorem dX7_latestChange_23 : decode cX7_latestChange 23 = .ok (.aload_n 0, 1) := by decide +kernel
theorem dX7_latestChange_24 : decode cX7_latestChange 24 = .ok (.iload_n 3, 1) := by decide +kernel
theorem dX7_latestChange_25 : decode cX7_latestChange 25 = .ok (.iconst 1, 1) := by decide +kernel
theorem dX7_latestChange_26 : decode cX7_latestChange 26 = .ok (.iadd, 1) := by decide +kernel
theorem dX7_latestChange_27 : decode cX7_latestChange 27 = .ok (.invokevirtual 28, 3) := by decide +kernel
theorem dX7_latestChange_30 : decode cX7_latestChange 30 = .ok (.iload_n 2, 1) := by decide +kernel
theorem dX7_latestChange_31 : decode cX7_latestChange 31 = .ok (.invokevirtual 31, 3) := by decide +kernel
theorem dX7_latestChange_34 : decode cX7_latestChange 34 = .ok (.if_icmp .eq 9, 3) := by decide +kernel
theorem dX7_latestChange_37 : decode cX7_latestChange 37 = .ok (.aload_n 0, 1) := by decide +kernel
theorem dX7_latestChange_38 : decode cX7_latestChange 38 = .ok (.iload_n 3, 1) := by decide +kernel
theorem dX7_latestChange_39 : decode cX7_latestChange 39 = .ok (.invokevirtual 28, 3) := by decide +kernel
theorem dX7_latestChange_42 : decode cX7_latestChange 42 = .ok (.ireturn, 1) := by decide +kernel
theorem dX7_latestChange_43 : decode cX7_latestChange 43 = .ok (.iinc 3 1, 3) := by decide +kernel
theorem dX7_latestChange_46 : decode cX7_latestChange 46 = .ok (.goto (-44), 3) := by decide +kernel
theorem dX7_latestChange_49 : decode cX7_latestChange 49 = .ok (.iconst 0, 1) := by decide +kernel
theorem dX7_latestChange_50 : decode cX7_latestChange 50 = .ok (.ireturn, 1) := by decide +kernel
theorem dX7_farthestBest_0 : decode cX7_farthestBest 0 = .ok (.iconst 0, 1) := by decide +kernel
theorem dX7_farthestBest_1 : decode cX7_farthestBest 1 = .ok (.istore_n 2, 1) := by decide +kernel
theorem dX7_farthestBest_2 : decode cX7_farthestBest 2 = .ok (.fconst 0, 1) := by decide +kernel
theorem dX7_farthestBest_3 : decode cX7_farthestBest 3 = .ok (.fstore_n 3, 1) := by decide +kernel
theorem dX7_farthestBest_4 : decode cX7_farthestBest 4 = .ok (.aload_n 0, 1) := by decide +kernel
theorem dX7_farthestBest_5 : decode cX7_farthestBest 5 = .ok (.getfield 15, 3) := by decide +kernel
theorem dX7_farthestBest_8 : decode cX7_farthestBest 8 = .ok (.iconst 1, 1) := by decide +kernel
theorem dX7_farthestBest_9 : decode cX7_farthestBest 9 = .ok (.isub, 1) := by decide +kernel
theorem dX7_farthestBest_10 : decode cX7_farthestBest 10 = .ok (.istore 4, 2) := by decide +kernel
theorem dX7_farthestBest_12 : decode cX7_farthestBest 12 = .ok (.iload 4, 2) := by decide +kernel
theorem dX7_farthestBest_14 : decode cX7_farthestBest 14 = .ok (.ifCond .lt 38, 3) := by decide +kernel
theorem dX7_farthestBest_17 : decode cX7_farthestBest 17 = .ok (.aload_n 1, 1) := by decide +kernel
theorem dX7_farthestBest_18 : decode cX7_farthestBest 18 = .ok (.aload_n 0, 1) := by decide +kernel
theorem dX7_farthestBest_19 : decode cX7_farthestBest 19 = .ok (.iload 4, 2) := by decide +kernel
theorem dX7_farthestBest_21 : decode cX7_farthestBest 21 = .ok (.invokevirtual 28, 3) := by decide +kernel
theorem dX7_farthestBest_24 : decode cX7_farthestBest 24 = .ok (.invokevirtual 35, 3) := by decide +kernel
theorem dX7_farthestBest_27 : decode cX7_farthestBest 27 = .ok (.fstore 5, 2) := by decide +kernel
theorem dX7_farthestBest_29 : decode cX7_farthestBest 29 = .ok (.fload 5, 2) := by decide +kernel
theorem dX7_farthestBest_31 : decode cX7_farthestBest 31 = .ok (.fload_n 3, 1) := by decide +kernel
theorem dX7_farthestBest_32 : decode cX7_farthestBest 32 = .ok (.fcmp .l, 1) := by decide +kernel
theorem dX7_farthestBest_33 : decode cX7_farthestBest 33 = .ok (.ifCond .le 13, 3) := by decide +kernel
theorem dX7_farthestBest_36 : decode cX7_farthestBest 36 = .ok (.fload 5, 2) := by decide +kernel
theorem dX7_farthestBest_38 : decode cX7_farthestBest 38 = .ok (.fstore_n 3, 1) := by decide +kernel
theorem dX7_farthestBest_39 : decode cX7_farthestBest 39 = .ok (.aload_n 0, 1) := by decide +kernel
theorem dX7_farthestBest_40 : decode cX7_farthestBest 40 = .ok (.iload 4, 2) := by decide +kernel
theorem dX7_farthestBest_42 : decode cX7_farthestBest 42 = .ok (.invokevirtual 28, 3) := by decide +kernel
theorem dX7_farthestBest_45 : decode cX7_farthestBest 45 = .ok (.istore_n 2, 1) := by decide +kernel
theorem dX7_farthestBest_46 : decode cX7_farthestBest 46 = .ok (.iinc 4 (-1), 3) := by decide +kernel
theorem dX7_farthestBest_49 : decode cX7_farthestBest 49 = .ok (.goto (-37), 3) := by decide +kernel
theorem dX7_farthestBest_52 : decode cX7_farthestBest 52 = .ok (.iload_n 2, 1) := by decide +kernel
theorem dX7_farthestBest_53 : decode cX7_farthestBest 53 = .ok (.ireturn, 1) := by decide +kernel
theorem dX8_init_0 : decode cX8_init 0 = .ok (.aload_n 0, 1) := by decide +kernel
theorem dX8_init_1 : decode cX8_init 1 = .ok (.invokespecial 1, 3) := by decide +kernel
theorem dX8_init_4 : decode cX8_init 4 = .ok (.new 7, 3) := by decide +kernel
theorem dX8_init_7 : decode cX8_init 7 = .ok (.dup, 1) := by decide +kernel
theorem dX8_init_8 : decode cX8_init 8 = .ok (.invokespecial 9, 3) := by decide +kernel
theorem dX8_init_11 : decode cX8_init 11 = .ok (.astore_n 1, 1) := by decide +kernel
theorem dX8_init_12 : decode cX8_init 12 = .ok (.aload_n 0, 1) := by decide +kernel
theorem dX8_init_13 : decode cX8_init 13 = .ok (.aload_n 1, 1) := by decide +kernel
theorem dX8_init_14 : decode cX8_init 14 = .ok (.putfield 10, 3) := by decide +kernel
theorem dX8_init_17 : decode cX8_init 17 = .ok (.aload_n 0, 1) := by decide +kernel
theorem dX8_init_18 : decode cX8_init 18 = .ok (.new 7, 3) := by decide +kernel
theorem dX8_init_21 : decode cX8_init 21 = .ok (.dup, 1) := by decide +kernel
theorem dX8_init_22 : decode cX8_init 22 = .ok (.invokespecial 9, 3) := by decide +kernel
theorem dX8_init_25 : decode cX8_init 25 = .ok (.putfield 16, 3) := by decide +kernel
theorem dX8_init_28 : decode cX8_init 28 = .ok (.aload_n 0, 1) := by decide +kernel
theorem dX8_init_29 : decode cX8_init 29 = .ok (.new 7, 3) := by decide +kernel
theorem dX8_init_32 : decode cX8_init 32 = .ok (.dup, 1) := by decide +kernel
theorem dX8_init_33 : decode cX8_init 33 = .ok (.invokespecial 9, 3) := by decide +kernel
theorem dX8_init_36 : decode cX8_init 36 = .ok (.putfield 19, 3) := by decide +kernel
theorem dX8_init_39 : decode cX8_init 39 = .ok (.aload_n 0, 1) := by decide +kernel
theorem dX8_init_40 : decode cX8_init 40 = .ok (.iconst 0, 1) := by decide +kernel
theorem dX8_init_41 : decode cX8_init 41 = .ok (.putfield 22, 3) := by decide +kernel
theorem dX8_init_44 : decode cX8_init 44 = .ok (.aload_n 0, 1) := by decide +kernel
theorem dX8_init_45 : decode cX8_init 45 = .ok (.new 26, 3) := by decide +kernel
theorem dX8_init_48 : decode cX8_init 48 = .ok (.dup, 1) := by decide +kernel
theorem dX8_init_49 : decode cX8_init 49 = .ok (.invokespecial 28, 3) := by decide +kernel
theorem dX8_init_52 : decode cX8_init 52 = .ok (.putfield 29, 3) := by decide +kernel
theorem dX8_init_55 : decode cX8_init 55 = .ok (.aload_n 0, 1) := by decide +kernel
theorem dX8_init_56 : decode cX8_init 56 = .ok (.new 33, 3) := by decide +kernel
theorem dX8_init_59 : decode cX8_init 59 = .ok (.dup, 1) := by decide +kernel
theorem dX8_init_60 : decode cX8_init 60 = .ok (.aload_n 1, 1) := by decide +kernel
theorem dX8_init_61 : decode cX8_init 61 = .ok (.invokespecial 35, 3) := by decide +kernel
theorem dX8_init_64 : decode cX8_init 64 = .ok (.putfield 38, 3) := by decide +kernel
theorem dX8_init_67 : decode cX8_init 67 = .ok (.aload_n 0, 1) := by decide +kernel
theorem dX8_init_68 : decode cX8_init 68 = .ok (.new 42, 3) := by decide +kernel
theorem dX8_init_71 : decode cX8_init 71 = .ok (.dup, 1) := by decide +kernel
theorem dX8_init_72 : decode cX8_init 72 = .ok (.invokespecial 44, 3) := by decide +kernel
theorem dX8_init_75 : decode cX8_init 75 = .ok (.putfield 45, 3) := by decide +kernel
theorem dX8_init_78 : decode cX8_init 78 = .ok (.aload_n 0, 1) := by decide +kernel
theorem dX8_init_79 : decode cX8_init 79 = .ok (.new 49, 3) := by decide +kernel
theorem dX8_init_82 : decode cX8_init 82 = .ok (.dup, 1) := by decide +kernel
theorem dX8_init_83 : decode cX8_init 83 = .ok (.invokespecial 51, 3) := by decide +kernel
theorem dX8_init_86 : decode cX8_init 86 = .ok (.putfield 52, 3) := by decide +kernel
theorem dX8_init_89 : decode cX8_init 89 = .ok (.aload_n 0, 1) := by decide +kernel
theorem dX8_init_90 : decode cX8_init 90 = .ok (.new 56, 3) := by decide +kernel
theorem dX8_init_93 : decode cX8_init 93 = .ok (.dup, 1) := by decide +kernel
theorem dX8_init_94 : decode cX8_init 94 = .ok (.invokespecial 58, 3) := by decide +kernel
theorem dX8_init_97 : decode cX8_init 97 = .ok (.putfield 59, 3) := by decide +kernel
theorem dX8_init_100 : decode cX8_init 100 = .ok (.aload_n 0, 1) := by decide +kernel
theorem dX8_init_101 : decode cX8_init 101 = .ok (.new 63, 3) := by decide +kernel
theorem dX8_init_104 : decode cX8_init 104 = .ok (.dup, 1) := by decide +kernel
theorem dX8_init_105 : decode cX8_init 105 = .ok (.invokespecial 65, 3) := by decide +kernel
theorem dX8_init_108 : decode cX8_init 108 = .ok (.putfield 66, 3) := by decide +kernel
theorem dX8_init_111 : decode cX8_init 111 = .ok (.aload_n 0, 1) := by decide +kernel
theorem dX8_init_112 : decode cX8_init 112 = .ok (.iconst (-1), 1) := by decide +kernel
theorem dX8_init_113 : decode cX8_init 113 = .ok (.putfield 70, 3) := by decide +kernel
theorem dX8_init_116 : decode cX8_init 116 = .ok (.return_, 1) := by decide +kernel
theorem dX8_edit_0 : decode cX8_edit 0 = .ok (.aload_n 0, 1) := by decide +kernel
theorem dX8_edit_1 : decode cX8_edit 1 = .ok (.getfield 16, 3) := by decide +kernel
theorem dX8_edit_4 : decode cX8_edit 4 = .ok (.aload_n 0, 1) := by decide +kernel
theorem dX8_edit_5 : decode cX8_edit 5 = .ok (.getfield 10, 3) := by decide +kernel
theorem dX8_edit_8 : decode cX8_edit 8 = .ok (.invokevirtual 74, 3) := by decide +kernel
theorem dX8_edit_11 : decode cX8_edit 11 = .ok (.aload_n 0, 1) := by decide +kernel
theorem dX8_edit_12 : decode cX8_edit 12 = .ok (.aload_n 0, 1) := by decide +kernel
theorem dX8_edit_13 : decode cX8_edit 13 = .ok (.getfield 38, 3) := by decide +kernel
theorem dX8_edit_16 : decode cX8_edit 16 = .ok (.iload_n 1, 1) := by decide +kernel
theorem dX8_edit_17 : decode cX8_edit 17 = .ok (.iload_n 2, 1) := by decide +kernel
theorem dX8_edit_18 : decode cX8_edit 18 = .ok (.iload_n 3, 1) := by decide +kernel
theorem dX8_edit_19 : decode cX8_edit 19 = .ok (.invokevirtual 77, 3) := by decide +kernel
theorem dX8_edit_22 : decode cX8_edit 22 = .ok (.invokevirtual 81, 3) := by decide +kernel
theorem dX8_edit_25 : decode cX8_edit 25 = .ok (.ireturn, 1) := by decide +kernel
theorem dX8_fork_0 : decode cX8_fork 0 = .ok (.aload_n 0, 1) := by decide +kernel
theorem dX8_fork_1 : decode cX8_fork 1 = .ok (.getfield 16, 3) := by decide +kernel
theorem dX8_fork_4 : decode cX8_fork 4 = .ok (.aload_n 0, 1) := by decide +kernel
theorem dX8_fork_5 : decode cX8_fork 5 = .ok (.getfield 10, 3) := by decide +kernel
theorem dX8_fork_8 : decode cX8_fork 8 = .ok (.invokevirtual 74, 3) := by decide +kernel
theorem dX8_fork_11 : decode cX8_fork 11 = .ok (.aload_n 0, 1) := by decide +kernel
theorem dX8_fork_12 : decode cX8_fork 12 = .ok (.aload_n 0, 1) := by decide +kernel
theorem dX8_fork_13 : decode cX8_fork 13 = .ok (.getfield 38, 3) := by decide +kernel
theorem dX8_fork_16 : decode cX8_fork 16 = .ok (.iload_n 1, 1) := by decide +kernel
theorem dX8_fork_17 : decode cX8_fork 17 = .ok (.invokevirtual 85, 3) := by decide +kernel
theorem dX8_fork_20 : decode cX8_fork 20 = .ok (.invokevirtual 81, 3) := by decide +kernel
theorem dX8_fork_23 : decode cX8_fork 23 = .ok (.ireturn, 1) := by decide +kernel
theorem dX8_reset_0 : decode cX8_reset 0 = .ok (.aload_n 0, 1) := by decide +kernel
theorem dX8_reset_1 : decode cX8_reset 1 = .ok (.getfield 16, 3) := by decide +kernel
theorem dX8_reset_4 : decode cX8_reset 4 = .ok (.aload_n 0, 1) := by decide +kernel
theorem dX8_reset_5 : decode cX8_reset 5 = .ok (.getfield 10, 3) := by decide +kernel
theorem dX8_reset_8 : decode cX8_reset 8 = .ok (.invokevirtual 74, 3) := by decide +kernel
theorem dX8_reset_11 : decode cX8_reset 11 = .ok (.aload_n 0, 1) := by decide +kernel
theorem dX8_reset_12 : decode cX8_reset 12 = .ok (.aload_n 0, 1) := by decide +kernel
theorem dX8_reset_13 : decode cX8_reset 13 = .ok (.getfield 38, 3) := by decide +kernel
theorem dX8_reset_16 : decode cX8_reset 16 = .ok (.iload_n 1, 1) := by decide +kernel
theorem dX8_reset_17 : decode cX8_reset 17 = .ok (.iload_n 2, 1) := by decide +kernel
theorem dX8_reset_18 : decode cX8_reset 18 = .ok (.invokevirtual 88, 3) := by decide +kernel
theorem dX8_reset_21 : decode cX8_reset 21 = .ok (.invokevirtual 81, 3) := by decide +kernel
theorem dX8_reset_24 : decode cX8_reset 24 = .ok (.ireturn, 1) := by decide +kernel
theorem dX8_tip_0 : decode cX8_tip 0 = .ok (.aload_n 0, 1) := by decide +kernel
theorem dX8_tip_1 : decode cX8_tip 1 = .ok (.iload_n 1, 1) := by decide +kernel
theorem dX8_tip_2 : decode cX8_tip 2 = .ok (.invokevirtual 92, 3) := by decide +kernel
theorem dX8_tip_5 : decode cX8_tip 5 = .ok (.aload_n 0, 1) := by decide +kernel
theorem dX8_tip_6 : decode cX8_tip 6 = .ok (.getfield 10, 3) := by decide +kernel
theorem dX8_tip_9 : decode cX8_tip 9 = .ok (.iload_n 1, 1) := by decide +kernel
theorem dX8_tip_10 : decode cX8_tip 10 = .ok (.invokevirtual 96, 3) := by decide +kernel
theorem dX8_tip_13 : decode cX8_tip 13 = .ok (.ireturn, 1) := by decide +kernel
theorem dX8_amount_0 : decode cX8_amount 0 = .ok (.aload_n 0, 1) := by decide +kernel
theorem dX8_amount_1 : decode cX8_amount 1 = .ok (.iload_n 1, 1) := by decide +kernel
theorem dX8_amount_2 : decode cX8_amount 2 = .ok (.invokevirtual 99, 3) := by decide +kernel
theorem dX8_amount_5 : decode cX8_amount 5 = .ok (.aload_n 0, 1) := by decide +kernel
theorem dX8_amount_6 : decode cX8_amount 6 = .ok (.iload_n 2, 1) := by decide +kernel
theorem dX8_amount_7 : decode cX8_amount 7 = .ok (.invokevirtual 102, 3) := by decide +kernel
theorem dX8_amount_10 : decode cX8_amount 10 = .ok (.aload_n 0, 1) := by decide +kernel
theorem dX8_amount_11 : decode cX8_amount 11 = .ok (.getfield 10, 3) := by decide +kernel
theorem dX8_amount_14 : decode cX8_amount 14 = .ok (.iload_n 1, 1) := by decide +kernel
theorem dX8_amount_15 : decode cX8_amount 15 = .ok (.iload_n 2, 1) := by decide +kernel
theorem dX8_amount_16 : decode cX8_amount 16 = .ok (.invokevirtual 105, 3) := by decide +kernel
theorem dX8_amount_19 : decode cX8_amount 19 = .ok (.ireturn, 1) := by decide +kernel
theorem dX8_commitOf_0 : decode cX8_commitOf 0 = .ok (.aload_n 0, 1) := by decide +kernel
theorem dX8_commitOf_1 : decode cX8_commitOf 1 = .ok (.iload_n 1, 1) := by decide +kernel
theorem dX8_commitOf_2 : decode cX8_commitOf 2 = .ok (.invokevirtual 99, 3) := by decide +kernel
theorem dX8_commitOf_5 : decode cX8_commitOf 5 = .ok (.iload_n 2, 1) := by decide +kernel
theorem dX8_commitOf_6 : decode cX8_commitOf 6 = .ok (.tableswitch 97 0 5 #[38, 47, 56, 65, 74, 88], 38) := by decide +kernel
theorem dX8_commitOf_44 : decode cX8_commitOf 44 = .ok (.aload_n 0, 1) := by decide +kernel
theorem dX8_commitOf_45 : decode cX8_commitOf 45 = .ok (.getfield 10, 3) := by decide +kernel
theorem dX8_commitOf_48 : decode cX8_commitOf 48 = .ok (.iload_n 1, 1) := by decide +kernel
theorem dX8_commitOf_49 : decode cX8_commitOf 49 = .ok (.invokevirtual 108, 3) := by decide +kernel
theorem dX8_commitOf_52 : decode cX8_commitOf 52 = .ok (.ireturn, 1) := by decide +kernel
theorem dX8_commitOf_53 : decode cX8_commitOf 53 = .ok (.aload_n 0, 1) := by decide +kernel
theorem dX8_commitOf_54 : decode cX8_commitOf 54 = .ok (.getfield 10, 3) := by decide +kernel
theorem dX8_commitOf_57 : decode cX8_commitOf 57 = .ok (.iload_n 1, 1) := by decide +kernel
theorem dX8_commitOf_58 : decode cX8_commitOf 58 = .ok (.invokevirtual 111, 3) := by decide +kernel
theorem dX8_commitOf_61 : decode cX8_commitOf 61 = .ok (.ireturn, 1) := by decide +kernel
theorem dX8_commitOf_62 : decode cX8_commitOf 62 = .ok (.aload_n 0, 1) := by decide +kernel
theorem dX8_commitOf_63 : decode cX8_commitOf 63 = .ok (.getfield 10, 3) := by decide +kernel
theorem dX8_commitOf_66 : decode cX8_commitOf 66 = .ok (.iload_n 1, 1) := by decide +kernel
theorem dX8_commitOf_67 : decode cX8_commitOf 67 = .ok (.invokevirtual 114, 3) := by decide +kernel
theorem dX8_commitOf_70 : decode cX8_commitOf 70 = .ok (.ireturn, 1) := by decide +kernel
theorem dX8_commitOf_71 : decode cX8_commitOf 71 = .ok (.aload_n 0, 1) := by decide +kernel
theorem dX8_commitOf_72 : decode cX8_commitOf 72 = .ok (.getfield 10, 3) := by decide +kernel
theorem dX8_commitOf_75 : decode cX8_commitOf 75 = .ok (.iload_n 1, 1) := by decide +kernel
theorem dX8_commitOf_76 : decode cX8_commitOf 76 = .ok (.invokevirtual 117, 3) := by decide +kernel
theorem dX8_commitOf_79 : decode cX8_commitOf 79 = .ok (.ireturn, 1) := by decide +kernel
theorem dX8_commitOf_80 : decode cX8_commitOf 80 = .ok (.aload_n 0, 1) := by decide +kernel
theorem dX8_commitOf_81 : decode cX8_commitOf 81 = .ok (.getfield 10, 3) := by decide +kernel
theorem dX8_commitOf_84 : decode cX8_commitOf 84 = .ok (.iload_n 1, 1) := by decide +kernel
theorem dX8_commitOf_85 : decode cX8_commitOf 85 = .ok (.invokevirtual 120, 3) := by decide +kernel
theorem dX8_commitOf_88 : decode cX8_commitOf 88 = .ok (.invokestatic 123, 3) := by decide +kernel
theorem dX8_commitOf_91 : decode cX8_commitOf 91 = .ok (.iconst 1, 1) := by decide +kernel
theorem dX8_commitOf_92 : decode cX8_commitOf 92 = .ok (.isub, 1) := by decide +kernel
theorem dX8_commitOf_93 : decode cX8_commitOf 93 = .ok (.ireturn, 1) := by decide +kernel
theorem dX8_commitOf_94 : decode cX8_commitOf 94 = .ok (.aload_n 0, 1) := by decide +kernel
theorem dX8_commitOf_95 : decode cX8_commitOf 95 = .ok (.getfield 10, 3) := by decide +kernel
theorem dX8_commitOf_98 : decode cX8_commitOf 98 = .ok (.iload_n 1, 1) := by decide +kernel
theorem dX8_commitOf_99 : decode cX8_commitOf 99 = .ok (.invokevirtual 128, 3) := by decide +kernel
theorem dX8_commitOf_102 : decode cX8_commitOf 102 = .ok (.ireturn, 1) := by decide +kernel
theorem dX8_commitOf_103 : decode cX8_commitOf 103 = .ok (.new 131, 3) := by decide +kernel
theorem dX8_commitOf_106 : decode cX8_commitOf 106 = .ok (.dup, 1) := by decide +kernel
theorem dX8_commitOf_107 : decode cX8_commitOf 107 = .ok (.ldc 133, 2) := by decide +kernel
theorem dX8_commitOf_109 : decode cX8_commitOf 109 = .ok (.invokespecial 135, 3) := by decide +kernel
theorem dX8_commitOf_112 : decode cX8_commitOf 112 = .ok (.athrow, 1) := by decide +kernel
theorem dX8_merge_0 : decode cX8_merge 0 = .ok (.aload_n 0, 1) := by decide +kernel
theorem dX8_merge_1 : decode cX8_merge 1 = .ok (.getfield 16, 3) := by decide +kernel
theorem dX8_merge_4 : decode cX8_merge 4 = .ok (.aload_n 0, 1) := by decide +kernel
theorem dX8_merge_5 : decode cX8_merge 5 = .ok (.getfield 10, 3) := by decide +kernel
theorem dX8_merge_8 : decode cX8_merge 8 = .ok (.invokevirtual 74, 3) := by decide +kernel
theorem dX8_merge_11 : decode cX8_merge 11 = .ok (.aload_n 0, 1) := by decide +kernel
theorem dX8_merge_12 : decode cX8_merge 12 = .ok (.aload_n 0, 1) := by decide +kernel
theorem dX8_merge_13 : decode cX8_merge 13 = .ok (.getfield 38, 3) := by decide +kernel
theorem dX8_merge_16 : decode cX8_merge 16 = .ok (.iload_n 1, 1) := by decide +kernel
theorem dX8_merge_17 : decode cX8_merge 17 = .ok (.iload_n 2, 1) := by decide +kernel
theorem dX8_merge_18 : decode cX8_merge 18 = .ok (.iload_n 3, 1) := by decide +kernel
theorem dX8_merge_19 : decode cX8_merge 19 = .ok (.invokevirtual 138, 3) := by decide +kernel
theorem dX8_merge_22 : decode cX8_merge 22 = .ok (.invokevirtual 81, 3) := by decide +kernel
theorem dX8_merge_25 : decode cX8_merge 25 = .ok (.ireturn, 1) := by decide +kernel
theorem dX8_pick_0 : decode cX8_pick 0 = .ok (.aload_n 0, 1) := by decide +kernel
theorem dX8_pick_1 : decode cX8_pick 1 = .ok (.getfield 16, 3) := by decide +kernel
theorem dX8_pick_4 : decode cX8_pick 4 = .ok (.aload_n 0, 1) := by decide +kernel
theorem dX8_pick_5 : decode cX8_pick 5 = .ok (.getfield 10, 3) := by decide +kernel
theorem dX8_pick_8 : decode cX8_pick 8 = .ok (.invokevirtual 74, 3) := by decide +kernel
theorem dX8_pick_11 : decode cX8_pick 11 = .ok (.aload_n 0, 1) := by decide +kernel
theorem dX8_pick_12 : decode cX8_pick 12 = .ok (.aload_n 0, 1) := by decide +kernel
theorem dX8_pick_13 : decode cX8_pick 13 = .ok (.getfield 38, 3) := by decide +kernel
theorem dX8_pick_16 : decode cX8_pick 16 = .ok (.iload_n 1, 1) := by decide +kernel
theorem dX8_pick_17 : decode cX8_pick 17 = .ok (.iload_n 2, 1) := by decide +kernel
theorem dX8_pick_18 : decode cX8_pick 18 = .ok (.iload_n 3, 1) := by decide +kernel
theorem dX8_pick_19 : decode cX8_pick 19 = .ok (.invokevirtual 141, 3) := by decide +kernel
theorem dX8_pick_22 : decode cX8_pick 22 = .ok (.invokevirtual 81, 3) := by decide +kernel
theorem dX8_pick_25 : decode cX8_pick 25 = .ok (.ireturn, 1) := by decide +kernel
theorem dX8_revert_0 : decode cX8_revert 0 = .ok (.aload_n 0, 1) := by decide +kernel
theorem dX8_revert_1 : decode cX8_revert 1 = .ok (.getfield 16, 3) := by decide +kernel
theorem dX8_revert_4 : decode cX8_revert 4 = .ok (.aload_n 0, 1) := by decide +kernel
theorem dX8_revert_5 : decode cX8_revert 5 = .ok (.getfield 10, 3) := by decide +kernel
theorem dX8_revert_8 : decode cX8_revert 8 = .ok (.invokevirtual 74, 3) := by decide +kernel
theorem dX8_revert_11 : decode cX8_revert 11 = .ok (.aload_n 0, 1) := by decide +kernel
theorem dX8_revert_12 : decode cX8_revert 12 = .ok (.aload_n 0, 1) := by decide +kernel
theorem dX8_revert_13 : decode cX8_revert 13 = .ok (.getfield 38, 3) := by decide +kernel
theorem dX8_revert_16 : decode cX8_revert 16 = .ok (.iload_n 1, 1) := by decide +kernel
theorem dX8_revert_17 : decode cX8_revert 17 = .ok (.iload_n 2, 1) := by decide +kernel
theorem dX8_revert_18 : decode cX8_revert 18 = .ok (.iload_n 3, 1) := by decide +kernel
theorem dX8_revert_19 : decode cX8_revert 19 = .ok (.invokevirtual 144, 3) := by decide +kernel
theorem dX8_revert_22 : decode cX8_revert 22 = .ok (.invokevirtual 81, 3) := by decide +kernel
theorem dX8_revert_25 : decode cX8_revert 25 = .ok (.ireturn, 1) := by decide +kernel
theorem dX8_conflicts_0 : decode cX8_conflicts 0 = .ok (.aload_n 0, 1) := by decide +kernel
theorem dX8_conflicts_1 : decode cX8_conflicts 1 = .ok (.iload_n 1, 1) := by decide +kernel
theorem dX8_conflicts_2 : decode cX8_conflicts 2 = .ok (.invokevirtual 92, 3) := by decide +kernel
theorem dX8_conflicts_5 : decode cX8_conflicts 5 = .ok (.aload_n 0, 1) := by decide +kernel
theorem dX8_conflicts_6 : decode cX8_conflicts 6 = .ok (.iload_n 2, 1) := by decide +kernel
theorem dX8_conflicts_7 : decode cX8_conflicts 7 = .ok (.invokevirtual 92, 3) := by decide +kernel
theorem dX8_conflicts_10 : decode cX8_conflicts 10 = .ok (.aload_n 0, 1) := by decide +kernel
theorem dX8_conflicts_11 : decode cX8_conflicts 11 = .ok (.getfield 38, 3) := by decide +kernel
theorem dX8_conflicts_14 : decode cX8_conflicts 14 = .ok (.aload_n 0, 1) := by decide +kernel
theorem dX8_conflicts_15 : decode cX8_conflicts 15 = .ok (.getfield 10, 3) := by decide +kernel
theorem dX8_conflicts_18 : decode cX8_conflicts 18 = .ok (.iload_n 1, 1) := by decide +kernel
theorem dX8_conflicts_19 : decode cX8_conflicts 19 = .ok (.invokevirtual 96, 3) := by decide +kernel
theorem dX8_conflicts_22 : decode cX8_conflicts 22 = .ok (.aload_n 0, 1) := by decide +kernel
theorem dX8_conflicts_23 : decode cX8_conflicts 23 = .ok (.getfield 10, 3) := by decide +kernel
theorem dX8_conflicts_26 : decode cX8_conflicts 26 = .ok (.iload_n 2, 1) := by decide +kernel
theorem dX8_conflicts_27 : decode cX8_conflicts 27 = .ok (.invokevirtual 96, 3) := by decide +kernel
theorem dX8_conflicts_30 : decode cX8_conflicts 30 = .ok (.invokevirtual 147, 3) := by decide +kernel
theorem dX8_conflicts_33 : decode cX8_conflicts 33 = .ok (.ireturn, 1) := by decide +kernel
theorem dX8_isIn_0 : decode cX8_isIn 0 = .ok (.aload_n 0, 1) := by decide +kernel
theorem dX8_isIn_1 : decode cX8_isIn 1 = .ok (.iload_n 1, 1) := by decide +kernel
theorem dX8_isIn_2 : decode cX8_isIn 2 = .ok (.invokevirtual 99, 3) := by decide +kernel
theorem dX8_isIn_5 : decode cX8_isIn 5 = .ok (.aload_n 0, 1) := by decide +kernel
theorem dX8_isIn_6 : decode cX8_isIn 6 = .ok (.iload_n 2, 1) := by decide +kernel
theorem dX8_isIn_7 : decode cX8_isIn 7 = .ok (.invokevirtual 99, 3) := by decide +kernel
theorem dX8_isIn_10 : decode cX8_isIn 10 = .ok (.aload_n 0, 1) := by decide +kernel
theorem dX8_isIn_11 : decode cX8_isIn 11 = .ok (.getfield 10, 3) := by decide +kernel
theorem dX8_isIn_14 : decode cX8_isIn 14 = .ok (.iload_n 2, 1) := by decide +kernel
theorem dX8_isIn_15 : decode cX8_isIn 15 = .ok (.iload_n 1, 1) := by decide +kernel
theorem dX8_isIn_16 : decode cX8_isIn 16 = .ok (.invokevirtual 150, 3) := by decide +kernel
theorem dX8_isIn_19 : decode cX8_isIn 19 = .ok (.ireturn, 1) := by decide +kernel
theorem dX8_base_0 : decode cX8_base 0 = .ok (.aload_n 0, 1) := by decide +kernel
theorem dX8_base_1 : decode cX8_base 1 = .ok (.iload_n 1, 1) := by decide +kernel
theorem dX8_base_2 : decode cX8_base 2 = .ok (.invokevirtual 99, 3) := by decide +kernel
theorem dX8_base_5 : decode cX8_base 5 = .ok (.aload_n 0, 1) := by decide +kernel
theorem dX8_base_6 : decode cX8_base 6 = .ok (.iload_n 2, 1) := by decide +kernel
theorem dX8_base_7 : decode cX8_base 7 = .ok (.invokevirtual 99, 3) := by decide +kernel
theorem dX8_base_10 : decode cX8_base 10 = .ok (.aload_n 0, 1) := by decide +kernel
theorem dX8_base_11 : decode cX8_base 11 = .ok (.getfield 10, 3) := by decide +kernel
theorem dX8_base_14 : decode cX8_base 14 = .ok (.iload_n 1, 1) := by decide +kernel
theorem dX8_base_15 : decode cX8_base 15 = .ok (.iload_n 2, 1) := by decide +kernel
theorem dX8_base_16 : decode cX8_base 16 = .ok (.invokevirtual 154, 3) := by decide +kernel
theorem dX8_base_19 : decode cX8_base 19 = .ok (.ireturn, 1) := by decide +kernel
theorem dX8_baseAgain_0 : decode cX8_baseAgain 0 = .ok (.aload_n 0, 1) := by decide +kernel
theorem dX8_baseAgain_1 : decode cX8_baseAgain 1 = .ok (.iload_n 1, 1) := by decide +kernel
theorem dX8_baseAgain_2 : decode cX8_baseAgain 2 = .ok (.invokevirtual 99, 3) := by decide +kernel
theorem dX8_baseAgain_5 : decode cX8_baseAgain 5 = .ok (.aload_n 0, 1) := by decide +kernel
theorem dX8_baseAgain_6 : decode cX8_baseAgain 6 = .ok (.iload_n 2, 1) := by decide +kernel
theorem dX8_baseAgain_7 : decode cX8_baseAgain 7 = .ok (.invokevirtual 99, 3) := by decide +kernel
theorem dX8_baseAgain_10 : decode cX8_baseAgain 10 = .ok (.aload_n 0, 1) := by decide +kernel
theorem dX8_baseAgain_11 : decode cX8_baseAgain 11 = .ok (.getfield 10, 3) := by decide +kernel
theorem dX8_baseAgain_14 : decode cX8_baseAgain 14 = .ok (.iload_n 1, 1) := by decide +kernel
theorem dX8_baseAgain_15 : decode cX8_baseAgain 15 = .ok (.iload_n 2, 1) := by decide +kernel
theorem dX8_baseAgain_16 : decode cX8_baseAgain 16 = .ok (.invokevirtual 157, 3) := by decide +kernel
theorem dX8_baseAgain_19 : decode cX8_baseAgain 19 = .ok (.ireturn, 1) := by decide +kernel
theorem dX8_difference_0 : decode cX8_difference 0 = .ok (.aload_n 0, 1) := by decide +kernel
theorem dX8_difference_1 : decode cX8_difference 1 = .ok (.iload_n 1, 1) := by decide +kernel
theorem dX8_difference_2 : decode cX8_difference 2 = .ok (.invokevirtual 99, 3) := by decide +kernel
theorem dX8_difference_5 : decode cX8_difference 5 = .ok (.aload_n 0, 1) := by decide +kernel
theorem dX8_difference_6 : decode cX8_difference 6 = .ok (.iload_n 2, 1) := by decide +kernel
theorem dX8_difference_7 : decode cX8_difference 7 = .ok (.invokevirtual 99, 3) := by decide +kernel
theorem dX8_difference_10 : decode cX8_difference 10 = .ok (.iconst 0, 1) := by decide +kernel
theorem dX8_difference_11 : decode cX8_difference 11 = .ok (.istore_n 3, 1) := by decide +kernel
theorem dX8_difference_12 : decode cX8_difference 12 = .ok (.iconst 0, 1) := by decide +kernel
theorem dX8_difference_13 : decode cX8_difference 13 = .ok (.istore 4, 2) := by decide +kernel
theorem dX8_difference_15 : decode cX8_difference 15 = .ok (.iload 4, 2) := by decide +kernel
theorem dX8_difference_17 : decode cX8_difference 17 = .ok (.bipush 6, 2) := by decide +kernel
theorem dX8_difference_19 : decode cX8_difference 19 = .ok (.if_icmp .ge 36, 3) := by decide +kernel
theorem dX8_difference_22 : decode cX8_difference 22 = .ok (.iload_n 3, 1) := by decide +kernel
theorem dX8_difference_23 : decode cX8_difference 23 = .ok (.aload_n 0, 1) := by decide +kernel
theorem dX8_difference_24 : decode cX8_difference 24 = .ok (.getfield 10, 3) := by decide +kernel
theorem dX8_difference_27 : decode cX8_difference 27 = .ok (.iload_n 1, 1) := by decide +kernel
theorem dX8_difference_28 : decode cX8_difference 28 = .ok (.iload 4, 2) := by decide +kernel
theorem dX8_difference_30 : decode cX8_difference 30 = .ok (.invokevirtual 105, 3) := by decide +kernel
theorem dX8_difference_33 : decode cX8_difference 33 = .ok (.aload_n 0, 1) := by decide +kernel
theorem dX8_difference_34 : decode cX8_difference 34 = .ok (.getfield 10, 3) := by decide +kernel
theorem dX8_difference_37 : decode cX8_difference 37 = .ok (.iload_n 2, 1) := by decide +kernel
theorem dX8_difference_38 : decode cX8_difference 38 = .ok (.iload 4, 2) := by decide +kernel
theorem dX8_difference_40 : decode cX8_difference 40 = .ok (.invokevirtual 105, 3) := by decide +kernel
theorem dX8_difference_43 : decode cX8_difference 43 = .ok (.isub, 1) := by decide +kernel
theorem dX8_difference_44 : decode cX8_difference 44 = .ok (.invokestatic 160, 3) := by decide +kernel
theorem dX8_difference_47 : decode cX8_difference 47 = .ok (.iadd, 1) := by decide +kernel
theorem dX8_difference_48 : decode cX8_difference 48 = .ok (.istore_n 3, 1) := by decide +kernel
theorem dX8_difference_49 : decode cX8_difference 49 = .ok (.iinc 4 1, 3) := by decide +kernel
theorem dX8_difference_52 : decode cX8_difference 52 = .ok (.goto (-37), 3) := by decide +kernel
theorem dX8_difference_55 : decode cX8_difference 55 = .ok (.iload_n 3, 1) := by decide +kernel
theorem dX8_difference_56 : decode cX8_difference 56 = .ok (.ireturn, 1) := by decide +kernel
theorem dX8_onLine_0 : decode cX8_onLine 0 = .ok (.aload_n 0, 1) := by decide +kernel
theorem dX8_onLine_1 : decode cX8_onLine 1 = .ok (.iload_n 1, 1) := by decide +kernel
theorem dX8_onLine_2 : decode cX8_onLine 2 = .ok (.invokevirtual 92, 3) := by decide +kernel
theorem dX8_onLine_5 : decode cX8_onLine 5 = .ok (.aload_n 0, 1) := by decide +kernel
theorem dX8_onLine_6 : decode cX8_onLine 6 = .ok (.getfield 45, 3) := by decide +kernel
theorem dX8_onLine_9 : decode cX8_onLine 9 = .ok (.aload_n 0, 1) := by decide +kernel
theorem dX8_onLine_10 : decode cX8_onLine 10 = .ok (.getfield 10, 3) := by decide +kernel
theorem dX8_onLine_13 : decode cX8_onLine 13 = .ok (.aload_n 0, 1) := by decide +kernel
theorem dX8_onLine_14 : decode cX8_onLine 14 = .ok (.getfield 10, 3) := by decide +kernel
theorem dX8_onLine_17 : decode cX8_onLine 17 = .ok (.iload_n 1, 1) := by decide +kernel
theorem dX8_onLine_18 : decode cX8_onLine 18 = .ok (.invokevirtual 96, 3) := by decide +kernel
theorem dX8_onLine_21 : decode cX8_onLine 21 = .ok (.invokevirtual 165, 3) := by decide +kernel
theorem dX8_onLine_24 : decode cX8_onLine 24 = .ok (.aload_n 0, 1) := by decide +kernel
theorem dX8_onLine_25 : decode cX8_onLine 25 = .ok (.getfield 45, 3) := by decide +kernel
theorem dX8_onLine_28 : decode cX8_onLine 28 = .ok (.iload_n 2, 1) := by decide +kernel
theorem dX8_onLine_29 : decode cX8_onLine 29 = .ok (.invokevirtual 169, 3) := by decide +kernel
theorem dX8_onLine_32 : decode cX8_onLine 32 = .ok (.istore_n 3, 1) := by decide +kernel
theorem dX8_onLine_33 : decode cX8_onLine 33 = .ok (.iload_n 3, 1) := by decide +kernel
theorem dX8_onLine_34 : decode cX8_onLine 34 = .ok (.iconst (-1), 1) := by decide +kernel
theorem dX8_onLine_35 : decode cX8_onLine 35 = .ok (.if_icmp .ne 13, 3) := by decide +kernel
theorem dX8_onLine_38 : decode cX8_onLine 38 = .ok (.new 172, 3) := by decide +kernel
theorem dX8_onLine_41 : decode cX8_onLine 41 = .ok (.dup, 1) := by decide +kernel
theorem dX8_onLine_42 : decode cX8_onLine 42 = .ok (.ldc 174, 2) := by decide +kernel
theorem dX8_onLine_44 : decode cX8_onLine 44 = .ok (.invokespecial 176, 3) := by decide +kernel
theorem dX8_onLine_47 : decode cX8_onLine 47 = .ok (.athrow, 1) := by decide +kernel
theorem dX8_onLine_48 : decode cX8_onLine 48 = .ok (.iload_n 3, 1) := by decide +kernel
theorem dX8_onLine_49 : decode cX8_onLine 49 = .ok (.ireturn, 1) := by decide +kernel
theorem dX8_halve_0 : decode cX8_halve 0 = .ok (.aload_n 0, 1) := by decide +kernel
theorem dX8_halve_1 : decode cX8_halve 1 = .ok (.iload_n 1, 1) := by decide +kernel
theorem dX8_halve_2 : decode cX8_halve 2 = .ok (.invokevirtual 92, 3) := by decide +kernel
theorem dX8_halve_5 : decode cX8_halve 5 = .ok (.aload_n 0, 1) := by decide +kernel
theorem dX8_halve_6 : decode cX8_halve 6 = .ok (.iload_n 2, 1) := by decide +kernel
theorem dX8_halve_7 : decode cX8_halve 7 = .ok (.invokevirtual 102, 3) := by decide +kernel
theorem dX8_halve_10 : decode cX8_halve 10 = .ok (.aload_n 0, 1) := by decide +kernel
theorem dX8_halve_11 : decode cX8_halve 11 = .ok (.iload_n 3, 1) := by decide +kernel
theorem dX8_halve_12 : decode cX8_halve 12 = .ok (.invokevirtual 177, 3) := by decide +kernel
theorem dX8_halve_15 : decode cX8_halve 15 = .ok (.aload_n 0, 1) := by decide +kernel
theorem dX8_halve_16 : decode cX8_halve 16 = .ok (.getfield 10, 3) := by decide +kernel
theorem dX8_halve_19 : decode cX8_halve 19 = .ok (.iload_n 1, 1) := by decide +kernel
theorem dX8_halve_20 : decode cX8_halve 20 = .ok (.invokevirtual 96, 3) := by decide +kernel
theorem dX8_halve_23 : decode cX8_halve 23 = .ok (.istore 5, 2) := by decide +kernel
theorem dX8_halve_25 : decode cX8_halve 25 = .ok (.aload_n 0, 1) := by decide +kernel
theorem dX8_halve_26 : decode cX8_halve 26 = .ok (.getfield 10, 3) := by decide +kernel
theorem dX8_halve_29 : decode cX8_halve 29 = .ok (.iload 5, 2) := by decide +kernel
theorem dX8_halve_31 : decode cX8_halve 31 = .ok (.iload_n 2, 1) := by decide +kernel
theorem dX8_halve_32 : decode cX8_halve 32 = .ok (.invokevirtual 105, 3) := by decide +kernel
theorem dX8_halve_35 : decode cX8_halve 35 = .ok (.iload_n 3, 1) := by decide +kernel
theorem dX8_halve_36 : decode cX8_halve 36 = .ok (.if_icmp .gt 13, 3) := by decide +kernel
theorem dX8_halve_39 : decode cX8_halve 39 = .ok (.new 172, 3) := by decide +kernel
theorem dX8_halve_42 : decode cX8_halve 42 = .ok (.dup, 1) := by decide +kernel
theorem dX8_halve_43 : decode cX8_halve 43 = .ok (.ldc 180, 2) := by decide +kernel
theorem dX8_halve_45 : decode cX8_halve 45 = .ok (.invokespecial 176, 3) := by decide +kernel
theorem dX8_halve_48 : decode cX8_halve 48 = .ok (.athrow, 1) := by decide +kernel
theorem dX8_halve_49 : decode cX8_halve 49 = .ok (.aload_n 0, 1) := by decide +kernel
theorem dX8_halve_50 : decode cX8_halve 50 = .ok (.getfield 45, 3) := by decide +kernel
theorem dX8_halve_53 : decode cX8_halve 53 = .ok (.aload_n 0, 1) := by decide +kernel
theorem dX8_halve_54 : decode cX8_halve 54 = .ok (.getfield 10, 3) := by decide +kernel
theorem dX8_halve_57 : decode cX8_halve 57 = .ok (.iload 5, 2) := by decide +kernel
theorem dX8_halve_59 : decode cX8_halve 59 = .ok (.invokevirtual 165, 3) := by decide +kernel
theorem dX8_halve_62 : decode cX8_halve 62 = .ok (.aload_n 0, 1) := by decide +kernel
theorem dX8_halve_63 : decode cX8_halve 63 = .ok (.getfield 45, 3) := by decide +kernel
theorem dX8_halve_66 : decode cX8_halve 66 = .ok (.aload_n 0, 1) := by decide +kernel
theorem dX8_halve_67 : decode cX8_halve 67 = .ok (.getfield 10, 3) := by decide +kernel
theorem dX8_halve_70 : decode cX8_halve 70 = .ok (.iload_n 2, 1) := by decide +kernel
theorem dX8_halve_71 : decode cX8_halve 71 = .ok (.iload_n 3, 1) := by decide +kernel
theorem dX8_halve_72 : decode cX8_halve 72 = .ok (.invokevirtual 182, 3) := by decide +kernel
theorem dX8_halve_75 : decode cX8_halve 75 = .ok (.istore 6, 2) := by decide +kernel
theorem dX8_halve_77 : decode cX8_halve 77 = .ok (.iload 4, 2) := by decide +kernel
theorem dX8_halve_79 : decode cX8_halve 79 = .ok (.ifCond .eq 13, 3) := by decide +kernel
theorem dX8_halve_82 : decode cX8_halve 82 = .ok (.aload_n 0, 1) := by decide +kernel
theorem dX8_halve_83 : decode cX8_halve 83 = .ok (.getfield 45, 3) := by decide +kernel
theorem dX8_halve_86 : decode cX8_halve 86 = .ok (.invokevirtual 186, 3) := by decide +kernel
theorem dX8_halve_89 : decode cX8_halve 89 = .ok (.goto 5, 3) := by decide +kernel
theorem dX8_halve_92 : decode cX8_halve 92 = .ok (.iload 6, 2) := by decide +kernel
theorem dX8_halve_94 : decode cX8_halve 94 = .ok (.ireturn, 1) := by decide +kernel
theorem dX8_firstBad_0 : decode cX8_firstBad 0 = .ok (.aload_n 0, 1) := by decide +kernel
theorem dX8_firstBad_1 : decode cX8_firstBad 1 = .ok (.iload_n 1, 1) := by decide +kernel
theorem dX8_firstBad_2 : decode cX8_firstBad 2 = .ok (.invokevirtual 92, 3) := by decide +kernel
theorem dX8_firstBad_5 : decode cX8_firstBad 5 = .ok (.aload_n 0, 1) := by decide +kernel
theorem dX8_firstBad_6 : decode cX8_firstBad 6 = .ok (.iload_n 2, 1) := by decide +kernel
theorem dX8_firstBad_7 : decode cX8_firstBad 7 = .ok (.invokevirtual 102, 3) := by decide +kernel
theorem dX8_firstBad_10 : decode cX8_firstBad 10 = .ok (.aload_n 0, 1) := by decide +kernel
theorem dX8_firstBad_11 : decode cX8_firstBad 11 = .ok (.iload_n 3, 1) := by decide +kernel
theorem dX8_firstBad_12 : decode cX8_firstBad 12 = .ok (.invokevirtual 177, 3) := by decide +kernel
theorem dX8_firstBad_15 : decode cX8_firstBad 15 = .ok (.aload_n 0, 1) := by decide +kernel
theorem dX8_firstBad_16 : decode cX8_firstBad 16 = .ok (.getfield 45, 3) := by decide +kernel
theorem dX8_firstBad_19 : decode cX8_firstBad 19 = .ok (.aload_n 0, 1) := by decide +kernel
theorem dX8_firstBad_20 : decode cX8_firstBad 20 = .ok (.getfield 10, 3) := by decide +kernel
theorem dX8_firstBad_23 : decode cX8_firstBad 23 = .ok (.aload_n 0, 1) := by decide +kernel
theorem dX8_firstBad_24 : decode cX8_firstBad 24 = .ok (.getfield 10, 3) := by decide +kernel
theorem dX8_firstBad_27 : decode cX8_firstBad 27 = .ok (.iload_n 1, 1) := by decide +kernel
theorem dX8_firstBad_28 : decode cX8_firstBad 28 = .ok (.invokevirtual 96, 3) := by decide +kernel
theorem dX8_firstBad_31 : decode cX8_firstBad 31 = .ok (.invokevirtual 165, 3) := by decide +kernel
theorem dX8_firstBad_34 : decode cX8_firstBad 34 = .ok (.aload_n 0, 1) := by decide +kernel
theorem dX8_firstBad_35 : decode cX8_firstBad 35 = .ok (.getfield 45, 3) := by decide +kernel
theorem dX8_firstBad_38 : decode cX8_firstBad 38 = .ok (.aload_n 0, 1) := by decide +kernel
theorem dX8_firstBad_39 : decode cX8_firstBad 39 = .ok (.getfield 10, 3) := by decide +kernel
theorem dX8_firstBad_42 : decode cX8_firstBad 42 = .ok (.iload_n 2, 1) := by decide +kernel
theorem dX8_firstBad_43 : decode cX8_firstBad 43 = .ok (.iload_n 3, 1) := by decide +kernel
theorem dX8_firstBad_44 : decode cX8_firstBad 44 = .ok (.invokevirtual 190, 3) := by decide +kernel
theorem dX8_firstBad_47 : decode cX8_firstBad 47 = .ok (.istore 4, 2) := by decide +kernel
theorem dX8_firstBad_49 : decode cX8_firstBad 49 = .ok (.iload 4, 2) := by decide +kernel
theorem dX8_firstBad_51 : decode cX8_firstBad 51 = .ok (.iconst (-1), 1) := by decide +kernel
theorem dX8_firstBad_52 : decode cX8_firstBad 52 = .ok (.if_icmp .ne 13, 3) := by decide +kernel
theorem dX8_firstBad_55 : decode cX8_firstBad 55 = .ok (.new 172, 3) := by decide +kernel
theorem dX8_firstBad_58 : decode cX8_firstBad 58 = .ok (.dup, 1) := by decide +kernel
theorem dX8_firstBad_59 : decode cX8_firstBad 59 = .ok (.ldc 193, 2) := by decide +kernel
theorem dX8_firstBad_61 : decode cX8_firstBad 61 = .ok (.invokespecial 176, 3) := by decide +kernel
theorem dX8_firstBad_64 : decode cX8_firstBad 64 = .ok (.athrow, 1) := by decide +kernel
theorem dX8_firstBad_65 : decode cX8_firstBad 65 = .ok (.iload 4, 2) := by decide +kernel
theorem dX8_firstBad_67 : decode cX8_firstBad 67 = .ok (.ireturn, 1) := by decide +kernel
theorem dX8_blame_0 : decode cX8_blame 0 = .ok (.aload_n 0, 1) := by decide +kernel
theorem dX8_blame_1 : decode cX8_blame 1 = .ok (.iload_n 1, 1) := by decide +kernel
theorem dX8_blame_2 : decode cX8_blame 2 = .ok (.invokevirtual 92, 3) := by decide +kernel
theorem dX8_blame_5 : decode cX8_blame 5 = .ok (.aload_n 0, 1) := by decide +kernel
theorem dX8_blame_6 : decode cX8_blame 6 = .ok (.iload_n 2, 1) := by decide +kernel
theorem dX8_blame_7 : decode cX8_blame 7 = .ok (.invokevirtual 102, 3) := by decide +kernel
theorem dX8_blame_10 : decode cX8_blame 10 = .ok (.aload_n 0, 1) := by decide +kernel
theorem dX8_blame_11 : decode cX8_blame 11 = .ok (.getfield 45, 3) := by decide +kernel
theorem dX8_blame_14 : decode cX8_blame 14 = .ok (.aload_n 0, 1) := by decide +kernel
theorem dX8_blame_15 : decode cX8_blame 15 = .ok (.getfield 10, 3) := by decide +kernel
theorem dX8_blame_18 : decode cX8_blame 18 = .ok (.aload_n 0, 1) := by decide +kernel
theorem dX8_blame_19 : decode cX8_blame 19 = .ok (.getfield 10, 3) := by decide +kernel
theorem dX8_blame_22 : decode cX8_blame 22 = .ok (.iload_n 1, 1) := by decide +kernel
theorem dX8_blame_23 : decode cX8_blame 23 = .ok (.invokevirtual 96, 3) := by decide +kernel
theorem dX8_blame_26 : decode cX8_blame 26 = .ok (.invokevirtual 165, 3) := by decide +kernel
theorem dX8_blame_29 : decode cX8_blame 29 = .ok (.aload_n 0, 1) := by decide +kernel
theorem dX8_blame_30 : decode cX8_blame 30 = .ok (.getfield 45, 3) := by decide +kernel
theorem dX8_blame_33 : decode cX8_blame 33 = .ok (.aload_n 0, 1) := by decide +kernel
theorem dX8_blame_34 : decode cX8_blame 34 = .ok (.getfield 10, 3) := by decide +kernel
theorem dX8_blame_37 : decode cX8_blame 37 = .ok (.iload_n 2, 1) := by decide +kernel
theorem dX8_blame_38 : decode cX8_blame 38 = .ok (.invokevirtual 195, 3) := by decide +kernel
theorem dX8_blame_41 : decode cX8_blame 41 = .ok (.ireturn, 1) := by decide +kernel
theorem dX8_taste_0 : decode cX8_taste 0 = .ok (.aload_n 0, 1) := by decide +kernel
theorem dX8_taste_1 : decode cX8_taste 1 = .ok (.iload_n 1, 1) := by decide +kernel
theorem dX8_taste_2 : decode cX8_taste 2 = .ok (.invokevirtual 99, 3) := by decide +kernel
theorem dX8_taste_5 : decode cX8_taste 5 = .ok (.aload_n 0, 1) := by decide +kernel
theorem dX8_taste_6 : decode cX8_taste 6 = .ok (.getfield 10, 3) := by decide +kernel
theorem dX8_taste_9 : decode cX8_taste 9 = .ok (.iload_n 1, 1) := by decide +kernel
theorem dX8_taste_10 : decode cX8_taste 10 = .ok (.invokevirtual 199, 3) := by decide +kernel
theorem dX8_taste_13 : decode cX8_taste 13 = .ok (.freturn, 1) := by decide +kernel
theorem dX8_tasteBits_0 : decode cX8_tasteBits 0 = .ok (.aload_n 0, 1) := by decide +kernel
theorem dX8_tasteBits_1 : decode cX8_tasteBits 1 = .ok (.iload_n 1, 1) := by decide +kernel
theorem dX8_tasteBits_2 : decode cX8_tasteBits 2 = .ok (.invokevirtual 99, 3) := by decide +kernel
theorem dX8_tasteBits_5 : decode cX8_tasteBits 5 = .ok (.aload_n 0, 1) := by decide +kernel
theorem dX8_tasteBits_6 : decode cX8_tasteBits 6 = .ok (.getfield 10, 3) := by decide +kernel
theorem dX8_tasteBits_9 : decode cX8_tasteBits 9 = .ok (.iload_n 1, 1) := by decide +kernel
theorem dX8_tasteBits_10 : decode cX8_tasteBits 10 = .ok (.invokevirtual 199, 3) := by decide +kernel
theorem dX8_tasteBits_13 : decode cX8_tasteBits 13 = .ok (.invokestatic 203, 3) := by decide +kernel
theorem dX8_tasteBits_16 : decode cX8_tasteBits 16 = .ok (.ireturn, 1) := by decide +kernel
theorem dX8_tastiest_0 : decode cX8_tastiest 0 = .ok (.aload_n 0, 1) := by decide +kernel
theorem dX8_tastiest_1 : decode cX8_tastiest 1 = .ok (.iload_n 1, 1) := by decide +kernel
theorem dX8_tastiest_2 : decode cX8_tastiest 2 = .ok (.invokevirtual 92, 3) := by decide +kernel
theorem dX8_tastiest_5 : decode cX8_tastiest 5 = .ok (.aload_n 0, 1) := by decide +kernel
theorem dX8_tastiest_6 : decode cX8_tastiest 6 = .ok (.getfield 45, 3) := by decide +kernel
theorem dX8_tastiest_9 : decode cX8_tastiest 9 = .ok (.aload_n 0, 1) := by decide +kernel
theorem dX8_tastiest_10 : decode cX8_tastiest 10 = .ok (.getfield 10, 3) := by decide +kernel
theorem dX8_tastiest_13 : decode cX8_tastiest 13 = .ok (.aload_n 0, 1) := by decide +kernel
theorem dX8_tastiest_14 : decode cX8_tastiest 14 = .ok (.getfield 10, 3) := by decide +kernel
theorem dX8_tastiest_17 : decode cX8_tastiest 17 = .ok (.iload_n 1, 1) := by decide +kernel
theorem dX8_tastiest_18 : decode cX8_tastiest 18 = .ok (.invokevirtual 96, 3) := by decide +kernel
theorem dX8_tastiest_21 : decode cX8_tastiest 21 = .ok (.invokevirtual 165, 3) := by decide +kernel
theorem dX8_tastiest_24 : decode cX8_tastiest 24 = .ok (.aload_n 0, 1) := by decide +kernel
theorem dX8_tastiest_25 : decode cX8_tastiest 25 = .ok (.getfield 45, 3) := by decide +kernel
theorem dX8_tastiest_28 : decode cX8_tastiest 28 = .ok (.aload_n 0, 1) := by decide +kernel
theorem dX8_tastiest_29 : decode cX8_tastiest 29 = .ok (.getfield 10, 3) := by decide +kernel
theorem dX8_tastiest_32 : decode cX8_tastiest 32 = .ok (.invokevirtual 207, 3) := by decide +kernel
theorem dX8_tastiest_35 : decode cX8_tastiest 35 = .ok (.ireturn, 1) := by decide +kernel
theorem dX8_bundle_0 : decode cX8_bundle 0 = .ok (.aload_n 0, 1) := by decide +kernel
theorem dX8_bundle_1 : decode cX8_bundle 1 = .ok (.getfield 16, 3) := by decide +kernel
theorem dX8_bundle_4 : decode cX8_bundle 4 = .ok (.aload_n 0, 1) := by decide +kernel
theorem dX8_bundle_5 : decode cX8_bundle 5 = .ok (.getfield 10, 3) := by decide +kernel
theorem dX8_bundle_8 : decode cX8_bundle 8 = .ok (.invokevirtual 74, 3) := by decide +kernel
theorem dX8_bundle_11 : decode cX8_bundle 11 = .ok (.aload_n 0, 1) := by decide +kernel
theorem dX8_bundle_12 : decode cX8_bundle 12 = .ok (.aload_n 0, 1) := by decide +kernel
theorem dX8_bundle_13 : decode cX8_bundle 13 = .ok (.getfield 38, 3) := by decide +kernel
theorem dX8_bundle_16 : decode cX8_bundle 16 = .ok (.iload_n 1, 1) := by decide +kernel
theorem dX8_bundle_17 : decode cX8_bundle 17 = .ok (.invokevirtual 211, 3) := by decide +kernel
theorem dX8_bundle_20 : decode cX8_bundle 20 = .ok (.invokevirtual 81, 3) := by decide +kernel
theorem dX8_bundle_23 : decode cX8_bundle 23 = .ok (.ireturn, 1) := by decide +kernel
theorem dX8_put_0 : decode cX8_put 0 = .ok (.aload_n 0, 1) := by decide +kernel
theorem dX8_put_1 : decode cX8_put 1 = .ok (.getfield 16, 3) := by decide +kernel
theorem dX8_put_4 : decode cX8_put 4 = .ok (.aload_n 0, 1) := by decide +kernel
theorem dX8_put_5 : decode cX8_put 5 = .ok (.getfield 10, 3) := by decide +kernel
theorem dX8_put_8 : decode cX8_put 8 = .ok (.invokevirtual 74, 3) := by decide +kernel
theorem dX8_put_11 : decode cX8_put 11 = .ok (.aload_n 0, 1) := by decide +kernel
theorem dX8_put_12 : decode cX8_put 12 = .ok (.aload_n 0, 1) := by decide +kernel
theorem dX8_put_13 : decode cX8_put 13 = .ok (.getfield 38, 3) := by decide +kernel
theorem dX8_put_16 : decode cX8_put 16 = .ok (.iload_n 1, 1) := by decide +kernel
theorem dX8_put_17 : decode cX8_put 17 = .ok (.iload_n 2, 1) := by decide +kernel
theorem dX8_put_18 : decode cX8_put 18 = .ok (.invokevirtual 214, 3) := by decide +kernel
theorem dX8_put_21 : decode cX8_put 21 = .ok (.invokevirtual 81, 3) := by decide +kernel
theorem dX8_put_24 : decode cX8_put 24 = .ok (.ireturn, 1) := by decide +kernel
theorem dX8_inBundle_0 : decode cX8_inBundle 0 = .ok (.iload_n 1, 1) := by decide +kernel
theorem dX8_inBundle_1 : decode cX8_inBundle 1 = .ok (.invokestatic 217, 3) := by decide +kernel
theorem dX8_inBundle_4 : decode cX8_inBundle 4 = .ok (.ifCond .ne 13, 3) := by decide +kernel
theorem dX8_inBundle_7 : decode cX8_inBundle 7 = .ok (.new 221, 3) := by decide +kernel
theorem dX8_inBundle_10 : decode cX8_inBundle 10 = .ok (.dup, 1) := by decide +kernel
theorem dX8_inBundle_11 : decode cX8_inBundle 11 = .ok (.ldc 174, 2) := by decide +kernel
theorem dX8_inBundle_13 : decode cX8_inBundle 13 = .ok (.invokespecial 223, 3) := by decide +kernel
theorem dX8_inBundle_16 : decode cX8_inBundle 16 = .ok (.athrow, 1) := by decide +kernel
theorem dX8_inBundle_17 : decode cX8_inBundle 17 = .ok (.aload_n 0, 1) := by decide +kernel
theorem dX8_inBundle_18 : decode cX8_inBundle 18 = .ok (.getfield 10, 3) := by decide +kernel
theorem dX8_inBundle_21 : decode cX8_inBundle 21 = .ok (.iload_n 1, 1) := by decide +kernel
theorem dX8_inBundle_22 : decode cX8_inBundle 22 = .ok (.invokevirtual 224, 3) := by decide +kernel
theorem dX8_inBundle_25 : decode cX8_inBundle 25 = .ok (.istore_n 2, 1) := by decide +kernel
theorem dX8_inBundle_26 : decode cX8_inBundle 26 = .ok (.iload_n 2, 1) := by decide +kernel
theorem dX8_inBundle_27 : decode cX8_inBundle 27 = .ok (.iconst (-1), 1) := by decide +kernel
theorem dX8_inBundle_28 : decode cX8_inBundle 28 = .ok (.if_icmp .ne 13, 3) := by decide +kernel
theorem dX8_inBundle_31 : decode cX8_inBundle 31 = .ok (.new 172, 3) := by decide +kernel
theorem dX8_inBundle_34 : decode cX8_inBundle 34 = .ok (.dup, 1) := by decide +kernel
theorem dX8_inBundle_35 : decode cX8_inBundle 35 = .ok (.ldc 227, 2) := by decide +kernel
theorem dX8_inBundle_37 : decode cX8_inBundle 37 = .ok (.invokespecial 176, 3) := by decide +kernel
theorem dX8_inBundle_40 : decode cX8_inBundle 40 = .ok (.athrow, 1) := by decide +kernel
theorem dX8_inBundle_41 : decode cX8_inBundle 41 = .ok (.iload_n 2, 1) := by decide +kernel
theorem dX8_inBundle_42 : decode cX8_inBundle 42 = .ok (.ireturn, 1) := by decide +kernel
theorem dX8_play_0 : decode cX8_play 0 = .ok (.aload_n 0, 1) := by decide +kernel
theorem dX8_play_1 : decode cX8_play 1 = .ok (.getfield 16, 3) := by decide +kernel
theorem dX8_play_4 : decode cX8_play 4 = .ok (.aload_n 0, 1) := by decide +kernel
theorem dX8_play_5 : decode cX8_play 5 = .ok (.getfield 10, 3) := by decide +kernel
theorem dX8_play_8 : decode cX8_play 8 = .ok (.invokevirtual 74, 3) := by decide +kernel
theorem dX8_play_11 : decode cX8_play 11 = .ok (.aload_n 0, 1) := by decide +kernel
theorem dX8_play_12 : decode cX8_play 12 = .ok (.aload_n 0, 1) := by decide +kernel
theorem dX8_play_13 : decode cX8_play 13 = .ok (.getfield 38, 3) := by decide +kernel
theorem dX8_play_16 : decode cX8_play 16 = .ok (.iload_n 1, 1) := by decide +kernel
theorem dX8_play_17 : decode cX8_play 17 = .ok (.iload_n 2, 1) := by decide +kernel
theorem dX8_play_18 : decode cX8_play 18 = .ok (.invokevirtual 229, 3) := by decide +kernel
theorem dX8_play_21 : decode cX8_play 21 = .ok (.invokevirtual 81, 3) := by decide +kernel
theorem dX8_play_24 : decode cX8_play 24 = .ok (.ireturn, 1) := by decide +kernel
theorem dX8_line_0 : decode cX8_line 0 = .ok (.aload_n 0, 1) := by decide +kernel
theorem dX8_line_1 : decode cX8_line 1 = .ok (.iload_n 1, 1) := by decide +kernel
theorem dX8_line_2 : decode cX8_line 2 = .ok (.invokevirtual 99, 3) := by decide +kernel
theorem dX8_line_5 : decode cX8_line 5 = .ok (.aload_n 0, 1) := by decide +kernel
theorem dX8_line_6 : decode cX8_line 6 = .ok (.getfield 66, 3) := by decide +kernel
theorem dX8_line_9 : decode cX8_line 9 = .ok (.aload_n 0, 1) := by decide +kernel
theorem dX8_line_10 : decode cX8_line 10 = .ok (.getfield 10, 3) := by decide +kernel
theorem dX8_line_13 : decode cX8_line 13 = .ok (.iload_n 1, 1) := by decide +kernel
theorem dX8_line_14 : decode cX8_line 14 = .ok (.invokevirtual 232, 3) := by decide +kernel
theorem dX8_line_17 : decode cX8_line 17 = .ok (.ireturn, 1) := by decide +kernel
theorem dX8_character_0 : decode cX8_character 0 = .ok (.aload_n 0, 1) := by decide +kernel
theorem dX8_character_1 : decode cX8_character 1 = .ok (.getfield 66, 3) := by decide +kernel
theorem dX8_character_4 : decode cX8_character 4 = .ok (.iload_n 1, 1) := by decide +kernel
theorem dX8_character_5 : decode cX8_character 5 = .ok (.invokevirtual 235, 3) := by decide +kernel
theorem dX8_character_8 : decode cX8_character 8 = .ok (.ifCond .ne 13, 3) := by decide +kernel
theorem dX8_character_11 : decode cX8_character 11 = .ok (.new 221, 3) := by decide +kernel
theorem dX8_character_14 : decode cX8_character 14 = .ok (.dup, 1) := by decide +kernel
theorem dX8_character_15 : decode cX8_character 15 = .ok (.ldc 238, 2) := by decide +kernel
theorem dX8_character_17 : decode cX8_character 17 = .ok (.invokespecial 223, 3) := by decide +kernel
theorem dX8_character_20 : decode cX8_character 20 = .ok (.athrow, 1) := by decide +kernel
theorem dX8_character_21 : decode cX8_character 21 = .ok (.aload_n 0, 1) := by decide +kernel
theorem dX8_character_22 : decode cX8_character 22 = .ok (.getfield 66, 3) := by decide +kernel
theorem dX8_character_25 : decode cX8_character 25 = .ok (.iload_n 1, 1) := by decide +kernel
theorem dX8_character_26 : decode cX8_character 26 = .ok (.invokevirtual 240, 3) := by decide +kernel
theorem dX8_character_29 : decode cX8_character 29 = .ok (.ireturn, 1) := by decide +kernel
theorem dX8_append_0 : decode cX8_append 0 = .ok (.aload_n 0, 1) := by decide +kernel
theorem dX8_append_1 : decode cX8_append 1 = .ok (.getfield 52, 3) := by decide +kernel
theorem dX8_append_4 : decode cX8_append 4 = .ok (.invokevirtual 244, 3) := by decide +kernel
theorem dX8_append_7 : decode cX8_append 7 = .ok (.ifCond .eq 13, 3) := by decide +kernel
theorem dX8_append_10 : decode cX8_append 10 = .ok (.new 248, 3) := by decide +kernel
theorem dX8_append_13 : decode cX8_append 13 = .ok (.dup, 1) := by decide +kernel
theorem dX8_append_14 : decode cX8_append 14 = .ok (.ldc 250, 2) := by decide +kernel
theorem dX8_append_16 : decode cX8_append 16 = .ok (.invokespecial 252, 3) := by decide +kernel
theorem dX8_append_19 : decode cX8_append 19 = .ok (.athrow, 1) := by decide +kernel
theorem dX8_append_20 : decode cX8_append 20 = .ok (.aload_n 0, 1) := by decide +kernel
theorem dX8_append_21 : decode cX8_append 21 = .ok (.getfield 52, 3) := by decide +kernel
theorem dX8_append_24 : decode cX8_append 24 = .ok (.iload_n 1, 1) := by decide +kernel
theorem dX8_append_25 : decode cX8_append 25 = .ok (.invokevirtual 253, 3) := by decide +kernel
theorem dX8_append_28 : decode cX8_append 28 = .ok (.ireturn, 1) := by decide +kernel
theorem dX8_read_0 : decode cX8_read 0 = .ok (.aload_n 0, 1) := by decide +kernel
theorem dX8_read_1 : decode cX8_read 1 = .ok (.aload_n 0, 1) := by decide +kernel
theorem dX8_read_2 : decode cX8_read 2 = .ok (.getfield 59, 3) := by decide +kernel
theorem dX8_read_5 : decode cX8_read 5 = .ok (.aload_n 0, 1) := by decide +kernel
theorem dX8_read_6 : decode cX8_read 6 = .ok (.getfield 52, 3) := by decide +kernel
theorem dX8_read_9 : decode cX8_read 9 = .ok (.invokevirtual 257, 3) := by decide +kernel
theorem dX8_read_12 : decode cX8_read 12 = .ok (.putfield 70, 3) := by decide +kernel
theorem dX8_read_15 : decode cX8_read 15 = .ok (.aload_n 0, 1) := by decide +kernel
theorem dX8_read_16 : decode cX8_read 16 = .ok (.getfield 52, 3) := by decide +kernel
theorem dX8_read_19 : decode cX8_read 19 = .ok (.invokevirtual 261, 3) := by decide +kernel
theorem dX8_read_22 : decode cX8_read 22 = .ok (.aload_n 0, 1) := by decide +kernel
theorem dX8_read_23 : decode cX8_read 23 = .ok (.getfield 70, 3) := by decide +kernel
theorem dX8_read_26 : decode cX8_read 26 = .ok (.iconst (-1), 1) := by decide +kernel
theorem dX8_read_27 : decode cX8_read 27 = .ok (.if_icmp .eq 14, 3) := by decide +kernel
theorem dX8_read_30 : decode cX8_read 30 = .ok (.new 131, 3) := by decide +kernel
theorem dX8_read_33 : decode cX8_read 33 = .ok (.dup, 1) := by decide +kernel
theorem dX8_read_34 : decode cX8_read 34 = .ok (.ldc_w 264, 3) := by decide +kernel
theorem dX8_read_37 : decode cX8_read 37 = .ok (.invokespecial 135, 3) := by decide +kernel
theorem dX8_read_40 : decode cX8_read 40 = .ok (.athrow, 1) := by decide +kernel
theorem dX8_read_41 : decode cX8_read 41 = .ok (.aload_n 0, 1) := by decide +kernel
theorem dX8_read_42 : decode cX8_read 42 = .ok (.getfield 16, 3) := by decide +kernel
theorem dX8_read_45 : decode cX8_read 45 = .ok (.aload_n 0, 1) := by decide +kernel
theorem dX8_read_46 : decode cX8_read 46 = .ok (.getfield 10, 3) := by decide +kernel
theorem dX8_read_49 : decode cX8_read 49 = .ok (.invokevirtual 74, 3) := by decide +kernel
theorem dX8_read_52 : decode cX8_read 52 = .ok (.aload_n 0, 1) := by decide +kernel
theorem dX8_read_53 : decode cX8_read 53 = .ok (.aload_n 0, 1) := by decide +kernel
theorem dX8_read_54 : decode cX8_read 54 = .ok (.getfield 59, 3) := by decide +kernel
theorem dX8_read_57 : decode cX8_read 57 = .ok (.aload_n 0, 1) := by decide +kernel
theorem dX8_read_58 : decode cX8_read 58 = .ok (.getfield 38, 3) := by decide +kernel
theorem dX8_read_61 : decode cX8_read 61 = .ok (.invokevirtual 266, 3) := by decide +kernel
theorem dX8_read_64 : decode cX8_read 64 = .ok (.invokevirtual 81, 3) := by decide +kernel
theorem dX8_read_67 : decode cX8_read 67 = .ok (.ireturn, 1) := by decide +kernel
theorem dX8_errorPosition_0 : decode cX8_errorPosition 0 = .ok (.aload_n 0, 1) := by decide +kernel
theorem dX8_errorPosition_1 : decode cX8_errorPosition 1 = .ok (.getfield 70, 3) := by decide +kernel
theorem dX8_errorPosition_4 : decode cX8_errorPosition 4 = .ok (.ireturn, 1) := by decide +kernel
theorem dX8_refusal_0 : decode cX8_refusal 0 = .ok (.aload_n 0, 1) := by decide +kernel
theorem dX8_refusal_1 : decode cX8_refusal 1 = .ok (.getfield 38, 3) := by decide +kernel
theorem dX8_refusal_4 : decode cX8_refusal 4 = .ok (.invokevirtual 270, 3) := by decide +kernel
theorem dX8_refusal_7 : decode cX8_refusal 7 = .ok (.iconst (-1), 1) := by decide +kernel
theorem dX8_refusal_8 : decode cX8_refusal 8 = .ok (.if_icmp .ne 14, 3) := by decide +kernel
theorem dX8_refusal_11 : decode cX8_refusal 11 = .ok (.new 172, 3) := by decide +kernel
theorem dX8_refusal_14 : decode cX8_refusal 14 = .ok (.dup, 1) := by decide +kernel
theorem dX8_refusal_15 : decode cX8_refusal 15 = .ok (.ldc_w 273, 3) := by decide +kernel
theorem dX8_refusal_18 : decode cX8_refusal 18 = .ok (.invokespecial 176, 3) := by decide +kernel
theorem dX8_refusal_21 : decode cX8_refusal 21 = .ok (.athrow, 1) := by decide +kernel
theorem dX8_refusal_22 : decode cX8_refusal 22 = .ok (.iload_n 1, 1) := by decide +kernel
theorem dX8_refusal_23 : decode cX8_refusal 23 = .ok (.ifCond .eq 13, 3) := by decide +kernel
theorem dX8_refusal_26 : decode cX8_refusal 26 = .ok (.aload_n 0, 1) := by decide +kernel
theorem dX8_refusal_27 : decode cX8_refusal 27 = .ok (.getfield 38, 3) := by decide +kernel
theorem dX8_refusal_30 : decode cX8_refusal 30 = .ok (.invokevirtual 275, 3) := by decide +kernel
theorem dX8_refusal_33 : decode cX8_refusal 33 = .ok (.goto 10, 3) := by decide +kernel
theorem dX8_refusal_36 : decode cX8_refusal 36 = .ok (.aload_n 0, 1) := by decide +kernel
theorem dX8_refusal_37 : decode cX8_refusal 37 = .ok (.getfield 38, 3) := by decide +kernel
theorem dX8_refusal_40 : decode cX8_refusal 40 = .ok (.invokevirtual 270, 3) := by decide +kernel
theorem dX8_refusal_43 : decode cX8_refusal 43 = .ok (.ireturn, 1) := by decide +kernel
theorem dX8_account_0 : decode cX8_account 0 = .ok (.iload_n 1, 1) := by decide +kernel
theorem dX8_account_1 : decode cX8_account 1 = .ok (.tableswitch 150 0 10 #[59, 67, 75, 84, 93, 102, 110, 118, 126, 134, 142], 59) := by decide +kernel
theorem dX8_account_60 : decode cX8_account 60 = .ok (.aload_n 0, 1) := by decide +kernel
theorem dX8_account_61 : decode cX8_account 61 = .ok (.getfield 10, 3) := by decide +kernel
theorem dX8_account_64 : decode cX8_account 64 = .ok (.invokevirtual 278, 3) := by decide +kernel
theorem dX8_account_67 : decode cX8_account 67 = .ok (.ireturn, 1) := by decide +kernel
theorem dX8_account_68 : decode cX8_account 68 = .ok (.aload_n 0, 1) := by decide +kernel
theorem dX8_account_69 : decode cX8_account 69 = .ok (.getfield 10, 3) := by decide +kernel
theorem dX8_account_72 : decode cX8_account 72 = .ok (.invokevirtual 281, 3) := by decide +kernel
theorem dX8_account_75 : decode cX8_account 75 = .ok (.ireturn, 1) := by decide +kernel
theorem dX8_account_76 : decode cX8_account 76 = .ok (.aload_n 0, 1) := by decide +kernel
theorem dX8_account_77 : decode cX8_account 77 = .ok (.getfield 10, 3) := by decide +kernel
theorem dX8_account_80 : decode cX8_account 80 = .ok (.iconst 0, 1) := by decide +kernel
theorem dX8_account_81 : decode cX8_account 81 = .ok (.invokevirtual 284, 3) := by decide +kernel
theorem dX8_account_84 : decode cX8_account 84 = .ok (.ireturn, 1) := by decide +kernel
theorem dX8_account_85 : decode cX8_account 85 = .ok (.aload_n 0, 1) := by decide +kernel
theorem dX8_account_86 : decode cX8_account 86 = .ok (.getfield 10, 3) := by decide +kernel
theorem dX8_account_89 : decode cX8_account 89 = .ok (.iconst 1, 1) := by decide +kernel
theorem dX8_account_90 : decode cX8_account 90 = .ok (.invokevirtual 284, 3) := by decide +kernel
theorem dX8_account_93 : decode cX8_account 93 = .ok (.ireturn, 1) := by decide +kernel
theorem dX8_account_94 : decode cX8_account 94 = .ok (.aload_n 0, 1) := by decide +kernel
theorem dX8_account_95 : decode cX8_account 95 = .ok (.getfield 10, 3) := by decide +kernel
theorem dX8_account_98 : decode cX8_account 98 = .ok (.iconst 2, 1) := by decide +kernel
theorem dX8_account_99 : decode cX8_account 99 = .ok (.invokevirtual 284, 3) := by decide +kernel
theorem dX8_account_102 : decode cX8_account 102 = .ok (.ireturn, 1) := by decide +kernel
theorem dX8_account_103 : decode cX8_account 103 = .ok (.aload_n 0, 1) := by decide +kernel
theorem dX8_account_104 : decode cX8_account 104 = .ok (.getfield 10, 3) := by decide +kernel
theorem dX8_account_107 : decode cX8_account 107 = .ok (.invokevirtual 287, 3) := by decide +kernel
theorem dX8_account_110 : decode cX8_account 110 = .ok (.ireturn, 1) := by decide +kernel
theorem dX8_account_111 : decode cX8_account 111 = .ok (.aload_n 0, 1) := by decide +kernel
theorem dX8_account_112 : decode cX8_account 112 = .ok (.getfield 10, 3) := by decide +kernel
theorem dX8_account_115 : decode cX8_account 115 = .ok (.invokevirtual 290, 3) := by decide +kernel
theorem dX8_account_118 : decode cX8_account 118 = .ok (.ireturn, 1) := by decide +kernel
theorem dX8_account_119 : decode cX8_account 119 = .ok (.aload_n 0, 1) := by decide +kernel
theorem dX8_account_120 : decode cX8_account 120 = .ok (.getfield 10, 3) := by decide +kernel
theorem dX8_account_123 : decode cX8_account 123 = .ok (.invokevirtual 293, 3) := by decide +kernel
theorem dX8_account_126 : decode cX8_account 126 = .ok (.ireturn, 1) := by decide +kernel
theorem dX8_account_127 : decode cX8_account 127 = .ok (.aload_n 0, 1) := by decide +kernel
theorem dX8_account_128 : decode cX8_account 128 = .ok (.getfield 10, 3) := by decide +kernel
theorem dX8_account_131 : decode cX8_account 131 = .ok (.invokevirtual 296, 3) := by decide +kernel
theorem dX8_account_134 : decode cX8_account 134 = .ok (.ireturn, 1) := by decide +kernel
theorem dX8_account_135 : decode cX8_account 135 = .ok (.aload_n 0, 1) := by decide +kernel
theorem dX8_account_136 : decode cX8_account 136 = .ok (.getfield 52, 3) := by decide +kernel
theorem dX8_account_139 : decode cX8_account 139 = .ok (.invokevirtual 299, 3) := by decide +kernel
theorem dX8_account_142 : decode cX8_account 142 = .ok (.ireturn, 1) := by decide +kernel
theorem dX8_account_143 : decode cX8_account 143 = .ok (.aload_n 0, 1) := by decide +kernel
theorem dX8_account_144 : decode cX8_account 144 = .ok (.getfield 29, 3) := by decide +kernel
theorem dX8_account_147 : decode cX8_account 147 = .ok (.invokevirtual 302, 3) := by decide +kernel
theorem dX8_account_150 : decode cX8_account 150 = .ok (.ireturn, 1) := by decide +kernel
theorem dX8_account_151 : decode cX8_account 151 = .ok (.new 131, 3) := by decide +kernel
theorem dX8_account_154 : decode cX8_account 154 = .ok (.dup, 1) := by decide +kernel
theorem dX8_account_155 : decode cX8_account 155 = .ok (.ldc_w 303, 3) := by decide +kernel
theorem dX8_account_158 : decode cX8_account 158 = .ok (.invokespecial 135, 3) := by decide +kernel
theorem dX8_account_161 : decode cX8_account 161 = .ok (.athrow, 1) := by decide +kernel
theorem dX8_isWell_0 : decode cX8_isWell 0 = .ok (.iconst 0, 1) := by decide +kernel
theorem dX8_isWell_1 : decode cX8_isWell 1 = .ok (.istore_n 1, 1) := by decide +kernel
theorem dX8_isWell_2 : decode cX8_isWell 2 = .ok (.iload_n 1, 1) := by decide +kernel
theorem dX8_isWell_3 : decode cX8_isWell 3 = .ok (.aload_n 0, 1) := by decide +kernel
theorem dX8_isWell_4 : decode cX8_isWell 4 = .ok (.getfield 10, 3) := by decide +kernel
theorem dX8_isWell_7 : decode cX8_isWell 7 = .ok (.invokevirtual 278, 3) := by decide +kernel
theorem dX8_isWell_10 : decode cX8_isWell 10 = .ok (.if_icmp .ge 33, 3) := by decide +kernel
theorem dX8_isWell_13 : decode cX8_isWell 13 = .ok (.aload_n 0, 1) := by decide +kernel
theorem dX8_isWell_14 : decode cX8_isWell 14 = .ok (.getfield 10, 3) := by decide +kernel
theorem dX8_isWell_17 : decode cX8_isWell 17 = .ok (.iload_n 1, 1) := by decide +kernel
theorem dX8_isWell_18 : decode cX8_isWell 18 = .ok (.invokevirtual 305, 3) := by decide +kernel
theorem dX8_isWell_21 : decode cX8_isWell 21 = .ok (.ifCond .eq 14, 3) := by decide +kernel
theorem dX8_isWell_24 : decode cX8_isWell 24 = .ok (.aload_n 0, 1) := by decide +kernel
theorem dX8_isWell_25 : decode cX8_isWell 25 = .ok (.getfield 10, 3) := by decide +kernel
theorem dX8_isWell_28 : decode cX8_isWell 28 = .ok (.iload_n 1, 1) := by decide +kernel
theorem dX8_isWell_29 : decode cX8_isWell 29 = .ok (.invokevirtual 308, 3) := by decide +kernel
theorem dX8_isWell_32 : decode cX8_isWell 32 = .ok (.ifCond .ne 5, 3) := by decide +kernel
theorem dX8_isWell_35 : decode cX8_isWell 35 = .ok (.iconst 0, 1) := by decide +kernel
theorem dX8_isWell_36 : decode cX8_isWell 36 = .ok (.ireturn, 1) := by decide +kernel
theorem dX8_isWell_37 : decode cX8_isWell 37 = .ok (.iinc 1 1, 3) := by decide +kernel
theorem dX8_isWell_40 : decode cX8_isWell 40 = .ok (.goto (-38), 3) := by decide +kernel
theorem dX8_isWell_43 : decode cX8_isWell 43 = .ok (.iconst 1, 1) := by decide +kernel
theorem dX8_isWell_44 : decode cX8_isWell 44 = .ok (.ireturn, 1) := by decide +kernel
theorem dX8_meanTaste_0 : decode cX8_meanTaste 0 = .ok (.aload_n 0, 1) := by decide +kernel
theorem dX8_meanTaste_1 : decode cX8_meanTaste 1 = .ok (.getfield 10, 3) := by decide +kernel
theorem dX8_meanTaste_4 : decode cX8_meanTaste 4 = .ok (.invokevirtual 281, 3) := by decide +kernel
theorem dX8_meanTaste_7 : decode cX8_meanTaste 7 = .ok (.istore_n 1, 1) := by decide +kernel
theorem dX8_meanTaste_8 : decode cX8_meanTaste 8 = .ok (.iload_n 1, 1) := by decide +kernel
theorem dX8_meanTaste_9 : decode cX8_meanTaste 9 = .ok (.iconst 1, 1) := by decide +kernel
theorem dX8_meanTaste_10 : decode cX8_meanTaste 10 = .ok (.if_icmp .ge 5, 3) := by decide +kernel
theorem dX8_meanTaste_13 : decode cX8_meanTaste 13 = .ok (.dconst 0, 1) := by decide +kernel
theorem dX8_meanTaste_14 : decode cX8_meanTaste 14 = .ok (.dreturn, 1) := by decide +kernel
theorem dX8_meanTaste_15 : decode cX8_meanTaste 15 = .ok (.dconst 0, 1) := by decide +kernel
theorem dX8_meanTaste_16 : decode cX8_meanTaste 16 = .ok (.dstore_n 2, 1) := by decide +kernel
theorem dX8_meanTaste_17 : decode cX8_meanTaste 17 = .ok (.iconst 0, 1) := by decide +kernel
theorem dX8_meanTaste_18 : decode cX8_meanTaste 18 = .ok (.istore 4, 2) := by decide +kernel
theorem dX8_meanTaste_20 : decode cX8_meanTaste 20 = .ok (.iload 4, 2) := by decide +kernel
theorem dX8_meanTaste_22 : decode cX8_meanTaste 22 = .ok (.iload_n 1, 1) := by decide +kernel
theorem dX8_meanTaste_23 : decode cX8_meanTaste 23 = .ok (.if_icmp .ge 29, 3) := by decide +kernel
theorem dX8_meanTaste_26 : decode cX8_meanTaste 26 = .ok (.dload_n 2, 1) := by decide +kernel
theorem dX8_meanTaste_27 : decode cX8_meanTaste 27 = .ok (.aload_n 0, 1) := by decide +kernel
theorem dX8_meanTaste_28 : decode cX8_meanTaste 28 = .ok (.getfield 10, 3) := by decide +kernel
theorem dX8_meanTaste_31 : decode cX8_meanTaste 31 = .ok (.aload_n 0, 1) := by decide +kernel
theorem dX8_meanTaste_32 : decode cX8_meanTaste 32 = .ok (.getfield 10, 3) := by decide +kernel
theorem dX8_meanTaste_35 : decode cX8_meanTaste 35 = .ok (.iload 4, 2) := by decide +kernel
theorem dX8_meanTaste_37 : decode cX8_meanTaste 37 = .ok (.invokevirtual 96, 3) := by decide +kernel
theorem dX8_meanTaste_40 : decode cX8_meanTaste 40 = .ok (.invokevirtual 199, 3) := by decide +kernel
theorem dX8_meanTaste_43 : decode cX8_meanTaste 43 = .ok (.f2d, 1) := by decide +kernel
theorem dX8_meanTaste_44 : decode cX8_meanTaste 44 = .ok (.dadd, 1) := by decide +kernel
theorem dX8_meanTaste_45 : decode cX8_meanTaste 45 = .ok (.dstore_n 2, 1) := by decide +kernel
theorem dX8_meanTaste_46 : decode cX8_meanTaste 46 = .ok (.iinc 4 1, 3) := by decide +kernel
theorem dX8_meanTaste_49 : decode cX8_meanTaste 49 = .ok (.goto (-29), 3) := by decide +kernel
theorem dX8_meanTaste_52 : decode cX8_meanTaste 52 = .ok (.dload_n 2, 1) := by decide +kernel
theorem dX8_meanTaste_53 : decode cX8_meanTaste 53 = .ok (.iload_n 1, 1) := by decide +kernel
theorem dX8_meanTaste_54 : decode cX8_meanTaste 54 = .ok (.i2d, 1) := by decide +kernel
theorem dX8_meanTaste_55 : decode cX8_meanTaste 55 = .ok (.ddiv, 1) := by decide +kernel
theorem dX8_meanTaste_56 : decode cX8_meanTaste 56 = .ok (.dreturn, 1) := by decide +kernel
theorem dX8_editShare_0 : decode cX8_editShare 0 = .ok (.aload_n 0, 1) := by decide +kernel
theorem dX8_editShare_1 : decode cX8_editShare 1 = .ok (.getfield 10, 3) := by decide +kernel
theorem dX8_editShare_4 : decode cX8_editShare 4 = .ok (.invokevirtual 278, 3) := by decide +kernel
theorem dX8_editShare_7 : decode cX8_editShare 7 = .ok (.istore_n 1, 1) := by decide +kernel
theorem dX8_editShare_8 : decode cX8_editShare 8 = .ok (.iload_n 1, 1) := by decide +kernel
theorem dX8_editShare_9 : decode cX8_editShare 9 = .ok (.iconst 1, 1) := by decide +kernel
theorem dX8_editShare_10 : decode cX8_editShare 10 = .ok (.if_icmp .ge 5, 3) := by decide +kernel
theorem dX8_editShare_13 : decode cX8_editShare 13 = .ok (.fconst 0, 1) := by decide +kernel
theorem dX8_editShare_14 : decode cX8_editShare 14 = .ok (.freturn, 1) := by decide +kernel
theorem dX8_editShare_15 : decode cX8_editShare 15 = .ok (.aload_n 0, 1) := by decide +kernel
theorem dX8_editShare_16 : decode cX8_editShare 16 = .ok (.getfield 10, 3) := by decide +kernel
theorem dX8_editShare_19 : decode cX8_editShare 19 = .ok (.iconst 0, 1) := by decide +kernel
theorem dX8_editShare_20 : decode cX8_editShare 20 = .ok (.invokevirtual 284, 3) := by decide +kernel
theorem dX8_editShare_23 : decode cX8_editShare 23 = .ok (.i2f, 1) := by decide +kernel
theorem dX8_editShare_24 : decode cX8_editShare 24 = .ok (.iload_n 1, 1) := by decide +kernel
theorem dX8_editShare_25 : decode cX8_editShare 25 = .ok (.i2f, 1) := by decide +kernel
theorem dX8_editShare_26 : decode cX8_editShare 26 = .ok (.fdiv, 1) := by decide +kernel
theorem dX8_editShare_27 : decode cX8_editShare 27 = .ok (.freturn, 1) := by decide +kernel
theorem dX8_undo_0 : decode cX8_undo 0 = .ok (.aload_n 0, 1) := by decide +kernel
theorem dX8_undo_1 : decode cX8_undo 1 = .ok (.getfield 29, 3) := by decide +kernel
theorem dX8_undo_4 : decode cX8_undo 4 = .ok (.invokevirtual 302, 3) := by decide +kernel
theorem dX8_undo_7 : decode cX8_undo 7 = .ok (.iconst 1, 1) := by decide +kernel
theorem dX8_undo_8 : decode cX8_undo 8 = .ok (.if_icmp .ge 14, 3) := by decide +kernel
theorem dX8_undo_11 : decode cX8_undo 11 = .ok (.new 248, 3) := by decide +kernel
theorem dX8_undo_14 : decode cX8_undo 14 = .ok (.dup, 1) := by decide +kernel
theorem dX8_undo_15 : decode cX8_undo 15 = .ok (.ldc_w 311, 3) := by decide +kernel
theorem dX8_undo_18 : decode cX8_undo 18 = .ok (.invokespecial 252, 3) := by decide +kernel
theorem dX8_undo_21 : decode cX8_undo 21 = .ok (.athrow, 1) := by decide +kernel
theorem dX8_undo_22 : decode cX8_undo 22 = .ok (.aload_n 0, 1) := by decide +kernel
theorem dX8_undo_23 : decode cX8_undo 23 = .ok (.getfield 29, 3) := by decide +kernel
theorem dX8_undo_26 : decode cX8_undo 26 = .ok (.aload_n 0, 1) := by decide +kernel
theorem dX8_undo_27 : decode cX8_undo 27 = .ok (.getfield 10, 3) := by decide +kernel
theorem dX8_undo_30 : decode cX8_undo 30 = .ok (.invokevirtual 313, 3) := by decide +kernel
theorem dX8_undo_33 : decode cX8_undo 33 = .ok (.ireturn, 1) := by decide +kernel
theorem dX8_save_0 : decode cX8_save 0 = .ok (.aload_n 0, 1) := by decide +kernel
theorem dX8_save_1 : decode cX8_save 1 = .ok (.getfield 19, 3) := by decide +kernel
theorem dX8_save_4 : decode cX8_save 4 = .ok (.aload_n 0, 1) := by decide +kernel
theorem dX8_save_5 : decode cX8_save 5 = .ok (.getfield 10, 3) := by decide +kernel
theorem dX8_save_8 : decode cX8_save 8 = .ok (.invokevirtual 74, 3) := by decide +kernel
theorem dX8_save_11 : decode cX8_save 11 = .ok (.aload_n 0, 1) := by decide +kernel
theorem dX8_save_12 : decode cX8_save 12 = .ok (.iconst 1, 1) := by decide +kernel
theorem dX8_save_13 : decode cX8_save 13 = .ok (.putfield 22, 3) := by decide +kernel
theorem dX8_save_16 : decode cX8_save 16 = .ok (.aload_n 0, 1) := by decide +kernel
theorem dX8_save_17 : decode cX8_save 17 = .ok (.getfield 10, 3) := by decide +kernel
theorem dX8_save_20 : decode cX8_save 20 = .ok (.invokevirtual 278, 3) := by decide +kernel
theorem dX8_save_23 : decode cX8_save 23 = .ok (.ireturn, 1) := by decide +kernel
theorem dX8_restore_0 : decode cX8_restore 0 = .ok (.aload_n 0, 1) := by decide +kernel
theorem dX8_restore_1 : decode cX8_restore 1 = .ok (.getfield 22, 3) := by decide +kernel
theorem dX8_restore_4 : decode cX8_restore 4 = .ok (.ifCond .ne 14, 3) := by decide +kernel
theorem dX8_restore_7 : decode cX8_restore 7 = .ok (.new 248, 3) := by decide +kernel
theorem dX8_restore_10 : decode cX8_restore 10 = .ok (.dup, 1) := by decide +kernel
theorem dX8_restore_11 : decode cX8_restore 11 = .ok (.ldc_w 316, 3) := by decide +kernel
theorem dX8_restore_14 : decode cX8_restore 14 = .ok (.invokespecial 252, 3) := by decide +kernel
theorem dX8_restore_17 : decode cX8_restore 17 = .ok (.athrow, 1) := by decide +kernel
theorem dX8_restore_18 : decode cX8_restore 18 = .ok (.aload_n 0, 1) := by decide +kernel
theorem dX8_restore_19 : decode cX8_restore 19 = .ok (.getfield 10, 3) := by decide +kernel
theorem dX8_restore_22 : decode cX8_restore 22 = .ok (.aload_n 0, 1) := by decide +kernel
theorem dX8_restore_23 : decode cX8_restore 23 = .ok (.getfield 19, 3) := by decide +kernel
theorem dX8_restore_26 : decode cX8_restore 26 = .ok (.invokevirtual 74, 3) := by decide +kernel
theorem dX8_restore_29 : decode cX8_restore 29 = .ok (.aload_n 0, 1) := by decide +kernel
theorem dX8_restore_30 : decode cX8_restore 30 = .ok (.getfield 29, 3) := by decide +kernel
theorem dX8_restore_33 : decode cX8_restore 33 = .ok (.invokevirtual 318, 3) := by decide +kernel
theorem dX8_restore_36 : decode cX8_restore 36 = .ok (.aload_n 0, 1) := by decide +kernel
theorem dX8_restore_37 : decode cX8_restore 37 = .ok (.getfield 10, 3) := by decide +kernel
theorem dX8_restore_40 : decode cX8_restore 40 = .ok (.invokevirtual 278, 3) := by decide +kernel
theorem dX8_restore_43 : decode cX8_restore 43 = .ok (.ireturn, 1) := by decide +kernel
theorem dX8_finished_0 : decode cX8_finished 0 = .ok (.iload_n 1, 1) := by decide +kernel
theorem dX8_finished_1 : decode cX8_finished 1 = .ok (.ifCond .lt 16, 3) := by decide +kernel
theorem dX8_finished_4 : decode cX8_finished 4 = .ok (.aload_n 0, 1) := by decide +kernel
theorem dX8_finished_5 : decode cX8_finished 5 = .ok (.getfield 29, 3) := by decide +kernel
theorem dX8_finished_8 : decode cX8_finished 8 = .ok (.aload_n 0, 1) := by decide +kernel
theorem dX8_finished_9 : decode cX8_finished 9 = .ok (.getfield 16, 3) := by decide +kernel
theorem dX8_finished_12 : decode cX8_finished 12 = .ok (.invokevirtual 321, 3) := by decide +kernel
theorem dX8_finished_15 : decode cX8_finished 15 = .ok (.iload_n 1, 1) := by decide +kernel
theorem dX8_finished_16 : decode cX8_finished 16 = .ok (.ireturn, 1) := by decide +kernel
theorem dX8_finished_17 : decode cX8_finished 17 = .ok (.aload_n 0, 1) := by decide +kernel
theorem dX8_finished_18 : decode cX8_finished 18 = .ok (.getfield 10, 3) := by decide +kernel
theorem dX8_finished_21 : decode cX8_finished 21 = .ok (.aload_n 0, 1) := by decide +kernel
theorem dX8_finished_22 : decode cX8_finished 22 = .ok (.getfield 16, 3) := by decide +kernel
theorem dX8_finished_25 : decode cX8_finished 25 = .ok (.invokevirtual 74, 3) := by decide +kernel
theorem dX8_finished_28 : decode cX8_finished 28 = .ok (.iload_n 1, 1) := by decide +kernel
theorem dX8_finished_29 : decode cX8_finished 29 = .ok (.iconst (-1), 1) := by decide +kernel
theorem dX8_finished_30 : decode cX8_finished 30 = .ok (.if_icmp .ne 14, 3) := by decide +kernel
theorem dX8_finished_33 : decode cX8_finished 33 = .ok (.new 221, 3) := by decide +kernel
theorem dX8_finished_36 : decode cX8_finished 36 = .ok (.dup, 1) := by decide +kernel
theorem dX8_finished_37 : decode cX8_finished 37 = .ok (.ldc_w 324, 3) := by decide +kernel
theorem dX8_finished_40 : decode cX8_finished 40 = .ok (.invokespecial 223, 3) := by decide +kernel
theorem dX8_finished_43 : decode cX8_finished 43 = .ok (.athrow, 1) := by decide +kernel
theorem dX8_finished_44 : decode cX8_finished 44 = .ok (.iload_n 1, 1) := by decide +kernel
theorem dX8_finished_45 : decode cX8_finished 45 = .ok (.bipush (-2), 2) := by decide +kernel
theorem dX8_finished_47 : decode cX8_finished 47 = .ok (.if_icmp .ne 14, 3) := by decide +kernel
theorem dX8_finished_50 : decode cX8_finished 50 = .ok (.new 131, 3) := by decide +kernel
theorem dX8_finished_53 : decode cX8_finished 53 = .ok (.dup, 1) := by decide +kernel
theorem dX8_finished_54 : decode cX8_finished 54 = .ok (.ldc_w 326, 3) := by decide +kernel
theorem dX8_finished_57 : decode cX8_finished 57 = .ok (.invokespecial 135, 3) := by decide +kernel
theorem dX8_finished_60 : decode cX8_finished 60 = .ok (.athrow, 1) := by decide +kernel
theorem dX8_finished_61 : decode cX8_finished 61 = .ok (.new 328, 3) := by decide +kernel
theorem dX8_finished_64 : decode cX8_finished 64 = .ok (.dup, 1) := by decide +kernel
theorem dX8_finished_65 : decode cX8_finished 65 = .ok (.ldc_w 330, 3) := by decide +kernel
theorem dX8_finished_68 : decode cX8_finished 68 = .ok (.invokespecial 332, 3) := by decide +kernel
theorem dX8_finished_71 : decode cX8_finished 71 = .ok (.athrow, 1) := by decide +kernel
theorem dX8_needBranch_0 : decode cX8_needBranch 0 = .ok (.aload_n 0, 1) := by decide +kernel
theorem dX8_needBranch_1 : decode cX8_needBranch 1 = .ok (.getfield 10, 3) := by decide +kernel
theorem dX8_needBranch_4 : decode cX8_needBranch 4 = .ok (.iload_n 1, 1) := by decide +kernel
theorem dX8_needBranch_5 : decode cX8_needBranch 5 = .ok (.invokevirtual 333, 3) := by decide +kernel
theorem dX8_needBranch_8 : decode cX8_needBranch 8 = .ok (.ifCond .ne 14, 3) := by decide +kernel
theorem dX8_needBranch_11 : decode cX8_needBranch 11 = .ok (.new 221, 3) := by decide +kernel
theorem dX8_needBranch_14 : decode cX8_needBranch 14 = .ok (.dup, 1) := by decide +kernel
theorem dX8_needBranch_15 : decode cX8_needBranch 15 = .ok (.ldc_w 336, 3) := by decide +kernel
theorem dX8_needBranch_18 : decode cX8_needBranch 18 = .ok (.invokespecial 223, 3) := by decide +kernel
theorem dX8_needBranch_21 : decode cX8_needBranch 21 = .ok (.athrow, 1) := by decide +kernel
theorem dX8_needBranch_22 : decode cX8_needBranch 22 = .ok (.return_, 1) := by decide +kernel
theorem dX8_needCommit_0 : decode cX8_needCommit 0 = .ok (.aload_n 0, 1) := by decide +kernel
theorem dX8_needCommit_1 : decode cX8_needCommit 1 = .ok (.getfield 10, 3) := by decide +kernel
theorem dX8_needCommit_4 : decode cX8_needCommit 4 = .ok (.iload_n 1, 1) := by decide +kernel
theorem dX8_needCommit_5 : decode cX8_needCommit 5 = .ok (.invokevirtual 338, 3) := by decide +kernel
theorem dX8_needCommit_8 : decode cX8_needCommit 8 = .ok (.ifCond .ne 14, 3) := by decide +kernel
theorem dX8_needCommit_11 : decode cX8_needCommit 11 = .ok (.new 221, 3) := by decide +kernel
theorem dX8_needCommit_14 : decode cX8_needCommit 14 = .ok (.dup, 1) := by decide +kernel
theorem dX8_needCommit_15 : decode cX8_needCommit 15 = .ok (.ldc_w 341, 3) := by decide +kernel
theorem dX8_needCommit_18 : decode cX8_needCommit 18 = .ok (.invokespecial 223, 3) := by decide +kernel
theorem dX8_needCommit_21 : decode cX8_needCommit 21 = .ok (.athrow, 1) := by decide +kernel
theorem dX8_needCommit_22 : decode cX8_needCommit 22 = .ok (.return_, 1) := by decide +kernel
theorem dX8_needIngredient_0 : decode cX8_needIngredient 0 = .ok (.iload_n 1, 1) := by decide +kernel
theorem dX8_needIngredient_1 : decode cX8_needIngredient 1 = .ok (.invokestatic 343, 3) := by decide +kernel
theorem dX8_needIngredient_4 : decode cX8_needIngredient 4 = .ok (.ifCond .ne 14, 3) := by decide +kernel
theorem dX8_needIngredient_7 : decode cX8_needIngredient 7 = .ok (.new 221, 3) := by decide +kernel
theorem dX8_needIngredient_10 : decode cX8_needIngredient 10 = .ok (.dup, 1) := by decide +kernel
theorem dX8_needIngredient_11 : decode cX8_needIngredient 11 = .ok (.ldc_w 346, 3) := by decide +kernel
theorem dX8_needIngredient_14 : decode cX8_needIngredient 14 = .ok (.invokespecial 223, 3) := by decide +kernel
theorem dX8_needIngredient_17 : decode cX8_needIngredient 17 = .ok (.athrow, 1) := by decide +kernel
theorem dX8_needIngredient_18 : decode cX8_needIngredient 18 = .ok (.return_, 1) := by decide +kernel
theorem dX8_needAmount_0 : decode cX8_needAmount 0 = .ok (.iload_n 1, 1) := by decide +kernel
theorem dX8_needAmount_1 : decode cX8_needAmount 1 = .ok (.invokestatic 348, 3) := by decide +kernel
theorem dX8_needAmount_4 : decode cX8_needAmount 4 = .ok (.ifCond .ne 14, 3) := by decide +kernel
theorem dX8_needAmount_7 : decode cX8_needAmount 7 = .ok (.new 131, 3) := by decide +kernel
theorem dX8_needAmount_10 : decode cX8_needAmount 10 = .ok (.dup, 1) := by decide +kernel
theorem dX8_needAmount_11 : decode cX8_needAmount 11 = .ok (.ldc_w 351, 3) := by decide +kernel
theorem dX8_needAmount_14 : decode cX8_needAmount 14 = .ok (.invokespecial 135, 3) := by decide +kernel
theorem dX8_needAmount_17 : decode cX8_needAmount 17 = .ok (.athrow, 1) := by decide +kernel
theorem dX8_needAmount_18 : decode cX8_needAmount 18 = .ok (.return_, 1) := by decide +kernel
theorem dX8_isIngredient_0 : decode cX8_isIngredient 0 = .ok (.iload_n 0, 1) := by decide +kernel
theorem dX8_isIngredient_1 : decode cX8_isIngredient 1 = .ok (.ifCond .lt 13, 3) := by decide +kernel
theorem dX8_isIngredient_4 : decode cX8_isIngredient 4 = .ok (.iload_n 0, 1) := by decide +kernel
theorem dX8_isIngredient_5 : decode cX8_isIngredient 5 = .ok (.bipush 6, 2) := by decide +kernel
theorem dX8_isIngredient_7 : decode cX8_isIngredient 7 = .ok (.if_icmp .ge 7, 3) := by decide +kernel
theorem dX8_isIngredient_10 : decode cX8_isIngredient 10 = .ok (.iconst 1, 1) := by decide +kernel
theorem dX8_isIngredient_11 : decode cX8_isIngredient 11 = .ok (.goto 4, 3) := by decide +kernel
theorem dX8_isIngredient_14 : decode cX8_isIngredient 14 = .ok (.iconst 0, 1) := by decide +kernel
theorem dX8_isIngredient_15 : decode cX8_isIngredient 15 = .ok (.ireturn, 1) := by decide +kernel
theorem dX8_isAmount_0 : decode cX8_isAmount 0 = .ok (.iload_n 0, 1) := by decide +kernel
theorem dX8_isAmount_1 : decode cX8_isAmount 1 = .ok (.ifCond .lt 13, 3) := by decide +kernel
theorem dX8_isAmount_4 : decode cX8_isAmount 4 = .ok (.iload_n 0, 1) := by decide +kernel
theorem dX8_isAmount_5 : decode cX8_isAmount 5 = .ok (.bipush 99, 2) := by decide +kernel
theorem dX8_isAmount_7 : decode cX8_isAmount 7 = .ok (.if_icmp .gt 7, 3) := by decide +kernel
theorem dX8_isAmount_10 : decode cX8_isAmount 10 = .ok (.iconst 1, 1) := by decide +kernel
theorem dX8_isAmount_11 : decode cX8_isAmount 11 = .ok (.goto 4, 3) := by decide +kernel
theorem dX8_isAmount_14 : decode cX8_isAmount 14 = .ok (.iconst 0, 1) := by decide +kernel
theorem dX8_isAmount_15 : decode cX8_isAmount 15 = .ok (.ireturn, 1) := by decide +kernel
theorem dX8_isRule_0 : decode cX8_isRule 0 = .ok (.iload_n 0, 1) := by decide +kernel
theorem dX8_isRule_1 : decode cX8_isRule 1 = .ok (.ifCond .lt 12, 3) := by decide +kernel
theorem dX8_isRule_4 : decode cX8_isRule 4 = .ok (.iload_n 0, 1) := by decide +kernel
theorem dX8_isRule_5 : decode cX8_isRule 5 = .ok (.iconst 3, 1) := by decide +kernel
theorem dX8_isRule_6 : decode cX8_isRule 6 = .ok (.if_icmp .gt 7, 3) := by decide +kernel
theorem dX8_isRule_9 : decode cX8_isRule 9 = .ok (.iconst 1, 1) := by decide +kernel
theorem dX8_isRule_10 : decode cX8_isRule 10 = .ok (.goto 4, 3) := by decide +kernel
theorem dX8_isRule_13 : decode cX8_isRule 13 = .ok (.iconst 0, 1) := by decide +kernel
theorem dX8_isRule_14 : decode cX8_isRule 14 = .ok (.ireturn, 1) := by decide +kernel
theorem dX8_isPlace_0 : decode cX8_isPlace 0 = .ok (.iload_n 0, 1) := by decide +kernel
theorem dX8_isPlace_1 : decode cX8_isPlace 1 = .ok (.ifCond .lt 12, 3) := by decide +kernel
theorem dX8_isPlace_4 : decode cX8_isPlace 4 = .ok (.iload_n 0, 1) := by decide +kernel
theorem dX8_isPlace_5 : decode cX8_isPlace 5 = .ok (.iconst 4, 1) := by decide +kernel
theorem dX8_isPlace_6 : decode cX8_isPlace 6 = .ok (.if_icmp .ge 7, 3) := by decide +kernel
theorem dX8_isPlace_9 : decode cX8_isPlace 9 = .ok (.iconst 1, 1) := by decide +kernel
theorem dX8_isPlace_10 : decode cX8_isPlace 10 = .ok (.goto 4, 3) := by decide +kernel
theorem dX8_isPlace_13 : decode cX8_isPlace 13 = .ok (.iconst 0, 1) := by decide +kernel
theorem dX8_isPlace_14 : decode cX8_isPlace 14 = .ok (.ireturn, 1) := by decide +kernel
theorem dX8_isInSet_0 : decode cX8_isInSet 0 = .ok (.iload_n 1, 1) := by decide +kernel
theorem dX8_isInSet_1 : decode cX8_isInSet 1 = .ok (.ifCond .lt 22, 3) := by decide +kernel
theorem dX8_isInSet_4 : decode cX8_isInSet 4 = .ok (.iload_n 1, 1) := by decide +kernel
theorem dX8_isInSet_5 : decode cX8_isInSet 5 = .ok (.bipush 24, 2) := by decide +kernel
theorem dX8_isInSet_7 : decode cX8_isInSet 7 = .ok (.if_icmp .ge 16, 3) := by decide +kernel
theorem dX8_isInSet_10 : decode cX8_isInSet 10 = .ok (.iload_n 0, 1) := by decide +kernel
theorem dX8_isInSet_11 : decode cX8_isInSet 11 = .ok (.iload_n 1, 1) := by decide +kernel
theorem dX8_isInSet_12 : decode cX8_isInSet 12 = .ok (.ishr, 1) := by decide +kernel
theorem dX8_isInSet_13 : decode cX8_isInSet 13 = .ok (.iconst 1, 1) := by decide +kernel
theorem dX8_isInSet_14 : decode cX8_isInSet 14 = .ok (.iand, 1) := by decide +kernel
theorem dX8_isInSet_15 : decode cX8_isInSet 15 = .ok (.iconst 1, 1) := by decide +kernel
theorem dX8_isInSet_16 : decode cX8_isInSet 16 = .ok (.if_icmp .ne 7, 3) := by decide +kernel
theorem dX8_isInSet_19 : decode cX8_isInSet 19 = .ok (.iconst 1, 1) := by decide +kernel
theorem dX8_isInSet_20 : decode cX8_isInSet 20 = .ok (.goto 4, 3) := by decide +kernel
theorem dX8_isInSet_23 : decode cX8_isInSet 23 = .ok (.iconst 0, 1) := by decide +kernel
theorem dX8_isInSet_24 : decode cX8_isInSet 24 = .ok (.ireturn, 1) := by decide +kernel
theorem dX8_setOf_0 : decode cX8_setOf 0 = .ok (.iload_n 0, 1) := by decide +kernel
theorem dX8_setOf_1 : decode cX8_setOf 1 = .ok (.ifCond .lt 15, 3) := by decide +kernel
theorem dX8_setOf_4 : decode cX8_setOf 4 = .ok (.iload_n 0, 1) := by decide +kernel
theorem dX8_setOf_5 : decode cX8_setOf 5 = .ok (.bipush 24, 2) := by decide +kernel
theorem dX8_setOf_7 : decode cX8_setOf 7 = .ok (.if_icmp .ge 9, 3) := by decide +kernel
theorem dX8_setOf_10 : decode cX8_setOf 10 = .ok (.iconst 1, 1) := by decide +kernel
theorem dX8_setOf_11 : decode cX8_setOf 11 = .ok (.iload_n 0, 1) := by decide +kernel
theorem dX8_setOf_12 : decode cX8_setOf 12 = .ok (.ishl, 1) := by decide +kernel
theorem dX8_setOf_13 : decode cX8_setOf 13 = .ok (.goto 4, 3) := by decide +kernel
theorem dX8_setOf_16 : decode cX8_setOf 16 = .ok (.iconst 0, 1) := by decide +kernel
theorem dX8_setOf_17 : decode cX8_setOf 17 = .ok (.ireturn, 1) := by decide +kernel
theorem dX8_bitsOf_0 : decode cX8_bitsOf 0 = .ok (.fload_n 0, 1) := by decide +kernel
theorem dX8_bitsOf_1 : decode cX8_bitsOf 1 = .ok (.fconst 0, 1) := by decide +kernel
theorem dX8_bitsOf_2 : decode cX8_bitsOf 2 = .ok (.fcmp .l, 1) := by decide +kernel
theorem dX8_bitsOf_3 : decode cX8_bitsOf 3 = .ok (.ifCond .gt 5, 3) := by decide +kernel
theorem dX8_bitsOf_6 : decode cX8_bitsOf 6 = .ok (.iconst 0, 1) := by decide +kernel
theorem dX8_bitsOf_7 : decode cX8_bitsOf 7 = .ok (.ireturn, 1) := by decide +kernel
theorem dX8_bitsOf_8 : decode cX8_bitsOf 8 = .ok (.fload_n 0, 1) := by decide +kernel
theorem dX8_bitsOf_9 : decode cX8_bitsOf 9 = .ok (.fstore_n 1, 1) := by decide +kernel
theorem dX8_bitsOf_10 : decode cX8_bitsOf 10 = .ok (.bipush 127, 2) := by decide +kernel
theorem dX8_bitsOf_12 : decode cX8_bitsOf 12 = .ok (.istore_n 2, 1) := by decide +kernel
theorem dX8_bitsOf_13 : decode cX8_bitsOf 13 = .ok (.iconst 0, 1) := by decide +kernel
theorem dX8_bitsOf_14 : decode cX8_bitsOf 14 = .ok (.istore_n 3, 1) := by decide +kernel
theorem dX8_bitsOf_15 : decode cX8_bitsOf 15 = .ok (.iload_n 3, 1) := by decide +kernel
theorem dX8_bitsOf_16 : decode cX8_bitsOf 16 = .ok (.bipush 126, 2) := by decide +kernel
theorem dX8_bitsOf_18 : decode cX8_bitsOf 18 = .ok (.if_icmp .ge 22, 3) := by decide +kernel
theorem dX8_bitsOf_21 : decode cX8_bitsOf 21 = .ok (.fload_n 1, 1) := by decide +kernel
theorem dX8_bitsOf_22 : decode cX8_bitsOf 22 = .ok (.fconst 1, 1) := by decide +kernel
theorem dX8_bitsOf_23 : decode cX8_bitsOf 23 = .ok (.fcmp .g, 1) := by decide +kernel
theorem dX8_bitsOf_24 : decode cX8_bitsOf 24 = .ok (.ifCond .ge 16, 3) := by decide +kernel
theorem dX8_bitsOf_27 : decode cX8_bitsOf 27 = .ok (.fload_n 1, 1) := by decide +kernel
theorem dX8_bitsOf_28 : decode cX8_bitsOf 28 = .ok (.fconst 2, 1) := by decide +kernel
theorem dX8_bitsOf_29 : decode cX8_bitsOf 29 = .ok (.fmul, 1) := by decide +kernel
theorem dX8_bitsOf_30 : decode cX8_bitsOf 30 = .ok (.fstore_n 1, 1) := by decide +kernel
theorem dX8_bitsOf_31 : decode cX8_bitsOf 31 = .ok (.iinc 2 (-1), 3) := by decide +kernel
theorem dX8_bitsOf_34 : decode cX8_bitsOf 34 = .ok (.iinc 3 1, 3) := by decide +kernel
theorem dX8_bitsOf_37 : decode cX8_bitsOf 37 = .ok (.goto (-22), 3) := by decide +kernel
theorem dX8_bitsOf_40 : decode cX8_bitsOf 40 = .ok (.fload_n 1, 1) := by decide +kernel
theorem dX8_bitsOf_41 : decode cX8_bitsOf 41 = .ok (.fconst 1, 1) := by decide +kernel
theorem dX8_bitsOf_42 : decode cX8_bitsOf 42 = .ok (.fsub, 1) := by decide +kernel
theorem dX8_bitsOf_43 : decode cX8_bitsOf 43 = .ok (.ldc_w 353, 3) := by decide +kernel
theorem dX8_bitsOf_46 : decode cX8_bitsOf 46 = .ok (.fmul, 1) := by decide +kernel
theorem dX8_bitsOf_47 : decode cX8_bitsOf 47 = .ok (.f2i, 1) := by decide +kernel
theorem dX8_bitsOf_48 : decode cX8_bitsOf 48 = .ok (.istore_n 3, 1) := by decide +kernel
theorem dX8_bitsOf_49 : decode cX8_bitsOf 49 = .ok (.iload_n 2, 1) := by decide +kernel
theorem dX8_bitsOf_50 : decode cX8_bitsOf 50 = .ok (.bipush 23, 2) := by decide +kernel
theorem dX8_bitsOf_52 : decode cX8_bitsOf 52 = .ok (.ishl, 1) := by decide +kernel
theorem dX8_bitsOf_53 : decode cX8_bitsOf 53 = .ok (.iload_n 3, 1) := by decide +kernel
theorem dX8_bitsOf_54 : decode cX8_bitsOf 54 = .ok (.ior, 1) := by decide +kernel
theorem dX8_bitsOf_55 : decode cX8_bitsOf 55 = .ok (.ireturn, 1) := by decide +kernel
theorem dL_at_0 : decode cL_at 0 = .ok (.iload_n 1, 1) := by decide +kernel
theorem dL_at_1 : decode cL_at 1 = .ok (.aload_n 0, 1) := by decide +kernel
theorem dL_at_2 : decode cL_at 2 = .ok (.arraylength, 1) := by decide +kernel
theorem dL_at_3 : decode cL_at 3 = .ok (.if_icmp .ge 9, 3) := by decide +kernel
theorem dL_at_6 : decode cL_at 6 = .ok (.aload_n 0, 1) := by decide +kernel
theorem dL_at_7 : decode cL_at 7 = .ok (.iload_n 1, 1) := by decide +kernel
theorem dL_at_8 : decode cL_at 8 = .ok (.iaload, 1) := by decide +kernel
theorem dL_at_9 : decode cL_at 9 = .ok (.goto 4, 3) := by decide +kernel
theorem dL_at_12 : decode cL_at 12 = .ok (.iconst 0, 1) := by decide +kernel
theorem dL_at_13 : decode cL_at 13 = .ok (.ireturn, 1) := by decide +kernel
theorem dL_some_0 : decode cL_some 0 = .ok (.iload_n 0, 1) := by decide +kernel
theorem dL_some_1 : decode cL_some 1 = .ok (.iload_n 1, 1) := by decide +kernel
theorem dL_some_2 : decode cL_some 2 = .ok (.irem, 1) := by decide +kernel
theorem dL_some_3 : decode cL_some 3 = .ok (.istore_n 2, 1) := by decide +kernel
theorem dL_some_4 : decode cL_some 4 = .ok (.iload_n 2, 1) := by decide +kernel
theorem dL_some_5 : decode cL_some 5 = .ok (.ifCond .ge 9, 3) := by decide +kernel
theorem dL_some_8 : decode cL_some 8 = .ok (.iload_n 2, 1) := by decide +kernel
theorem dL_some_9 : decode cL_some 9 = .ok (.iload_n 1, 1) := by decide +kernel
theorem dL_some_10 : decode cL_some 10 = .ok (.iadd, 1) := by decide +kernel
theorem dL_some_11 : decode cL_some 11 = .ok (.goto 4, 3) := by decide +kernel
theorem dL_some_14 : decode cL_some 14 = .ok (.iload_n 2, 1) := by decide +kernel
theorem dL_some_15 : decode cL_some 15 = .ok (.ireturn, 1) := by decide +kernel
theorem dL_edit_0 : decode cL_edit 0 = .ok (.aload_n 0, 1) := by decide +kernel
theorem dL_edit_1 : decode cL_edit 1 = .ok (.iload_n 1, 1) := by decide +kernel
theorem dL_edit_2 : decode cL_edit 2 = .ok (.iload_n 2, 1) := by decide +kernel
theorem dL_edit_3 : decode cL_edit 3 = .ok (.iload_n 3, 1) := by decide +kernel
theorem dL_edit_4 : decode cL_edit 4 = .ok (.invokevirtual 7, 3) := by decide +kernel
theorem dL_edit_7 : decode cL_edit 7 = .ok (.ireturn, 1) := by decide +kernel
theorem dL_edit_8 : decode cL_edit 8 = .ok (.astore 4, 2) := by decide +kernel
theorem dL_edit_10 : decode cL_edit 10 = .ok (.sipush (-1001), 3) := by decide +kernel
theorem dL_edit_13 : decode cL_edit 13 = .ok (.ireturn, 1) := by decide +kernel
theorem dL_edit_14 : decode cL_edit 14 = .ok (.astore 4, 2) := by decide +kernel
theorem dL_edit_16 : decode cL_edit 16 = .ok (.sipush (-1002), 3) := by decide +kernel
theorem dL_edit_19 : decode cL_edit 19 = .ok (.ireturn, 1) := by decide +kernel
theorem dL_edit_20 : decode cL_edit 20 = .ok (.astore 4, 2) := by decide +kernel
theorem dL_edit_22 : decode cL_edit 22 = .ok (.sipush (-1003), 3) := by decide +kernel
theorem dL_edit_25 : decode cL_edit 25 = .ok (.ireturn, 1) := by decide +kernel
theorem dL_fork_0 : decode cL_fork 0 = .ok (.aload_n 0, 1) := by decide +kernel
theorem dL_fork_1 : decode cL_fork 1 = .ok (.iload_n 1, 1) := by decide +kernel
theorem dL_fork_2 : decode cL_fork 2 = .ok (.invokevirtual 19, 3) := by decide +kernel
theorem dL_fork_5 : decode cL_fork 5 = .ok (.ireturn, 1) := by decide +kernel
theorem dL_fork_6 : decode cL_fork 6 = .ok (.astore_n 2, 1) := by decide +kernel
theorem dL_fork_7 : decode cL_fork 7 = .ok (.sipush (-1001), 3) := by decide +kernel
theorem dL_fork_10 : decode cL_fork 10 = .ok (.ireturn, 1) := by decide +kernel
theorem dL_fork_11 : decode cL_fork 11 = .ok (.astore_n 2, 1) := by decide +kernel
theorem dL_fork_12 : decode cL_fork 12 = .ok (.sipush (-1002), 3) := by decide +kernel
theorem dL_fork_15 : decode cL_fork 15 = .ok (.ireturn, 1) := by decide +kernel
theorem dL_reset_0 : decode cL_reset 0 = .ok (.aload_n 0, 1) := by decide +kernel
theorem dL_reset_1 : decode cL_reset 1 = .ok (.iload_n 1, 1) := by decide +kernel
theorem dL_reset_2 : decode cL_reset 2 = .ok (.iload_n 2, 1) := by decide +kernel
theorem dL_reset_3 : decode cL_reset 3 = .ok (.invokevirtual 23, 3) := by decide +kernel
theorem dL_reset_6 : decode cL_reset 6 = .ok (.ireturn, 1) := by decide +kernel
theorem dL_reset_7 : decode cL_reset 7 = .ok (.astore_n 3, 1) := by decide +kernel
theorem dL_reset_8 : decode cL_reset 8 = .ok (.sipush (-1001), 3) := by decide +kernel
theorem dL_reset_11 : decode cL_reset 11 = .ok (.ireturn, 1) := by decide +kernel
theorem dL_reset_12 : decode cL_reset 12 = .ok (.astore_n 3, 1) := by decide +kernel
theorem dL_reset_13 : decode cL_reset 13 = .ok (.sipush (-1002), 3) := by decide +kernel
theorem dL_reset_16 : decode cL_reset 16 = .ok (.ireturn, 1) := by decide +kernel
theorem dL_tip_0 : decode cL_tip 0 = .ok (.aload_n 0, 1) := by decide +kernel
theorem dL_tip_1 : decode cL_tip 1 = .ok (.iload_n 1, 1) := by decide +kernel
theorem dL_tip_2 : decode cL_tip 2 = .ok (.invokevirtual 27, 3) := by decide +kernel
theorem dL_tip_5 : decode cL_tip 5 = .ok (.ireturn, 1) := by decide +kernel
theorem dL_tip_6 : decode cL_tip 6 = .ok (.astore_n 2, 1) := by decide +kernel
theorem dL_tip_7 : decode cL_tip 7 = .ok (.sipush (-1001), 3) := by decide +kernel
theorem dL_tip_10 : decode cL_tip 10 = .ok (.ireturn, 1) := by decide +kernel
theorem dL_amount_0 : decode cL_amount 0 = .ok (.aload_n 0, 1) := by decide +kernel
theorem dL_amount_1 : decode cL_amount 1 = .ok (.iload_n 1, 1) := by decide +kernel
theorem dL_amount_2 : decode cL_amount 2 = .ok (.iload_n 2, 1) := by decide +kernel
theorem dL_amount_3 : decode cL_amount 3 = .ok (.invokevirtual 30, 3) := by decide +kernel
theorem dL_amount_6 : decode cL_amount 6 = .ok (.ireturn, 1) := by decide +kernel
theorem dL_amount_7 : decode cL_amount 7 = .ok (.astore_n 3, 1) := by decide +kernel
theorem dL_amount_8 : decode cL_amount 8 = .ok (.sipush (-1001), 3) := by decide +kernel
theorem dL_amount_11 : decode cL_amount 11 = .ok (.ireturn, 1) := by decide +kernel
theorem dL_commitOf_0 : decode cL_commitOf 0 = .ok (.aload_n 0, 1) := by decide +kernel
theorem dL_commitOf_1 : decode cL_commitOf 1 = .ok (.iload_n 1, 1) := by decide +kernel
theorem dL_commitOf_2 : decode cL_commitOf 2 = .ok (.iload_n 2, 1) := by decide +kernel
theorem dL_commitOf_3 : decode cL_commitOf 3 = .ok (.invokevirtual 33, 3) := by decide +kernel
theorem dL_commitOf_6 : decode cL_commitOf 6 = .ok (.ireturn, 1) := by decide +kernel
theorem dL_commitOf_7 : decode cL_commitOf 7 = .ok (.astore_n 3, 1) := by decide +kernel
theorem dL_commitOf_8 : decode cL_commitOf 8 = .ok (.sipush (-1001), 3) := by decide +kernel
theorem dL_commitOf_11 : decode cL_commitOf 11 = .ok (.ireturn, 1) := by decide +kernel
theorem dL_commitOf_12 : decode cL_commitOf 12 = .ok (.astore_n 3, 1) := by decide +kernel
theorem dL_commitOf_13 : decode cL_commitOf 13 = .ok (.sipush (-1002), 3) := by decide +kernel
theorem dL_commitOf_16 : decode cL_commitOf 16 = .ok (.ireturn, 1) := by decide +kernel
theorem dL_merge_0 : decode cL_merge 0 = .ok (.aload_n 0, 1) := by decide +kernel
theorem dL_merge_1 : decode cL_merge 1 = .ok (.iload_n 1, 1) := by decide +kernel
theorem dL_merge_2 : decode cL_merge 2 = .ok (.iload_n 2, 1) := by decide +kernel
theorem dL_merge_3 : decode cL_merge 3 = .ok (.iload_n 3, 1) := by decide +kernel
theorem dL_merge_4 : decode cL_merge 4 = .ok (.invokevirtual 36, 3) := by decide +kernel
theorem dL_merge_7 : decode cL_merge 7 = .ok (.ireturn, 1) := by decide +kernel
theorem dL_merge_8 : decode cL_merge 8 = .ok (.astore 4, 2) := by decide +kernel
theorem dL_merge_10 : decode cL_merge 10 = .ok (.sipush (-1001), 3) := by decide +kernel
theorem dL_merge_13 : decode cL_merge 13 = .ok (.ireturn, 1) := by decide +kernel
theorem dL_merge_14 : decode cL_merge 14 = .ok (.astore 4, 2) := by decide +kernel
theorem dL_merge_16 : decode cL_merge 16 = .ok (.sipush (-1002), 3) := by decide +kernel
theorem dL_merge_19 : decode cL_merge 19 = .ok (.ireturn, 1) := by decide +kernel
theorem dL_merge_20 : decode cL_merge 20 = .ok (.astore 4, 2) := by decide +kernel
theorem dL_merge_22 : decode cL_merge 22 = .ok (.sipush (-1003), 3) := by decide +kernel
theorem dL_merge_25 : decode cL_merge 25 = .ok (.ireturn, 1) := by decide +kernel
theorem dL_pick_0 : decode cL_pick 0 = .ok (.aload_n 0, 1) := by decide +kernel
theorem dL_pick_1 : decode cL_pick 1 = .ok (.iload_n 1, 1) := by decide +kernel
theorem dL_pick_2 : decode cL_pick 2 = .ok (.iload_n 2, 1) := by decide +kernel
theorem dL_pick_3 : decode cL_pick 3 = .ok (.iload_n 3, 1) := by decide +kernel
theorem dL_pick_4 : decode cL_pick 4 = .ok (.invokevirtual 39, 3) := by decide +kernel
theorem dL_pick_7 : decode cL_pick 7 = .ok (.ireturn, 1) := by decide +kernel
theorem dL_pick_8 : decode cL_pick 8 = .ok (.astore 4, 2) := by decide +kernel
theorem dL_pick_10 : decode cL_pick 10 = .ok (.sipush (-1001), 3) := by decide +kernel
theorem dL_pick_13 : decode cL_pick 13 = .ok (.ireturn, 1) := by decide +kernel
theorem dL_pick_14 : decode cL_pick 14 = .ok (.astore 4, 2) := by decide +kernel
theorem dL_pick_16 : decode cL_pick 16 = .ok (.sipush (-1002), 3) := by decide +kernel
theorem dL_pick_19 : decode cL_pick 19 = .ok (.ireturn, 1) := by decide +kernel
theorem dL_pick_20 : decode cL_pick 20 = .ok (.astore 4, 2) := by decide +kernel
theorem dL_pick_22 : decode cL_pick 22 = .ok (.sipush (-1003), 3) := by decide +kernel
theorem dL_pick_25 : decode cL_pick 25 = .ok (.ireturn, 1) := by decide +kernel
theorem dL_revert_0 : decode cL_revert 0 = .ok (.aload_n 0, 1) := by decide +kernel
theorem dL_revert_1 : decode cL_revert 1 = .ok (.iload_n 1, 1) := by decide +kernel
theorem dL_revert_2 : decode cL_revert 2 = .ok (.iload_n 2, 1) := by decide +kernel
theorem dL_revert_3 : decode cL_revert 3 = .ok (.iload_n 3, 1) := by decide +kernel
theorem dL_revert_4 : decode cL_revert 4 = .ok (.invokevirtual 42, 3) := by decide +kernel
theorem dL_revert_7 : decode cL_revert 7 = .ok (.ireturn, 1) := by decide +kernel
theorem dL_revert_8 : decode cL_revert 8 = .ok (.astore 4, 2) := by decide +kernel
theorem dL_revert_10 : decode cL_revert 10 = .ok (.sipush (-1001), 3) := by decide +kernel
theorem dL_revert_13 : decode cL_revert 13 = .ok (.ireturn, 1) := by decide +kernel
theorem dL_revert_14 : decode cL_revert 14 = .ok (.astore 4, 2) := by decide +kernel
theorem dL_revert_16 : decode cL_revert 16 = .ok (.sipush (-1002), 3) := by decide +kernel
theorem dL_revert_19 : decode cL_revert 19 = .ok (.ireturn, 1) := by decide +kernel
theorem dL_revert_20 : decode cL_revert 20 = .ok (.astore 4, 2) := by decide +kernel
theorem dL_revert_22 : decode cL_revert 22 = .ok (.sipush (-1003), 3) := by decide +kernel
theorem dL_revert_25 : decode cL_revert 25 = .ok (.ireturn, 1) := by decide +kernel
theorem dL_conflicts_0 : decode cL_conflicts 0 = .ok (.aload_n 0, 1) := by decide +kernel
theorem dL_conflicts_1 : decode cL_conflicts 1 = .ok (.iload_n 1, 1) := by decide +kernel
theorem dL_conflicts_2 : decode cL_conflicts 2 = .ok (.iload_n 2, 1) := by decide +kernel
theorem dL_conflicts_3 : decode cL_conflicts 3 = .ok (.invokevirtual 45, 3) := by decide +kernel
theorem dL_conflicts_6 : decode cL_conflicts 6 = .ok (.ireturn, 1) := by decide +kernel
theorem dL_conflicts_7 : decode cL_conflicts 7 = .ok (.astore_n 3, 1) := by decide +kernel
theorem dL_conflicts_8 : decode cL_conflicts 8 = .ok (.sipush (-1001), 3) := by decide +kernel
theorem dL_conflicts_11 : decode cL_conflicts 11 = .ok (.ireturn, 1) := by decide +kernel
theorem dL_in_0 : decode cL_in 0 = .ok (.aload_n 0, 1) := by decide +kernel
theorem dL_in_1 : decode cL_in 1 = .ok (.iload_n 1, 1) := by decide +kernel
theorem dL_in_2 : decode cL_in 2 = .ok (.iload_n 2, 1) := by decide +kernel
theorem dL_in_3 : decode cL_in 3 = .ok (.invokevirtual 48, 3) := by decide +kernel
theorem dL_in_6 : decode cL_in 6 = .ok (.ifCond .eq 7, 3) := by decide +kernel
theorem dL_in_9 : decode cL_in 9 = .ok (.iconst 1, 1) := by decide +kernel
theorem dL_in_10 : decode cL_in 10 = .ok (.goto 4, 3) := by decide +kernel
theorem dL_in_13 : decode cL_in 13 = .ok (.iconst 0, 1) := by decide +kernel
theorem dL_in_14 : decode cL_in 14 = .ok (.ireturn, 1) := by decide +kernel
theorem dL_in_15 : decode cL_in 15 = .ok (.astore_n 3, 1) := by decide +kernel
theorem dL_in_16 : decode cL_in 16 = .ok (.sipush (-1001), 3) := by decide +kernel
theorem dL_in_19 : decode cL_in 19 = .ok (.ireturn, 1) := by decide +kernel
theorem dL_base_0 : decode cL_base 0 = .ok (.aload_n 0, 1) := by decide +kernel
theorem dL_base_1 : decode cL_base 1 = .ok (.iload_n 1, 1) := by decide +kernel
theorem dL_base_2 : decode cL_base 2 = .ok (.iload_n 2, 1) := by decide +kernel
theorem dL_base_3 : decode cL_base 3 = .ok (.invokevirtual 52, 3) := by decide +kernel
theorem dL_base_6 : decode cL_base 6 = .ok (.ireturn, 1) := by decide +kernel
theorem dL_base_7 : decode cL_base 7 = .ok (.astore_n 3, 1) := by decide +kernel
theorem dL_base_8 : decode cL_base 8 = .ok (.sipush (-1001), 3) := by decide +kernel
theorem dL_base_11 : decode cL_base 11 = .ok (.ireturn, 1) := by decide +kernel
theorem dL_baseAgain_0 : decode cL_baseAgain 0 = .ok (.aload_n 0, 1) := by decide +kernel
theorem dL_baseAgain_1 : decode cL_baseAgain 1 = .ok (.iload_n 1, 1) := by decide +kernel
theorem dL_baseAgain_2 : decode cL_baseAgain 2 = .ok (.iload_n 2, 1) := by decide +kernel
theorem dL_baseAgain_3 : decode cL_baseAgain 3 = .ok (.invokevirtual 55, 3) := by decide +kernel
theorem dL_baseAgain_6 : decode cL_baseAgain 6 = .ok (.ireturn, 1) := by decide +kernel
theorem dL_baseAgain_7 : decode cL_baseAgain 7 = .ok (.astore_n 3, 1) := by decide +kernel
theorem dL_baseAgain_8 : decode cL_baseAgain 8 = .ok (.sipush (-1001), 3) := by decide +kernel
theorem dL_baseAgain_11 : decode cL_baseAgain 11 = .ok (.ireturn, 1) := by decide +kernel
theorem dL_difference_0 : decode cL_difference 0 = .ok (.aload_n 0, 1) := by decide +kernel
theorem dL_difference_1 : decode cL_difference 1 = .ok (.iload_n 1, 1) := by decide +kernel
theorem dL_difference_2 : decode cL_difference 2 = .ok (.iload_n 2, 1) := by decide +kernel
theorem dL_difference_3 : decode cL_difference 3 = .ok (.invokevirtual 58, 3) := by decide +kernel
theorem dL_difference_6 : decode cL_difference 6 = .ok (.ireturn, 1) := by decide +kernel
theorem dL_difference_7 : decode cL_difference 7 = .ok (.astore_n 3, 1) := by decide +kernel
theorem dL_difference_8 : decode cL_difference 8 = .ok (.sipush (-1001), 3) := by decide +kernel
theorem dL_difference_11 : decode cL_difference 11 = .ok (.ireturn, 1) := by decide +kernel
theorem dL_onLine_0 : decode cL_onLine 0 = .ok (.aload_n 0, 1) := by decide +kernel
theorem dL_onLine_1 : decode cL_onLine 1 = .ok (.iload_n 1, 1) := by decide +kernel
theorem dL_onLine_2 : decode cL_onLine 2 = .ok (.iload_n 2, 1) := by decide +kernel
theorem dL_onLine_3 : decode cL_onLine 3 = .ok (.invokevirtual 61, 3) := by decide +kernel
theorem dL_onLine_6 : decode cL_onLine 6 = .ok (.ireturn, 1) := by decide +kernel
theorem dL_onLine_7 : decode cL_onLine 7 = .ok (.astore_n 3, 1) := by decide +kernel
theorem dL_onLine_8 : decode cL_onLine 8 = .ok (.sipush (-1001), 3) := by decide +kernel
theorem dL_onLine_11 : decode cL_onLine 11 = .ok (.ireturn, 1) := by decide +kernel
theorem dL_onLine_12 : decode cL_onLine 12 = .ok (.astore_n 3, 1) := by decide +kernel
theorem dL_onLine_13 : decode cL_onLine 13 = .ok (.sipush (-1002), 3) := by decide +kernel
theorem dL_onLine_16 : decode cL_onLine 16 = .ok (.ireturn, 1) := by decide +kernel
theorem dL_halve_0 : decode cL_halve 0 = .ok (.aload_n 0, 1) := by decide +kernel
theorem dL_halve_1 : decode cL_halve 1 = .ok (.iload_n 1, 1) := by decide +kernel
theorem dL_halve_2 : decode cL_halve 2 = .ok (.iload_n 2, 1) := by decide +kernel
theorem dL_halve_3 : decode cL_halve 3 = .ok (.iload_n 3, 1) := by decide +kernel
theorem dL_halve_4 : decode cL_halve 4 = .ok (.iload 4, 2) := by decide +kernel
theorem dL_halve_6 : decode cL_halve 6 = .ok (.invokevirtual 66, 3) := by decide +kernel
theorem dL_halve_9 : decode cL_halve 9 = .ok (.ireturn, 1) := by decide +kernel
theorem dL_halve_10 : decode cL_halve 10 = .ok (.astore 5, 2) := by decide +kernel
theorem dL_halve_12 : decode cL_halve 12 = .ok (.sipush (-1001), 3) := by decide +kernel
theorem dL_halve_15 : decode cL_halve 15 = .ok (.ireturn, 1) := by decide +kernel
theorem dL_halve_16 : decode cL_halve 16 = .ok (.astore 5, 2) := by decide +kernel
theorem dL_halve_18 : decode cL_halve 18 = .ok (.sipush (-1002), 3) := by decide +kernel
theorem dL_halve_21 : decode cL_halve 21 = .ok (.ireturn, 1) := by decide +kernel
theorem dL_halve_22 : decode cL_halve 22 = .ok (.astore 5, 2) := by decide +kernel
theorem dL_halve_24 : decode cL_halve 24 = .ok (.sipush (-1003), 3) := by decide +kernel
theorem dL_halve_27 : decode cL_halve 27 = .ok (.ireturn, 1) := by decide +kernel
theorem dL_firstBad_0 : decode cL_firstBad 0 = .ok (.aload_n 0, 1) := by decide +kernel
theorem dL_firstBad_1 : decode cL_firstBad 1 = .ok (.iload_n 1, 1) := by decide +kernel
theorem dL_firstBad_2 : decode cL_firstBad 2 = .ok (.iload_n 2, 1) := by decide +kernel
theorem dL_firstBad_3 : decode cL_firstBad 3 = .ok (.iload_n 3, 1) := by decide +kernel
theorem dL_firstBad_4 : decode cL_firstBad 4 = .ok (.invokevirtual 70, 3) := by decide +kernel
theorem dL_firstBad_7 : decode cL_firstBad 7 = .ok (.ireturn, 1) := by decide +kernel
theorem dL_firstBad_8 : decode cL_firstBad 8 = .ok (.astore 4, 2) := by decide +kernel
theorem dL_firstBad_10 : decode cL_firstBad 10 = .ok (.sipush (-1001), 3) := by decide +kernel
theorem dL_firstBad_13 : decode cL_firstBad 13 = .ok (.ireturn, 1) := by decide +kernel
theorem dL_firstBad_14 : decode cL_firstBad 14 = .ok (.astore 4, 2) := by decide +kernel
theorem dL_firstBad_16 : decode cL_firstBad 16 = .ok (.sipush (-1002), 3) := by decide +kernel
theorem dL_firstBad_19 : decode cL_firstBad 19 = .ok (.ireturn, 1) := by decide +kernel
theorem dL_firstBad_20 : decode cL_firstBad 20 = .ok (.astore 4, 2) := by decide +kernel
theorem dL_firstBad_22 : decode cL_firstBad 22 = .ok (.sipush (-1003), 3) := by decide +kernel
theorem dL_firstBad_25 : decode cL_firstBad 25 = .ok (.ireturn, 1) := by decide +kernel
theorem dL_blame_0 : decode cL_blame 0 = .ok (.aload_n 0, 1) := by decide +kernel
theorem dL_blame_1 : decode cL_blame 1 = .ok (.iload_n 1, 1) := by decide +kernel
theorem dL_blame_2 : decode cL_blame 2 = .ok (.iload_n 2, 1) := by decide +kernel
theorem dL_blame_3 : decode cL_blame 3 = .ok (.invokevirtual 73, 3) := by decide +kernel
theorem dL_blame_6 : decode cL_blame 6 = .ok (.ireturn, 1) := by decide +kernel
theorem dL_blame_7 : decode cL_blame 7 = .ok (.astore_n 3, 1) := by decide +kernel
theorem dL_blame_8 : decode cL_blame 8 = .ok (.sipush (-1001), 3) := by decide +kernel
theorem dL_blame_11 : decode cL_blame 11 = .ok (.ireturn, 1) := by decide +kernel
theorem dL_taste_0 : decode cL_taste 0 = .ok (.aload_n 0, 1) := by decide +kernel
theorem dL_taste_1 : decode cL_taste 1 = .ok (.iload_n 1, 1) := by decide +kernel
theorem dL_taste_2 : decode cL_taste 2 = .ok (.invokevirtual 76, 3) := by decide +kernel
theorem dL_taste_5 : decode cL_taste 5 = .ok (.freturn, 1) := by decide +kernel
theorem dL_taste_6 : decode cL_taste 6 = .ok (.astore_n 2, 1) := by decide +kernel
theorem dL_taste_7 : decode cL_taste 7 = .ok (.ldc 80, 2) := by decide +kernel
theorem dL_taste_9 : decode cL_taste 9 = .ok (.freturn, 1) := by decide +kernel
theorem dL_tasteBits_0 : decode cL_tasteBits 0 = .ok (.aload_n 0, 1) := by decide +kernel
theorem dL_tasteBits_1 : decode cL_tasteBits 1 = .ok (.iload_n 1, 1) := by decide +kernel
theorem dL_tasteBits_2 : decode cL_tasteBits 2 = .ok (.invokevirtual 81, 3) := by decide +kernel
theorem dL_tasteBits_5 : decode cL_tasteBits 5 = .ok (.ireturn, 1) := by decide +kernel
theorem dL_tasteBits_6 : decode cL_tasteBits 6 = .ok (.astore_n 2, 1) := by decide +kernel
theorem dL_tasteBits_7 : decode cL_tasteBits 7 = .ok (.sipush (-1001), 3) := by decide +kernel
theorem dL_tasteBits_10 : decode cL_tasteBits 10 = .ok (.ireturn, 1) := by decide +kernel
theorem dL_tastiest_0 : decode cL_tastiest 0 = .ok (.aload_n 0, 1) := by decide +kernel
theorem dL_tastiest_1 : decode cL_tastiest 1 = .ok (.iload_n 1, 1) := by decide +kernel
theorem dL_tastiest_2 : decode cL_tastiest 2 = .ok (.invokevirtual 84, 3) := by decide +kernel
theorem dL_tastiest_5 : decode cL_tastiest 5 = .ok (.ireturn, 1) := by decide +kernel
theorem dL_tastiest_6 : decode cL_tastiest 6 = .ok (.astore_n 2, 1) := by decide +kernel
theorem dL_tastiest_7 : decode cL_tastiest 7 = .ok (.sipush (-1001), 3) := by decide +kernel
theorem dL_tastiest_10 : decode cL_tastiest 10 = .ok (.ireturn, 1) := by decide +kernel
theorem dL_bundle_0 : decode cL_bundle 0 = .ok (.aload_n 0, 1) := by decide +kernel
theorem dL_bundle_1 : decode cL_bundle 1 = .ok (.iload_n 1, 1) := by decide +kernel
theorem dL_bundle_2 : decode cL_bundle 2 = .ok (.invokevirtual 87, 3) := by decide +kernel
theorem dL_bundle_5 : decode cL_bundle 5 = .ok (.ireturn, 1) := by decide +kernel
theorem dL_bundle_6 : decode cL_bundle 6 = .ok (.astore_n 2, 1) := by decide +kernel
theorem dL_bundle_7 : decode cL_bundle 7 = .ok (.sipush (-1001), 3) := by decide +kernel
theorem dL_bundle_10 : decode cL_bundle 10 = .ok (.ireturn, 1) := by decide +kernel
theorem dL_put_0 : decode cL_put 0 = .ok (.aload_n 0, 1) := by decide +kernel
theorem dL_put_1 : decode cL_put 1 = .ok (.iload_n 1, 1) := by decide +kernel
theorem dL_put_2 : decode cL_put 2 = .ok (.iload_n 2, 1) := by decide +kernel
theorem dL_put_3 : decode cL_put 3 = .ok (.invokevirtual 90, 3) := by decide +kernel
theorem dL_put_6 : decode cL_put 6 = .ok (.ireturn, 1) := by decide +kernel
theorem dL_put_7 : decode cL_put 7 = .ok (.astore_n 3, 1) := by decide +kernel
theorem dL_put_8 : decode cL_put 8 = .ok (.sipush (-1001), 3) := by decide +kernel
theorem dL_put_11 : decode cL_put 11 = .ok (.ireturn, 1) := by decide +kernel
theorem dL_put_12 : decode cL_put 12 = .ok (.astore_n 3, 1) := by decide +kernel
theorem dL_put_13 : decode cL_put 13 = .ok (.sipush (-1002), 3) := by decide +kernel
theorem dL_put_16 : decode cL_put 16 = .ok (.ireturn, 1) := by decide +kernel
theorem dL_inBundle_0 : decode cL_inBundle 0 = .ok (.aload_n 0, 1) := by decide +kernel
theorem dL_inBundle_1 : decode cL_inBundle 1 = .ok (.iload_n 1, 1) := by decide +kernel
theorem dL_inBundle_2 : decode cL_inBundle 2 = .ok (.invokevirtual 93, 3) := by decide +kernel
theorem dL_inBundle_5 : decode cL_inBundle 5 = .ok (.ireturn, 1) := by decide +kernel
theorem dL_inBundle_6 : decode cL_inBundle 6 = .ok (.astore_n 2, 1) := by decide +kernel
theorem dL_inBundle_7 : decode cL_inBundle 7 = .ok (.sipush (-1001), 3) := by decide +kernel
theorem dL_inBundle_10 : decode cL_inBundle 10 = .ok (.ireturn, 1) := by decide +kernel
theorem dL_inBundle_11 : decode cL_inBundle 11 = .ok (.astore_n 2, 1) := by decide +kernel
theorem dL_inBundle_12 : decode cL_inBundle 12 = .ok (.sipush (-1002), 3) := by decide +kernel
theorem dL_inBundle_15 : decode cL_inBundle 15 = .ok (.ireturn, 1) := by decide +kernel
theorem dL_play_0 : decode cL_play 0 = .ok (.aload_n 0, 1) := by decide +kernel
theorem dL_play_1 : decode cL_play 1 = .ok (.iload_n 1, 1) := by decide +kernel
theorem dL_play_2 : decode cL_play 2 = .ok (.iload_n 2, 1) := by decide +kernel
theorem dL_play_3 : decode cL_play 3 = .ok (.invokevirtual 96, 3) := by decide +kernel
theorem dL_play_6 : decode cL_play 6 = .ok (.ireturn, 1) := by decide +kernel
theorem dL_play_7 : decode cL_play 7 = .ok (.astore_n 3, 1) := by decide +kernel
theorem dL_play_8 : decode cL_play 8 = .ok (.sipush (-1001), 3) := by decide +kernel
theorem dL_play_11 : decode cL_play 11 = .ok (.ireturn, 1) := by decide +kernel
theorem dL_play_12 : decode cL_play 12 = .ok (.astore_n 3, 1) := by decide +kernel
theorem dL_play_13 : decode cL_play 13 = .ok (.sipush (-1002), 3) := by decide +kernel
theorem dL_play_16 : decode cL_play 16 = .ok (.ireturn, 1) := by decide +kernel
theorem dL_play_17 : decode cL_play 17 = .ok (.astore_n 3, 1) := by decide +kernel
theorem dL_play_18 : decode cL_play 18 = .ok (.sipush (-1003), 3) := by decide +kernel
theorem dL_play_21 : decode cL_play 21 = .ok (.ireturn, 1) := by decide +kernel
theorem dL_line_0 : decode cL_line 0 = .ok (.aload_n 0, 1) := by decide +kernel
theorem dL_line_1 : decode cL_line 1 = .ok (.iload_n 1, 1) := by decide +kernel
theorem dL_line_2 : decode cL_line 2 = .ok (.invokevirtual 99, 3) := by decide +kernel
theorem dL_line_5 : decode cL_line 5 = .ok (.ireturn, 1) := by decide +kernel
theorem dL_line_6 : decode cL_line 6 = .ok (.astore_n 2, 1) := by decide +kernel
theorem dL_line_7 : decode cL_line 7 = .ok (.sipush (-1001), 3) := by decide +kernel
theorem dL_line_10 : decode cL_line 10 = .ok (.ireturn, 1) := by decide +kernel
theorem dL_character_0 : decode cL_character 0 = .ok (.aload_n 0, 1) := by decide +kernel
theorem dL_character_1 : decode cL_character 1 = .ok (.iload_n 1, 1) := by decide +kernel
theorem dL_character_2 : decode cL_character 2 = .ok (.invokevirtual 102, 3) := by decide +kernel
theorem dL_character_5 : decode cL_character 5 = .ok (.ireturn, 1) := by decide +kernel
theorem dL_character_6 : decode cL_character 6 = .ok (.astore_n 2, 1) := by decide +kernel
theorem dL_character_7 : decode cL_character 7 = .ok (.sipush (-1001), 3) := by decide +kernel
theorem dL_character_10 : decode cL_character 10 = .ok (.ireturn, 1) := by decide +kernel
theorem dL_append_0 : decode cL_append 0 = .ok (.aload_n 0, 1) := by decide +kernel
theorem dL_append_1 : decode cL_append 1 = .ok (.iload_n 1, 1) := by decide +kernel
theorem dL_append_2 : decode cL_append 2 = .ok (.invokevirtual 106, 3) := by decide +kernel
theorem dL_append_5 : decode cL_append 5 = .ok (.ireturn, 1) := by decide +kernel
theorem dL_append_6 : decode cL_append 6 = .ok (.astore_n 2, 1) := by decide +kernel
theorem dL_append_7 : decode cL_append 7 = .ok (.sipush (-1001), 3) := by decide +kernel
theorem dL_append_10 : decode cL_append 10 = .ok (.ireturn, 1) := by decide +kernel
theorem dL_read_0 : decode cL_read 0 = .ok (.aload_n 0, 1) := by decide +kernel
theorem dL_read_1 : decode cL_read 1 = .ok (.invokevirtual 112, 3) := by decide +kernel
theorem dL_read_4 : decode cL_read 4 = .ok (.ireturn, 1) := by decide +kernel
theorem dL_read_5 : decode cL_read 5 = .ok (.astore_n 1, 1) := by decide +kernel
theorem dL_read_6 : decode cL_read 6 = .ok (.sipush (-1001), 3) := by decide +kernel
theorem dL_read_9 : decode cL_read 9 = .ok (.ireturn, 1) := by decide +kernel
theorem dL_read_10 : decode cL_read 10 = .ok (.astore_n 1, 1) := by decide +kernel
theorem dL_read_11 : decode cL_read 11 = .ok (.sipush (-1002), 3) := by decide +kernel
theorem dL_read_14 : decode cL_read 14 = .ok (.ireturn, 1) := by decide +kernel
theorem dL_refusal_0 : decode cL_refusal 0 = .ok (.aload_n 0, 1) := by decide +kernel
theorem dL_refusal_1 : decode cL_refusal 1 = .ok (.iload_n 1, 1) := by decide +kernel
theorem dL_refusal_2 : decode cL_refusal 2 = .ok (.invokevirtual 116, 3) := by decide +kernel
theorem dL_refusal_5 : decode cL_refusal 5 = .ok (.ireturn, 1) := by decide +kernel
theorem dL_refusal_6 : decode cL_refusal 6 = .ok (.astore_n 2, 1) := by decide +kernel
theorem dL_refusal_7 : decode cL_refusal 7 = .ok (.sipush (-1001), 3) := by decide +kernel
theorem dL_refusal_10 : decode cL_refusal 10 = .ok (.ireturn, 1) := by decide +kernel
theorem dL_account_0 : decode cL_account 0 = .ok (.aload_n 0, 1) := by decide +kernel
theorem dL_account_1 : decode cL_account 1 = .ok (.iload_n 1, 1) := by decide +kernel
theorem dL_account_2 : decode cL_account 2 = .ok (.invokevirtual 120, 3) := by decide +kernel
theorem dL_account_5 : decode cL_account 5 = .ok (.ireturn, 1) := by decide +kernel
theorem dL_account_6 : decode cL_account 6 = .ok (.astore_n 2, 1) := by decide +kernel
theorem dL_account_7 : decode cL_account 7 = .ok (.sipush (-1001), 3) := by decide +kernel
theorem dL_account_10 : decode cL_account 10 = .ok (.ireturn, 1) := by decide +kernel
theorem dL_undo_0 : decode cL_undo 0 = .ok (.aload_n 0, 1) := by decide +kernel
theorem dL_undo_1 : decode cL_undo 1 = .ok (.invokevirtual 123, 3) := by decide +kernel
theorem dL_undo_4 : decode cL_undo 4 = .ok (.ireturn, 1) := by decide +kernel
theorem dL_undo_5 : decode cL_undo 5 = .ok (.astore_n 1, 1) := by decide +kernel
theorem dL_undo_6 : decode cL_undo 6 = .ok (.sipush (-1001), 3) := by decide +kernel
theorem dL_undo_9 : decode cL_undo 9 = .ok (.ireturn, 1) := by decide +kernel
theorem dL_restore_0 : decode cL_restore 0 = .ok (.aload_n 0, 1) := by decide +kernel
theorem dL_restore_1 : decode cL_restore 1 = .ok (.invokevirtual 126, 3) := by decide +kernel
theorem dL_restore_4 : decode cL_restore 4 = .ok (.ireturn, 1) := by decide +kernel
theorem dL_restore_5 : decode cL_restore 5 = .ok (.astore_n 1, 1) := by decide +kernel
theorem dL_restore_6 : decode cL_restore 6 = .ok (.sipush (-1001), 3) := by decide +kernel
theorem dL_restore_9 : decode cL_restore 9 = .ok (.ireturn, 1) := by decide +kernel
theorem dL_reads_0 : decode cL_reads 0 = .ok (.iconst 0, 1) := by decide +kernel
theorem dL_reads_1 : decode cL_reads 1 = .ok (.istore_n 2, 1) := by decide +kernel
theorem dL_reads_2 : decode cL_reads 2 = .ok (.iload_n 2, 1) := by decide +kernel
theorem dL_reads_3 : decode cL_reads 3 = .ok (.aload_n 1, 1) := by decide +kernel
theorem dL_reads_4 : decode cL_reads 4 = .ok (.invokevirtual 129, 3) := by decide +kernel
theorem dL_reads_7 : decode cL_reads 7 = .ok (.if_icmp .ge 28, 3) := by decide +kernel
theorem dL_reads_10 : decode cL_reads 10 = .ok (.aload_n 0, 1) := by decide +kernel
theorem dL_reads_11 : decode cL_reads 11 = .ok (.aload_n 1, 1) := by decide +kernel
theorem dL_reads_12 : decode cL_reads 12 = .ok (.iload_n 2, 1) := by decide +kernel
theorem dL_reads_13 : decode cL_reads 13 = .ok (.invokevirtual 134, 3) := by decide +kernel
theorem dL_reads_16 : decode cL_reads 16 = .ok (.invokestatic 137, 3) := by decide +kernel
theorem dL_reads_19 : decode cL_reads 19 = .ok (.iload_n 2, 1) := by decide +kernel
theorem dL_reads_20 : decode cL_reads 20 = .ok (.iconst 1, 1) := by decide +kernel
theorem dL_reads_21 : decode cL_reads 21 = .ok (.iadd, 1) := by decide +kernel
theorem dL_reads_22 : decode cL_reads 22 = .ok (.if_icmp .eq 7, 3) := by decide +kernel
theorem dL_reads_25 : decode cL_reads 25 = .ok (.sipush (-9999), 3) := by decide +kernel
theorem dL_reads_28 : decode cL_reads 28 = .ok (.ireturn, 1) := by decide +kernel
theorem dL_reads_29 : decode cL_reads 29 = .ok (.iinc 2 1, 3) := by decide +kernel
theorem dL_reads_32 : decode cL_reads 32 = .ok (.goto (-30), 3) := by decide +kernel
theorem dL_reads_35 : decode cL_reads 35 = .ok (.aload_n 0, 1) := by decide +kernel
theorem dL_reads_36 : decode cL_reads 36 = .ok (.invokestatic 142, 3) := by decide +kernel
theorem dL_reads_39 : decode cL_reads 39 = .ok (.ireturn, 1) := by decide +kernel
theorem dL_is_0 : decode cL_is 0 = .ok (.aload_n 0, 1) := by decide +kernel
theorem dL_is_1 : decode cL_is 1 = .ok (.iconst 0, 1) := by decide +kernel
theorem dL_is_2 : decode cL_is 2 = .ok (.invokestatic 145, 3) := by decide +kernel
theorem dL_is_5 : decode cL_is 5 = .ok (.iload_n 1, 1) := by decide +kernel
theorem dL_is_6 : decode cL_is 6 = .ok (.if_icmp .ne 16, 3) := by decide +kernel
theorem dL_is_9 : decode cL_is 9 = .ok (.aload_n 0, 1) := by decide +kernel
theorem dL_is_10 : decode cL_is 10 = .ok (.iconst 1, 1) := by decide +kernel
theorem dL_is_11 : decode cL_is 11 = .ok (.invokestatic 145, 3) := by decide +kernel
theorem dL_is_14 : decode cL_is 14 = .ok (.iload_n 2, 1) := by decide +kernel
theorem dL_is_15 : decode cL_is 15 = .ok (.if_icmp .ne 7, 3) := by decide +kernel
theorem dL_is_18 : decode cL_is 18 = .ok (.iconst 1, 1) := by decide +kernel
theorem dL_is_19 : decode cL_is 19 = .ok (.goto 4, 3) := by decide +kernel
theorem dL_is_22 : decode cL_is 22 = .ok (.iconst 0, 1) := by decide +kernel
theorem dL_is_23 : decode cL_is 23 = .ok (.ireturn, 1) := by decide +kernel
theorem dL_makes_0 : decode cL_makes 0 = .ok (.iconst 0, 1) := by decide +kernel
theorem dL_makes_1 : decode cL_makes 1 = .ok (.istore_n 2, 1) := by decide +kernel
theorem dL_makes_2 : decode cL_makes 2 = .ok (.iload_n 2, 1) := by decide +kernel
theorem dL_makes_3 : decode cL_makes 3 = .ok (.iconst 3, 1) := by decide +kernel
theorem dL_makes_4 : decode cL_makes 4 = .ok (.if_icmp .ge 35, 3) := by decide +kernel
theorem dL_makes_7 : decode cL_makes 7 = .ok (.aload_n 0, 1) := by decide +kernel
theorem dL_makes_8 : decode cL_makes 8 = .ok (.iconst 0, 1) := by decide +kernel
theorem dL_makes_9 : decode cL_makes 9 = .ok (.iload_n 2, 1) := by decide +kernel
theorem dL_makes_10 : decode cL_makes 10 = .ok (.iconst 1, 1) := by decide +kernel
theorem dL_makes_11 : decode cL_makes 11 = .ok (.aload_n 1, 1) := by decide +kernel
theorem dL_makes_12 : decode cL_makes 12 = .ok (.iload_n 2, 1) := by decide +kernel
theorem dL_makes_13 : decode cL_makes 13 = .ok (.invokestatic 153, 3) := by decide +kernel
theorem dL_makes_16 : decode cL_makes 16 = .ok (.bipush 99, 2) := by decide +kernel
theorem dL_makes_18 : decode cL_makes 18 = .ok (.invokestatic 157, 3) := by decide +kernel
theorem dL_makes_21 : decode cL_makes 21 = .ok (.iadd, 1) := by decide +kernel
theorem dL_makes_22 : decode cL_makes 22 = .ok (.invokestatic 160, 3) := by decide +kernel
theorem dL_makes_25 : decode cL_makes 25 = .ok (.iload_n 2, 1) := by decide +kernel
theorem dL_makes_26 : decode cL_makes 26 = .ok (.iconst 1, 1) := by decide +kernel
theorem dL_makes_27 : decode cL_makes 27 = .ok (.iadd, 1) := by decide +kernel
theorem dL_makes_28 : decode cL_makes 28 = .ok (.if_icmp .eq 5, 3) := by decide +kernel
theorem dL_makes_31 : decode cL_makes 31 = .ok (.iconst 0, 1) := by decide +kernel
theorem dL_makes_32 : decode cL_makes 32 = .ok (.ireturn, 1) := by decide +kernel
theorem dL_makes_33 : decode cL_makes 33 = .ok (.iinc 2 1, 3) := by decide +kernel
theorem dL_makes_36 : decode cL_makes 36 = .ok (.goto (-34), 3) := by decide +kernel
theorem dL_makes_39 : decode cL_makes 39 = .ok (.aload_n 0, 1) := by decide +kernel
theorem dL_makes_40 : decode cL_makes 40 = .ok (.iconst 0, 1) := by decide +kernel
theorem dL_makes_41 : decode cL_makes 41 = .ok (.invokestatic 163, 3) := by decide +kernel
theorem dL_makes_44 : decode cL_makes 44 = .ok (.iconst 1, 1) := by decide +kernel
theorem dL_makes_45 : decode cL_makes 45 = .ok (.if_icmp .ne 12, 3) := by decide +kernel
theorem dL_makes_48 : decode cL_makes 48 = .ok (.aload_n 0, 1) := by decide +kernel
theorem dL_makes_49 : decode cL_makes 49 = .ok (.iconst 0, 1) := by decide +kernel
theorem dL_makes_50 : decode cL_makes 50 = .ok (.invokestatic 163, 3) := by decide +kernel
theorem dL_makes_53 : decode cL_makes 53 = .ok (.iconst 2, 1) := by decide +kernel
theorem dL_makes_54 : decode cL_makes 54 = .ok (.if_icmp .eq 5, 3) := by decide +kernel
theorem dL_makes_57 : decode cL_makes 57 = .ok (.iconst 0, 1) := by decide +kernel
theorem dL_makes_58 : decode cL_makes 58 = .ok (.ireturn, 1) := by decide +kernel
theorem dL_makes_59 : decode cL_makes 59 = .ok (.iconst 0, 1) := by decide +kernel
theorem dL_makes_60 : decode cL_makes 60 = .ok (.istore_n 2, 1) := by decide +kernel
theorem dL_makes_61 : decode cL_makes 61 = .ok (.iload_n 2, 1) := by decide +kernel
theorem dL_makes_62 : decode cL_makes 62 = .ok (.bipush 9, 2) := by decide +kernel
theorem dL_makes_64 : decode cL_makes 64 = .ok (.if_icmp .ge 74, 3) := by decide +kernel
theorem dL_makes_67 : decode cL_makes 67 = .ok (.aload_n 1, 1) := by decide +kernel
theorem dL_makes_68 : decode cL_makes 68 = .ok (.iconst 3, 1) := by decide +kernel
theorem dL_makes_69 : decode cL_makes 69 = .ok (.iload_n 2, 1) := by decide +kernel
theorem dL_makes_70 : decode cL_makes 70 = .ok (.iadd, 1) := by decide +kernel
theorem dL_makes_71 : decode cL_makes 71 = .ok (.invokestatic 153, 3) := by decide +kernel
theorem dL_makes_74 : decode cL_makes 74 = .ok (.iload_n 2, 1) := by decide +kernel
theorem dL_makes_75 : decode cL_makes 75 = .ok (.sipush 7919, 3) := by decide +kernel
theorem dL_makes_78 : decode cL_makes 78 = .ok (.imul, 1) := by decide +kernel
theorem dL_makes_79 : decode cL_makes 79 = .ok (.ixor, 1) := by decide +kernel
theorem dL_makes_80 : decode cL_makes 80 = .ok (.istore_n 3, 1) := by decide +kernel
theorem dL_makes_81 : decode cL_makes 81 = .ok (.aload_n 0, 1) := by decide +kernel
theorem dL_makes_82 : decode cL_makes 82 = .ok (.iload_n 3, 1) := by decide +kernel
theorem dL_makes_83 : decode cL_makes 83 = .ok (.iconst 3, 1) := by decide +kernel
theorem dL_makes_84 : decode cL_makes 84 = .ok (.invokestatic 157, 3) := by decide +kernel
theorem dL_makes_87 : decode cL_makes 87 = .ok (.iload_n 3, 1) := by decide +kernel
theorem dL_makes_88 : decode cL_makes 88 = .ok (.iconst 2, 1) := by decide +kernel
theorem dL_makes_89 : decode cL_makes 89 = .ok (.ishr, 1) := by decide +kernel
theorem dL_makes_90 : decode cL_makes 90 = .ok (.bipush 6, 2) := by decide +kernel
theorem dL_makes_92 : decode cL_makes 92 = .ok (.invokestatic 157, 3) := by decide +kernel
theorem dL_makes_95 : decode cL_makes 95 = .ok (.iload_n 3, 1) := by decide +kernel
theorem dL_makes_96 : decode cL_makes 96 = .ok (.iconst 5, 1) := by decide +kernel
theorem dL_makes_97 : decode cL_makes 97 = .ok (.ishr, 1) := by decide +kernel
theorem dL_makes_98 : decode cL_makes 98 = .ok (.bipush 100, 2) := by decide +kernel
theorem dL_makes_100 : decode cL_makes 100 = .ok (.invokestatic 157, 3) := by decide +kernel
theorem dL_makes_103 : decode cL_makes 103 = .ok (.invokestatic 160, 3) := by decide +kernel
theorem dL_makes_106 : decode cL_makes 106 = .ok (.istore 4, 2) := by decide +kernel
theorem dL_makes_108 : decode cL_makes 108 = .ok (.iload 4, 2) := by decide +kernel
theorem dL_makes_110 : decode cL_makes 110 = .ok (.ifCond .ge 22, 3) := by decide +kernel
theorem dL_makes_113 : decode cL_makes 113 = .ok (.iload 4, 2) := by decide +kernel
theorem dL_makes_115 : decode cL_makes 115 = .ok (.sipush (-1003), 3) := by decide +kernel
theorem dL_makes_118 : decode cL_makes 118 = .ok (.if_icmp .ne 12, 3) := by decide +kernel
theorem dL_makes_121 : decode cL_makes 121 = .ok (.aload_n 0, 1) := by decide +kernel
theorem dL_makes_122 : decode cL_makes 122 = .ok (.iconst 0, 1) := by decide +kernel
theorem dL_makes_123 : decode cL_makes 123 = .ok (.invokestatic 145, 3) := by decide +kernel
theorem dL_makes_126 : decode cL_makes 126 = .ok (.iconst 2, 1) := by decide +kernel
theorem dL_makes_127 : decode cL_makes 127 = .ok (.if_icmp .eq 5, 3) := by decide +kernel
theorem dL_makes_130 : decode cL_makes 130 = .ok (.iconst 0, 1) := by decide +kernel
theorem dL_makes_131 : decode cL_makes 131 = .ok (.ireturn, 1) := by decide +kernel
theorem dL_makes_132 : decode cL_makes 132 = .ok (.iinc 2 1, 3) := by decide +kernel
theorem dL_makes_135 : decode cL_makes 135 = .ok (.goto (-74), 3) := by decide +kernel
theorem dL_makes_138 : decode cL_makes 138 = .ok (.aload_n 0, 1) := by decide +kernel
theorem dL_makes_139 : decode cL_makes 139 = .ok (.iconst 0, 1) := by decide +kernel
theorem dL_makes_140 : decode cL_makes 140 = .ok (.iconst 1, 1) := by decide +kernel
theorem dL_makes_141 : decode cL_makes 141 = .ok (.aload_n 1, 1) := by decide +kernel
theorem dL_makes_142 : decode cL_makes 142 = .ok (.bipush 12, 2) := by decide +kernel
theorem dL_makes_144 : decode cL_makes 144 = .ok (.invokestatic 153, 3) := by decide +kernel
theorem dL_makes_147 : decode cL_makes 147 = .ok (.iconst 4, 1) := by decide +kernel
theorem dL_makes_148 : decode cL_makes 148 = .ok (.invokestatic 157, 3) := by decide +kernel
theorem dL_makes_151 : decode cL_makes 151 = .ok (.invokestatic 165, 3) := by decide +kernel
theorem dL_makes_154 : decode cL_makes 154 = .ok (.istore_n 2, 1) := by decide +kernel
theorem dL_makes_155 : decode cL_makes 155 = .ok (.iload_n 2, 1) := by decide +kernel
theorem dL_makes_156 : decode cL_makes 156 = .ok (.ifCond .ge 12, 3) := by decide +kernel
theorem dL_makes_159 : decode cL_makes 159 = .ok (.iload_n 2, 1) := by decide +kernel
theorem dL_makes_160 : decode cL_makes 160 = .ok (.sipush (-1003), 3) := by decide +kernel
theorem dL_makes_163 : decode cL_makes 163 = .ok (.if_icmp .eq 5, 3) := by decide +kernel
theorem dL_makes_166 : decode cL_makes 166 = .ok (.iconst 0, 1) := by decide +kernel
theorem dL_makes_167 : decode cL_makes 167 = .ok (.ireturn, 1) := by decide +kernel
theorem dL_makes_168 : decode cL_makes 168 = .ok (.aload_n 0, 1) := by decide +kernel
theorem dL_makes_169 : decode cL_makes 169 = .ok (.iconst 2, 1) := by decide +kernel
theorem dL_makes_170 : decode cL_makes 170 = .ok (.iconst 1, 1) := by decide +kernel
theorem dL_makes_171 : decode cL_makes 171 = .ok (.aload_n 1, 1) := by decide +kernel
theorem dL_makes_172 : decode cL_makes 172 = .ok (.bipush 13, 2) := by decide +kernel
theorem dL_makes_174 : decode cL_makes 174 = .ok (.invokestatic 153, 3) := by decide +kernel
theorem dL_makes_177 : decode cL_makes 177 = .ok (.aload_n 0, 1) := by decide +kernel
theorem dL_makes_178 : decode cL_makes 178 = .ok (.iconst 0, 1) := by decide +kernel
theorem dL_makes_179 : decode cL_makes 179 = .ok (.invokestatic 167, 3) := by decide +kernel
theorem dL_makes_182 : decode cL_makes 182 = .ok (.iconst 1, 1) := by decide +kernel
theorem dL_makes_183 : decode cL_makes 183 = .ok (.isub, 1) := by decide +kernel
theorem dL_makes_184 : decode cL_makes 184 = .ok (.invokestatic 157, 3) := by decide +kernel
theorem dL_makes_187 : decode cL_makes 187 = .ok (.iadd, 1) := by decide +kernel
theorem dL_makes_188 : decode cL_makes 188 = .ok (.aload_n 1, 1) := by decide +kernel
theorem dL_makes_189 : decode cL_makes 189 = .ok (.bipush 14, 2) := by decide +kernel
theorem dL_makes_191 : decode cL_makes 191 = .ok (.invokestatic 153, 3) := by decide +kernel
theorem dL_makes_194 : decode cL_makes 194 = .ok (.iconst 4, 1) := by decide +kernel
theorem dL_makes_195 : decode cL_makes 195 = .ok (.invokestatic 157, 3) := by decide +kernel
theorem dL_makes_198 : decode cL_makes 198 = .ok (.invokestatic 169, 3) := by decide +kernel
theorem dL_makes_201 : decode cL_makes 201 = .ok (.istore_n 2, 1) := by decide +kernel
theorem dL_makes_202 : decode cL_makes 202 = .ok (.iload_n 2, 1) := by decide +kernel
theorem dL_makes_203 : decode cL_makes 203 = .ok (.ifCond .ge 10, 3) := by decide +kernel
theorem dL_makes_206 : decode cL_makes 206 = .ok (.iload_n 2, 1) := by decide +kernel
theorem dL_makes_207 : decode cL_makes 207 = .ok (.sipush (-1003), 3) := by decide +kernel
theorem dL_makes_210 : decode cL_makes 210 = .ok (.if_icmp .ne 7, 3) := by decide +kernel
theorem dL_makes_213 : decode cL_makes 213 = .ok (.iconst 1, 1) := by decide +kernel
theorem dL_makes_214 : decode cL_makes 214 = .ok (.goto 4, 3) := by decide +kernel
theorem dL_makes_217 : decode cL_makes 217 = .ok (.iconst 0, 1) := by decide +kernel
theorem dL_makes_218 : decode cL_makes 218 = .ok (.ireturn, 1) := by decide +kernel
theorem dL_asks_0 : decode cL_asks 0 = .ok (.ldc2_w 171, 3) := by decide +kernel
theorem dL_asks_3 : decode cL_asks 3 = .ok (.aload_n 0, 1) := by decide +kernel
theorem dL_asks_4 : decode cL_asks 4 = .ok (.invokevirtual 173, 3) := by decide +kernel
theorem dL_asks_7 : decode cL_asks 7 = .ok (.invokestatic 177, 3) := by decide +kernel
theorem dL_asks_10 : decode cL_asks 10 = .ok (.lmul, 1) := by decide +kernel
theorem dL_asks_11 : decode cL_asks 11 = .ok (.aload_n 0, 1) := by decide +kernel
theorem dL_asks_12 : decode cL_asks 12 = .ok (.invokevirtual 183, 3) := by decide +kernel
theorem dL_asks_15 : decode cL_asks 15 = .ok (.invokestatic 187, 3) := by decide +kernel
theorem dL_asks_18 : decode cL_asks 18 = .ok (.i2l, 1) := by decide +kernel
theorem dL_asks_19 : decode cL_asks 19 = .ok (.ladd, 1) := by decide +kernel
theorem dL_asks_20 : decode cL_asks 20 = .ok (.aload_n 0, 1) := by decide +kernel
theorem dL_asks_21 : decode cL_asks 21 = .ok (.invokevirtual 193, 3) := by decide +kernel
theorem dL_asks_24 : decode cL_asks 24 = .ok (.ifCond .eq 7, 3) := by decide +kernel
theorem dL_asks_27 : decode cL_asks 27 = .ok (.iconst 1, 1) := by decide +kernel
theorem dL_asks_28 : decode cL_asks 28 = .ok (.goto 4, 3) := by decide +kernel
theorem dL_asks_31 : decode cL_asks 31 = .ok (.iconst 0, 1) := by decide +kernel
theorem dL_asks_32 : decode cL_asks 32 = .ok (.i2l, 1) := by decide +kernel
theorem dL_asks_33 : decode cL_asks 33 = .ok (.ladd, 1) := by decide +kernel
theorem dL_asks_34 : decode cL_asks 34 = .ok (.lstore_n 1, 1) := by decide +kernel
theorem dL_asks_35 : decode cL_asks 35 = .ok (.iconst 0, 1) := by decide +kernel
theorem dL_asks_36 : decode cL_asks 36 = .ok (.istore_n 3, 1) := by decide +kernel
theorem dL_asks_37 : decode cL_asks 37 = .ok (.iload_n 3, 1) := by decide +kernel
theorem dL_asks_38 : decode cL_asks 38 = .ok (.bipush 9, 2) := by decide +kernel
theorem dL_asks_40 : decode cL_asks 40 = .ok (.if_icmp .ge 22, 3) := by decide +kernel
theorem dL_asks_43 : decode cL_asks 43 = .ok (.ldc2_w 171, 3) := by decide +kernel
theorem dL_asks_46 : decode cL_asks 46 = .ok (.lload_n 1, 1) := by decide +kernel
theorem dL_asks_47 : decode cL_asks 47 = .ok (.lmul, 1) := by decide +kernel
theorem dL_asks_48 : decode cL_asks 48 = .ok (.aload_n 0, 1) := by decide +kernel
theorem dL_asks_49 : decode cL_asks 49 = .ok (.iload_n 3, 1) := by decide +kernel
theorem dL_asks_50 : decode cL_asks 50 = .ok (.invokestatic 167, 3) := by decide +kernel
theorem dL_asks_53 : decode cL_asks 53 = .ok (.i2l, 1) := by decide +kernel
theorem dL_asks_54 : decode cL_asks 54 = .ok (.ladd, 1) := by decide +kernel
theorem dL_asks_55 : decode cL_asks 55 = .ok (.lstore_n 1, 1) := by decide +kernel
theorem dL_asks_56 : decode cL_asks 56 = .ok (.iinc 3 1, 3) := by decide +kernel
theorem dL_asks_59 : decode cL_asks 59 = .ok (.goto (-22), 3) := by decide +kernel
theorem dL_asks_62 : decode cL_asks 62 = .ok (.aload_n 0, 1) := by decide +kernel
theorem dL_asks_63 : decode cL_asks 63 = .ok (.iconst 0, 1) := by decide +kernel
theorem dL_asks_64 : decode cL_asks 64 = .ok (.invokestatic 167, 3) := by decide +kernel
theorem dL_asks_67 : decode cL_asks 67 = .ok (.istore_n 3, 1) := by decide +kernel
theorem dL_asks_68 : decode cL_asks 68 = .ok (.iconst 0, 1) := by decide +kernel
theorem dL_asks_69 : decode cL_asks 69 = .ok (.istore 4, 2) := by decide +kernel
theorem dL_asks_71 : decode cL_asks 71 = .ok (.iload 4, 2) := by decide +kernel
theorem dL_asks_73 : decode cL_asks 73 = .ok (.iload_n 3, 1) := by decide +kernel
theorem dL_asks_74 : decode cL_asks 74 = .ok (.if_icmp .ge 191, 3) := by decide +kernel
theorem dL_asks_77 : decode cL_asks 77 = .ok (.iconst 0, 1) := by decide +kernel
theorem dL_asks_78 : decode cL_asks 78 = .ok (.istore 5, 2) := by decide +kernel
theorem dL_asks_80 : decode cL_asks 80 = .ok (.iload 5, 2) := by decide +kernel
theorem dL_asks_82 : decode cL_asks 82 = .ok (.bipush 6, 2) := by decide +kernel
theorem dL_asks_84 : decode cL_asks 84 = .ok (.if_icmp .ge 39, 3) := by decide +kernel
theorem dL_asks_87 : decode cL_asks 87 = .ok (.ldc2_w 171, 3) := by decide +kernel
theorem dL_asks_90 : decode cL_asks 90 = .ok (.ldc2_w 171, 3) := by decide +kernel
theorem dL_asks_93 : decode cL_asks 93 = .ok (.lload_n 1, 1) := by decide +kernel
theorem dL_asks_94 : decode cL_asks 94 = .ok (.lmul, 1) := by decide +kernel
theorem dL_asks_95 : decode cL_asks 95 = .ok (.aload_n 0, 1) := by decide +kernel
theorem dL_asks_96 : decode cL_asks 96 = .ok (.iload 4, 2) := by decide +kernel
theorem dL_asks_98 : decode cL_asks 98 = .ok (.iload 5, 2) := by decide +kernel
theorem dL_asks_100 : decode cL_asks 100 = .ok (.invokestatic 197, 3) := by decide +kernel
theorem dL_asks_103 : decode cL_asks 103 = .ok (.i2l, 1) := by decide +kernel
theorem dL_asks_104 : decode cL_asks 104 = .ok (.ladd, 1) := by decide +kernel
theorem dL_asks_105 : decode cL_asks 105 = .ok (.lmul, 1) := by decide +kernel
theorem dL_asks_106 : decode cL_asks 106 = .ok (.aload_n 0, 1) := by decide +kernel
theorem dL_asks_107 : decode cL_asks 107 = .ok (.iload 4, 2) := by decide +kernel
theorem dL_asks_109 : decode cL_asks 109 = .ok (.iload 5, 2) := by decide +kernel
theorem dL_asks_111 : decode cL_asks 111 = .ok (.invokestatic 200, 3) := by decide +kernel
theorem dL_asks_114 : decode cL_asks 114 = .ok (.i2l, 1) := by decide +kernel
theorem dL_asks_115 : decode cL_asks 115 = .ok (.ladd, 1) := by decide +kernel
theorem dL_asks_116 : decode cL_asks 116 = .ok (.lstore_n 1, 1) := by decide +kernel
theorem dL_asks_117 : decode cL_asks 117 = .ok (.iinc 5 1, 3) := by decide +kernel
theorem dL_asks_120 : decode cL_asks 120 = .ok (.goto (-40), 3) := by decide +kernel
theorem dL_asks_123 : decode cL_asks 123 = .ok (.ldc2_w 171, 3) := by decide +kernel
theorem dL_asks_126 : decode cL_asks 126 = .ok (.ldc2_w 171, 3) := by decide +kernel
theorem dL_asks_129 : decode cL_asks 129 = .ok (.lload_n 1, 1) := by decide +kernel
theorem dL_asks_130 : decode cL_asks 130 = .ok (.lmul, 1) := by decide +kernel
theorem dL_asks_131 : decode cL_asks 131 = .ok (.aload_n 0, 1) := by decide +kernel
theorem dL_asks_132 : decode cL_asks 132 = .ok (.iload 4, 2) := by decide +kernel
theorem dL_asks_134 : decode cL_asks 134 = .ok (.invokestatic 202, 3) := by decide +kernel
theorem dL_asks_137 : decode cL_asks 137 = .ok (.i2l, 1) := by decide +kernel
theorem dL_asks_138 : decode cL_asks 138 = .ok (.ladd, 1) := by decide +kernel
theorem dL_asks_139 : decode cL_asks 139 = .ok (.lmul, 1) := by decide +kernel
theorem dL_asks_140 : decode cL_asks 140 = .ok (.aload_n 0, 1) := by decide +kernel
theorem dL_asks_141 : decode cL_asks 141 = .ok (.iload 4, 2) := by decide +kernel
theorem dL_asks_143 : decode cL_asks 143 = .ok (.invokestatic 204, 3) := by decide +kernel
theorem dL_asks_146 : decode cL_asks 146 = .ok (.invokestatic 187, 3) := by decide +kernel
theorem dL_asks_149 : decode cL_asks 149 = .ok (.i2l, 1) := by decide +kernel
theorem dL_asks_150 : decode cL_asks 150 = .ok (.ladd, 1) := by decide +kernel
theorem dL_asks_151 : decode cL_asks 151 = .ok (.lstore_n 1, 1) := by decide +kernel
theorem dL_asks_152 : decode cL_asks 152 = .ok (.bipush 7, 2) := by decide +kernel
theorem dL_asks_154 : decode cL_asks 154 = .ok (.iload 4, 2) := by decide +kernel
theorem dL_asks_156 : decode cL_asks 156 = .ok (.imul, 1) := by decide +kernel
theorem dL_asks_157 : decode cL_asks 157 = .ok (.iconst 3, 1) := by decide +kernel
theorem dL_asks_158 : decode cL_asks 158 = .ok (.iadd, 1) := by decide +kernel
theorem dL_asks_159 : decode cL_asks 159 = .ok (.iload_n 3, 1) := by decide +kernel
theorem dL_asks_160 : decode cL_asks 160 = .ok (.irem, 1) := by decide +kernel
theorem dL_asks_161 : decode cL_asks 161 = .ok (.istore 5, 2) := by decide +kernel
theorem dL_asks_163 : decode cL_asks 163 = .ok (.ldc2_w 171, 3) := by decide +kernel
theorem dL_asks_166 : decode cL_asks 166 = .ok (.ldc2_w 171, 3) := by decide +kernel
theorem dL_asks_169 : decode cL_asks 169 = .ok (.ldc2_w 171, 3) := by decide +kernel
theorem dL_asks_172 : decode cL_asks 172 = .ok (.ldc2_w 171, 3) := by decide +kernel
theorem dL_asks_175 : decode cL_asks 175 = .ok (.lload_n 1, 1) := by decide +kernel
theorem dL_asks_176 : decode cL_asks 176 = .ok (.lmul, 1) := by decide +kernel
theorem dL_asks_177 : decode cL_asks 177 = .ok (.aload_n 0, 1) := by decide +kernel
theorem dL_asks_178 : decode cL_asks 178 = .ok (.iload 4, 2) := by decide +kernel
theorem dL_asks_180 : decode cL_asks 180 = .ok (.iload 5, 2) := by decide +kernel
theorem dL_asks_182 : decode cL_asks 182 = .ok (.invokestatic 207, 3) := by decide +kernel
theorem dL_asks_185 : decode cL_asks 185 = .ok (.i2l, 1) := by decide +kernel
theorem dL_asks_186 : decode cL_asks 186 = .ok (.ladd, 1) := by decide +kernel
theorem dL_asks_187 : decode cL_asks 187 = .ok (.lmul, 1) := by decide +kernel
theorem dL_asks_188 : decode cL_asks 188 = .ok (.aload_n 0, 1) := by decide +kernel
theorem dL_asks_189 : decode cL_asks 189 = .ok (.iload 4, 2) := by decide +kernel
theorem dL_asks_191 : decode cL_asks 191 = .ok (.iload 5, 2) := by decide +kernel
theorem dL_asks_193 : decode cL_asks 193 = .ok (.invokestatic 210, 3) := by decide +kernel
theorem dL_asks_196 : decode cL_asks 196 = .ok (.i2l, 1) := by decide +kernel
theorem dL_asks_197 : decode cL_asks 197 = .ok (.ladd, 1) := by decide +kernel
theorem dL_asks_198 : decode cL_asks 198 = .ok (.lmul, 1) := by decide +kernel
theorem dL_asks_199 : decode cL_asks 199 = .ok (.aload_n 0, 1) := by decide +kernel
theorem dL_asks_200 : decode cL_asks 200 = .ok (.iload 4, 2) := by decide +kernel
theorem dL_asks_202 : decode cL_asks 202 = .ok (.iload 5, 2) := by decide +kernel
theorem dL_asks_204 : decode cL_asks 204 = .ok (.invokestatic 212, 3) := by decide +kernel
theorem dL_asks_207 : decode cL_asks 207 = .ok (.i2l, 1) := by decide +kernel
theorem dL_asks_208 : decode cL_asks 208 = .ok (.ladd, 1) := by decide +kernel
theorem dL_asks_209 : decode cL_asks 209 = .ok (.lmul, 1) := by decide +kernel
theorem dL_asks_210 : decode cL_asks 210 = .ok (.aload_n 0, 1) := by decide +kernel
theorem dL_asks_211 : decode cL_asks 211 = .ok (.iload 4, 2) := by decide +kernel
theorem dL_asks_213 : decode cL_asks 213 = .ok (.iload 5, 2) := by decide +kernel
theorem dL_asks_215 : decode cL_asks 215 = .ok (.invokestatic 214, 3) := by decide +kernel
theorem dL_asks_218 : decode cL_asks 218 = .ok (.i2l, 1) := by decide +kernel
theorem dL_asks_219 : decode cL_asks 219 = .ok (.ladd, 1) := by decide +kernel
theorem dL_asks_220 : decode cL_asks 220 = .ok (.lstore_n 1, 1) := by decide +kernel
theorem dL_asks_221 : decode cL_asks 221 = .ok (.aload_n 0, 1) := by decide +kernel
theorem dL_asks_222 : decode cL_asks 222 = .ok (.iload 4, 2) := by decide +kernel
theorem dL_asks_224 : decode cL_asks 224 = .ok (.invokestatic 148, 3) := by decide +kernel
theorem dL_asks_227 : decode cL_asks 227 = .ok (.istore 6, 2) := by decide +kernel
theorem dL_asks_229 : decode cL_asks 229 = .ok (.iconst 0, 1) := by decide +kernel
theorem dL_asks_230 : decode cL_asks 230 = .ok (.istore 7, 2) := by decide +kernel
theorem dL_asks_232 : decode cL_asks 232 = .ok (.iload 7, 2) := by decide +kernel
theorem dL_asks_234 : decode cL_asks 234 = .ok (.iload 6, 2) := by decide +kernel
theorem dL_asks_236 : decode cL_asks 236 = .ok (.if_icmp .ge 23, 3) := by decide +kernel
theorem dL_asks_239 : decode cL_asks 239 = .ok (.ldc2_w 171, 3) := by decide +kernel
theorem dL_asks_242 : decode cL_asks 242 = .ok (.lload_n 1, 1) := by decide +kernel
theorem dL_asks_243 : decode cL_asks 243 = .ok (.lmul, 1) := by decide +kernel
theorem dL_asks_244 : decode cL_asks 244 = .ok (.aload_n 0, 1) := by decide +kernel
theorem dL_asks_245 : decode cL_asks 245 = .ok (.iload 7, 2) := by decide +kernel
theorem dL_asks_247 : decode cL_asks 247 = .ok (.invokestatic 151, 3) := by decide +kernel
theorem dL_asks_250 : decode cL_asks 250 = .ok (.i2l, 1) := by decide +kernel
theorem dL_asks_251 : decode cL_asks 251 = .ok (.ladd, 1) := by decide +kernel
theorem dL_asks_252 : decode cL_asks 252 = .ok (.lstore_n 1, 1) := by decide +kernel
theorem dL_asks_253 : decode cL_asks 253 = .ok (.iinc 7 1, 3) := by decide +kernel
theorem dL_asks_256 : decode cL_asks 256 = .ok (.goto (-24), 3) := by decide +kernel
theorem dL_asks_259 : decode cL_asks 259 = .ok (.iinc 4 1, 3) := by decide +kernel
theorem dL_asks_262 : decode cL_asks 262 = .ok (.goto (-191), 3) := by decide +kernel
theorem dL_asks_265 : decode cL_asks 265 = .ok (.iconst 0, 1) := by decide +kernel
theorem dL_asks_266 : decode cL_asks 266 = .ok (.istore 4, 2) := by decide +kernel
theorem dL_asks_268 : decode cL_asks 268 = .ok (.iload 4, 2) := by decide +kernel
theorem dL_asks_270 : decode cL_asks 270 = .ok (.aload_n 0, 1) := by decide +kernel
theorem dL_asks_271 : decode cL_asks 271 = .ok (.iconst 1, 1) := by decide +kernel
theorem dL_asks_272 : decode cL_asks 272 = .ok (.invokestatic 167, 3) := by decide +kernel
theorem dL_asks_275 : decode cL_asks 275 = .ok (.if_icmp .ge 184, 3) := by decide +kernel
theorem dL_asks_278 : decode cL_asks 278 = .ok (.ldc2_w 171, 3) := by decide +kernel
theorem dL_asks_281 : decode cL_asks 281 = .ok (.ldc2_w 171, 3) := by decide +kernel
theorem dL_asks_284 : decode cL_asks 284 = .ok (.lload_n 1, 1) := by decide +kernel
theorem dL_asks_285 : decode cL_asks 285 = .ok (.lmul, 1) := by decide +kernel
theorem dL_asks_286 : decode cL_asks 286 = .ok (.aload_n 0, 1) := by decide +kernel
theorem dL_asks_287 : decode cL_asks 287 = .ok (.iload 4, 2) := by decide +kernel
theorem dL_asks_289 : decode cL_asks 289 = .ok (.invokestatic 216, 3) := by decide +kernel
theorem dL_asks_292 : decode cL_asks 292 = .ok (.i2l, 1) := by decide +kernel
theorem dL_asks_293 : decode cL_asks 293 = .ok (.ladd, 1) := by decide +kernel
theorem dL_asks_294 : decode cL_asks 294 = .ok (.lmul, 1) := by decide +kernel
theorem dL_asks_295 : decode cL_asks 295 = .ok (.aload_n 0, 1) := by decide +kernel
theorem dL_asks_296 : decode cL_asks 296 = .ok (.iload 4, 2) := by decide +kernel
theorem dL_asks_298 : decode cL_asks 298 = .ok (.invokestatic 218, 3) := by decide +kernel
theorem dL_asks_301 : decode cL_asks 301 = .ok (.i2l, 1) := by decide +kernel
theorem dL_asks_302 : decode cL_asks 302 = .ok (.ladd, 1) := by decide +kernel
theorem dL_asks_303 : decode cL_asks 303 = .ok (.lstore_n 1, 1) := by decide +kernel
theorem dL_asks_304 : decode cL_asks 304 = .ok (.iconst 0, 1) := by decide +kernel
theorem dL_asks_305 : decode cL_asks 305 = .ok (.istore 5, 2) := by decide +kernel
theorem dL_asks_307 : decode cL_asks 307 = .ok (.iload 5, 2) := by decide +kernel
theorem dL_asks_309 : decode cL_asks 309 = .ok (.aload_n 0, 1) := by decide +kernel
theorem dL_asks_310 : decode cL_asks 310 = .ok (.iconst 1, 1) := by decide +kernel
theorem dL_asks_311 : decode cL_asks 311 = .ok (.invokestatic 167, 3) := by decide +kernel
theorem dL_asks_314 : decode cL_asks 314 = .ok (.if_icmp .ge 25, 3) := by decide +kernel
theorem dL_asks_317 : decode cL_asks 317 = .ok (.ldc2_w 171, 3) := by decide +kernel
theorem dL_asks_320 : decode cL_asks 320 = .ok (.lload_n 1, 1) := by decide +kernel
theorem dL_asks_321 : decode cL_asks 321 = .ok (.lmul, 1) := by decide +kernel
theorem dL_asks_322 : decode cL_asks 322 = .ok (.aload_n 0, 1) := by decide +kernel
theorem dL_asks_323 : decode cL_asks 323 = .ok (.iload 4, 2) := by decide +kernel
theorem dL_asks_325 : decode cL_asks 325 = .ok (.iload 5, 2) := by decide +kernel
theorem dL_asks_327 : decode cL_asks 327 = .ok (.invokestatic 220, 3) := by decide +kernel
theorem dL_asks_330 : decode cL_asks 330 = .ok (.i2l, 1) := by decide +kernel
theorem dL_asks_331 : decode cL_asks 331 = .ok (.ladd, 1) := by decide +kernel
theorem dL_asks_332 : decode cL_asks 332 = .ok (.lstore_n 1, 1) := by decide +kernel
theorem dL_asks_333 : decode cL_asks 333 = .ok (.iinc 5 1, 3) := by decide +kernel
theorem dL_asks_336 : decode cL_asks 336 = .ok (.goto (-29), 3) := by decide +kernel
theorem dL_asks_339 : decode cL_asks 339 = .ok (.iconst 0, 1) := by decide +kernel
theorem dL_asks_340 : decode cL_asks 340 = .ok (.istore 5, 2) := by decide +kernel
theorem dL_asks_342 : decode cL_asks 342 = .ok (.iload 5, 2) := by decide +kernel
theorem dL_asks_344 : decode cL_asks 344 = .ok (.bipush 24, 2) := by decide +kernel
theorem dL_asks_346 : decode cL_asks 346 = .ok (.if_icmp .ge 25, 3) := by decide +kernel
theorem dL_asks_349 : decode cL_asks 349 = .ok (.ldc2_w 171, 3) := by decide +kernel
theorem dL_asks_352 : decode cL_asks 352 = .ok (.lload_n 1, 1) := by decide +kernel
theorem dL_asks_353 : decode cL_asks 353 = .ok (.lmul, 1) := by decide +kernel
theorem dL_asks_354 : decode cL_asks 354 = .ok (.aload_n 0, 1) := by decide +kernel
theorem dL_asks_355 : decode cL_asks 355 = .ok (.iload 4, 2) := by decide +kernel
theorem dL_asks_357 : decode cL_asks 357 = .ok (.iload 5, 2) := by decide +kernel
theorem dL_asks_359 : decode cL_asks 359 = .ok (.invokestatic 222, 3) := by decide +kernel
theorem dL_asks_362 : decode cL_asks 362 = .ok (.i2l, 1) := by decide +kernel
theorem dL_asks_363 : decode cL_asks 363 = .ok (.ladd, 1) := by decide +kernel
theorem dL_asks_364 : decode cL_asks 364 = .ok (.lstore_n 1, 1) := by decide +kernel
theorem dL_asks_365 : decode cL_asks 365 = .ok (.iinc 5 1, 3) := by decide +kernel
theorem dL_asks_368 : decode cL_asks 368 = .ok (.goto (-26), 3) := by decide +kernel
theorem dL_asks_371 : decode cL_asks 371 = .ok (.iconst 0, 1) := by decide +kernel
theorem dL_asks_372 : decode cL_asks 372 = .ok (.istore 5, 2) := by decide +kernel
theorem dL_asks_374 : decode cL_asks 374 = .ok (.iload 5, 2) := by decide +kernel
theorem dL_asks_376 : decode cL_asks 376 = .ok (.bipush 6, 2) := by decide +kernel
theorem dL_asks_378 : decode cL_asks 378 = .ok (.if_icmp .ge 75, 3) := by decide +kernel
theorem dL_asks_381 : decode cL_asks 381 = .ok (.ldc2_w 171, 3) := by decide +kernel
theorem dL_asks_384 : decode cL_asks 384 = .ok (.ldc2_w 171, 3) := by decide +kernel
theorem dL_asks_387 : decode cL_asks 387 = .ok (.ldc2_w 171, 3) := by decide +kernel
theorem dL_asks_390 : decode cL_asks 390 = .ok (.ldc2_w 171, 3) := by decide +kernel
theorem dL_asks_393 : decode cL_asks 393 = .ok (.lload_n 1, 1) := by decide +kernel
theorem dL_asks_394 : decode cL_asks 394 = .ok (.lmul, 1) := by decide +kernel
theorem dL_asks_395 : decode cL_asks 395 = .ok (.aload_n 0, 1) := by decide +kernel
theorem dL_asks_396 : decode cL_asks 396 = .ok (.iload 4, 2) := by decide +kernel
theorem dL_asks_398 : decode cL_asks 398 = .ok (.iload 5, 2) := by decide +kernel
theorem dL_asks_400 : decode cL_asks 400 = .ok (.invokestatic 224, 3) := by decide +kernel
theorem dL_asks_403 : decode cL_asks 403 = .ok (.i2l, 1) := by decide +kernel
theorem dL_asks_404 : decode cL_asks 404 = .ok (.ladd, 1) := by decide +kernel
theorem dL_asks_405 : decode cL_asks 405 = .ok (.lmul, 1) := by decide +kernel
theorem dL_asks_406 : decode cL_asks 406 = .ok (.aload_n 0, 1) := by decide +kernel
theorem dL_asks_407 : decode cL_asks 407 = .ok (.iload 4, 2) := by decide +kernel
theorem dL_asks_409 : decode cL_asks 409 = .ok (.iload 5, 2) := by decide +kernel
theorem dL_asks_411 : decode cL_asks 411 = .ok (.bipush 30, 2) := by decide +kernel
theorem dL_asks_413 : decode cL_asks 413 = .ok (.invokestatic 226, 3) := by decide +kernel
theorem dL_asks_416 : decode cL_asks 416 = .ok (.i2l, 1) := by decide +kernel
theorem dL_asks_417 : decode cL_asks 417 = .ok (.ladd, 1) := by decide +kernel
theorem dL_asks_418 : decode cL_asks 418 = .ok (.lmul, 1) := by decide +kernel
theorem dL_asks_419 : decode cL_asks 419 = .ok (.aload_n 0, 1) := by decide +kernel
theorem dL_asks_420 : decode cL_asks 420 = .ok (.iload 4, 2) := by decide +kernel
theorem dL_asks_422 : decode cL_asks 422 = .ok (.iload 5, 2) := by decide +kernel
theorem dL_asks_424 : decode cL_asks 424 = .ok (.bipush 10, 2) := by decide +kernel
theorem dL_asks_426 : decode cL_asks 426 = .ok (.iconst 0, 1) := by decide +kernel
theorem dL_asks_427 : decode cL_asks 427 = .ok (.invokestatic 228, 3) := by decide +kernel
theorem dL_asks_430 : decode cL_asks 430 = .ok (.i2l, 1) := by decide +kernel
theorem dL_asks_431 : decode cL_asks 431 = .ok (.ladd, 1) := by decide +kernel
theorem dL_asks_432 : decode cL_asks 432 = .ok (.lmul, 1) := by decide +kernel
theorem dL_asks_433 : decode cL_asks 433 = .ok (.aload_n 0, 1) := by decide +kernel
theorem dL_asks_434 : decode cL_asks 434 = .ok (.iload 4, 2) := by decide +kernel
theorem dL_asks_436 : decode cL_asks 436 = .ok (.iload 5, 2) := by decide +kernel
theorem dL_asks_438 : decode cL_asks 438 = .ok (.bipush 10, 2) := by decide +kernel
theorem dL_asks_440 : decode cL_asks 440 = .ok (.iconst 1, 1) := by decide +kernel
theorem dL_asks_441 : decode cL_asks 441 = .ok (.invokestatic 228, 3) := by decide +kernel
theorem dL_asks_444 : decode cL_asks 444 = .ok (.i2l, 1) := by decide +kernel
theorem dL_asks_445 : decode cL_asks 445 = .ok (.ladd, 1) := by decide +kernel
theorem dL_asks_446 : decode cL_asks 446 = .ok (.lstore_n 1, 1) := by decide +kernel
theorem dL_asks_447 : decode cL_asks 447 = .ok (.iinc 5 1, 3) := by decide +kernel
theorem dL_asks_450 : decode cL_asks 450 = .ok (.goto (-76), 3) := by decide +kernel
theorem dL_asks_453 : decode cL_asks 453 = .ok (.iinc 4 1, 3) := by decide +kernel
theorem dL_asks_456 : decode cL_asks 456 = .ok (.goto (-188), 3) := by decide +kernel
theorem dL_asks_459 : decode cL_asks 459 = .ok (.iconst 0, 1) := by decide +kernel
theorem dL_asks_460 : decode cL_asks 460 = .ok (.istore 4, 2) := by decide +kernel
theorem dL_asks_462 : decode cL_asks 462 = .ok (.iload 4, 2) := by decide +kernel
theorem dL_asks_464 : decode cL_asks 464 = .ok (.iconst 4, 1) := by decide +kernel
theorem dL_asks_465 : decode cL_asks 465 = .ok (.if_icmp .ge 23, 3) := by decide +kernel
theorem dL_asks_468 : decode cL_asks 468 = .ok (.ldc2_w 171, 3) := by decide +kernel
theorem dL_asks_471 : decode cL_asks 471 = .ok (.lload_n 1, 1) := by decide +kernel
theorem dL_asks_472 : decode cL_asks 472 = .ok (.lmul, 1) := by decide +kernel
theorem dL_asks_473 : decode cL_asks 473 = .ok (.aload_n 0, 1) := by decide +kernel
theorem dL_asks_474 : decode cL_asks 474 = .ok (.iload 4, 2) := by decide +kernel
theorem dL_asks_476 : decode cL_asks 476 = .ok (.invokestatic 231, 3) := by decide +kernel
theorem dL_asks_479 : decode cL_asks 479 = .ok (.i2l, 1) := by decide +kernel
theorem dL_asks_480 : decode cL_asks 480 = .ok (.ladd, 1) := by decide +kernel
theorem dL_asks_481 : decode cL_asks 481 = .ok (.lstore_n 1, 1) := by decide +kernel
theorem dL_asks_482 : decode cL_asks 482 = .ok (.iinc 4 1, 3) := by decide +kernel
theorem dL_asks_485 : decode cL_asks 485 = .ok (.goto (-23), 3) := by decide +kernel
theorem dL_asks_488 : decode cL_asks 488 = .ok (.lload_n 1, 1) := by decide +kernel
theorem dL_asks_489 : decode cL_asks 489 = .ok (.lreturn, 1) := by decide +kernel
theorem dL_changes_0 : decode cL_changes 0 = .ok (.iload_n 1, 1) := by decide +kernel
theorem dL_changes_1 : decode cL_changes 1 = .ok (.iconst 4, 1) := by decide +kernel
theorem dL_changes_2 : decode cL_changes 2 = .ok (.ishr, 1) := by decide +kernel
theorem dL_changes_3 : decode cL_changes 3 = .ok (.aload_n 0, 1) := by decide +kernel
theorem dL_changes_4 : decode cL_changes 4 = .ok (.iconst 1, 1) := by decide +kernel
theorem dL_changes_5 : decode cL_changes 5 = .ok (.invokestatic 167, 3) := by decide +kernel
theorem dL_changes_8 : decode cL_changes 8 = .ok (.iconst 1, 1) := by decide +kernel
theorem dL_changes_9 : decode cL_changes 9 = .ok (.iadd, 1) := by decide +kernel
theorem dL_changes_10 : decode cL_changes 10 = .ok (.invokestatic 157, 3) := by decide +kernel
theorem dL_changes_13 : decode cL_changes 13 = .ok (.istore_n 2, 1) := by decide +kernel
theorem dL_changes_14 : decode cL_changes 14 = .ok (.iload_n 1, 1) := by decide +kernel
theorem dL_changes_15 : decode cL_changes 15 = .ok (.bipush 6, 2) := by decide +kernel
theorem dL_changes_17 : decode cL_changes 17 = .ok (.ishr, 1) := by decide +kernel
theorem dL_changes_18 : decode cL_changes 18 = .ok (.aload_n 0, 1) := by decide +kernel
theorem dL_changes_19 : decode cL_changes 19 = .ok (.iconst 0, 1) := by decide +kernel
theorem dL_changes_20 : decode cL_changes 20 = .ok (.invokestatic 167, 3) := by decide +kernel
theorem dL_changes_23 : decode cL_changes 23 = .ok (.iconst 1, 1) := by decide +kernel
theorem dL_changes_24 : decode cL_changes 24 = .ok (.iadd, 1) := by decide +kernel
theorem dL_changes_25 : decode cL_changes 25 = .ok (.invokestatic 157, 3) := by decide +kernel
theorem dL_changes_28 : decode cL_changes 28 = .ok (.istore_n 3, 1) := by decide +kernel
theorem dL_changes_29 : decode cL_changes 29 = .ok (.iload_n 1, 1) := by decide +kernel
theorem dL_changes_30 : decode cL_changes 30 = .ok (.bipush 9, 2) := by decide +kernel
theorem dL_changes_32 : decode cL_changes 32 = .ok (.ishr, 1) := by decide +kernel
theorem dL_changes_33 : decode cL_changes 33 = .ok (.iconst 5, 1) := by decide +kernel
theorem dL_changes_34 : decode cL_changes 34 = .ok (.invokestatic 157, 3) := by decide +kernel
theorem dL_changes_37 : decode cL_changes 37 = .ok (.istore 4, 2) := by decide +kernel
theorem dL_changes_39 : decode cL_changes 39 = .ok (.iload_n 1, 1) := by decide +kernel
theorem dL_changes_40 : decode cL_changes 40 = .ok (.bipush 18, 2) := by decide +kernel
theorem dL_changes_42 : decode cL_changes 42 = .ok (.invokestatic 157, 3) := by decide +kernel
theorem dL_changes_45 : decode cL_changes 45 = .ok (.tableswitch 260 0 15 #[79, 79, 79, 79, 110, 124, 139, 139, 169, 169, 186, 186, 203, 223, 223, 244], 79) := by decide +kernel
theorem dL_changes_124 : decode cL_changes 124 = .ok (.aload_n 0, 1) := by decide +kernel
theorem dL_changes_125 : decode cL_changes 125 = .ok (.iload_n 2, 1) := by decide +kernel
theorem dL_changes_126 : decode cL_changes 126 = .ok (.iload_n 1, 1) := by decide +kernel
theorem dL_changes_127 : decode cL_changes 127 = .ok (.bipush 7, 2) := by decide +kernel
theorem dL_changes_129 : decode cL_changes 129 = .ok (.ishr, 1) := by decide +kernel
theorem dL_changes_130 : decode cL_changes 130 = .ok (.bipush 7, 2) := by decide +kernel
theorem dL_changes_132 : decode cL_changes 132 = .ok (.invokestatic 157, 3) := by decide +kernel
theorem dL_changes_135 : decode cL_changes 135 = .ok (.iload_n 1, 1) := by decide +kernel
theorem dL_changes_136 : decode cL_changes 136 = .ok (.iconst 5, 1) := by decide +kernel
theorem dL_changes_137 : decode cL_changes 137 = .ok (.ishr, 1) := by decide +kernel
theorem dL_changes_138 : decode cL_changes 138 = .ok (.bipush 101, 2) := by decide +kernel
theorem dL_changes_140 : decode cL_changes 140 = .ok (.invokestatic 157, 3) := by decide +kernel
theorem dL_changes_143 : decode cL_changes 143 = .ok (.invokestatic 160, 3) := by decide +kernel
theorem dL_changes_146 : decode cL_changes 146 = .ok (.ifCond .lt 7, 3) := by decide +kernel
theorem dL_changes_149 : decode cL_changes 149 = .ok (.iconst 1, 1) := by decide +kernel
theorem dL_changes_150 : decode cL_changes 150 = .ok (.goto 4, 3) := by decide +kernel
theorem dL_changes_153 : decode cL_changes 153 = .ok (.iconst 0, 1) := by decide +kernel
theorem dL_changes_154 : decode cL_changes 154 = .ok (.ireturn, 1) := by decide +kernel
theorem dL_changes_155 : decode cL_changes 155 = .ok (.aload_n 0, 1) := by decide +kernel
theorem dL_changes_156 : decode cL_changes 156 = .ok (.iload_n 2, 1) := by decide +kernel
theorem dL_changes_157 : decode cL_changes 157 = .ok (.invokestatic 163, 3) := by decide +kernel
theorem dL_changes_160 : decode cL_changes 160 = .ok (.ifCond .lt 7, 3) := by decide +kernel
theorem dL_changes_163 : decode cL_changes 163 = .ok (.iconst 1, 1) := by decide +kernel
theorem dL_changes_164 : decode cL_changes 164 = .ok (.goto 4, 3) := by decide +kernel
theorem dL_changes_167 : decode cL_changes 167 = .ok (.iconst 0, 1) := by decide +kernel
theorem dL_changes_168 : decode cL_changes 168 = .ok (.ireturn, 1) := by decide +kernel
theorem dL_changes_169 : decode cL_changes 169 = .ok (.aload_n 0, 1) := by decide +kernel
theorem dL_changes_170 : decode cL_changes 170 = .ok (.iload_n 2, 1) := by decide +kernel
theorem dL_changes_171 : decode cL_changes 171 = .ok (.iload_n 3, 1) := by decide +kernel
theorem dL_changes_172 : decode cL_changes 172 = .ok (.invokestatic 233, 3) := by decide +kernel
theorem dL_changes_175 : decode cL_changes 175 = .ok (.ifCond .lt 7, 3) := by decide +kernel
theorem dL_changes_178 : decode cL_changes 178 = .ok (.iconst 1, 1) := by decide +kernel
theorem dL_changes_179 : decode cL_changes 179 = .ok (.goto 4, 3) := by decide +kernel
theorem dL_changes_182 : decode cL_changes 182 = .ok (.iconst 0, 1) := by decide +kernel
theorem dL_changes_183 : decode cL_changes 183 = .ok (.ireturn, 1) := by decide +kernel
theorem dL_changes_184 : decode cL_changes 184 = .ok (.aload_n 0, 1) := by decide +kernel
theorem dL_changes_185 : decode cL_changes 185 = .ok (.iload_n 2, 1) := by decide +kernel
theorem dL_changes_186 : decode cL_changes 186 = .ok (.iload_n 1, 1) := by decide +kernel
theorem dL_changes_187 : decode cL_changes 187 = .ok (.bipush 11, 2) := by decide +kernel
theorem dL_changes_189 : decode cL_changes 189 = .ok (.ishr, 1) := by decide +kernel
theorem dL_changes_190 : decode cL_changes 190 = .ok (.aload_n 0, 1) := by decide +kernel
theorem dL_changes_191 : decode cL_changes 191 = .ok (.iconst 1, 1) := by decide +kernel
theorem dL_changes_192 : decode cL_changes 192 = .ok (.invokestatic 167, 3) := by decide +kernel
theorem dL_changes_195 : decode cL_changes 195 = .ok (.iconst 1, 1) := by decide +kernel
theorem dL_changes_196 : decode cL_changes 196 = .ok (.iadd, 1) := by decide +kernel
theorem dL_changes_197 : decode cL_changes 197 = .ok (.invokestatic 157, 3) := by decide +kernel
theorem dL_changes_200 : decode cL_changes 200 = .ok (.iload 4, 2) := by decide +kernel
theorem dL_changes_202 : decode cL_changes 202 = .ok (.invokestatic 165, 3) := by decide +kernel
theorem dL_changes_205 : decode cL_changes 205 = .ok (.ifCond .lt 7, 3) := by decide +kernel
theorem dL_changes_208 : decode cL_changes 208 = .ok (.iconst 1, 1) := by decide +kernel
theorem dL_changes_209 : decode cL_changes 209 = .ok (.goto 4, 3) := by decide +kernel
theorem dL_changes_212 : decode cL_changes 212 = .ok (.iconst 0, 1) := by decide +kernel
theorem dL_changes_213 : decode cL_changes 213 = .ok (.ireturn, 1) := by decide +kernel
theorem dL_changes_214 : decode cL_changes 214 = .ok (.aload_n 0, 1) := by decide +kernel
theorem dL_changes_215 : decode cL_changes 215 = .ok (.iload_n 2, 1) := by decide +kernel
theorem dL_changes_216 : decode cL_changes 216 = .ok (.iload_n 3, 1) := by decide +kernel
theorem dL_changes_217 : decode cL_changes 217 = .ok (.iload 4, 2) := by decide +kernel
theorem dL_changes_219 : decode cL_changes 219 = .ok (.invokestatic 169, 3) := by decide +kernel
theorem dL_changes_222 : decode cL_changes 222 = .ok (.ifCond .lt 7, 3) := by decide +kernel
theorem dL_changes_225 : decode cL_changes 225 = .ok (.iconst 1, 1) := by decide +kernel
theorem dL_changes_226 : decode cL_changes 226 = .ok (.goto 4, 3) := by decide +kernel
theorem dL_changes_229 : decode cL_changes 229 = .ok (.iconst 0, 1) := by decide +kernel
theorem dL_changes_230 : decode cL_changes 230 = .ok (.ireturn, 1) := by decide +kernel
theorem dL_changes_231 : decode cL_changes 231 = .ok (.aload_n 0, 1) := by decide +kernel
theorem dL_changes_232 : decode cL_changes 232 = .ok (.iload_n 2, 1) := by decide +kernel
theorem dL_changes_233 : decode cL_changes 233 = .ok (.iload_n 3, 1) := by decide +kernel
theorem dL_changes_234 : decode cL_changes 234 = .ok (.iload 4, 2) := by decide +kernel
theorem dL_changes_236 : decode cL_changes 236 = .ok (.invokestatic 235, 3) := by decide +kernel
theorem dL_changes_239 : decode cL_changes 239 = .ok (.ifCond .lt 7, 3) := by decide +kernel
theorem dL_changes_242 : decode cL_changes 242 = .ok (.iconst 1, 1) := by decide +kernel
theorem dL_changes_243 : decode cL_changes 243 = .ok (.goto 4, 3) := by decide +kernel
theorem dL_changes_246 : decode cL_changes 246 = .ok (.iconst 0, 1) := by decide +kernel
theorem dL_changes_247 : decode cL_changes 247 = .ok (.ireturn, 1) := by decide +kernel
theorem dL_changes_248 : decode cL_changes 248 = .ok (.aload_n 0, 1) := by decide +kernel
theorem dL_changes_249 : decode cL_changes 249 = .ok (.iload_n 1, 1) := by decide +kernel
theorem dL_changes_250 : decode cL_changes 250 = .ok (.iconst 4, 1) := by decide +kernel
theorem dL_changes_251 : decode cL_changes 251 = .ok (.ishr, 1) := by decide +kernel
theorem dL_changes_252 : decode cL_changes 252 = .ok (.iconst 4, 1) := by decide +kernel
theorem dL_changes_253 : decode cL_changes 253 = .ok (.invokestatic 157, 3) := by decide +kernel
theorem dL_changes_256 : decode cL_changes 256 = .ok (.invokestatic 237, 3) := by decide +kernel
theorem dL_changes_259 : decode cL_changes 259 = .ok (.ifCond .lt 7, 3) := by decide +kernel
theorem dL_changes_262 : decode cL_changes 262 = .ok (.iconst 1, 1) := by decide +kernel
theorem dL_changes_263 : decode cL_changes 263 = .ok (.goto 4, 3) := by decide +kernel
theorem dL_changes_266 : decode cL_changes 266 = .ok (.iconst 0, 1) := by decide +kernel
theorem dL_changes_267 : decode cL_changes 267 = .ok (.ireturn, 1) := by decide +kernel
theorem dL_changes_268 : decode cL_changes 268 = .ok (.aload_n 0, 1) := by decide +kernel
theorem dL_changes_269 : decode cL_changes 269 = .ok (.iload_n 1, 1) := by decide +kernel
theorem dL_changes_270 : decode cL_changes 270 = .ok (.iconst 4, 1) := by decide +kernel
theorem dL_changes_271 : decode cL_changes 271 = .ok (.ishr, 1) := by decide +kernel
theorem dL_changes_272 : decode cL_changes 272 = .ok (.iconst 5, 1) := by decide +kernel
theorem dL_changes_273 : decode cL_changes 273 = .ok (.invokestatic 157, 3) := by decide +kernel
theorem dL_changes_276 : decode cL_changes 276 = .ok (.iload_n 3, 1) := by decide +kernel
theorem dL_changes_277 : decode cL_changes 277 = .ok (.invokestatic 239, 3) := by decide +kernel
theorem dL_changes_280 : decode cL_changes 280 = .ok (.ifCond .lt 7, 3) := by decide +kernel
theorem dL_changes_283 : decode cL_changes 283 = .ok (.iconst 1, 1) := by decide +kernel
theorem dL_changes_284 : decode cL_changes 284 = .ok (.goto 4, 3) := by decide +kernel
theorem dL_changes_287 : decode cL_changes 287 = .ok (.iconst 0, 1) := by decide +kernel
theorem dL_changes_288 : decode cL_changes 288 = .ok (.ireturn, 1) := by decide +kernel
theorem dL_changes_289 : decode cL_changes 289 = .ok (.aload_n 0, 1) := by decide +kernel
theorem dL_changes_290 : decode cL_changes 290 = .ok (.iload_n 2, 1) := by decide +kernel
theorem dL_changes_291 : decode cL_changes 291 = .ok (.iload 4, 2) := by decide +kernel
theorem dL_changes_293 : decode cL_changes 293 = .ok (.invokestatic 241, 3) := by decide +kernel
theorem dL_changes_296 : decode cL_changes 296 = .ok (.ifCond .lt 7, 3) := by decide +kernel
theorem dL_changes_299 : decode cL_changes 299 = .ok (.iconst 1, 1) := by decide +kernel
theorem dL_changes_300 : decode cL_changes 300 = .ok (.goto 4, 3) := by decide +kernel
theorem dL_changes_303 : decode cL_changes 303 = .ok (.iconst 0, 1) := by decide +kernel
theorem dL_changes_304 : decode cL_changes 304 = .ok (.ireturn, 1) := by decide +kernel
theorem dL_changes_305 : decode cL_changes 305 = .ok (.aload_n 0, 1) := by decide +kernel
theorem dL_changes_306 : decode cL_changes 306 = .ok (.iload_n 1, 1) := by decide +kernel
theorem dL_changes_307 : decode cL_changes 307 = .ok (.bipush 6, 2) := by decide +kernel
theorem dL_changes_309 : decode cL_changes 309 = .ok (.ishr, 1) := by decide +kernel
theorem dL_changes_310 : decode cL_changes 310 = .ok (.iconst 1, 1) := by decide +kernel
theorem dL_changes_311 : decode cL_changes 311 = .ok (.iand, 1) := by decide +kernel
theorem dL_changes_312 : decode cL_changes 312 = .ok (.ifCond .ne 71, 3) := by decide +kernel
theorem dL_changes_315 : decode cL_changes 315 = .ok (.new 243, 3) := by decide +kernel
theorem dL_changes_318 : decode cL_changes 318 = .ok (.dup, 1) := by decide +kernel
theorem dL_changes_319 : decode cL_changes 319 = .ok (.invokespecial 245, 3) := by decide +kernel
theorem dL_changes_322 : decode cL_changes 322 = .ok (.ldc 246, 2) := by decide +kernel
theorem dL_changes_324 : decode cL_changes 324 = .ok (.invokevirtual 248, 3) := by decide +kernel
theorem dL_changes_327 : decode cL_changes 327 = .ok (.iload_n 1, 1) := by decide +kernel
theorem dL_changes_328 : decode cL_changes 328 = .ok (.iconst 4, 1) := by decide +kernel
theorem dL_changes_329 : decode cL_changes 329 = .ok (.ishr, 1) := by decide +kernel
theorem dL_changes_330 : decode cL_changes 330 = .ok (.iconst 3, 1) := by decide +kernel
theorem dL_changes_331 : decode cL_changes 331 = .ok (.invokestatic 157, 3) := by decide +kernel
theorem dL_changes_334 : decode cL_changes 334 = .ok (.invokevirtual 251, 3) := by decide +kernel
theorem dL_changes_337 : decode cL_changes 337 = .ok (.ldc 254, 2) := by decide +kernel
theorem dL_changes_339 : decode cL_changes 339 = .ok (.invokevirtual 248, 3) := by decide +kernel
theorem dL_changes_342 : decode cL_changes 342 = .ok (.iload_n 1, 1) := by decide +kernel
theorem dL_changes_343 : decode cL_changes 343 = .ok (.bipush 7, 2) := by decide +kernel
theorem dL_changes_345 : decode cL_changes 345 = .ok (.ishr, 1) := by decide +kernel
theorem dL_changes_346 : decode cL_changes 346 = .ok (.bipush 6, 2) := by decide +kernel
theorem dL_changes_348 : decode cL_changes 348 = .ok (.invokestatic 157, 3) := by decide +kernel
theorem dL_changes_351 : decode cL_changes 351 = .ok (.invokevirtual 251, 3) := by decide +kernel
theorem dL_changes_354 : decode cL_changes 354 = .ok (.ldc_w 256, 3) := by decide +kernel
theorem dL_changes_357 : decode cL_changes 357 = .ok (.invokevirtual 248, 3) := by decide +kernel
theorem dL_changes_360 : decode cL_changes 360 = .ok (.iload_n 1, 1) := by decide +kernel
theorem dL_changes_361 : decode cL_changes 361 = .ok (.iconst 5, 1) := by decide +kernel
theorem dL_changes_362 : decode cL_changes 362 = .ok (.ishr, 1) := by decide +kernel
theorem dL_changes_363 : decode cL_changes 363 = .ok (.bipush 100, 2) := by decide +kernel
theorem dL_changes_365 : decode cL_changes 365 = .ok (.invokestatic 157, 3) := by decide +kernel
theorem dL_changes_368 : decode cL_changes 368 = .ok (.invokevirtual 251, 3) := by decide +kernel
theorem dL_changes_371 : decode cL_changes 371 = .ok (.ldc_w 258, 3) := by decide +kernel
theorem dL_changes_374 : decode cL_changes 374 = .ok (.invokevirtual 248, 3) := by decide +kernel
theorem dL_changes_377 : decode cL_changes 377 = .ok (.invokevirtual 260, 3) := by decide +kernel
theorem dL_changes_380 : decode cL_changes 380 = .ok (.goto 63, 3) := by decide +kernel
theorem dL_changes_383 : decode cL_changes 383 = .ok (.new 243, 3) := by decide +kernel
theorem dL_changes_386 : decode cL_changes 386 = .ok (.dup, 1) := by decide +kernel
theorem dL_changes_387 : decode cL_changes 387 = .ok (.invokespecial 245, 3) := by decide +kernel
theorem dL_changes_390 : decode cL_changes 390 = .ok (.ldc_w 264, 3) := by decide +kernel
theorem dL_changes_393 : decode cL_changes 393 = .ok (.invokevirtual 248, 3) := by decide +kernel
theorem dL_changes_396 : decode cL_changes 396 = .ok (.iload_n 1, 1) := by decide +kernel
theorem dL_changes_397 : decode cL_changes 397 = .ok (.iconst 4, 1) := by decide +kernel
theorem dL_changes_398 : decode cL_changes 398 = .ok (.ishr, 1) := by decide +kernel
theorem dL_changes_399 : decode cL_changes 399 = .ok (.iconst 3, 1) := by decide +kernel
theorem dL_changes_400 : decode cL_changes 400 = .ok (.invokestatic 157, 3) := by decide +kernel
theorem dL_changes_403 : decode cL_changes 403 = .ok (.invokevirtual 251, 3) := by decide +kernel
theorem dL_changes_406 : decode cL_changes 406 = .ok (.ldc_w 266, 3) := by decide +kernel
theorem dL_changes_409 : decode cL_changes 409 = .ok (.invokevirtual 248, 3) := by decide +kernel
theorem dL_changes_412 : decode cL_changes 412 = .ok (.iload_n 1, 1) := by decide +kernel
theorem dL_changes_413 : decode cL_changes 413 = .ok (.bipush 7, 2) := by decide +kernel
theorem dL_changes_415 : decode cL_changes 415 = .ok (.ishr, 1) := by decide +kernel
theorem dL_changes_416 : decode cL_changes 416 = .ok (.iconst 3, 1) := by decide +kernel
theorem dL_changes_417 : decode cL_changes 417 = .ok (.invokestatic 157, 3) := by decide +kernel
theorem dL_changes_420 : decode cL_changes 420 = .ok (.invokevirtual 251, 3) := by decide +kernel
theorem dL_changes_423 : decode cL_changes 423 = .ok (.ldc_w 268, 3) := by decide +kernel
theorem dL_changes_426 : decode cL_changes 426 = .ok (.invokevirtual 248, 3) := by decide +kernel
theorem dL_changes_429 : decode cL_changes 429 = .ok (.iload_n 1, 1) := by decide +kernel
theorem dL_changes_430 : decode cL_changes 430 = .ok (.bipush 9, 2) := by decide +kernel
theorem dL_changes_432 : decode cL_changes 432 = .ok (.ishr, 1) := by decide +kernel
theorem dL_changes_433 : decode cL_changes 433 = .ok (.iconst 4, 1) := by decide +kernel
theorem dL_changes_434 : decode cL_changes 434 = .ok (.invokestatic 157, 3) := by decide +kernel
theorem dL_changes_437 : decode cL_changes 437 = .ok (.invokevirtual 251, 3) := by decide +kernel
theorem dL_changes_440 : decode cL_changes 440 = .ok (.invokevirtual 260, 3) := by decide +kernel
theorem dL_changes_443 : decode cL_changes 443 = .ok (.invokestatic 270, 3) := by decide +kernel
theorem dL_changes_446 : decode cL_changes 446 = .ok (.ifCond .lt 7, 3) := by decide +kernel
theorem dL_changes_449 : decode cL_changes 449 = .ok (.iconst 1, 1) := by decide +kernel
theorem dL_changes_450 : decode cL_changes 450 = .ok (.goto 4, 3) := by decide +kernel
theorem dL_changes_453 : decode cL_changes 453 = .ok (.iconst 0, 1) := by decide +kernel
theorem dL_changes_454 : decode cL_changes 454 = .ok (.ireturn, 1) := by decide +kernel
theorem dL_refused_0 : decode cL_refused 0 = .ok (.aload_n 0, 1) := by decide +kernel
theorem dL_refused_1 : decode cL_refused 1 = .ok (.invokestatic 274, 3) := by decide +kernel
theorem dL_refused_4 : decode cL_refused 4 = .ok (.lstore_n 1, 1) := by decide +kernel
theorem dL_refused_5 : decode cL_refused 5 = .ok (.aload_n 0, 1) := by decide +kernel
theorem dL_refused_6 : decode cL_refused 6 = .ok (.iconst 0, 1) := by decide +kernel
theorem dL_refused_7 : decode cL_refused 7 = .ok (.invokestatic 167, 3) := by decide +kernel
theorem dL_refused_10 : decode cL_refused 10 = .ok (.istore_n 3, 1) := by decide +kernel
theorem dL_refused_11 : decode cL_refused 11 = .ok (.aload_n 0, 1) := by decide +kernel
theorem dL_refused_12 : decode cL_refused 12 = .ok (.iconst 1, 1) := by decide +kernel
theorem dL_refused_13 : decode cL_refused 13 = .ok (.invokestatic 167, 3) := by decide +kernel
theorem dL_refused_16 : decode cL_refused 16 = .ok (.istore 4, 2) := by decide +kernel
theorem dL_refused_18 : decode cL_refused 18 = .ok (.aload_n 0, 1) := by decide +kernel
theorem dL_refused_19 : decode cL_refused 19 = .ok (.iconst 0, 1) := by decide +kernel
theorem dL_refused_20 : decode cL_refused 20 = .ok (.invokestatic 216, 3) := by decide +kernel
theorem dL_refused_23 : decode cL_refused 23 = .ok (.istore 5, 2) := by decide +kernel
theorem dL_refused_25 : decode cL_refused 25 = .ok (.aload_n 0, 1) := by decide +kernel
theorem dL_refused_26 : decode cL_refused 26 = .ok (.iload 5, 2) := by decide +kernel
theorem dL_refused_28 : decode cL_refused 28 = .ok (.iconst 2, 1) := by decide +kernel
theorem dL_refused_29 : decode cL_refused 29 = .ok (.invokestatic 200, 3) := by decide +kernel
theorem dL_refused_32 : decode cL_refused 32 = .ok (.istore 6, 2) := by decide +kernel
theorem dL_refused_34 : decode cL_refused 34 = .ok (.aload_n 0, 1) := by decide +kernel
theorem dL_refused_35 : decode cL_refused 35 = .ok (.iload 4, 2) := by decide +kernel
theorem dL_refused_37 : decode cL_refused 37 = .ok (.iconst 0, 1) := by decide +kernel
theorem dL_refused_38 : decode cL_refused 38 = .ok (.bipush 100, 2) := by decide +kernel
theorem dL_refused_40 : decode cL_refused 40 = .ok (.invokestatic 160, 3) := by decide +kernel
theorem dL_refused_43 : decode cL_refused 43 = .ok (.sipush (-1001), 3) := by decide +kernel
theorem dL_refused_46 : decode cL_refused 46 = .ok (.if_icmp .ne 462, 3) := by decide +kernel
theorem dL_refused_49 : decode cL_refused 49 = .ok (.aload_n 0, 1) := by decide +kernel
theorem dL_refused_50 : decode cL_refused 50 = .ok (.iconst 0, 1) := by decide +kernel
theorem dL_refused_51 : decode cL_refused 51 = .ok (.bipush 6, 2) := by decide +kernel
theorem dL_refused_53 : decode cL_refused 53 = .ok (.bipush 100, 2) := by decide +kernel
theorem dL_refused_55 : decode cL_refused 55 = .ok (.invokestatic 160, 3) := by decide +kernel
theorem dL_refused_58 : decode cL_refused 58 = .ok (.sipush (-1001), 3) := by decide +kernel
theorem dL_refused_61 : decode cL_refused 61 = .ok (.if_icmp .ne 447, 3) := by decide +kernel
theorem dL_refused_64 : decode cL_refused 64 = .ok (.aload_n 0, 1) := by decide +kernel
theorem dL_refused_65 : decode cL_refused 65 = .ok (.iconst 0, 1) := by decide +kernel
theorem dL_refused_66 : decode cL_refused 66 = .ok (.iconst (-1), 1) := by decide +kernel
theorem dL_refused_67 : decode cL_refused 67 = .ok (.iconst 5, 1) := by decide +kernel
theorem dL_refused_68 : decode cL_refused 68 = .ok (.invokestatic 160, 3) := by decide +kernel
theorem dL_refused_71 : decode cL_refused 71 = .ok (.sipush (-1001), 3) := by decide +kernel
theorem dL_refused_74 : decode cL_refused 74 = .ok (.if_icmp .ne 434, 3) := by decide +kernel
theorem dL_refused_77 : decode cL_refused 77 = .ok (.aload_n 0, 1) := by decide +kernel
theorem dL_refused_78 : decode cL_refused 78 = .ok (.iconst 0, 1) := by decide +kernel
theorem dL_refused_79 : decode cL_refused 79 = .ok (.iconst 0, 1) := by decide +kernel
theorem dL_refused_80 : decode cL_refused 80 = .ok (.bipush 100, 2) := by decide +kernel
theorem dL_refused_82 : decode cL_refused 82 = .ok (.invokestatic 160, 3) := by decide +kernel
theorem dL_refused_85 : decode cL_refused 85 = .ok (.sipush (-1002), 3) := by decide +kernel
theorem dL_refused_88 : decode cL_refused 88 = .ok (.if_icmp .ne 420, 3) := by decide +kernel
theorem dL_refused_91 : decode cL_refused 91 = .ok (.aload_n 0, 1) := by decide +kernel
theorem dL_refused_92 : decode cL_refused 92 = .ok (.iconst 0, 1) := by decide +kernel
theorem dL_refused_93 : decode cL_refused 93 = .ok (.iconst 0, 1) := by decide +kernel
theorem dL_refused_94 : decode cL_refused 94 = .ok (.iconst (-1), 1) := by decide +kernel
theorem dL_refused_95 : decode cL_refused 95 = .ok (.invokestatic 160, 3) := by decide +kernel
theorem dL_refused_98 : decode cL_refused 98 = .ok (.sipush (-1002), 3) := by decide +kernel
theorem dL_refused_101 : decode cL_refused 101 = .ok (.if_icmp .ne 407, 3) := by decide +kernel
theorem dL_refused_104 : decode cL_refused 104 = .ok (.aload_n 0, 1) := by decide +kernel
theorem dL_refused_105 : decode cL_refused 105 = .ok (.iconst 0, 1) := by decide +kernel
theorem dL_refused_106 : decode cL_refused 106 = .ok (.iconst 2, 1) := by decide +kernel
theorem dL_refused_107 : decode cL_refused 107 = .ok (.iload 6, 2) := by decide +kernel
theorem dL_refused_109 : decode cL_refused 109 = .ok (.invokestatic 160, 3) := by decide +kernel
theorem dL_refused_112 : decode cL_refused 112 = .ok (.sipush (-1003), 3) := by decide +kernel
theorem dL_refused_115 : decode cL_refused 115 = .ok (.if_icmp .ne 393, 3) := by decide +kernel
theorem dL_refused_118 : decode cL_refused 118 = .ok (.aload_n 0, 1) := by decide +kernel
theorem dL_refused_119 : decode cL_refused 119 = .ok (.iconst 2, 1) := by decide +kernel
theorem dL_refused_120 : decode cL_refused 120 = .ok (.iload 6, 2) := by decide +kernel
theorem dL_refused_122 : decode cL_refused 122 = .ok (.invokestatic 278, 3) := by decide +kernel
theorem dL_refused_125 : decode cL_refused 125 = .ok (.ifCond .eq 383, 3) := by decide +kernel
theorem dL_refused_128 : decode cL_refused 128 = .ok (.aload_n 0, 1) := by decide +kernel
theorem dL_refused_129 : decode cL_refused 129 = .ok (.iload 4, 2) := by decide +kernel
theorem dL_refused_131 : decode cL_refused 131 = .ok (.invokestatic 163, 3) := by decide +kernel
theorem dL_refused_134 : decode cL_refused 134 = .ok (.sipush (-1001), 3) := by decide +kernel
theorem dL_refused_137 : decode cL_refused 137 = .ok (.if_icmp .ne 371, 3) := by decide +kernel
theorem dL_refused_140 : decode cL_refused 140 = .ok (.aload_n 0, 1) := by decide +kernel
theorem dL_refused_141 : decode cL_refused 141 = .ok (.iconst (-1), 1) := by decide +kernel
theorem dL_refused_142 : decode cL_refused 142 = .ok (.invokestatic 163, 3) := by decide +kernel
theorem dL_refused_145 : decode cL_refused 145 = .ok (.sipush (-1001), 3) := by decide +kernel
theorem dL_refused_148 : decode cL_refused 148 = .ok (.if_icmp .ne 360, 3) := by decide +kernel
theorem dL_refused_151 : decode cL_refused 151 = .ok (.aload_n 0, 1) := by decide +kernel
theorem dL_refused_152 : decode cL_refused 152 = .ok (.iload 4, 2) := by decide +kernel
theorem dL_refused_154 : decode cL_refused 154 = .ok (.iconst 0, 1) := by decide +kernel
theorem dL_refused_155 : decode cL_refused 155 = .ok (.invokestatic 233, 3) := by decide +kernel
theorem dL_refused_158 : decode cL_refused 158 = .ok (.sipush (-1001), 3) := by decide +kernel
theorem dL_refused_161 : decode cL_refused 161 = .ok (.if_icmp .ne 347, 3) := by decide +kernel
theorem dL_refused_164 : decode cL_refused 164 = .ok (.aload_n 0, 1) := by decide +kernel
theorem dL_refused_165 : decode cL_refused 165 = .ok (.iconst 0, 1) := by decide +kernel
theorem dL_refused_166 : decode cL_refused 166 = .ok (.iload_n 3, 1) := by decide +kernel
theorem dL_refused_167 : decode cL_refused 167 = .ok (.invokestatic 233, 3) := by decide +kernel
theorem dL_refused_170 : decode cL_refused 170 = .ok (.sipush (-1001), 3) := by decide +kernel
theorem dL_refused_173 : decode cL_refused 173 = .ok (.if_icmp .ne 335, 3) := by decide +kernel
theorem dL_refused_176 : decode cL_refused 176 = .ok (.aload_n 0, 1) := by decide +kernel
theorem dL_refused_177 : decode cL_refused 177 = .ok (.iconst 0, 1) := by decide +kernel
theorem dL_refused_178 : decode cL_refused 178 = .ok (.iload 5, 2) := by decide +kernel
theorem dL_refused_180 : decode cL_refused 180 = .ok (.invokestatic 233, 3) := by decide +kernel
theorem dL_refused_183 : decode cL_refused 183 = .ok (.sipush (-1002), 3) := by decide +kernel
theorem dL_refused_186 : decode cL_refused 186 = .ok (.if_icmp .ne 322, 3) := by decide +kernel
theorem dL_refused_189 : decode cL_refused 189 = .ok (.aload_n 0, 1) := by decide +kernel
theorem dL_refused_190 : decode cL_refused 190 = .ok (.iconst 3, 1) := by decide +kernel
theorem dL_refused_191 : decode cL_refused 191 = .ok (.iload 5, 2) := by decide +kernel
theorem dL_refused_193 : decode cL_refused 193 = .ok (.invokestatic 278, 3) := by decide +kernel
theorem dL_refused_196 : decode cL_refused 196 = .ok (.ifCond .eq 312, 3) := by decide +kernel
theorem dL_refused_199 : decode cL_refused 199 = .ok (.aload_n 0, 1) := by decide +kernel
theorem dL_refused_200 : decode cL_refused 200 = .ok (.iload 4, 2) := by decide +kernel
theorem dL_refused_202 : decode cL_refused 202 = .ok (.iconst 0, 1) := by decide +kernel
theorem dL_refused_203 : decode cL_refused 203 = .ok (.bipush 9, 2) := by decide +kernel
theorem dL_refused_205 : decode cL_refused 205 = .ok (.invokestatic 165, 3) := by decide +kernel
theorem dL_refused_208 : decode cL_refused 208 = .ok (.sipush (-1001), 3) := by decide +kernel
theorem dL_refused_211 : decode cL_refused 211 = .ok (.if_icmp .ne 297, 3) := by decide +kernel
theorem dL_refused_214 : decode cL_refused 214 = .ok (.aload_n 0, 1) := by decide +kernel
theorem dL_refused_215 : decode cL_refused 215 = .ok (.iconst 0, 1) := by decide +kernel
theorem dL_refused_216 : decode cL_refused 216 = .ok (.iconst (-1), 1) := by decide +kernel
theorem dL_refused_217 : decode cL_refused 217 = .ok (.bipush 9, 2) := by decide +kernel
theorem dL_refused_219 : decode cL_refused 219 = .ok (.invokestatic 165, 3) := by decide +kernel
theorem dL_refused_222 : decode cL_refused 222 = .ok (.sipush (-1001), 3) := by decide +kernel
theorem dL_refused_225 : decode cL_refused 225 = .ok (.if_icmp .ne 283, 3) := by decide +kernel
theorem dL_refused_228 : decode cL_refused 228 = .ok (.aload_n 0, 1) := by decide +kernel
theorem dL_refused_229 : decode cL_refused 229 = .ok (.iconst 0, 1) := by decide +kernel
theorem dL_refused_230 : decode cL_refused 230 = .ok (.iconst 0, 1) := by decide +kernel
theorem dL_refused_231 : decode cL_refused 231 = .ok (.iconst 4, 1) := by decide +kernel
theorem dL_refused_232 : decode cL_refused 232 = .ok (.invokestatic 165, 3) := by decide +kernel
theorem dL_refused_235 : decode cL_refused 235 = .ok (.sipush (-1002), 3) := by decide +kernel
theorem dL_refused_238 : decode cL_refused 238 = .ok (.if_icmp .ne 270, 3) := by decide +kernel
theorem dL_refused_241 : decode cL_refused 241 = .ok (.aload_n 0, 1) := by decide +kernel
theorem dL_refused_242 : decode cL_refused 242 = .ok (.iconst 0, 1) := by decide +kernel
theorem dL_refused_243 : decode cL_refused 243 = .ok (.iconst 0, 1) := by decide +kernel
theorem dL_refused_244 : decode cL_refused 244 = .ok (.iconst (-1), 1) := by decide +kernel
theorem dL_refused_245 : decode cL_refused 245 = .ok (.invokestatic 165, 3) := by decide +kernel
theorem dL_refused_248 : decode cL_refused 248 = .ok (.sipush (-1002), 3) := by decide +kernel
theorem dL_refused_251 : decode cL_refused 251 = .ok (.if_icmp .ne 257, 3) := by decide +kernel
theorem dL_refused_254 : decode cL_refused 254 = .ok (.aload_n 0, 1) := by decide +kernel
theorem dL_refused_255 : decode cL_refused 255 = .ok (.iconst 0, 1) := by decide +kernel
theorem dL_refused_256 : decode cL_refused 256 = .ok (.iconst 0, 1) := by decide +kernel
theorem dL_refused_257 : decode cL_refused 257 = .ok (.iconst 0, 1) := by decide +kernel
theorem dL_refused_258 : decode cL_refused 258 = .ok (.invokestatic 165, 3) := by decide +kernel
theorem dL_refused_261 : decode cL_refused 261 = .ok (.sipush (-1003), 3) := by decide +kernel
theorem dL_refused_264 : decode cL_refused 264 = .ok (.if_icmp .ne 244, 3) := by decide +kernel
theorem dL_refused_267 : decode cL_refused 267 = .ok (.aload_n 0, 1) := by decide +kernel
theorem dL_refused_268 : decode cL_refused 268 = .ok (.iconst 4, 1) := by decide +kernel
theorem dL_refused_269 : decode cL_refused 269 = .ok (.iload 5, 2) := by decide +kernel
theorem dL_refused_271 : decode cL_refused 271 = .ok (.invokestatic 278, 3) := by decide +kernel
theorem dL_refused_274 : decode cL_refused 274 = .ok (.ifCond .eq 234, 3) := by decide +kernel
theorem dL_refused_277 : decode cL_refused 277 = .ok (.aload_n 0, 1) := by decide +kernel
theorem dL_refused_278 : decode cL_refused 278 = .ok (.iload 4, 2) := by decide +kernel
theorem dL_refused_280 : decode cL_refused 280 = .ok (.iconst 0, 1) := by decide +kernel
theorem dL_refused_281 : decode cL_refused 281 = .ok (.bipush 9, 2) := by decide +kernel
theorem dL_refused_283 : decode cL_refused 283 = .ok (.invokestatic 169, 3) := by decide +kernel
theorem dL_refused_286 : decode cL_refused 286 = .ok (.sipush (-1001), 3) := by decide +kernel
theorem dL_refused_289 : decode cL_refused 289 = .ok (.if_icmp .ne 219, 3) := by decide +kernel
theorem dL_refused_292 : decode cL_refused 292 = .ok (.aload_n 0, 1) := by decide +kernel
theorem dL_refused_293 : decode cL_refused 293 = .ok (.iconst 0, 1) := by decide +kernel
theorem dL_refused_294 : decode cL_refused 294 = .ok (.iload_n 3, 1) := by decide +kernel
theorem dL_refused_295 : decode cL_refused 295 = .ok (.bipush 9, 2) := by decide +kernel
theorem dL_refused_297 : decode cL_refused 297 = .ok (.invokestatic 169, 3) := by decide +kernel
theorem dL_refused_300 : decode cL_refused 300 = .ok (.sipush (-1001), 3) := by decide +kernel
theorem dL_refused_303 : decode cL_refused 303 = .ok (.if_icmp .ne 205, 3) := by decide +kernel
theorem dL_refused_306 : decode cL_refused 306 = .ok (.aload_n 0, 1) := by decide +kernel
theorem dL_refused_307 : decode cL_refused 307 = .ok (.iconst 0, 1) := by decide +kernel
theorem dL_refused_308 : decode cL_refused 308 = .ok (.iconst 0, 1) := by decide +kernel
theorem dL_refused_309 : decode cL_refused 309 = .ok (.iconst 4, 1) := by decide +kernel
theorem dL_refused_310 : decode cL_refused 310 = .ok (.invokestatic 169, 3) := by decide +kernel
theorem dL_refused_313 : decode cL_refused 313 = .ok (.sipush (-1002), 3) := by decide +kernel
theorem dL_refused_316 : decode cL_refused 316 = .ok (.if_icmp .ne 192, 3) := by decide +kernel
theorem dL_refused_319 : decode cL_refused 319 = .ok (.aload_n 0, 1) := by decide +kernel
theorem dL_refused_320 : decode cL_refused 320 = .ok (.iconst 0, 1) := by decide +kernel
theorem dL_refused_321 : decode cL_refused 321 = .ok (.iload 5, 2) := by decide +kernel
theorem dL_refused_323 : decode cL_refused 323 = .ok (.iconst 0, 1) := by decide +kernel
theorem dL_refused_324 : decode cL_refused 324 = .ok (.invokestatic 169, 3) := by decide +kernel
theorem dL_refused_327 : decode cL_refused 327 = .ok (.sipush (-1003), 3) := by decide +kernel
theorem dL_refused_330 : decode cL_refused 330 = .ok (.if_icmp .ne 178, 3) := by decide +kernel
theorem dL_refused_333 : decode cL_refused 333 = .ok (.aload_n 0, 1) := by decide +kernel
theorem dL_refused_334 : decode cL_refused 334 = .ok (.iconst 4, 1) := by decide +kernel
theorem dL_refused_335 : decode cL_refused 335 = .ok (.iload 5, 2) := by decide +kernel
theorem dL_refused_337 : decode cL_refused 337 = .ok (.invokestatic 278, 3) := by decide +kernel
theorem dL_refused_340 : decode cL_refused 340 = .ok (.ifCond .eq 168, 3) := by decide +kernel
theorem dL_refused_343 : decode cL_refused 343 = .ok (.aload_n 0, 1) := by decide +kernel
theorem dL_refused_344 : decode cL_refused 344 = .ok (.iload 4, 2) := by decide +kernel
theorem dL_refused_346 : decode cL_refused 346 = .ok (.iconst 0, 1) := by decide +kernel
theorem dL_refused_347 : decode cL_refused 347 = .ok (.bipush 9, 2) := by decide +kernel
theorem dL_refused_349 : decode cL_refused 349 = .ok (.invokestatic 235, 3) := by decide +kernel
theorem dL_refused_352 : decode cL_refused 352 = .ok (.sipush (-1001), 3) := by decide +kernel
theorem dL_refused_355 : decode cL_refused 355 = .ok (.if_icmp .ne 153, 3) := by decide +kernel
theorem dL_refused_358 : decode cL_refused 358 = .ok (.aload_n 0, 1) := by decide +kernel
theorem dL_refused_359 : decode cL_refused 359 = .ok (.iconst 0, 1) := by decide +kernel
theorem dL_refused_360 : decode cL_refused 360 = .ok (.iconst (-1), 1) := by decide +kernel
theorem dL_refused_361 : decode cL_refused 361 = .ok (.bipush 9, 2) := by decide +kernel
theorem dL_refused_363 : decode cL_refused 363 = .ok (.invokestatic 235, 3) := by decide +kernel
theorem dL_refused_366 : decode cL_refused 366 = .ok (.sipush (-1001), 3) := by decide +kernel
theorem dL_refused_369 : decode cL_refused 369 = .ok (.if_icmp .ne 139, 3) := by decide +kernel
theorem dL_refused_372 : decode cL_refused 372 = .ok (.aload_n 0, 1) := by decide +kernel
theorem dL_refused_373 : decode cL_refused 373 = .ok (.iconst 0, 1) := by decide +kernel
theorem dL_refused_374 : decode cL_refused 374 = .ok (.iconst 0, 1) := by decide +kernel
theorem dL_refused_375 : decode cL_refused 375 = .ok (.iconst 4, 1) := by decide +kernel
theorem dL_refused_376 : decode cL_refused 376 = .ok (.invokestatic 235, 3) := by decide +kernel
theorem dL_refused_379 : decode cL_refused 379 = .ok (.sipush (-1002), 3) := by decide +kernel
theorem dL_refused_382 : decode cL_refused 382 = .ok (.if_icmp .ne 126, 3) := by decide +kernel
theorem dL_refused_385 : decode cL_refused 385 = .ok (.aload_n 0, 1) := by decide +kernel
theorem dL_refused_386 : decode cL_refused 386 = .ok (.iconst 0, 1) := by decide +kernel
theorem dL_refused_387 : decode cL_refused 387 = .ok (.iconst 0, 1) := by decide +kernel
theorem dL_refused_388 : decode cL_refused 388 = .ok (.iconst 0, 1) := by decide +kernel
theorem dL_refused_389 : decode cL_refused 389 = .ok (.invokestatic 235, 3) := by decide +kernel
theorem dL_refused_392 : decode cL_refused 392 = .ok (.sipush (-1003), 3) := by decide +kernel
theorem dL_refused_395 : decode cL_refused 395 = .ok (.if_icmp .ne 113, 3) := by decide +kernel
theorem dL_refused_398 : decode cL_refused 398 = .ok (.aload_n 0, 1) := by decide +kernel
theorem dL_refused_399 : decode cL_refused 399 = .ok (.bipush 6, 2) := by decide +kernel
theorem dL_refused_401 : decode cL_refused 401 = .ok (.iconst 0, 1) := by decide +kernel
theorem dL_refused_402 : decode cL_refused 402 = .ok (.invokestatic 278, 3) := by decide +kernel
theorem dL_refused_405 : decode cL_refused 405 = .ok (.ifCond .eq 103, 3) := by decide +kernel
theorem dL_refused_408 : decode cL_refused 408 = .ok (.aload_n 0, 1) := by decide +kernel
theorem dL_refused_409 : decode cL_refused 409 = .ok (.iconst 3, 1) := by decide +kernel
theorem dL_refused_410 : decode cL_refused 410 = .ok (.invokestatic 237, 3) := by decide +kernel
theorem dL_refused_413 : decode cL_refused 413 = .ok (.sipush (-1001), 3) := by decide +kernel
theorem dL_refused_416 : decode cL_refused 416 = .ok (.if_icmp .ne 92, 3) := by decide +kernel
theorem dL_refused_419 : decode cL_refused 419 = .ok (.aload_n 0, 1) := by decide +kernel
theorem dL_refused_420 : decode cL_refused 420 = .ok (.iconst (-1), 1) := by decide +kernel
theorem dL_refused_421 : decode cL_refused 421 = .ok (.invokestatic 237, 3) := by decide +kernel
theorem dL_refused_424 : decode cL_refused 424 = .ok (.sipush (-1001), 3) := by decide +kernel
theorem dL_refused_427 : decode cL_refused 427 = .ok (.if_icmp .ne 81, 3) := by decide +kernel
theorem dL_refused_430 : decode cL_refused 430 = .ok (.aload_n 0, 1) := by decide +kernel
theorem dL_refused_431 : decode cL_refused 431 = .ok (.iconst 4, 1) := by decide +kernel
theorem dL_refused_432 : decode cL_refused 432 = .ok (.iconst 0, 1) := by decide +kernel
theorem dL_refused_433 : decode cL_refused 433 = .ok (.invokestatic 239, 3) := by decide +kernel
theorem dL_refused_436 : decode cL_refused 436 = .ok (.sipush (-1001), 3) := by decide +kernel
theorem dL_refused_439 : decode cL_refused 439 = .ok (.if_icmp .ne 69, 3) := by decide +kernel
theorem dL_refused_442 : decode cL_refused 442 = .ok (.aload_n 0, 1) := by decide +kernel
theorem dL_refused_443 : decode cL_refused 443 = .ok (.iconst 0, 1) := by decide +kernel
theorem dL_refused_444 : decode cL_refused 444 = .ok (.iload_n 3, 1) := by decide +kernel
theorem dL_refused_445 : decode cL_refused 445 = .ok (.invokestatic 239, 3) := by decide +kernel
theorem dL_refused_448 : decode cL_refused 448 = .ok (.sipush (-1001), 3) := by decide +kernel
theorem dL_refused_451 : decode cL_refused 451 = .ok (.if_icmp .ne 57, 3) := by decide +kernel
theorem dL_refused_454 : decode cL_refused 454 = .ok (.aload_n 0, 1) := by decide +kernel
theorem dL_refused_455 : decode cL_refused 455 = .ok (.iconst (-1), 1) := by decide +kernel
theorem dL_refused_456 : decode cL_refused 456 = .ok (.iconst 0, 1) := by decide +kernel
theorem dL_refused_457 : decode cL_refused 457 = .ok (.invokestatic 239, 3) := by decide +kernel
theorem dL_refused_460 : decode cL_refused 460 = .ok (.sipush (-1001), 3) := by decide +kernel
theorem dL_refused_463 : decode cL_refused 463 = .ok (.if_icmp .ne 45, 3) := by decide +kernel
theorem dL_refused_466 : decode cL_refused 466 = .ok (.aload_n 0, 1) := by decide +kernel
theorem dL_refused_467 : decode cL_refused 467 = .ok (.iload 4, 2) := by decide +kernel
theorem dL_refused_469 : decode cL_refused 469 = .ok (.bipush 9, 2) := by decide +kernel
theorem dL_refused_471 : decode cL_refused 471 = .ok (.invokestatic 241, 3) := by decide +kernel
theorem dL_refused_474 : decode cL_refused 474 = .ok (.sipush (-1001), 3) := by decide +kernel
theorem dL_refused_477 : decode cL_refused 477 = .ok (.if_icmp .ne 31, 3) := by decide +kernel
theorem dL_refused_480 : decode cL_refused 480 = .ok (.aload_n 0, 1) := by decide +kernel
theorem dL_refused_481 : decode cL_refused 481 = .ok (.iconst 0, 1) := by decide +kernel
theorem dL_refused_482 : decode cL_refused 482 = .ok (.iconst 4, 1) := by decide +kernel
theorem dL_refused_483 : decode cL_refused 483 = .ok (.invokestatic 241, 3) := by decide +kernel
theorem dL_refused_486 : decode cL_refused 486 = .ok (.sipush (-1002), 3) := by decide +kernel
theorem dL_refused_489 : decode cL_refused 489 = .ok (.if_icmp .ne 19, 3) := by decide +kernel
theorem dL_refused_492 : decode cL_refused 492 = .ok (.aload_n 0, 1) := by decide +kernel
theorem dL_refused_493 : decode cL_refused 493 = .ok (.iconst 0, 1) := by decide +kernel
theorem dL_refused_494 : decode cL_refused 494 = .ok (.iconst (-1), 1) := by decide +kernel
theorem dL_refused_495 : decode cL_refused 495 = .ok (.invokestatic 241, 3) := by decide +kernel
theorem dL_refused_498 : decode cL_refused 498 = .ok (.sipush (-1002), 3) := by decide +kernel
theorem dL_refused_501 : decode cL_refused 501 = .ok (.if_icmp .ne 7, 3) := by decide +kernel
theorem dL_refused_504 : decode cL_refused 504 = .ok (.iconst 1, 1) := by decide +kernel
theorem dL_refused_505 : decode cL_refused 505 = .ok (.goto 4, 3) := by decide +kernel
theorem dL_refused_508 : decode cL_refused 508 = .ok (.iconst 0, 1) := by decide +kernel
theorem dL_refused_509 : decode cL_refused 509 = .ok (.istore 7, 2) := by decide +kernel
theorem dL_refused_511 : decode cL_refused 511 = .ok (.iload 7, 2) := by decide +kernel
theorem dL_refused_513 : decode cL_refused 513 = .ok (.ifCond .eq 473, 3) := by decide +kernel
theorem dL_refused_516 : decode cL_refused 516 = .ok (.aload_n 0, 1) := by decide +kernel
theorem dL_refused_517 : decode cL_refused 517 = .ok (.iload 4, 2) := by decide +kernel
theorem dL_refused_519 : decode cL_refused 519 = .ok (.invokestatic 216, 3) := by decide +kernel
theorem dL_refused_522 : decode cL_refused 522 = .ok (.sipush (-1001), 3) := by decide +kernel
theorem dL_refused_525 : decode cL_refused 525 = .ok (.if_icmp .ne 461, 3) := by decide +kernel
theorem dL_refused_528 : decode cL_refused 528 = .ok (.aload_n 0, 1) := by decide +kernel
theorem dL_refused_529 : decode cL_refused 529 = .ok (.iconst (-1), 1) := by decide +kernel
theorem dL_refused_530 : decode cL_refused 530 = .ok (.invokestatic 216, 3) := by decide +kernel
theorem dL_refused_533 : decode cL_refused 533 = .ok (.sipush (-1001), 3) := by decide +kernel
theorem dL_refused_536 : decode cL_refused 536 = .ok (.if_icmp .ne 450, 3) := by decide +kernel
theorem dL_refused_539 : decode cL_refused 539 = .ok (.aload_n 0, 1) := by decide +kernel
theorem dL_refused_540 : decode cL_refused 540 = .ok (.iload_n 3, 1) := by decide +kernel
theorem dL_refused_541 : decode cL_refused 541 = .ok (.iconst 0, 1) := by decide +kernel
theorem dL_refused_542 : decode cL_refused 542 = .ok (.invokestatic 200, 3) := by decide +kernel
theorem dL_refused_545 : decode cL_refused 545 = .ok (.sipush (-1001), 3) := by decide +kernel
theorem dL_refused_548 : decode cL_refused 548 = .ok (.if_icmp .ne 438, 3) := by decide +kernel
theorem dL_refused_551 : decode cL_refused 551 = .ok (.aload_n 0, 1) := by decide +kernel
theorem dL_refused_552 : decode cL_refused 552 = .ok (.iconst 0, 1) := by decide +kernel
theorem dL_refused_553 : decode cL_refused 553 = .ok (.bipush 6, 2) := by decide +kernel
theorem dL_refused_555 : decode cL_refused 555 = .ok (.invokestatic 200, 3) := by decide +kernel
theorem dL_refused_558 : decode cL_refused 558 = .ok (.sipush (-1001), 3) := by decide +kernel
theorem dL_refused_561 : decode cL_refused 561 = .ok (.if_icmp .ne 425, 3) := by decide +kernel
theorem dL_refused_564 : decode cL_refused 564 = .ok (.aload_n 0, 1) := by decide +kernel
theorem dL_refused_565 : decode cL_refused 565 = .ok (.iload_n 3, 1) := by decide +kernel
theorem dL_refused_566 : decode cL_refused 566 = .ok (.bipush 9, 2) := by decide +kernel
theorem dL_refused_568 : decode cL_refused 568 = .ok (.invokestatic 197, 3) := by decide +kernel
theorem dL_refused_571 : decode cL_refused 571 = .ok (.sipush (-1001), 3) := by decide +kernel
theorem dL_refused_574 : decode cL_refused 574 = .ok (.if_icmp .ne 412, 3) := by decide +kernel
theorem dL_refused_577 : decode cL_refused 577 = .ok (.aload_n 0, 1) := by decide +kernel
theorem dL_refused_578 : decode cL_refused 578 = .ok (.iconst 0, 1) := by decide +kernel
theorem dL_refused_579 : decode cL_refused 579 = .ok (.bipush 6, 2) := by decide +kernel
theorem dL_refused_581 : decode cL_refused 581 = .ok (.invokestatic 197, 3) := by decide +kernel
theorem dL_refused_584 : decode cL_refused 584 = .ok (.sipush (-1002), 3) := by decide +kernel
theorem dL_refused_587 : decode cL_refused 587 = .ok (.if_icmp .ne 399, 3) := by decide +kernel
theorem dL_refused_590 : decode cL_refused 590 = .ok (.aload_n 0, 1) := by decide +kernel
theorem dL_refused_591 : decode cL_refused 591 = .ok (.iconst 0, 1) := by decide +kernel
theorem dL_refused_592 : decode cL_refused 592 = .ok (.iconst (-1), 1) := by decide +kernel
theorem dL_refused_593 : decode cL_refused 593 = .ok (.invokestatic 197, 3) := by decide +kernel
theorem dL_refused_596 : decode cL_refused 596 = .ok (.sipush (-1002), 3) := by decide +kernel
theorem dL_refused_599 : decode cL_refused 599 = .ok (.if_icmp .ne 387, 3) := by decide +kernel
theorem dL_refused_602 : decode cL_refused 602 = .ok (.aload_n 0, 1) := by decide +kernel
theorem dL_refused_603 : decode cL_refused 603 = .ok (.iload 4, 2) := by decide +kernel
theorem dL_refused_605 : decode cL_refused 605 = .ok (.iconst 0, 1) := by decide +kernel
theorem dL_refused_606 : decode cL_refused 606 = .ok (.invokestatic 220, 3) := by decide +kernel
theorem dL_refused_609 : decode cL_refused 609 = .ok (.sipush (-1001), 3) := by decide +kernel
theorem dL_refused_612 : decode cL_refused 612 = .ok (.if_icmp .ne 374, 3) := by decide +kernel
theorem dL_refused_615 : decode cL_refused 615 = .ok (.aload_n 0, 1) := by decide +kernel
theorem dL_refused_616 : decode cL_refused 616 = .ok (.iconst 0, 1) := by decide +kernel
theorem dL_refused_617 : decode cL_refused 617 = .ok (.iconst (-1), 1) := by decide +kernel
theorem dL_refused_618 : decode cL_refused 618 = .ok (.invokestatic 220, 3) := by decide +kernel
theorem dL_refused_621 : decode cL_refused 621 = .ok (.sipush (-1001), 3) := by decide +kernel
theorem dL_refused_624 : decode cL_refused 624 = .ok (.if_icmp .ne 362, 3) := by decide +kernel
theorem dL_refused_627 : decode cL_refused 627 = .ok (.aload_n 0, 1) := by decide +kernel
theorem dL_refused_628 : decode cL_refused 628 = .ok (.iload_n 3, 1) := by decide +kernel
theorem dL_refused_629 : decode cL_refused 629 = .ok (.iconst 0, 1) := by decide +kernel
theorem dL_refused_630 : decode cL_refused 630 = .ok (.invokestatic 207, 3) := by decide +kernel
theorem dL_refused_633 : decode cL_refused 633 = .ok (.sipush (-1001), 3) := by decide +kernel
theorem dL_refused_636 : decode cL_refused 636 = .ok (.if_icmp .ne 350, 3) := by decide +kernel
theorem dL_refused_639 : decode cL_refused 639 = .ok (.aload_n 0, 1) := by decide +kernel
theorem dL_refused_640 : decode cL_refused 640 = .ok (.iconst 0, 1) := by decide +kernel
theorem dL_refused_641 : decode cL_refused 641 = .ok (.iconst (-1), 1) := by decide +kernel
theorem dL_refused_642 : decode cL_refused 642 = .ok (.invokestatic 207, 3) := by decide +kernel
theorem dL_refused_645 : decode cL_refused 645 = .ok (.sipush (-1001), 3) := by decide +kernel
theorem dL_refused_648 : decode cL_refused 648 = .ok (.if_icmp .ne 338, 3) := by decide +kernel
theorem dL_refused_651 : decode cL_refused 651 = .ok (.aload_n 0, 1) := by decide +kernel
theorem dL_refused_652 : decode cL_refused 652 = .ok (.iload_n 3, 1) := by decide +kernel
theorem dL_refused_653 : decode cL_refused 653 = .ok (.iconst 0, 1) := by decide +kernel
theorem dL_refused_654 : decode cL_refused 654 = .ok (.invokestatic 210, 3) := by decide +kernel
theorem dL_refused_657 : decode cL_refused 657 = .ok (.sipush (-1001), 3) := by decide +kernel
theorem dL_refused_660 : decode cL_refused 660 = .ok (.if_icmp .ne 326, 3) := by decide +kernel
theorem dL_refused_663 : decode cL_refused 663 = .ok (.aload_n 0, 1) := by decide +kernel
theorem dL_refused_664 : decode cL_refused 664 = .ok (.iconst 0, 1) := by decide +kernel
theorem dL_refused_665 : decode cL_refused 665 = .ok (.iload_n 3, 1) := by decide +kernel
theorem dL_refused_666 : decode cL_refused 666 = .ok (.invokestatic 212, 3) := by decide +kernel
theorem dL_refused_669 : decode cL_refused 669 = .ok (.sipush (-1001), 3) := by decide +kernel
theorem dL_refused_672 : decode cL_refused 672 = .ok (.if_icmp .ne 314, 3) := by decide +kernel
theorem dL_refused_675 : decode cL_refused 675 = .ok (.aload_n 0, 1) := by decide +kernel
theorem dL_refused_676 : decode cL_refused 676 = .ok (.iconst (-1), 1) := by decide +kernel
theorem dL_refused_677 : decode cL_refused 677 = .ok (.iconst 0, 1) := by decide +kernel
theorem dL_refused_678 : decode cL_refused 678 = .ok (.invokestatic 214, 3) := by decide +kernel
theorem dL_refused_681 : decode cL_refused 681 = .ok (.sipush (-1001), 3) := by decide +kernel
theorem dL_refused_684 : decode cL_refused 684 = .ok (.if_icmp .ne 302, 3) := by decide +kernel
theorem dL_refused_687 : decode cL_refused 687 = .ok (.aload_n 0, 1) := by decide +kernel
theorem dL_refused_688 : decode cL_refused 688 = .ok (.iload 4, 2) := by decide +kernel
theorem dL_refused_690 : decode cL_refused 690 = .ok (.iconst 0, 1) := by decide +kernel
theorem dL_refused_691 : decode cL_refused 691 = .ok (.invokestatic 222, 3) := by decide +kernel
theorem dL_refused_694 : decode cL_refused 694 = .ok (.sipush (-1001), 3) := by decide +kernel
theorem dL_refused_697 : decode cL_refused 697 = .ok (.if_icmp .ne 289, 3) := by decide +kernel
theorem dL_refused_700 : decode cL_refused 700 = .ok (.aload_n 0, 1) := by decide +kernel
theorem dL_refused_701 : decode cL_refused 701 = .ok (.iconst 0, 1) := by decide +kernel
theorem dL_refused_702 : decode cL_refused 702 = .ok (.iconst (-1), 1) := by decide +kernel
theorem dL_refused_703 : decode cL_refused 703 = .ok (.invokestatic 222, 3) := by decide +kernel
theorem dL_refused_706 : decode cL_refused 706 = .ok (.sipush (-1002), 3) := by decide +kernel
theorem dL_refused_709 : decode cL_refused 709 = .ok (.if_icmp .ne 277, 3) := by decide +kernel
theorem dL_refused_712 : decode cL_refused 712 = .ok (.aload_n 0, 1) := by decide +kernel
theorem dL_refused_713 : decode cL_refused 713 = .ok (.iconst 0, 1) := by decide +kernel
theorem dL_refused_714 : decode cL_refused 714 = .ok (.bipush 24, 2) := by decide +kernel
theorem dL_refused_716 : decode cL_refused 716 = .ok (.invokestatic 222, 3) := by decide +kernel
theorem dL_refused_719 : decode cL_refused 719 = .ok (.sipush (-1002), 3) := by decide +kernel
theorem dL_refused_722 : decode cL_refused 722 = .ok (.if_icmp .ne 264, 3) := by decide +kernel
theorem dL_refused_725 : decode cL_refused 725 = .ok (.aload_n 0, 1) := by decide +kernel
theorem dL_refused_726 : decode cL_refused 726 = .ok (.iload 4, 2) := by decide +kernel
theorem dL_refused_728 : decode cL_refused 728 = .ok (.iconst 0, 1) := by decide +kernel
theorem dL_refused_729 : decode cL_refused 729 = .ok (.bipush 100, 2) := by decide +kernel
theorem dL_refused_731 : decode cL_refused 731 = .ok (.iconst 1, 1) := by decide +kernel
theorem dL_refused_732 : decode cL_refused 732 = .ok (.invokestatic 228, 3) := by decide +kernel
theorem dL_refused_735 : decode cL_refused 735 = .ok (.sipush (-1001), 3) := by decide +kernel
theorem dL_refused_738 : decode cL_refused 738 = .ok (.if_icmp .ne 248, 3) := by decide +kernel
theorem dL_refused_741 : decode cL_refused 741 = .ok (.aload_n 0, 1) := by decide +kernel
theorem dL_refused_742 : decode cL_refused 742 = .ok (.iconst 0, 1) := by decide +kernel
theorem dL_refused_743 : decode cL_refused 743 = .ok (.bipush 6, 2) := by decide +kernel
theorem dL_refused_745 : decode cL_refused 745 = .ok (.bipush 100, 2) := by decide +kernel
theorem dL_refused_747 : decode cL_refused 747 = .ok (.iconst 1, 1) := by decide +kernel
theorem dL_refused_748 : decode cL_refused 748 = .ok (.invokestatic 228, 3) := by decide +kernel
theorem dL_refused_751 : decode cL_refused 751 = .ok (.sipush (-1001), 3) := by decide +kernel
theorem dL_refused_754 : decode cL_refused 754 = .ok (.if_icmp .ne 232, 3) := by decide +kernel
theorem dL_refused_757 : decode cL_refused 757 = .ok (.aload_n 0, 1) := by decide +kernel
theorem dL_refused_758 : decode cL_refused 758 = .ok (.iconst 0, 1) := by decide +kernel
theorem dL_refused_759 : decode cL_refused 759 = .ok (.iconst 0, 1) := by decide +kernel
theorem dL_refused_760 : decode cL_refused 760 = .ok (.bipush 100, 2) := by decide +kernel
theorem dL_refused_762 : decode cL_refused 762 = .ok (.iconst 0, 1) := by decide +kernel
theorem dL_refused_763 : decode cL_refused 763 = .ok (.invokestatic 228, 3) := by decide +kernel
theorem dL_refused_766 : decode cL_refused 766 = .ok (.sipush (-1002), 3) := by decide +kernel
theorem dL_refused_769 : decode cL_refused 769 = .ok (.if_icmp .ne 217, 3) := by decide +kernel
theorem dL_refused_772 : decode cL_refused 772 = .ok (.aload_n 0, 1) := by decide +kernel
theorem dL_refused_773 : decode cL_refused 773 = .ok (.iconst 0, 1) := by decide +kernel
theorem dL_refused_774 : decode cL_refused 774 = .ok (.iconst 0, 1) := by decide +kernel
theorem dL_refused_775 : decode cL_refused 775 = .ok (.iconst (-1), 1) := by decide +kernel
theorem dL_refused_776 : decode cL_refused 776 = .ok (.iconst 0, 1) := by decide +kernel
theorem dL_refused_777 : decode cL_refused 777 = .ok (.invokestatic 228, 3) := by decide +kernel
theorem dL_refused_780 : decode cL_refused 780 = .ok (.sipush (-1002), 3) := by decide +kernel
theorem dL_refused_783 : decode cL_refused 783 = .ok (.if_icmp .ne 203, 3) := by decide +kernel
theorem dL_refused_786 : decode cL_refused 786 = .ok (.aload_n 0, 1) := by decide +kernel
theorem dL_refused_787 : decode cL_refused 787 = .ok (.iconst 0, 1) := by decide +kernel
theorem dL_refused_788 : decode cL_refused 788 = .ok (.iconst 0, 1) := by decide +kernel
theorem dL_refused_789 : decode cL_refused 789 = .ok (.bipush 99, 2) := by decide +kernel
theorem dL_refused_791 : decode cL_refused 791 = .ok (.iconst 1, 1) := by decide +kernel
theorem dL_refused_792 : decode cL_refused 792 = .ok (.invokestatic 228, 3) := by decide +kernel
theorem dL_refused_795 : decode cL_refused 795 = .ok (.sipush (-1003), 3) := by decide +kernel
theorem dL_refused_798 : decode cL_refused 798 = .ok (.if_icmp .ne 188, 3) := by decide +kernel
theorem dL_refused_801 : decode cL_refused 801 = .ok (.aload_n 0, 1) := by decide +kernel
theorem dL_refused_802 : decode cL_refused 802 = .ok (.iload 4, 2) := by decide +kernel
theorem dL_refused_804 : decode cL_refused 804 = .ok (.iconst 0, 1) := by decide +kernel
theorem dL_refused_805 : decode cL_refused 805 = .ok (.bipush 100, 2) := by decide +kernel
theorem dL_refused_807 : decode cL_refused 807 = .ok (.invokestatic 226, 3) := by decide +kernel
theorem dL_refused_810 : decode cL_refused 810 = .ok (.sipush (-1001), 3) := by decide +kernel
theorem dL_refused_813 : decode cL_refused 813 = .ok (.if_icmp .ne 173, 3) := by decide +kernel
theorem dL_refused_816 : decode cL_refused 816 = .ok (.aload_n 0, 1) := by decide +kernel
theorem dL_refused_817 : decode cL_refused 817 = .ok (.iconst 0, 1) := by decide +kernel
theorem dL_refused_818 : decode cL_refused 818 = .ok (.iconst 0, 1) := by decide +kernel
theorem dL_refused_819 : decode cL_refused 819 = .ok (.bipush 100, 2) := by decide +kernel
theorem dL_refused_821 : decode cL_refused 821 = .ok (.invokestatic 226, 3) := by decide +kernel
theorem dL_refused_824 : decode cL_refused 824 = .ok (.sipush (-1002), 3) := by decide +kernel
theorem dL_refused_827 : decode cL_refused 827 = .ok (.if_icmp .ne 159, 3) := by decide +kernel
theorem dL_refused_830 : decode cL_refused 830 = .ok (.aload_n 0, 1) := by decide +kernel
theorem dL_refused_831 : decode cL_refused 831 = .ok (.iconst 0, 1) := by decide +kernel
theorem dL_refused_832 : decode cL_refused 832 = .ok (.iconst 0, 1) := by decide +kernel
theorem dL_refused_833 : decode cL_refused 833 = .ok (.bipush 99, 2) := by decide +kernel
theorem dL_refused_835 : decode cL_refused 835 = .ok (.invokestatic 226, 3) := by decide +kernel
theorem dL_refused_838 : decode cL_refused 838 = .ok (.sipush (-1003), 3) := by decide +kernel
theorem dL_refused_841 : decode cL_refused 841 = .ok (.if_icmp .ne 145, 3) := by decide +kernel
theorem dL_refused_844 : decode cL_refused 844 = .ok (.aload_n 0, 1) := by decide +kernel
theorem dL_refused_845 : decode cL_refused 845 = .ok (.iload 4, 2) := by decide +kernel
theorem dL_refused_847 : decode cL_refused 847 = .ok (.iconst 0, 1) := by decide +kernel
theorem dL_refused_848 : decode cL_refused 848 = .ok (.invokestatic 224, 3) := by decide +kernel
theorem dL_refused_851 : decode cL_refused 851 = .ok (.sipush (-1001), 3) := by decide +kernel
theorem dL_refused_854 : decode cL_refused 854 = .ok (.if_icmp .ne 132, 3) := by decide +kernel
theorem dL_refused_857 : decode cL_refused 857 = .ok (.aload_n 0, 1) := by decide +kernel
theorem dL_refused_858 : decode cL_refused 858 = .ok (.iconst 0, 1) := by decide +kernel
theorem dL_refused_859 : decode cL_refused 859 = .ok (.iconst (-1), 1) := by decide +kernel
theorem dL_refused_860 : decode cL_refused 860 = .ok (.invokestatic 224, 3) := by decide +kernel
theorem dL_refused_863 : decode cL_refused 863 = .ok (.sipush (-1001), 3) := by decide +kernel
theorem dL_refused_866 : decode cL_refused 866 = .ok (.if_icmp .ne 120, 3) := by decide +kernel
theorem dL_refused_869 : decode cL_refused 869 = .ok (.aload_n 0, 1) := by decide +kernel
theorem dL_refused_870 : decode cL_refused 870 = .ok (.iload_n 3, 1) := by decide +kernel
theorem dL_refused_871 : decode cL_refused 871 = .ok (.invokestatic 204, 3) := by decide +kernel
theorem dL_refused_874 : decode cL_refused 874 = .ok (.ldc 80, 2) := by decide +kernel
theorem dL_refused_876 : decode cL_refused 876 = .ok (.fcmp .l, 1) := by decide +kernel
theorem dL_refused_877 : decode cL_refused 877 = .ok (.ifCond .ne 109, 3) := by decide +kernel
theorem dL_refused_880 : decode cL_refused 880 = .ok (.aload_n 0, 1) := by decide +kernel
theorem dL_refused_881 : decode cL_refused 881 = .ok (.iconst (-1), 1) := by decide +kernel
theorem dL_refused_882 : decode cL_refused 882 = .ok (.invokestatic 202, 3) := by decide +kernel
theorem dL_refused_885 : decode cL_refused 885 = .ok (.sipush (-1001), 3) := by decide +kernel
theorem dL_refused_888 : decode cL_refused 888 = .ok (.if_icmp .ne 98, 3) := by decide +kernel
theorem dL_refused_891 : decode cL_refused 891 = .ok (.aload_n 0, 1) := by decide +kernel
theorem dL_refused_892 : decode cL_refused 892 = .ok (.iload 4, 2) := by decide +kernel
theorem dL_refused_894 : decode cL_refused 894 = .ok (.invokestatic 218, 3) := by decide +kernel
theorem dL_refused_897 : decode cL_refused 897 = .ok (.sipush (-1001), 3) := by decide +kernel
theorem dL_refused_900 : decode cL_refused 900 = .ok (.if_icmp .ne 86, 3) := by decide +kernel
theorem dL_refused_903 : decode cL_refused 903 = .ok (.aload_n 0, 1) := by decide +kernel
theorem dL_refused_904 : decode cL_refused 904 = .ok (.iconst 4, 1) := by decide +kernel
theorem dL_refused_905 : decode cL_refused 905 = .ok (.invokestatic 231, 3) := by decide +kernel
theorem dL_refused_908 : decode cL_refused 908 = .ok (.sipush (-1001), 3) := by decide +kernel
theorem dL_refused_911 : decode cL_refused 911 = .ok (.if_icmp .ne 75, 3) := by decide +kernel
theorem dL_refused_914 : decode cL_refused 914 = .ok (.aload_n 0, 1) := by decide +kernel
theorem dL_refused_915 : decode cL_refused 915 = .ok (.iconst (-1), 1) := by decide +kernel
theorem dL_refused_916 : decode cL_refused 916 = .ok (.invokestatic 231, 3) := by decide +kernel
theorem dL_refused_919 : decode cL_refused 919 = .ok (.sipush (-1001), 3) := by decide +kernel
theorem dL_refused_922 : decode cL_refused 922 = .ok (.if_icmp .ne 64, 3) := by decide +kernel
theorem dL_refused_925 : decode cL_refused 925 = .ok (.aload_n 0, 1) := by decide +kernel
theorem dL_refused_926 : decode cL_refused 926 = .ok (.iload_n 3, 1) := by decide +kernel
theorem dL_refused_927 : decode cL_refused 927 = .ok (.invokestatic 148, 3) := by decide +kernel
theorem dL_refused_930 : decode cL_refused 930 = .ok (.sipush (-1001), 3) := by decide +kernel
theorem dL_refused_933 : decode cL_refused 933 = .ok (.if_icmp .ne 53, 3) := by decide +kernel
theorem dL_refused_936 : decode cL_refused 936 = .ok (.aload_n 0, 1) := by decide +kernel
theorem dL_refused_937 : decode cL_refused 937 = .ok (.iconst (-1), 1) := by decide +kernel
theorem dL_refused_938 : decode cL_refused 938 = .ok (.invokestatic 151, 3) := by decide +kernel
theorem dL_refused_941 : decode cL_refused 941 = .ok (.sipush (-1001), 3) := by decide +kernel
theorem dL_refused_944 : decode cL_refused 944 = .ok (.if_icmp .ne 42, 3) := by decide +kernel
theorem dL_refused_947 : decode cL_refused 947 = .ok (.aload_n 0, 1) := by decide +kernel
theorem dL_refused_948 : decode cL_refused 948 = .ok (.bipush 40, 2) := by decide +kernel
theorem dL_refused_950 : decode cL_refused 950 = .ok (.invokestatic 151, 3) := by decide +kernel
theorem dL_refused_953 : decode cL_refused 953 = .ok (.sipush (-1001), 3) := by decide +kernel
theorem dL_refused_956 : decode cL_refused 956 = .ok (.if_icmp .ne 30, 3) := by decide +kernel
theorem dL_refused_959 : decode cL_refused 959 = .ok (.aload_n 0, 1) := by decide +kernel
theorem dL_refused_960 : decode cL_refused 960 = .ok (.bipush 11, 2) := by decide +kernel
theorem dL_refused_962 : decode cL_refused 962 = .ok (.invokestatic 167, 3) := by decide +kernel
theorem dL_refused_965 : decode cL_refused 965 = .ok (.sipush (-1001), 3) := by decide +kernel
theorem dL_refused_968 : decode cL_refused 968 = .ok (.if_icmp .ne 18, 3) := by decide +kernel
theorem dL_refused_971 : decode cL_refused 971 = .ok (.aload_n 0, 1) := by decide +kernel
theorem dL_refused_972 : decode cL_refused 972 = .ok (.iconst (-1), 1) := by decide +kernel
theorem dL_refused_973 : decode cL_refused 973 = .ok (.invokestatic 167, 3) := by decide +kernel
theorem dL_refused_976 : decode cL_refused 976 = .ok (.sipush (-1001), 3) := by decide +kernel
theorem dL_refused_979 : decode cL_refused 979 = .ok (.if_icmp .ne 7, 3) := by decide +kernel
theorem dL_refused_982 : decode cL_refused 982 = .ok (.iconst 1, 1) := by decide +kernel
theorem dL_refused_983 : decode cL_refused 983 = .ok (.goto 4, 3) := by decide +kernel
theorem dL_refused_986 : decode cL_refused 986 = .ok (.iconst 0, 1) := by decide +kernel
theorem dL_refused_987 : decode cL_refused 987 = .ok (.istore 7, 2) := by decide +kernel
theorem dL_refused_989 : decode cL_refused 989 = .ok (.iload 7, 2) := by decide +kernel
theorem dL_refused_991 : decode cL_refused 991 = .ok (.ifCond .eq 101, 3) := by decide +kernel
theorem dL_refused_994 : decode cL_refused 994 = .ok (.aload_n 0, 1) := by decide +kernel
theorem dL_refused_995 : decode cL_refused 995 = .ok (.ldc_w 282, 3) := by decide +kernel
theorem dL_refused_998 : decode cL_refused 998 = .ok (.invokestatic 270, 3) := by decide +kernel
theorem dL_refused_1001 : decode cL_refused 1001 = .ok (.sipush (-1001), 3) := by decide +kernel
theorem dL_refused_1004 : decode cL_refused 1004 = .ok (.if_icmp .ne 88, 3) := by decide +kernel
theorem dL_refused_1007 : decode cL_refused 1007 = .ok (.aload_n 0, 1) := by decide +kernel
theorem dL_refused_1008 : decode cL_refused 1008 = .ok (.invokevirtual 284, 3) := by decide +kernel
theorem dL_refused_1011 : decode cL_refused 1011 = .ok (.ifCond .ne 81, 3) := by decide +kernel
theorem dL_refused_1014 : decode cL_refused 1014 = .ok (.aload_n 0, 1) := by decide +kernel
theorem dL_refused_1015 : decode cL_refused 1015 = .ok (.ldc_w 287, 3) := by decide +kernel
theorem dL_refused_1018 : decode cL_refused 1018 = .ok (.invokestatic 270, 3) := by decide +kernel
theorem dL_refused_1021 : decode cL_refused 1021 = .ok (.sipush (-1001), 3) := by decide +kernel
theorem dL_refused_1024 : decode cL_refused 1024 = .ok (.if_icmp .ne 68, 3) := by decide +kernel
theorem dL_refused_1027 : decode cL_refused 1027 = .ok (.aload_n 0, 1) := by decide +kernel
theorem dL_refused_1028 : decode cL_refused 1028 = .ok (.invokevirtual 284, 3) := by decide +kernel
theorem dL_refused_1031 : decode cL_refused 1031 = .ok (.iconst (-1), 1) := by decide +kernel
theorem dL_refused_1032 : decode cL_refused 1032 = .ok (.if_icmp .ne 60, 3) := by decide +kernel
theorem dL_refused_1035 : decode cL_refused 1035 = .ok (.aload_n 0, 1) := by decide +kernel
theorem dL_refused_1036 : decode cL_refused 1036 = .ok (.ldc_w 289, 3) := by decide +kernel
theorem dL_refused_1039 : decode cL_refused 1039 = .ok (.invokestatic 270, 3) := by decide +kernel
theorem dL_refused_1042 : decode cL_refused 1042 = .ok (.sipush (-1002), 3) := by decide +kernel
theorem dL_refused_1045 : decode cL_refused 1045 = .ok (.if_icmp .ne 47, 3) := by decide +kernel
theorem dL_refused_1048 : decode cL_refused 1048 = .ok (.aload_n 0, 1) := by decide +kernel
theorem dL_refused_1049 : decode cL_refused 1049 = .ok (.iconst 1, 1) := by decide +kernel
theorem dL_refused_1050 : decode cL_refused 1050 = .ok (.iconst 5, 1) := by decide +kernel
theorem dL_refused_1051 : decode cL_refused 1051 = .ok (.invokestatic 278, 3) := by decide +kernel
theorem dL_refused_1054 : decode cL_refused 1054 = .ok (.ifCond .eq 38, 3) := by decide +kernel
theorem dL_refused_1057 : decode cL_refused 1057 = .ok (.aload_n 0, 1) := by decide +kernel
theorem dL_refused_1058 : decode cL_refused 1058 = .ok (.ldc_w 291, 3) := by decide +kernel
theorem dL_refused_1061 : decode cL_refused 1061 = .ok (.invokestatic 270, 3) := by decide +kernel
theorem dL_refused_1064 : decode cL_refused 1064 = .ok (.sipush (-1002), 3) := by decide +kernel
theorem dL_refused_1067 : decode cL_refused 1067 = .ok (.if_icmp .ne 25, 3) := by decide +kernel
theorem dL_refused_1070 : decode cL_refused 1070 = .ok (.aload_n 0, 1) := by decide +kernel
theorem dL_refused_1071 : decode cL_refused 1071 = .ok (.iconst 3, 1) := by decide +kernel
theorem dL_refused_1072 : decode cL_refused 1072 = .ok (.iconst 0, 1) := by decide +kernel
theorem dL_refused_1073 : decode cL_refused 1073 = .ok (.invokestatic 278, 3) := by decide +kernel
theorem dL_refused_1076 : decode cL_refused 1076 = .ok (.ifCond .eq 16, 3) := by decide +kernel
theorem dL_refused_1079 : decode cL_refused 1079 = .ok (.aload_n 0, 1) := by decide +kernel
theorem dL_refused_1080 : decode cL_refused 1080 = .ok (.invokestatic 274, 3) := by decide +kernel
theorem dL_refused_1083 : decode cL_refused 1083 = .ok (.lload_n 1, 1) := by decide +kernel
theorem dL_refused_1084 : decode cL_refused 1084 = .ok (.lcmp, 1) := by decide +kernel
theorem dL_refused_1085 : decode cL_refused 1085 = .ok (.ifCond .ne 7, 3) := by decide +kernel
theorem dL_refused_1088 : decode cL_refused 1088 = .ok (.iconst 1, 1) := by decide +kernel
theorem dL_refused_1089 : decode cL_refused 1089 = .ok (.goto 4, 3) := by decide +kernel
theorem dL_refused_1092 : decode cL_refused 1092 = .ok (.iconst 0, 1) := by decide +kernel
theorem dL_refused_1093 : decode cL_refused 1093 = .ok (.ireturn, 1) := by decide +kernel
