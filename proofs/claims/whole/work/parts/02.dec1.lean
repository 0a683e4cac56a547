theorem dX5_trace_26 : decode cX5_trace 26 = .ok (.iload_n 3, 1) := by decide +kernel
theorem dX5_trace_27 : decode cX5_trace 27 = .ok (.iaload, 1) := by decide +kernel
theorem dX5_trace_28 : decode cX5_trace 28 = .ok (.sipush 10000, 3) := by decide +kernel
theorem dX5_trace_31 : decode cX5_trace 31 = .ok (.if_icmp .ne 5, 3) := by decide +kernel
theorem dX5_trace_34 : decode cX5_trace 34 = .ok (.iconst 0, 1) := by decide +kernel
theorem dX5_trace_35 : decode cX5_trace 35 = .ok (.ireturn, 1) := by decide +kernel
theorem dX5_trace_36 : decode cX5_trace 36 = .ok (.iload_n 3, 1) := by decide +kernel
theorem dX5_trace_37 : decode cX5_trace 37 = .ok (.istore 5, 2) := by decide +kernel
theorem dX5_trace_39 : decode cX5_trace 39 = .ok (.iload 4, 2) := by decide +kernel
theorem dX5_trace_41 : decode cX5_trace 41 = .ok (.istore 6, 2) := by decide +kernel
theorem dX5_trace_43 : decode cX5_trace 43 = .ok (.iload 6, 2) := by decide +kernel
theorem dX5_trace_45 : decode cX5_trace 45 = .ok (.ifCond .lt 66, 3) := by decide +kernel
theorem dX5_trace_48 : decode cX5_trace 48 = .ok (.iload 5, 2) := by decide +kernel
theorem dX5_trace_50 : decode cX5_trace 50 = .ok (.iload_n 1, 1) := by decide +kernel
theorem dX5_trace_51 : decode cX5_trace 51 = .ok (.if_icmp .eq 60, 3) := by decide +kernel
theorem dX5_trace_54 : decode cX5_trace 54 = .ok (.aload_n 0, 1) := by decide +kernel
theorem dX5_trace_55 : decode cX5_trace 55 = .ok (.getfield 15, 3) := by decide +kernel
theorem dX5_trace_58 : decode cX5_trace 58 = .ok (.getfield 43, 3) := by decide +kernel
theorem dX5_trace_61 : decode cX5_trace 61 = .ok (.iload 6, 2) := by decide +kernel
theorem dX5_trace_63 : decode cX5_trace 63 = .ok (.aaload, 1) := by decide +kernel
theorem dX5_trace_64 : decode cX5_trace 64 = .ok (.iload 5, 2) := by decide +kernel
theorem dX5_trace_66 : decode cX5_trace 66 = .ok (.iaload, 1) := by decide +kernel
theorem dX5_trace_67 : decode cX5_trace 67 = .ok (.istore 7, 2) := by decide +kernel
theorem dX5_trace_69 : decode cX5_trace 69 = .ok (.aload_n 0, 1) := by decide +kernel
theorem dX5_trace_70 : decode cX5_trace 70 = .ok (.iload 6, 2) := by decide +kernel
theorem dX5_trace_72 : decode cX5_trace 72 = .ok (.iload 5, 2) := by decide +kernel
theorem dX5_trace_74 : decode cX5_trace 74 = .ok (.iload 7, 2) := by decide +kernel
theorem dX5_trace_76 : decode cX5_trace 76 = .ok (.invokevirtual 46, 3) := by decide +kernel
theorem dX5_trace_79 : decode cX5_trace 79 = .ok (.ifCond .eq 14, 3) := by decide +kernel
theorem dX5_trace_82 : decode cX5_trace 82 = .ok (.aload_n 0, 1) := by decide +kernel
theorem dX5_trace_83 : decode cX5_trace 83 = .ok (.iload 5, 2) := by decide +kernel
theorem dX5_trace_85 : decode cX5_trace 85 = .ok (.invokevirtual 50, 3) := by decide +kernel
theorem dX5_trace_88 : decode cX5_trace 88 = .ok (.istore 5, 2) := by decide +kernel
theorem dX5_trace_90 : decode cX5_trace 90 = .ok (.goto 15, 3) := by decide +kernel
theorem dX5_trace_93 : decode cX5_trace 93 = .ok (.aload_n 0, 1) := by decide +kernel
theorem dX5_trace_94 : decode cX5_trace 94 = .ok (.iload 6, 2) := by decide +kernel
theorem dX5_trace_96 : decode cX5_trace 96 = .ok (.iload_n 1, 1) := by decide +kernel
theorem dX5_trace_97 : decode cX5_trace 97 = .ok (.iload_n 2, 1) := by decide +kernel
theorem dX5_trace_98 : decode cX5_trace 98 = .ok (.iload 5, 2) := by decide +kernel
theorem dX5_trace_100 : decode cX5_trace 100 = .ok (.invokevirtual 54, 3) := by decide +kernel
theorem dX5_trace_103 : decode cX5_trace 103 = .ok (.istore 5, 2) := by decide +kernel
theorem dX5_trace_105 : decode cX5_trace 105 = .ok (.iinc 6 (-1), 3) := by decide +kernel
theorem dX5_trace_108 : decode cX5_trace 108 = .ok (.goto (-65), 3) := by decide +kernel
theorem dX5_trace_111 : decode cX5_trace 111 = .ok (.iconst 1, 1) := by decide +kernel
theorem dX5_trace_112 : decode cX5_trace 112 = .ok (.ireturn, 1) := by decide +kernel
theorem dX5_findRide_0 : decode cX5_findRide 0 = .ok (.iload_n 1, 1) := by decide +kernel
theorem dX5_findRide_1 : decode cX5_findRide 1 = .ok (.iconst 1, 1) := by decide +kernel
theorem dX5_findRide_2 : decode cX5_findRide 2 = .ok (.if_icmp .ge 5, 3) := by decide +kernel
theorem dX5_findRide_5 : decode cX5_findRide 5 = .ok (.iconst 0, 1) := by decide +kernel
theorem dX5_findRide_6 : decode cX5_findRide 6 = .ok (.ireturn, 1) := by decide +kernel
theorem dX5_findRide_7 : decode cX5_findRide 7 = .ok (.aload_n 0, 1) := by decide +kernel
theorem dX5_findRide_8 : decode cX5_findRide 8 = .ok (.getfield 15, 3) := by decide +kernel
theorem dX5_findRide_11 : decode cX5_findRide 11 = .ok (.getfield 43, 3) := by decide +kernel
theorem dX5_findRide_14 : decode cX5_findRide 14 = .ok (.iload_n 1, 1) := by decide +kernel
theorem dX5_findRide_15 : decode cX5_findRide 15 = .ok (.iconst 1, 1) := by decide +kernel
theorem dX5_findRide_16 : decode cX5_findRide 16 = .ok (.isub, 1) := by decide +kernel
theorem dX5_findRide_17 : decode cX5_findRide 17 = .ok (.aaload, 1) := by decide +kernel
theorem dX5_findRide_18 : decode cX5_findRide 18 = .ok (.astore 4, 2) := by decide +kernel
theorem dX5_findRide_20 : decode cX5_findRide 20 = .ok (.iconst 0, 1) := by decide +kernel
theorem dX5_findRide_21 : decode cX5_findRide 21 = .ok (.istore 5, 2) := by decide +kernel
theorem dX5_findRide_23 : decode cX5_findRide 23 = .ok (.iload 5, 2) := by decide +kernel
theorem dX5_findRide_25 : decode cX5_findRide 25 = .ok (.aload_n 0, 1) := by decide +kernel
theorem dX5_findRide_26 : decode cX5_findRide 26 = .ok (.getfield 9, 3) := by decide +kernel
theorem dX5_findRide_29 : decode cX5_findRide 29 = .ok (.getfield 58, 3) := by decide +kernel
theorem dX5_findRide_32 : decode cX5_findRide 32 = .ok (.if_icmp .ge 105, 3) := by decide +kernel
theorem dX5_findRide_35 : decode cX5_findRide 35 = .ok (.aload_n 0, 1) := by decide +kernel
theorem dX5_findRide_36 : decode cX5_findRide 36 = .ok (.getfield 9, 3) := by decide +kernel
theorem dX5_findRide_39 : decode cX5_findRide 39 = .ok (.iload 5, 2) := by decide +kernel
theorem dX5_findRide_41 : decode cX5_findRide 41 = .ok (.iload_n 2, 1) := by decide +kernel
theorem dX5_findRide_42 : decode cX5_findRide 42 = .ok (.invokevirtual 63, 3) := by decide +kernel
theorem dX5_findRide_45 : decode cX5_findRide 45 = .ok (.istore 6, 2) := by decide +kernel
theorem dX5_findRide_47 : decode cX5_findRide 47 = .ok (.iload 6, 2) := by decide +kernel
theorem dX5_findRide_49 : decode cX5_findRide 49 = .ok (.iconst 1, 1) := by decide +kernel
theorem dX5_findRide_50 : decode cX5_findRide 50 = .ok (.if_icmp .ge 6, 3) := by decide +kernel
theorem dX5_findRide_53 : decode cX5_findRide 53 = .ok (.goto 78, 3) := by decide +kernel
theorem dX5_findRide_56 : decode cX5_findRide 56 = .ok (.iconst 0, 1) := by decide +kernel
theorem dX5_findRide_57 : decode cX5_findRide 57 = .ok (.istore 7, 2) := by decide +kernel
theorem dX5_findRide_59 : decode cX5_findRide 59 = .ok (.iload 7, 2) := by decide +kernel
theorem dX5_findRide_61 : decode cX5_findRide 61 = .ok (.aload_n 0, 1) := by decide +kernel
theorem dX5_findRide_62 : decode cX5_findRide 62 = .ok (.getfield 9, 3) := by decide +kernel
theorem dX5_findRide_65 : decode cX5_findRide 65 = .ok (.getfield 67, 3) := by decide +kernel
theorem dX5_findRide_68 : decode cX5_findRide 68 = .ok (.iload 5, 2) := by decide +kernel
theorem dX5_findRide_70 : decode cX5_findRide 70 = .ok (.iaload, 1) := by decide +kernel
theorem dX5_findRide_71 : decode cX5_findRide 71 = .ok (.if_icmp .ge 60, 3) := by decide +kernel
theorem dX5_findRide_74 : decode cX5_findRide 74 = .ok (.aload_n 0, 1) := by decide +kernel
theorem dX5_findRide_75 : decode cX5_findRide 75 = .ok (.getfield 9, 3) := by decide +kernel
theorem dX5_findRide_78 : decode cX5_findRide 78 = .ok (.iload 5, 2) := by decide +kernel
theorem dX5_findRide_80 : decode cX5_findRide 80 = .ok (.iload 7, 2) := by decide +kernel
theorem dX5_findRide_82 : decode cX5_findRide 82 = .ok (.invokevirtual 71, 3) := by decide +kernel
theorem dX5_findRide_85 : decode cX5_findRide 85 = .ok (.ifCond .eq 40, 3) := by decide +kernel
theorem dX5_findRide_88 : decode cX5_findRide 88 = .ok (.aload_n 0, 1) := by decide +kernel
theorem dX5_findRide_89 : decode cX5_findRide 89 = .ok (.getfield 9, 3) := by decide +kernel
theorem dX5_findRide_92 : decode cX5_findRide 92 = .ok (.iload 5, 2) := by decide +kernel
theorem dX5_findRide_94 : decode cX5_findRide 94 = .ok (.iload 7, 2) := by decide +kernel
theorem dX5_findRide_96 : decode cX5_findRide 96 = .ok (.iload 6, 2) := by decide +kernel
theorem dX5_findRide_98 : decode cX5_findRide 98 = .ok (.invokevirtual 75, 3) := by decide +kernel
theorem dX5_findRide_101 : decode cX5_findRide 101 = .ok (.iload_n 3, 1) := by decide +kernel
theorem dX5_findRide_102 : decode cX5_findRide 102 = .ok (.if_icmp .eq 6, 3) := by decide +kernel
theorem dX5_findRide_105 : decode cX5_findRide 105 = .ok (.goto 20, 3) := by decide +kernel
theorem dX5_findRide_108 : decode cX5_findRide 108 = .ok (.aload_n 0, 1) := by decide +kernel
theorem dX5_findRide_109 : decode cX5_findRide 109 = .ok (.iload 5, 2) := by decide +kernel
theorem dX5_findRide_111 : decode cX5_findRide 111 = .ok (.iload 7, 2) := by decide +kernel
theorem dX5_findRide_113 : decode cX5_findRide 113 = .ok (.iload 6, 2) := by decide +kernel
theorem dX5_findRide_115 : decode cX5_findRide 115 = .ok (.aload 4, 2) := by decide +kernel
theorem dX5_findRide_117 : decode cX5_findRide 117 = .ok (.invokevirtual 79, 3) := by decide +kernel
theorem dX5_findRide_120 : decode cX5_findRide 120 = .ok (.ifCond .eq 5, 3) := by decide +kernel
theorem dX5_findRide_123 : decode cX5_findRide 123 = .ok (.iconst 1, 1) := by decide +kernel
theorem dX5_findRide_124 : decode cX5_findRide 124 = .ok (.ireturn, 1) := by decide +kernel
theorem dX5_findRide_125 : decode cX5_findRide 125 = .ok (.iinc 7 1, 3) := by decide +kernel
theorem dX5_findRide_128 : decode cX5_findRide 128 = .ok (.goto (-69), 3) := by decide +kernel
theorem dX5_findRide_131 : decode cX5_findRide 131 = .ok (.iinc 5 1, 3) := by decide +kernel
theorem dX5_findRide_134 : decode cX5_findRide 134 = .ok (.goto (-111), 3) := by decide +kernel
theorem dX5_findRide_137 : decode cX5_findRide 137 = .ok (.iconst 0, 1) := by decide +kernel
theorem dX5_findRide_138 : decode cX5_findRide 138 = .ok (.ireturn, 1) := by decide +kernel
theorem dX5_findBeginning_0 : decode cX5_findBeginning 0 = .ok (.iload_n 3, 1) := by decide +kernel
theorem dX5_findBeginning_1 : decode cX5_findBeginning 1 = .ok (.iconst 1, 1) := by decide +kernel
theorem dX5_findBeginning_2 : decode cX5_findBeginning 2 = .ok (.isub, 1) := by decide +kernel
theorem dX5_findBeginning_3 : decode cX5_findBeginning 3 = .ok (.istore 5, 2) := by decide +kernel
theorem dX5_findBeginning_5 : decode cX5_findBeginning 5 = .ok (.iload 5, 2) := by decide +kernel
theorem dX5_findBeginning_7 : decode cX5_findBeginning 7 = .ok (.ifCond .lt 59, 3) := by decide +kernel
theorem dX5_findBeginning_10 : decode cX5_findBeginning 10 = .ok (.aload 4, 2) := by decide +kernel
theorem dX5_findBeginning_12 : decode cX5_findBeginning 12 = .ok (.aload_n 0, 1) := by decide +kernel
theorem dX5_findBeginning_13 : decode cX5_findBeginning 13 = .ok (.getfield 9, 3) := by decide +kernel
theorem dX5_findBeginning_16 : decode cX5_findBeginning 16 = .ok (.getfield 83, 3) := by decide +kernel
theorem dX5_findBeginning_19 : decode cX5_findBeginning 19 = .ok (.iload_n 1, 1) := by decide +kernel
theorem dX5_findBeginning_20 : decode cX5_findBeginning 20 = .ok (.aaload, 1) := by decide +kernel
theorem dX5_findBeginning_21 : decode cX5_findBeginning 21 = .ok (.iload 5, 2) := by decide +kernel
theorem dX5_findBeginning_23 : decode cX5_findBeginning 23 = .ok (.iaload, 1) := by decide +kernel
theorem dX5_findBeginning_24 : decode cX5_findBeginning 24 = .ok (.iaload, 1) := by decide +kernel
theorem dX5_findBeginning_25 : decode cX5_findBeginning 25 = .ok (.aload_n 0, 1) := by decide +kernel
theorem dX5_findBeginning_26 : decode cX5_findBeginning 26 = .ok (.getfield 9, 3) := by decide +kernel
theorem dX5_findBeginning_29 : decode cX5_findBeginning 29 = .ok (.iload_n 1, 1) := by decide +kernel
theorem dX5_findBeginning_30 : decode cX5_findBeginning 30 = .ok (.iload_n 2, 1) := by decide +kernel
theorem dX5_findBeginning_31 : decode cX5_findBeginning 31 = .ok (.iload 5, 2) := by decide +kernel
theorem dX5_findBeginning_33 : decode cX5_findBeginning 33 = .ok (.invokevirtual 75, 3) := by decide +kernel
theorem dX5_findBeginning_36 : decode cX5_findBeginning 36 = .ok (.if_icmp .le 6, 3) := by decide +kernel
theorem dX5_findBeginning_39 : decode cX5_findBeginning 39 = .ok (.goto 21, 3) := by decide +kernel
theorem dX5_findBeginning_42 : decode cX5_findBeginning 42 = .ok (.aload_n 0, 1) := by decide +kernel
theorem dX5_findBeginning_43 : decode cX5_findBeginning 43 = .ok (.iload_n 1, 1) := by decide +kernel
theorem dX5_findBeginning_44 : decode cX5_findBeginning 44 = .ok (.putfield 28, 3) := by decide +kernel
theorem dX5_findBeginning_47 : decode cX5_findBeginning 47 = .ok (.aload_n 0, 1) := by decide +kernel
theorem dX5_findBeginning_48 : decode cX5_findBeginning 48 = .ok (.iload_n 2, 1) := by decide +kernel
theorem dX5_findBeginning_49 : decode cX5_findBeginning 49 = .ok (.putfield 31, 3) := by decide +kernel
theorem dX5_findBeginning_52 : decode cX5_findBeginning 52 = .ok (.aload_n 0, 1) := by decide +kernel
theorem dX5_findBeginning_53 : decode cX5_findBeginning 53 = .ok (.iload 5, 2) := by decide +kernel
theorem dX5_findBeginning_55 : decode cX5_findBeginning 55 = .ok (.putfield 34, 3) := by decide +kernel
theorem dX5_findBeginning_58 : decode cX5_findBeginning 58 = .ok (.iconst 1, 1) := by decide +kernel
theorem dX5_findBeginning_59 : decode cX5_findBeginning 59 = .ok (.ireturn, 1) := by decide +kernel
theorem dX5_findBeginning_60 : decode cX5_findBeginning 60 = .ok (.iinc 5 (-1), 3) := by decide +kernel
theorem dX5_findBeginning_63 : decode cX5_findBeginning 63 = .ok (.goto (-58), 3) := by decide +kernel
theorem dX5_findBeginning_66 : decode cX5_findBeginning 66 = .ok (.iconst 0, 1) := by decide +kernel
theorem dX5_findBeginning_67 : decode cX5_findBeginning 67 = .ok (.ireturn, 1) := by decide +kernel
theorem dX5_addRide_0 : decode cX5_addRide 0 = .ok (.aload_n 0, 1) := by decide +kernel
theorem dX5_addRide_1 : decode cX5_addRide 1 = .ok (.getfield 9, 3) := by decide +kernel
theorem dX5_addRide_4 : decode cX5_addRide 4 = .ok (.aload_n 0, 1) := by decide +kernel
theorem dX5_addRide_5 : decode cX5_addRide 5 = .ok (.getfield 28, 3) := by decide +kernel
theorem dX5_addRide_8 : decode cX5_addRide 8 = .ok (.iload_n 1, 1) := by decide +kernel
theorem dX5_addRide_9 : decode cX5_addRide 9 = .ok (.invokevirtual 63, 3) := by decide +kernel
theorem dX5_addRide_12 : decode cX5_addRide 12 = .ok (.istore_n 2, 1) := by decide +kernel
theorem dX5_addRide_13 : decode cX5_addRide 13 = .ok (.aload_n 0, 1) := by decide +kernel
theorem dX5_addRide_14 : decode cX5_addRide 14 = .ok (.getfield 24, 3) := by decide +kernel
theorem dX5_addRide_17 : decode cX5_addRide 17 = .ok (.bipush 13, 2) := by decide +kernel
theorem dX5_addRide_19 : decode cX5_addRide 19 = .ok (.if_icmp .ge 7, 3) := by decide +kernel
theorem dX5_addRide_22 : decode cX5_addRide 22 = .ok (.iload_n 2, 1) := by decide +kernel
theorem dX5_addRide_23 : decode cX5_addRide 23 = .ok (.ifCond .ge 5, 3) := by decide +kernel
theorem dX5_addRide_26 : decode cX5_addRide 26 = .ok (.iload_n 1, 1) := by decide +kernel
theorem dX5_addRide_27 : decode cX5_addRide 27 = .ok (.ireturn, 1) := by decide +kernel
theorem dX5_addRide_28 : decode cX5_addRide 28 = .ok (.aload_n 0, 1) := by decide +kernel
theorem dX5_addRide_29 : decode cX5_addRide 29 = .ok (.getfield 21, 3) := by decide +kernel
theorem dX5_addRide_32 : decode cX5_addRide 32 = .ok (.aload_n 0, 1) := by decide +kernel
theorem dX5_addRide_33 : decode cX5_addRide 33 = .ok (.getfield 24, 3) := by decide +kernel
theorem dX5_addRide_36 : decode cX5_addRide 36 = .ok (.aaload, 1) := by decide +kernel
theorem dX5_addRide_37 : decode cX5_addRide 37 = .ok (.astore_n 3, 1) := by decide +kernel
theorem dX5_addRide_38 : decode cX5_addRide 38 = .ok (.aload_n 0, 1) := by decide +kernel
theorem dX5_addRide_39 : decode cX5_addRide 39 = .ok (.dup, 1) := by decide +kernel
theorem dX5_addRide_40 : decode cX5_addRide 40 = .ok (.getfield 24, 3) := by decide +kernel
theorem dX5_addRide_43 : decode cX5_addRide 43 = .ok (.iconst 1, 1) := by decide +kernel
theorem dX5_addRide_44 : decode cX5_addRide 44 = .ok (.iadd, 1) := by decide +kernel
theorem dX5_addRide_45 : decode cX5_addRide 45 = .ok (.putfield 24, 3) := by decide +kernel
theorem dX5_addRide_48 : decode cX5_addRide 48 = .ok (.aload_n 3, 1) := by decide +kernel
theorem dX5_addRide_49 : decode cX5_addRide 49 = .ok (.iconst 0, 1) := by decide +kernel
theorem dX5_addRide_50 : decode cX5_addRide 50 = .ok (.aload_n 0, 1) := by decide +kernel
theorem dX5_addRide_51 : decode cX5_addRide 51 = .ok (.getfield 28, 3) := by decide +kernel
theorem dX5_addRide_54 : decode cX5_addRide 54 = .ok (.iastore, 1) := by decide +kernel
theorem dX5_addRide_55 : decode cX5_addRide 55 = .ok (.aload_n 3, 1) := by decide +kernel
theorem dX5_addRide_56 : decode cX5_addRide 56 = .ok (.iconst 1, 1) := by decide +kernel
theorem dX5_addRide_57 : decode cX5_addRide 57 = .ok (.aload_n 0, 1) := by decide +kernel
theorem dX5_addRide_58 : decode cX5_addRide 58 = .ok (.getfield 31, 3) := by decide +kernel
theorem dX5_addRide_61 : decode cX5_addRide 61 = .ok (.iastore, 1) := by decide +kernel
theorem dX5_addRide_62 : decode cX5_addRide 62 = .ok (.aload_n 3, 1) := by decide +kernel
theorem dX5_addRide_63 : decode cX5_addRide 63 = .ok (.iconst 2, 1) := by decide +kernel
theorem dX5_addRide_64 : decode cX5_addRide 64 = .ok (.aload_n 0, 1) := by decide +kernel
theorem dX5_addRide_65 : decode cX5_addRide 65 = .ok (.getfield 9, 3) := by decide +kernel
theorem dX5_addRide_68 : decode cX5_addRide 68 = .ok (.getfield 83, 3) := by decide +kernel
theorem dX5_addRide_71 : decode cX5_addRide 71 = .ok (.aload_n 0, 1) := by decide +kernel
theorem dX5_addRide_72 : decode cX5_addRide 72 = .ok (.getfield 28, 3) := by decide +kernel
theorem dX5_addRide_75 : decode cX5_addRide 75 = .ok (.aaload, 1) := by decide +kernel
theorem dX5_addRide_76 : decode cX5_addRide 76 = .ok (.aload_n 0, 1) := by decide +kernel
theorem dX5_addRide_77 : decode cX5_addRide 77 = .ok (.getfield 34, 3) := by decide +kernel
theorem dX5_addRide_80 : decode cX5_addRide 80 = .ok (.iaload, 1) := by decide +kernel
theorem dX5_addRide_81 : decode cX5_addRide 81 = .ok (.iastore, 1) := by decide +kernel
theorem dX5_addRide_82 : decode cX5_addRide 82 = .ok (.aload_n 3, 1) := by decide +kernel
theorem dX5_addRide_83 : decode cX5_addRide 83 = .ok (.iconst 3, 1) := by decide +kernel
theorem dX5_addRide_84 : decode cX5_addRide 84 = .ok (.iload_n 1, 1) := by decide +kernel
theorem dX5_addRide_85 : decode cX5_addRide 85 = .ok (.iastore, 1) := by decide +kernel
theorem dX5_addRide_86 : decode cX5_addRide 86 = .ok (.aload_n 3, 1) := by decide +kernel
theorem dX5_addRide_87 : decode cX5_addRide 87 = .ok (.iconst 4, 1) := by decide +kernel
theorem dX5_addRide_88 : decode cX5_addRide 88 = .ok (.aload_n 0, 1) := by decide +kernel
theorem dX5_addRide_89 : decode cX5_addRide 89 = .ok (.getfield 9, 3) := by decide +kernel
theorem dX5_addRide_92 : decode cX5_addRide 92 = .ok (.aload_n 0, 1) := by decide +kernel
theorem dX5_addRide_93 : decode cX5_addRide 93 = .ok (.getfield 28, 3) := by decide +kernel
theorem dX5_addRide_96 : decode cX5_addRide 96 = .ok (.aload_n 0, 1) := by decide +kernel
theorem dX5_addRide_97 : decode cX5_addRide 97 = .ok (.getfield 31, 3) := by decide +kernel
theorem dX5_addRide_100 : decode cX5_addRide 100 = .ok (.aload_n 0, 1) := by decide +kernel
theorem dX5_addRide_101 : decode cX5_addRide 101 = .ok (.getfield 34, 3) := by decide +kernel
theorem dX5_addRide_104 : decode cX5_addRide 104 = .ok (.invokevirtual 75, 3) := by decide +kernel
theorem dX5_addRide_107 : decode cX5_addRide 107 = .ok (.iastore, 1) := by decide +kernel
theorem dX5_addRide_108 : decode cX5_addRide 108 = .ok (.aload_n 3, 1) := by decide +kernel
theorem dX5_addRide_109 : decode cX5_addRide 109 = .ok (.iconst 5, 1) := by decide +kernel
theorem dX5_addRide_110 : decode cX5_addRide 110 = .ok (.aload_n 0, 1) := by decide +kernel
theorem dX5_addRide_111 : decode cX5_addRide 111 = .ok (.getfield 9, 3) := by decide +kernel
theorem dX5_addRide_114 : decode cX5_addRide 114 = .ok (.aload_n 0, 1) := by decide +kernel
theorem dX5_addRide_115 : decode cX5_addRide 115 = .ok (.getfield 28, 3) := by decide +kernel
theorem dX5_addRide_118 : decode cX5_addRide 118 = .ok (.aload_n 0, 1) := by decide +kernel
theorem dX5_addRide_119 : decode cX5_addRide 119 = .ok (.getfield 31, 3) := by decide +kernel
theorem dX5_addRide_122 : decode cX5_addRide 122 = .ok (.iload_n 2, 1) := by decide +kernel
theorem dX5_addRide_123 : decode cX5_addRide 123 = .ok (.invokevirtual 75, 3) := by decide +kernel
theorem dX5_addRide_126 : decode cX5_addRide 126 = .ok (.iastore, 1) := by decide +kernel
theorem dX5_addRide_127 : decode cX5_addRide 127 = .ok (.aload_n 3, 1) := by decide +kernel
theorem dX5_addRide_128 : decode cX5_addRide 128 = .ok (.bipush 6, 2) := by decide +kernel
theorem dX5_addRide_130 : decode cX5_addRide 130 = .ok (.aload_n 0, 1) := by decide +kernel
theorem dX5_addRide_131 : decode cX5_addRide 131 = .ok (.getfield 9, 3) := by decide +kernel
theorem dX5_addRide_134 : decode cX5_addRide 134 = .ok (.getfield 86, 3) := by decide +kernel
theorem dX5_addRide_137 : decode cX5_addRide 137 = .ok (.aload_n 0, 1) := by decide +kernel
theorem dX5_addRide_138 : decode cX5_addRide 138 = .ok (.getfield 28, 3) := by decide +kernel
theorem dX5_addRide_141 : decode cX5_addRide 141 = .ok (.iaload, 1) := by decide +kernel
theorem dX5_addRide_142 : decode cX5_addRide 142 = .ok (.iload_n 2, 1) := by decide +kernel
theorem dX5_addRide_143 : decode cX5_addRide 143 = .ok (.aload_n 0, 1) := by decide +kernel
theorem dX5_addRide_144 : decode cX5_addRide 144 = .ok (.getfield 34, 3) := by decide +kernel
theorem dX5_addRide_147 : decode cX5_addRide 147 = .ok (.isub, 1) := by decide +kernel
theorem dX5_addRide_148 : decode cX5_addRide 148 = .ok (.invokestatic 89, 3) := by decide +kernel
theorem dX5_addRide_151 : decode cX5_addRide 151 = .ok (.iastore, 1) := by decide +kernel
theorem dX5_addRide_152 : decode cX5_addRide 152 = .ok (.aload_n 3, 1) := by decide +kernel
theorem dX5_addRide_153 : decode cX5_addRide 153 = .ok (.iconst 2, 1) := by decide +kernel
theorem dX5_addRide_154 : decode cX5_addRide 154 = .ok (.iaload, 1) := by decide +kernel
theorem dX5_addRide_155 : decode cX5_addRide 155 = .ok (.ireturn, 1) := by decide +kernel
theorem dX5_addWalk_0 : decode cX5_addWalk 0 = .ok (.aload_n 0, 1) := by decide +kernel
theorem dX5_addWalk_1 : decode cX5_addWalk 1 = .ok (.getfield 15, 3) := by decide +kernel
theorem dX5_addWalk_4 : decode cX5_addWalk 4 = .ok (.getfield 43, 3) := by decide +kernel
theorem dX5_addWalk_7 : decode cX5_addWalk 7 = .ok (.iload_n 1, 1) := by decide +kernel
theorem dX5_addWalk_8 : decode cX5_addWalk 8 = .ok (.aaload, 1) := by decide +kernel
theorem dX5_addWalk_9 : decode cX5_addWalk 9 = .ok (.iload 4, 2) := by decide +kernel
theorem dX5_addWalk_11 : decode cX5_addWalk 11 = .ok (.iaload, 1) := by decide +kernel
theorem dX5_addWalk_12 : decode cX5_addWalk 12 = .ok (.istore 5, 2) := by decide +kernel
theorem dX5_addWalk_14 : decode cX5_addWalk 14 = .ok (.iconst 0, 1) := by decide +kernel
theorem dX5_addWalk_15 : decode cX5_addWalk 15 = .ok (.istore 6, 2) := by decide +kernel
theorem dX5_addWalk_17 : decode cX5_addWalk 17 = .ok (.iload 6, 2) := by decide +kernel
theorem dX5_addWalk_19 : decode cX5_addWalk 19 = .ok (.bipush 12, 2) := by decide +kernel
theorem dX5_addWalk_21 : decode cX5_addWalk 21 = .ok (.if_icmp .ge 104, 3) := by decide +kernel
theorem dX5_addWalk_24 : decode cX5_addWalk 24 = .ok (.aload_n 0, 1) := by decide +kernel
theorem dX5_addWalk_25 : decode cX5_addWalk 25 = .ok (.getfield 9, 3) := by decide +kernel
theorem dX5_addWalk_28 : decode cX5_addWalk 28 = .ok (.getfield 94, 3) := by decide +kernel
theorem dX5_addWalk_31 : decode cX5_addWalk 31 = .ok (.iload 6, 2) := by decide +kernel
theorem dX5_addWalk_33 : decode cX5_addWalk 33 = .ok (.aaload, 1) := by decide +kernel
theorem dX5_addWalk_34 : decode cX5_addWalk 34 = .ok (.iload 4, 2) := by decide +kernel
theorem dX5_addWalk_36 : decode cX5_addWalk 36 = .ok (.iaload, 1) := by decide +kernel
theorem dX5_addWalk_37 : decode cX5_addWalk 37 = .ok (.istore 7, 2) := by decide +kernel
theorem dX5_addWalk_39 : decode cX5_addWalk 39 = .ok (.iload 7, 2) := by decide +kernel
theorem dX5_addWalk_41 : decode cX5_addWalk 41 = .ok (.ifCond .ne 6, 3) := by decide +kernel
theorem dX5_addWalk_44 : decode cX5_addWalk 44 = .ok (.goto 75, 3) := by decide +kernel
theorem dX5_addWalk_47 : decode cX5_addWalk 47 = .ok (.iload 6, 2) := by decide +kernel
theorem dX5_addWalk_49 : decode cX5_addWalk 49 = .ok (.iload_n 2, 1) := by decide +kernel
theorem dX5_addWalk_50 : decode cX5_addWalk 50 = .ok (.if_icmp .ne 26, 3) := by decide +kernel
theorem dX5_addWalk_53 : decode cX5_addWalk 53 = .ok (.iload_n 3, 1) := by decide +kernel
theorem dX5_addWalk_54 : decode cX5_addWalk 54 = .ok (.iload 7, 2) := by decide +kernel
theorem dX5_addWalk_56 : decode cX5_addWalk 56 = .ok (.iadd, 1) := by decide +kernel
theorem dX5_addWalk_57 : decode cX5_addWalk 57 = .ok (.iload 5, 2) := by decide +kernel
theorem dX5_addWalk_59 : decode cX5_addWalk 59 = .ok (.if_icmp .ne 17, 3) := by decide +kernel
theorem dX5_addWalk_62 : decode cX5_addWalk 62 = .ok (.aload_n 0, 1) := by decide +kernel
theorem dX5_addWalk_63 : decode cX5_addWalk 63 = .ok (.iload 6, 2) := by decide +kernel
theorem dX5_addWalk_65 : decode cX5_addWalk 65 = .ok (.iload 4, 2) := by decide +kernel
theorem dX5_addWalk_67 : decode cX5_addWalk 67 = .ok (.iload_n 3, 1) := by decide +kernel
theorem dX5_addWalk_68 : decode cX5_addWalk 68 = .ok (.iload 5, 2) := by decide +kernel
theorem dX5_addWalk_70 : decode cX5_addWalk 70 = .ok (.invokevirtual 97, 3) := by decide +kernel
theorem dX5_addWalk_73 : decode cX5_addWalk 73 = .ok (.iload 6, 2) := by decide +kernel
theorem dX5_addWalk_75 : decode cX5_addWalk 75 = .ok (.ireturn, 1) := by decide +kernel
theorem dX5_addWalk_76 : decode cX5_addWalk 76 = .ok (.iload 6, 2) := by decide +kernel
theorem dX5_addWalk_78 : decode cX5_addWalk 78 = .ok (.iload_n 2, 1) := by decide +kernel
theorem dX5_addWalk_79 : decode cX5_addWalk 79 = .ok (.if_icmp .eq 40, 3) := by decide +kernel
theorem dX5_addWalk_82 : decode cX5_addWalk 82 = .ok (.aload_n 0, 1) := by decide +kernel
theorem dX5_addWalk_83 : decode cX5_addWalk 83 = .ok (.iload_n 1, 1) := by decide +kernel
theorem dX5_addWalk_84 : decode cX5_addWalk 84 = .ok (.iload 6, 2) := by decide +kernel
theorem dX5_addWalk_86 : decode cX5_addWalk 86 = .ok (.iload 5, 2) := by decide +kernel
theorem dX5_addWalk_88 : decode cX5_addWalk 88 = .ok (.iload 7, 2) := by decide +kernel
theorem dX5_addWalk_90 : decode cX5_addWalk 90 = .ok (.isub, 1) := by decide +kernel
theorem dX5_addWalk_91 : decode cX5_addWalk 91 = .ok (.invokevirtual 46, 3) := by decide +kernel
theorem dX5_addWalk_94 : decode cX5_addWalk 94 = .ok (.ifCond .eq 25, 3) := by decide +kernel
theorem dX5_addWalk_97 : decode cX5_addWalk 97 = .ok (.aload_n 0, 1) := by decide +kernel
theorem dX5_addWalk_98 : decode cX5_addWalk 98 = .ok (.iload 6, 2) := by decide +kernel
theorem dX5_addWalk_100 : decode cX5_addWalk 100 = .ok (.iload 4, 2) := by decide +kernel
theorem dX5_addWalk_102 : decode cX5_addWalk 102 = .ok (.iload 5, 2) := by decide +kernel
theorem dX5_addWalk_104 : decode cX5_addWalk 104 = .ok (.iload 7, 2) := by decide +kernel
theorem dX5_addWalk_106 : decode cX5_addWalk 106 = .ok (.isub, 1) := by decide +kernel
theorem dX5_addWalk_107 : decode cX5_addWalk 107 = .ok (.iload 5, 2) := by decide +kernel
theorem dX5_addWalk_109 : decode cX5_addWalk 109 = .ok (.invokevirtual 97, 3) := by decide +kernel
theorem dX5_addWalk_112 : decode cX5_addWalk 112 = .ok (.aload_n 0, 1) := by decide +kernel
theorem dX5_addWalk_113 : decode cX5_addWalk 113 = .ok (.iload 6, 2) := by decide +kernel
theorem dX5_addWalk_115 : decode cX5_addWalk 115 = .ok (.invokevirtual 50, 3) := by decide +kernel
theorem dX5_addWalk_118 : decode cX5_addWalk 118 = .ok (.ireturn, 1) := by decide +kernel
theorem dX5_addWalk_119 : decode cX5_addWalk 119 = .ok (.iinc 6 1, 3) := by decide +kernel
theorem dX5_addWalk_122 : decode cX5_addWalk 122 = .ok (.goto (-105), 3) := by decide +kernel
theorem dX5_addWalk_125 : decode cX5_addWalk 125 = .ok (.iload 4, 2) := by decide +kernel
theorem dX5_addWalk_127 : decode cX5_addWalk 127 = .ok (.ireturn, 1) := by decide +kernel
theorem dX5_putWalk_0 : decode cX5_putWalk 0 = .ok (.aload_n 0, 1) := by decide +kernel
theorem dX5_putWalk_1 : decode cX5_putWalk 1 = .ok (.getfield 24, 3) := by decide +kernel
theorem dX5_putWalk_4 : decode cX5_putWalk 4 = .ok (.bipush 13, 2) := by decide +kernel
theorem dX5_putWalk_6 : decode cX5_putWalk 6 = .ok (.if_icmp .lt 4, 3) := by decide +kernel
theorem dX5_putWalk_9 : decode cX5_putWalk 9 = .ok (.return_, 1) := by decide +kernel
theorem dX5_putWalk_10 : decode cX5_putWalk 10 = .ok (.aload_n 0, 1) := by decide +kernel
theorem dX5_putWalk_11 : decode cX5_putWalk 11 = .ok (.getfield 21, 3) := by decide +kernel
theorem dX5_putWalk_14 : decode cX5_putWalk 14 = .ok (.aload_n 0, 1) := by decide +kernel
theorem dX5_putWalk_15 : decode cX5_putWalk 15 = .ok (.getfield 24, 3) := by decide +kernel
theorem dX5_putWalk_18 : decode cX5_putWalk 18 = .ok (.aaload, 1) := by decide +kernel
theorem dX5_putWalk_19 : decode cX5_putWalk 19 = .ok (.astore 5, 2) := by decide +kernel
theorem dX5_putWalk_21 : decode cX5_putWalk 21 = .ok (.aload_n 0, 1) := by decide +kernel
theorem dX5_putWalk_22 : decode cX5_putWalk 22 = .ok (.dup, 1) := by decide +kernel
theorem dX5_putWalk_23 : decode cX5_putWalk 23 = .ok (.getfield 24, 3) := by decide +kernel
theorem dX5_putWalk_26 : decode cX5_putWalk 26 = .ok (.iconst 1, 1) := by decide +kernel
theorem dX5_putWalk_27 : decode cX5_putWalk 27 = .ok (.iadd, 1) := by decide +kernel
theorem dX5_putWalk_28 : decode cX5_putWalk 28 = .ok (.putfield 24, 3) := by decide +kernel
theorem dX5_putWalk_31 : decode cX5_putWalk 31 = .ok (.aload 5, 2) := by decide +kernel
theorem dX5_putWalk_33 : decode cX5_putWalk 33 = .ok (.iconst 0, 1) := by decide +kernel
theorem dX5_putWalk_34 : decode cX5_putWalk 34 = .ok (.bipush (-5), 2) := by decide +kernel
theorem dX5_putWalk_36 : decode cX5_putWalk 36 = .ok (.iastore, 1) := by decide +kernel
theorem dX5_putWalk_37 : decode cX5_putWalk 37 = .ok (.aload 5, 2) := by decide +kernel
theorem dX5_putWalk_39 : decode cX5_putWalk 39 = .ok (.iconst 1, 1) := by decide +kernel
theorem dX5_putWalk_40 : decode cX5_putWalk 40 = .ok (.bipush (-5), 2) := by decide +kernel
theorem dX5_putWalk_42 : decode cX5_putWalk 42 = .ok (.iastore, 1) := by decide +kernel
theorem dX5_putWalk_43 : decode cX5_putWalk 43 = .ok (.aload 5, 2) := by decide +kernel
theorem dX5_putWalk_45 : decode cX5_putWalk 45 = .ok (.iconst 2, 1) := by decide +kernel
theorem dX5_putWalk_46 : decode cX5_putWalk 46 = .ok (.iload_n 1, 1) := by decide +kernel
theorem dX5_putWalk_47 : decode cX5_putWalk 47 = .ok (.iastore, 1) := by decide +kernel
theorem dX5_putWalk_48 : decode cX5_putWalk 48 = .ok (.aload 5, 2) := by decide +kernel
theorem dX5_putWalk_50 : decode cX5_putWalk 50 = .ok (.iconst 3, 1) := by decide +kernel
theorem dX5_putWalk_51 : decode cX5_putWalk 51 = .ok (.iload_n 2, 1) := by decide +kernel
theorem dX5_putWalk_52 : decode cX5_putWalk 52 = .ok (.iastore, 1) := by decide +kernel
theorem dX5_putWalk_53 : decode cX5_putWalk 53 = .ok (.aload 5, 2) := by decide +kernel
theorem dX5_putWalk_55 : decode cX5_putWalk 55 = .ok (.iconst 4, 1) := by decide +kernel
theorem dX5_putWalk_56 : decode cX5_putWalk 56 = .ok (.iload_n 3, 1) := by decide +kernel
theorem dX5_putWalk_57 : decode cX5_putWalk 57 = .ok (.iastore, 1) := by decide +kernel
theorem dX5_putWalk_58 : decode cX5_putWalk 58 = .ok (.aload 5, 2) := by decide +kernel
theorem dX5_putWalk_60 : decode cX5_putWalk 60 = .ok (.iconst 5, 1) := by decide +kernel
theorem dX5_putWalk_61 : decode cX5_putWalk 61 = .ok (.iload 4, 2) := by decide +kernel
theorem dX5_putWalk_63 : decode cX5_putWalk 63 = .ok (.iastore, 1) := by decide +kernel
theorem dX5_putWalk_64 : decode cX5_putWalk 64 = .ok (.aload 5, 2) := by decide +kernel
theorem dX5_putWalk_66 : decode cX5_putWalk 66 = .ok (.bipush 6, 2) := by decide +kernel
theorem dX5_putWalk_68 : decode cX5_putWalk 68 = .ok (.iconst 0, 1) := by decide +kernel
theorem dX5_putWalk_69 : decode cX5_putWalk 69 = .ok (.iastore, 1) := by decide +kernel
theorem dX5_putWalk_70 : decode cX5_putWalk 70 = .ok (.return_, 1) := by decide +kernel
theorem dX5_tell_0 : decode cX5_tell 0 = .ok (.aload_n 0, 1) := by decide +kernel
theorem dX5_tell_1 : decode cX5_tell 1 = .ok (.getfield 21, 3) := by decide +kernel
theorem dX5_tell_4 : decode cX5_tell 4 = .ok (.aload_n 0, 1) := by decide +kernel
theorem dX5_tell_5 : decode cX5_tell 5 = .ok (.getfield 24, 3) := by decide +kernel
theorem dX5_tell_8 : decode cX5_tell 8 = .ok (.iconst 1, 1) := by decide +kernel
theorem dX5_tell_9 : decode cX5_tell 9 = .ok (.isub, 1) := by decide +kernel
theorem dX5_tell_10 : decode cX5_tell 10 = .ok (.iload_n 1, 1) := by decide +kernel
theorem dX5_tell_11 : decode cX5_tell 11 = .ok (.isub, 1) := by decide +kernel
theorem dX5_tell_12 : decode cX5_tell 12 = .ok (.aaload, 1) := by decide +kernel
theorem dX5_tell_13 : decode cX5_tell 13 = .ok (.iload_n 2, 1) := by decide +kernel
theorem dX5_tell_14 : decode cX5_tell 14 = .ok (.iaload, 1) := by decide +kernel
theorem dX5_tell_15 : decode cX5_tell 15 = .ok (.ireturn, 1) := by decide +kernel
theorem dX5_sumFares_0 : decode cX5_sumFares 0 = .ok (.iconst 0, 1) := by decide +kernel
theorem dX5_sumFares_1 : decode cX5_sumFares 1 = .ok (.istore_n 1, 1) := by decide +kernel
theorem dX5_sumFares_2 : decode cX5_sumFares 2 = .ok (.iconst 0, 1) := by decide +kernel
theorem dX5_sumFares_3 : decode cX5_sumFares 3 = .ok (.istore_n 2, 1) := by decide +kernel
theorem dX5_sumFares_4 : decode cX5_sumFares 4 = .ok (.iload_n 2, 1) := by decide +kernel
theorem dX5_sumFares_5 : decode cX5_sumFares 5 = .ok (.aload_n 0, 1) := by decide +kernel
theorem dX5_sumFares_6 : decode cX5_sumFares 6 = .ok (.getfield 24, 3) := by decide +kernel
theorem dX5_sumFares_9 : decode cX5_sumFares 9 = .ok (.if_icmp .ge 21, 3) := by decide +kernel
theorem dX5_sumFares_12 : decode cX5_sumFares 12 = .ok (.iload_n 1, 1) := by decide +kernel
theorem dX5_sumFares_13 : decode cX5_sumFares 13 = .ok (.aload_n 0, 1) := by decide +kernel
theorem dX5_sumFares_14 : decode cX5_sumFares 14 = .ok (.getfield 21, 3) := by decide +kernel
theorem dX5_sumFares_17 : decode cX5_sumFares 17 = .ok (.iload_n 2, 1) := by decide +kernel
theorem dX5_sumFares_18 : decode cX5_sumFares 18 = .ok (.aaload, 1) := by decide +kernel
theorem dX5_sumFares_19 : decode cX5_sumFares 19 = .ok (.bipush 6, 2) := by decide +kernel
theorem dX5_sumFares_21 : decode cX5_sumFares 21 = .ok (.iaload, 1) := by decide +kernel
theorem dX5_sumFares_22 : decode cX5_sumFares 22 = .ok (.iadd, 1) := by decide +kernel
theorem dX5_sumFares_23 : decode cX5_sumFares 23 = .ok (.istore_n 1, 1) := by decide +kernel
theorem dX5_sumFares_24 : decode cX5_sumFares 24 = .ok (.iinc 2 1, 3) := by decide +kernel
theorem dX5_sumFares_27 : decode cX5_sumFares 27 = .ok (.goto (-23), 3) := by decide +kernel
theorem dX5_sumFares_30 : decode cX5_sumFares 30 = .ok (.iload_n 1, 1) := by decide +kernel
theorem dX5_sumFares_31 : decode cX5_sumFares 31 = .ok (.ireturn, 1) := by decide +kernel
theorem dX5_sumMoving_0 : decode cX5_sumMoving 0 = .ok (.iconst 0, 1) := by decide +kernel
theorem dX5_sumMoving_1 : decode cX5_sumMoving 1 = .ok (.istore_n 1, 1) := by decide +kernel
theorem dX5_sumMoving_2 : decode cX5_sumMoving 2 = .ok (.iconst 0, 1) := by decide +kernel
theorem dX5_sumMoving_3 : decode cX5_sumMoving 3 = .ok (.istore_n 2, 1) := by decide +kernel
theorem dX5_sumMoving_4 : decode cX5_sumMoving 4 = .ok (.iload_n 2, 1) := by decide +kernel
theorem dX5_sumMoving_5 : decode cX5_sumMoving 5 = .ok (.aload_n 0, 1) := by decide +kernel
theorem dX5_sumMoving_6 : decode cX5_sumMoving 6 = .ok (.getfield 24, 3) := by decide +kernel
theorem dX5_sumMoving_9 : decode cX5_sumMoving 9 = .ok (.if_icmp .ge 29, 3) := by decide +kernel
theorem dX5_sumMoving_12 : decode cX5_sumMoving 12 = .ok (.iload_n 1, 1) := by decide +kernel
theorem dX5_sumMoving_13 : decode cX5_sumMoving 13 = .ok (.aload_n 0, 1) := by decide +kernel
theorem dX5_sumMoving_14 : decode cX5_sumMoving 14 = .ok (.getfield 21, 3) := by decide +kernel
theorem dX5_sumMoving_17 : decode cX5_sumMoving 17 = .ok (.iload_n 2, 1) := by decide +kernel
theorem dX5_sumMoving_18 : decode cX5_sumMoving 18 = .ok (.aaload, 1) := by decide +kernel
theorem dX5_sumMoving_19 : decode cX5_sumMoving 19 = .ok (.iconst 5, 1) := by decide +kernel
theorem dX5_sumMoving_20 : decode cX5_sumMoving 20 = .ok (.iaload, 1) := by decide +kernel
theorem dX5_sumMoving_21 : decode cX5_sumMoving 21 = .ok (.aload_n 0, 1) := by decide +kernel
theorem dX5_sumMoving_22 : decode cX5_sumMoving 22 = .ok (.getfield 21, 3) := by decide +kernel
theorem dX5_sumMoving_25 : decode cX5_sumMoving 25 = .ok (.iload_n 2, 1) := by decide +kernel
theorem dX5_sumMoving_26 : decode cX5_sumMoving 26 = .ok (.aaload, 1) := by decide +kernel
theorem dX5_sumMoving_27 : decode cX5_sumMoving 27 = .ok (.iconst 4, 1) := by decide +kernel
theorem dX5_sumMoving_28 : decode cX5_sumMoving 28 = .ok (.iaload, 1) := by decide +kernel
theorem dX5_sumMoving_29 : decode cX5_sumMoving 29 = .ok (.isub, 1) := by decide +kernel
theorem dX5_sumMoving_30 : decode cX5_sumMoving 30 = .ok (.iadd, 1) := by decide +kernel
theorem dX5_sumMoving_31 : decode cX5_sumMoving 31 = .ok (.istore_n 1, 1) := by decide +kernel
theorem dX5_sumMoving_32 : decode cX5_sumMoving 32 = .ok (.iinc 2 1, 3) := by decide +kernel
theorem dX5_sumMoving_35 : decode cX5_sumMoving 35 = .ok (.goto (-31), 3) := by decide +kernel
theorem dX5_sumMoving_38 : decode cX5_sumMoving 38 = .ok (.iload_n 1, 1) := by decide +kernel
theorem dX5_sumMoving_39 : decode cX5_sumMoving 39 = .ok (.ireturn, 1) := by decide +kernel
theorem dX5_spellInto_0 : decode cX5_spellInto 0 = .ok (.aload_n 1, 1) := by decide +kernel
theorem dX5_spellInto_1 : decode cX5_spellInto 1 = .ok (.iconst 0, 1) := by decide +kernel
theorem dX5_spellInto_2 : decode cX5_spellInto 2 = .ok (.putfield 101, 3) := by decide +kernel
theorem dX5_spellInto_5 : decode cX5_spellInto 5 = .ok (.aload_n 0, 1) := by decide +kernel
theorem dX5_spellInto_6 : decode cX5_spellInto 6 = .ok (.getfield 24, 3) := by decide +kernel
theorem dX5_spellInto_9 : decode cX5_spellInto 9 = .ok (.iconst 1, 1) := by decide +kernel
theorem dX5_spellInto_10 : decode cX5_spellInto 10 = .ok (.isub, 1) := by decide +kernel
theorem dX5_spellInto_11 : decode cX5_spellInto 11 = .ok (.istore_n 2, 1) := by decide +kernel
theorem dX5_spellInto_12 : decode cX5_spellInto 12 = .ok (.iload_n 2, 1) := by decide +kernel
theorem dX5_spellInto_13 : decode cX5_spellInto 13 = .ok (.ifCond .lt 95, 3) := by decide +kernel
theorem dX5_spellInto_16 : decode cX5_spellInto 16 = .ok (.aload_n 0, 1) := by decide +kernel
theorem dX5_spellInto_17 : decode cX5_spellInto 17 = .ok (.getfield 21, 3) := by decide +kernel
theorem dX5_spellInto_20 : decode cX5_spellInto 20 = .ok (.iload_n 2, 1) := by decide +kernel
theorem dX5_spellInto_21 : decode cX5_spellInto 21 = .ok (.aaload, 1) := by decide +kernel
theorem dX5_spellInto_22 : decode cX5_spellInto 22 = .ok (.astore_n 3, 1) := by decide +kernel
theorem dX5_spellInto_23 : decode cX5_spellInto 23 = .ok (.aload_n 3, 1) := by decide +kernel
theorem dX5_spellInto_24 : decode cX5_spellInto 24 = .ok (.iconst 0, 1) := by decide +kernel
theorem dX5_spellInto_25 : decode cX5_spellInto 25 = .ok (.iaload, 1) := by decide +kernel
theorem dX5_spellInto_26 : decode cX5_spellInto 26 = .ok (.bipush (-5), 2) := by decide +kernel
theorem dX5_spellInto_28 : decode cX5_spellInto 28 = .ok (.if_icmp .ne 12, 3) := by decide +kernel
theorem dX5_spellInto_31 : decode cX5_spellInto 31 = .ok (.aload_n 1, 1) := by decide +kernel
theorem dX5_spellInto_32 : decode cX5_spellInto 32 = .ok (.bipush 87, 2) := by decide +kernel
theorem dX5_spellInto_34 : decode cX5_spellInto 34 = .ok (.invokevirtual 106, 3) := by decide +kernel
theorem dX5_spellInto_37 : decode cX5_spellInto 37 = .ok (.goto 29, 3) := by decide +kernel
theorem dX5_spellInto_40 : decode cX5_spellInto 40 = .ok (.aload_n 1, 1) := by decide +kernel
theorem dX5_spellInto_41 : decode cX5_spellInto 41 = .ok (.bipush 76, 2) := by decide +kernel
theorem dX5_spellInto_43 : decode cX5_spellInto 43 = .ok (.invokevirtual 106, 3) := by decide +kernel
theorem dX5_spellInto_46 : decode cX5_spellInto 46 = .ok (.aload_n 1, 1) := by decide +kernel
theorem dX5_spellInto_47 : decode cX5_spellInto 47 = .ok (.aload_n 3, 1) := by decide +kernel
theorem dX5_spellInto_48 : decode cX5_spellInto 48 = .ok (.iconst 0, 1) := by decide +kernel
theorem dX5_spellInto_49 : decode cX5_spellInto 49 = .ok (.iaload, 1) := by decide +kernel
theorem dX5_spellInto_50 : decode cX5_spellInto 50 = .ok (.invokevirtual 110, 3) := by decide +kernel
theorem dX5_spellInto_53 : decode cX5_spellInto 53 = .ok (.aload_n 1, 1) := by decide +kernel
theorem dX5_spellInto_54 : decode cX5_spellInto 54 = .ok (.bipush 46, 2) := by decide +kernel
theorem dX5_spellInto_56 : decode cX5_spellInto 56 = .ok (.invokevirtual 106, 3) := by decide +kernel
theorem dX5_spellInto_59 : decode cX5_spellInto 59 = .ok (.aload_n 1, 1) := by decide +kernel
theorem dX5_spellInto_60 : decode cX5_spellInto 60 = .ok (.aload_n 3, 1) := by decide +kernel
theorem dX5_spellInto_61 : decode cX5_spellInto 61 = .ok (.iconst 1, 1) := by decide +kernel
theorem dX5_spellInto_62 : decode cX5_spellInto 62 = .ok (.iaload, 1) := by decide +kernel
theorem dX5_spellInto_63 : decode cX5_spellInto 63 = .ok (.invokevirtual 110, 3) := by decide +kernel
theorem dX5_spellInto_66 : decode cX5_spellInto 66 = .ok (.aload_n 1, 1) := by decide +kernel
theorem dX5_spellInto_67 : decode cX5_spellInto 67 = .ok (.bipush 58, 2) := by decide +kernel
theorem dX5_spellInto_69 : decode cX5_spellInto 69 = .ok (.invokevirtual 106, 3) := by decide +kernel
theorem dX5_spellInto_72 : decode cX5_spellInto 72 = .ok (.aload_n 1, 1) := by decide +kernel
theorem dX5_spellInto_73 : decode cX5_spellInto 73 = .ok (.aload_n 3, 1) := by decide +kernel
theorem dX5_spellInto_74 : decode cX5_spellInto 74 = .ok (.iconst 2, 1) := by decide +kernel
theorem dX5_spellInto_75 : decode cX5_spellInto 75 = .ok (.iaload, 1) := by decide +kernel
theorem dX5_spellInto_76 : decode cX5_spellInto 76 = .ok (.invokevirtual 110, 3) := by decide +kernel
theorem dX5_spellInto_79 : decode cX5_spellInto 79 = .ok (.aload_n 1, 1) := by decide +kernel
theorem dX5_spellInto_80 : decode cX5_spellInto 80 = .ok (.bipush 62, 2) := by decide +kernel
theorem dX5_spellInto_82 : decode cX5_spellInto 82 = .ok (.invokevirtual 106, 3) := by decide +kernel
theorem dX5_spellInto_85 : decode cX5_spellInto 85 = .ok (.aload_n 1, 1) := by decide +kernel
theorem dX5_spellInto_86 : decode cX5_spellInto 86 = .ok (.aload_n 3, 1) := by decide +kernel
theorem dX5_spellInto_87 : decode cX5_spellInto 87 = .ok (.iconst 3, 1) := by decide +kernel
theorem dX5_spellInto_88 : decode cX5_spellInto 88 = .ok (.iaload, 1) := by decide +kernel
theorem dX5_spellInto_89 : decode cX5_spellInto 89 = .ok (.invokevirtual 110, 3) := by decide +kernel
theorem dX5_spellInto_92 : decode cX5_spellInto 92 = .ok (.iload_n 2, 1) := by decide +kernel
theorem dX5_spellInto_93 : decode cX5_spellInto 93 = .ok (.ifCond .le 9, 3) := by decide +kernel
theorem dX5_spellInto_96 : decode cX5_spellInto 96 = .ok (.aload_n 1, 1) := by decide +kernel
theorem dX5_spellInto_97 : decode cX5_spellInto 97 = .ok (.bipush 32, 2) := by decide +kernel
theorem dX5_spellInto_99 : decode cX5_spellInto 99 = .ok (.invokevirtual 106, 3) := by decide +kernel
theorem dX5_spellInto_102 : decode cX5_spellInto 102 = .ok (.iinc 2 (-1), 3) := by decide +kernel
theorem dX5_spellInto_105 : decode cX5_spellInto 105 = .ok (.goto (-93), 3) := by decide +kernel
theorem dX5_spellInto_108 : decode cX5_spellInto 108 = .ok (.return_, 1) := by decide +kernel
theorem dX6_init_0 : decode cX6_init 0 = .ok (.aload_n 0, 1) := by decide +kernel
theorem dX6_init_1 : decode cX6_init 1 = .ok (.invokespecial 3, 3) := by decide +kernel
theorem dX6_init_4 : decode cX6_init 4 = .ok (.aload_n 0, 1) := by decide +kernel
theorem dX6_init_5 : decode cX6_init 5 = .ok (.aload_n 1, 1) := by decide +kernel
theorem dX6_init_6 : decode cX6_init 6 = .ok (.putfield 9, 3) := by decide +kernel
theorem dX6_init_9 : decode cX6_init 9 = .ok (.aload_n 0, 1) := by decide +kernel
theorem dX6_init_10 : decode cX6_init 10 = .ok (.bipush 7, 2) := by decide +kernel
theorem dX6_init_12 : decode cX6_init 12 = .ok (.bipush 12, 2) := by decide +kernel
theorem dX6_init_14 : decode cX6_init 14 = .ok (.multianewarray 15 2, 4) := by decide +kernel
theorem dX6_init_18 : decode cX6_init 18 = .ok (.putfield 17, 3) := by decide +kernel
theorem dX6_init_21 : decode cX6_init 21 = .ok (.aload_n 0, 1) := by decide +kernel
theorem dX6_init_22 : decode cX6_init 22 = .ok (.bipush 7, 2) := by decide +kernel
theorem dX6_init_24 : decode cX6_init 24 = .ok (.bipush 12, 2) := by decide +kernel
theorem dX6_init_26 : decode cX6_init 26 = .ok (.multianewarray 15 2, 4) := by decide +kernel
theorem dX6_init_30 : decode cX6_init 30 = .ok (.putfield 20, 3) := by decide +kernel
theorem dX6_init_33 : decode cX6_init 33 = .ok (.aload_n 0, 1) := by decide +kernel
theorem dX6_init_34 : decode cX6_init 34 = .ok (.invokevirtual 23, 3) := by decide +kernel
theorem dX6_init_37 : decode cX6_init 37 = .ok (.return_, 1) := by decide +kernel
theorem dX6_loseNothing_0 : decode cX6_loseNothing 0 = .ok (.aload_n 0, 1) := by decide +kernel
theorem dX6_loseNothing_1 : decode cX6_loseNothing 1 = .ok (.iconst (-1), 1) := by decide +kernel
theorem dX6_loseNothing_2 : decode cX6_loseNothing 2 = .ok (.putfield 26, 3) := by decide +kernel
theorem dX6_loseNothing_5 : decode cX6_loseNothing 5 = .ok (.aload_n 0, 1) := by decide +kernel
theorem dX6_loseNothing_6 : decode cX6_loseNothing 6 = .ok (.iconst (-1), 1) := by decide +kernel
theorem dX6_loseNothing_7 : decode cX6_loseNothing 7 = .ok (.putfield 30, 3) := by decide +kernel
theorem dX6_loseNothing_10 : decode cX6_loseNothing 10 = .ok (.aload_n 0, 1) := by decide +kernel
theorem dX6_loseNothing_11 : decode cX6_loseNothing 11 = .ok (.iconst (-1), 1) := by decide +kernel
theorem dX6_loseNothing_12 : decode cX6_loseNothing 12 = .ok (.putfield 33, 3) := by decide +kernel
theorem dX6_loseNothing_15 : decode cX6_loseNothing 15 = .ok (.return_, 1) := by decide +kernel
theorem dX6_arrival_0 : decode cX6_arrival 0 = .ok (.aload_n 0, 1) := by decide +kernel
theorem dX6_arrival_1 : decode cX6_arrival 1 = .ok (.iload_n 1, 1) := by decide +kernel
theorem dX6_arrival_2 : decode cX6_arrival 2 = .ok (.iload_n 2, 1) := by decide +kernel
theorem dX6_arrival_3 : decode cX6_arrival 3 = .ok (.iload 4, 2) := by decide +kernel
theorem dX6_arrival_5 : decode cX6_arrival 5 = .ok (.invokevirtual 36, 3) := by decide +kernel
theorem dX6_arrival_8 : decode cX6_arrival 8 = .ok (.aload_n 0, 1) := by decide +kernel
theorem dX6_arrival_9 : decode cX6_arrival 9 = .ok (.getfield 17, 3) := by decide +kernel
theorem dX6_arrival_12 : decode cX6_arrival 12 = .ok (.iload 4, 2) := by decide +kernel
theorem dX6_arrival_14 : decode cX6_arrival 14 = .ok (.aaload, 1) := by decide +kernel
theorem dX6_arrival_15 : decode cX6_arrival 15 = .ok (.iload_n 3, 1) := by decide +kernel
theorem dX6_arrival_16 : decode cX6_arrival 16 = .ok (.iaload, 1) := by decide +kernel
theorem dX6_arrival_17 : decode cX6_arrival 17 = .ok (.ireturn, 1) := by decide +kernel
theorem dX6_arrivalWithoutTrip_0 : decode cX6_arrivalWithoutTrip 0 = .ok (.aload_n 0, 1) := by decide +kernel
theorem dX6_arrivalWithoutTrip_1 : decode cX6_arrivalWithoutTrip 1 = .ok (.iload 5, 2) := by decide +kernel
theorem dX6_arrivalWithoutTrip_3 : decode cX6_arrivalWithoutTrip 3 = .ok (.putfield 26, 3) := by decide +kernel
theorem dX6_arrivalWithoutTrip_6 : decode cX6_arrivalWithoutTrip 6 = .ok (.aload_n 0, 1) := by decide +kernel
theorem dX6_arrivalWithoutTrip_7 : decode cX6_arrivalWithoutTrip 7 = .ok (.iload 6, 2) := by decide +kernel
theorem dX6_arrivalWithoutTrip_9 : decode cX6_arrivalWithoutTrip 9 = .ok (.putfield 30, 3) := by decide +kernel
theorem dX6_arrivalWithoutTrip_12 : decode cX6_arrivalWithoutTrip 12 = .ok (.aload_n 0, 1) := by decide +kernel
theorem dX6_arrivalWithoutTrip_13 : decode cX6_arrivalWithoutTrip 13 = .ok (.iload_n 1, 1) := by decide +kernel
theorem dX6_arrivalWithoutTrip_14 : decode cX6_arrivalWithoutTrip 14 = .ok (.iload_n 2, 1) := by decide +kernel
theorem dX6_arrivalWithoutTrip_15 : decode cX6_arrivalWithoutTrip 15 = .ok (.iload 4, 2) := by decide +kernel
theorem dX6_arrivalWithoutTrip_17 : decode cX6_arrivalWithoutTrip 17 = .ok (.invokevirtual 36, 3) := by decide +kernel
theorem dX6_arrivalWithoutTrip_20 : decode cX6_arrivalWithoutTrip 20 = .ok (.aload_n 0, 1) := by decide +kernel
theorem dX6_arrivalWithoutTrip_21 : decode cX6_arrivalWithoutTrip 21 = .ok (.invokevirtual 23, 3) := by decide +kernel
theorem dX6_arrivalWithoutTrip_24 : decode cX6_arrivalWithoutTrip 24 = .ok (.aload_n 0, 1) := by decide +kernel
theorem dX6_arrivalWithoutTrip_25 : decode cX6_arrivalWithoutTrip 25 = .ok (.getfield 17, 3) := by decide +kernel
theorem dX6_arrivalWithoutTrip_28 : decode cX6_arrivalWithoutTrip 28 = .ok (.iload 4, 2) := by decide +kernel
theorem dX6_arrivalWithoutTrip_30 : decode cX6_arrivalWithoutTrip 30 = .ok (.aaload, 1) := by decide +kernel
theorem dX6_arrivalWithoutTrip_31 : decode cX6_arrivalWithoutTrip 31 = .ok (.iload_n 3, 1) := by decide +kernel
theorem dX6_arrivalWithoutTrip_32 : decode cX6_arrivalWithoutTrip 32 = .ok (.iaload, 1) := by decide +kernel
theorem dX6_arrivalWithoutTrip_33 : decode cX6_arrivalWithoutTrip 33 = .ok (.ireturn, 1) := by decide +kernel
theorem dX6_arrivalWithoutStop_0 : decode cX6_arrivalWithoutStop 0 = .ok (.aload_n 0, 1) := by decide +kernel
theorem dX6_arrivalWithoutStop_1 : decode cX6_arrivalWithoutStop 1 = .ok (.iload 5, 2) := by decide +kernel
theorem dX6_arrivalWithoutStop_3 : decode cX6_arrivalWithoutStop 3 = .ok (.putfield 33, 3) := by decide +kernel
theorem dX6_arrivalWithoutStop_6 : decode cX6_arrivalWithoutStop 6 = .ok (.aload_n 0, 1) := by decide +kernel
theorem dX6_arrivalWithoutStop_7 : decode cX6_arrivalWithoutStop 7 = .ok (.iload_n 1, 1) := by decide +kernel
theorem dX6_arrivalWithoutStop_8 : decode cX6_arrivalWithoutStop 8 = .ok (.iload_n 2, 1) := by decide +kernel
theorem dX6_arrivalWithoutStop_9 : decode cX6_arrivalWithoutStop 9 = .ok (.iload 4, 2) := by decide +kernel
theorem dX6_arrivalWithoutStop_11 : decode cX6_arrivalWithoutStop 11 = .ok (.invokevirtual 36, 3) := by decide +kernel
theorem dX6_arrivalWithoutStop_14 : decode cX6_arrivalWithoutStop 14 = .ok (.aload_n 0, 1) := by decide +kernel
theorem dX6_arrivalWithoutStop_15 : decode cX6_arrivalWithoutStop 15 = .ok (.invokevirtual 23, 3) := by decide +kernel
theorem dX6_arrivalWithoutStop_18 : decode cX6_arrivalWithoutStop 18 = .ok (.aload_n 0, 1) := by decide +kernel
theorem dX6_arrivalWithoutStop_19 : decode cX6_arrivalWithoutStop 19 = .ok (.getfield 17, 3) := by decide +kernel
theorem dX6_arrivalWithoutStop_22 : decode cX6_arrivalWithoutStop 22 = .ok (.iload 4, 2) := by decide +kernel
theorem dX6_arrivalWithoutStop_24 : decode cX6_arrivalWithoutStop 24 = .ok (.aaload, 1) := by decide +kernel
theorem dX6_arrivalWithoutStop_25 : decode cX6_arrivalWithoutStop 25 = .ok (.iload_n 3, 1) := by decide +kernel
theorem dX6_arrivalWithoutStop_26 : decode cX6_arrivalWithoutStop 26 = .ok (.iaload, 1) := by decide +kernel
theorem dX6_arrivalWithoutStop_27 : decode cX6_arrivalWithoutStop 27 = .ok (.ireturn, 1) := by decide +kernel
theorem dX6_run_0 : decode cX6_run 0 = .ok (.iconst 0, 1) := by decide +kernel
theorem dX6_run_1 : decode cX6_run 1 = .ok (.istore 4, 2) := by decide +kernel
theorem dX6_run_3 : decode cX6_run 3 = .ok (.iload 4, 2) := by decide +kernel
theorem dX6_run_5 : decode cX6_run 5 = .ok (.iload_n 3, 1) := by decide +kernel
theorem dX6_run_6 : decode cX6_run 6 = .ok (.if_icmp .gt 67, 3) := by decide +kernel
theorem dX6_run_9 : decode cX6_run 9 = .ok (.aload_n 0, 1) := by decide +kernel
theorem dX6_run_10 : decode cX6_run 10 = .ok (.getfield 20, 3) := by decide +kernel
theorem dX6_run_13 : decode cX6_run 13 = .ok (.iload 4, 2) := by decide +kernel
theorem dX6_run_15 : decode cX6_run 15 = .ok (.aaload, 1) := by decide +kernel
theorem dX6_run_16 : decode cX6_run 16 = .ok (.sipush 10000, 3) := by decide +kernel
theorem dX6_run_19 : decode cX6_run 19 = .ok (.invokestatic 40, 3) := by decide +kernel
theorem dX6_run_22 : decode cX6_run 22 = .ok (.iload 4, 2) := by decide +kernel
theorem dX6_run_24 : decode cX6_run 24 = .ok (.ifCond .le 23, 3) := by decide +kernel
theorem dX6_run_27 : decode cX6_run 27 = .ok (.aload_n 0, 1) := by decide +kernel
theorem dX6_run_28 : decode cX6_run 28 = .ok (.aload_n 0, 1) := by decide +kernel
theorem dX6_run_29 : decode cX6_run 29 = .ok (.getfield 17, 3) := by decide +kernel
theorem dX6_run_32 : decode cX6_run 32 = .ok (.iload 4, 2) := by decide +kernel
theorem dX6_run_34 : decode cX6_run 34 = .ok (.iconst 1, 1) := by decide +kernel
theorem dX6_run_35 : decode cX6_run 35 = .ok (.isub, 1) := by decide +kernel
theorem dX6_run_36 : decode cX6_run 36 = .ok (.aaload, 1) := by decide +kernel
theorem dX6_run_37 : decode cX6_run 37 = .ok (.aload_n 0, 1) := by decide +kernel
theorem dX6_run_38 : decode cX6_run 38 = .ok (.getfield 20, 3) := by decide +kernel
theorem dX6_run_41 : decode cX6_run 41 = .ok (.iload 4, 2) := by decide +kernel
theorem dX6_run_43 : decode cX6_run 43 = .ok (.aaload, 1) := by decide +kernel
theorem dX6_run_44 : decode cX6_run 44 = .ok (.invokevirtual 46, 3) := by decide +kernel
theorem dX6_run_47 : decode cX6_run 47 = .ok (.aload_n 0, 1) := by decide +kernel
theorem dX6_run_48 : decode cX6_run 48 = .ok (.iload_n 1, 1) := by decide +kernel
theorem dX6_run_49 : decode cX6_run 49 = .ok (.iload_n 2, 1) := by decide +kernel
theorem dX6_run_50 : decode cX6_run 50 = .ok (.aload_n 0, 1) := by decide +kernel
theorem dX6_run_51 : decode cX6_run 51 = .ok (.getfield 20, 3) := by decide +kernel
theorem dX6_run_54 : decode cX6_run 54 = .ok (.iload 4, 2) := by decide +kernel
theorem dX6_run_56 : decode cX6_run 56 = .ok (.aaload, 1) := by decide +kernel
theorem dX6_run_57 : decode cX6_run 57 = .ok (.aload_n 0, 1) := by decide +kernel
theorem dX6_run_58 : decode cX6_run 58 = .ok (.getfield 17, 3) := by decide +kernel
theorem dX6_run_61 : decode cX6_run 61 = .ok (.iload 4, 2) := by decide +kernel
theorem dX6_run_63 : decode cX6_run 63 = .ok (.aaload, 1) := by decide +kernel
theorem dX6_run_64 : decode cX6_run 64 = .ok (.invokevirtual 50, 3) := by decide +kernel
theorem dX6_run_67 : decode cX6_run 67 = .ok (.iinc 4 1, 3) := by decide +kernel
theorem dX6_run_70 : decode cX6_run 70 = .ok (.goto (-67), 3) := by decide +kernel
theorem dX6_run_73 : decode cX6_run 73 = .ok (.return_, 1) := by decide +kernel
theorem dX6_rideAll_0 : decode cX6_rideAll 0 = .ok (.iconst 0, 1) := by decide +kernel
theorem dX6_rideAll_1 : decode cX6_rideAll 1 = .ok (.istore_n 3, 1) := by decide +kernel
theorem dX6_rideAll_2 : decode cX6_rideAll 2 = .ok (.iload_n 3, 1) := by decide +kernel
theorem dX6_rideAll_3 : decode cX6_rideAll 3 = .ok (.aload_n 0, 1) := by decide +kernel
theorem dX6_rideAll_4 : decode cX6_rideAll 4 = .ok (.getfield 9, 3) := by decide +kernel
theorem dX6_rideAll_7 : decode cX6_rideAll 7 = .ok (.getfield 54, 3) := by decide +kernel
theorem dX6_rideAll_10 : decode cX6_rideAll 10 = .ok (.if_icmp .ge 83, 3) := by decide +kernel
theorem dX6_rideAll_13 : decode cX6_rideAll 13 = .ok (.iconst 0, 1) := by decide +kernel
theorem dX6_rideAll_14 : decode cX6_rideAll 14 = .ok (.istore 4, 2) := by decide +kernel
theorem dX6_rideAll_16 : decode cX6_rideAll 16 = .ok (.iload 4, 2) := by decide +kernel
theorem dX6_rideAll_18 : decode cX6_rideAll 18 = .ok (.aload_n 0, 1) := by decide +kernel
theorem dX6_rideAll_19 : decode cX6_rideAll 19 = .ok (.getfield 9, 3) := by decide +kernel
theorem dX6_rideAll_22 : decode cX6_rideAll 22 = .ok (.getfield 59, 3) := by decide +kernel
theorem dX6_rideAll_25 : decode cX6_rideAll 25 = .ok (.iload_n 3, 1) := by decide +kernel
theorem dX6_rideAll_26 : decode cX6_rideAll 26 = .ok (.iaload, 1) := by decide +kernel
theorem dX6_rideAll_27 : decode cX6_rideAll 27 = .ok (.if_icmp .ge 60, 3) := by decide +kernel
theorem dX6_rideAll_30 : decode cX6_rideAll 30 = .ok (.iload_n 3, 1) := by decide +kernel
theorem dX6_rideAll_31 : decode cX6_rideAll 31 = .ok (.aload_n 0, 1) := by decide +kernel
theorem dX6_rideAll_32 : decode cX6_rideAll 32 = .ok (.getfield 26, 3) := by decide +kernel
theorem dX6_rideAll_35 : decode cX6_rideAll 35 = .ok (.if_icmp .ne 16, 3) := by decide +kernel
theorem dX6_rideAll_38 : decode cX6_rideAll 38 = .ok (.iload 4, 2) := by decide +kernel
theorem dX6_rideAll_40 : decode cX6_rideAll 40 = .ok (.aload_n 0, 1) := by decide +kernel
theorem dX6_rideAll_41 : decode cX6_rideAll 41 = .ok (.getfield 30, 3) := by decide +kernel
theorem dX6_rideAll_44 : decode cX6_rideAll 44 = .ok (.if_icmp .ne 7, 3) := by decide +kernel
theorem dX6_rideAll_47 : decode cX6_rideAll 47 = .ok (.iconst 1, 1) := by decide +kernel
theorem dX6_rideAll_48 : decode cX6_rideAll 48 = .ok (.goto 4, 3) := by decide +kernel
theorem dX6_rideAll_51 : decode cX6_rideAll 51 = .ok (.iconst 0, 1) := by decide +kernel
theorem dX6_rideAll_52 : decode cX6_rideAll 52 = .ok (.istore 5, 2) := by decide +kernel
theorem dX6_rideAll_54 : decode cX6_rideAll 54 = .ok (.iload 5, 2) := by decide +kernel
theorem dX6_rideAll_56 : decode cX6_rideAll 56 = .ok (.ifCond .ne 25, 3) := by decide +kernel
theorem dX6_rideAll_59 : decode cX6_rideAll 59 = .ok (.aload_n 0, 1) := by decide +kernel
theorem dX6_rideAll_60 : decode cX6_rideAll 60 = .ok (.getfield 9, 3) := by decide +kernel
theorem dX6_rideAll_63 : decode cX6_rideAll 63 = .ok (.iload_n 3, 1) := by decide +kernel
theorem dX6_rideAll_64 : decode cX6_rideAll 64 = .ok (.iload 4, 2) := by decide +kernel
theorem dX6_rideAll_66 : decode cX6_rideAll 66 = .ok (.invokevirtual 63, 3) := by decide +kernel
theorem dX6_rideAll_69 : decode cX6_rideAll 69 = .ok (.ifCond .eq 12, 3) := by decide +kernel
theorem dX6_rideAll_72 : decode cX6_rideAll 72 = .ok (.aload_n 0, 1) := by decide +kernel
theorem dX6_rideAll_73 : decode cX6_rideAll 73 = .ok (.iload_n 3, 1) := by decide +kernel
theorem dX6_rideAll_74 : decode cX6_rideAll 74 = .ok (.iload 4, 2) := by decide +kernel
theorem dX6_rideAll_76 : decode cX6_rideAll 76 = .ok (.aload_n 1, 1) := by decide +kernel
theorem dX6_rideAll_77 : decode cX6_rideAll 77 = .ok (.aload_n 2, 1) := by decide +kernel
theorem dX6_rideAll_78 : decode cX6_rideAll 78 = .ok (.invokevirtual 67, 3) := by decide +kernel
theorem dX6_rideAll_81 : decode cX6_rideAll 81 = .ok (.iinc 4 1, 3) := by decide +kernel
theorem dX6_rideAll_84 : decode cX6_rideAll 84 = .ok (.goto (-68), 3) := by decide +kernel
theorem dX6_rideAll_87 : decode cX6_rideAll 87 = .ok (.iinc 3 1, 3) := by decide +kernel
theorem dX6_rideAll_90 : decode cX6_rideAll 90 = .ok (.goto (-88), 3) := by decide +kernel
theorem dX6_rideAll_93 : decode cX6_rideAll 93 = .ok (.return_, 1) := by decide +kernel
theorem dX6_rideOne_0 : decode cX6_rideOne 0 = .ok (.iconst 0, 1) := by decide +kernel
theorem dX6_rideOne_1 : decode cX6_rideOne 1 = .ok (.istore 5, 2) := by decide +kernel
theorem dX6_rideOne_3 : decode cX6_rideOne 3 = .ok (.iconst 0, 1) := by decide +kernel
theorem dX6_rideOne_4 : decode cX6_rideOne 4 = .ok (.istore 6, 2) := by decide +kernel
theorem dX6_rideOne_6 : decode cX6_rideOne 6 = .ok (.iload 6, 2) := by decide +kernel
theorem dX6_rideOne_8 : decode cX6_rideOne 8 = .ok (.aload_n 0, 1) := by decide +kernel
theorem dX6_rideOne_9 : decode cX6_rideOne 9 = .ok (.getfield 9, 3) := by decide +kernel
theorem dX6_rideOne_12 : decode cX6_rideOne 12 = .ok (.getfield 70, 3) := by decide +kernel
theorem dX6_rideOne_15 : decode cX6_rideOne 15 = .ok (.iload_n 1, 1) := by decide +kernel
theorem dX6_rideOne_16 : decode cX6_rideOne 16 = .ok (.iaload, 1) := by decide +kernel
theorem dX6_rideOne_17 : decode cX6_rideOne 17 = .ok (.if_icmp .ge 79, 3) := by decide +kernel
theorem dX6_rideOne_20 : decode cX6_rideOne 20 = .ok (.aload_n 0, 1) := by decide +kernel
theorem dX6_rideOne_21 : decode cX6_rideOne 21 = .ok (.getfield 9, 3) := by decide +kernel
theorem dX6_rideOne_24 : decode cX6_rideOne 24 = .ok (.getfield 73, 3) := by decide +kernel
theorem dX6_rideOne_27 : decode cX6_rideOne 27 = .ok (.iload_n 1, 1) := by decide +kernel
theorem dX6_rideOne_28 : decode cX6_rideOne 28 = .ok (.aaload, 1) := by decide +kernel
theorem dX6_rideOne_29 : decode cX6_rideOne 29 = .ok (.iload 6, 2) := by decide +kernel
theorem dX6_rideOne_31 : decode cX6_rideOne 31 = .ok (.iaload, 1) := by decide +kernel
theorem dX6_rideOne_32 : decode cX6_rideOne 32 = .ok (.istore 7, 2) := by decide +kernel
theorem dX6_rideOne_34 : decode cX6_rideOne 34 = .ok (.aload_n 0, 1) := by decide +kernel
theorem dX6_rideOne_35 : decode cX6_rideOne 35 = .ok (.getfield 9, 3) := by decide +kernel
theorem dX6_rideOne_38 : decode cX6_rideOne 38 = .ok (.iload_n 1, 1) := by decide +kernel
theorem dX6_rideOne_39 : decode cX6_rideOne 39 = .ok (.iload_n 2, 1) := by decide +kernel
theorem dX6_rideOne_40 : decode cX6_rideOne 40 = .ok (.iload 6, 2) := by decide +kernel
theorem dX6_rideOne_42 : decode cX6_rideOne 42 = .ok (.invokevirtual 76, 3) := by decide +kernel
theorem dX6_rideOne_45 : decode cX6_rideOne 45 = .ok (.istore 8, 2) := by decide +kernel
theorem dX6_rideOne_47 : decode cX6_rideOne 47 = .ok (.iload 5, 2) := by decide +kernel
theorem dX6_rideOne_49 : decode cX6_rideOne 49 = .ok (.ifCond .eq 29, 3) := by decide +kernel
theorem dX6_rideOne_52 : decode cX6_rideOne 52 = .ok (.iload 7, 2) := by decide +kernel
theorem dX6_rideOne_54 : decode cX6_rideOne 54 = .ok (.aload_n 0, 1) := by decide +kernel
theorem dX6_rideOne_55 : decode cX6_rideOne 55 = .ok (.getfield 33, 3) := by decide +kernel
theorem dX6_rideOne_58 : decode cX6_rideOne 58 = .ok (.if_icmp .eq 20, 3) := by decide +kernel
theorem dX6_rideOne_61 : decode cX6_rideOne 61 = .ok (.iload 8, 2) := by decide +kernel
theorem dX6_rideOne_63 : decode cX6_rideOne 63 = .ok (.aload 4, 2) := by decide +kernel
theorem dX6_rideOne_65 : decode cX6_rideOne 65 = .ok (.iload 7, 2) := by decide +kernel
theorem dX6_rideOne_67 : decode cX6_rideOne 67 = .ok (.iaload, 1) := by decide +kernel
theorem dX6_rideOne_68 : decode cX6_rideOne 68 = .ok (.if_icmp .ge 10, 3) := by decide +kernel
theorem dX6_rideOne_71 : decode cX6_rideOne 71 = .ok (.aload 4, 2) := by decide +kernel
theorem dX6_rideOne_73 : decode cX6_rideOne 73 = .ok (.iload 7, 2) := by decide +kernel
theorem dX6_rideOne_75 : decode cX6_rideOne 75 = .ok (.iload 8, 2) := by decide +kernel
theorem dX6_rideOne_77 : decode cX6_rideOne 77 = .ok (.iastore, 1) := by decide +kernel
theorem dX6_rideOne_78 : decode cX6_rideOne 78 = .ok (.aload_n 3, 1) := by decide +kernel
theorem dX6_rideOne_79 : decode cX6_rideOne 79 = .ok (.iload 7, 2) := by decide +kernel
theorem dX6_rideOne_81 : decode cX6_rideOne 81 = .ok (.iaload, 1) := by decide +kernel
theorem dX6_rideOne_82 : decode cX6_rideOne 82 = .ok (.iload 8, 2) := by decide +kernel
theorem dX6_rideOne_84 : decode cX6_rideOne 84 = .ok (.if_icmp .gt 6, 3) := by decide +kernel
theorem dX6_rideOne_87 : decode cX6_rideOne 87 = .ok (.iconst 1, 1) := by decide +kernel
theorem dX6_rideOne_88 : decode cX6_rideOne 88 = .ok (.istore 5, 2) := by decide +kernel
theorem dX6_rideOne_90 : decode cX6_rideOne 90 = .ok (.iinc 6 1, 3) := by decide +kernel
theorem dX6_rideOne_93 : decode cX6_rideOne 93 = .ok (.goto (-87), 3) := by decide +kernel
theorem dX6_rideOne_96 : decode cX6_rideOne 96 = .ok (.return_, 1) := by decide +kernel
theorem dX6_arriveAll_0 : decode cX6_arriveAll 0 = .ok (.iconst 0, 1) := by decide +kernel
theorem dX6_arriveAll_1 : decode cX6_arriveAll 1 = .ok (.istore 5, 2) := by decide +kernel
theorem dX6_arriveAll_3 : decode cX6_arriveAll 3 = .ok (.iload 5, 2) := by decide +kernel
theorem dX6_arriveAll_5 : decode cX6_arriveAll 5 = .ok (.bipush 12, 2) := by decide +kernel
theorem dX6_arriveAll_7 : decode cX6_arriveAll 7 = .ok (.if_icmp .ge 38, 3) := by decide +kernel
theorem dX6_arriveAll_10 : decode cX6_arriveAll 10 = .ok (.aload 4, 2) := by decide +kernel
theorem dX6_arriveAll_12 : decode cX6_arriveAll 12 = .ok (.iload 5, 2) := by decide +kernel
theorem dX6_arriveAll_14 : decode cX6_arriveAll 14 = .ok (.iload 5, 2) := by decide +kernel
theorem dX6_arriveAll_16 : decode cX6_arriveAll 16 = .ok (.aload_n 0, 1) := by decide +kernel
theorem dX6_arriveAll_17 : decode cX6_arriveAll 17 = .ok (.getfield 33, 3) := by decide +kernel
theorem dX6_arriveAll_20 : decode cX6_arriveAll 20 = .ok (.if_icmp .ne 9, 3) := by decide +kernel
theorem dX6_arriveAll_23 : decode cX6_arriveAll 23 = .ok (.sipush 10000, 3) := by decide +kernel
theorem dX6_arriveAll_26 : decode cX6_arriveAll 26 = .ok (.goto 12, 3) := by decide +kernel
theorem dX6_arriveAll_29 : decode cX6_arriveAll 29 = .ok (.aload_n 0, 1) := by decide +kernel
theorem dX6_arriveAll_30 : decode cX6_arriveAll 30 = .ok (.iload 5, 2) := by decide +kernel
theorem dX6_arriveAll_32 : decode cX6_arriveAll 32 = .ok (.iload_n 1, 1) := by decide +kernel
theorem dX6_arriveAll_33 : decode cX6_arriveAll 33 = .ok (.iload_n 2, 1) := by decide +kernel
theorem dX6_arriveAll_34 : decode cX6_arriveAll 34 = .ok (.aload_n 3, 1) := by decide +kernel
theorem dX6_arriveAll_35 : decode cX6_arriveAll 35 = .ok (.invokevirtual 80, 3) := by decide +kernel
theorem dX6_arriveAll_38 : decode cX6_arriveAll 38 = .ok (.iastore, 1) := by decide +kernel
theorem dX6_arriveAll_39 : decode cX6_arriveAll 39 = .ok (.iinc 5 1, 3) := by decide +kernel
theorem dX6_arriveAll_42 : decode cX6_arriveAll 42 = .ok (.goto (-39), 3) := by decide +kernel
theorem dX6_arriveAll_45 : decode cX6_arriveAll 45 = .ok (.return_, 1) := by decide +kernel
theorem dX6_arriveAt_0 : decode cX6_arriveAt 0 = .ok (.iload_n 1, 1) := by decide +kernel
theorem dX6_arriveAt_1 : decode cX6_arriveAt 1 = .ok (.iload_n 2, 1) := by decide +kernel
theorem dX6_arriveAt_2 : decode cX6_arriveAt 2 = .ok (.if_icmp .ne 5, 3) := by decide +kernel
theorem dX6_arriveAt_5 : decode cX6_arriveAt 5 = .ok (.iload_n 3, 1) := by decide +kernel
theorem dX6_arriveAt_6 : decode cX6_arriveAt 6 = .ok (.ireturn, 1) := by decide +kernel
theorem dX6_arriveAt_7 : decode cX6_arriveAt 7 = .ok (.aload 4, 2) := by decide +kernel
theorem dX6_arriveAt_9 : decode cX6_arriveAt 9 = .ok (.iload_n 1, 1) := by decide +kernel
theorem dX6_arriveAt_10 : decode cX6_arriveAt 10 = .ok (.iaload, 1) := by decide +kernel
theorem dX6_arriveAt_11 : decode cX6_arriveAt 11 = .ok (.istore 5, 2) := by decide +kernel
theorem dX6_arriveAt_13 : decode cX6_arriveAt 13 = .ok (.iconst 0, 1) := by decide +kernel
theorem dX6_arriveAt_14 : decode cX6_arriveAt 14 = .ok (.istore 6, 2) := by decide +kernel
theorem dX6_arriveAt_16 : decode cX6_arriveAt 16 = .ok (.iload 6, 2) := by decide +kernel
theorem dX6_arriveAt_18 : decode cX6_arriveAt 18 = .ok (.bipush 12, 2) := by decide +kernel
theorem dX6_arriveAt_20 : decode cX6_arriveAt 20 = .ok (.if_icmp .ge 65, 3) := by decide +kernel
theorem dX6_arriveAt_23 : decode cX6_arriveAt 23 = .ok (.aload_n 0, 1) := by decide +kernel
theorem dX6_arriveAt_24 : decode cX6_arriveAt 24 = .ok (.getfield 9, 3) := by decide +kernel
theorem dX6_arriveAt_27 : decode cX6_arriveAt 27 = .ok (.getfield 84, 3) := by decide +kernel
theorem dX6_arriveAt_30 : decode cX6_arriveAt 30 = .ok (.iload 6, 2) := by decide +kernel
theorem dX6_arriveAt_32 : decode cX6_arriveAt 32 = .ok (.aaload, 1) := by decide +kernel
theorem dX6_arriveAt_33 : decode cX6_arriveAt 33 = .ok (.iload_n 1, 1) := by decide +kernel
theorem dX6_arriveAt_34 : decode cX6_arriveAt 34 = .ok (.iaload, 1) := by decide +kernel
theorem dX6_arriveAt_35 : decode cX6_arriveAt 35 = .ok (.istore 7, 2) := by decide +kernel
theorem dX6_arriveAt_37 : decode cX6_arriveAt 37 = .ok (.iload 6, 2) := by decide +kernel
theorem dX6_arriveAt_39 : decode cX6_arriveAt 39 = .ok (.iload_n 2, 1) := by decide +kernel
theorem dX6_arriveAt_40 : decode cX6_arriveAt 40 = .ok (.if_icmp .ne 7, 3) := by decide +kernel
theorem dX6_arriveAt_43 : decode cX6_arriveAt 43 = .ok (.iload_n 3, 1) := by decide +kernel
theorem dX6_arriveAt_44 : decode cX6_arriveAt 44 = .ok (.goto 8, 3) := by decide +kernel
theorem dX6_arriveAt_47 : decode cX6_arriveAt 47 = .ok (.aload 4, 2) := by decide +kernel
theorem dX6_arriveAt_49 : decode cX6_arriveAt 49 = .ok (.iload 6, 2) := by decide +kernel
theorem dX6_arriveAt_51 : decode cX6_arriveAt 51 = .ok (.iaload, 1) := by decide +kernel
theorem dX6_arriveAt_52 : decode cX6_arriveAt 52 = .ok (.istore 8, 2) := by decide +kernel
theorem dX6_arriveAt_54 : decode cX6_arriveAt 54 = .ok (.iload 7, 2) := by decide +kernel
theorem dX6_arriveAt_56 : decode cX6_arriveAt 56 = .ok (.ifCond .eq 23, 3) := by decide +kernel
theorem dX6_arriveAt_59 : decode cX6_arriveAt 59 = .ok (.iload 8, 2) := by decide +kernel
theorem dX6_arriveAt_61 : decode cX6_arriveAt 61 = .ok (.sipush 10000, 3) := by decide +kernel
theorem dX6_arriveAt_64 : decode cX6_arriveAt 64 = .ok (.if_icmp .eq 15, 3) := by decide +kernel
theorem dX6_arriveAt_67 : decode cX6_arriveAt 67 = .ok (.iload 5, 2) := by decide +kernel
theorem dX6_arriveAt_69 : decode cX6_arriveAt 69 = .ok (.iload 8, 2) := by decide +kernel
theorem dX6_arriveAt_71 : decode cX6_arriveAt 71 = .ok (.iload 7, 2) := by decide +kernel
theorem dX6_arriveAt_73 : decode cX6_arriveAt 73 = .ok (.iadd, 1) := by decide +kernel
theorem dX6_arriveAt_74 : decode cX6_arriveAt 74 = .ok (.invokestatic 87, 3) := by decide +kernel
theorem dX6_arriveAt_77 : decode cX6_arriveAt 77 = .ok (.istore 5, 2) := by decide +kernel
theorem dX6_arriveAt_79 : decode cX6_arriveAt 79 = .ok (.iinc 6 1, 3) := by decide +kernel
theorem dX6_arriveAt_82 : decode cX6_arriveAt 82 = .ok (.goto (-66), 3) := by decide +kernel
theorem dX6_arriveAt_85 : decode cX6_arriveAt 85 = .ok (.iload 5, 2) := by decide +kernel
theorem dX6_arriveAt_87 : decode cX6_arriveAt 87 = .ok (.ireturn, 1) := by decide +kernel
theorem dX7_init_0 : decode cX7_init 0 = .ok (.aload_n 0, 1) := by decide +kernel
theorem dX7_init_1 : decode cX7_init 1 = .ok (.invokespecial 1, 3) := by decide +kernel
theorem dX7_init_4 : decode cX7_init 4 = .ok (.aload_n 0, 1) := by decide +kernel
theorem dX7_init_5 : decode cX7_init 5 = .ok (.iconst 0, 1) := by decide +kernel
theorem dX7_init_6 : decode cX7_init 6 = .ok (.iload_n 1, 1) := by decide +kernel
theorem dX7_init_7 : decode cX7_init 7 = .ok (.invokestatic 7, 3) := by decide +kernel
theorem dX7_init_10 : decode cX7_init 10 = .ok (.newarray .int, 2) := by decide +kernel
theorem dX7_init_12 : decode cX7_init 12 = .ok (.putfield 13, 3) := by decide +kernel
theorem dX7_init_15 : decode cX7_init 15 = .ok (.aload_n 0, 1) := by decide +kernel
theorem dX7_init_16 : decode cX7_init 16 = .ok (.iconst 0, 1) := by decide +kernel
theorem dX7_init_17 : decode cX7_init 17 = .ok (.putfield 19, 3) := by decide +kernel
theorem dX7_init_20 : decode cX7_init 20 = .ok (.return_, 1) := by decide +kernel
theorem dX7_put_0 : decode cX7_put 0 = .ok (.aload_n 0, 1) := by decide +kernel
theorem dX7_put_1 : decode cX7_put 1 = .ok (.getfield 19, 3) := by decide +kernel
theorem dX7_put_4 : decode cX7_put 4 = .ok (.aload_n 0, 1) := by decide +kernel
theorem dX7_put_5 : decode cX7_put 5 = .ok (.getfield 13, 3) := by decide +kernel
theorem dX7_put_8 : decode cX7_put 8 = .ok (.arraylength, 1) := by decide +kernel
theorem dX7_put_9 : decode cX7_put 9 = .ok (.if_icmp .lt 4, 3) := by decide +kernel
theorem dX7_put_12 : decode cX7_put 12 = .ok (.return_, 1) := by decide +kernel
theorem dX7_put_13 : decode cX7_put 13 = .ok (.aload_n 0, 1) := by decide +kernel
theorem dX7_put_14 : decode cX7_put 14 = .ok (.getfield 13, 3) := by decide +kernel
theorem dX7_put_17 : decode cX7_put 17 = .ok (.aload_n 0, 1) := by decide +kernel
theorem dX7_put_18 : decode cX7_put 18 = .ok (.getfield 19, 3) := by decide +kernel
theorem dX7_put_21 : decode cX7_put 21 = .ok (.iload_n 1, 1) := by decide +kernel
theorem dX7_put_22 : decode cX7_put 22 = .ok (.iastore, 1) := by decide +kernel
theorem dX7_put_23 : decode cX7_put 23 = .ok (.aload_n 0, 1) := by decide +kernel
theorem dX7_put_24 : decode cX7_put 24 = .ok (.dup, 1) := by decide +kernel
theorem dX7_put_25 : decode cX7_put 25 = .ok (.getfield 19, 3) := by decide +kernel
theorem dX7_put_28 : decode cX7_put 28 = .ok (.iconst 1, 1) := by decide +kernel
theorem dX7_put_29 : decode cX7_put 29 = .ok (.iadd, 1) := by decide +kernel
theorem dX7_put_30 : decode cX7_put 30 = .ok (.putfield 19, 3) := by decide +kernel
theorem dX7_put_33 : decode cX7_put 33 = .ok (.return_, 1) := by decide +kernel
theorem dX7_putNumber_0 : decode cX7_putNumber 0 = .ok (.iload_n 1, 1) := by decide +kernel
theorem dX7_putNumber_1 : decode cX7_putNumber 1 = .ok (.bipush 10, 2) := by decide +kernel
theorem dX7_putNumber_3 : decode cX7_putNumber 3 = .ok (.if_icmp .lt 14, 3) := by decide +kernel
theorem dX7_putNumber_6 : decode cX7_putNumber 6 = .ok (.aload_n 0, 1) := by decide +kernel
theorem dX7_putNumber_7 : decode cX7_putNumber 7 = .ok (.bipush 48, 2) := by decide +kernel
theorem dX7_putNumber_9 : decode cX7_putNumber 9 = .ok (.iload_n 1, 1) := by decide +kernel
theorem dX7_putNumber_10 : decode cX7_putNumber 10 = .ok (.bipush 10, 2) := by decide +kernel
theorem dX7_putNumber_12 : decode cX7_putNumber 12 = .ok (.idiv, 1) := by decide +kernel
theorem dX7_putNumber_13 : decode cX7_putNumber 13 = .ok (.iadd, 1) := by decide +kernel
theorem dX7_putNumber_14 : decode cX7_putNumber 14 = .ok (.invokevirtual 23, 3) := by decide +kernel
theorem dX7_putNumber_17 : decode cX7_putNumber 17 = .ok (.aload_n 0, 1) := by decide +kernel
theorem dX7_putNumber_18 : decode cX7_putNumber 18 = .ok (.bipush 48, 2) := by decide +kernel
theorem dX7_putNumber_20 : decode cX7_putNumber 20 = .ok (.iload_n 1, 1) := by decide +kernel
theorem dX7_putNumber_21 : decode cX7_putNumber 21 = .ok (.bipush 10, 2) := by decide +kernel
theorem dX7_putNumber_23 : decode cX7_putNumber 23 = .ok (.irem, 1) := by decide +kernel
theorem dX7_putNumber_24 : decode cX7_putNumber 24 = .ok (.iadd, 1) := by decide +kernel
theorem dX7_putNumber_25 : decode cX7_putNumber 25 = .ok (.invokevirtual 23, 3) := by decide +kernel
theorem dX7_putNumber_28 : decode cX7_putNumber 28 = .ok (.return_, 1) := by decide +kernel
theorem dX7_byteAt_0 : decode cX7_byteAt 0 = .ok (.iload_n 1, 1) := by decide +kernel
theorem dX7_byteAt_1 : decode cX7_byteAt 1 = .ok (.ifCond .lt 20, 3) := by decide +kernel
theorem dX7_byteAt_4 : decode cX7_byteAt 4 = .ok (.iload_n 1, 1) := by decide +kernel
theorem dX7_byteAt_5 : decode cX7_byteAt 5 = .ok (.aload_n 0, 1) := by decide +kernel
theorem dX7_byteAt_6 : decode cX7_byteAt 6 = .ok (.getfield 19, 3) := by decide +kernel
theorem dX7_byteAt_9 : decode cX7_byteAt 9 = .ok (.if_icmp .ge 12, 3) := by decide +kernel
theorem dX7_byteAt_12 : decode cX7_byteAt 12 = .ok (.aload_n 0, 1) := by decide +kernel
theorem dX7_byteAt_13 : decode cX7_byteAt 13 = .ok (.getfield 13, 3) := by decide +kernel
theorem dX7_byteAt_16 : decode cX7_byteAt 16 = .ok (.iload_n 1, 1) := by decide +kernel
theorem dX7_byteAt_17 : decode cX7_byteAt 17 = .ok (.iaload, 1) := by decide +kernel
theorem dX7_byteAt_18 : decode cX7_byteAt 18 = .ok (.goto 4, 3) := by decide +kernel
theorem dX7_byteAt_21 : decode cX7_byteAt 21 = .ok (.iconst 0, 1) := by decide +kernel
theorem dX7_byteAt_22 : decode cX7_byteAt 22 = .ok (.ireturn, 1) := by decide +kernel
theorem dX8_init_0 : decode cX8_init 0 = .ok (.aload_n 0, 1) := by decide +kernel
theorem dX8_init_1 : decode cX8_init 1 = .ok (.invokespecial 1, 3) := by decide +kernel
theorem dX8_init_4 : decode cX8_init 4 = .ok (.aload_n 0, 1) := by decide +kernel
theorem dX8_init_5 : decode cX8_init 5 = .ok (.new 7, 3) := by decide +kernel
theorem dX8_init_8 : decode cX8_init 8 = .ok (.dup, 1) := by decide +kernel
theorem dX8_init_9 : decode cX8_init 9 = .ok (.invokespecial 9, 3) := by decide +kernel
theorem dX8_init_12 : decode cX8_init 12 = .ok (.putfield 10, 3) := by decide +kernel
theorem dX8_init_15 : decode cX8_init 15 = .ok (.aload_n 0, 1) := by decide +kernel
theorem dX8_init_16 : decode cX8_init 16 = .ok (.new 7, 3) := by decide +kernel
theorem dX8_init_19 : decode cX8_init 19 = .ok (.dup, 1) := by decide +kernel
theorem dX8_init_20 : decode cX8_init 20 = .ok (.invokespecial 9, 3) := by decide +kernel
theorem dX8_init_23 : decode cX8_init 23 = .ok (.putfield 16, 3) := by decide +kernel
theorem dX8_init_26 : decode cX8_init 26 = .ok (.aload_n 0, 1) := by decide +kernel
theorem dX8_init_27 : decode cX8_init 27 = .ok (.new 7, 3) := by decide +kernel
theorem dX8_init_30 : decode cX8_init 30 = .ok (.dup, 1) := by decide +kernel
theorem dX8_init_31 : decode cX8_init 31 = .ok (.invokespecial 9, 3) := by decide +kernel
theorem dX8_init_34 : decode cX8_init 34 = .ok (.putfield 19, 3) := by decide +kernel
theorem dX8_init_37 : decode cX8_init 37 = .ok (.aload_n 0, 1) := by decide +kernel
theorem dX8_init_38 : decode cX8_init 38 = .ok (.new 22, 3) := by decide +kernel
theorem dX8_init_41 : decode cX8_init 41 = .ok (.dup, 1) := by decide +kernel
theorem dX8_init_42 : decode cX8_init 42 = .ok (.aload_n 0, 1) := by decide +kernel
theorem dX8_init_43 : decode cX8_init 43 = .ok (.getfield 10, 3) := by decide +kernel
theorem dX8_init_46 : decode cX8_init 46 = .ok (.invokespecial 24, 3) := by decide +kernel
theorem dX8_init_49 : decode cX8_init 49 = .ok (.putfield 27, 3) := by decide +kernel
theorem dX8_init_52 : decode cX8_init 52 = .ok (.aload_n 0, 1) := by decide +kernel
theorem dX8_init_53 : decode cX8_init 53 = .ok (.new 31, 3) := by decide +kernel
theorem dX8_init_56 : decode cX8_init 56 = .ok (.dup, 1) := by decide +kernel
theorem dX8_init_57 : decode cX8_init 57 = .ok (.aload_n 0, 1) := by decide +kernel
theorem dX8_init_58 : decode cX8_init 58 = .ok (.getfield 10, 3) := by decide +kernel
theorem dX8_init_61 : decode cX8_init 61 = .ok (.aload_n 0, 1) := by decide +kernel
theorem dX8_init_62 : decode cX8_init 62 = .ok (.getfield 27, 3) := by decide +kernel
theorem dX8_init_65 : decode cX8_init 65 = .ok (.invokespecial 33, 3) := by decide +kernel
theorem dX8_init_68 : decode cX8_init 68 = .ok (.putfield 36, 3) := by decide +kernel
theorem dX8_init_71 : decode cX8_init 71 = .ok (.aload_n 0, 1) := by decide +kernel
theorem dX8_init_72 : decode cX8_init 72 = .ok (.new 40, 3) := by decide +kernel
theorem dX8_init_75 : decode cX8_init 75 = .ok (.dup, 1) := by decide +kernel
theorem dX8_init_76 : decode cX8_init 76 = .ok (.aload_n 0, 1) := by decide +kernel
theorem dX8_init_77 : decode cX8_init 77 = .ok (.getfield 10, 3) := by decide +kernel
theorem dX8_init_80 : decode cX8_init 80 = .ok (.invokespecial 42, 3) := by decide +kernel
theorem dX8_init_83 : decode cX8_init 83 = .ok (.putfield 43, 3) := by decide +kernel
theorem dX8_init_86 : decode cX8_init 86 = .ok (.aload_n 0, 1) := by decide +kernel
theorem dX8_init_87 : decode cX8_init 87 = .ok (.new 47, 3) := by decide +kernel
theorem dX8_init_90 : decode cX8_init 90 = .ok (.dup, 1) := by decide +kernel
theorem dX8_init_91 : decode cX8_init 91 = .ok (.bipush 80, 2) := by decide +kernel
theorem dX8_init_93 : decode cX8_init 93 = .ok (.invokespecial 49, 3) := by decide +kernel
theorem dX8_init_96 : decode cX8_init 96 = .ok (.putfield 52, 3) := by decide +kernel
theorem dX8_init_99 : decode cX8_init 99 = .ok (.aload_n 0, 1) := by decide +kernel
theorem dX8_init_100 : decode cX8_init 100 = .ok (.new 47, 3) := by decide +kernel
theorem dX8_init_103 : decode cX8_init 103 = .ok (.dup, 1) := by decide +kernel
theorem dX8_init_104 : decode cX8_init 104 = .ok (.sipush 160, 3) := by decide +kernel
theorem dX8_init_107 : decode cX8_init 107 = .ok (.invokespecial 49, 3) := by decide +kernel
theorem dX8_init_110 : decode cX8_init 110 = .ok (.putfield 56, 3) := by decide +kernel
theorem dX8_init_113 : decode cX8_init 113 = .ok (.aload_n 0, 1) := by decide +kernel
theorem dX8_init_114 : decode cX8_init 114 = .ok (.new 59, 3) := by decide +kernel
theorem dX8_init_117 : decode cX8_init 117 = .ok (.dup, 1) := by decide +kernel
theorem dX8_init_118 : decode cX8_init 118 = .ok (.aload_n 0, 1) := by decide +kernel
theorem dX8_init_119 : decode cX8_init 119 = .ok (.getfield 10, 3) := by decide +kernel
theorem dX8_init_122 : decode cX8_init 122 = .ok (.aload_n 0, 1) := by decide +kernel
theorem dX8_init_123 : decode cX8_init 123 = .ok (.getfield 52, 3) := by decide +kernel
theorem dX8_init_126 : decode cX8_init 126 = .ok (.invokespecial 61, 3) := by decide +kernel
theorem dX8_init_129 : decode cX8_init 129 = .ok (.putfield 64, 3) := by decide +kernel
theorem dX8_init_132 : decode cX8_init 132 = .ok (.aload_n 0, 1) := by decide +kernel
theorem dX8_init_133 : decode cX8_init 133 = .ok (.new 68, 3) := by decide +kernel
theorem dX8_init_136 : decode cX8_init 136 = .ok (.dup, 1) := by decide +kernel
theorem dX8_init_137 : decode cX8_init 137 = .ok (.invokespecial 70, 3) := by decide +kernel
theorem dX8_init_140 : decode cX8_init 140 = .ok (.putfield 71, 3) := by decide +kernel
theorem dX8_init_143 : decode cX8_init 143 = .ok (.aload_n 0, 1) := by decide +kernel
theorem dX8_init_144 : decode cX8_init 144 = .ok (.iconst 0, 1) := by decide +kernel
theorem dX8_init_145 : decode cX8_init 145 = .ok (.putfield 75, 3) := by decide +kernel
theorem dX8_init_148 : decode cX8_init 148 = .ok (.return_, 1) := by decide +kernel
theorem dX8_feed_0 : decode cX8_feed 0 = .ok (.iload_n 1, 1) := by decide +kernel
theorem dX8_feed_1 : decode cX8_feed 1 = .ok (.iconst 1, 1) := by decide +kernel
theorem dX8_feed_2 : decode cX8_feed 2 = .ok (.if_icmp .lt 9, 3) := by decide +kernel
theorem dX8_feed_5 : decode cX8_feed 5 = .ok (.iload_n 1, 1) := by decide +kernel
theorem dX8_feed_6 : decode cX8_feed 6 = .ok (.bipush 127, 2) := by decide +kernel
theorem dX8_feed_8 : decode cX8_feed 8 = .ok (.if_icmp .le 6, 3) := by decide +kernel
theorem dX8_feed_11 : decode cX8_feed 11 = .ok (.bipush (-2), 2) := by decide +kernel
theorem dX8_feed_13 : decode cX8_feed 13 = .ok (.ireturn, 1) := by decide +kernel
theorem dX8_feed_14 : decode cX8_feed 14 = .ok (.aload_n 0, 1) := by decide +kernel
theorem dX8_feed_15 : decode cX8_feed 15 = .ok (.getfield 52, 3) := by decide +kernel
theorem dX8_feed_18 : decode cX8_feed 18 = .ok (.getfield 79, 3) := by decide +kernel
theorem dX8_feed_21 : decode cX8_feed 21 = .ok (.bipush 80, 2) := by decide +kernel
theorem dX8_feed_23 : decode cX8_feed 23 = .ok (.if_icmp .lt 6, 3) := by decide +kernel
theorem dX8_feed_26 : decode cX8_feed 26 = .ok (.bipush (-4), 2) := by decide +kernel
theorem dX8_feed_28 : decode cX8_feed 28 = .ok (.ireturn, 1) := by decide +kernel
theorem dX8_feed_29 : decode cX8_feed 29 = .ok (.aload_n 0, 1) := by decide +kernel
theorem dX8_feed_30 : decode cX8_feed 30 = .ok (.getfield 52, 3) := by decide +kernel
theorem dX8_feed_33 : decode cX8_feed 33 = .ok (.iload_n 1, 1) := by decide +kernel
theorem dX8_feed_34 : decode cX8_feed 34 = .ok (.invokevirtual 83, 3) := by decide +kernel
theorem dX8_feed_37 : decode cX8_feed 37 = .ok (.aload_n 0, 1) := by decide +kernel
theorem dX8_feed_38 : decode cX8_feed 38 = .ok (.getfield 52, 3) := by decide +kernel
theorem dX8_feed_41 : decode cX8_feed 41 = .ok (.getfield 79, 3) := by decide +kernel
theorem dX8_feed_44 : decode cX8_feed 44 = .ok (.ireturn, 1) := by decide +kernel
theorem dX8_clear_0 : decode cX8_clear 0 = .ok (.aload_n 0, 1) := by decide +kernel
theorem dX8_clear_1 : decode cX8_clear 1 = .ok (.getfield 52, 3) := by decide +kernel
theorem dX8_clear_4 : decode cX8_clear 4 = .ok (.getfield 79, 3) := by decide +kernel
theorem dX8_clear_7 : decode cX8_clear 7 = .ok (.istore_n 1, 1) := by decide +kernel
theorem dX8_clear_8 : decode cX8_clear 8 = .ok (.aload_n 0, 1) := by decide +kernel
theorem dX8_clear_9 : decode cX8_clear 9 = .ok (.getfield 52, 3) := by decide +kernel
theorem dX8_clear_12 : decode cX8_clear 12 = .ok (.iconst 0, 1) := by decide +kernel
theorem dX8_clear_13 : decode cX8_clear 13 = .ok (.putfield 79, 3) := by decide +kernel
theorem dX8_clear_16 : decode cX8_clear 16 = .ok (.iload_n 1, 1) := by decide +kernel
theorem dX8_clear_17 : decode cX8_clear 17 = .ok (.ireturn, 1) := by decide +kernel
theorem dX8_table_0 : decode cX8_table 0 = .ok (.aload_n 0, 1) := by decide +kernel
theorem dX8_table_1 : decode cX8_table 1 = .ok (.getfield 19, 3) := by decide +kernel
theorem dX8_table_4 : decode cX8_table 4 = .ok (.aload_n 0, 1) := by decide +kernel
theorem dX8_table_5 : decode cX8_table 5 = .ok (.getfield 10, 3) := by decide +kernel
theorem dX8_table_8 : decode cX8_table 8 = .ok (.invokevirtual 86, 3) := by decide +kernel
theorem dX8_table_11 : decode cX8_table 11 = .ok (.aload_n 0, 1) := by decide +kernel
theorem dX8_table_12 : decode cX8_table 12 = .ok (.getfield 64, 3) := by decide +kernel
theorem dX8_table_15 : decode cX8_table 15 = .ok (.invokevirtual 89, 3) := by decide +kernel
theorem dX8_table_18 : decode cX8_table 18 = .ok (.istore_n 1, 1) := by decide +kernel
theorem dX8_table_19 : decode cX8_table 19 = .ok (.iload_n 1, 1) := by decide +kernel
theorem dX8_table_20 : decode cX8_table 20 = .ok (.ifCond .ge 14, 3) := by decide +kernel
theorem dX8_table_23 : decode cX8_table 23 = .ok (.aload_n 0, 1) := by decide +kernel
theorem dX8_table_24 : decode cX8_table 24 = .ok (.getfield 10, 3) := by decide +kernel
theorem dX8_table_27 : decode cX8_table 27 = .ok (.aload_n 0, 1) := by decide +kernel
theorem dX8_table_28 : decode cX8_table 28 = .ok (.getfield 19, 3) := by decide +kernel
theorem dX8_table_31 : decode cX8_table 31 = .ok (.invokevirtual 86, 3) := by decide +kernel
theorem dX8_table_34 : decode cX8_table 34 = .ok (.aload_n 0, 1) := by decide +kernel
theorem dX8_table_35 : decode cX8_table 35 = .ok (.getfield 52, 3) := by decide +kernel
theorem dX8_table_38 : decode cX8_table 38 = .ok (.iconst 0, 1) := by decide +kernel
theorem dX8_table_39 : decode cX8_table 39 = .ok (.putfield 79, 3) := by decide +kernel
theorem dX8_table_42 : decode cX8_table 42 = .ok (.iload_n 1, 1) := by decide +kernel
theorem dX8_table_43 : decode cX8_table 43 = .ok (.ireturn, 1) := by decide +kernel
theorem dX8_line_0 : decode cX8_line 0 = .ok (.aload_n 0, 1) := by decide +kernel
theorem dX8_line_1 : decode cX8_line 1 = .ok (.getfield 10, 3) := by decide +kernel
theorem dX8_line_4 : decode cX8_line 4 = .ok (.iload_n 1, 1) := by decide +kernel
theorem dX8_line_5 : decode cX8_line 5 = .ok (.invokevirtual 93, 3) := by decide +kernel
theorem dX8_line_8 : decode cX8_line 8 = .ok (.ifCond .ne 5, 3) := by decide +kernel
theorem dX8_line_11 : decode cX8_line 11 = .ok (.iconst (-1), 1) := by decide +kernel
theorem dX8_line_12 : decode cX8_line 12 = .ok (.ireturn, 1) := by decide +kernel
theorem dX8_line_13 : decode cX8_line 13 = .ok (.iload_n 2, 1) := by decide +kernel
theorem dX8_line_14 : decode cX8_line 14 = .ok (.tableswitch 69 0 3 #[30, 40, 50, 60], 30) := by decide +kernel
theorem dX8_line_44 : decode cX8_line 44 = .ok (.aload_n 0, 1) := by decide +kernel
theorem dX8_line_45 : decode cX8_line 45 = .ok (.getfield 10, 3) := by decide +kernel
theorem dX8_line_48 : decode cX8_line 48 = .ok (.getfield 97, 3) := by decide +kernel
theorem dX8_line_51 : decode cX8_line 51 = .ok (.iload_n 1, 1) := by decide +kernel
theorem dX8_line_52 : decode cX8_line 52 = .ok (.iaload, 1) := by decide +kernel
theorem dX8_line_53 : decode cX8_line 53 = .ok (.ireturn, 1) := by decide +kernel
theorem dX8_line_54 : decode cX8_line 54 = .ok (.aload_n 0, 1) := by decide +kernel
theorem dX8_line_55 : decode cX8_line 55 = .ok (.getfield 10, 3) := by decide +kernel
theorem dX8_line_58 : decode cX8_line 58 = .ok (.getfield 101, 3) := by decide +kernel
theorem dX8_line_61 : decode cX8_line 61 = .ok (.iload_n 1, 1) := by decide +kernel
theorem dX8_line_62 : decode cX8_line 62 = .ok (.iaload, 1) := by decide +kernel
theorem dX8_line_63 : decode cX8_line 63 = .ok (.ireturn, 1) := by decide +kernel
theorem dX8_line_64 : decode cX8_line 64 = .ok (.aload_n 0, 1) := by decide +kernel
theorem dX8_line_65 : decode cX8_line 65 = .ok (.getfield 10, 3) := by decide +kernel
theorem dX8_line_68 : decode cX8_line 68 = .ok (.getfield 104, 3) := by decide +kernel
theorem dX8_line_71 : decode cX8_line 71 = .ok (.iload_n 1, 1) := by decide +kernel
theorem dX8_line_72 : decode cX8_line 72 = .ok (.iaload, 1) := by decide +kernel
theorem dX8_line_73 : decode cX8_line 73 = .ok (.ireturn, 1) := by decide +kernel
theorem dX8_line_74 : decode cX8_line 74 = .ok (.aload_n 0, 1) := by decide +kernel
theorem dX8_line_75 : decode cX8_line 75 = .ok (.getfield 10, 3) := by decide +kernel
theorem dX8_line_78 : decode cX8_line 78 = .ok (.iload_n 1, 1) := by decide +kernel
theorem dX8_line_79 : decode cX8_line 79 = .ok (.invokevirtual 107, 3) := by decide +kernel
theorem dX8_line_82 : decode cX8_line 82 = .ok (.ireturn, 1) := by decide +kernel
theorem dX8_line_83 : decode cX8_line 83 = .ok (.iconst (-1), 1) := by decide +kernel
theorem dX8_line_84 : decode cX8_line 84 = .ok (.ireturn, 1) := by decide +kernel
theorem dX8_stop_0 : decode cX8_stop 0 = .ok (.aload_n 0, 1) := by decide +kernel
theorem dX8_stop_1 : decode cX8_stop 1 = .ok (.getfield 10, 3) := by decide +kernel
theorem dX8_stop_4 : decode cX8_stop 4 = .ok (.iload_n 1, 1) := by decide +kernel
theorem dX8_stop_5 : decode cX8_stop 5 = .ok (.iload_n 2, 1) := by decide +kernel
theorem dX8_stop_6 : decode cX8_stop 6 = .ok (.invokevirtual 111, 3) := by decide +kernel
theorem dX8_stop_9 : decode cX8_stop 9 = .ok (.ifCond .ne 5, 3) := by decide +kernel
theorem dX8_stop_12 : decode cX8_stop 12 = .ok (.iconst (-1), 1) := by decide +kernel
theorem dX8_stop_13 : decode cX8_stop 13 = .ok (.ireturn, 1) := by decide +kernel
theorem dX8_stop_14 : decode cX8_stop 14 = .ok (.aload_n 0, 1) := by decide +kernel
theorem dX8_stop_15 : decode cX8_stop 15 = .ok (.getfield 10, 3) := by decide +kernel
theorem dX8_stop_18 : decode cX8_stop 18 = .ok (.getfield 115, 3) := by decide +kernel
theorem dX8_stop_21 : decode cX8_stop 21 = .ok (.iload_n 1, 1) := by decide +kernel
theorem dX8_stop_22 : decode cX8_stop 22 = .ok (.aaload, 1) := by decide +kernel
theorem dX8_stop_23 : decode cX8_stop 23 = .ok (.iload_n 2, 1) := by decide +kernel
theorem dX8_stop_24 : decode cX8_stop 24 = .ok (.iaload, 1) := by decide +kernel
theorem dX8_stop_25 : decode cX8_stop 25 = .ok (.ireturn, 1) := by decide +kernel
theorem dX8_minute_0 : decode cX8_minute 0 = .ok (.aload_n 0, 1) := by decide +kernel
theorem dX8_minute_1 : decode cX8_minute 1 = .ok (.getfield 10, 3) := by decide +kernel
theorem dX8_minute_4 : decode cX8_minute 4 = .ok (.iload_n 1, 1) := by decide +kernel
theorem dX8_minute_5 : decode cX8_minute 5 = .ok (.iload_n 2, 1) := by decide +kernel
theorem dX8_minute_6 : decode cX8_minute 6 = .ok (.invokevirtual 119, 3) := by decide +kernel
theorem dX8_minute_9 : decode cX8_minute 9 = .ok (.ifCond .eq 15, 3) := by decide +kernel
theorem dX8_minute_12 : decode cX8_minute 12 = .ok (.aload_n 0, 1) := by decide +kernel
theorem dX8_minute_13 : decode cX8_minute 13 = .ok (.getfield 10, 3) := by decide +kernel
theorem dX8_minute_16 : decode cX8_minute 16 = .ok (.iload_n 1, 1) := by decide +kernel
theorem dX8_minute_17 : decode cX8_minute 17 = .ok (.iload_n 3, 1) := by decide +kernel
theorem dX8_minute_18 : decode cX8_minute 18 = .ok (.invokevirtual 111, 3) := by decide +kernel
theorem dX8_minute_21 : decode cX8_minute 21 = .ok (.ifCond .ne 5, 3) := by decide +kernel
theorem dX8_minute_24 : decode cX8_minute 24 = .ok (.iconst (-1), 1) := by decide +kernel
theorem dX8_minute_25 : decode cX8_minute 25 = .ok (.ireturn, 1) := by decide +kernel
theorem dX8_minute_26 : decode cX8_minute 26 = .ok (.aload_n 0, 1) := by decide +kernel
theorem dX8_minute_27 : decode cX8_minute 27 = .ok (.getfield 10, 3) := by decide +kernel
theorem dX8_minute_30 : decode cX8_minute 30 = .ok (.iload_n 1, 1) := by decide +kernel
theorem dX8_minute_31 : decode cX8_minute 31 = .ok (.iload_n 2, 1) := by decide +kernel
theorem dX8_minute_32 : decode cX8_minute 32 = .ok (.iload_n 3, 1) := by decide +kernel
theorem dX8_minute_33 : decode cX8_minute 33 = .ok (.invokevirtual 122, 3) := by decide +kernel
theorem dX8_minute_36 : decode cX8_minute 36 = .ok (.ireturn, 1) := by decide +kernel
theorem dX8_runs_0 : decode cX8_runs 0 = .ok (.aload_n 0, 1) := by decide +kernel
theorem dX8_runs_1 : decode cX8_runs 1 = .ok (.getfield 10, 3) := by decide +kernel
theorem dX8_runs_4 : decode cX8_runs 4 = .ok (.iload_n 1, 1) := by decide +kernel
theorem dX8_runs_5 : decode cX8_runs 5 = .ok (.iload_n 2, 1) := by decide +kernel
theorem dX8_runs_6 : decode cX8_runs 6 = .ok (.invokevirtual 119, 3) := by decide +kernel
theorem dX8_runs_9 : decode cX8_runs 9 = .ok (.ifCond .ne 5, 3) := by decide +kernel
theorem dX8_runs_12 : decode cX8_runs 12 = .ok (.iconst (-1), 1) := by decide +kernel
theorem dX8_runs_13 : decode cX8_runs 13 = .ok (.ireturn, 1) := by decide +kernel
theorem dX8_runs_14 : decode cX8_runs 14 = .ok (.aload_n 0, 1) := by decide +kernel
theorem dX8_runs_15 : decode cX8_runs 15 = .ok (.getfield 10, 3) := by decide +kernel
theorem dX8_runs_18 : decode cX8_runs 18 = .ok (.iload_n 1, 1) := by decide +kernel
theorem dX8_runs_19 : decode cX8_runs 19 = .ok (.iload_n 2, 1) := by decide +kernel
theorem dX8_runs_20 : decode cX8_runs 20 = .ok (.invokevirtual 126, 3) := by decide +kernel
theorem dX8_runs_23 : decode cX8_runs 23 = .ok (.ifCond .eq 7, 3) := by decide +kernel
theorem dX8_runs_26 : decode cX8_runs 26 = .ok (.iconst 1, 1) := by decide +kernel
theorem dX8_runs_27 : decode cX8_runs 27 = .ok (.goto 4, 3) := by decide +kernel
theorem dX8_runs_30 : decode cX8_runs 30 = .ok (.iconst 0, 1) := by decide +kernel
theorem dX8_runs_31 : decode cX8_runs 31 = .ok (.ireturn, 1) := by decide +kernel
theorem dX8_foot_0 : decode cX8_foot 0 = .ok (.iload_n 1, 1) := by decide +kernel
theorem dX8_foot_1 : decode cX8_foot 1 = .ok (.invokestatic 129, 3) := by decide +kernel
theorem dX8_foot_4 : decode cX8_foot 4 = .ok (.ifCond .eq 15, 3) := by decide +kernel
theorem dX8_foot_7 : decode cX8_foot 7 = .ok (.iload_n 2, 1) := by decide +kernel
theorem dX8_foot_8 : decode cX8_foot 8 = .ok (.invokestatic 129, 3) := by decide +kernel
theorem dX8_foot_11 : decode cX8_foot 11 = .ok (.ifCond .eq 8, 3) := by decide +kernel
theorem dX8_foot_14 : decode cX8_foot 14 = .ok (.iload_n 1, 1) := by decide +kernel
theorem dX8_foot_15 : decode cX8_foot 15 = .ok (.iload_n 2, 1) := by decide +kernel
theorem dX8_foot_16 : decode cX8_foot 16 = .ok (.if_icmp .ne 5, 3) := by decide +kernel
theorem dX8_foot_19 : decode cX8_foot 19 = .ok (.iconst (-1), 1) := by decide +kernel
theorem dX8_foot_20 : decode cX8_foot 20 = .ok (.ireturn, 1) := by decide +kernel
theorem dX8_foot_21 : decode cX8_foot 21 = .ok (.aload_n 0, 1) := by decide +kernel
theorem dX8_foot_22 : decode cX8_foot 22 = .ok (.getfield 10, 3) := by decide +kernel
theorem dX8_foot_25 : decode cX8_foot 25 = .ok (.getfield 132, 3) := by decide +kernel
theorem dX8_foot_28 : decode cX8_foot 28 = .ok (.iload_n 1, 1) := by decide +kernel
theorem dX8_foot_29 : decode cX8_foot 29 = .ok (.aaload, 1) := by decide +kernel
theorem dX8_foot_30 : decode cX8_foot 30 = .ok (.iload_n 2, 1) := by decide +kernel
theorem dX8_foot_31 : decode cX8_foot 31 = .ok (.iaload, 1) := by decide +kernel
theorem dX8_foot_32 : decode cX8_foot 32 = .ok (.ifCond .ne 8, 3) := by decide +kernel
theorem dX8_foot_35 : decode cX8_foot 35 = .ok (.bipush (-5), 2) := by decide +kernel
theorem dX8_foot_37 : decode cX8_foot 37 = .ok (.goto 14, 3) := by decide +kernel
theorem dX8_foot_40 : decode cX8_foot 40 = .ok (.aload_n 0, 1) := by decide +kernel
theorem dX8_foot_41 : decode cX8_foot 41 = .ok (.getfield 10, 3) := by decide +kernel
theorem dX8_foot_44 : decode cX8_foot 44 = .ok (.getfield 132, 3) := by decide +kernel
theorem dX8_foot_47 : decode cX8_foot 47 = .ok (.iload_n 1, 1) := by decide +kernel
theorem dX8_foot_48 : decode cX8_foot 48 = .ok (.aaload, 1) := by decide +kernel
theorem dX8_foot_49 : decode cX8_foot 49 = .ok (.iload_n 2, 1) := by decide +kernel
theorem dX8_foot_50 : decode cX8_foot 50 = .ok (.iaload, 1) := by decide +kernel
theorem dX8_foot_51 : decode cX8_foot 51 = .ok (.ireturn, 1) := by decide +kernel
theorem dX8_walk_0 : decode cX8_walk 0 = .ok (.aload_n 0, 1) := by decide +kernel
theorem dX8_walk_1 : decode cX8_walk 1 = .ok (.iload_n 1, 1) := by decide +kernel
theorem dX8_walk_2 : decode cX8_walk 2 = .ok (.iload_n 2, 1) := by decide +kernel
theorem dX8_walk_3 : decode cX8_walk 3 = .ok (.invokevirtual 135, 3) := by decide +kernel
theorem dX8_walk_6 : decode cX8_walk 6 = .ok (.istore 4, 2) := by decide +kernel
theorem dX8_walk_8 : decode cX8_walk 8 = .ok (.iload 4, 2) := by decide +kernel
theorem dX8_walk_10 : decode cX8_walk 10 = .ok (.iconst (-1), 1) := by decide +kernel
theorem dX8_walk_11 : decode cX8_walk 11 = .ok (.if_icmp .ne 5, 3) := by decide +kernel
theorem dX8_walk_14 : decode cX8_walk 14 = .ok (.iconst (-1), 1) := by decide +kernel
theorem dX8_walk_15 : decode cX8_walk 15 = .ok (.ireturn, 1) := by decide +kernel
theorem dX8_walk_16 : decode cX8_walk 16 = .ok (.iload_n 3, 1) := by decide +kernel
theorem dX8_walk_17 : decode cX8_walk 17 = .ok (.ifCond .lt 9, 3) := by decide +kernel
theorem dX8_walk_20 : decode cX8_walk 20 = .ok (.iload_n 3, 1) := by decide +kernel
theorem dX8_walk_21 : decode cX8_walk 21 = .ok (.bipush 60, 2) := by decide +kernel
theorem dX8_walk_23 : decode cX8_walk 23 = .ok (.if_icmp .le 6, 3) := by decide +kernel
theorem dX8_walk_26 : decode cX8_walk 26 = .ok (.bipush (-2), 2) := by decide +kernel
theorem dX8_walk_28 : decode cX8_walk 28 = .ok (.ireturn, 1) := by decide +kernel
theorem dX8_walk_29 : decode cX8_walk 29 = .ok (.aload_n 0, 1) := by decide +kernel
theorem dX8_walk_30 : decode cX8_walk 30 = .ok (.getfield 10, 3) := by decide +kernel
theorem dX8_walk_33 : decode cX8_walk 33 = .ok (.iload_n 1, 1) := by decide +kernel
theorem dX8_walk_34 : decode cX8_walk 34 = .ok (.iload_n 2, 1) := by decide +kernel
theorem dX8_walk_35 : decode cX8_walk 35 = .ok (.iload_n 3, 1) := by decide +kernel
theorem dX8_walk_36 : decode cX8_walk 36 = .ok (.invokevirtual 139, 3) := by decide +kernel
theorem dX8_walk_39 : decode cX8_walk 39 = .ok (.iload 4, 2) := by decide +kernel
theorem dX8_walk_41 : decode cX8_walk 41 = .ok (.ireturn, 1) := by decide +kernel
theorem dX8_delay_0 : decode cX8_delay 0 = .ok (.aload_n 0, 1) := by decide +kernel
theorem dX8_delay_1 : decode cX8_delay 1 = .ok (.getfield 10, 3) := by decide +kernel
theorem dX8_delay_4 : decode cX8_delay 4 = .ok (.iload_n 1, 1) := by decide +kernel
theorem dX8_delay_5 : decode cX8_delay 5 = .ok (.iload_n 2, 1) := by decide +kernel
theorem dX8_delay_6 : decode cX8_delay 6 = .ok (.invokevirtual 119, 3) := by decide +kernel
theorem dX8_delay_9 : decode cX8_delay 9 = .ok (.ifCond .eq 15, 3) := by decide +kernel
theorem dX8_delay_12 : decode cX8_delay 12 = .ok (.aload_n 0, 1) := by decide +kernel
theorem dX8_delay_13 : decode cX8_delay 13 = .ok (.getfield 10, 3) := by decide +kernel
theorem dX8_delay_16 : decode cX8_delay 16 = .ok (.iload_n 1, 1) := by decide +kernel
theorem dX8_delay_17 : decode cX8_delay 17 = .ok (.iload_n 3, 1) := by decide +kernel
theorem dX8_delay_18 : decode cX8_delay 18 = .ok (.invokevirtual 111, 3) := by decide +kernel
theorem dX8_delay_21 : decode cX8_delay 21 = .ok (.ifCond .ne 5, 3) := by decide +kernel
theorem dX8_delay_24 : decode cX8_delay 24 = .ok (.iconst (-1), 1) := by decide +kernel
theorem dX8_delay_25 : decode cX8_delay 25 = .ok (.ireturn, 1) := by decide +kernel
theorem dX8_delay_26 : decode cX8_delay 26 = .ok (.iload 4, 2) := by decide +kernel
theorem dX8_delay_28 : decode cX8_delay 28 = .ok (.iconst 1, 1) := by decide +kernel
theorem dX8_delay_29 : decode cX8_delay 29 = .ok (.if_icmp .lt 10, 3) := by decide +kernel
theorem dX8_delay_32 : decode cX8_delay 32 = .ok (.iload 4, 2) := by decide +kernel
theorem dX8_delay_34 : decode cX8_delay 34 = .ok (.bipush 99, 2) := by decide +kernel
theorem dX8_delay_36 : decode cX8_delay 36 = .ok (.if_icmp .le 6, 3) := by decide +kernel
theorem dX8_delay_39 : decode cX8_delay 39 = .ok (.bipush (-2), 2) := by decide +kernel
theorem dX8_delay_41 : decode cX8_delay 41 = .ok (.ireturn, 1) := by decide +kernel
theorem dX8_delay_42 : decode cX8_delay 42 = .ok (.aload_n 0, 1) := by decide +kernel
theorem dX8_delay_43 : decode cX8_delay 43 = .ok (.getfield 10, 3) := by decide +kernel
theorem dX8_delay_46 : decode cX8_delay 46 = .ok (.iload_n 1, 1) := by decide +kernel
theorem dX8_delay_47 : decode cX8_delay 47 = .ok (.iload_n 2, 1) := by decide +kernel
theorem dX8_delay_48 : decode cX8_delay 48 = .ok (.iload_n 3, 1) := by decide +kernel
theorem dX8_delay_49 : decode cX8_delay 49 = .ok (.iload 4, 2) := by decide +kernel
theorem dX8_delay_51 : decode cX8_delay 51 = .ok (.invokevirtual 143, 3) := by decide +kernel
theorem dX8_delay_54 : decode cX8_delay 54 = .ok (.ifCond .ne 6, 3) := by decide +kernel
theorem dX8_delay_57 : decode cX8_delay 57 = .ok (.bipush (-4), 2) := by decide +kernel
theorem dX8_delay_59 : decode cX8_delay 59 = .ok (.ireturn, 1) := by decide +kernel
theorem dX8_delay_60 : decode cX8_delay 60 = .ok (.aload_n 0, 1) := by decide +kernel
theorem dX8_delay_61 : decode cX8_delay 61 = .ok (.getfield 10, 3) := by decide +kernel
theorem dX8_delay_64 : decode cX8_delay 64 = .ok (.iload_n 1, 1) := by decide +kernel
theorem dX8_delay_65 : decode cX8_delay 65 = .ok (.iload_n 2, 1) := by decide +kernel
theorem dX8_delay_66 : decode cX8_delay 66 = .ok (.iload_n 3, 1) := by decide +kernel
theorem dX8_delay_67 : decode cX8_delay 67 = .ok (.invokevirtual 122, 3) := by decide +kernel
theorem dX8_delay_70 : decode cX8_delay 70 = .ok (.ireturn, 1) := by decide +kernel
theorem dX8_drop_0 : decode cX8_drop 0 = .ok (.aload_n 0, 1) := by decide +kernel
theorem dX8_drop_1 : decode cX8_drop 1 = .ok (.getfield 10, 3) := by decide +kernel
theorem dX8_drop_4 : decode cX8_drop 4 = .ok (.iload_n 1, 1) := by decide +kernel
theorem dX8_drop_5 : decode cX8_drop 5 = .ok (.invokevirtual 93, 3) := by decide +kernel
theorem dX8_drop_8 : decode cX8_drop 8 = .ok (.ifCond .ne 5, 3) := by decide +kernel
theorem dX8_drop_11 : decode cX8_drop 11 = .ok (.iconst (-1), 1) := by decide +kernel
theorem dX8_drop_12 : decode cX8_drop 12 = .ok (.ireturn, 1) := by decide +kernel
theorem dX8_drop_13 : decode cX8_drop 13 = .ok (.aload_n 0, 1) := by decide +kernel
theorem dX8_drop_14 : decode cX8_drop 14 = .ok (.getfield 10, 3) := by decide +kernel
theorem dX8_drop_17 : decode cX8_drop 17 = .ok (.getfield 104, 3) := by decide +kernel
theorem dX8_drop_20 : decode cX8_drop 20 = .ok (.iload_n 1, 1) := by decide +kernel
theorem dX8_drop_21 : decode cX8_drop 21 = .ok (.iaload, 1) := by decide +kernel
theorem dX8_drop_22 : decode cX8_drop 22 = .ok (.ifCond .ne 6, 3) := by decide +kernel
theorem dX8_drop_25 : decode cX8_drop 25 = .ok (.bipush (-3), 2) := by decide +kernel
theorem dX8_drop_27 : decode cX8_drop 27 = .ok (.ireturn, 1) := by decide +kernel
theorem dX8_drop_28 : decode cX8_drop 28 = .ok (.aload_n 0, 1) := by decide +kernel
theorem dX8_drop_29 : decode cX8_drop 29 = .ok (.getfield 10, 3) := by decide +kernel
theorem dX8_drop_32 : decode cX8_drop 32 = .ok (.getfield 104, 3) := by decide +kernel
theorem dX8_drop_35 : decode cX8_drop 35 = .ok (.iload_n 1, 1) := by decide +kernel
theorem dX8_drop_36 : decode cX8_drop 36 = .ok (.dup2, 1) := by decide +kernel
theorem dX8_drop_37 : decode cX8_drop 37 = .ok (.iaload, 1) := by decide +kernel
theorem dX8_drop_38 : decode cX8_drop 38 = .ok (.iconst 1, 1) := by decide +kernel
theorem dX8_drop_39 : decode cX8_drop 39 = .ok (.isub, 1) := by decide +kernel
theorem dX8_drop_40 : decode cX8_drop 40 = .ok (.iastore, 1) := by decide +kernel
theorem dX8_drop_41 : decode cX8_drop 41 = .ok (.aload_n 0, 1) := by decide +kernel
theorem dX8_drop_42 : decode cX8_drop 42 = .ok (.getfield 10, 3) := by decide +kernel
theorem dX8_drop_45 : decode cX8_drop 45 = .ok (.getfield 104, 3) := by decide +kernel
theorem dX8_drop_48 : decode cX8_drop 48 = .ok (.iload_n 1, 1) := by decide +kernel
theorem dX8_drop_49 : decode cX8_drop 49 = .ok (.iaload, 1) := by decide +kernel
theorem dX8_drop_50 : decode cX8_drop 50 = .ok (.ireturn, 1) := by decide +kernel
theorem dX8_earliest_0 : decode cX8_earliest 0 = .ok (.iload_n 1, 1) := by decide +kernel
theorem dX8_earliest_1 : decode cX8_earliest 1 = .ok (.iload_n 2, 1) := by decide +kernel
theorem dX8_earliest_2 : decode cX8_earliest 2 = .ok (.iload_n 3, 1) := by decide +kernel
theorem dX8_earliest_3 : decode cX8_earliest 3 = .ok (.iload 4, 2) := by decide +kernel
theorem dX8_earliest_5 : decode cX8_earliest 5 = .ok (.invokestatic 147, 3) := by decide +kernel
theorem dX8_earliest_8 : decode cX8_earliest 8 = .ok (.istore 5, 2) := by decide +kernel
theorem dX8_earliest_10 : decode cX8_earliest 10 = .ok (.iload 5, 2) := by decide +kernel
theorem dX8_earliest_12 : decode cX8_earliest 12 = .ok (.ifCond .eq 6, 3) := by decide +kernel
theorem dX8_earliest_15 : decode cX8_earliest 15 = .ok (.iload 5, 2) := by decide +kernel
theorem dX8_earliest_17 : decode cX8_earliest 17 = .ok (.ireturn, 1) := by decide +kernel
theorem dX8_earliest_18 : decode cX8_earliest 18 = .ok (.aload_n 0, 1) := by decide +kernel
theorem dX8_earliest_19 : decode cX8_earliest 19 = .ok (.getfield 27, 3) := by decide +kernel
theorem dX8_earliest_22 : decode cX8_earliest 22 = .ok (.iload_n 1, 1) := by decide +kernel
theorem dX8_earliest_23 : decode cX8_earliest 23 = .ok (.iload_n 2, 1) := by decide +kernel
theorem dX8_earliest_24 : decode cX8_earliest 24 = .ok (.iload_n 3, 1) := by decide +kernel
theorem dX8_earliest_25 : decode cX8_earliest 25 = .ok (.iload 4, 2) := by decide +kernel
theorem dX8_earliest_27 : decode cX8_earliest 27 = .ok (.invokevirtual 151, 3) := by decide +kernel
theorem dX8_earliest_30 : decode cX8_earliest 30 = .ok (.invokestatic 154, 3) := by decide +kernel
theorem dX8_earliest_33 : decode cX8_earliest 33 = .ok (.ireturn, 1) := by decide +kernel
theorem dX8_worth_0 : decode cX8_worth 0 = .ok (.iload_n 1, 1) := by decide +kernel
theorem dX8_worth_1 : decode cX8_worth 1 = .ok (.iload_n 2, 1) := by decide +kernel
theorem dX8_worth_2 : decode cX8_worth 2 = .ok (.iload_n 3, 1) := by decide +kernel
theorem dX8_worth_3 : decode cX8_worth 3 = .ok (.iconst 0, 1) := by decide +kernel
theorem dX8_worth_4 : decode cX8_worth 4 = .ok (.invokestatic 147, 3) := by decide +kernel
theorem dX8_worth_7 : decode cX8_worth 7 = .ok (.istore 4, 2) := by decide +kernel
theorem dX8_worth_9 : decode cX8_worth 9 = .ok (.iload 4, 2) := by decide +kernel
theorem dX8_worth_11 : decode cX8_worth 11 = .ok (.ifCond .eq 6, 3) := by decide +kernel
theorem dX8_worth_14 : decode cX8_worth 14 = .ok (.iload 4, 2) := by decide +kernel
theorem dX8_worth_16 : decode cX8_worth 16 = .ok (.ireturn, 1) := by decide +kernel
theorem dX8_worth_17 : decode cX8_worth 17 = .ok (.aload_n 0, 1) := by decide +kernel
theorem dX8_worth_18 : decode cX8_worth 18 = .ok (.getfield 27, 3) := by decide +kernel
theorem dX8_worth_21 : decode cX8_worth 21 = .ok (.iload_n 1, 1) := by decide +kernel
theorem dX8_worth_22 : decode cX8_worth 22 = .ok (.iload_n 2, 1) := by decide +kernel
theorem dX8_worth_23 : decode cX8_worth 23 = .ok (.bipush 6, 2) := by decide +kernel
theorem dX8_worth_25 : decode cX8_worth 25 = .ok (.invokevirtual 157, 3) := by decide +kernel
theorem dX8_worth_28 : decode cX8_worth 28 = .ok (.iconst 0, 1) := by decide +kernel
theorem dX8_worth_29 : decode cX8_worth 29 = .ok (.istore 5, 2) := by decide +kernel
theorem dX8_worth_31 : decode cX8_worth 31 = .ok (.sipush 10000, 3) := by decide +kernel
theorem dX8_worth_34 : decode cX8_worth 34 = .ok (.istore 6, 2) := by decide +kernel
theorem dX8_worth_36 : decode cX8_worth 36 = .ok (.iconst 0, 1) := by decide +kernel
theorem dX8_worth_37 : decode cX8_worth 37 = .ok (.istore 7, 2) := by decide +kernel
theorem dX8_worth_39 : decode cX8_worth 39 = .ok (.iload 7, 2) := by decide +kernel
theorem dX8_worth_41 : decode cX8_worth 41 = .ok (.bipush 6, 2) := by decide +kernel
theorem dX8_worth_43 : decode cX8_worth 43 = .ok (.if_icmp .gt 43, 3) := by decide +kernel
theorem dX8_worth_46 : decode cX8_worth 46 = .ok (.aload_n 0, 1) := by decide +kernel
theorem dX8_worth_47 : decode cX8_worth 47 = .ok (.getfield 27, 3) := by decide +kernel
theorem dX8_worth_50 : decode cX8_worth 50 = .ok (.getfield 160, 3) := by decide +kernel
theorem dX8_worth_53 : decode cX8_worth 53 = .ok (.iload 7, 2) := by decide +kernel
theorem dX8_worth_55 : decode cX8_worth 55 = .ok (.aaload, 1) := by decide +kernel
theorem dX8_worth_56 : decode cX8_worth 56 = .ok (.iload_n 3, 1) := by decide +kernel
theorem dX8_worth_57 : decode cX8_worth 57 = .ok (.iaload, 1) := by decide +kernel
theorem dX8_worth_58 : decode cX8_worth 58 = .ok (.istore 8, 2) := by decide +kernel
theorem dX8_worth_60 : decode cX8_worth 60 = .ok (.iload 8, 2) := by decide +kernel
theorem dX8_worth_62 : decode cX8_worth 62 = .ok (.iload 6, 2) := by decide +kernel
theorem dX8_worth_64 : decode cX8_worth 64 = .ok (.if_icmp .ge 12, 3) := by decide +kernel
theorem dX8_worth_67 : decode cX8_worth 67 = .ok (.iload 5, 2) := by decide +kernel
theorem dX8_worth_69 : decode cX8_worth 69 = .ok (.iconst 1, 1) := by decide +kernel
theorem dX8_worth_70 : decode cX8_worth 70 = .ok (.iload 7, 2) := by decide +kernel
theorem dX8_worth_72 : decode cX8_worth 72 = .ok (.ishl, 1) := by decide +kernel
theorem dX8_worth_73 : decode cX8_worth 73 = .ok (.ior, 1) := by decide +kernel
theorem dX8_worth_74 : decode cX8_worth 74 = .ok (.istore 5, 2) := by decide +kernel
theorem dX8_worth_76 : decode cX8_worth 76 = .ok (.iload 8, 2) := by decide +kernel
theorem dX8_worth_78 : decode cX8_worth 78 = .ok (.istore 6, 2) := by decide +kernel
theorem dX8_worth_80 : decode cX8_worth 80 = .ok (.iinc 7 1, 3) := by decide +kernel
theorem dX8_worth_83 : decode cX8_worth 83 = .ok (.goto (-44), 3) := by decide +kernel
theorem dX8_worth_86 : decode cX8_worth 86 = .ok (.iload 5, 2) := by decide +kernel
theorem dX8_worth_88 : decode cX8_worth 88 = .ok (.ireturn, 1) := by decide +kernel
theorem dX8_legs_0 : decode cX8_legs 0 = .ok (.iload_n 1, 1) := by decide +kernel
theorem dX8_legs_1 : decode cX8_legs 1 = .ok (.iload_n 2, 1) := by decide +kernel
theorem dX8_legs_2 : decode cX8_legs 2 = .ok (.iload_n 3, 1) := by decide +kernel
theorem dX8_legs_3 : decode cX8_legs 3 = .ok (.iload 4, 2) := by decide +kernel
theorem dX8_legs_5 : decode cX8_legs 5 = .ok (.invokestatic 147, 3) := by decide +kernel
theorem dX8_legs_8 : decode cX8_legs 8 = .ok (.istore 5, 2) := by decide +kernel
theorem dX8_legs_10 : decode cX8_legs 10 = .ok (.iload 5, 2) := by decide +kernel
theorem dX8_legs_12 : decode cX8_legs 12 = .ok (.ifCond .eq 6, 3) := by decide +kernel
theorem dX8_legs_15 : decode cX8_legs 15 = .ok (.iload 5, 2) := by decide +kernel
theorem dX8_legs_17 : decode cX8_legs 17 = .ok (.ireturn, 1) := by decide +kernel
theorem dX8_legs_18 : decode cX8_legs 18 = .ok (.aload_n 0, 1) := by decide +kernel
theorem dX8_legs_19 : decode cX8_legs 19 = .ok (.getfield 36, 3) := by decide +kernel
theorem dX8_legs_22 : decode cX8_legs 22 = .ok (.iload_n 1, 1) := by decide +kernel
theorem dX8_legs_23 : decode cX8_legs 23 = .ok (.iload_n 2, 1) := by decide +kernel
theorem dX8_legs_24 : decode cX8_legs 24 = .ok (.iload_n 3, 1) := by decide +kernel
theorem dX8_legs_25 : decode cX8_legs 25 = .ok (.iload 4, 2) := by decide +kernel
theorem dX8_legs_27 : decode cX8_legs 27 = .ok (.invokevirtual 163, 3) := by decide +kernel
theorem dX8_legs_30 : decode cX8_legs 30 = .ok (.ifCond .eq 13, 3) := by decide +kernel
theorem dX8_legs_33 : decode cX8_legs 33 = .ok (.aload_n 0, 1) := by decide +kernel
theorem dX8_legs_34 : decode cX8_legs 34 = .ok (.getfield 36, 3) := by decide +kernel
theorem dX8_legs_37 : decode cX8_legs 37 = .ok (.getfield 166, 3) := by decide +kernel
theorem dX8_legs_40 : decode cX8_legs 40 = .ok (.goto 5, 3) := by decide +kernel
theorem dX8_legs_43 : decode cX8_legs 43 = .ok (.bipush (-5), 2) := by decide +kernel
theorem dX8_legs_45 : decode cX8_legs 45 = .ok (.ireturn, 1) := by decide +kernel
theorem dX8_leg_0 : decode cX8_leg 0 = .ok (.iload 5, 2) := by decide +kernel
theorem dX8_leg_2 : decode cX8_leg 2 = .ok (.ifCond .lt 15, 3) := by decide +kernel
theorem dX8_leg_5 : decode cX8_leg 5 = .ok (.iload 6, 2) := by decide +kernel
theorem dX8_leg_7 : decode cX8_leg 7 = .ok (.ifCond .lt 10, 3) := by decide +kernel
theorem dX8_leg_10 : decode cX8_leg 10 = .ok (.iload 6, 2) := by decide +kernel
theorem dX8_leg_12 : decode cX8_leg 12 = .ok (.bipush 6, 2) := by decide +kernel
theorem dX8_leg_14 : decode cX8_leg 14 = .ok (.if_icmp .lt 5, 3) := by decide +kernel
theorem dX8_leg_17 : decode cX8_leg 17 = .ok (.iconst (-1), 1) := by decide +kernel
theorem dX8_leg_18 : decode cX8_leg 18 = .ok (.ireturn, 1) := by decide +kernel
theorem dX8_leg_19 : decode cX8_leg 19 = .ok (.iload_n 1, 1) := by decide +kernel
theorem dX8_leg_20 : decode cX8_leg 20 = .ok (.iload_n 2, 1) := by decide +kernel
theorem dX8_leg_21 : decode cX8_leg 21 = .ok (.iload_n 3, 1) := by decide +kernel
theorem dX8_leg_22 : decode cX8_leg 22 = .ok (.iload 4, 2) := by decide +kernel
theorem dX8_leg_24 : decode cX8_leg 24 = .ok (.invokestatic 147, 3) := by decide +kernel
theorem dX8_leg_27 : decode cX8_leg 27 = .ok (.istore 7, 2) := by decide +kernel
theorem dX8_leg_29 : decode cX8_leg 29 = .ok (.iload 7, 2) := by decide +kernel
theorem dX8_leg_31 : decode cX8_leg 31 = .ok (.ifCond .eq 6, 3) := by decide +kernel
theorem dX8_leg_34 : decode cX8_leg 34 = .ok (.iload 7, 2) := by decide +kernel
theorem dX8_leg_36 : decode cX8_leg 36 = .ok (.ireturn, 1) := by decide +kernel
theorem dX8_leg_37 : decode cX8_leg 37 = .ok (.aload_n 0, 1) := by decide +kernel
theorem dX8_leg_38 : decode cX8_leg 38 = .ok (.getfield 36, 3) := by decide +kernel
theorem dX8_leg_41 : decode cX8_leg 41 = .ok (.iload_n 1, 1) := by decide +kernel
theorem dX8_leg_42 : decode cX8_leg 42 = .ok (.iload_n 2, 1) := by decide +kernel
theorem dX8_leg_43 : decode cX8_leg 43 = .ok (.iload_n 3, 1) := by decide +kernel
theorem dX8_leg_44 : decode cX8_leg 44 = .ok (.iload 4, 2) := by decide +kernel
theorem dX8_leg_46 : decode cX8_leg 46 = .ok (.invokevirtual 163, 3) := by decide +kernel
theorem dX8_leg_49 : decode cX8_leg 49 = .ok (.ifCond .eq 15, 3) := by decide +kernel
theorem dX8_leg_52 : decode cX8_leg 52 = .ok (.iload 5, 2) := by decide +kernel
theorem dX8_leg_54 : decode cX8_leg 54 = .ok (.aload_n 0, 1) := by decide +kernel
theorem dX8_leg_55 : decode cX8_leg 55 = .ok (.getfield 36, 3) := by decide +kernel
theorem dX8_leg_58 : decode cX8_leg 58 = .ok (.getfield 166, 3) := by decide +kernel
theorem dX8_leg_61 : decode cX8_leg 61 = .ok (.if_icmp .lt 5, 3) := by decide +kernel
theorem dX8_leg_64 : decode cX8_leg 64 = .ok (.iconst (-1), 1) := by decide +kernel
theorem dX8_leg_65 : decode cX8_leg 65 = .ok (.ireturn, 1) := by decide +kernel
theorem dX8_leg_66 : decode cX8_leg 66 = .ok (.aload_n 0, 1) := by decide +kernel
theorem dX8_leg_67 : decode cX8_leg 67 = .ok (.getfield 36, 3) := by decide +kernel
theorem dX8_leg_70 : decode cX8_leg 70 = .ok (.iload 5, 2) := by decide +kernel
theorem dX8_leg_72 : decode cX8_leg 72 = .ok (.iload 6, 2) := by decide +kernel
theorem dX8_leg_74 : decode cX8_leg 74 = .ok (.invokevirtual 169, 3) := by decide +kernel
theorem dX8_leg_77 : decode cX8_leg 77 = .ok (.ireturn, 1) := by decide +kernel
theorem dX8_fare_0 : decode cX8_fare 0 = .ok (.iload_n 1, 1) := by decide +kernel
theorem dX8_fare_1 : decode cX8_fare 1 = .ok (.iload_n 2, 1) := by decide +kernel
theorem dX8_fare_2 : decode cX8_fare 2 = .ok (.iload_n 3, 1) := by decide +kernel
theorem dX8_fare_3 : decode cX8_fare 3 = .ok (.iload 4, 2) := by decide +kernel
theorem dX8_fare_5 : decode cX8_fare 5 = .ok (.invokestatic 147, 3) := by decide +kernel
theorem dX8_fare_8 : decode cX8_fare 8 = .ok (.istore 5, 2) := by decide +kernel
theorem dX8_fare_10 : decode cX8_fare 10 = .ok (.iload 5, 2) := by decide +kernel
theorem dX8_fare_12 : decode cX8_fare 12 = .ok (.ifCond .eq 6, 3) := by decide +kernel
theorem dX8_fare_15 : decode cX8_fare 15 = .ok (.iload 5, 2) := by decide +kernel
theorem dX8_fare_17 : decode cX8_fare 17 = .ok (.ireturn, 1) := by decide +kernel
theorem dX8_fare_18 : decode cX8_fare 18 = .ok (.aload_n 0, 1) := by decide +kernel
theorem dX8_fare_19 : decode cX8_fare 19 = .ok (.getfield 36, 3) := by decide +kernel
theorem dX8_fare_22 : decode cX8_fare 22 = .ok (.iload_n 1, 1) := by decide +kernel
theorem dX8_fare_23 : decode cX8_fare 23 = .ok (.iload_n 2, 1) := by decide +kernel
theorem dX8_fare_24 : decode cX8_fare 24 = .ok (.iload_n 3, 1) := by decide +kernel
theorem dX8_fare_25 : decode cX8_fare 25 = .ok (.iload 4, 2) := by decide +kernel
theorem dX8_fare_27 : decode cX8_fare 27 = .ok (.invokevirtual 163, 3) := by decide +kernel
theorem dX8_fare_30 : decode cX8_fare 30 = .ok (.ifCond .eq 13, 3) := by decide +kernel
theorem dX8_fare_33 : decode cX8_fare 33 = .ok (.aload_n 0, 1) := by decide +kernel
theorem dX8_fare_34 : decode cX8_fare 34 = .ok (.getfield 36, 3) := by decide +kernel
theorem dX8_fare_37 : decode cX8_fare 37 = .ok (.invokevirtual 172, 3) := by decide +kernel
theorem dX8_fare_40 : decode cX8_fare 40 = .ok (.goto 5, 3) := by decide +kernel
theorem dX8_fare_43 : decode cX8_fare 43 = .ok (.bipush (-5), 2) := by decide +kernel
theorem dX8_fare_45 : decode cX8_fare 45 = .ok (.ireturn, 1) := by decide +kernel
theorem dX8_waiting_0 : decode cX8_waiting 0 = .ok (.iload_n 1, 1) := by decide +kernel
theorem dX8_waiting_1 : decode cX8_waiting 1 = .ok (.iload_n 2, 1) := by decide +kernel
theorem dX8_waiting_2 : decode cX8_waiting 2 = .ok (.iload_n 3, 1) := by decide +kernel
theorem dX8_waiting_3 : decode cX8_waiting 3 = .ok (.iload 4, 2) := by decide +kernel
theorem dX8_waiting_5 : decode cX8_waiting 5 = .ok (.invokestatic 147, 3) := by decide +kernel
theorem dX8_waiting_8 : decode cX8_waiting 8 = .ok (.istore 5, 2) := by decide +kernel
theorem dX8_waiting_10 : decode cX8_waiting 10 = .ok (.iload 5, 2) := by decide +kernel
theorem dX8_waiting_12 : decode cX8_waiting 12 = .ok (.ifCond .eq 6, 3) := by decide +kernel
theorem dX8_waiting_15 : decode cX8_waiting 15 = .ok (.iload 5, 2) := by decide +kernel
theorem dX8_waiting_17 : decode cX8_waiting 17 = .ok (.ireturn, 1) := by decide +kernel
theorem dX8_waiting_18 : decode cX8_waiting 18 = .ok (.aload_n 0, 1) := by decide +kernel
theorem dX8_waiting_19 : decode cX8_waiting 19 = .ok (.getfield 36, 3) := by decide +kernel
theorem dX8_waiting_22 : decode cX8_waiting 22 = .ok (.iload_n 1, 1) := by decide +kernel
theorem dX8_waiting_23 : decode cX8_waiting 23 = .ok (.iload_n 2, 1) := by decide +kernel
theorem dX8_waiting_24 : decode cX8_waiting 24 = .ok (.iload_n 3, 1) := by decide +kernel
theorem dX8_waiting_25 : decode cX8_waiting 25 = .ok (.iload 4, 2) := by decide +kernel
theorem dX8_waiting_27 : decode cX8_waiting 27 = .ok (.invokevirtual 163, 3) := by decide +kernel
theorem dX8_waiting_30 : decode cX8_waiting 30 = .ok (.ifCond .ne 6, 3) := by decide +kernel
theorem dX8_waiting_33 : decode cX8_waiting 33 = .ok (.bipush (-5), 2) := by decide +kernel
theorem dX8_waiting_35 : decode cX8_waiting 35 = .ok (.ireturn, 1) := by decide +kernel
theorem dX8_waiting_36 : decode cX8_waiting 36 = .ok (.aload_n 0, 1) := by decide +kernel
theorem dX8_waiting_37 : decode cX8_waiting 37 = .ok (.getfield 27, 3) := by decide +kernel
theorem dX8_waiting_40 : decode cX8_waiting 40 = .ok (.getfield 160, 3) := by decide +kernel
theorem dX8_waiting_43 : decode cX8_waiting 43 = .ok (.iload 4, 2) := by decide +kernel
theorem dX8_waiting_45 : decode cX8_waiting 45 = .ok (.aaload, 1) := by decide +kernel
theorem dX8_waiting_46 : decode cX8_waiting 46 = .ok (.iload_n 3, 1) := by decide +kernel
theorem dX8_waiting_47 : decode cX8_waiting 47 = .ok (.iaload, 1) := by decide +kernel
theorem dX8_waiting_48 : decode cX8_waiting 48 = .ok (.iload_n 2, 1) := by decide +kernel
theorem dX8_waiting_49 : decode cX8_waiting 49 = .ok (.isub, 1) := by decide +kernel
theorem dX8_waiting_50 : decode cX8_waiting 50 = .ok (.aload_n 0, 1) := by decide +kernel
theorem dX8_waiting_51 : decode cX8_waiting 51 = .ok (.getfield 36, 3) := by decide +kernel
theorem dX8_waiting_54 : decode cX8_waiting 54 = .ok (.invokevirtual 175, 3) := by decide +kernel
theorem dX8_waiting_57 : decode cX8_waiting 57 = .ok (.isub, 1) := by decide +kernel
theorem dX8_waiting_58 : decode cX8_waiting 58 = .ok (.ireturn, 1) := by decide +kernel
theorem dX8_latest_0 : decode cX8_latest 0 = .ok (.iload_n 1, 1) := by decide +kernel
theorem dX8_latest_1 : decode cX8_latest 1 = .ok (.iload_n 3, 1) := by decide +kernel
theorem dX8_latest_2 : decode cX8_latest 2 = .ok (.iload_n 2, 1) := by decide +kernel
theorem dX8_latest_3 : decode cX8_latest 3 = .ok (.iload 4, 2) := by decide +kernel
theorem dX8_latest_5 : decode cX8_latest 5 = .ok (.invokestatic 147, 3) := by decide +kernel
theorem dX8_latest_8 : decode cX8_latest 8 = .ok (.istore 5, 2) := by decide +kernel
theorem dX8_latest_10 : decode cX8_latest 10 = .ok (.iload 5, 2) := by decide +kernel
theorem dX8_latest_12 : decode cX8_latest 12 = .ok (.ifCond .eq 6, 3) := by decide +kernel
theorem dX8_latest_15 : decode cX8_latest 15 = .ok (.iload 5, 2) := by decide +kernel
theorem dX8_latest_17 : decode cX8_latest 17 = .ok (.ireturn, 1) := by decide +kernel
theorem dX8_latest_18 : decode cX8_latest 18 = .ok (.iconst (-1), 1) := by decide +kernel
theorem dX8_latest_19 : decode cX8_latest 19 = .ok (.istore 6, 2) := by decide +kernel
theorem dX8_latest_21 : decode cX8_latest 21 = .ok (.sipush 1024, 3) := by decide +kernel
theorem dX8_latest_24 : decode cX8_latest 24 = .ok (.istore 7, 2) := by decide +kernel
theorem dX8_latest_26 : decode cX8_latest 26 = .ok (.iload 7, 2) := by decide +kernel
theorem dX8_latest_28 : decode cX8_latest 28 = .ok (.ifCond .le 46, 3) := by decide +kernel
theorem dX8_latest_31 : decode cX8_latest 31 = .ok (.iload 6, 2) := by decide +kernel
theorem dX8_latest_33 : decode cX8_latest 33 = .ok (.iload 7, 2) := by decide +kernel
theorem dX8_latest_35 : decode cX8_latest 35 = .ok (.iadd, 1) := by decide +kernel
theorem dX8_latest_36 : decode cX8_latest 36 = .ok (.istore 8, 2) := by decide +kernel
theorem dX8_latest_38 : decode cX8_latest 38 = .ok (.iload 8, 2) := by decide +kernel
theorem dX8_latest_40 : decode cX8_latest 40 = .ok (.iload_n 3, 1) := by decide +kernel
theorem dX8_latest_41 : decode cX8_latest 41 = .ok (.if_icmp .gt 24, 3) := by decide +kernel
theorem dX8_latest_44 : decode cX8_latest 44 = .ok (.aload_n 0, 1) := by decide +kernel
theorem dX8_latest_45 : decode cX8_latest 45 = .ok (.getfield 27, 3) := by decide +kernel
theorem dX8_latest_48 : decode cX8_latest 48 = .ok (.iload_n 1, 1) := by decide +kernel
theorem dX8_latest_49 : decode cX8_latest 49 = .ok (.iload 8, 2) := by decide +kernel
theorem dX8_latest_51 : decode cX8_latest 51 = .ok (.iload_n 2, 1) := by decide +kernel
theorem dX8_latest_52 : decode cX8_latest 52 = .ok (.iload 4, 2) := by decide +kernel
theorem dX8_latest_54 : decode cX8_latest 54 = .ok (.invokevirtual 151, 3) := by decide +kernel
theorem dX8_latest_57 : decode cX8_latest 57 = .ok (.iload_n 3, 1) := by decide +kernel
theorem dX8_latest_58 : decode cX8_latest 58 = .ok (.if_icmp .gt 7, 3) := by decide +kernel
theorem dX8_latest_61 : decode cX8_latest 61 = .ok (.iload 8, 2) := by decide +kernel
theorem dX8_latest_63 : decode cX8_latest 63 = .ok (.istore 6, 2) := by decide +kernel
theorem dX8_latest_65 : decode cX8_latest 65 = .ok (.iload 7, 2) := by decide +kernel
theorem dX8_latest_67 : decode cX8_latest 67 = .ok (.iconst 2, 1) := by decide +kernel
theorem dX8_latest_68 : decode cX8_latest 68 = .ok (.idiv, 1) := by decide +kernel
theorem dX8_latest_69 : decode cX8_latest 69 = .ok (.istore 7, 2) := by decide +kernel
theorem dX8_latest_71 : decode cX8_latest 71 = .ok (.goto (-45), 3) := by decide +kernel
theorem dX8_latest_74 : decode cX8_latest 74 = .ok (.iload 6, 2) := by decide +kernel
theorem dX8_latest_76 : decode cX8_latest 76 = .ok (.ifCond .ge 8, 3) := by decide +kernel
theorem dX8_latest_79 : decode cX8_latest 79 = .ok (.bipush (-5), 2) := by decide +kernel
theorem dX8_latest_81 : decode cX8_latest 81 = .ok (.goto 5, 3) := by decide +kernel
theorem dX8_latest_84 : decode cX8_latest 84 = .ok (.iload 6, 2) := by decide +kernel
theorem dX8_latest_86 : decode cX8_latest 86 = .ok (.ireturn, 1) := by decide +kernel
theorem dX8_profile_0 : decode cX8_profile 0 = .ok (.iload 6, 2) := by decide +kernel
theorem dX8_profile_2 : decode cX8_profile 2 = .ok (.iconst (-1), 1) := by decide +kernel
theorem dX8_profile_3 : decode cX8_profile 3 = .ok (.if_icmp .ge 5, 3) := by decide +kernel
theorem dX8_profile_6 : decode cX8_profile 6 = .ok (.iconst (-1), 1) := by decide +kernel
theorem dX8_profile_7 : decode cX8_profile 7 = .ok (.ireturn, 1) := by decide +kernel
theorem dX8_profile_8 : decode cX8_profile 8 = .ok (.iload_n 1, 1) := by decide +kernel
theorem dX8_profile_9 : decode cX8_profile 9 = .ok (.iload 4, 2) := by decide +kernel
theorem dX8_profile_11 : decode cX8_profile 11 = .ok (.iload_n 2, 1) := by decide +kernel
theorem dX8_profile_12 : decode cX8_profile 12 = .ok (.iload_n 3, 1) := by decide +kernel
theorem dX8_profile_13 : decode cX8_profile 13 = .ok (.invokestatic 147, 3) := by decide +kernel
theorem dX8_profile_16 : decode cX8_profile 16 = .ok (.istore 7, 2) := by decide +kernel
theorem dX8_profile_18 : decode cX8_profile 18 = .ok (.iload 7, 2) := by decide +kernel
theorem dX8_profile_20 : decode cX8_profile 20 = .ok (.ifCond .eq 6, 3) := by decide +kernel
theorem dX8_profile_23 : decode cX8_profile 23 = .ok (.iload 7, 2) := by decide +kernel
theorem dX8_profile_25 : decode cX8_profile 25 = .ok (.ireturn, 1) := by decide +kernel
theorem dX8_profile_26 : decode cX8_profile 26 = .ok (.iload 5, 2) := by decide +kernel
theorem dX8_profile_28 : decode cX8_profile 28 = .ok (.invokestatic 178, 3) := by decide +kernel
theorem dX8_profile_31 : decode cX8_profile 31 = .ok (.ifCond .eq 20, 3) := by decide +kernel
theorem dX8_profile_34 : decode cX8_profile 34 = .ok (.iload 5, 2) := by decide +kernel
theorem dX8_profile_36 : decode cX8_profile 36 = .ok (.iload 4, 2) := by decide +kernel
theorem dX8_profile_38 : decode cX8_profile 38 = .ok (.if_icmp .lt 13, 3) := by decide +kernel
theorem dX8_profile_41 : decode cX8_profile 41 = .ok (.iload 5, 2) := by decide +kernel
theorem dX8_profile_43 : decode cX8_profile 43 = .ok (.iload 4, 2) := by decide +kernel
theorem dX8_profile_45 : decode cX8_profile 45 = .ok (.isub, 1) := by decide +kernel
theorem dX8_profile_46 : decode cX8_profile 46 = .ok (.bipush 100, 2) := by decide +kernel
theorem dX8_profile_48 : decode cX8_profile 48 = .ok (.if_icmp .lt 6, 3) := by decide +kernel
theorem dX8_profile_51 : decode cX8_profile 51 = .ok (.bipush (-2), 2) := by decide +kernel
theorem dX8_profile_53 : decode cX8_profile 53 = .ok (.ireturn, 1) := by decide +kernel
theorem dX8_profile_54 : decode cX8_profile 54 = .ok (.iconst 0, 1) := by decide +kernel
theorem dX8_profile_55 : decode cX8_profile 55 = .ok (.istore 8, 2) := by decide +kernel
theorem dX8_profile_57 : decode cX8_profile 57 = .ok (.aload_n 0, 1) := by decide +kernel
theorem dX8_profile_58 : decode cX8_profile 58 = .ok (.getfield 27, 3) := by decide +kernel
theorem dX8_profile_61 : decode cX8_profile 61 = .ok (.iload_n 1, 1) := by decide +kernel
theorem dX8_profile_62 : decode cX8_profile 62 = .ok (.iload 4, 2) := by decide +kernel
theorem dX8_profile_64 : decode cX8_profile 64 = .ok (.iload_n 2, 1) := by decide +kernel
theorem dX8_profile_65 : decode cX8_profile 65 = .ok (.iload_n 3, 1) := by decide +kernel
theorem dX8_profile_66 : decode cX8_profile 66 = .ok (.invokevirtual 151, 3) := by decide +kernel
theorem dX8_profile_69 : decode cX8_profile 69 = .ok (.istore 9, 2) := by decide +kernel
theorem dX8_profile_71 : decode cX8_profile 71 = .ok (.iload 4, 2) := by decide +kernel
theorem dX8_profile_73 : decode cX8_profile 73 = .ok (.istore 10, 2) := by decide +kernel
theorem dX8_profile_75 : decode cX8_profile 75 = .ok (.iload 10, 2) := by decide +kernel
theorem dX8_profile_77 : decode cX8_profile 77 = .ok (.iload 5, 2) := by decide +kernel
theorem dX8_profile_79 : decode cX8_profile 79 = .ok (.if_icmp .gt 49, 3) := by decide +kernel
theorem dX8_profile_82 : decode cX8_profile 82 = .ok (.aload_n 0, 1) := by decide +kernel
theorem dX8_profile_83 : decode cX8_profile 83 = .ok (.getfield 27, 3) := by decide +kernel
theorem dX8_profile_86 : decode cX8_profile 86 = .ok (.iload_n 1, 1) := by decide +kernel
theorem dX8_profile_87 : decode cX8_profile 87 = .ok (.iload 10, 2) := by decide +kernel
theorem dX8_profile_89 : decode cX8_profile 89 = .ok (.iconst 1, 1) := by decide +kernel
theorem dX8_profile_90 : decode cX8_profile 90 = .ok (.iadd, 1) := by decide +kernel
theorem dX8_profile_91 : decode cX8_profile 91 = .ok (.iload_n 2, 1) := by decide +kernel
theorem dX8_profile_92 : decode cX8_profile 92 = .ok (.iload_n 3, 1) := by decide +kernel
theorem dX8_profile_93 : decode cX8_profile 93 = .ok (.invokevirtual 151, 3) := by decide +kernel
theorem dX8_profile_96 : decode cX8_profile 96 = .ok (.istore 11, 2) := by decide +kernel
theorem dX8_profile_98 : decode cX8_profile 98 = .ok (.iload 9, 2) := by decide +kernel
theorem dX8_profile_100 : decode cX8_profile 100 = .ok (.iload 11, 2) := by decide +kernel
theorem dX8_profile_102 : decode cX8_profile 102 = .ok (.if_icmp .ge 16, 3) := by decide +kernel
theorem dX8_profile_105 : decode cX8_profile 105 = .ok (.iload 8, 2) := by decide +kernel
theorem dX8_profile_107 : decode cX8_profile 107 = .ok (.iload 6, 2) := by decide +kernel
theorem dX8_profile_109 : decode cX8_profile 109 = .ok (.if_icmp .ne 6, 3) := by decide +kernel
theorem dX8_profile_112 : decode cX8_profile 112 = .ok (.iload 10, 2) := by decide +kernel
theorem dX8_profile_114 : decode cX8_profile 114 = .ok (.ireturn, 1) := by decide +kernel
theorem dX8_profile_115 : decode cX8_profile 115 = .ok (.iinc 8 1, 3) := by decide +kernel
theorem dX8_profile_118 : decode cX8_profile 118 = .ok (.iload 11, 2) := by decide +kernel
theorem dX8_profile_120 : decode cX8_profile 120 = .ok (.istore 9, 2) := by decide +kernel
theorem dX8_profile_122 : decode cX8_profile 122 = .ok (.iinc 10 1, 3) := by decide +kernel
theorem dX8_profile_125 : decode cX8_profile 125 = .ok (.goto (-50), 3) := by decide +kernel
theorem dX8_profile_128 : decode cX8_profile 128 = .ok (.iload 6, 2) := by decide +kernel
theorem dX8_profile_130 : decode cX8_profile 130 = .ok (.iconst (-1), 1) := by decide +kernel
theorem dX8_profile_131 : decode cX8_profile 131 = .ok (.if_icmp .ne 8, 3) := by decide +kernel
theorem dX8_profile_134 : decode cX8_profile 134 = .ok (.iload 8, 2) := by decide +kernel
theorem dX8_profile_136 : decode cX8_profile 136 = .ok (.goto 5, 3) := by decide +kernel
theorem dX8_profile_139 : decode cX8_profile 139 = .ok (.bipush (-5), 2) := by decide +kernel
theorem dX8_profile_141 : decode cX8_profile 141 = .ok (.ireturn, 1) := by decide +kernel
theorem dX8_reached_0 : decode cX8_reached 0 = .ok (.iload_n 1, 1) := by decide +kernel
theorem dX8_reached_1 : decode cX8_reached 1 = .ok (.invokestatic 129, 3) := by decide +kernel
theorem dX8_reached_4 : decode cX8_reached 4 = .ok (.ifCond .ne 5, 3) := by decide +kernel
theorem dX8_reached_7 : decode cX8_reached 7 = .ok (.iconst (-1), 1) := by decide +kernel
theorem dX8_reached_8 : decode cX8_reached 8 = .ok (.ireturn, 1) := by decide +kernel
theorem dX8_reached_9 : decode cX8_reached 9 = .ok (.iload_n 2, 1) := by decide +kernel
theorem dX8_reached_10 : decode cX8_reached 10 = .ok (.invokestatic 178, 3) := by decide +kernel
theorem dX8_reached_13 : decode cX8_reached 13 = .ok (.ifCond .eq 18, 3) := by decide +kernel
theorem dX8_reached_16 : decode cX8_reached 16 = .ok (.iload_n 3, 1) := by decide +kernel
theorem dX8_reached_17 : decode cX8_reached 17 = .ok (.invokestatic 178, 3) := by decide +kernel
theorem dX8_reached_20 : decode cX8_reached 20 = .ok (.ifCond .eq 11, 3) := by decide +kernel
theorem dX8_reached_23 : decode cX8_reached 23 = .ok (.iload 4, 2) := by decide +kernel
theorem dX8_reached_25 : decode cX8_reached 25 = .ok (.invokestatic 181, 3) := by decide +kernel
theorem dX8_reached_28 : decode cX8_reached 28 = .ok (.ifCond .ne 6, 3) := by decide +kernel
theorem dX8_reached_31 : decode cX8_reached 31 = .ok (.bipush (-2), 2) := by decide +kernel
theorem dX8_reached_33 : decode cX8_reached 33 = .ok (.ireturn, 1) := by decide +kernel
theorem dX8_reached_34 : decode cX8_reached 34 = .ok (.aload_n 0, 1) := by decide +kernel
theorem dX8_reached_35 : decode cX8_reached 35 = .ok (.getfield 27, 3) := by decide +kernel
theorem dX8_reached_38 : decode cX8_reached 38 = .ok (.iload_n 1, 1) := by decide +kernel
theorem dX8_reached_39 : decode cX8_reached 39 = .ok (.iload_n 2, 1) := by decide +kernel
theorem dX8_reached_40 : decode cX8_reached 40 = .ok (.iload 4, 2) := by decide +kernel
theorem dX8_reached_42 : decode cX8_reached 42 = .ok (.invokevirtual 157, 3) := by decide +kernel
theorem dX8_reached_45 : decode cX8_reached 45 = .ok (.iconst 0, 1) := by decide +kernel
theorem dX8_reached_46 : decode cX8_reached 46 = .ok (.istore 5, 2) := by decide +kernel
theorem dX8_reached_48 : decode cX8_reached 48 = .ok (.iconst 0, 1) := by decide +kernel
