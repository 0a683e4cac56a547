theorem dX8_reached_49 : decode cX8_reached 49 = .ok (.istore 6, 2) := by decide +kernel
theorem dX8_reached_51 : decode cX8_reached 51 = .ok (.iload 6, 2) := by decide +kernel
theorem dX8_reached_53 : decode cX8_reached 53 = .ok (.bipush 12, 2) := by decide +kernel
theorem dX8_reached_55 : decode cX8_reached 55 = .ok (.if_icmp .ge 35, 3) := by decide +kernel
theorem dX8_reached_58 : decode cX8_reached 58 = .ok (.aload_n 0, 1) := by decide +kernel
theorem dX8_reached_59 : decode cX8_reached 59 = .ok (.getfield 27, 3) := by decide +kernel
theorem dX8_reached_62 : decode cX8_reached 62 = .ok (.getfield 160, 3) := by decide +kernel
theorem dX8_reached_65 : decode cX8_reached 65 = .ok (.iload 4, 2) := by decide +kernel
theorem dX8_reached_67 : decode cX8_reached 67 = .ok (.aaload, 1) := by decide +kernel
theorem dX8_reached_68 : decode cX8_reached 68 = .ok (.iload 6, 2) := by decide +kernel
theorem dX8_reached_70 : decode cX8_reached 70 = .ok (.iaload, 1) := by decide +kernel
theorem dX8_reached_71 : decode cX8_reached 71 = .ok (.iload_n 3, 1) := by decide +kernel
theorem dX8_reached_72 : decode cX8_reached 72 = .ok (.if_icmp .gt 12, 3) := by decide +kernel
theorem dX8_reached_75 : decode cX8_reached 75 = .ok (.iload 5, 2) := by decide +kernel
theorem dX8_reached_77 : decode cX8_reached 77 = .ok (.iconst 1, 1) := by decide +kernel
theorem dX8_reached_78 : decode cX8_reached 78 = .ok (.iload 6, 2) := by decide +kernel
theorem dX8_reached_80 : decode cX8_reached 80 = .ok (.ishl, 1) := by decide +kernel
theorem dX8_reached_81 : decode cX8_reached 81 = .ok (.ior, 1) := by decide +kernel
theorem dX8_reached_82 : decode cX8_reached 82 = .ok (.istore 5, 2) := by decide +kernel
theorem dX8_reached_84 : decode cX8_reached 84 = .ok (.iinc 6 1, 3) := by decide +kernel
theorem dX8_reached_87 : decode cX8_reached 87 = .ok (.goto (-36), 3) := by decide +kernel
theorem dX8_reached_90 : decode cX8_reached 90 = .ok (.iload 5, 2) := by decide +kernel
theorem dX8_reached_92 : decode cX8_reached 92 = .ok (.ireturn, 1) := by decide +kernel
theorem dX8_worst_0 : decode cX8_worst 0 = .ok (.iload 5, 2) := by decide +kernel
theorem dX8_worst_2 : decode cX8_worst 2 = .ok (.ifCond .lt 9, 3) := by decide +kernel
theorem dX8_worst_5 : decode cX8_worst 5 = .ok (.iload 5, 2) := by decide +kernel
theorem dX8_worst_7 : decode cX8_worst 7 = .ok (.iconst 1, 1) := by decide +kernel
theorem dX8_worst_8 : decode cX8_worst 8 = .ok (.if_icmp .le 5, 3) := by decide +kernel
theorem dX8_worst_11 : decode cX8_worst 11 = .ok (.iconst (-1), 1) := by decide +kernel
theorem dX8_worst_12 : decode cX8_worst 12 = .ok (.ireturn, 1) := by decide +kernel
theorem dX8_worst_13 : decode cX8_worst 13 = .ok (.iload_n 1, 1) := by decide +kernel
theorem dX8_worst_14 : decode cX8_worst 14 = .ok (.iload_n 2, 1) := by decide +kernel
theorem dX8_worst_15 : decode cX8_worst 15 = .ok (.iload_n 3, 1) := by decide +kernel
theorem dX8_worst_16 : decode cX8_worst 16 = .ok (.iload 4, 2) := by decide +kernel
theorem dX8_worst_18 : decode cX8_worst 18 = .ok (.invokestatic 147, 3) := by decide +kernel
theorem dX8_worst_21 : decode cX8_worst 21 = .ok (.istore 6, 2) := by decide +kernel
theorem dX8_worst_23 : decode cX8_worst 23 = .ok (.iload 6, 2) := by decide +kernel
theorem dX8_worst_25 : decode cX8_worst 25 = .ok (.ifCond .eq 6, 3) := by decide +kernel
theorem dX8_worst_28 : decode cX8_worst 28 = .ok (.iload 6, 2) := by decide +kernel
theorem dX8_worst_30 : decode cX8_worst 30 = .ok (.ireturn, 1) := by decide +kernel
theorem dX8_worst_31 : decode cX8_worst 31 = .ok (.aload_n 0, 1) := by decide +kernel
theorem dX8_worst_32 : decode cX8_worst 32 = .ok (.getfield 27, 3) := by decide +kernel
theorem dX8_worst_35 : decode cX8_worst 35 = .ok (.iload_n 1, 1) := by decide +kernel
theorem dX8_worst_36 : decode cX8_worst 36 = .ok (.iload_n 2, 1) := by decide +kernel
theorem dX8_worst_37 : decode cX8_worst 37 = .ok (.iload_n 3, 1) := by decide +kernel
theorem dX8_worst_38 : decode cX8_worst 38 = .ok (.iload 4, 2) := by decide +kernel
theorem dX8_worst_40 : decode cX8_worst 40 = .ok (.invokevirtual 151, 3) := by decide +kernel
theorem dX8_worst_43 : decode cX8_worst 43 = .ok (.istore 7, 2) := by decide +kernel
theorem dX8_worst_45 : decode cX8_worst 45 = .ok (.iconst 0, 1) := by decide +kernel
theorem dX8_worst_46 : decode cX8_worst 46 = .ok (.istore 8, 2) := by decide +kernel
theorem dX8_worst_48 : decode cX8_worst 48 = .ok (.bipush (-5), 2) := by decide +kernel
theorem dX8_worst_50 : decode cX8_worst 50 = .ok (.istore 9, 2) := by decide +kernel
theorem dX8_worst_52 : decode cX8_worst 52 = .ok (.iconst 0, 1) := by decide +kernel
theorem dX8_worst_53 : decode cX8_worst 53 = .ok (.istore 10, 2) := by decide +kernel
theorem dX8_worst_55 : decode cX8_worst 55 = .ok (.iload 10, 2) := by decide +kernel
theorem dX8_worst_57 : decode cX8_worst 57 = .ok (.aload_n 0, 1) := by decide +kernel
theorem dX8_worst_58 : decode cX8_worst 58 = .ok (.getfield 10, 3) := by decide +kernel
theorem dX8_worst_61 : decode cX8_worst 61 = .ok (.getfield 184, 3) := by decide +kernel
theorem dX8_worst_64 : decode cX8_worst 64 = .ok (.if_icmp .ge 75, 3) := by decide +kernel
theorem dX8_worst_67 : decode cX8_worst 67 = .ok (.iconst 0, 1) := by decide +kernel
theorem dX8_worst_68 : decode cX8_worst 68 = .ok (.istore 11, 2) := by decide +kernel
theorem dX8_worst_70 : decode cX8_worst 70 = .ok (.iload 11, 2) := by decide +kernel
theorem dX8_worst_72 : decode cX8_worst 72 = .ok (.aload_n 0, 1) := by decide +kernel
theorem dX8_worst_73 : decode cX8_worst 73 = .ok (.getfield 10, 3) := by decide +kernel
theorem dX8_worst_76 : decode cX8_worst 76 = .ok (.getfield 104, 3) := by decide +kernel
theorem dX8_worst_79 : decode cX8_worst 79 = .ok (.iload 10, 2) := by decide +kernel
theorem dX8_worst_81 : decode cX8_worst 81 = .ok (.iaload, 1) := by decide +kernel
theorem dX8_worst_82 : decode cX8_worst 82 = .ok (.if_icmp .ge 51, 3) := by decide +kernel
theorem dX8_worst_85 : decode cX8_worst 85 = .ok (.aload_n 0, 1) := by decide +kernel
theorem dX8_worst_86 : decode cX8_worst 86 = .ok (.getfield 27, 3) := by decide +kernel
theorem dX8_worst_89 : decode cX8_worst 89 = .ok (.iload_n 1, 1) := by decide +kernel
theorem dX8_worst_90 : decode cX8_worst 90 = .ok (.iload_n 2, 1) := by decide +kernel
theorem dX8_worst_91 : decode cX8_worst 91 = .ok (.iload_n 3, 1) := by decide +kernel
theorem dX8_worst_92 : decode cX8_worst 92 = .ok (.iload 4, 2) := by decide +kernel
theorem dX8_worst_94 : decode cX8_worst 94 = .ok (.iload 10, 2) := by decide +kernel
theorem dX8_worst_96 : decode cX8_worst 96 = .ok (.iload 11, 2) := by decide +kernel
theorem dX8_worst_98 : decode cX8_worst 98 = .ok (.invokevirtual 187, 3) := by decide +kernel
theorem dX8_worst_101 : decode cX8_worst 101 = .ok (.iload 7, 2) := by decide +kernel
theorem dX8_worst_103 : decode cX8_worst 103 = .ok (.isub, 1) := by decide +kernel
theorem dX8_worst_104 : decode cX8_worst 104 = .ok (.istore 12, 2) := by decide +kernel
theorem dX8_worst_106 : decode cX8_worst 106 = .ok (.iload 12, 2) := by decide +kernel
theorem dX8_worst_108 : decode cX8_worst 108 = .ok (.iload 8, 2) := by decide +kernel
theorem dX8_worst_110 : decode cX8_worst 110 = .ok (.if_icmp .le 17, 3) := by decide +kernel
theorem dX8_worst_113 : decode cX8_worst 113 = .ok (.iload 12, 2) := by decide +kernel
theorem dX8_worst_115 : decode cX8_worst 115 = .ok (.istore 8, 2) := by decide +kernel
theorem dX8_worst_117 : decode cX8_worst 117 = .ok (.bipush 10, 2) := by decide +kernel
theorem dX8_worst_119 : decode cX8_worst 119 = .ok (.iload 10, 2) := by decide +kernel
theorem dX8_worst_121 : decode cX8_worst 121 = .ok (.imul, 1) := by decide +kernel
theorem dX8_worst_122 : decode cX8_worst 122 = .ok (.iload 11, 2) := by decide +kernel
theorem dX8_worst_124 : decode cX8_worst 124 = .ok (.iadd, 1) := by decide +kernel
theorem dX8_worst_125 : decode cX8_worst 125 = .ok (.istore 9, 2) := by decide +kernel
theorem dX8_worst_127 : decode cX8_worst 127 = .ok (.iinc 11 1, 3) := by decide +kernel
theorem dX8_worst_130 : decode cX8_worst 130 = .ok (.goto (-60), 3) := by decide +kernel
theorem dX8_worst_133 : decode cX8_worst 133 = .ok (.iinc 10 1, 3) := by decide +kernel
theorem dX8_worst_136 : decode cX8_worst 136 = .ok (.goto (-81), 3) := by decide +kernel
theorem dX8_worst_139 : decode cX8_worst 139 = .ok (.iload 5, 2) := by decide +kernel
theorem dX8_worst_141 : decode cX8_worst 141 = .ok (.iload 9, 2) := by decide +kernel
theorem dX8_worst_143 : decode cX8_worst 143 = .ok (.iload 8, 2) := by decide +kernel
theorem dX8_worst_145 : decode cX8_worst 145 = .ok (.invokestatic 191, 3) := by decide +kernel
theorem dX8_worst_148 : decode cX8_worst 148 = .ok (.ireturn, 1) := by decide +kernel
theorem dX8_cut_0 : decode cX8_cut 0 = .ok (.iload 5, 2) := by decide +kernel
theorem dX8_cut_2 : decode cX8_cut 2 = .ok (.ifCond .lt 14, 3) := by decide +kernel
theorem dX8_cut_5 : decode cX8_cut 5 = .ok (.iload 5, 2) := by decide +kernel
theorem dX8_cut_7 : decode cX8_cut 7 = .ok (.iconst 1, 1) := by decide +kernel
theorem dX8_cut_8 : decode cX8_cut 8 = .ok (.if_icmp .gt 8, 3) := by decide +kernel
theorem dX8_cut_11 : decode cX8_cut 11 = .ok (.iload_n 1, 1) := by decide +kernel
theorem dX8_cut_12 : decode cX8_cut 12 = .ok (.iload_n 3, 1) := by decide +kernel
theorem dX8_cut_13 : decode cX8_cut 13 = .ok (.if_icmp .ne 5, 3) := by decide +kernel
theorem dX8_cut_16 : decode cX8_cut 16 = .ok (.iconst (-1), 1) := by decide +kernel
theorem dX8_cut_17 : decode cX8_cut 17 = .ok (.ireturn, 1) := by decide +kernel
theorem dX8_cut_18 : decode cX8_cut 18 = .ok (.iload_n 1, 1) := by decide +kernel
theorem dX8_cut_19 : decode cX8_cut 19 = .ok (.iload_n 2, 1) := by decide +kernel
theorem dX8_cut_20 : decode cX8_cut 20 = .ok (.iload_n 3, 1) := by decide +kernel
theorem dX8_cut_21 : decode cX8_cut 21 = .ok (.iload 4, 2) := by decide +kernel
theorem dX8_cut_23 : decode cX8_cut 23 = .ok (.invokestatic 147, 3) := by decide +kernel
theorem dX8_cut_26 : decode cX8_cut 26 = .ok (.istore 6, 2) := by decide +kernel
theorem dX8_cut_28 : decode cX8_cut 28 = .ok (.iload 6, 2) := by decide +kernel
theorem dX8_cut_30 : decode cX8_cut 30 = .ok (.ifCond .eq 6, 3) := by decide +kernel
theorem dX8_cut_33 : decode cX8_cut 33 = .ok (.iload 6, 2) := by decide +kernel
theorem dX8_cut_35 : decode cX8_cut 35 = .ok (.ireturn, 1) := by decide +kernel
theorem dX8_cut_36 : decode cX8_cut 36 = .ok (.aload_n 0, 1) := by decide +kernel
theorem dX8_cut_37 : decode cX8_cut 37 = .ok (.getfield 27, 3) := by decide +kernel
theorem dX8_cut_40 : decode cX8_cut 40 = .ok (.iload_n 1, 1) := by decide +kernel
theorem dX8_cut_41 : decode cX8_cut 41 = .ok (.iload_n 2, 1) := by decide +kernel
theorem dX8_cut_42 : decode cX8_cut 42 = .ok (.iload_n 3, 1) := by decide +kernel
theorem dX8_cut_43 : decode cX8_cut 43 = .ok (.iload 4, 2) := by decide +kernel
theorem dX8_cut_45 : decode cX8_cut 45 = .ok (.invokevirtual 151, 3) := by decide +kernel
theorem dX8_cut_48 : decode cX8_cut 48 = .ok (.istore 7, 2) := by decide +kernel
theorem dX8_cut_50 : decode cX8_cut 50 = .ok (.iconst 0, 1) := by decide +kernel
theorem dX8_cut_51 : decode cX8_cut 51 = .ok (.istore 8, 2) := by decide +kernel
theorem dX8_cut_53 : decode cX8_cut 53 = .ok (.bipush (-5), 2) := by decide +kernel
theorem dX8_cut_55 : decode cX8_cut 55 = .ok (.istore 9, 2) := by decide +kernel
theorem dX8_cut_57 : decode cX8_cut 57 = .ok (.iconst 0, 1) := by decide +kernel
theorem dX8_cut_58 : decode cX8_cut 58 = .ok (.istore 10, 2) := by decide +kernel
theorem dX8_cut_60 : decode cX8_cut 60 = .ok (.iload 10, 2) := by decide +kernel
theorem dX8_cut_62 : decode cX8_cut 62 = .ok (.bipush 12, 2) := by decide +kernel
theorem dX8_cut_64 : decode cX8_cut 64 = .ok (.if_icmp .ge 58, 3) := by decide +kernel
theorem dX8_cut_67 : decode cX8_cut 67 = .ok (.iload 10, 2) := by decide +kernel
theorem dX8_cut_69 : decode cX8_cut 69 = .ok (.iload_n 1, 1) := by decide +kernel
theorem dX8_cut_70 : decode cX8_cut 70 = .ok (.if_icmp .eq 46, 3) := by decide +kernel
theorem dX8_cut_73 : decode cX8_cut 73 = .ok (.iload 10, 2) := by decide +kernel
theorem dX8_cut_75 : decode cX8_cut 75 = .ok (.iload_n 3, 1) := by decide +kernel
theorem dX8_cut_76 : decode cX8_cut 76 = .ok (.if_icmp .ne 6, 3) := by decide +kernel
theorem dX8_cut_79 : decode cX8_cut 79 = .ok (.goto 37, 3) := by decide +kernel
theorem dX8_cut_82 : decode cX8_cut 82 = .ok (.aload_n 0, 1) := by decide +kernel
theorem dX8_cut_83 : decode cX8_cut 83 = .ok (.getfield 27, 3) := by decide +kernel
theorem dX8_cut_86 : decode cX8_cut 86 = .ok (.iload_n 1, 1) := by decide +kernel
theorem dX8_cut_87 : decode cX8_cut 87 = .ok (.iload_n 2, 1) := by decide +kernel
theorem dX8_cut_88 : decode cX8_cut 88 = .ok (.iload_n 3, 1) := by decide +kernel
theorem dX8_cut_89 : decode cX8_cut 89 = .ok (.iload 4, 2) := by decide +kernel
theorem dX8_cut_91 : decode cX8_cut 91 = .ok (.iload 10, 2) := by decide +kernel
theorem dX8_cut_93 : decode cX8_cut 93 = .ok (.invokevirtual 194, 3) := by decide +kernel
theorem dX8_cut_96 : decode cX8_cut 96 = .ok (.iload 7, 2) := by decide +kernel
theorem dX8_cut_98 : decode cX8_cut 98 = .ok (.isub, 1) := by decide +kernel
theorem dX8_cut_99 : decode cX8_cut 99 = .ok (.istore 11, 2) := by decide +kernel
theorem dX8_cut_101 : decode cX8_cut 101 = .ok (.iload 11, 2) := by decide +kernel
theorem dX8_cut_103 : decode cX8_cut 103 = .ok (.iload 8, 2) := by decide +kernel
theorem dX8_cut_105 : decode cX8_cut 105 = .ok (.if_icmp .le 11, 3) := by decide +kernel
theorem dX8_cut_108 : decode cX8_cut 108 = .ok (.iload 11, 2) := by decide +kernel
theorem dX8_cut_110 : decode cX8_cut 110 = .ok (.istore 8, 2) := by decide +kernel
theorem dX8_cut_112 : decode cX8_cut 112 = .ok (.iload 10, 2) := by decide +kernel
theorem dX8_cut_114 : decode cX8_cut 114 = .ok (.istore 9, 2) := by decide +kernel
theorem dX8_cut_116 : decode cX8_cut 116 = .ok (.iinc 10 1, 3) := by decide +kernel
theorem dX8_cut_119 : decode cX8_cut 119 = .ok (.goto (-59), 3) := by decide +kernel
theorem dX8_cut_122 : decode cX8_cut 122 = .ok (.iload 5, 2) := by decide +kernel
theorem dX8_cut_124 : decode cX8_cut 124 = .ok (.iload 9, 2) := by decide +kernel
theorem dX8_cut_126 : decode cX8_cut 126 = .ok (.iload 8, 2) := by decide +kernel
theorem dX8_cut_128 : decode cX8_cut 128 = .ok (.invokestatic 191, 3) := by decide +kernel
theorem dX8_cut_131 : decode cX8_cut 131 = .ok (.ireturn, 1) := by decide +kernel
theorem dX8_lossAnswer_0 : decode cX8_lossAnswer 0 = .ok (.iload_n 1, 1) := by decide +kernel
theorem dX8_lossAnswer_1 : decode cX8_lossAnswer 1 = .ok (.bipush (-5), 2) := by decide +kernel
theorem dX8_lossAnswer_3 : decode cX8_lossAnswer 3 = .ok (.if_icmp .ne 6, 3) := by decide +kernel
theorem dX8_lossAnswer_6 : decode cX8_lossAnswer 6 = .ok (.bipush (-5), 2) := by decide +kernel
theorem dX8_lossAnswer_8 : decode cX8_lossAnswer 8 = .ok (.ireturn, 1) := by decide +kernel
theorem dX8_lossAnswer_9 : decode cX8_lossAnswer 9 = .ok (.iload_n 0, 1) := by decide +kernel
theorem dX8_lossAnswer_10 : decode cX8_lossAnswer 10 = .ok (.ifCond .ne 7, 3) := by decide +kernel
theorem dX8_lossAnswer_13 : decode cX8_lossAnswer 13 = .ok (.iload_n 1, 1) := by decide +kernel
theorem dX8_lossAnswer_14 : decode cX8_lossAnswer 14 = .ok (.goto 4, 3) := by decide +kernel
theorem dX8_lossAnswer_17 : decode cX8_lossAnswer 17 = .ok (.iload_n 2, 1) := by decide +kernel
theorem dX8_lossAnswer_18 : decode cX8_lossAnswer 18 = .ok (.ireturn, 1) := by decide +kernel
theorem dX8_board_0 : decode cX8_board 0 = .ok (.iload_n 1, 1) := by decide +kernel
theorem dX8_board_1 : decode cX8_board 1 = .ok (.invokestatic 129, 3) := by decide +kernel
theorem dX8_board_4 : decode cX8_board 4 = .ok (.ifCond .eq 18, 3) := by decide +kernel
theorem dX8_board_7 : decode cX8_board 7 = .ok (.iload_n 3, 1) := by decide +kernel
theorem dX8_board_8 : decode cX8_board 8 = .ok (.ifCond .lt 14, 3) := by decide +kernel
theorem dX8_board_11 : decode cX8_board 11 = .ok (.iload 4, 2) := by decide +kernel
theorem dX8_board_13 : decode cX8_board 13 = .ok (.ifCond .lt 9, 3) := by decide +kernel
theorem dX8_board_16 : decode cX8_board 16 = .ok (.iload 4, 2) := by decide +kernel
theorem dX8_board_18 : decode cX8_board 18 = .ok (.iconst 2, 1) := by decide +kernel
theorem dX8_board_19 : decode cX8_board 19 = .ok (.if_icmp .le 5, 3) := by decide +kernel
theorem dX8_board_22 : decode cX8_board 22 = .ok (.iconst (-1), 1) := by decide +kernel
theorem dX8_board_23 : decode cX8_board 23 = .ok (.ireturn, 1) := by decide +kernel
theorem dX8_board_24 : decode cX8_board 24 = .ok (.iload_n 2, 1) := by decide +kernel
theorem dX8_board_25 : decode cX8_board 25 = .ok (.invokestatic 178, 3) := by decide +kernel
theorem dX8_board_28 : decode cX8_board 28 = .ok (.ifCond .ne 6, 3) := by decide +kernel
theorem dX8_board_31 : decode cX8_board 31 = .ok (.bipush (-2), 2) := by decide +kernel
theorem dX8_board_33 : decode cX8_board 33 = .ok (.ireturn, 1) := by decide +kernel
theorem dX8_board_34 : decode cX8_board 34 = .ok (.aload_n 0, 1) := by decide +kernel
theorem dX8_board_35 : decode cX8_board 35 = .ok (.getfield 43, 3) := by decide +kernel
theorem dX8_board_38 : decode cX8_board 38 = .ok (.iload_n 1, 1) := by decide +kernel
theorem dX8_board_39 : decode cX8_board 39 = .ok (.iload_n 2, 1) := by decide +kernel
theorem dX8_board_40 : decode cX8_board 40 = .ok (.invokevirtual 198, 3) := by decide +kernel
theorem dX8_board_43 : decode cX8_board 43 = .ok (.iload_n 3, 1) := by decide +kernel
theorem dX8_board_44 : decode cX8_board 44 = .ok (.aload_n 0, 1) := by decide +kernel
theorem dX8_board_45 : decode cX8_board 45 = .ok (.getfield 43, 3) := by decide +kernel
theorem dX8_board_48 : decode cX8_board 48 = .ok (.getfield 202, 3) := by decide +kernel
theorem dX8_board_51 : decode cX8_board 51 = .ok (.if_icmp .lt 6, 3) := by decide +kernel
theorem dX8_board_54 : decode cX8_board 54 = .ok (.bipush (-5), 2) := by decide +kernel
theorem dX8_board_56 : decode cX8_board 56 = .ok (.ireturn, 1) := by decide +kernel
theorem dX8_board_57 : decode cX8_board 57 = .ok (.aload_n 0, 1) := by decide +kernel
theorem dX8_board_58 : decode cX8_board 58 = .ok (.getfield 43, 3) := by decide +kernel
theorem dX8_board_61 : decode cX8_board 61 = .ok (.iload_n 3, 1) := by decide +kernel
theorem dX8_board_62 : decode cX8_board 62 = .ok (.iload 4, 2) := by decide +kernel
theorem dX8_board_64 : decode cX8_board 64 = .ok (.invokevirtual 203, 3) := by decide +kernel
theorem dX8_board_67 : decode cX8_board 67 = .ok (.ireturn, 1) := by decide +kernel
theorem dX8_missed_0 : decode cX8_missed 0 = .ok (.iload_n 1, 1) := by decide +kernel
theorem dX8_missed_1 : decode cX8_missed 1 = .ok (.invokestatic 129, 3) := by decide +kernel
theorem dX8_missed_4 : decode cX8_missed 4 = .ok (.ifCond .ne 5, 3) := by decide +kernel
theorem dX8_missed_7 : decode cX8_missed 7 = .ok (.iconst (-1), 1) := by decide +kernel
theorem dX8_missed_8 : decode cX8_missed 8 = .ok (.ireturn, 1) := by decide +kernel
theorem dX8_missed_9 : decode cX8_missed 9 = .ok (.aload_n 0, 1) := by decide +kernel
theorem dX8_missed_10 : decode cX8_missed 10 = .ok (.getfield 43, 3) := by decide +kernel
theorem dX8_missed_13 : decode cX8_missed 13 = .ok (.iload_n 1, 1) := by decide +kernel
theorem dX8_missed_14 : decode cX8_missed 14 = .ok (.invokevirtual 204, 3) := by decide +kernel
theorem dX8_missed_17 : decode cX8_missed 17 = .ok (.invokestatic 154, 3) := by decide +kernel
theorem dX8_missed_20 : decode cX8_missed 20 = .ok (.ireturn, 1) := by decide +kernel
theorem dX8_meet_0 : decode cX8_meet 0 = .ok (.aload_n 0, 1) := by decide +kernel
theorem dX8_meet_1 : decode cX8_meet 1 = .ok (.getfield 10, 3) := by decide +kernel
theorem dX8_meet_4 : decode cX8_meet 4 = .ok (.iload_n 1, 1) := by decide +kernel
theorem dX8_meet_5 : decode cX8_meet 5 = .ok (.invokevirtual 93, 3) := by decide +kernel
theorem dX8_meet_8 : decode cX8_meet 8 = .ok (.ifCond .eq 14, 3) := by decide +kernel
theorem dX8_meet_11 : decode cX8_meet 11 = .ok (.aload_n 0, 1) := by decide +kernel
theorem dX8_meet_12 : decode cX8_meet 12 = .ok (.getfield 10, 3) := by decide +kernel
theorem dX8_meet_15 : decode cX8_meet 15 = .ok (.iload_n 2, 1) := by decide +kernel
theorem dX8_meet_16 : decode cX8_meet 16 = .ok (.invokevirtual 93, 3) := by decide +kernel
theorem dX8_meet_19 : decode cX8_meet 19 = .ok (.ifCond .ne 5, 3) := by decide +kernel
theorem dX8_meet_22 : decode cX8_meet 22 = .ok (.iconst (-1), 1) := by decide +kernel
theorem dX8_meet_23 : decode cX8_meet 23 = .ok (.ireturn, 1) := by decide +kernel
theorem dX8_meet_24 : decode cX8_meet 24 = .ok (.iconst 0, 1) := by decide +kernel
theorem dX8_meet_25 : decode cX8_meet 25 = .ok (.istore_n 3, 1) := by decide +kernel
theorem dX8_meet_26 : decode cX8_meet 26 = .ok (.iconst 0, 1) := by decide +kernel
theorem dX8_meet_27 : decode cX8_meet 27 = .ok (.istore 4, 2) := by decide +kernel
theorem dX8_meet_29 : decode cX8_meet 29 = .ok (.iload 4, 2) := by decide +kernel
theorem dX8_meet_31 : decode cX8_meet 31 = .ok (.aload_n 0, 1) := by decide +kernel
theorem dX8_meet_32 : decode cX8_meet 32 = .ok (.getfield 10, 3) := by decide +kernel
theorem dX8_meet_35 : decode cX8_meet 35 = .ok (.getfield 101, 3) := by decide +kernel
theorem dX8_meet_38 : decode cX8_meet 38 = .ok (.iload_n 1, 1) := by decide +kernel
theorem dX8_meet_39 : decode cX8_meet 39 = .ok (.iaload, 1) := by decide +kernel
theorem dX8_meet_40 : decode cX8_meet 40 = .ok (.if_icmp .ge 43, 3) := by decide +kernel
theorem dX8_meet_43 : decode cX8_meet 43 = .ok (.aload_n 0, 1) := by decide +kernel
theorem dX8_meet_44 : decode cX8_meet 44 = .ok (.getfield 10, 3) := by decide +kernel
theorem dX8_meet_47 : decode cX8_meet 47 = .ok (.getfield 115, 3) := by decide +kernel
theorem dX8_meet_50 : decode cX8_meet 50 = .ok (.iload_n 1, 1) := by decide +kernel
theorem dX8_meet_51 : decode cX8_meet 51 = .ok (.aaload, 1) := by decide +kernel
theorem dX8_meet_52 : decode cX8_meet 52 = .ok (.iload 4, 2) := by decide +kernel
theorem dX8_meet_54 : decode cX8_meet 54 = .ok (.iaload, 1) := by decide +kernel
theorem dX8_meet_55 : decode cX8_meet 55 = .ok (.istore 5, 2) := by decide +kernel
theorem dX8_meet_57 : decode cX8_meet 57 = .ok (.aload_n 0, 1) := by decide +kernel
theorem dX8_meet_58 : decode cX8_meet 58 = .ok (.getfield 10, 3) := by decide +kernel
theorem dX8_meet_61 : decode cX8_meet 61 = .ok (.iload_n 2, 1) := by decide +kernel
theorem dX8_meet_62 : decode cX8_meet 62 = .ok (.iload 5, 2) := by decide +kernel
theorem dX8_meet_64 : decode cX8_meet 64 = .ok (.invokevirtual 207, 3) := by decide +kernel
theorem dX8_meet_67 : decode cX8_meet 67 = .ok (.ifCond .lt 10, 3) := by decide +kernel
theorem dX8_meet_70 : decode cX8_meet 70 = .ok (.iload_n 3, 1) := by decide +kernel
theorem dX8_meet_71 : decode cX8_meet 71 = .ok (.iconst 1, 1) := by decide +kernel
theorem dX8_meet_72 : decode cX8_meet 72 = .ok (.iload 5, 2) := by decide +kernel
theorem dX8_meet_74 : decode cX8_meet 74 = .ok (.ishl, 1) := by decide +kernel
theorem dX8_meet_75 : decode cX8_meet 75 = .ok (.ior, 1) := by decide +kernel
theorem dX8_meet_76 : decode cX8_meet 76 = .ok (.istore_n 3, 1) := by decide +kernel
theorem dX8_meet_77 : decode cX8_meet 77 = .ok (.iinc 4 1, 3) := by decide +kernel
theorem dX8_meet_80 : decode cX8_meet 80 = .ok (.goto (-51), 3) := by decide +kernel
theorem dX8_meet_83 : decode cX8_meet 83 = .ok (.iload_n 3, 1) := by decide +kernel
theorem dX8_meet_84 : decode cX8_meet 84 = .ok (.ireturn, 1) := by decide +kernel
theorem dX8_spell_0 : decode cX8_spell 0 = .ok (.iload_n 1, 1) := by decide +kernel
theorem dX8_spell_1 : decode cX8_spell 1 = .ok (.iload_n 2, 1) := by decide +kernel
theorem dX8_spell_2 : decode cX8_spell 2 = .ok (.iload_n 3, 1) := by decide +kernel
theorem dX8_spell_3 : decode cX8_spell 3 = .ok (.iload 4, 2) := by decide +kernel
theorem dX8_spell_5 : decode cX8_spell 5 = .ok (.invokestatic 147, 3) := by decide +kernel
theorem dX8_spell_8 : decode cX8_spell 8 = .ok (.istore 5, 2) := by decide +kernel
theorem dX8_spell_10 : decode cX8_spell 10 = .ok (.iload 5, 2) := by decide +kernel
theorem dX8_spell_12 : decode cX8_spell 12 = .ok (.ifCond .eq 6, 3) := by decide +kernel
theorem dX8_spell_15 : decode cX8_spell 15 = .ok (.iload 5, 2) := by decide +kernel
theorem dX8_spell_17 : decode cX8_spell 17 = .ok (.ireturn, 1) := by decide +kernel
theorem dX8_spell_18 : decode cX8_spell 18 = .ok (.aload_n 0, 1) := by decide +kernel
theorem dX8_spell_19 : decode cX8_spell 19 = .ok (.getfield 36, 3) := by decide +kernel
theorem dX8_spell_22 : decode cX8_spell 22 = .ok (.iload_n 1, 1) := by decide +kernel
theorem dX8_spell_23 : decode cX8_spell 23 = .ok (.iload_n 2, 1) := by decide +kernel
theorem dX8_spell_24 : decode cX8_spell 24 = .ok (.iload_n 3, 1) := by decide +kernel
theorem dX8_spell_25 : decode cX8_spell 25 = .ok (.iload 4, 2) := by decide +kernel
theorem dX8_spell_27 : decode cX8_spell 27 = .ok (.invokevirtual 163, 3) := by decide +kernel
theorem dX8_spell_30 : decode cX8_spell 30 = .ok (.ifCond .ne 6, 3) := by decide +kernel
theorem dX8_spell_33 : decode cX8_spell 33 = .ok (.bipush (-5), 2) := by decide +kernel
theorem dX8_spell_35 : decode cX8_spell 35 = .ok (.ireturn, 1) := by decide +kernel
theorem dX8_spell_36 : decode cX8_spell 36 = .ok (.aload_n 0, 1) := by decide +kernel
theorem dX8_spell_37 : decode cX8_spell 37 = .ok (.getfield 36, 3) := by decide +kernel
theorem dX8_spell_40 : decode cX8_spell 40 = .ok (.aload_n 0, 1) := by decide +kernel
theorem dX8_spell_41 : decode cX8_spell 41 = .ok (.getfield 56, 3) := by decide +kernel
theorem dX8_spell_44 : decode cX8_spell 44 = .ok (.invokevirtual 210, 3) := by decide +kernel
theorem dX8_spell_47 : decode cX8_spell 47 = .ok (.aload_n 0, 1) := by decide +kernel
theorem dX8_spell_48 : decode cX8_spell 48 = .ok (.getfield 56, 3) := by decide +kernel
theorem dX8_spell_51 : decode cX8_spell 51 = .ok (.getfield 79, 3) := by decide +kernel
theorem dX8_spell_54 : decode cX8_spell 54 = .ok (.ireturn, 1) := by decide +kernel
theorem dX8_paper_0 : decode cX8_paper 0 = .ok (.iload_n 1, 1) := by decide +kernel
theorem dX8_paper_1 : decode cX8_paper 1 = .ok (.ifCond .lt 14, 3) := by decide +kernel
theorem dX8_paper_4 : decode cX8_paper 4 = .ok (.iload_n 1, 1) := by decide +kernel
theorem dX8_paper_5 : decode cX8_paper 5 = .ok (.aload_n 0, 1) := by decide +kernel
theorem dX8_paper_6 : decode cX8_paper 6 = .ok (.getfield 56, 3) := by decide +kernel
theorem dX8_paper_9 : decode cX8_paper 9 = .ok (.getfield 79, 3) := by decide +kernel
theorem dX8_paper_12 : decode cX8_paper 12 = .ok (.if_icmp .lt 5, 3) := by decide +kernel
theorem dX8_paper_15 : decode cX8_paper 15 = .ok (.iconst (-1), 1) := by decide +kernel
theorem dX8_paper_16 : decode cX8_paper 16 = .ok (.ireturn, 1) := by decide +kernel
theorem dX8_paper_17 : decode cX8_paper 17 = .ok (.aload_n 0, 1) := by decide +kernel
theorem dX8_paper_18 : decode cX8_paper 18 = .ok (.getfield 56, 3) := by decide +kernel
theorem dX8_paper_21 : decode cX8_paper 21 = .ok (.iload_n 1, 1) := by decide +kernel
theorem dX8_paper_22 : decode cX8_paper 22 = .ok (.invokevirtual 214, 3) := by decide +kernel
theorem dX8_paper_25 : decode cX8_paper 25 = .ok (.ireturn, 1) := by decide +kernel
theorem dX8_told_0 : decode cX8_told 0 = .ok (.iload_n 1, 1) := by decide +kernel
theorem dX8_told_1 : decode cX8_told 1 = .ok (.tableswitch 99 0 6 #[43, 51, 59, 67, 75, 83, 91], 43) := by decide +kernel
theorem dX8_told_44 : decode cX8_told 44 = .ok (.aload_n 0, 1) := by decide +kernel
theorem dX8_told_45 : decode cX8_told 45 = .ok (.getfield 10, 3) := by decide +kernel
theorem dX8_told_48 : decode cX8_told 48 = .ok (.getfield 184, 3) := by decide +kernel
theorem dX8_told_51 : decode cX8_told 51 = .ok (.ireturn, 1) := by decide +kernel
theorem dX8_told_52 : decode cX8_told 52 = .ok (.aload_n 0, 1) := by decide +kernel
theorem dX8_told_53 : decode cX8_told 53 = .ok (.getfield 10, 3) := by decide +kernel
theorem dX8_told_56 : decode cX8_told 56 = .ok (.invokevirtual 217, 3) := by decide +kernel
theorem dX8_told_59 : decode cX8_told 59 = .ok (.ireturn, 1) := by decide +kernel
theorem dX8_told_60 : decode cX8_told 60 = .ok (.aload_n 0, 1) := by decide +kernel
theorem dX8_told_61 : decode cX8_told 61 = .ok (.getfield 10, 3) := by decide +kernel
theorem dX8_told_64 : decode cX8_told 64 = .ok (.invokevirtual 220, 3) := by decide +kernel
theorem dX8_told_67 : decode cX8_told 67 = .ok (.ireturn, 1) := by decide +kernel
theorem dX8_told_68 : decode cX8_told 68 = .ok (.aload_n 0, 1) := by decide +kernel
theorem dX8_told_69 : decode cX8_told 69 = .ok (.getfield 10, 3) := by decide +kernel
theorem dX8_told_72 : decode cX8_told 72 = .ok (.invokevirtual 223, 3) := by decide +kernel
theorem dX8_told_75 : decode cX8_told 75 = .ok (.ireturn, 1) := by decide +kernel
theorem dX8_told_76 : decode cX8_told 76 = .ok (.aload_n 0, 1) := by decide +kernel
theorem dX8_told_77 : decode cX8_told 77 = .ok (.getfield 10, 3) := by decide +kernel
theorem dX8_told_80 : decode cX8_told 80 = .ok (.invokevirtual 226, 3) := by decide +kernel
theorem dX8_told_83 : decode cX8_told 83 = .ok (.ireturn, 1) := by decide +kernel
theorem dX8_told_84 : decode cX8_told 84 = .ok (.aload_n 0, 1) := by decide +kernel
theorem dX8_told_85 : decode cX8_told 85 = .ok (.getfield 52, 3) := by decide +kernel
theorem dX8_told_88 : decode cX8_told 88 = .ok (.getfield 79, 3) := by decide +kernel
theorem dX8_told_91 : decode cX8_told 91 = .ok (.ireturn, 1) := by decide +kernel
theorem dX8_told_92 : decode cX8_told 92 = .ok (.aload_n 0, 1) := by decide +kernel
theorem dX8_told_93 : decode cX8_told 93 = .ok (.getfield 56, 3) := by decide +kernel
theorem dX8_told_96 : decode cX8_told 96 = .ok (.getfield 79, 3) := by decide +kernel
theorem dX8_told_99 : decode cX8_told 99 = .ok (.ireturn, 1) := by decide +kernel
theorem dX8_told_100 : decode cX8_told 100 = .ok (.iconst (-1), 1) := by decide +kernel
theorem dX8_told_101 : decode cX8_told 101 = .ok (.ireturn, 1) := by decide +kernel
theorem dX8_list_0 : decode cX8_list 0 = .ok (.iload_n 1, 1) := by decide +kernel
theorem dX8_list_1 : decode cX8_list 1 = .ok (.invokestatic 229, 3) := by decide +kernel
theorem dX8_list_4 : decode cX8_list 4 = .ok (.ifCond .ne 5, 3) := by decide +kernel
theorem dX8_list_7 : decode cX8_list 7 = .ok (.iconst (-1), 1) := by decide +kernel
theorem dX8_list_8 : decode cX8_list 8 = .ok (.ireturn, 1) := by decide +kernel
theorem dX8_list_9 : decode cX8_list 9 = .ok (.iload_n 2, 1) := by decide +kernel
theorem dX8_list_10 : decode cX8_list 10 = .ok (.bipush 20, 2) := by decide +kernel
theorem dX8_list_12 : decode cX8_list 12 = .ok (.if_icmp .le 6, 3) := by decide +kernel
theorem dX8_list_15 : decode cX8_list 15 = .ok (.bipush (-2), 2) := by decide +kernel
theorem dX8_list_17 : decode cX8_list 17 = .ok (.ireturn, 1) := by decide +kernel
theorem dX8_list_18 : decode cX8_list 18 = .ok (.iload_n 2, 1) := by decide +kernel
theorem dX8_list_19 : decode cX8_list 19 = .ok (.ifCond .ge 6, 3) := by decide +kernel
theorem dX8_list_22 : decode cX8_list 22 = .ok (.bipush (-14), 2) := by decide +kernel
theorem dX8_list_24 : decode cX8_list 24 = .ok (.ireturn, 1) := by decide +kernel
theorem dX8_list_25 : decode cX8_list 25 = .ok (.aload_n 0, 1) := by decide +kernel
theorem dX8_list_26 : decode cX8_list 26 = .ok (.getfield 71, 3) := by decide +kernel
theorem dX8_list_29 : decode cX8_list 29 = .ok (.iload_n 1, 1) := by decide +kernel
theorem dX8_list_30 : decode cX8_list 30 = .ok (.iload_n 2, 1) := by decide +kernel
theorem dX8_list_31 : decode cX8_list 31 = .ok (.invokevirtual 232, 3) := by decide +kernel
theorem dX8_list_34 : decode cX8_list 34 = .ok (.iconst 1, 1) := by decide +kernel
theorem dX8_list_35 : decode cX8_list 35 = .ok (.ireturn, 1) := by decide +kernel
theorem dX8_set_0 : decode cX8_set 0 = .ok (.iload_n 1, 1) := by decide +kernel
theorem dX8_set_1 : decode cX8_set 1 = .ok (.invokestatic 229, 3) := by decide +kernel
theorem dX8_set_4 : decode cX8_set 4 = .ok (.ifCond .ne 5, 3) := by decide +kernel
theorem dX8_set_7 : decode cX8_set 7 = .ok (.iconst (-1), 1) := by decide +kernel
theorem dX8_set_8 : decode cX8_set 8 = .ok (.ireturn, 1) := by decide +kernel
theorem dX8_set_9 : decode cX8_set 9 = .ok (.aload_n 0, 1) := by decide +kernel
theorem dX8_set_10 : decode cX8_set 10 = .ok (.getfield 71, 3) := by decide +kernel
theorem dX8_set_13 : decode cX8_set 13 = .ok (.iload_n 1, 1) := by decide +kernel
theorem dX8_set_14 : decode cX8_set 14 = .ok (.invokevirtual 235, 3) := by decide +kernel
theorem dX8_set_17 : decode cX8_set 17 = .ok (.ifCond .ne 6, 3) := by decide +kernel
theorem dX8_set_20 : decode cX8_set 20 = .ok (.bipush (-11), 2) := by decide +kernel
theorem dX8_set_22 : decode cX8_set 22 = .ok (.ireturn, 1) := by decide +kernel
theorem dX8_set_23 : decode cX8_set 23 = .ok (.aload_n 0, 1) := by decide +kernel
theorem dX8_set_24 : decode cX8_set 24 = .ok (.getfield 71, 3) := by decide +kernel
theorem dX8_set_27 : decode cX8_set 27 = .ok (.iload_n 1, 1) := by decide +kernel
theorem dX8_set_28 : decode cX8_set 28 = .ok (.iload_n 2, 1) := by decide +kernel
theorem dX8_set_29 : decode cX8_set 29 = .ok (.invokevirtual 238, 3) := by decide +kernel
theorem dX8_set_32 : decode cX8_set 32 = .ok (.ifCond .ne 6, 3) := by decide +kernel
theorem dX8_set_35 : decode cX8_set 35 = .ok (.bipush (-13), 2) := by decide +kernel
theorem dX8_set_37 : decode cX8_set 37 = .ok (.ireturn, 1) := by decide +kernel
theorem dX8_set_38 : decode cX8_set 38 = .ok (.aload_n 0, 1) := by decide +kernel
theorem dX8_set_39 : decode cX8_set 39 = .ok (.getfield 71, 3) := by decide +kernel
theorem dX8_set_42 : decode cX8_set 42 = .ok (.getfield 239, 3) := by decide +kernel
theorem dX8_set_45 : decode cX8_set 45 = .ok (.iload_n 1, 1) := by decide +kernel
theorem dX8_set_46 : decode cX8_set 46 = .ok (.aaload, 1) := by decide +kernel
theorem dX8_set_47 : decode cX8_set 47 = .ok (.iload_n 2, 1) := by decide +kernel
theorem dX8_set_48 : decode cX8_set 48 = .ok (.iload_n 3, 1) := by decide +kernel
theorem dX8_set_49 : decode cX8_set 49 = .ok (.iastore, 1) := by decide +kernel
theorem dX8_set_50 : decode cX8_set 50 = .ok (.iconst 1, 1) := by decide +kernel
theorem dX8_set_51 : decode cX8_set 51 = .ok (.ireturn, 1) := by decide +kernel
theorem dX8_get_0 : decode cX8_get 0 = .ok (.aload_n 0, 1) := by decide +kernel
theorem dX8_get_1 : decode cX8_get 1 = .ok (.getfield 71, 3) := by decide +kernel
theorem dX8_get_4 : decode cX8_get 4 = .ok (.iload_n 1, 1) := by decide +kernel
theorem dX8_get_5 : decode cX8_get 5 = .ok (.iload_n 2, 1) := by decide +kernel
theorem dX8_get_6 : decode cX8_get 6 = .ok (.invokevirtual 238, 3) := by decide +kernel
theorem dX8_get_9 : decode cX8_get 9 = .ok (.ifCond .ne 6, 3) := by decide +kernel
theorem dX8_get_12 : decode cX8_get 12 = .ok (.ldc 242, 2) := by decide +kernel
theorem dX8_get_14 : decode cX8_get 14 = .ok (.ireturn, 1) := by decide +kernel
theorem dX8_get_15 : decode cX8_get 15 = .ok (.aload_n 0, 1) := by decide +kernel
theorem dX8_get_16 : decode cX8_get 16 = .ok (.getfield 71, 3) := by decide +kernel
theorem dX8_get_19 : decode cX8_get 19 = .ok (.getfield 239, 3) := by decide +kernel
theorem dX8_get_22 : decode cX8_get 22 = .ok (.iload_n 1, 1) := by decide +kernel
theorem dX8_get_23 : decode cX8_get 23 = .ok (.aaload, 1) := by decide +kernel
theorem dX8_get_24 : decode cX8_get 24 = .ok (.iload_n 2, 1) := by decide +kernel
theorem dX8_get_25 : decode cX8_get 25 = .ok (.iaload, 1) := by decide +kernel
theorem dX8_get_26 : decode cX8_get 26 = .ok (.ireturn, 1) := by decide +kernel
theorem dX8_lay_0 : decode cX8_lay 0 = .ok (.aload_n 0, 1) := by decide +kernel
theorem dX8_lay_1 : decode cX8_lay 1 = .ok (.iload_n 1, 1) := by decide +kernel
theorem dX8_lay_2 : decode cX8_lay 2 = .ok (.iload_n 3, 1) := by decide +kernel
theorem dX8_lay_3 : decode cX8_lay 3 = .ok (.iload 4, 2) := by decide +kernel
theorem dX8_lay_5 : decode cX8_lay 5 = .ok (.iload 5, 2) := by decide +kernel
theorem dX8_lay_7 : decode cX8_lay 7 = .ok (.invokevirtual 243, 3) := by decide +kernel
theorem dX8_lay_10 : decode cX8_lay 10 = .ok (.istore 6, 2) := by decide +kernel
theorem dX8_lay_12 : decode cX8_lay 12 = .ok (.iload 6, 2) := by decide +kernel
theorem dX8_lay_14 : decode cX8_lay 14 = .ok (.ifCond .eq 6, 3) := by decide +kernel
theorem dX8_lay_17 : decode cX8_lay 17 = .ok (.iload 6, 2) := by decide +kernel
theorem dX8_lay_19 : decode cX8_lay 19 = .ok (.ireturn, 1) := by decide +kernel
theorem dX8_lay_20 : decode cX8_lay 20 = .ok (.aload_n 0, 1) := by decide +kernel
theorem dX8_lay_21 : decode cX8_lay 21 = .ok (.getfield 27, 3) := by decide +kernel
theorem dX8_lay_24 : decode cX8_lay 24 = .ok (.iload_n 3, 1) := by decide +kernel
theorem dX8_lay_25 : decode cX8_lay 25 = .ok (.iload 4, 2) := by decide +kernel
theorem dX8_lay_27 : decode cX8_lay 27 = .ok (.iload 5, 2) := by decide +kernel
theorem dX8_lay_29 : decode cX8_lay 29 = .ok (.invokevirtual 157, 3) := by decide +kernel
theorem dX8_lay_32 : decode cX8_lay 32 = .ok (.iconst 0, 1) := by decide +kernel
theorem dX8_lay_33 : decode cX8_lay 33 = .ok (.istore 7, 2) := by decide +kernel
theorem dX8_lay_35 : decode cX8_lay 35 = .ok (.iload 7, 2) := by decide +kernel
theorem dX8_lay_37 : decode cX8_lay 37 = .ok (.bipush 12, 2) := by decide +kernel
theorem dX8_lay_39 : decode cX8_lay 39 = .ok (.if_icmp .ge 45, 3) := by decide +kernel
theorem dX8_lay_42 : decode cX8_lay 42 = .ok (.aload_n 0, 1) := by decide +kernel
theorem dX8_lay_43 : decode cX8_lay 43 = .ok (.getfield 71, 3) := by decide +kernel
theorem dX8_lay_46 : decode cX8_lay 46 = .ok (.iload_n 1, 1) := by decide +kernel
theorem dX8_lay_47 : decode cX8_lay 47 = .ok (.iload_n 2, 1) := by decide +kernel
theorem dX8_lay_48 : decode cX8_lay 48 = .ok (.iload 7, 2) := by decide +kernel
theorem dX8_lay_50 : decode cX8_lay 50 = .ok (.invokevirtual 246, 3) := by decide +kernel
theorem dX8_lay_53 : decode cX8_lay 53 = .ok (.ifCond .eq 31, 3) := by decide +kernel
theorem dX8_lay_56 : decode cX8_lay 56 = .ok (.aload_n 0, 1) := by decide +kernel
theorem dX8_lay_57 : decode cX8_lay 57 = .ok (.getfield 71, 3) := by decide +kernel
theorem dX8_lay_60 : decode cX8_lay 60 = .ok (.getfield 239, 3) := by decide +kernel
theorem dX8_lay_63 : decode cX8_lay 63 = .ok (.iload_n 1, 1) := by decide +kernel
theorem dX8_lay_64 : decode cX8_lay 64 = .ok (.aaload, 1) := by decide +kernel
theorem dX8_lay_65 : decode cX8_lay 65 = .ok (.iload_n 2, 1) := by decide +kernel
theorem dX8_lay_66 : decode cX8_lay 66 = .ok (.iload 7, 2) := by decide +kernel
theorem dX8_lay_68 : decode cX8_lay 68 = .ok (.iadd, 1) := by decide +kernel
theorem dX8_lay_69 : decode cX8_lay 69 = .ok (.aload_n 0, 1) := by decide +kernel
theorem dX8_lay_70 : decode cX8_lay 70 = .ok (.iload 5, 2) := by decide +kernel
theorem dX8_lay_72 : decode cX8_lay 72 = .ok (.iload 7, 2) := by decide +kernel
theorem dX8_lay_74 : decode cX8_lay 74 = .ok (.invokevirtual 250, 3) := by decide +kernel
theorem dX8_lay_77 : decode cX8_lay 77 = .ok (.iastore, 1) := by decide +kernel
theorem dX8_lay_78 : decode cX8_lay 78 = .ok (.iinc 7 1, 3) := by decide +kernel
theorem dX8_lay_81 : decode cX8_lay 81 = .ok (.goto (-46), 3) := by decide +kernel
theorem dX8_lay_84 : decode cX8_lay 84 = .ok (.iload 7, 2) := by decide +kernel
theorem dX8_lay_86 : decode cX8_lay 86 = .ok (.bipush 12, 2) := by decide +kernel
theorem dX8_lay_88 : decode cX8_lay 88 = .ok (.if_icmp .ge 8, 3) := by decide +kernel
theorem dX8_lay_91 : decode cX8_lay 91 = .ok (.bipush (-13), 2) := by decide +kernel
theorem dX8_lay_93 : decode cX8_lay 93 = .ok (.goto 5, 3) := by decide +kernel
theorem dX8_lay_96 : decode cX8_lay 96 = .ok (.iload 7, 2) := by decide +kernel
theorem dX8_lay_98 : decode cX8_lay 98 = .ok (.ireturn, 1) := by decide +kernel
theorem dX8_judge_0 : decode cX8_judge 0 = .ok (.aload_n 0, 1) := by decide +kernel
theorem dX8_judge_1 : decode cX8_judge 1 = .ok (.iload_n 1, 1) := by decide +kernel
theorem dX8_judge_2 : decode cX8_judge 2 = .ok (.iload_n 3, 1) := by decide +kernel
theorem dX8_judge_3 : decode cX8_judge 3 = .ok (.iload 4, 2) := by decide +kernel
theorem dX8_judge_5 : decode cX8_judge 5 = .ok (.iload 5, 2) := by decide +kernel
theorem dX8_judge_7 : decode cX8_judge 7 = .ok (.invokevirtual 243, 3) := by decide +kernel
theorem dX8_judge_10 : decode cX8_judge 10 = .ok (.istore 6, 2) := by decide +kernel
theorem dX8_judge_12 : decode cX8_judge 12 = .ok (.iload 6, 2) := by decide +kernel
theorem dX8_judge_14 : decode cX8_judge 14 = .ok (.ifCond .eq 6, 3) := by decide +kernel
theorem dX8_judge_17 : decode cX8_judge 17 = .ok (.iload 6, 2) := by decide +kernel
theorem dX8_judge_19 : decode cX8_judge 19 = .ok (.ireturn, 1) := by decide +kernel
theorem dX8_judge_20 : decode cX8_judge 20 = .ok (.aload_n 0, 1) := by decide +kernel
theorem dX8_judge_21 : decode cX8_judge 21 = .ok (.getfield 27, 3) := by decide +kernel
theorem dX8_judge_24 : decode cX8_judge 24 = .ok (.iload_n 3, 1) := by decide +kernel
theorem dX8_judge_25 : decode cX8_judge 25 = .ok (.iload 4, 2) := by decide +kernel
theorem dX8_judge_27 : decode cX8_judge 27 = .ok (.iload 5, 2) := by decide +kernel
theorem dX8_judge_29 : decode cX8_judge 29 = .ok (.invokevirtual 157, 3) := by decide +kernel
theorem dX8_judge_32 : decode cX8_judge 32 = .ok (.iconst 0, 1) := by decide +kernel
theorem dX8_judge_33 : decode cX8_judge 33 = .ok (.istore 7, 2) := by decide +kernel
theorem dX8_judge_35 : decode cX8_judge 35 = .ok (.iload 7, 2) := by decide +kernel
theorem dX8_judge_37 : decode cX8_judge 37 = .ok (.bipush 12, 2) := by decide +kernel
theorem dX8_judge_39 : decode cX8_judge 39 = .ok (.if_icmp .ge 57, 3) := by decide +kernel
theorem dX8_judge_42 : decode cX8_judge 42 = .ok (.aload_n 0, 1) := by decide +kernel
theorem dX8_judge_43 : decode cX8_judge 43 = .ok (.getfield 71, 3) := by decide +kernel
theorem dX8_judge_46 : decode cX8_judge 46 = .ok (.iload_n 1, 1) := by decide +kernel
theorem dX8_judge_47 : decode cX8_judge 47 = .ok (.iload_n 2, 1) := by decide +kernel
theorem dX8_judge_48 : decode cX8_judge 48 = .ok (.iload 7, 2) := by decide +kernel
theorem dX8_judge_50 : decode cX8_judge 50 = .ok (.invokevirtual 246, 3) := by decide +kernel
theorem dX8_judge_53 : decode cX8_judge 53 = .ok (.ifCond .ne 9, 3) := by decide +kernel
theorem dX8_judge_56 : decode cX8_judge 56 = .ok (.bipush 100, 2) := by decide +kernel
theorem dX8_judge_58 : decode cX8_judge 58 = .ok (.iload 7, 2) := by decide +kernel
theorem dX8_judge_60 : decode cX8_judge 60 = .ok (.iadd, 1) := by decide +kernel
theorem dX8_judge_61 : decode cX8_judge 61 = .ok (.ireturn, 1) := by decide +kernel
theorem dX8_judge_62 : decode cX8_judge 62 = .ok (.aload_n 0, 1) := by decide +kernel
theorem dX8_judge_63 : decode cX8_judge 63 = .ok (.getfield 71, 3) := by decide +kernel
theorem dX8_judge_66 : decode cX8_judge 66 = .ok (.getfield 239, 3) := by decide +kernel
theorem dX8_judge_69 : decode cX8_judge 69 = .ok (.iload_n 1, 1) := by decide +kernel
theorem dX8_judge_70 : decode cX8_judge 70 = .ok (.aaload, 1) := by decide +kernel
theorem dX8_judge_71 : decode cX8_judge 71 = .ok (.iload_n 2, 1) := by decide +kernel
theorem dX8_judge_72 : decode cX8_judge 72 = .ok (.iload 7, 2) := by decide +kernel
theorem dX8_judge_74 : decode cX8_judge 74 = .ok (.iadd, 1) := by decide +kernel
theorem dX8_judge_75 : decode cX8_judge 75 = .ok (.iaload, 1) := by decide +kernel
theorem dX8_judge_76 : decode cX8_judge 76 = .ok (.aload_n 0, 1) := by decide +kernel
theorem dX8_judge_77 : decode cX8_judge 77 = .ok (.iload 5, 2) := by decide +kernel
theorem dX8_judge_79 : decode cX8_judge 79 = .ok (.iload 7, 2) := by decide +kernel
theorem dX8_judge_81 : decode cX8_judge 81 = .ok (.invokevirtual 250, 3) := by decide +kernel
theorem dX8_judge_84 : decode cX8_judge 84 = .ok (.if_icmp .eq 6, 3) := by decide +kernel
theorem dX8_judge_87 : decode cX8_judge 87 = .ok (.iload 7, 2) := by decide +kernel
theorem dX8_judge_89 : decode cX8_judge 89 = .ok (.ireturn, 1) := by decide +kernel
theorem dX8_judge_90 : decode cX8_judge 90 = .ok (.iinc 7 1, 3) := by decide +kernel
theorem dX8_judge_93 : decode cX8_judge 93 = .ok (.goto (-58), 3) := by decide +kernel
theorem dX8_judge_96 : decode cX8_judge 96 = .ok (.bipush (-5), 2) := by decide +kernel
theorem dX8_judge_98 : decode cX8_judge 98 = .ok (.ireturn, 1) := by decide +kernel
theorem dX8_listRefusal_0 : decode cX8_listRefusal 0 = .ok (.iload_n 1, 1) := by decide +kernel
theorem dX8_listRefusal_1 : decode cX8_listRefusal 1 = .ok (.invokestatic 229, 3) := by decide +kernel
theorem dX8_listRefusal_4 : decode cX8_listRefusal 4 = .ok (.ifCond .eq 10, 3) := by decide +kernel
theorem dX8_listRefusal_7 : decode cX8_listRefusal 7 = .ok (.iload_n 2, 1) := by decide +kernel
theorem dX8_listRefusal_8 : decode cX8_listRefusal 8 = .ok (.invokestatic 129, 3) := by decide +kernel
theorem dX8_listRefusal_11 : decode cX8_listRefusal 11 = .ok (.ifCond .ne 5, 3) := by decide +kernel
theorem dX8_listRefusal_14 : decode cX8_listRefusal 14 = .ok (.iconst (-1), 1) := by decide +kernel
theorem dX8_listRefusal_15 : decode cX8_listRefusal 15 = .ok (.ireturn, 1) := by decide +kernel
theorem dX8_listRefusal_16 : decode cX8_listRefusal 16 = .ok (.iload_n 3, 1) := by decide +kernel
theorem dX8_listRefusal_17 : decode cX8_listRefusal 17 = .ok (.invokestatic 178, 3) := by decide +kernel
theorem dX8_listRefusal_20 : decode cX8_listRefusal 20 = .ok (.ifCond .eq 11, 3) := by decide +kernel
theorem dX8_listRefusal_23 : decode cX8_listRefusal 23 = .ok (.iload 4, 2) := by decide +kernel
theorem dX8_listRefusal_25 : decode cX8_listRefusal 25 = .ok (.invokestatic 181, 3) := by decide +kernel
theorem dX8_listRefusal_28 : decode cX8_listRefusal 28 = .ok (.ifCond .ne 6, 3) := by decide +kernel
theorem dX8_listRefusal_31 : decode cX8_listRefusal 31 = .ok (.bipush (-2), 2) := by decide +kernel
theorem dX8_listRefusal_33 : decode cX8_listRefusal 33 = .ok (.ireturn, 1) := by decide +kernel
theorem dX8_listRefusal_34 : decode cX8_listRefusal 34 = .ok (.aload_n 0, 1) := by decide +kernel
theorem dX8_listRefusal_35 : decode cX8_listRefusal 35 = .ok (.getfield 71, 3) := by decide +kernel
theorem dX8_listRefusal_38 : decode cX8_listRefusal 38 = .ok (.iload_n 1, 1) := by decide +kernel
theorem dX8_listRefusal_39 : decode cX8_listRefusal 39 = .ok (.invokevirtual 235, 3) := by decide +kernel
theorem dX8_listRefusal_42 : decode cX8_listRefusal 42 = .ok (.ifCond .eq 7, 3) := by decide +kernel
theorem dX8_listRefusal_45 : decode cX8_listRefusal 45 = .ok (.iconst 0, 1) := by decide +kernel
theorem dX8_listRefusal_46 : decode cX8_listRefusal 46 = .ok (.goto 5, 3) := by decide +kernel
theorem dX8_listRefusal_49 : decode cX8_listRefusal 49 = .ok (.bipush (-11), 2) := by decide +kernel
theorem dX8_listRefusal_51 : decode cX8_listRefusal 51 = .ok (.ireturn, 1) := by decide +kernel
theorem dX8_toldArrival_0 : decode cX8_toldArrival 0 = .ok (.aload_n 0, 1) := by decide +kernel
theorem dX8_toldArrival_1 : decode cX8_toldArrival 1 = .ok (.getfield 27, 3) := by decide +kernel
theorem dX8_toldArrival_4 : decode cX8_toldArrival 4 = .ok (.getfield 160, 3) := by decide +kernel
theorem dX8_toldArrival_7 : decode cX8_toldArrival 7 = .ok (.iload_n 1, 1) := by decide +kernel
theorem dX8_toldArrival_8 : decode cX8_toldArrival 8 = .ok (.aaload, 1) := by decide +kernel
theorem dX8_toldArrival_9 : decode cX8_toldArrival 9 = .ok (.iload_n 2, 1) := by decide +kernel
theorem dX8_toldArrival_10 : decode cX8_toldArrival 10 = .ok (.iaload, 1) := by decide +kernel
theorem dX8_toldArrival_11 : decode cX8_toldArrival 11 = .ok (.istore_n 3, 1) := by decide +kernel
theorem dX8_toldArrival_12 : decode cX8_toldArrival 12 = .ok (.iload_n 3, 1) := by decide +kernel
theorem dX8_toldArrival_13 : decode cX8_toldArrival 13 = .ok (.sipush 10000, 3) := by decide +kernel
theorem dX8_toldArrival_16 : decode cX8_toldArrival 16 = .ok (.if_icmp .ne 7, 3) := by decide +kernel
theorem dX8_toldArrival_19 : decode cX8_toldArrival 19 = .ok (.iconst (-1), 1) := by decide +kernel
theorem dX8_toldArrival_20 : decode cX8_toldArrival 20 = .ok (.goto 4, 3) := by decide +kernel
theorem dX8_toldArrival_23 : decode cX8_toldArrival 23 = .ok (.iload_n 3, 1) := by decide +kernel
theorem dX8_toldArrival_24 : decode cX8_toldArrival 24 = .ok (.ireturn, 1) := by decide +kernel
theorem dX8_image_0 : decode cX8_image 0 = .ok (.aload_n 0, 1) := by decide +kernel
theorem dX8_image_1 : decode cX8_image 1 = .ok (.getfield 16, 3) := by decide +kernel
theorem dX8_image_4 : decode cX8_image 4 = .ok (.aload_n 0, 1) := by decide +kernel
theorem dX8_image_5 : decode cX8_image 5 = .ok (.getfield 10, 3) := by decide +kernel
theorem dX8_image_8 : decode cX8_image 8 = .ok (.invokevirtual 86, 3) := by decide +kernel
theorem dX8_image_11 : decode cX8_image 11 = .ok (.aload_n 0, 1) := by decide +kernel
theorem dX8_image_12 : decode cX8_image 12 = .ok (.iconst 1, 1) := by decide +kernel
theorem dX8_image_13 : decode cX8_image 13 = .ok (.putfield 75, 3) := by decide +kernel
theorem dX8_image_16 : decode cX8_image 16 = .ok (.aload_n 0, 1) := by decide +kernel
theorem dX8_image_17 : decode cX8_image 17 = .ok (.getfield 10, 3) := by decide +kernel
theorem dX8_image_20 : decode cX8_image 20 = .ok (.getfield 184, 3) := by decide +kernel
theorem dX8_image_23 : decode cX8_image 23 = .ok (.ireturn, 1) := by decide +kernel
theorem dX8_undo_0 : decode cX8_undo 0 = .ok (.aload_n 0, 1) := by decide +kernel
theorem dX8_undo_1 : decode cX8_undo 1 = .ok (.getfield 75, 3) := by decide +kernel
theorem dX8_undo_4 : decode cX8_undo 4 = .ok (.ifCond .ne 6, 3) := by decide +kernel
theorem dX8_undo_7 : decode cX8_undo 7 = .ok (.bipush (-3), 2) := by decide +kernel
theorem dX8_undo_9 : decode cX8_undo 9 = .ok (.ireturn, 1) := by decide +kernel
theorem dX8_undo_10 : decode cX8_undo 10 = .ok (.aload_n 0, 1) := by decide +kernel
theorem dX8_undo_11 : decode cX8_undo 11 = .ok (.getfield 10, 3) := by decide +kernel
theorem dX8_undo_14 : decode cX8_undo 14 = .ok (.aload_n 0, 1) := by decide +kernel
theorem dX8_undo_15 : decode cX8_undo 15 = .ok (.getfield 16, 3) := by decide +kernel
theorem dX8_undo_18 : decode cX8_undo 18 = .ok (.invokevirtual 86, 3) := by decide +kernel
theorem dX8_undo_21 : decode cX8_undo 21 = .ok (.aload_n 0, 1) := by decide +kernel
theorem dX8_undo_22 : decode cX8_undo 22 = .ok (.getfield 10, 3) := by decide +kernel
theorem dX8_undo_25 : decode cX8_undo 25 = .ok (.getfield 184, 3) := by decide +kernel
theorem dX8_undo_28 : decode cX8_undo 28 = .ok (.ireturn, 1) := by decide +kernel
theorem dX8_isStop_0 : decode cX8_isStop 0 = .ok (.iload_n 0, 1) := by decide +kernel
theorem dX8_isStop_1 : decode cX8_isStop 1 = .ok (.ifCond .lt 13, 3) := by decide +kernel
theorem dX8_isStop_4 : decode cX8_isStop 4 = .ok (.iload_n 0, 1) := by decide +kernel
theorem dX8_isStop_5 : decode cX8_isStop 5 = .ok (.bipush 12, 2) := by decide +kernel
theorem dX8_isStop_7 : decode cX8_isStop 7 = .ok (.if_icmp .ge 7, 3) := by decide +kernel
theorem dX8_isStop_10 : decode cX8_isStop 10 = .ok (.iconst 1, 1) := by decide +kernel
theorem dX8_isStop_11 : decode cX8_isStop 11 = .ok (.goto 4, 3) := by decide +kernel
theorem dX8_isStop_14 : decode cX8_isStop 14 = .ok (.iconst 0, 1) := by decide +kernel
theorem dX8_isStop_15 : decode cX8_isStop 15 = .ok (.ireturn, 1) := by decide +kernel
theorem dX8_isMinute_0 : decode cX8_isMinute 0 = .ok (.iload_n 0, 1) := by decide +kernel
theorem dX8_isMinute_1 : decode cX8_isMinute 1 = .ok (.ifCond .lt 14, 3) := by decide +kernel
theorem dX8_isMinute_4 : decode cX8_isMinute 4 = .ok (.iload_n 0, 1) := by decide +kernel
theorem dX8_isMinute_5 : decode cX8_isMinute 5 = .ok (.sipush 1999, 3) := by decide +kernel
theorem dX8_isMinute_8 : decode cX8_isMinute 8 = .ok (.if_icmp .gt 7, 3) := by decide +kernel
theorem dX8_isMinute_11 : decode cX8_isMinute 11 = .ok (.iconst 1, 1) := by decide +kernel
theorem dX8_isMinute_12 : decode cX8_isMinute 12 = .ok (.goto 4, 3) := by decide +kernel
theorem dX8_isMinute_15 : decode cX8_isMinute 15 = .ok (.iconst 0, 1) := by decide +kernel
theorem dX8_isMinute_16 : decode cX8_isMinute 16 = .ok (.ireturn, 1) := by decide +kernel
theorem dX8_isRides_0 : decode cX8_isRides 0 = .ok (.iload_n 0, 1) := by decide +kernel
theorem dX8_isRides_1 : decode cX8_isRides 1 = .ok (.ifCond .lt 13, 3) := by decide +kernel
theorem dX8_isRides_4 : decode cX8_isRides 4 = .ok (.iload_n 0, 1) := by decide +kernel
theorem dX8_isRides_5 : decode cX8_isRides 5 = .ok (.bipush 6, 2) := by decide +kernel
theorem dX8_isRides_7 : decode cX8_isRides 7 = .ok (.if_icmp .gt 7, 3) := by decide +kernel
theorem dX8_isRides_10 : decode cX8_isRides 10 = .ok (.iconst 1, 1) := by decide +kernel
theorem dX8_isRides_11 : decode cX8_isRides 11 = .ok (.goto 4, 3) := by decide +kernel
theorem dX8_isRides_14 : decode cX8_isRides 14 = .ok (.iconst 0, 1) := by decide +kernel
theorem dX8_isRides_15 : decode cX8_isRides 15 = .ok (.ireturn, 1) := by decide +kernel
theorem dX8_refusal_0 : decode cX8_refusal 0 = .ok (.iload_n 0, 1) := by decide +kernel
theorem dX8_refusal_1 : decode cX8_refusal 1 = .ok (.invokestatic 129, 3) := by decide +kernel
theorem dX8_refusal_4 : decode cX8_refusal 4 = .ok (.ifCond .eq 10, 3) := by decide +kernel
theorem dX8_refusal_7 : decode cX8_refusal 7 = .ok (.iload_n 2, 1) := by decide +kernel
theorem dX8_refusal_8 : decode cX8_refusal 8 = .ok (.invokestatic 129, 3) := by decide +kernel
theorem dX8_refusal_11 : decode cX8_refusal 11 = .ok (.ifCond .ne 5, 3) := by decide +kernel
theorem dX8_refusal_14 : decode cX8_refusal 14 = .ok (.iconst (-1), 1) := by decide +kernel
theorem dX8_refusal_15 : decode cX8_refusal 15 = .ok (.ireturn, 1) := by decide +kernel
theorem dX8_refusal_16 : decode cX8_refusal 16 = .ok (.iload_n 1, 1) := by decide +kernel
theorem dX8_refusal_17 : decode cX8_refusal 17 = .ok (.invokestatic 178, 3) := by decide +kernel
theorem dX8_refusal_20 : decode cX8_refusal 20 = .ok (.ifCond .eq 10, 3) := by decide +kernel
theorem dX8_refusal_23 : decode cX8_refusal 23 = .ok (.iload_n 3, 1) := by decide +kernel
theorem dX8_refusal_24 : decode cX8_refusal 24 = .ok (.invokestatic 181, 3) := by decide +kernel
theorem dX8_refusal_27 : decode cX8_refusal 27 = .ok (.ifCond .ne 6, 3) := by decide +kernel
theorem dX8_refusal_30 : decode cX8_refusal 30 = .ok (.bipush (-2), 2) := by decide +kernel
theorem dX8_refusal_32 : decode cX8_refusal 32 = .ok (.ireturn, 1) := by decide +kernel
theorem dX8_refusal_33 : decode cX8_refusal 33 = .ok (.iconst 0, 1) := by decide +kernel
theorem dX8_refusal_34 : decode cX8_refusal 34 = .ok (.ireturn, 1) := by decide +kernel
theorem dX8_orMissing_0 : decode cX8_orMissing 0 = .ok (.iload_n 0, 1) := by decide +kernel
theorem dX8_orMissing_1 : decode cX8_orMissing 1 = .ok (.sipush 10000, 3) := by decide +kernel
theorem dX8_orMissing_4 : decode cX8_orMissing 4 = .ok (.if_icmp .ne 8, 3) := by decide +kernel
theorem dX8_orMissing_7 : decode cX8_orMissing 7 = .ok (.bipush (-5), 2) := by decide +kernel
theorem dX8_orMissing_9 : decode cX8_orMissing 9 = .ok (.goto 4, 3) := by decide +kernel
theorem dX8_orMissing_12 : decode cX8_orMissing 12 = .ok (.iload_n 0, 1) := by decide +kernel
theorem dX8_orMissing_13 : decode cX8_orMissing 13 = .ok (.ireturn, 1) := by decide +kernel
theorem dX9_init_0 : decode cX9_init 0 = .ok (.aload_n 0, 1) := by decide +kernel
theorem dX9_init_1 : decode cX9_init 1 = .ok (.invokespecial 1, 3) := by decide +kernel
theorem dX9_init_4 : decode cX9_init 4 = .ok (.aload_n 0, 1) := by decide +kernel
theorem dX9_init_5 : decode cX9_init 5 = .ok (.bipush 8, 2) := by decide +kernel
theorem dX9_init_7 : decode cX9_init 7 = .ok (.newarray .int, 2) := by decide +kernel
theorem dX9_init_9 : decode cX9_init 9 = .ok (.putfield 7, 3) := by decide +kernel
theorem dX9_init_12 : decode cX9_init 12 = .ok (.aload_n 0, 1) := by decide +kernel
theorem dX9_init_13 : decode cX9_init 13 = .ok (.bipush 8, 2) := by decide +kernel
theorem dX9_init_15 : decode cX9_init 15 = .ok (.newarray .int, 2) := by decide +kernel
theorem dX9_init_17 : decode cX9_init 17 = .ok (.putfield 13, 3) := by decide +kernel
theorem dX9_init_20 : decode cX9_init 20 = .ok (.aload_n 0, 1) := by decide +kernel
theorem dX9_init_21 : decode cX9_init 21 = .ok (.bipush 48, 2) := by decide +kernel
theorem dX9_init_23 : decode cX9_init 23 = .ok (.newarray .int, 2) := by decide +kernel
theorem dX9_init_25 : decode cX9_init 25 = .ok (.putfield 16, 3) := by decide +kernel
theorem dX9_init_28 : decode cX9_init 28 = .ok (.aload_n 0, 1) := by decide +kernel
theorem dX9_init_29 : decode cX9_init 29 = .ok (.bipush 8, 2) := by decide +kernel
theorem dX9_init_31 : decode cX9_init 31 = .ok (.newarray .int, 2) := by decide +kernel
theorem dX9_init_33 : decode cX9_init 33 = .ok (.putfield 19, 3) := by decide +kernel
theorem dX9_init_36 : decode cX9_init 36 = .ok (.aload_n 0, 1) := by decide +kernel
theorem dX9_init_37 : decode cX9_init 37 = .ok (.bipush 48, 2) := by decide +kernel
theorem dX9_init_39 : decode cX9_init 39 = .ok (.newarray .int, 2) := by decide +kernel
theorem dX9_init_41 : decode cX9_init 41 = .ok (.putfield 22, 3) := by decide +kernel
theorem dX9_init_44 : decode cX9_init 44 = .ok (.aload_n 0, 1) := by decide +kernel
theorem dX9_init_45 : decode cX9_init 45 = .ok (.sipush 288, 3) := by decide +kernel
theorem dX9_init_48 : decode cX9_init 48 = .ok (.newarray .int, 2) := by decide +kernel
theorem dX9_init_50 : decode cX9_init 50 = .ok (.putfield 25, 3) := by decide +kernel
theorem dX9_init_53 : decode cX9_init 53 = .ok (.aload_n 0, 1) := by decide +kernel
theorem dX9_init_54 : decode cX9_init 54 = .ok (.sipush 144, 3) := by decide +kernel
theorem dX9_init_57 : decode cX9_init 57 = .ok (.newarray .int, 2) := by decide +kernel
theorem dX9_init_59 : decode cX9_init 59 = .ok (.putfield 28, 3) := by decide +kernel
theorem dX9_init_62 : decode cX9_init 62 = .ok (.aload_n 0, 1) := by decide +kernel
theorem dX9_init_63 : decode cX9_init 63 = .ok (.iconst (-1), 1) := by decide +kernel
theorem dX9_init_64 : decode cX9_init 64 = .ok (.putfield 31, 3) := by decide +kernel
theorem dX9_init_67 : decode cX9_init 67 = .ok (.aload_n 0, 1) := by decide +kernel
theorem dX9_init_68 : decode cX9_init 68 = .ok (.iconst (-1), 1) := by decide +kernel
theorem dX9_init_69 : decode cX9_init 69 = .ok (.putfield 35, 3) := by decide +kernel
theorem dX9_init_72 : decode cX9_init 72 = .ok (.aload_n 0, 1) := by decide +kernel
theorem dX9_init_73 : decode cX9_init 73 = .ok (.bipush 84, 2) := by decide +kernel
theorem dX9_init_75 : decode cX9_init 75 = .ok (.newarray .int, 2) := by decide +kernel
theorem dX9_init_77 : decode cX9_init 77 = .ok (.putfield 38, 3) := by decide +kernel
theorem dX9_init_80 : decode cX9_init 80 = .ok (.aload_n 0, 1) := by decide +kernel
theorem dX9_init_81 : decode cX9_init 81 = .ok (.bipush 84, 2) := by decide +kernel
theorem dX9_init_83 : decode cX9_init 83 = .ok (.newarray .int, 2) := by decide +kernel
theorem dX9_init_85 : decode cX9_init 85 = .ok (.putfield 41, 3) := by decide +kernel
theorem dX9_init_88 : decode cX9_init 88 = .ok (.aload_n 0, 1) := by decide +kernel
theorem dX9_init_89 : decode cX9_init 89 = .ok (.bipush 16, 2) := by decide +kernel
theorem dX9_init_91 : decode cX9_init 91 = .ok (.newarray .int, 2) := by decide +kernel
theorem dX9_init_93 : decode cX9_init 93 = .ok (.putfield 44, 3) := by decide +kernel
theorem dX9_init_96 : decode cX9_init 96 = .ok (.aload_n 0, 1) := by decide +kernel
theorem dX9_init_97 : decode cX9_init 97 = .ok (.bipush 16, 2) := by decide +kernel
theorem dX9_init_99 : decode cX9_init 99 = .ok (.newarray .int, 2) := by decide +kernel
theorem dX9_init_101 : decode cX9_init 101 = .ok (.putfield 47, 3) := by decide +kernel
theorem dX9_init_104 : decode cX9_init 104 = .ok (.aload_n 0, 1) := by decide +kernel
theorem dX9_init_105 : decode cX9_init 105 = .ok (.bipush 16, 2) := by decide +kernel
theorem dX9_init_107 : decode cX9_init 107 = .ok (.newarray .int, 2) := by decide +kernel
theorem dX9_init_109 : decode cX9_init 109 = .ok (.putfield 50, 3) := by decide +kernel
theorem dX9_init_112 : decode cX9_init 112 = .ok (.aload_n 0, 1) := by decide +kernel
theorem dX9_init_113 : decode cX9_init 113 = .ok (.bipush 16, 2) := by decide +kernel
theorem dX9_init_115 : decode cX9_init 115 = .ok (.newarray .int, 2) := by decide +kernel
theorem dX9_init_117 : decode cX9_init 117 = .ok (.putfield 53, 3) := by decide +kernel
theorem dX9_init_120 : decode cX9_init 120 = .ok (.aload_n 0, 1) := by decide +kernel
theorem dX9_init_121 : decode cX9_init 121 = .ok (.bipush 16, 2) := by decide +kernel
theorem dX9_init_123 : decode cX9_init 123 = .ok (.newarray .int, 2) := by decide +kernel
theorem dX9_init_125 : decode cX9_init 125 = .ok (.putfield 56, 3) := by decide +kernel
theorem dX9_init_128 : decode cX9_init 128 = .ok (.aload_n 0, 1) := by decide +kernel
theorem dX9_init_129 : decode cX9_init 129 = .ok (.bipush 16, 2) := by decide +kernel
theorem dX9_init_131 : decode cX9_init 131 = .ok (.newarray .int, 2) := by decide +kernel
theorem dX9_init_133 : decode cX9_init 133 = .ok (.putfield 59, 3) := by decide +kernel
theorem dX9_init_136 : decode cX9_init 136 = .ok (.aload_n 0, 1) := by decide +kernel
theorem dX9_init_137 : decode cX9_init 137 = .ok (.bipush 16, 2) := by decide +kernel
theorem dX9_init_139 : decode cX9_init 139 = .ok (.newarray .int, 2) := by decide +kernel
theorem dX9_init_141 : decode cX9_init 141 = .ok (.putfield 62, 3) := by decide +kernel
theorem dX9_init_144 : decode cX9_init 144 = .ok (.aload_n 0, 1) := by decide +kernel
theorem dX9_init_145 : decode cX9_init 145 = .ok (.bipush 80, 2) := by decide +kernel
theorem dX9_init_147 : decode cX9_init 147 = .ok (.newarray .int, 2) := by decide +kernel
theorem dX9_init_149 : decode cX9_init 149 = .ok (.putfield 65, 3) := by decide +kernel
theorem dX9_init_152 : decode cX9_init 152 = .ok (.aload_n 0, 1) := by decide +kernel
theorem dX9_init_153 : decode cX9_init 153 = .ok (.sipush 700, 3) := by decide +kernel
theorem dX9_init_156 : decode cX9_init 156 = .ok (.newarray .int, 2) := by decide +kernel
theorem dX9_init_158 : decode cX9_init 158 = .ok (.putfield 68, 3) := by decide +kernel
theorem dX9_init_161 : decode cX9_init 161 = .ok (.aload_n 0, 1) := by decide +kernel
theorem dX9_init_162 : decode cX9_init 162 = .ok (.sipush 700, 3) := by decide +kernel
theorem dX9_init_165 : decode cX9_init 165 = .ok (.newarray .int, 2) := by decide +kernel
theorem dX9_init_167 : decode cX9_init 167 = .ok (.putfield 71, 3) := by decide +kernel
theorem dX9_init_170 : decode cX9_init 170 = .ok (.aload_n 0, 1) := by decide +kernel
theorem dX9_init_171 : decode cX9_init 171 = .ok (.sipush 200, 3) := by decide +kernel
theorem dX9_init_174 : decode cX9_init 174 = .ok (.newarray .int, 2) := by decide +kernel
theorem dX9_init_176 : decode cX9_init 176 = .ok (.putfield 74, 3) := by decide +kernel
theorem dX9_init_179 : decode cX9_init 179 = .ok (.aload_n 0, 1) := by decide +kernel
theorem dX9_init_180 : decode cX9_init 180 = .ok (.iconst 4, 1) := by decide +kernel
theorem dX9_init_181 : decode cX9_init 181 = .ok (.newarray .boolean, 2) := by decide +kernel
theorem dX9_init_183 : decode cX9_init 183 = .ok (.putfield 77, 3) := by decide +kernel
theorem dX9_init_186 : decode cX9_init 186 = .ok (.aload_n 0, 1) := by decide +kernel
theorem dX9_init_187 : decode cX9_init 187 = .ok (.iconst 4, 1) := by decide +kernel
theorem dX9_init_188 : decode cX9_init 188 = .ok (.newarray .int, 2) := by decide +kernel
theorem dX9_init_190 : decode cX9_init 190 = .ok (.putfield 81, 3) := by decide +kernel
theorem dX9_init_193 : decode cX9_init 193 = .ok (.aload_n 0, 1) := by decide +kernel
theorem dX9_init_194 : decode cX9_init 194 = .ok (.bipush 80, 2) := by decide +kernel
theorem dX9_init_196 : decode cX9_init 196 = .ok (.newarray .int, 2) := by decide +kernel
theorem dX9_init_198 : decode cX9_init 198 = .ok (.putfield 84, 3) := by decide +kernel
theorem dX9_init_201 : decode cX9_init 201 = .ok (.aload_n 0, 1) := by decide +kernel
theorem dX9_init_202 : decode cX9_init 202 = .ok (.iconst 0, 1) := by decide +kernel
theorem dX9_init_203 : decode cX9_init 203 = .ok (.putfield 87, 3) := by decide +kernel
theorem dX9_init_206 : decode cX9_init 206 = .ok (.return_, 1) := by decide +kernel
theorem dX9_in_0 : decode cX9_in 0 = .ok (.lload_n 0, 1) := by decide +kernel
theorem dX9_in_1 : decode cX9_in 1 = .ok (.lload_n 2, 1) := by decide +kernel
theorem dX9_in_2 : decode cX9_in 2 = .ok (.lcmp, 1) := by decide +kernel
theorem dX9_in_3 : decode cX9_in 3 = .ok (.ifCond .lt 14, 3) := by decide +kernel
theorem dX9_in_6 : decode cX9_in 6 = .ok (.lload_n 0, 1) := by decide +kernel
theorem dX9_in_7 : decode cX9_in 7 = .ok (.lload 4, 2) := by decide +kernel
theorem dX9_in_9 : decode cX9_in 9 = .ok (.lcmp, 1) := by decide +kernel
theorem dX9_in_10 : decode cX9_in 10 = .ok (.ifCond .gt 7, 3) := by decide +kernel
theorem dX9_in_13 : decode cX9_in 13 = .ok (.iconst 1, 1) := by decide +kernel
theorem dX9_in_14 : decode cX9_in 14 = .ok (.goto 4, 3) := by decide +kernel
theorem dX9_in_17 : decode cX9_in 17 = .ok (.iconst 0, 1) := by decide +kernel
theorem dX9_in_18 : decode cX9_in 18 = .ok (.ireturn, 1) := by decide +kernel
theorem dX9_isStop_0 : decode cX9_isStop 0 = .ok (.iload_n 0, 1) := by decide +kernel
theorem dX9_isStop_1 : decode cX9_isStop 1 = .ok (.i2l, 1) := by decide +kernel
theorem dX9_isStop_2 : decode cX9_isStop 2 = .ok (.lconst 0, 1) := by decide +kernel
theorem dX9_isStop_3 : decode cX9_isStop 3 = .ok (.ldc2_w 90, 3) := by decide +kernel
theorem dX9_isStop_6 : decode cX9_isStop 6 = .ok (.invokestatic 92, 3) := by decide +kernel
theorem dX9_isStop_9 : decode cX9_isStop 9 = .ok (.ireturn, 1) := by decide +kernel
theorem dX9_isMinute_0 : decode cX9_isMinute 0 = .ok (.iload_n 0, 1) := by decide +kernel
theorem dX9_isMinute_1 : decode cX9_isMinute 1 = .ok (.i2l, 1) := by decide +kernel
theorem dX9_isMinute_2 : decode cX9_isMinute 2 = .ok (.lconst 0, 1) := by decide +kernel
theorem dX9_isMinute_3 : decode cX9_isMinute 3 = .ok (.ldc2_w 96, 3) := by decide +kernel
theorem dX9_isMinute_6 : decode cX9_isMinute 6 = .ok (.invokestatic 92, 3) := by decide +kernel
theorem dX9_isMinute_9 : decode cX9_isMinute 9 = .ok (.ireturn, 1) := by decide +kernel
theorem dX9_isLine_0 : decode cX9_isLine 0 = .ok (.iload_n 1, 1) := by decide +kernel
theorem dX9_isLine_1 : decode cX9_isLine 1 = .ok (.i2l, 1) := by decide +kernel
theorem dX9_isLine_2 : decode cX9_isLine 2 = .ok (.lconst 0, 1) := by decide +kernel
theorem dX9_isLine_3 : decode cX9_isLine 3 = .ok (.aload_n 0, 1) := by decide +kernel
theorem dX9_isLine_4 : decode cX9_isLine 4 = .ok (.getfield 98, 3) := by decide +kernel
theorem dX9_isLine_7 : decode cX9_isLine 7 = .ok (.iconst 1, 1) := by decide +kernel
theorem dX9_isLine_8 : decode cX9_isLine 8 = .ok (.isub, 1) := by decide +kernel
theorem dX9_isLine_9 : decode cX9_isLine 9 = .ok (.i2l, 1) := by decide +kernel
theorem dX9_isLine_10 : decode cX9_isLine 10 = .ok (.invokestatic 92, 3) := by decide +kernel
theorem dX9_isLine_13 : decode cX9_isLine 13 = .ok (.ireturn, 1) := by decide +kernel
theorem dX9_isTrip_0 : decode cX9_isTrip 0 = .ok (.aload_n 0, 1) := by decide +kernel
theorem dX9_isTrip_1 : decode cX9_isTrip 1 = .ok (.iload_n 1, 1) := by decide +kernel
theorem dX9_isTrip_2 : decode cX9_isTrip 2 = .ok (.invokevirtual 101, 3) := by decide +kernel
theorem dX9_isTrip_5 : decode cX9_isTrip 5 = .ok (.ifCond .eq 25, 3) := by decide +kernel
theorem dX9_isTrip_8 : decode cX9_isTrip 8 = .ok (.iload_n 2, 1) := by decide +kernel
theorem dX9_isTrip_9 : decode cX9_isTrip 9 = .ok (.i2l, 1) := by decide +kernel
theorem dX9_isTrip_10 : decode cX9_isTrip 10 = .ok (.lconst 0, 1) := by decide +kernel
theorem dX9_isTrip_11 : decode cX9_isTrip 11 = .ok (.aload_n 0, 1) := by decide +kernel
theorem dX9_isTrip_12 : decode cX9_isTrip 12 = .ok (.getfield 19, 3) := by decide +kernel
theorem dX9_isTrip_15 : decode cX9_isTrip 15 = .ok (.iload_n 1, 1) := by decide +kernel
theorem dX9_isTrip_16 : decode cX9_isTrip 16 = .ok (.iaload, 1) := by decide +kernel
theorem dX9_isTrip_17 : decode cX9_isTrip 17 = .ok (.iconst 1, 1) := by decide +kernel
theorem dX9_isTrip_18 : decode cX9_isTrip 18 = .ok (.isub, 1) := by decide +kernel
theorem dX9_isTrip_19 : decode cX9_isTrip 19 = .ok (.i2l, 1) := by decide +kernel
theorem dX9_isTrip_20 : decode cX9_isTrip 20 = .ok (.invokestatic 92, 3) := by decide +kernel
theorem dX9_isTrip_23 : decode cX9_isTrip 23 = .ok (.ifCond .eq 7, 3) := by decide +kernel
theorem dX9_isTrip_26 : decode cX9_isTrip 26 = .ok (.iconst 1, 1) := by decide +kernel
theorem dX9_isTrip_27 : decode cX9_isTrip 27 = .ok (.goto 4, 3) := by decide +kernel
theorem dX9_isTrip_30 : decode cX9_isTrip 30 = .ok (.iconst 0, 1) := by decide +kernel
theorem dX9_isTrip_31 : decode cX9_isTrip 31 = .ok (.ireturn, 1) := by decide +kernel
theorem dX9_isNight_0 : decode cX9_isNight 0 = .ok (.iload_n 0, 1) := by decide +kernel
theorem dX9_isNight_1 : decode cX9_isNight 1 = .ok (.sipush 300, 3) := by decide +kernel
theorem dX9_isNight_4 : decode cX9_isNight 4 = .ok (.if_icmp .lt 10, 3) := by decide +kernel
theorem dX9_isNight_7 : decode cX9_isNight 7 = .ok (.iload_n 0, 1) := by decide +kernel
theorem dX9_isNight_8 : decode cX9_isNight 8 = .ok (.sipush 1200, 3) := by decide +kernel
theorem dX9_isNight_11 : decode cX9_isNight 11 = .ok (.if_icmp .lt 7, 3) := by decide +kernel
theorem dX9_isNight_14 : decode cX9_isNight 14 = .ok (.iconst 1, 1) := by decide +kernel
theorem dX9_isNight_15 : decode cX9_isNight 15 = .ok (.goto 4, 3) := by decide +kernel
theorem dX9_isNight_18 : decode cX9_isNight 18 = .ok (.iconst 0, 1) := by decide +kernel
theorem dX9_isNight_19 : decode cX9_isNight 19 = .ok (.ireturn, 1) := by decide +kernel
theorem dX9_isRunning_0 : decode cX9_isRunning 0 = .ok (.aload_n 0, 1) := by decide +kernel
theorem dX9_isRunning_1 : decode cX9_isRunning 1 = .ok (.getfield 22, 3) := by decide +kernel
theorem dX9_isRunning_4 : decode cX9_isRunning 4 = .ok (.bipush 6, 2) := by decide +kernel
theorem dX9_isRunning_6 : decode cX9_isRunning 6 = .ok (.iload_n 1, 1) := by decide +kernel
theorem dX9_isRunning_7 : decode cX9_isRunning 7 = .ok (.imul, 1) := by decide +kernel
theorem dX9_isRunning_8 : decode cX9_isRunning 8 = .ok (.iload_n 2, 1) := by decide +kernel
theorem dX9_isRunning_9 : decode cX9_isRunning 9 = .ok (.iadd, 1) := by decide +kernel
theorem dX9_isRunning_10 : decode cX9_isRunning 10 = .ok (.iaload, 1) := by decide +kernel
theorem dX9_isRunning_11 : decode cX9_isRunning 11 = .ok (.istore_n 3, 1) := by decide +kernel
theorem dX9_isRunning_12 : decode cX9_isRunning 12 = .ok (.aload_n 0, 1) := by decide +kernel
theorem dX9_isRunning_13 : decode cX9_isRunning 13 = .ok (.getfield 7, 3) := by decide +kernel
theorem dX9_isRunning_16 : decode cX9_isRunning 16 = .ok (.iload_n 1, 1) := by decide +kernel
theorem dX9_isRunning_17 : decode cX9_isRunning 17 = .ok (.iaload, 1) := by decide +kernel
theorem dX9_isRunning_18 : decode cX9_isRunning 18 = .ok (.tableswitch 92 1 5 #[34, 47, 52, 72, 52], 34) := by decide +kernel
theorem dX9_isRunning_52 : decode cX9_isRunning 52 = .ok (.iload_n 3, 1) := by decide +kernel
theorem dX9_isRunning_53 : decode cX9_isRunning 53 = .ok (.sipush 1300, 3) := by decide +kernel
theorem dX9_isRunning_56 : decode cX9_isRunning 56 = .ok (.if_icmp .ge 7, 3) := by decide +kernel
theorem dX9_isRunning_59 : decode cX9_isRunning 59 = .ok (.iconst 1, 1) := by decide +kernel
theorem dX9_isRunning_60 : decode cX9_isRunning 60 = .ok (.goto 4, 3) := by decide +kernel
theorem dX9_isRunning_63 : decode cX9_isRunning 63 = .ok (.iconst 0, 1) := by decide +kernel
theorem dX9_isRunning_64 : decode cX9_isRunning 64 = .ok (.ireturn, 1) := by decide +kernel
theorem dX9_isRunning_65 : decode cX9_isRunning 65 = .ok (.iload_n 3, 1) := by decide +kernel
theorem dX9_isRunning_66 : decode cX9_isRunning 66 = .ok (.invokestatic 105, 3) := by decide +kernel
theorem dX9_isRunning_69 : decode cX9_isRunning 69 = .ok (.ireturn, 1) := by decide +kernel
theorem dX9_isRunning_70 : decode cX9_isRunning 70 = .ok (.iload_n 3, 1) := by decide +kernel
theorem dX9_isRunning_71 : decode cX9_isRunning 71 = .ok (.invokestatic 105, 3) := by decide +kernel
theorem dX9_isRunning_74 : decode cX9_isRunning 74 = .ok (.ifCond .ne 10, 3) := by decide +kernel
theorem dX9_isRunning_77 : decode cX9_isRunning 77 = .ok (.iload_n 3, 1) := by decide +kernel
theorem dX9_isRunning_78 : decode cX9_isRunning 78 = .ok (.bipush 60, 2) := by decide +kernel
theorem dX9_isRunning_80 : decode cX9_isRunning 80 = .ok (.irem, 1) := by decide +kernel
theorem dX9_isRunning_81 : decode cX9_isRunning 81 = .ok (.ifCond .ne 7, 3) := by decide +kernel
theorem dX9_isRunning_84 : decode cX9_isRunning 84 = .ok (.iconst 1, 1) := by decide +kernel
theorem dX9_isRunning_85 : decode cX9_isRunning 85 = .ok (.goto 4, 3) := by decide +kernel
theorem dX9_isRunning_88 : decode cX9_isRunning 88 = .ok (.iconst 0, 1) := by decide +kernel
theorem dX9_isRunning_89 : decode cX9_isRunning 89 = .ok (.ireturn, 1) := by decide +kernel
theorem dX9_isRunning_90 : decode cX9_isRunning 90 = .ok (.iload_n 3, 1) := by decide +kernel
theorem dX9_isRunning_91 : decode cX9_isRunning 91 = .ok (.sipush 1300, 3) := by decide +kernel
theorem dX9_isRunning_94 : decode cX9_isRunning 94 = .ok (.if_icmp .ge 14, 3) := by decide +kernel
theorem dX9_isRunning_97 : decode cX9_isRunning 97 = .ok (.iload_n 3, 1) := by decide +kernel
theorem dX9_isRunning_98 : decode cX9_isRunning 98 = .ok (.sipush 400, 3) := by decide +kernel
theorem dX9_isRunning_101 : decode cX9_isRunning 101 = .ok (.if_icmp .lt 7, 3) := by decide +kernel
theorem dX9_isRunning_104 : decode cX9_isRunning 104 = .ok (.iconst 1, 1) := by decide +kernel
theorem dX9_isRunning_105 : decode cX9_isRunning 105 = .ok (.goto 4, 3) := by decide +kernel
theorem dX9_isRunning_108 : decode cX9_isRunning 108 = .ok (.iconst 0, 1) := by decide +kernel
theorem dX9_isRunning_109 : decode cX9_isRunning 109 = .ok (.ireturn, 1) := by decide +kernel
theorem dX9_isRunning_110 : decode cX9_isRunning 110 = .ok (.iconst 1, 1) := by decide +kernel
theorem dX9_isRunning_111 : decode cX9_isRunning 111 = .ok (.ireturn, 1) := by decide +kernel
theorem dX9_fareOf_0 : decode cX9_fareOf 0 = .ok (.iload_n 2, 1) := by decide +kernel
theorem dX9_fareOf_1 : decode cX9_fareOf 1 = .ok (.iconst 2, 1) := by decide +kernel
theorem dX9_fareOf_2 : decode cX9_fareOf 2 = .ok (.iadd, 1) := by decide +kernel
theorem dX9_fareOf_3 : decode cX9_fareOf 3 = .ok (.istore_n 3, 1) := by decide +kernel
theorem dX9_fareOf_4 : decode cX9_fareOf 4 = .ok (.aload_n 0, 1) := by decide +kernel
theorem dX9_fareOf_5 : decode cX9_fareOf 5 = .ok (.getfield 7, 3) := by decide +kernel
theorem dX9_fareOf_8 : decode cX9_fareOf 8 = .ok (.iload_n 1, 1) := by decide +kernel
theorem dX9_fareOf_9 : decode cX9_fareOf 9 = .ok (.iaload, 1) := by decide +kernel
theorem dX9_fareOf_10 : decode cX9_fareOf 10 = .ok (.tableswitch 53 1 5 #[34, 53, 38, 42, 47], 34) := by decide +kernel
theorem dX9_fareOf_44 : decode cX9_fareOf 44 = .ok (.iload_n 3, 1) := by decide +kernel
theorem dX9_fareOf_45 : decode cX9_fareOf 45 = .ok (.iconst 1, 1) := by decide +kernel
theorem dX9_fareOf_46 : decode cX9_fareOf 46 = .ok (.iadd, 1) := by decide +kernel
theorem dX9_fareOf_47 : decode cX9_fareOf 47 = .ok (.ireturn, 1) := by decide +kernel
theorem dX9_fareOf_48 : decode cX9_fareOf 48 = .ok (.iconst 2, 1) := by decide +kernel
theorem dX9_fareOf_49 : decode cX9_fareOf 49 = .ok (.iload_n 3, 1) := by decide +kernel
theorem dX9_fareOf_50 : decode cX9_fareOf 50 = .ok (.imul, 1) := by decide +kernel
theorem dX9_fareOf_51 : decode cX9_fareOf 51 = .ok (.ireturn, 1) := by decide +kernel
theorem dX9_fareOf_52 : decode cX9_fareOf 52 = .ok (.iload_n 3, 1) := by decide +kernel
theorem dX9_fareOf_53 : decode cX9_fareOf 53 = .ok (.bipush 6, 2) := by decide +kernel
theorem dX9_fareOf_55 : decode cX9_fareOf 55 = .ok (.iadd, 1) := by decide +kernel
theorem dX9_fareOf_56 : decode cX9_fareOf 56 = .ok (.ireturn, 1) := by decide +kernel
theorem dX9_fareOf_57 : decode cX9_fareOf 57 = .ok (.iconst 2, 1) := by decide +kernel
theorem dX9_fareOf_58 : decode cX9_fareOf 58 = .ok (.iload_n 3, 1) := by decide +kernel
theorem dX9_fareOf_59 : decode cX9_fareOf 59 = .ok (.imul, 1) := by decide +kernel
theorem dX9_fareOf_60 : decode cX9_fareOf 60 = .ok (.iconst 3, 1) := by decide +kernel
theorem dX9_fareOf_61 : decode cX9_fareOf 61 = .ok (.isub, 1) := by decide +kernel
theorem dX9_fareOf_62 : decode cX9_fareOf 62 = .ok (.ireturn, 1) := by decide +kernel
theorem dX9_fareOf_63 : decode cX9_fareOf 63 = .ok (.iload_n 3, 1) := by decide +kernel
theorem dX9_fareOf_64 : decode cX9_fareOf 64 = .ok (.ireturn, 1) := by decide +kernel
theorem dX9_minuteAt_0 : decode cX9_minuteAt 0 = .ok (.aload_n 0, 1) := by decide +kernel
theorem dX9_minuteAt_1 : decode cX9_minuteAt 1 = .ok (.getfield 25, 3) := by decide +kernel
theorem dX9_minuteAt_4 : decode cX9_minuteAt 4 = .ok (.bipush 36, 2) := by decide +kernel
theorem dX9_minuteAt_6 : decode cX9_minuteAt 6 = .ok (.iload_n 1, 1) := by decide +kernel
theorem dX9_minuteAt_7 : decode cX9_minuteAt 7 = .ok (.imul, 1) := by decide +kernel
theorem dX9_minuteAt_8 : decode cX9_minuteAt 8 = .ok (.bipush 6, 2) := by decide +kernel
theorem dX9_minuteAt_10 : decode cX9_minuteAt 10 = .ok (.iload_n 2, 1) := by decide +kernel
theorem dX9_minuteAt_11 : decode cX9_minuteAt 11 = .ok (.imul, 1) := by decide +kernel
theorem dX9_minuteAt_12 : decode cX9_minuteAt 12 = .ok (.iadd, 1) := by decide +kernel
theorem dX9_minuteAt_13 : decode cX9_minuteAt 13 = .ok (.iload_n 3, 1) := by decide +kernel
theorem dX9_minuteAt_14 : decode cX9_minuteAt 14 = .ok (.iadd, 1) := by decide +kernel
theorem dX9_minuteAt_15 : decode cX9_minuteAt 15 = .ok (.iaload, 1) := by decide +kernel
theorem dX9_minuteAt_16 : decode cX9_minuteAt 16 = .ok (.ireturn, 1) := by decide +kernel
theorem dX9_stopAt_0 : decode cX9_stopAt 0 = .ok (.aload_n 0, 1) := by decide +kernel
theorem dX9_stopAt_1 : decode cX9_stopAt 1 = .ok (.getfield 16, 3) := by decide +kernel
theorem dX9_stopAt_4 : decode cX9_stopAt 4 = .ok (.bipush 6, 2) := by decide +kernel
theorem dX9_stopAt_6 : decode cX9_stopAt 6 = .ok (.iload_n 1, 1) := by decide +kernel
theorem dX9_stopAt_7 : decode cX9_stopAt 7 = .ok (.imul, 1) := by decide +kernel
theorem dX9_stopAt_8 : decode cX9_stopAt 8 = .ok (.iload_n 2, 1) := by decide +kernel
theorem dX9_stopAt_9 : decode cX9_stopAt 9 = .ok (.iadd, 1) := by decide +kernel
theorem dX9_stopAt_10 : decode cX9_stopAt 10 = .ok (.iaload, 1) := by decide +kernel
theorem dX9_stopAt_11 : decode cX9_stopAt 11 = .ok (.ireturn, 1) := by decide +kernel
theorem dX9_isRidden_0 : decode cX9_isRidden 0 = .ok (.aload_n 0, 1) := by decide +kernel
theorem dX9_isRidden_1 : decode cX9_isRidden 1 = .ok (.iload_n 1, 1) := by decide +kernel
theorem dX9_isRidden_2 : decode cX9_isRidden 2 = .ok (.iload_n 2, 1) := by decide +kernel
theorem dX9_isRidden_3 : decode cX9_isRidden 3 = .ok (.invokevirtual 108, 3) := by decide +kernel
theorem dX9_isRidden_6 : decode cX9_isRidden 6 = .ok (.ifCond .eq 20, 3) := by decide +kernel
theorem dX9_isRidden_9 : decode cX9_isRidden 9 = .ok (.aload_n 0, 1) := by decide +kernel
theorem dX9_isRidden_10 : decode cX9_isRidden 10 = .ok (.getfield 31, 3) := by decide +kernel
theorem dX9_isRidden_13 : decode cX9_isRidden 13 = .ok (.bipush 6, 2) := by decide +kernel
theorem dX9_isRidden_15 : decode cX9_isRidden 15 = .ok (.iload_n 1, 1) := by decide +kernel
theorem dX9_isRidden_16 : decode cX9_isRidden 16 = .ok (.imul, 1) := by decide +kernel
theorem dX9_isRidden_17 : decode cX9_isRidden 17 = .ok (.iload_n 2, 1) := by decide +kernel
theorem dX9_isRidden_18 : decode cX9_isRidden 18 = .ok (.iadd, 1) := by decide +kernel
theorem dX9_isRidden_19 : decode cX9_isRidden 19 = .ok (.if_icmp .eq 7, 3) := by decide +kernel
theorem dX9_isRidden_22 : decode cX9_isRidden 22 = .ok (.iconst 1, 1) := by decide +kernel
theorem dX9_isRidden_23 : decode cX9_isRidden 23 = .ok (.goto 4, 3) := by decide +kernel
theorem dX9_isRidden_26 : decode cX9_isRidden 26 = .ok (.iconst 0, 1) := by decide +kernel
theorem dX9_isRidden_27 : decode cX9_isRidden 27 = .ok (.ireturn, 1) := by decide +kernel
theorem dX9_footOf_0 : decode cX9_footOf 0 = .ok (.iload_n 1, 1) := by decide +kernel
theorem dX9_footOf_1 : decode cX9_footOf 1 = .ok (.aload_n 0, 1) := by decide +kernel
theorem dX9_footOf_2 : decode cX9_footOf 2 = .ok (.getfield 35, 3) := by decide +kernel
theorem dX9_footOf_5 : decode cX9_footOf 5 = .ok (.if_icmp .eq 25, 3) := by decide +kernel
theorem dX9_footOf_8 : decode cX9_footOf 8 = .ok (.iload_n 2, 1) := by decide +kernel
theorem dX9_footOf_9 : decode cX9_footOf 9 = .ok (.aload_n 0, 1) := by decide +kernel
theorem dX9_footOf_10 : decode cX9_footOf 10 = .ok (.getfield 35, 3) := by decide +kernel
theorem dX9_footOf_13 : decode cX9_footOf 13 = .ok (.if_icmp .eq 17, 3) := by decide +kernel
theorem dX9_footOf_16 : decode cX9_footOf 16 = .ok (.aload_n 0, 1) := by decide +kernel
theorem dX9_footOf_17 : decode cX9_footOf 17 = .ok (.getfield 28, 3) := by decide +kernel
theorem dX9_footOf_20 : decode cX9_footOf 20 = .ok (.bipush 12, 2) := by decide +kernel
theorem dX9_footOf_22 : decode cX9_footOf 22 = .ok (.iload_n 1, 1) := by decide +kernel
theorem dX9_footOf_23 : decode cX9_footOf 23 = .ok (.imul, 1) := by decide +kernel
theorem dX9_footOf_24 : decode cX9_footOf 24 = .ok (.iload_n 2, 1) := by decide +kernel
theorem dX9_footOf_25 : decode cX9_footOf 25 = .ok (.iadd, 1) := by decide +kernel
theorem dX9_footOf_26 : decode cX9_footOf 26 = .ok (.iaload, 1) := by decide +kernel
theorem dX9_footOf_27 : decode cX9_footOf 27 = .ok (.ifCond .ne 8, 3) := by decide +kernel
theorem dX9_footOf_30 : decode cX9_footOf 30 = .ok (.ldc 112, 2) := by decide +kernel
theorem dX9_footOf_32 : decode cX9_footOf 32 = .ok (.goto 14, 3) := by decide +kernel
theorem dX9_footOf_35 : decode cX9_footOf 35 = .ok (.aload_n 0, 1) := by decide +kernel
theorem dX9_footOf_36 : decode cX9_footOf 36 = .ok (.getfield 28, 3) := by decide +kernel
theorem dX9_footOf_39 : decode cX9_footOf 39 = .ok (.bipush 12, 2) := by decide +kernel
theorem dX9_footOf_41 : decode cX9_footOf 41 = .ok (.iload_n 1, 1) := by decide +kernel
theorem dX9_footOf_42 : decode cX9_footOf 42 = .ok (.imul, 1) := by decide +kernel
theorem dX9_footOf_43 : decode cX9_footOf 43 = .ok (.iload_n 2, 1) := by decide +kernel
theorem dX9_footOf_44 : decode cX9_footOf 44 = .ok (.iadd, 1) := by decide +kernel
theorem dX9_footOf_45 : decode cX9_footOf 45 = .ok (.iaload, 1) := by decide +kernel
theorem dX9_footOf_46 : decode cX9_footOf 46 = .ok (.ireturn, 1) := by decide +kernel
theorem dX9_layWalks_0 : decode cX9_layWalks 0 = .ok (.iconst 0, 1) := by decide +kernel
theorem dX9_layWalks_1 : decode cX9_layWalks 1 = .ok (.istore_n 2, 1) := by decide +kernel
theorem dX9_layWalks_2 : decode cX9_layWalks 2 = .ok (.iload_n 2, 1) := by decide +kernel
theorem dX9_layWalks_3 : decode cX9_layWalks 3 = .ok (.bipush 12, 2) := by decide +kernel
theorem dX9_layWalks_5 : decode cX9_layWalks 5 = .ok (.if_icmp .ge 106, 3) := by decide +kernel
theorem dX9_layWalks_8 : decode cX9_layWalks 8 = .ok (.aload_n 0, 1) := by decide +kernel
theorem dX9_layWalks_9 : decode cX9_layWalks 9 = .ok (.getfield 38, 3) := by decide +kernel
theorem dX9_layWalks_12 : decode cX9_layWalks 12 = .ok (.bipush 12, 2) := by decide +kernel
theorem dX9_layWalks_14 : decode cX9_layWalks 14 = .ok (.iload_n 1, 1) := by decide +kernel
theorem dX9_layWalks_15 : decode cX9_layWalks 15 = .ok (.imul, 1) := by decide +kernel
theorem dX9_layWalks_16 : decode cX9_layWalks 16 = .ok (.iload_n 2, 1) := by decide +kernel
theorem dX9_layWalks_17 : decode cX9_layWalks 17 = .ok (.iadd, 1) := by decide +kernel
theorem dX9_layWalks_18 : decode cX9_layWalks 18 = .ok (.iaload, 1) := by decide +kernel
theorem dX9_layWalks_19 : decode cX9_layWalks 19 = .ok (.istore_n 3, 1) := by decide +kernel
theorem dX9_layWalks_20 : decode cX9_layWalks 20 = .ok (.iconst 0, 1) := by decide +kernel
theorem dX9_layWalks_21 : decode cX9_layWalks 21 = .ok (.istore 4, 2) := by decide +kernel
theorem dX9_layWalks_23 : decode cX9_layWalks 23 = .ok (.iload 4, 2) := by decide +kernel
theorem dX9_layWalks_25 : decode cX9_layWalks 25 = .ok (.bipush 12, 2) := by decide +kernel
theorem dX9_layWalks_27 : decode cX9_layWalks 27 = .ok (.if_icmp .ge 55, 3) := by decide +kernel
theorem dX9_layWalks_30 : decode cX9_layWalks 30 = .ok (.iload 4, 2) := by decide +kernel
theorem dX9_layWalks_32 : decode cX9_layWalks 32 = .ok (.iload_n 2, 1) := by decide +kernel
theorem dX9_layWalks_33 : decode cX9_layWalks 33 = .ok (.if_icmp .ne 8, 3) := by decide +kernel
theorem dX9_layWalks_36 : decode cX9_layWalks 36 = .ok (.ldc 112, 2) := by decide +kernel
theorem dX9_layWalks_38 : decode cX9_layWalks 38 = .ok (.goto 23, 3) := by decide +kernel
theorem dX9_layWalks_41 : decode cX9_layWalks 41 = .ok (.aload_n 0, 1) := by decide +kernel
theorem dX9_layWalks_42 : decode cX9_layWalks 42 = .ok (.getfield 38, 3) := by decide +kernel
theorem dX9_layWalks_45 : decode cX9_layWalks 45 = .ok (.bipush 12, 2) := by decide +kernel
theorem dX9_layWalks_47 : decode cX9_layWalks 47 = .ok (.iload_n 1, 1) := by decide +kernel
theorem dX9_layWalks_48 : decode cX9_layWalks 48 = .ok (.imul, 1) := by decide +kernel
theorem dX9_layWalks_49 : decode cX9_layWalks 49 = .ok (.iload 4, 2) := by decide +kernel
theorem dX9_layWalks_51 : decode cX9_layWalks 51 = .ok (.iadd, 1) := by decide +kernel
theorem dX9_layWalks_52 : decode cX9_layWalks 52 = .ok (.iaload, 1) := by decide +kernel
theorem dX9_layWalks_53 : decode cX9_layWalks 53 = .ok (.aload_n 0, 1) := by decide +kernel
theorem dX9_layWalks_54 : decode cX9_layWalks 54 = .ok (.iload 4, 2) := by decide +kernel
theorem dX9_layWalks_56 : decode cX9_layWalks 56 = .ok (.iload_n 2, 1) := by decide +kernel
theorem dX9_layWalks_57 : decode cX9_layWalks 57 = .ok (.invokevirtual 113, 3) := by decide +kernel
theorem dX9_layWalks_60 : decode cX9_layWalks 60 = .ok (.iadd, 1) := by decide +kernel
theorem dX9_layWalks_61 : decode cX9_layWalks 61 = .ok (.istore 5, 2) := by decide +kernel
theorem dX9_layWalks_63 : decode cX9_layWalks 63 = .ok (.iload 5, 2) := by decide +kernel
theorem dX9_layWalks_65 : decode cX9_layWalks 65 = .ok (.iload_n 3, 1) := by decide +kernel
theorem dX9_layWalks_66 : decode cX9_layWalks 66 = .ok (.if_icmp .ge 8, 3) := by decide +kernel
theorem dX9_layWalks_69 : decode cX9_layWalks 69 = .ok (.iload 5, 2) := by decide +kernel
theorem dX9_layWalks_71 : decode cX9_layWalks 71 = .ok (.goto 4, 3) := by decide +kernel
theorem dX9_layWalks_74 : decode cX9_layWalks 74 = .ok (.iload_n 3, 1) := by decide +kernel
theorem dX9_layWalks_75 : decode cX9_layWalks 75 = .ok (.istore_n 3, 1) := by decide +kernel
theorem dX9_layWalks_76 : decode cX9_layWalks 76 = .ok (.iinc 4 1, 3) := by decide +kernel
theorem dX9_layWalks_79 : decode cX9_layWalks 79 = .ok (.goto (-56), 3) := by decide +kernel
theorem dX9_layWalks_82 : decode cX9_layWalks 82 = .ok (.aload_n 0, 1) := by decide +kernel
theorem dX9_layWalks_83 : decode cX9_layWalks 83 = .ok (.getfield 41, 3) := by decide +kernel
theorem dX9_layWalks_86 : decode cX9_layWalks 86 = .ok (.bipush 12, 2) := by decide +kernel
theorem dX9_layWalks_88 : decode cX9_layWalks 88 = .ok (.iload_n 1, 1) := by decide +kernel
theorem dX9_layWalks_89 : decode cX9_layWalks 89 = .ok (.imul, 1) := by decide +kernel
theorem dX9_layWalks_90 : decode cX9_layWalks 90 = .ok (.iload_n 2, 1) := by decide +kernel
theorem dX9_layWalks_91 : decode cX9_layWalks 91 = .ok (.iadd, 1) := by decide +kernel
theorem dX9_layWalks_92 : decode cX9_layWalks 92 = .ok (.iload_n 3, 1) := by decide +kernel
theorem dX9_layWalks_93 : decode cX9_layWalks 93 = .ok (.ldc 112, 2) := by decide +kernel
theorem dX9_layWalks_95 : decode cX9_layWalks 95 = .ok (.if_icmp .ge 7, 3) := by decide +kernel
theorem dX9_layWalks_98 : decode cX9_layWalks 98 = .ok (.iload_n 3, 1) := by decide +kernel
theorem dX9_layWalks_99 : decode cX9_layWalks 99 = .ok (.goto 5, 3) := by decide +kernel
theorem dX9_layWalks_102 : decode cX9_layWalks 102 = .ok (.ldc 112, 2) := by decide +kernel
theorem dX9_layWalks_104 : decode cX9_layWalks 104 = .ok (.iastore, 1) := by decide +kernel
theorem dX9_layWalks_105 : decode cX9_layWalks 105 = .ok (.iinc 2 1, 3) := by decide +kernel
theorem dX9_layWalks_108 : decode cX9_layWalks 108 = .ok (.goto (-106), 3) := by decide +kernel
theorem dX9_layWalks_111 : decode cX9_layWalks 111 = .ok (.return_, 1) := by decide +kernel
theorem dX9_layTrip_0 : decode cX9_layTrip 0 = .ok (.iconst 0, 1) := by decide +kernel
theorem dX9_layTrip_1 : decode cX9_layTrip 1 = .ok (.istore 4, 2) := by decide +kernel
theorem dX9_layTrip_3 : decode cX9_layTrip 3 = .ok (.iconst 0, 1) := by decide +kernel
theorem dX9_layTrip_4 : decode cX9_layTrip 4 = .ok (.istore 5, 2) := by decide +kernel
theorem dX9_layTrip_6 : decode cX9_layTrip 6 = .ok (.iload 5, 2) := by decide +kernel
theorem dX9_layTrip_8 : decode cX9_layTrip 8 = .ok (.aload_n 0, 1) := by decide +kernel
theorem dX9_layTrip_9 : decode cX9_layTrip 9 = .ok (.getfield 13, 3) := by decide +kernel
theorem dX9_layTrip_12 : decode cX9_layTrip 12 = .ok (.iload_n 2, 1) := by decide +kernel
theorem dX9_layTrip_13 : decode cX9_layTrip 13 = .ok (.iaload, 1) := by decide +kernel
theorem dX9_layTrip_14 : decode cX9_layTrip 14 = .ok (.if_icmp .ge 113, 3) := by decide +kernel
theorem dX9_layTrip_17 : decode cX9_layTrip 17 = .ok (.aload_n 0, 1) := by decide +kernel
theorem dX9_layTrip_18 : decode cX9_layTrip 18 = .ok (.iload_n 2, 1) := by decide +kernel
theorem dX9_layTrip_19 : decode cX9_layTrip 19 = .ok (.iload 5, 2) := by decide +kernel
theorem dX9_layTrip_21 : decode cX9_layTrip 21 = .ok (.invokevirtual 117, 3) := by decide +kernel
theorem dX9_layTrip_24 : decode cX9_layTrip 24 = .ok (.istore 6, 2) := by decide +kernel
theorem dX9_layTrip_26 : decode cX9_layTrip 26 = .ok (.aload_n 0, 1) := by decide +kernel
theorem dX9_layTrip_27 : decode cX9_layTrip 27 = .ok (.iload_n 2, 1) := by decide +kernel
theorem dX9_layTrip_28 : decode cX9_layTrip 28 = .ok (.iload_n 3, 1) := by decide +kernel
theorem dX9_layTrip_29 : decode cX9_layTrip 29 = .ok (.iload 5, 2) := by decide +kernel
theorem dX9_layTrip_31 : decode cX9_layTrip 31 = .ok (.invokevirtual 120, 3) := by decide +kernel
theorem dX9_layTrip_34 : decode cX9_layTrip 34 = .ok (.istore 7, 2) := by decide +kernel
theorem dX9_layTrip_36 : decode cX9_layTrip 36 = .ok (.iload 4, 2) := by decide +kernel
theorem dX9_layTrip_38 : decode cX9_layTrip 38 = .ok (.ifCond .eq 43, 3) := by decide +kernel
theorem dX9_layTrip_41 : decode cX9_layTrip 41 = .ok (.iload 6, 2) := by decide +kernel
theorem dX9_layTrip_43 : decode cX9_layTrip 43 = .ok (.aload_n 0, 1) := by decide +kernel
theorem dX9_layTrip_44 : decode cX9_layTrip 44 = .ok (.getfield 35, 3) := by decide +kernel
theorem dX9_layTrip_47 : decode cX9_layTrip 47 = .ok (.if_icmp .eq 34, 3) := by decide +kernel
theorem dX9_layTrip_50 : decode cX9_layTrip 50 = .ok (.iload 7, 2) := by decide +kernel
theorem dX9_layTrip_52 : decode cX9_layTrip 52 = .ok (.aload_n 0, 1) := by decide +kernel
theorem dX9_layTrip_53 : decode cX9_layTrip 53 = .ok (.getfield 38, 3) := by decide +kernel
theorem dX9_layTrip_56 : decode cX9_layTrip 56 = .ok (.bipush 12, 2) := by decide +kernel
theorem dX9_layTrip_58 : decode cX9_layTrip 58 = .ok (.iload_n 1, 1) := by decide +kernel
theorem dX9_layTrip_59 : decode cX9_layTrip 59 = .ok (.imul, 1) := by decide +kernel
theorem dX9_layTrip_60 : decode cX9_layTrip 60 = .ok (.iload 6, 2) := by decide +kernel
theorem dX9_layTrip_62 : decode cX9_layTrip 62 = .ok (.iadd, 1) := by decide +kernel
theorem dX9_layTrip_63 : decode cX9_layTrip 63 = .ok (.iaload, 1) := by decide +kernel
theorem dX9_layTrip_64 : decode cX9_layTrip 64 = .ok (.if_icmp .ge 17, 3) := by decide +kernel
theorem dX9_layTrip_67 : decode cX9_layTrip 67 = .ok (.aload_n 0, 1) := by decide +kernel
theorem dX9_layTrip_68 : decode cX9_layTrip 68 = .ok (.getfield 38, 3) := by decide +kernel
theorem dX9_layTrip_71 : decode cX9_layTrip 71 = .ok (.bipush 12, 2) := by decide +kernel
theorem dX9_layTrip_73 : decode cX9_layTrip 73 = .ok (.iload_n 1, 1) := by decide +kernel
theorem dX9_layTrip_74 : decode cX9_layTrip 74 = .ok (.imul, 1) := by decide +kernel
theorem dX9_layTrip_75 : decode cX9_layTrip 75 = .ok (.iload 6, 2) := by decide +kernel
theorem dX9_layTrip_77 : decode cX9_layTrip 77 = .ok (.iadd, 1) := by decide +kernel
theorem dX9_layTrip_78 : decode cX9_layTrip 78 = .ok (.iload 7, 2) := by decide +kernel
theorem dX9_layTrip_80 : decode cX9_layTrip 80 = .ok (.iastore, 1) := by decide +kernel
theorem dX9_layTrip_81 : decode cX9_layTrip 81 = .ok (.iload 4, 2) := by decide +kernel
theorem dX9_layTrip_83 : decode cX9_layTrip 83 = .ok (.ifCond .ne 31, 3) := by decide +kernel
theorem dX9_layTrip_86 : decode cX9_layTrip 86 = .ok (.iload 6, 2) := by decide +kernel
theorem dX9_layTrip_88 : decode cX9_layTrip 88 = .ok (.aload_n 0, 1) := by decide +kernel
theorem dX9_layTrip_89 : decode cX9_layTrip 89 = .ok (.getfield 35, 3) := by decide +kernel
theorem dX9_layTrip_92 : decode cX9_layTrip 92 = .ok (.if_icmp .eq 26, 3) := by decide +kernel
theorem dX9_layTrip_95 : decode cX9_layTrip 95 = .ok (.aload_n 0, 1) := by decide +kernel
theorem dX9_layTrip_96 : decode cX9_layTrip 96 = .ok (.getfield 41, 3) := by decide +kernel
theorem dX9_layTrip_99 : decode cX9_layTrip 99 = .ok (.bipush 12, 2) := by decide +kernel
theorem dX9_layTrip_101 : decode cX9_layTrip 101 = .ok (.iload_n 1, 1) := by decide +kernel
theorem dX9_layTrip_102 : decode cX9_layTrip 102 = .ok (.iconst 1, 1) := by decide +kernel
theorem dX9_layTrip_103 : decode cX9_layTrip 103 = .ok (.isub, 1) := by decide +kernel
theorem dX9_layTrip_104 : decode cX9_layTrip 104 = .ok (.imul, 1) := by decide +kernel
theorem dX9_layTrip_105 : decode cX9_layTrip 105 = .ok (.iload 6, 2) := by decide +kernel
theorem dX9_layTrip_107 : decode cX9_layTrip 107 = .ok (.iadd, 1) := by decide +kernel
theorem dX9_layTrip_108 : decode cX9_layTrip 108 = .ok (.iaload, 1) := by decide +kernel
theorem dX9_layTrip_109 : decode cX9_layTrip 109 = .ok (.iload 7, 2) := by decide +kernel
theorem dX9_layTrip_111 : decode cX9_layTrip 111 = .ok (.if_icmp .gt 7, 3) := by decide +kernel
theorem dX9_layTrip_114 : decode cX9_layTrip 114 = .ok (.iconst 1, 1) := by decide +kernel
theorem dX9_layTrip_115 : decode cX9_layTrip 115 = .ok (.goto 4, 3) := by decide +kernel
theorem dX9_layTrip_118 : decode cX9_layTrip 118 = .ok (.iconst 0, 1) := by decide +kernel
theorem dX9_layTrip_119 : decode cX9_layTrip 119 = .ok (.istore 4, 2) := by decide +kernel
theorem dX9_layTrip_121 : decode cX9_layTrip 121 = .ok (.iinc 5 1, 3) := by decide +kernel
theorem dX9_layTrip_124 : decode cX9_layTrip 124 = .ok (.goto (-118), 3) := by decide +kernel
theorem dX9_layTrip_127 : decode cX9_layTrip 127 = .ok (.return_, 1) := by decide +kernel
theorem dX9_layRounds_0 : decode cX9_layRounds 0 = .ok (.aload_n 0, 1) := by decide +kernel
theorem dX9_layRounds_1 : decode cX9_layRounds 1 = .ok (.iload_n 1, 1) := by decide +kernel
theorem dX9_layRounds_2 : decode cX9_layRounds 2 = .ok (.putfield 124, 3) := by decide +kernel
theorem dX9_layRounds_5 : decode cX9_layRounds 5 = .ok (.iconst 0, 1) := by decide +kernel
theorem dX9_layRounds_6 : decode cX9_layRounds 6 = .ok (.istore_n 3, 1) := by decide +kernel
theorem dX9_layRounds_7 : decode cX9_layRounds 7 = .ok (.iload_n 3, 1) := by decide +kernel
theorem dX9_layRounds_8 : decode cX9_layRounds 8 = .ok (.bipush 12, 2) := by decide +kernel
theorem dX9_layRounds_10 : decode cX9_layRounds 10 = .ok (.if_icmp .ge 26, 3) := by decide +kernel
theorem dX9_layRounds_13 : decode cX9_layRounds 13 = .ok (.aload_n 0, 1) := by decide +kernel
theorem dX9_layRounds_14 : decode cX9_layRounds 14 = .ok (.getfield 38, 3) := by decide +kernel
theorem dX9_layRounds_17 : decode cX9_layRounds 17 = .ok (.iload_n 3, 1) := by decide +kernel
theorem dX9_layRounds_18 : decode cX9_layRounds 18 = .ok (.iload_n 3, 1) := by decide +kernel
theorem dX9_layRounds_19 : decode cX9_layRounds 19 = .ok (.iload_n 1, 1) := by decide +kernel
theorem dX9_layRounds_20 : decode cX9_layRounds 20 = .ok (.if_icmp .ne 7, 3) := by decide +kernel
theorem dX9_layRounds_23 : decode cX9_layRounds 23 = .ok (.iload_n 2, 1) := by decide +kernel
theorem dX9_layRounds_24 : decode cX9_layRounds 24 = .ok (.goto 5, 3) := by decide +kernel
theorem dX9_layRounds_27 : decode cX9_layRounds 27 = .ok (.ldc 112, 2) := by decide +kernel
theorem dX9_layRounds_29 : decode cX9_layRounds 29 = .ok (.iastore, 1) := by decide +kernel
theorem dX9_layRounds_30 : decode cX9_layRounds 30 = .ok (.iinc 3 1, 3) := by decide +kernel
theorem dX9_layRounds_33 : decode cX9_layRounds 33 = .ok (.goto (-26), 3) := by decide +kernel
theorem dX9_layRounds_36 : decode cX9_layRounds 36 = .ok (.aload_n 0, 1) := by decide +kernel
theorem dX9_layRounds_37 : decode cX9_layRounds 37 = .ok (.iconst 0, 1) := by decide +kernel
theorem dX9_layRounds_38 : decode cX9_layRounds 38 = .ok (.invokevirtual 127, 3) := by decide +kernel
theorem dX9_layRounds_41 : decode cX9_layRounds 41 = .ok (.iconst 1, 1) := by decide +kernel
theorem dX9_layRounds_42 : decode cX9_layRounds 42 = .ok (.istore_n 3, 1) := by decide +kernel
theorem dX9_layRounds_43 : decode cX9_layRounds 43 = .ok (.iload_n 3, 1) := by decide +kernel
theorem dX9_layRounds_44 : decode cX9_layRounds 44 = .ok (.bipush 6, 2) := by decide +kernel
theorem dX9_layRounds_46 : decode cX9_layRounds 46 = .ok (.if_icmp .gt 115, 3) := by decide +kernel
theorem dX9_layRounds_49 : decode cX9_layRounds 49 = .ok (.iconst 0, 1) := by decide +kernel
theorem dX9_layRounds_50 : decode cX9_layRounds 50 = .ok (.istore 4, 2) := by decide +kernel
theorem dX9_layRounds_52 : decode cX9_layRounds 52 = .ok (.iload 4, 2) := by decide +kernel
theorem dX9_layRounds_54 : decode cX9_layRounds 54 = .ok (.bipush 12, 2) := by decide +kernel
theorem dX9_layRounds_56 : decode cX9_layRounds 56 = .ok (.if_icmp .ge 35, 3) := by decide +kernel
theorem dX9_layRounds_59 : decode cX9_layRounds 59 = .ok (.aload_n 0, 1) := by decide +kernel
theorem dX9_layRounds_60 : decode cX9_layRounds 60 = .ok (.getfield 38, 3) := by decide +kernel
theorem dX9_layRounds_63 : decode cX9_layRounds 63 = .ok (.bipush 12, 2) := by decide +kernel
theorem dX9_layRounds_65 : decode cX9_layRounds 65 = .ok (.iload_n 3, 1) := by decide +kernel
theorem dX9_layRounds_66 : decode cX9_layRounds 66 = .ok (.imul, 1) := by decide +kernel
theorem dX9_layRounds_67 : decode cX9_layRounds 67 = .ok (.iload 4, 2) := by decide +kernel
theorem dX9_layRounds_69 : decode cX9_layRounds 69 = .ok (.iadd, 1) := by decide +kernel
theorem dX9_layRounds_70 : decode cX9_layRounds 70 = .ok (.aload_n 0, 1) := by decide +kernel
theorem dX9_layRounds_71 : decode cX9_layRounds 71 = .ok (.getfield 38, 3) := by decide +kernel
theorem dX9_layRounds_74 : decode cX9_layRounds 74 = .ok (.bipush 12, 2) := by decide +kernel
theorem dX9_layRounds_76 : decode cX9_layRounds 76 = .ok (.iload_n 3, 1) := by decide +kernel
theorem dX9_layRounds_77 : decode cX9_layRounds 77 = .ok (.iconst 1, 1) := by decide +kernel
theorem dX9_layRounds_78 : decode cX9_layRounds 78 = .ok (.isub, 1) := by decide +kernel
theorem dX9_layRounds_79 : decode cX9_layRounds 79 = .ok (.imul, 1) := by decide +kernel
theorem dX9_layRounds_80 : decode cX9_layRounds 80 = .ok (.iload 4, 2) := by decide +kernel
theorem dX9_layRounds_82 : decode cX9_layRounds 82 = .ok (.iadd, 1) := by decide +kernel
theorem dX9_layRounds_83 : decode cX9_layRounds 83 = .ok (.iaload, 1) := by decide +kernel
theorem dX9_layRounds_84 : decode cX9_layRounds 84 = .ok (.iastore, 1) := by decide +kernel
theorem dX9_layRounds_85 : decode cX9_layRounds 85 = .ok (.iinc 4 1, 3) := by decide +kernel
theorem dX9_layRounds_88 : decode cX9_layRounds 88 = .ok (.goto (-36), 3) := by decide +kernel
theorem dX9_layRounds_91 : decode cX9_layRounds 91 = .ok (.iconst 0, 1) := by decide +kernel
theorem dX9_layRounds_92 : decode cX9_layRounds 92 = .ok (.istore 4, 2) := by decide +kernel
theorem dX9_layRounds_94 : decode cX9_layRounds 94 = .ok (.iload 4, 2) := by decide +kernel
theorem dX9_layRounds_96 : decode cX9_layRounds 96 = .ok (.aload_n 0, 1) := by decide +kernel
theorem dX9_layRounds_97 : decode cX9_layRounds 97 = .ok (.getfield 98, 3) := by decide +kernel
theorem dX9_layRounds_100 : decode cX9_layRounds 100 = .ok (.if_icmp .ge 50, 3) := by decide +kernel
theorem dX9_layRounds_103 : decode cX9_layRounds 103 = .ok (.iconst 0, 1) := by decide +kernel
theorem dX9_layRounds_104 : decode cX9_layRounds 104 = .ok (.istore 5, 2) := by decide +kernel
theorem dX9_layRounds_106 : decode cX9_layRounds 106 = .ok (.iload 5, 2) := by decide +kernel
theorem dX9_layRounds_108 : decode cX9_layRounds 108 = .ok (.aload_n 0, 1) := by decide +kernel
theorem dX9_layRounds_109 : decode cX9_layRounds 109 = .ok (.getfield 19, 3) := by decide +kernel
theorem dX9_layRounds_112 : decode cX9_layRounds 112 = .ok (.iload 4, 2) := by decide +kernel
theorem dX9_layRounds_114 : decode cX9_layRounds 114 = .ok (.iaload, 1) := by decide +kernel
theorem dX9_layRounds_115 : decode cX9_layRounds 115 = .ok (.if_icmp .ge 29, 3) := by decide +kernel
theorem dX9_layRounds_118 : decode cX9_layRounds 118 = .ok (.aload_n 0, 1) := by decide +kernel
theorem dX9_layRounds_119 : decode cX9_layRounds 119 = .ok (.iload 4, 2) := by decide +kernel
theorem dX9_layRounds_121 : decode cX9_layRounds 121 = .ok (.iload 5, 2) := by decide +kernel
theorem dX9_layRounds_123 : decode cX9_layRounds 123 = .ok (.invokevirtual 131, 3) := by decide +kernel
theorem dX9_layRounds_126 : decode cX9_layRounds 126 = .ok (.ifCond .eq 12, 3) := by decide +kernel
theorem dX9_layRounds_129 : decode cX9_layRounds 129 = .ok (.aload_n 0, 1) := by decide +kernel
theorem dX9_layRounds_130 : decode cX9_layRounds 130 = .ok (.iload_n 3, 1) := by decide +kernel
theorem dX9_layRounds_131 : decode cX9_layRounds 131 = .ok (.iload 4, 2) := by decide +kernel
theorem dX9_layRounds_133 : decode cX9_layRounds 133 = .ok (.iload 5, 2) := by decide +kernel
theorem dX9_layRounds_135 : decode cX9_layRounds 135 = .ok (.invokevirtual 134, 3) := by decide +kernel
theorem dX9_layRounds_138 : decode cX9_layRounds 138 = .ok (.iinc 5 1, 3) := by decide +kernel
theorem dX9_layRounds_141 : decode cX9_layRounds 141 = .ok (.goto (-35), 3) := by decide +kernel
theorem dX9_layRounds_144 : decode cX9_layRounds 144 = .ok (.iinc 4 1, 3) := by decide +kernel
theorem dX9_layRounds_147 : decode cX9_layRounds 147 = .ok (.goto (-53), 3) := by decide +kernel
theorem dX9_layRounds_150 : decode cX9_layRounds 150 = .ok (.aload_n 0, 1) := by decide +kernel
theorem dX9_layRounds_151 : decode cX9_layRounds 151 = .ok (.iload_n 3, 1) := by decide +kernel
theorem dX9_layRounds_152 : decode cX9_layRounds 152 = .ok (.invokevirtual 127, 3) := by decide +kernel
theorem dX9_layRounds_155 : decode cX9_layRounds 155 = .ok (.iinc 3 1, 3) := by decide +kernel
theorem dX9_layRounds_158 : decode cX9_layRounds 158 = .ok (.goto (-115), 3) := by decide +kernel
theorem dX9_layRounds_161 : decode cX9_layRounds 161 = .ok (.iconst 0, 1) := by decide +kernel
theorem dX9_layRounds_162 : decode cX9_layRounds 162 = .ok (.istore_n 3, 1) := by decide +kernel
theorem dX9_layRounds_163 : decode cX9_layRounds 163 = .ok (.iload_n 3, 1) := by decide +kernel
theorem dX9_layRounds_164 : decode cX9_layRounds 164 = .ok (.bipush 6, 2) := by decide +kernel
theorem dX9_layRounds_166 : decode cX9_layRounds 166 = .ok (.if_icmp .gt 21, 3) := by decide +kernel
theorem dX9_layRounds_169 : decode cX9_layRounds 169 = .ok (.aload_n 0, 1) := by decide +kernel
theorem dX9_layRounds_170 : decode cX9_layRounds 170 = .ok (.getfield 41, 3) := by decide +kernel
theorem dX9_layRounds_173 : decode cX9_layRounds 173 = .ok (.bipush 12, 2) := by decide +kernel
theorem dX9_layRounds_175 : decode cX9_layRounds 175 = .ok (.iload_n 3, 1) := by decide +kernel
theorem dX9_layRounds_176 : decode cX9_layRounds 176 = .ok (.imul, 1) := by decide +kernel
theorem dX9_layRounds_177 : decode cX9_layRounds 177 = .ok (.iload_n 1, 1) := by decide +kernel
theorem dX9_layRounds_178 : decode cX9_layRounds 178 = .ok (.iadd, 1) := by decide +kernel
theorem dX9_layRounds_179 : decode cX9_layRounds 179 = .ok (.iload_n 2, 1) := by decide +kernel
theorem dX9_layRounds_180 : decode cX9_layRounds 180 = .ok (.iastore, 1) := by decide +kernel
theorem dX9_layRounds_181 : decode cX9_layRounds 181 = .ok (.iinc 3 1, 3) := by decide +kernel
theorem dX9_layRounds_184 : decode cX9_layRounds 184 = .ok (.goto (-21), 3) := by decide +kernel
theorem dX9_layRounds_187 : decode cX9_layRounds 187 = .ok (.return_, 1) := by decide +kernel
theorem dX9_earliestOf_0 : decode cX9_earliestOf 0 = .ok (.aload_n 0, 1) := by decide +kernel
theorem dX9_earliestOf_1 : decode cX9_earliestOf 1 = .ok (.iload_n 1, 1) := by decide +kernel
theorem dX9_earliestOf_2 : decode cX9_earliestOf 2 = .ok (.iload_n 2, 1) := by decide +kernel
theorem dX9_earliestOf_3 : decode cX9_earliestOf 3 = .ok (.invokevirtual 138, 3) := by decide +kernel
theorem dX9_earliestOf_6 : decode cX9_earliestOf 6 = .ok (.aload_n 0, 1) := by decide +kernel
theorem dX9_earliestOf_7 : decode cX9_earliestOf 7 = .ok (.getfield 41, 3) := by decide +kernel
theorem dX9_earliestOf_10 : decode cX9_earliestOf 10 = .ok (.bipush 12, 2) := by decide +kernel
theorem dX9_earliestOf_12 : decode cX9_earliestOf 12 = .ok (.iload 4, 2) := by decide +kernel
theorem dX9_earliestOf_14 : decode cX9_earliestOf 14 = .ok (.imul, 1) := by decide +kernel
theorem dX9_earliestOf_15 : decode cX9_earliestOf 15 = .ok (.iload_n 3, 1) := by decide +kernel
theorem dX9_earliestOf_16 : decode cX9_earliestOf 16 = .ok (.iadd, 1) := by decide +kernel
theorem dX9_earliestOf_17 : decode cX9_earliestOf 17 = .ok (.iaload, 1) := by decide +kernel
theorem dX9_earliestOf_18 : decode cX9_earliestOf 18 = .ok (.ireturn, 1) := by decide +kernel
theorem dX9_boardedAt_0 : decode cX9_boardedAt 0 = .ok (.iconst (-1), 1) := by decide +kernel
theorem dX9_boardedAt_1 : decode cX9_boardedAt 1 = .ok (.istore 6, 2) := by decide +kernel
theorem dX9_boardedAt_3 : decode cX9_boardedAt 3 = .ok (.iconst 0, 1) := by decide +kernel
theorem dX9_boardedAt_4 : decode cX9_boardedAt 4 = .ok (.istore 7, 2) := by decide +kernel
theorem dX9_boardedAt_6 : decode cX9_boardedAt 6 = .ok (.iload 7, 2) := by decide +kernel
theorem dX9_boardedAt_8 : decode cX9_boardedAt 8 = .ok (.aload_n 0, 1) := by decide +kernel
theorem dX9_boardedAt_9 : decode cX9_boardedAt 9 = .ok (.getfield 13, 3) := by decide +kernel
theorem dX9_boardedAt_12 : decode cX9_boardedAt 12 = .ok (.iload_n 1, 1) := by decide +kernel
theorem dX9_boardedAt_13 : decode cX9_boardedAt 13 = .ok (.iaload, 1) := by decide +kernel
theorem dX9_boardedAt_14 : decode cX9_boardedAt 14 = .ok (.if_icmp .ge 42, 3) := by decide +kernel
theorem dX9_boardedAt_17 : decode cX9_boardedAt 17 = .ok (.aload_n 0, 1) := by decide +kernel
theorem dX9_boardedAt_18 : decode cX9_boardedAt 18 = .ok (.iload_n 1, 1) := by decide +kernel
theorem dX9_boardedAt_19 : decode cX9_boardedAt 19 = .ok (.iload 7, 2) := by decide +kernel
theorem dX9_boardedAt_21 : decode cX9_boardedAt 21 = .ok (.invokevirtual 117, 3) := by decide +kernel
theorem dX9_boardedAt_24 : decode cX9_boardedAt 24 = .ok (.iload_n 3, 1) := by decide +kernel
theorem dX9_boardedAt_25 : decode cX9_boardedAt 25 = .ok (.if_icmp .ne 21, 3) := by decide +kernel
theorem dX9_boardedAt_28 : decode cX9_boardedAt 28 = .ok (.aload_n 0, 1) := by decide +kernel
theorem dX9_boardedAt_29 : decode cX9_boardedAt 29 = .ok (.iload_n 1, 1) := by decide +kernel
theorem dX9_boardedAt_30 : decode cX9_boardedAt 30 = .ok (.iload_n 2, 1) := by decide +kernel
theorem dX9_boardedAt_31 : decode cX9_boardedAt 31 = .ok (.iload 7, 2) := by decide +kernel
theorem dX9_boardedAt_33 : decode cX9_boardedAt 33 = .ok (.invokevirtual 120, 3) := by decide +kernel
theorem dX9_boardedAt_36 : decode cX9_boardedAt 36 = .ok (.iload 4, 2) := by decide +kernel
theorem dX9_boardedAt_38 : decode cX9_boardedAt 38 = .ok (.if_icmp .ne 8, 3) := by decide +kernel
theorem dX9_boardedAt_41 : decode cX9_boardedAt 41 = .ok (.iload 7, 2) := by decide +kernel
theorem dX9_boardedAt_43 : decode cX9_boardedAt 43 = .ok (.goto 5, 3) := by decide +kernel
theorem dX9_boardedAt_46 : decode cX9_boardedAt 46 = .ok (.iload 6, 2) := by decide +kernel
theorem dX9_boardedAt_48 : decode cX9_boardedAt 48 = .ok (.istore 6, 2) := by decide +kernel
theorem dX9_boardedAt_50 : decode cX9_boardedAt 50 = .ok (.iinc 7 1, 3) := by decide +kernel
theorem dX9_boardedAt_53 : decode cX9_boardedAt 53 = .ok (.goto (-47), 3) := by decide +kernel
theorem dX9_boardedAt_56 : decode cX9_boardedAt 56 = .ok (.iconst (-1), 1) := by decide +kernel
theorem dX9_boardedAt_57 : decode cX9_boardedAt 57 = .ok (.istore 7, 2) := by decide +kernel
theorem dX9_boardedAt_59 : decode cX9_boardedAt 59 = .ok (.iconst 0, 1) := by decide +kernel
theorem dX9_boardedAt_60 : decode cX9_boardedAt 60 = .ok (.istore 8, 2) := by decide +kernel
theorem dX9_boardedAt_62 : decode cX9_boardedAt 62 = .ok (.iload 8, 2) := by decide +kernel
theorem dX9_boardedAt_64 : decode cX9_boardedAt 64 = .ok (.iload 6, 2) := by decide +kernel
theorem dX9_boardedAt_66 : decode cX9_boardedAt 66 = .ok (.if_icmp .ge 49, 3) := by decide +kernel
theorem dX9_boardedAt_69 : decode cX9_boardedAt 69 = .ok (.aload_n 0, 1) := by decide +kernel
theorem dX9_boardedAt_70 : decode cX9_boardedAt 70 = .ok (.getfield 41, 3) := by decide +kernel
theorem dX9_boardedAt_73 : decode cX9_boardedAt 73 = .ok (.bipush 12, 2) := by decide +kernel
theorem dX9_boardedAt_75 : decode cX9_boardedAt 75 = .ok (.iload 5, 2) := by decide +kernel
theorem dX9_boardedAt_77 : decode cX9_boardedAt 77 = .ok (.iconst 1, 1) := by decide +kernel
theorem dX9_boardedAt_78 : decode cX9_boardedAt 78 = .ok (.isub, 1) := by decide +kernel
theorem dX9_boardedAt_79 : decode cX9_boardedAt 79 = .ok (.imul, 1) := by decide +kernel
theorem dX9_boardedAt_80 : decode cX9_boardedAt 80 = .ok (.aload_n 0, 1) := by decide +kernel
theorem dX9_boardedAt_81 : decode cX9_boardedAt 81 = .ok (.iload_n 1, 1) := by decide +kernel
theorem dX9_boardedAt_82 : decode cX9_boardedAt 82 = .ok (.iload 8, 2) := by decide +kernel
theorem dX9_boardedAt_84 : decode cX9_boardedAt 84 = .ok (.invokevirtual 117, 3) := by decide +kernel
theorem dX9_boardedAt_87 : decode cX9_boardedAt 87 = .ok (.iadd, 1) := by decide +kernel
theorem dX9_boardedAt_88 : decode cX9_boardedAt 88 = .ok (.iaload, 1) := by decide +kernel
theorem dX9_boardedAt_89 : decode cX9_boardedAt 89 = .ok (.aload_n 0, 1) := by decide +kernel
theorem dX9_boardedAt_90 : decode cX9_boardedAt 90 = .ok (.iload_n 1, 1) := by decide +kernel
theorem dX9_boardedAt_91 : decode cX9_boardedAt 91 = .ok (.iload_n 2, 1) := by decide +kernel
theorem dX9_boardedAt_92 : decode cX9_boardedAt 92 = .ok (.iload 8, 2) := by decide +kernel
theorem dX9_boardedAt_94 : decode cX9_boardedAt 94 = .ok (.invokevirtual 120, 3) := by decide +kernel
theorem dX9_boardedAt_97 : decode cX9_boardedAt 97 = .ok (.if_icmp .gt 8, 3) := by decide +kernel
theorem dX9_boardedAt_100 : decode cX9_boardedAt 100 = .ok (.iload 8, 2) := by decide +kernel
theorem dX9_boardedAt_102 : decode cX9_boardedAt 102 = .ok (.goto 5, 3) := by decide +kernel
theorem dX9_boardedAt_105 : decode cX9_boardedAt 105 = .ok (.iload 7, 2) := by decide +kernel
theorem dX9_boardedAt_107 : decode cX9_boardedAt 107 = .ok (.istore 7, 2) := by decide +kernel
theorem dX9_boardedAt_109 : decode cX9_boardedAt 109 = .ok (.iinc 8 1, 3) := by decide +kernel
theorem dX9_boardedAt_112 : decode cX9_boardedAt 112 = .ok (.goto (-50), 3) := by decide +kernel
theorem dX9_boardedAt_115 : decode cX9_boardedAt 115 = .ok (.iload 7, 2) := by decide +kernel
theorem dX9_boardedAt_117 : decode cX9_boardedAt 117 = .ok (.ireturn, 1) := by decide +kernel
theorem dX9_seekRide_0 : decode cX9_seekRide 0 = .ok (.iconst 0, 1) := by decide +kernel
theorem dX9_seekRide_1 : decode cX9_seekRide 1 = .ok (.istore 4, 2) := by decide +kernel
theorem dX9_seekRide_3 : decode cX9_seekRide 3 = .ok (.iload 4, 2) := by decide +kernel
theorem dX9_seekRide_5 : decode cX9_seekRide 5 = .ok (.aload_n 0, 1) := by decide +kernel
theorem dX9_seekRide_6 : decode cX9_seekRide 6 = .ok (.getfield 98, 3) := by decide +kernel
theorem dX9_seekRide_9 : decode cX9_seekRide 9 = .ok (.if_icmp .ge 87, 3) := by decide +kernel
theorem dX9_seekRide_12 : decode cX9_seekRide 12 = .ok (.iload_n 3, 1) := by decide +kernel
theorem dX9_seekRide_13 : decode cX9_seekRide 13 = .ok (.ifCond .le 83, 3) := by decide +kernel
theorem dX9_seekRide_16 : decode cX9_seekRide 16 = .ok (.iconst 0, 1) := by decide +kernel
theorem dX9_seekRide_17 : decode cX9_seekRide 17 = .ok (.istore 5, 2) := by decide +kernel
theorem dX9_seekRide_19 : decode cX9_seekRide 19 = .ok (.iload 5, 2) := by decide +kernel
theorem dX9_seekRide_21 : decode cX9_seekRide 21 = .ok (.aload_n 0, 1) := by decide +kernel
theorem dX9_seekRide_22 : decode cX9_seekRide 22 = .ok (.getfield 19, 3) := by decide +kernel
theorem dX9_seekRide_25 : decode cX9_seekRide 25 = .ok (.iload 4, 2) := by decide +kernel
theorem dX9_seekRide_27 : decode cX9_seekRide 27 = .ok (.iaload, 1) := by decide +kernel
theorem dX9_seekRide_28 : decode cX9_seekRide 28 = .ok (.if_icmp .ge 62, 3) := by decide +kernel
theorem dX9_seekRide_31 : decode cX9_seekRide 31 = .ok (.aload_n 0, 1) := by decide +kernel
theorem dX9_seekRide_32 : decode cX9_seekRide 32 = .ok (.iload 4, 2) := by decide +kernel
theorem dX9_seekRide_34 : decode cX9_seekRide 34 = .ok (.iload 5, 2) := by decide +kernel
theorem dX9_seekRide_36 : decode cX9_seekRide 36 = .ok (.invokevirtual 131, 3) := by decide +kernel
theorem dX9_seekRide_39 : decode cX9_seekRide 39 = .ok (.ifCond .eq 17, 3) := by decide +kernel
theorem dX9_seekRide_42 : decode cX9_seekRide 42 = .ok (.aload_n 0, 1) := by decide +kernel
theorem dX9_seekRide_43 : decode cX9_seekRide 43 = .ok (.iload 4, 2) := by decide +kernel
theorem dX9_seekRide_45 : decode cX9_seekRide 45 = .ok (.iload 5, 2) := by decide +kernel
theorem dX9_seekRide_47 : decode cX9_seekRide 47 = .ok (.iload_n 1, 1) := by decide +kernel
theorem dX9_seekRide_48 : decode cX9_seekRide 48 = .ok (.iload_n 2, 1) := by decide +kernel
theorem dX9_seekRide_49 : decode cX9_seekRide 49 = .ok (.iload_n 3, 1) := by decide +kernel
theorem dX9_seekRide_50 : decode cX9_seekRide 50 = .ok (.invokevirtual 142, 3) := by decide +kernel
theorem dX9_seekRide_53 : decode cX9_seekRide 53 = .ok (.goto 4, 3) := by decide +kernel
theorem dX9_seekRide_56 : decode cX9_seekRide 56 = .ok (.iconst (-1), 1) := by decide +kernel
theorem dX9_seekRide_57 : decode cX9_seekRide 57 = .ok (.istore 6, 2) := by decide +kernel
theorem dX9_seekRide_59 : decode cX9_seekRide 59 = .ok (.iload 6, 2) := by decide +kernel
theorem dX9_seekRide_61 : decode cX9_seekRide 61 = .ok (.ifCond .lt 23, 3) := by decide +kernel
theorem dX9_seekRide_64 : decode cX9_seekRide 64 = .ok (.aload_n 0, 1) := by decide +kernel
theorem dX9_seekRide_65 : decode cX9_seekRide 65 = .ok (.iload 4, 2) := by decide +kernel
theorem dX9_seekRide_67 : decode cX9_seekRide 67 = .ok (.putfield 146, 3) := by decide +kernel
theorem dX9_seekRide_70 : decode cX9_seekRide 70 = .ok (.aload_n 0, 1) := by decide +kernel
theorem dX9_seekRide_71 : decode cX9_seekRide 71 = .ok (.iload 5, 2) := by decide +kernel
theorem dX9_seekRide_73 : decode cX9_seekRide 73 = .ok (.putfield 149, 3) := by decide +kernel
theorem dX9_seekRide_76 : decode cX9_seekRide 76 = .ok (.aload_n 0, 1) := by decide +kernel
theorem dX9_seekRide_77 : decode cX9_seekRide 77 = .ok (.iload 6, 2) := by decide +kernel
theorem dX9_seekRide_79 : decode cX9_seekRide 79 = .ok (.putfield 152, 3) := by decide +kernel
theorem dX9_seekRide_82 : decode cX9_seekRide 82 = .ok (.iconst 1, 1) := by decide +kernel
theorem dX9_seekRide_83 : decode cX9_seekRide 83 = .ok (.ireturn, 1) := by decide +kernel
theorem dX9_seekRide_84 : decode cX9_seekRide 84 = .ok (.iinc 5 1, 3) := by decide +kernel
theorem dX9_seekRide_87 : decode cX9_seekRide 87 = .ok (.goto (-68), 3) := by decide +kernel
theorem dX9_seekRide_90 : decode cX9_seekRide 90 = .ok (.iinc 4 1, 3) := by decide +kernel
theorem dX9_seekRide_93 : decode cX9_seekRide 93 = .ok (.goto (-90), 3) := by decide +kernel
theorem dX9_seekRide_96 : decode cX9_seekRide 96 = .ok (.iconst 0, 1) := by decide +kernel
theorem dX9_seekRide_97 : decode cX9_seekRide 97 = .ok (.ireturn, 1) := by decide +kernel
theorem dX9_putRide_0 : decode cX9_putRide 0 = .ok (.aload_n 0, 1) := by decide +kernel
theorem dX9_putRide_1 : decode cX9_putRide 1 = .ok (.getfield 155, 3) := by decide +kernel
theorem dX9_putRide_4 : decode cX9_putRide 4 = .ok (.istore_n 3, 1) := by decide +kernel
theorem dX9_putRide_5 : decode cX9_putRide 5 = .ok (.aload_n 0, 1) := by decide +kernel
theorem dX9_putRide_6 : decode cX9_putRide 6 = .ok (.getfield 146, 3) := by decide +kernel
theorem dX9_putRide_9 : decode cX9_putRide 9 = .ok (.istore 4, 2) := by decide +kernel
theorem dX9_putRide_11 : decode cX9_putRide 11 = .ok (.aload_n 0, 1) := by decide +kernel
theorem dX9_putRide_12 : decode cX9_putRide 12 = .ok (.getfield 44, 3) := by decide +kernel
theorem dX9_putRide_15 : decode cX9_putRide 15 = .ok (.iload_n 3, 1) := by decide +kernel
theorem dX9_putRide_16 : decode cX9_putRide 16 = .ok (.iload 4, 2) := by decide +kernel
theorem dX9_putRide_18 : decode cX9_putRide 18 = .ok (.iastore, 1) := by decide +kernel
theorem dX9_putRide_19 : decode cX9_putRide 19 = .ok (.aload_n 0, 1) := by decide +kernel
theorem dX9_putRide_20 : decode cX9_putRide 20 = .ok (.getfield 47, 3) := by decide +kernel
theorem dX9_putRide_23 : decode cX9_putRide 23 = .ok (.iload_n 3, 1) := by decide +kernel
theorem dX9_putRide_24 : decode cX9_putRide 24 = .ok (.aload_n 0, 1) := by decide +kernel
theorem dX9_putRide_25 : decode cX9_putRide 25 = .ok (.getfield 149, 3) := by decide +kernel
theorem dX9_putRide_28 : decode cX9_putRide 28 = .ok (.iastore, 1) := by decide +kernel
theorem dX9_putRide_29 : decode cX9_putRide 29 = .ok (.aload_n 0, 1) := by decide +kernel
theorem dX9_putRide_30 : decode cX9_putRide 30 = .ok (.getfield 50, 3) := by decide +kernel
theorem dX9_putRide_33 : decode cX9_putRide 33 = .ok (.iload_n 3, 1) := by decide +kernel
theorem dX9_putRide_34 : decode cX9_putRide 34 = .ok (.aload_n 0, 1) := by decide +kernel
theorem dX9_putRide_35 : decode cX9_putRide 35 = .ok (.iload 4, 2) := by decide +kernel
theorem dX9_putRide_37 : decode cX9_putRide 37 = .ok (.aload_n 0, 1) := by decide +kernel
theorem dX9_putRide_38 : decode cX9_putRide 38 = .ok (.getfield 152, 3) := by decide +kernel
theorem dX9_putRide_41 : decode cX9_putRide 41 = .ok (.invokevirtual 117, 3) := by decide +kernel
theorem dX9_putRide_44 : decode cX9_putRide 44 = .ok (.iastore, 1) := by decide +kernel
theorem dX9_putRide_45 : decode cX9_putRide 45 = .ok (.aload_n 0, 1) := by decide +kernel
theorem dX9_putRide_46 : decode cX9_putRide 46 = .ok (.getfield 53, 3) := by decide +kernel
theorem dX9_putRide_49 : decode cX9_putRide 49 = .ok (.iload_n 3, 1) := by decide +kernel
theorem dX9_putRide_50 : decode cX9_putRide 50 = .ok (.iload_n 1, 1) := by decide +kernel
theorem dX9_putRide_51 : decode cX9_putRide 51 = .ok (.iastore, 1) := by decide +kernel
theorem dX9_putRide_52 : decode cX9_putRide 52 = .ok (.aload_n 0, 1) := by decide +kernel
theorem dX9_putRide_53 : decode cX9_putRide 53 = .ok (.getfield 56, 3) := by decide +kernel
theorem dX9_putRide_56 : decode cX9_putRide 56 = .ok (.iload_n 3, 1) := by decide +kernel
theorem dX9_putRide_57 : decode cX9_putRide 57 = .ok (.aload_n 0, 1) := by decide +kernel
theorem dX9_putRide_58 : decode cX9_putRide 58 = .ok (.iload 4, 2) := by decide +kernel
theorem dX9_putRide_60 : decode cX9_putRide 60 = .ok (.aload_n 0, 1) := by decide +kernel
theorem dX9_putRide_61 : decode cX9_putRide 61 = .ok (.getfield 149, 3) := by decide +kernel
theorem dX9_putRide_64 : decode cX9_putRide 64 = .ok (.aload_n 0, 1) := by decide +kernel
theorem dX9_putRide_65 : decode cX9_putRide 65 = .ok (.getfield 152, 3) := by decide +kernel
theorem dX9_putRide_68 : decode cX9_putRide 68 = .ok (.invokevirtual 120, 3) := by decide +kernel
theorem dX9_putRide_71 : decode cX9_putRide 71 = .ok (.iastore, 1) := by decide +kernel
theorem dX9_putRide_72 : decode cX9_putRide 72 = .ok (.aload_n 0, 1) := by decide +kernel
theorem dX9_putRide_73 : decode cX9_putRide 73 = .ok (.getfield 59, 3) := by decide +kernel
theorem dX9_putRide_76 : decode cX9_putRide 76 = .ok (.iload_n 3, 1) := by decide +kernel
theorem dX9_putRide_77 : decode cX9_putRide 77 = .ok (.iload_n 2, 1) := by decide +kernel
theorem dX9_putRide_78 : decode cX9_putRide 78 = .ok (.iastore, 1) := by decide +kernel
theorem dX9_putRide_79 : decode cX9_putRide 79 = .ok (.aload_n 0, 1) := by decide +kernel
theorem dX9_putRide_80 : decode cX9_putRide 80 = .ok (.getfield 152, 3) := by decide +kernel
theorem dX9_putRide_83 : decode cX9_putRide 83 = .ok (.istore 5, 2) := by decide +kernel
theorem dX9_putRide_85 : decode cX9_putRide 85 = .ok (.aload_n 0, 1) := by decide +kernel
theorem dX9_putRide_86 : decode cX9_putRide 86 = .ok (.iload 4, 2) := by decide +kernel
theorem dX9_putRide_88 : decode cX9_putRide 88 = .ok (.iload 5, 2) := by decide +kernel
theorem dX9_putRide_90 : decode cX9_putRide 90 = .ok (.invokevirtual 117, 3) := by decide +kernel
theorem dX9_putRide_93 : decode cX9_putRide 93 = .ok (.iload_n 1, 1) := by decide +kernel
theorem dX9_putRide_94 : decode cX9_putRide 94 = .ok (.if_icmp .eq 9, 3) := by decide +kernel
theorem dX9_putRide_97 : decode cX9_putRide 97 = .ok (.iinc 5 1, 3) := by decide +kernel
theorem dX9_putRide_100 : decode cX9_putRide 100 = .ok (.goto (-15), 3) := by decide +kernel
theorem dX9_putRide_103 : decode cX9_putRide 103 = .ok (.aload_n 0, 1) := by decide +kernel
theorem dX9_putRide_104 : decode cX9_putRide 104 = .ok (.getfield 62, 3) := by decide +kernel
theorem dX9_putRide_107 : decode cX9_putRide 107 = .ok (.iload_n 3, 1) := by decide +kernel
theorem dX9_putRide_108 : decode cX9_putRide 108 = .ok (.iload 5, 2) := by decide +kernel
theorem dX9_putRide_110 : decode cX9_putRide 110 = .ok (.aload_n 0, 1) := by decide +kernel
theorem dX9_putRide_111 : decode cX9_putRide 111 = .ok (.getfield 152, 3) := by decide +kernel
theorem dX9_putRide_114 : decode cX9_putRide 114 = .ok (.isub, 1) := by decide +kernel
theorem dX9_putRide_115 : decode cX9_putRide 115 = .ok (.iastore, 1) := by decide +kernel
theorem dX9_putRide_116 : decode cX9_putRide 116 = .ok (.aload_n 0, 1) := by decide +kernel
theorem dX9_putRide_117 : decode cX9_putRide 117 = .ok (.dup, 1) := by decide +kernel
theorem dX9_putRide_118 : decode cX9_putRide 118 = .ok (.getfield 155, 3) := by decide +kernel
theorem dX9_putRide_121 : decode cX9_putRide 121 = .ok (.iconst 1, 1) := by decide +kernel
theorem dX9_putRide_122 : decode cX9_putRide 122 = .ok (.iadd, 1) := by decide +kernel
theorem dX9_putRide_123 : decode cX9_putRide 123 = .ok (.putfield 155, 3) := by decide +kernel
theorem dX9_putRide_126 : decode cX9_putRide 126 = .ok (.return_, 1) := by decide +kernel
theorem dX9_putWalk_0 : decode cX9_putWalk 0 = .ok (.aload_n 0, 1) := by decide +kernel
theorem dX9_putWalk_1 : decode cX9_putWalk 1 = .ok (.getfield 155, 3) := by decide +kernel
theorem dX9_putWalk_4 : decode cX9_putWalk 4 = .ok (.istore 4, 2) := by decide +kernel
theorem dX9_putWalk_6 : decode cX9_putWalk 6 = .ok (.aload_n 0, 1) := by decide +kernel
theorem dX9_putWalk_7 : decode cX9_putWalk 7 = .ok (.getfield 44, 3) := by decide +kernel
theorem dX9_putWalk_10 : decode cX9_putWalk 10 = .ok (.iload 4, 2) := by decide +kernel
theorem dX9_putWalk_12 : decode cX9_putWalk 12 = .ok (.bipush (-5), 2) := by decide +kernel
theorem dX9_putWalk_14 : decode cX9_putWalk 14 = .ok (.iastore, 1) := by decide +kernel
theorem dX9_putWalk_15 : decode cX9_putWalk 15 = .ok (.aload_n 0, 1) := by decide +kernel
theorem dX9_putWalk_16 : decode cX9_putWalk 16 = .ok (.getfield 47, 3) := by decide +kernel
theorem dX9_putWalk_19 : decode cX9_putWalk 19 = .ok (.iload 4, 2) := by decide +kernel
theorem dX9_putWalk_21 : decode cX9_putWalk 21 = .ok (.bipush (-5), 2) := by decide +kernel
theorem dX9_putWalk_23 : decode cX9_putWalk 23 = .ok (.iastore, 1) := by decide +kernel
theorem dX9_putWalk_24 : decode cX9_putWalk 24 = .ok (.aload_n 0, 1) := by decide +kernel
theorem dX9_putWalk_25 : decode cX9_putWalk 25 = .ok (.getfield 50, 3) := by decide +kernel
theorem dX9_putWalk_28 : decode cX9_putWalk 28 = .ok (.iload 4, 2) := by decide +kernel
theorem dX9_putWalk_30 : decode cX9_putWalk 30 = .ok (.iload_n 1, 1) := by decide +kernel
theorem dX9_putWalk_31 : decode cX9_putWalk 31 = .ok (.iastore, 1) := by decide +kernel
theorem dX9_putWalk_32 : decode cX9_putWalk 32 = .ok (.aload_n 0, 1) := by decide +kernel
theorem dX9_putWalk_33 : decode cX9_putWalk 33 = .ok (.getfield 53, 3) := by decide +kernel
theorem dX9_putWalk_36 : decode cX9_putWalk 36 = .ok (.iload 4, 2) := by decide +kernel
theorem dX9_putWalk_38 : decode cX9_putWalk 38 = .ok (.iload_n 2, 1) := by decide +kernel
theorem dX9_putWalk_39 : decode cX9_putWalk 39 = .ok (.iastore, 1) := by decide +kernel
theorem dX9_putWalk_40 : decode cX9_putWalk 40 = .ok (.aload_n 0, 1) := by decide +kernel
theorem dX9_putWalk_41 : decode cX9_putWalk 41 = .ok (.getfield 56, 3) := by decide +kernel
theorem dX9_putWalk_44 : decode cX9_putWalk 44 = .ok (.iload 4, 2) := by decide +kernel
theorem dX9_putWalk_46 : decode cX9_putWalk 46 = .ok (.iload_n 3, 1) := by decide +kernel
theorem dX9_putWalk_47 : decode cX9_putWalk 47 = .ok (.aload_n 0, 1) := by decide +kernel
theorem dX9_putWalk_48 : decode cX9_putWalk 48 = .ok (.getfield 28, 3) := by decide +kernel
theorem dX9_putWalk_51 : decode cX9_putWalk 51 = .ok (.bipush 12, 2) := by decide +kernel
theorem dX9_putWalk_53 : decode cX9_putWalk 53 = .ok (.iload_n 1, 1) := by decide +kernel
theorem dX9_putWalk_54 : decode cX9_putWalk 54 = .ok (.imul, 1) := by decide +kernel
theorem dX9_putWalk_55 : decode cX9_putWalk 55 = .ok (.iload_n 2, 1) := by decide +kernel
theorem dX9_putWalk_56 : decode cX9_putWalk 56 = .ok (.iadd, 1) := by decide +kernel
theorem dX9_putWalk_57 : decode cX9_putWalk 57 = .ok (.iaload, 1) := by decide +kernel
theorem dX9_putWalk_58 : decode cX9_putWalk 58 = .ok (.isub, 1) := by decide +kernel
theorem dX9_putWalk_59 : decode cX9_putWalk 59 = .ok (.iastore, 1) := by decide +kernel
theorem dX9_putWalk_60 : decode cX9_putWalk 60 = .ok (.aload_n 0, 1) := by decide +kernel
theorem dX9_putWalk_61 : decode cX9_putWalk 61 = .ok (.getfield 59, 3) := by decide +kernel
theorem dX9_putWalk_64 : decode cX9_putWalk 64 = .ok (.iload 4, 2) := by decide +kernel
theorem dX9_putWalk_66 : decode cX9_putWalk 66 = .ok (.iload_n 3, 1) := by decide +kernel
theorem dX9_putWalk_67 : decode cX9_putWalk 67 = .ok (.iastore, 1) := by decide +kernel
theorem dX9_putWalk_68 : decode cX9_putWalk 68 = .ok (.aload_n 0, 1) := by decide +kernel
theorem dX9_putWalk_69 : decode cX9_putWalk 69 = .ok (.getfield 62, 3) := by decide +kernel
theorem dX9_putWalk_72 : decode cX9_putWalk 72 = .ok (.iload 4, 2) := by decide +kernel
theorem dX9_putWalk_74 : decode cX9_putWalk 74 = .ok (.iconst 0, 1) := by decide +kernel
theorem dX9_putWalk_75 : decode cX9_putWalk 75 = .ok (.iastore, 1) := by decide +kernel
theorem dX9_putWalk_76 : decode cX9_putWalk 76 = .ok (.aload_n 0, 1) := by decide +kernel
theorem dX9_putWalk_77 : decode cX9_putWalk 77 = .ok (.dup, 1) := by decide +kernel
theorem dX9_putWalk_78 : decode cX9_putWalk 78 = .ok (.getfield 155, 3) := by decide +kernel
theorem dX9_putWalk_81 : decode cX9_putWalk 81 = .ok (.iconst 1, 1) := by decide +kernel
theorem dX9_putWalk_82 : decode cX9_putWalk 82 = .ok (.iadd, 1) := by decide +kernel
theorem dX9_putWalk_83 : decode cX9_putWalk 83 = .ok (.putfield 155, 3) := by decide +kernel
theorem dX9_putWalk_86 : decode cX9_putWalk 86 = .ok (.return_, 1) := by decide +kernel
theorem dX9_walkedFrom_0 : decode cX9_walkedFrom 0 = .ok (.iconst (-1), 1) := by decide +kernel
theorem dX9_walkedFrom_1 : decode cX9_walkedFrom 1 = .ok (.istore 4, 2) := by decide +kernel
theorem dX9_walkedFrom_3 : decode cX9_walkedFrom 3 = .ok (.bipush 11, 2) := by decide +kernel
theorem dX9_walkedFrom_5 : decode cX9_walkedFrom 5 = .ok (.istore 5, 2) := by decide +kernel
theorem dX9_walkedFrom_7 : decode cX9_walkedFrom 7 = .ok (.iload 5, 2) := by decide +kernel
theorem dX9_walkedFrom_9 : decode cX9_walkedFrom 9 = .ok (.ifCond .lt 106, 3) := by decide +kernel
theorem dX9_walkedFrom_12 : decode cX9_walkedFrom 12 = .ok (.iload_n 2, 1) := by decide +kernel
theorem dX9_walkedFrom_13 : decode cX9_walkedFrom 13 = .ok (.iload 5, 2) := by decide +kernel
theorem dX9_walkedFrom_15 : decode cX9_walkedFrom 15 = .ok (.iload_n 1, 1) := by decide +kernel
theorem dX9_walkedFrom_16 : decode cX9_walkedFrom 16 = .ok (.if_icmp .ne 8, 3) := by decide +kernel
theorem dX9_walkedFrom_19 : decode cX9_walkedFrom 19 = .ok (.ldc 112, 2) := by decide +kernel
theorem dX9_walkedFrom_21 : decode cX9_walkedFrom 21 = .ok (.goto 10, 3) := by decide +kernel
theorem dX9_walkedFrom_24 : decode cX9_walkedFrom 24 = .ok (.aload_n 0, 1) := by decide +kernel
theorem dX9_walkedFrom_25 : decode cX9_walkedFrom 25 = .ok (.iload 5, 2) := by decide +kernel
theorem dX9_walkedFrom_27 : decode cX9_walkedFrom 27 = .ok (.iload_n 1, 1) := by decide +kernel
theorem dX9_walkedFrom_28 : decode cX9_walkedFrom 28 = .ok (.invokevirtual 113, 3) := by decide +kernel
theorem dX9_walkedFrom_31 : decode cX9_walkedFrom 31 = .ok (.isub, 1) := by decide +kernel
theorem dX9_walkedFrom_32 : decode cX9_walkedFrom 32 = .ok (.istore 6, 2) := by decide +kernel
theorem dX9_walkedFrom_34 : decode cX9_walkedFrom 34 = .ok (.iload 5, 2) := by decide +kernel
theorem dX9_walkedFrom_36 : decode cX9_walkedFrom 36 = .ok (.iload_n 1, 1) := by decide +kernel
theorem dX9_walkedFrom_37 : decode cX9_walkedFrom 37 = .ok (.if_icmp .eq 55, 3) := by decide +kernel
theorem dX9_walkedFrom_40 : decode cX9_walkedFrom 40 = .ok (.aload_n 0, 1) := by decide +kernel
theorem dX9_walkedFrom_41 : decode cX9_walkedFrom 41 = .ok (.iload 5, 2) := by decide +kernel
theorem dX9_walkedFrom_43 : decode cX9_walkedFrom 43 = .ok (.iload_n 1, 1) := by decide +kernel
theorem dX9_walkedFrom_44 : decode cX9_walkedFrom 44 = .ok (.invokevirtual 113, 3) := by decide +kernel
theorem dX9_walkedFrom_47 : decode cX9_walkedFrom 47 = .ok (.ldc 112, 2) := by decide +kernel
theorem dX9_walkedFrom_49 : decode cX9_walkedFrom 49 = .ok (.if_icmp .ge 43, 3) := by decide +kernel
theorem dX9_walkedFrom_52 : decode cX9_walkedFrom 52 = .ok (.iload 5, 2) := by decide +kernel
theorem dX9_walkedFrom_54 : decode cX9_walkedFrom 54 = .ok (.aload_n 0, 1) := by decide +kernel
theorem dX9_walkedFrom_55 : decode cX9_walkedFrom 55 = .ok (.getfield 124, 3) := by decide +kernel
theorem dX9_walkedFrom_58 : decode cX9_walkedFrom 58 = .ok (.if_icmp .ne 18, 3) := by decide +kernel
theorem dX9_walkedFrom_61 : decode cX9_walkedFrom 61 = .ok (.iload 6, 2) := by decide +kernel
theorem dX9_walkedFrom_63 : decode cX9_walkedFrom 63 = .ok (.aload_n 0, 1) := by decide +kernel
theorem dX9_walkedFrom_64 : decode cX9_walkedFrom 64 = .ok (.getfield 38, 3) := by decide +kernel
theorem dX9_walkedFrom_67 : decode cX9_walkedFrom 67 = .ok (.iload 5, 2) := by decide +kernel
theorem dX9_walkedFrom_69 : decode cX9_walkedFrom 69 = .ok (.iaload, 1) := by decide +kernel
theorem dX9_walkedFrom_70 : decode cX9_walkedFrom 70 = .ok (.if_icmp .ne 22, 3) := by decide +kernel
theorem dX9_walkedFrom_73 : decode cX9_walkedFrom 73 = .ok (.goto 15, 3) := by decide +kernel
theorem dX9_walkedFrom_76 : decode cX9_walkedFrom 76 = .ok (.aload_n 0, 1) := by decide +kernel
theorem dX9_walkedFrom_77 : decode cX9_walkedFrom 77 = .ok (.iload 5, 2) := by decide +kernel
theorem dX9_walkedFrom_79 : decode cX9_walkedFrom 79 = .ok (.iload 6, 2) := by decide +kernel
theorem dX9_walkedFrom_81 : decode cX9_walkedFrom 81 = .ok (.iload_n 3, 1) := by decide +kernel
theorem dX9_walkedFrom_82 : decode cX9_walkedFrom 82 = .ok (.invokevirtual 158, 3) := by decide +kernel
theorem dX9_walkedFrom_85 : decode cX9_walkedFrom 85 = .ok (.ifCond .eq 7, 3) := by decide +kernel
theorem dX9_walkedFrom_88 : decode cX9_walkedFrom 88 = .ok (.iconst 1, 1) := by decide +kernel
theorem dX9_walkedFrom_89 : decode cX9_walkedFrom 89 = .ok (.goto 4, 3) := by decide +kernel
theorem dX9_walkedFrom_92 : decode cX9_walkedFrom 92 = .ok (.iconst 0, 1) := by decide +kernel
theorem dX9_walkedFrom_93 : decode cX9_walkedFrom 93 = .ok (.istore 7, 2) := by decide +kernel
theorem dX9_walkedFrom_95 : decode cX9_walkedFrom 95 = .ok (.iload 7, 2) := by decide +kernel
theorem dX9_walkedFrom_97 : decode cX9_walkedFrom 97 = .ok (.ifCond .eq 8, 3) := by decide +kernel
theorem dX9_walkedFrom_100 : decode cX9_walkedFrom 100 = .ok (.iload 5, 2) := by decide +kernel
theorem dX9_walkedFrom_102 : decode cX9_walkedFrom 102 = .ok (.goto 5, 3) := by decide +kernel
theorem dX9_walkedFrom_105 : decode cX9_walkedFrom 105 = .ok (.iload 4, 2) := by decide +kernel
theorem dX9_walkedFrom_107 : decode cX9_walkedFrom 107 = .ok (.istore 4, 2) := by decide +kernel
theorem dX9_walkedFrom_109 : decode cX9_walkedFrom 109 = .ok (.iinc 5 (-1), 3) := by decide +kernel
theorem dX9_walkedFrom_112 : decode cX9_walkedFrom 112 = .ok (.goto (-105), 3) := by decide +kernel
theorem dX9_walkedFrom_115 : decode cX9_walkedFrom 115 = .ok (.iload 4, 2) := by decide +kernel
theorem dX9_walkedFrom_117 : decode cX9_walkedFrom 117 = .ok (.ireturn, 1) := by decide +kernel
theorem dX9_layJourney_0 : decode cX9_layJourney 0 = .ok (.aload_n 0, 1) := by decide +kernel
theorem dX9_layJourney_1 : decode cX9_layJourney 1 = .ok (.iload_n 1, 1) := by decide +kernel
theorem dX9_layJourney_2 : decode cX9_layJourney 2 = .ok (.iload_n 2, 1) := by decide +kernel
