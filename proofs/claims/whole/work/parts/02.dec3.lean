theorem dX9_layJourney_3 : decode cX9_layJourney 3 = .ok (.invokevirtual 138, 3) := by decide +kernel
theorem dX9_layJourney_6 : decode cX9_layJourney 6 = .ok (.aload_n 0, 1) := by decide +kernel
theorem dX9_layJourney_7 : decode cX9_layJourney 7 = .ok (.iconst 0, 1) := by decide +kernel
theorem dX9_layJourney_8 : decode cX9_layJourney 8 = .ok (.putfield 155, 3) := by decide +kernel
theorem dX9_layJourney_11 : decode cX9_layJourney 11 = .ok (.iload_n 3, 1) := by decide +kernel
theorem dX9_layJourney_12 : decode cX9_layJourney 12 = .ok (.istore 5, 2) := by decide +kernel
theorem dX9_layJourney_14 : decode cX9_layJourney 14 = .ok (.iload 4, 2) := by decide +kernel
theorem dX9_layJourney_16 : decode cX9_layJourney 16 = .ok (.istore 6, 2) := by decide +kernel
theorem dX9_layJourney_18 : decode cX9_layJourney 18 = .ok (.aload_n 0, 1) := by decide +kernel
theorem dX9_layJourney_19 : decode cX9_layJourney 19 = .ok (.getfield 41, 3) := by decide +kernel
theorem dX9_layJourney_22 : decode cX9_layJourney 22 = .ok (.bipush 12, 2) := by decide +kernel
theorem dX9_layJourney_24 : decode cX9_layJourney 24 = .ok (.iload 6, 2) := by decide +kernel
theorem dX9_layJourney_26 : decode cX9_layJourney 26 = .ok (.imul, 1) := by decide +kernel
theorem dX9_layJourney_27 : decode cX9_layJourney 27 = .ok (.iload_n 3, 1) := by decide +kernel
theorem dX9_layJourney_28 : decode cX9_layJourney 28 = .ok (.iadd, 1) := by decide +kernel
theorem dX9_layJourney_29 : decode cX9_layJourney 29 = .ok (.iaload, 1) := by decide +kernel
theorem dX9_layJourney_30 : decode cX9_layJourney 30 = .ok (.istore 7, 2) := by decide +kernel
theorem dX9_layJourney_32 : decode cX9_layJourney 32 = .ok (.iload 7, 2) := by decide +kernel
theorem dX9_layJourney_34 : decode cX9_layJourney 34 = .ok (.ldc 112, 2) := by decide +kernel
theorem dX9_layJourney_36 : decode cX9_layJourney 36 = .ok (.if_icmp .lt 5, 3) := by decide +kernel
theorem dX9_layJourney_39 : decode cX9_layJourney 39 = .ok (.iconst 0, 1) := by decide +kernel
theorem dX9_layJourney_40 : decode cX9_layJourney 40 = .ok (.ireturn, 1) := by decide +kernel
theorem dX9_layJourney_41 : decode cX9_layJourney 41 = .ok (.iload 5, 2) := by decide +kernel
theorem dX9_layJourney_43 : decode cX9_layJourney 43 = .ok (.iload_n 1, 1) := by decide +kernel
theorem dX9_layJourney_44 : decode cX9_layJourney 44 = .ok (.if_icmp .eq 100, 3) := by decide +kernel
theorem dX9_layJourney_47 : decode cX9_layJourney 47 = .ok (.aload_n 0, 1) := by decide +kernel
theorem dX9_layJourney_48 : decode cX9_layJourney 48 = .ok (.iload 5, 2) := by decide +kernel
theorem dX9_layJourney_50 : decode cX9_layJourney 50 = .ok (.iload 7, 2) := by decide +kernel
theorem dX9_layJourney_52 : decode cX9_layJourney 52 = .ok (.iload 6, 2) := by decide +kernel
theorem dX9_layJourney_54 : decode cX9_layJourney 54 = .ok (.invokevirtual 158, 3) := by decide +kernel
theorem dX9_layJourney_57 : decode cX9_layJourney 57 = .ok (.ifCond .eq 45, 3) := by decide +kernel
theorem dX9_layJourney_60 : decode cX9_layJourney 60 = .ok (.aload_n 0, 1) := by decide +kernel
theorem dX9_layJourney_61 : decode cX9_layJourney 61 = .ok (.iload 5, 2) := by decide +kernel
theorem dX9_layJourney_63 : decode cX9_layJourney 63 = .ok (.iload 7, 2) := by decide +kernel
theorem dX9_layJourney_65 : decode cX9_layJourney 65 = .ok (.invokevirtual 162, 3) := by decide +kernel
theorem dX9_layJourney_68 : decode cX9_layJourney 68 = .ok (.aload_n 0, 1) := by decide +kernel
theorem dX9_layJourney_69 : decode cX9_layJourney 69 = .ok (.getfield 50, 3) := by decide +kernel
theorem dX9_layJourney_72 : decode cX9_layJourney 72 = .ok (.aload_n 0, 1) := by decide +kernel
theorem dX9_layJourney_73 : decode cX9_layJourney 73 = .ok (.getfield 155, 3) := by decide +kernel
theorem dX9_layJourney_76 : decode cX9_layJourney 76 = .ok (.iconst 1, 1) := by decide +kernel
theorem dX9_layJourney_77 : decode cX9_layJourney 77 = .ok (.isub, 1) := by decide +kernel
theorem dX9_layJourney_78 : decode cX9_layJourney 78 = .ok (.iaload, 1) := by decide +kernel
theorem dX9_layJourney_79 : decode cX9_layJourney 79 = .ok (.istore 5, 2) := by decide +kernel
theorem dX9_layJourney_81 : decode cX9_layJourney 81 = .ok (.iinc 6 (-1), 3) := by decide +kernel
theorem dX9_layJourney_84 : decode cX9_layJourney 84 = .ok (.aload_n 0, 1) := by decide +kernel
theorem dX9_layJourney_85 : decode cX9_layJourney 85 = .ok (.getfield 41, 3) := by decide +kernel
theorem dX9_layJourney_88 : decode cX9_layJourney 88 = .ok (.bipush 12, 2) := by decide +kernel
theorem dX9_layJourney_90 : decode cX9_layJourney 90 = .ok (.iload 6, 2) := by decide +kernel
theorem dX9_layJourney_92 : decode cX9_layJourney 92 = .ok (.imul, 1) := by decide +kernel
theorem dX9_layJourney_93 : decode cX9_layJourney 93 = .ok (.iload 5, 2) := by decide +kernel
theorem dX9_layJourney_95 : decode cX9_layJourney 95 = .ok (.iadd, 1) := by decide +kernel
theorem dX9_layJourney_96 : decode cX9_layJourney 96 = .ok (.iaload, 1) := by decide +kernel
theorem dX9_layJourney_97 : decode cX9_layJourney 97 = .ok (.istore 7, 2) := by decide +kernel
theorem dX9_layJourney_99 : decode cX9_layJourney 99 = .ok (.goto (-58), 3) := by decide +kernel
theorem dX9_layJourney_102 : decode cX9_layJourney 102 = .ok (.aload_n 0, 1) := by decide +kernel
theorem dX9_layJourney_103 : decode cX9_layJourney 103 = .ok (.iload 5, 2) := by decide +kernel
theorem dX9_layJourney_105 : decode cX9_layJourney 105 = .ok (.iload 7, 2) := by decide +kernel
theorem dX9_layJourney_107 : decode cX9_layJourney 107 = .ok (.iload 6, 2) := by decide +kernel
theorem dX9_layJourney_109 : decode cX9_layJourney 109 = .ok (.invokevirtual 165, 3) := by decide +kernel
theorem dX9_layJourney_112 : decode cX9_layJourney 112 = .ok (.istore 8, 2) := by decide +kernel
theorem dX9_layJourney_114 : decode cX9_layJourney 114 = .ok (.aload_n 0, 1) := by decide +kernel
theorem dX9_layJourney_115 : decode cX9_layJourney 115 = .ok (.iload 8, 2) := by decide +kernel
theorem dX9_layJourney_117 : decode cX9_layJourney 117 = .ok (.iload 5, 2) := by decide +kernel
theorem dX9_layJourney_119 : decode cX9_layJourney 119 = .ok (.iload 7, 2) := by decide +kernel
theorem dX9_layJourney_121 : decode cX9_layJourney 121 = .ok (.invokevirtual 168, 3) := by decide +kernel
theorem dX9_layJourney_124 : decode cX9_layJourney 124 = .ok (.iload 8, 2) := by decide +kernel
theorem dX9_layJourney_126 : decode cX9_layJourney 126 = .ok (.istore 5, 2) := by decide +kernel
theorem dX9_layJourney_128 : decode cX9_layJourney 128 = .ok (.aload_n 0, 1) := by decide +kernel
theorem dX9_layJourney_129 : decode cX9_layJourney 129 = .ok (.getfield 56, 3) := by decide +kernel
theorem dX9_layJourney_132 : decode cX9_layJourney 132 = .ok (.aload_n 0, 1) := by decide +kernel
theorem dX9_layJourney_133 : decode cX9_layJourney 133 = .ok (.getfield 155, 3) := by decide +kernel
theorem dX9_layJourney_136 : decode cX9_layJourney 136 = .ok (.iconst 1, 1) := by decide +kernel
theorem dX9_layJourney_137 : decode cX9_layJourney 137 = .ok (.isub, 1) := by decide +kernel
theorem dX9_layJourney_138 : decode cX9_layJourney 138 = .ok (.iaload, 1) := by decide +kernel
theorem dX9_layJourney_139 : decode cX9_layJourney 139 = .ok (.istore 7, 2) := by decide +kernel
theorem dX9_layJourney_141 : decode cX9_layJourney 141 = .ok (.goto (-100), 3) := by decide +kernel
theorem dX9_layJourney_144 : decode cX9_layJourney 144 = .ok (.iconst 1, 1) := by decide +kernel
theorem dX9_layJourney_145 : decode cX9_layJourney 145 = .ok (.ireturn, 1) := by decide +kernel
theorem dX9_feed_0 : decode cX9_feed 0 = .ok (.aload_n 0, 1) := by decide +kernel
theorem dX9_feed_1 : decode cX9_feed 1 = .ok (.iconst 0, 1) := by decide +kernel
theorem dX9_feed_2 : decode cX9_feed 2 = .ok (.putfield 87, 3) := by decide +kernel
theorem dX9_feed_5 : decode cX9_feed 5 = .ok (.iload_n 1, 1) := by decide +kernel
theorem dX9_feed_6 : decode cX9_feed 6 = .ok (.i2l, 1) := by decide +kernel
theorem dX9_feed_7 : decode cX9_feed 7 = .ok (.lconst 1, 1) := by decide +kernel
theorem dX9_feed_8 : decode cX9_feed 8 = .ok (.ldc2_w 171, 3) := by decide +kernel
theorem dX9_feed_11 : decode cX9_feed 11 = .ok (.invokestatic 92, 3) := by decide +kernel
theorem dX9_feed_14 : decode cX9_feed 14 = .ok (.ifCond .ne 6, 3) := by decide +kernel
theorem dX9_feed_17 : decode cX9_feed 17 = .ok (.bipush (-2), 2) := by decide +kernel
theorem dX9_feed_19 : decode cX9_feed 19 = .ok (.ireturn, 1) := by decide +kernel
theorem dX9_feed_20 : decode cX9_feed 20 = .ok (.aload_n 0, 1) := by decide +kernel
theorem dX9_feed_21 : decode cX9_feed 21 = .ok (.getfield 173, 3) := by decide +kernel
theorem dX9_feed_24 : decode cX9_feed 24 = .ok (.bipush 80, 2) := by decide +kernel
theorem dX9_feed_26 : decode cX9_feed 26 = .ok (.if_icmp .ne 6, 3) := by decide +kernel
theorem dX9_feed_29 : decode cX9_feed 29 = .ok (.bipush (-4), 2) := by decide +kernel
theorem dX9_feed_31 : decode cX9_feed 31 = .ok (.ireturn, 1) := by decide +kernel
theorem dX9_feed_32 : decode cX9_feed 32 = .ok (.aload_n 0, 1) := by decide +kernel
theorem dX9_feed_33 : decode cX9_feed 33 = .ok (.getfield 65, 3) := by decide +kernel
theorem dX9_feed_36 : decode cX9_feed 36 = .ok (.aload_n 0, 1) := by decide +kernel
theorem dX9_feed_37 : decode cX9_feed 37 = .ok (.getfield 173, 3) := by decide +kernel
theorem dX9_feed_40 : decode cX9_feed 40 = .ok (.iload_n 1, 1) := by decide +kernel
theorem dX9_feed_41 : decode cX9_feed 41 = .ok (.iastore, 1) := by decide +kernel
theorem dX9_feed_42 : decode cX9_feed 42 = .ok (.aload_n 0, 1) := by decide +kernel
theorem dX9_feed_43 : decode cX9_feed 43 = .ok (.dup, 1) := by decide +kernel
theorem dX9_feed_44 : decode cX9_feed 44 = .ok (.getfield 173, 3) := by decide +kernel
theorem dX9_feed_47 : decode cX9_feed 47 = .ok (.iconst 1, 1) := by decide +kernel
theorem dX9_feed_48 : decode cX9_feed 48 = .ok (.iadd, 1) := by decide +kernel
theorem dX9_feed_49 : decode cX9_feed 49 = .ok (.putfield 173, 3) := by decide +kernel
theorem dX9_feed_52 : decode cX9_feed 52 = .ok (.aload_n 0, 1) := by decide +kernel
theorem dX9_feed_53 : decode cX9_feed 53 = .ok (.getfield 173, 3) := by decide +kernel
theorem dX9_feed_56 : decode cX9_feed 56 = .ok (.ireturn, 1) := by decide +kernel
theorem dX9_clear_0 : decode cX9_clear 0 = .ok (.aload_n 0, 1) := by decide +kernel
theorem dX9_clear_1 : decode cX9_clear 1 = .ok (.iconst 0, 1) := by decide +kernel
theorem dX9_clear_2 : decode cX9_clear 2 = .ok (.putfield 87, 3) := by decide +kernel
theorem dX9_clear_5 : decode cX9_clear 5 = .ok (.aload_n 0, 1) := by decide +kernel
theorem dX9_clear_6 : decode cX9_clear 6 = .ok (.getfield 173, 3) := by decide +kernel
theorem dX9_clear_9 : decode cX9_clear 9 = .ok (.istore_n 1, 1) := by decide +kernel
theorem dX9_clear_10 : decode cX9_clear 10 = .ok (.aload_n 0, 1) := by decide +kernel
theorem dX9_clear_11 : decode cX9_clear 11 = .ok (.iconst 0, 1) := by decide +kernel
theorem dX9_clear_12 : decode cX9_clear 12 = .ok (.putfield 173, 3) := by decide +kernel
theorem dX9_clear_15 : decode cX9_clear 15 = .ok (.iload_n 1, 1) := by decide +kernel
theorem dX9_clear_16 : decode cX9_clear 16 = .ok (.ireturn, 1) := by decide +kernel
theorem dX9_here_0 : decode cX9_here 0 = .ok (.aload_n 0, 1) := by decide +kernel
theorem dX9_here_1 : decode cX9_here 1 = .ok (.getfield 176, 3) := by decide +kernel
theorem dX9_here_4 : decode cX9_here 4 = .ok (.aload_n 0, 1) := by decide +kernel
theorem dX9_here_5 : decode cX9_here 5 = .ok (.getfield 173, 3) := by decide +kernel
theorem dX9_here_8 : decode cX9_here 8 = .ok (.if_icmp .ge 15, 3) := by decide +kernel
theorem dX9_here_11 : decode cX9_here 11 = .ok (.aload_n 0, 1) := by decide +kernel
theorem dX9_here_12 : decode cX9_here 12 = .ok (.getfield 65, 3) := by decide +kernel
theorem dX9_here_15 : decode cX9_here 15 = .ok (.aload_n 0, 1) := by decide +kernel
theorem dX9_here_16 : decode cX9_here 16 = .ok (.getfield 176, 3) := by decide +kernel
theorem dX9_here_19 : decode cX9_here 19 = .ok (.iaload, 1) := by decide +kernel
theorem dX9_here_20 : decode cX9_here 20 = .ok (.goto 4, 3) := by decide +kernel
theorem dX9_here_23 : decode cX9_here 23 = .ok (.iconst (-1), 1) := by decide +kernel
theorem dX9_here_24 : decode cX9_here 24 = .ok (.ireturn, 1) := by decide +kernel
theorem dX9_goesOn_0 : decode cX9_goesOn 0 = .ok (.aload_n 0, 1) := by decide +kernel
theorem dX9_goesOn_1 : decode cX9_goesOn 1 = .ok (.getfield 179, 3) := by decide +kernel
theorem dX9_goesOn_4 : decode cX9_goesOn 4 = .ok (.ifCond .ne 15, 3) := by decide +kernel
theorem dX9_goesOn_7 : decode cX9_goesOn 7 = .ok (.aload_n 0, 1) := by decide +kernel
theorem dX9_goesOn_8 : decode cX9_goesOn 8 = .ok (.invokevirtual 183, 3) := by decide +kernel
theorem dX9_goesOn_11 : decode cX9_goesOn 11 = .ok (.iload_n 1, 1) := by decide +kernel
theorem dX9_goesOn_12 : decode cX9_goesOn 12 = .ok (.if_icmp .ne 7, 3) := by decide +kernel
theorem dX9_goesOn_15 : decode cX9_goesOn 15 = .ok (.iconst 1, 1) := by decide +kernel
theorem dX9_goesOn_16 : decode cX9_goesOn 16 = .ok (.goto 4, 3) := by decide +kernel
theorem dX9_goesOn_19 : decode cX9_goesOn 19 = .ok (.iconst 0, 1) := by decide +kernel
theorem dX9_goesOn_20 : decode cX9_goesOn 20 = .ok (.istore_n 2, 1) := by decide +kernel
theorem dX9_goesOn_21 : decode cX9_goesOn 21 = .ok (.aload_n 0, 1) := by decide +kernel
theorem dX9_goesOn_22 : decode cX9_goesOn 22 = .ok (.dup, 1) := by decide +kernel
theorem dX9_goesOn_23 : decode cX9_goesOn 23 = .ok (.getfield 176, 3) := by decide +kernel
theorem dX9_goesOn_26 : decode cX9_goesOn 26 = .ok (.iload_n 2, 1) := by decide +kernel
theorem dX9_goesOn_27 : decode cX9_goesOn 27 = .ok (.ifCond .eq 7, 3) := by decide +kernel
theorem dX9_goesOn_30 : decode cX9_goesOn 30 = .ok (.iconst 1, 1) := by decide +kernel
theorem dX9_goesOn_31 : decode cX9_goesOn 31 = .ok (.goto 4, 3) := by decide +kernel
theorem dX9_goesOn_34 : decode cX9_goesOn 34 = .ok (.iconst 0, 1) := by decide +kernel
theorem dX9_goesOn_35 : decode cX9_goesOn 35 = .ok (.iadd, 1) := by decide +kernel
theorem dX9_goesOn_36 : decode cX9_goesOn 36 = .ok (.putfield 176, 3) := by decide +kernel
theorem dX9_goesOn_39 : decode cX9_goesOn 39 = .ok (.iload_n 2, 1) := by decide +kernel
theorem dX9_goesOn_40 : decode cX9_goesOn 40 = .ok (.ireturn, 1) := by decide +kernel
theorem dX9_wants_0 : decode cX9_wants 0 = .ok (.aload_n 0, 1) := by decide +kernel
theorem dX9_wants_1 : decode cX9_wants 1 = .ok (.aload_n 0, 1) := by decide +kernel
theorem dX9_wants_2 : decode cX9_wants 2 = .ok (.iload_n 1, 1) := by decide +kernel
theorem dX9_wants_3 : decode cX9_wants 3 = .ok (.invokevirtual 187, 3) := by decide +kernel
theorem dX9_wants_6 : decode cX9_wants 6 = .ok (.ifCond .eq 10, 3) := by decide +kernel
theorem dX9_wants_9 : decode cX9_wants 9 = .ok (.aload_n 0, 1) := by decide +kernel
theorem dX9_wants_10 : decode cX9_wants 10 = .ok (.getfield 179, 3) := by decide +kernel
theorem dX9_wants_13 : decode cX9_wants 13 = .ok (.ifCond .eq 7, 3) := by decide +kernel
theorem dX9_wants_16 : decode cX9_wants 16 = .ok (.iconst 1, 1) := by decide +kernel
theorem dX9_wants_17 : decode cX9_wants 17 = .ok (.goto 4, 3) := by decide +kernel
theorem dX9_wants_20 : decode cX9_wants 20 = .ok (.iconst 0, 1) := by decide +kernel
theorem dX9_wants_21 : decode cX9_wants 21 = .ok (.putfield 179, 3) := by decide +kernel
theorem dX9_wants_24 : decode cX9_wants 24 = .ok (.return_, 1) := by decide +kernel
theorem dX9_readFigures_0 : decode cX9_readFigures 0 = .ok (.aload_n 0, 1) := by decide +kernel
theorem dX9_readFigures_1 : decode cX9_readFigures 1 = .ok (.aload_n 0, 1) := by decide +kernel
theorem dX9_readFigures_2 : decode cX9_readFigures 2 = .ok (.getfield 179, 3) := by decide +kernel
theorem dX9_readFigures_5 : decode cX9_readFigures 5 = .ok (.ifCond .ne 20, 3) := by decide +kernel
theorem dX9_readFigures_8 : decode cX9_readFigures 8 = .ok (.aload_n 0, 1) := by decide +kernel
theorem dX9_readFigures_9 : decode cX9_readFigures 9 = .ok (.invokevirtual 183, 3) := by decide +kernel
theorem dX9_readFigures_12 : decode cX9_readFigures 12 = .ok (.i2l, 1) := by decide +kernel
theorem dX9_readFigures_13 : decode cX9_readFigures 13 = .ok (.ldc2_w 190, 3) := by decide +kernel
theorem dX9_readFigures_16 : decode cX9_readFigures 16 = .ok (.ldc2_w 192, 3) := by decide +kernel
theorem dX9_readFigures_19 : decode cX9_readFigures 19 = .ok (.invokestatic 92, 3) := by decide +kernel
theorem dX9_readFigures_22 : decode cX9_readFigures 22 = .ok (.ifCond .ne 7, 3) := by decide +kernel
theorem dX9_readFigures_25 : decode cX9_readFigures 25 = .ok (.iconst 1, 1) := by decide +kernel
theorem dX9_readFigures_26 : decode cX9_readFigures 26 = .ok (.goto 4, 3) := by decide +kernel
theorem dX9_readFigures_29 : decode cX9_readFigures 29 = .ok (.iconst 0, 1) := by decide +kernel
theorem dX9_readFigures_30 : decode cX9_readFigures 30 = .ok (.putfield 179, 3) := by decide +kernel
theorem dX9_readFigures_33 : decode cX9_readFigures 33 = .ok (.aload_n 0, 1) := by decide +kernel
theorem dX9_readFigures_34 : decode cX9_readFigures 34 = .ok (.aload_n 0, 1) := by decide +kernel
theorem dX9_readFigures_35 : decode cX9_readFigures 35 = .ok (.getfield 176, 3) := by decide +kernel
theorem dX9_readFigures_38 : decode cX9_readFigures 38 = .ok (.putfield 194, 3) := by decide +kernel
theorem dX9_readFigures_41 : decode cX9_readFigures 41 = .ok (.iconst 0, 1) := by decide +kernel
theorem dX9_readFigures_42 : decode cX9_readFigures 42 = .ok (.istore_n 2, 1) := by decide +kernel
theorem dX9_readFigures_43 : decode cX9_readFigures 43 = .ok (.iconst 0, 1) := by decide +kernel
theorem dX9_readFigures_44 : decode cX9_readFigures 44 = .ok (.istore_n 3, 1) := by decide +kernel
theorem dX9_readFigures_45 : decode cX9_readFigures 45 = .ok (.iload_n 3, 1) := by decide +kernel
theorem dX9_readFigures_46 : decode cX9_readFigures 46 = .ok (.iload_n 1, 1) := by decide +kernel
theorem dX9_readFigures_47 : decode cX9_readFigures 47 = .ok (.if_icmp .ge 56, 3) := by decide +kernel
theorem dX9_readFigures_50 : decode cX9_readFigures 50 = .ok (.aload_n 0, 1) := by decide +kernel
theorem dX9_readFigures_51 : decode cX9_readFigures 51 = .ok (.getfield 179, 3) := by decide +kernel
theorem dX9_readFigures_54 : decode cX9_readFigures 54 = .ok (.ifCond .ne 49, 3) := by decide +kernel
theorem dX9_readFigures_57 : decode cX9_readFigures 57 = .ok (.aload_n 0, 1) := by decide +kernel
theorem dX9_readFigures_58 : decode cX9_readFigures 58 = .ok (.invokevirtual 183, 3) := by decide +kernel
theorem dX9_readFigures_61 : decode cX9_readFigures 61 = .ok (.i2l, 1) := by decide +kernel
theorem dX9_readFigures_62 : decode cX9_readFigures 62 = .ok (.ldc2_w 190, 3) := by decide +kernel
theorem dX9_readFigures_65 : decode cX9_readFigures 65 = .ok (.ldc2_w 192, 3) := by decide +kernel
theorem dX9_readFigures_68 : decode cX9_readFigures 68 = .ok (.invokestatic 92, 3) := by decide +kernel
theorem dX9_readFigures_71 : decode cX9_readFigures 71 = .ok (.ifCond .eq 32, 3) := by decide +kernel
theorem dX9_readFigures_74 : decode cX9_readFigures 74 = .ok (.bipush 10, 2) := by decide +kernel
theorem dX9_readFigures_76 : decode cX9_readFigures 76 = .ok (.iload_n 2, 1) := by decide +kernel
theorem dX9_readFigures_77 : decode cX9_readFigures 77 = .ok (.imul, 1) := by decide +kernel
theorem dX9_readFigures_78 : decode cX9_readFigures 78 = .ok (.aload_n 0, 1) := by decide +kernel
theorem dX9_readFigures_79 : decode cX9_readFigures 79 = .ok (.invokevirtual 183, 3) := by decide +kernel
theorem dX9_readFigures_82 : decode cX9_readFigures 82 = .ok (.iadd, 1) := by decide +kernel
theorem dX9_readFigures_83 : decode cX9_readFigures 83 = .ok (.bipush 48, 2) := by decide +kernel
theorem dX9_readFigures_85 : decode cX9_readFigures 85 = .ok (.isub, 1) := by decide +kernel
theorem dX9_readFigures_86 : decode cX9_readFigures 86 = .ok (.istore_n 2, 1) := by decide +kernel
theorem dX9_readFigures_87 : decode cX9_readFigures 87 = .ok (.aload_n 0, 1) := by decide +kernel
theorem dX9_readFigures_88 : decode cX9_readFigures 88 = .ok (.dup, 1) := by decide +kernel
theorem dX9_readFigures_89 : decode cX9_readFigures 89 = .ok (.getfield 176, 3) := by decide +kernel
theorem dX9_readFigures_92 : decode cX9_readFigures 92 = .ok (.iconst 1, 1) := by decide +kernel
theorem dX9_readFigures_93 : decode cX9_readFigures 93 = .ok (.iadd, 1) := by decide +kernel
theorem dX9_readFigures_94 : decode cX9_readFigures 94 = .ok (.putfield 176, 3) := by decide +kernel
theorem dX9_readFigures_97 : decode cX9_readFigures 97 = .ok (.iinc 3 1, 3) := by decide +kernel
theorem dX9_readFigures_100 : decode cX9_readFigures 100 = .ok (.goto (-55), 3) := by decide +kernel
theorem dX9_readFigures_103 : decode cX9_readFigures 103 = .ok (.iload_n 2, 1) := by decide +kernel
theorem dX9_readFigures_104 : decode cX9_readFigures 104 = .ok (.ireturn, 1) := by decide +kernel
theorem dX9_mustBe_0 : decode cX9_mustBe 0 = .ok (.aload_n 0, 1) := by decide +kernel
theorem dX9_mustBe_1 : decode cX9_mustBe 1 = .ok (.getfield 179, 3) := by decide +kernel
theorem dX9_mustBe_4 : decode cX9_mustBe 4 = .ok (.ifCond .ne 17, 3) := by decide +kernel
theorem dX9_mustBe_7 : decode cX9_mustBe 7 = .ok (.iload_n 1, 1) := by decide +kernel
theorem dX9_mustBe_8 : decode cX9_mustBe 8 = .ok (.ifCond .ne 13, 3) := by decide +kernel
theorem dX9_mustBe_11 : decode cX9_mustBe 11 = .ok (.aload_n 0, 1) := by decide +kernel
theorem dX9_mustBe_12 : decode cX9_mustBe 12 = .ok (.iconst 1, 1) := by decide +kernel
theorem dX9_mustBe_13 : decode cX9_mustBe 13 = .ok (.putfield 179, 3) := by decide +kernel
theorem dX9_mustBe_16 : decode cX9_mustBe 16 = .ok (.aload_n 0, 1) := by decide +kernel
theorem dX9_mustBe_17 : decode cX9_mustBe 17 = .ok (.iload_n 2, 1) := by decide +kernel
theorem dX9_mustBe_18 : decode cX9_mustBe 18 = .ok (.putfield 176, 3) := by decide +kernel
theorem dX9_mustBe_21 : decode cX9_mustBe 21 = .ok (.return_, 1) := by decide +kernel
theorem dX9_readWithin_0 : decode cX9_readWithin 0 = .ok (.aload_n 0, 1) := by decide +kernel
theorem dX9_readWithin_1 : decode cX9_readWithin 1 = .ok (.iload_n 1, 1) := by decide +kernel
theorem dX9_readWithin_2 : decode cX9_readWithin 2 = .ok (.invokevirtual 197, 3) := by decide +kernel
theorem dX9_readWithin_5 : decode cX9_readWithin 5 = .ok (.istore 4, 2) := by decide +kernel
theorem dX9_readWithin_7 : decode cX9_readWithin 7 = .ok (.aload_n 0, 1) := by decide +kernel
theorem dX9_readWithin_8 : decode cX9_readWithin 8 = .ok (.iload 4, 2) := by decide +kernel
theorem dX9_readWithin_10 : decode cX9_readWithin 10 = .ok (.i2l, 1) := by decide +kernel
theorem dX9_readWithin_11 : decode cX9_readWithin 11 = .ok (.iload_n 2, 1) := by decide +kernel
theorem dX9_readWithin_12 : decode cX9_readWithin 12 = .ok (.i2l, 1) := by decide +kernel
theorem dX9_readWithin_13 : decode cX9_readWithin 13 = .ok (.iload_n 3, 1) := by decide +kernel
theorem dX9_readWithin_14 : decode cX9_readWithin 14 = .ok (.i2l, 1) := by decide +kernel
theorem dX9_readWithin_15 : decode cX9_readWithin 15 = .ok (.invokestatic 92, 3) := by decide +kernel
theorem dX9_readWithin_18 : decode cX9_readWithin 18 = .ok (.aload_n 0, 1) := by decide +kernel
theorem dX9_readWithin_19 : decode cX9_readWithin 19 = .ok (.getfield 194, 3) := by decide +kernel
theorem dX9_readWithin_22 : decode cX9_readWithin 22 = .ok (.invokevirtual 201, 3) := by decide +kernel
theorem dX9_readWithin_25 : decode cX9_readWithin 25 = .ok (.aload_n 0, 1) := by decide +kernel
theorem dX9_readWithin_26 : decode cX9_readWithin 26 = .ok (.getfield 179, 3) := by decide +kernel
theorem dX9_readWithin_29 : decode cX9_readWithin 29 = .ok (.ifCond .eq 7, 3) := by decide +kernel
theorem dX9_readWithin_32 : decode cX9_readWithin 32 = .ok (.iload_n 2, 1) := by decide +kernel
theorem dX9_readWithin_33 : decode cX9_readWithin 33 = .ok (.goto 5, 3) := by decide +kernel
theorem dX9_readWithin_36 : decode cX9_readWithin 36 = .ok (.iload 4, 2) := by decide +kernel
theorem dX9_readWithin_38 : decode cX9_readWithin 38 = .ok (.ireturn, 1) := by decide +kernel
theorem dX9_readLine_0 : decode cX9_readLine 0 = .ok (.aload_n 0, 1) := by decide +kernel
theorem dX9_readLine_1 : decode cX9_readLine 1 = .ok (.aload_n 0, 1) := by decide +kernel
theorem dX9_readLine_2 : decode cX9_readLine 2 = .ok (.getfield 98, 3) := by decide +kernel
theorem dX9_readLine_5 : decode cX9_readLine 5 = .ok (.bipush 8, 2) := by decide +kernel
theorem dX9_readLine_7 : decode cX9_readLine 7 = .ok (.if_icmp .ge 7, 3) := by decide +kernel
theorem dX9_readLine_10 : decode cX9_readLine 10 = .ok (.iconst 1, 1) := by decide +kernel
theorem dX9_readLine_11 : decode cX9_readLine 11 = .ok (.goto 4, 3) := by decide +kernel
theorem dX9_readLine_14 : decode cX9_readLine 14 = .ok (.iconst 0, 1) := by decide +kernel
theorem dX9_readLine_15 : decode cX9_readLine 15 = .ok (.iload_n 1, 1) := by decide +kernel
theorem dX9_readLine_16 : decode cX9_readLine 16 = .ok (.invokevirtual 201, 3) := by decide +kernel
theorem dX9_readLine_19 : decode cX9_readLine 19 = .ok (.aload_n 0, 1) := by decide +kernel
theorem dX9_readLine_20 : decode cX9_readLine 20 = .ok (.iconst 1, 1) := by decide +kernel
theorem dX9_readLine_21 : decode cX9_readLine 21 = .ok (.iconst 0, 1) := by decide +kernel
theorem dX9_readLine_22 : decode cX9_readLine 22 = .ok (.iconst 5, 1) := by decide +kernel
theorem dX9_readLine_23 : decode cX9_readLine 23 = .ok (.invokevirtual 205, 3) := by decide +kernel
theorem dX9_readLine_26 : decode cX9_readLine 26 = .ok (.istore_n 2, 1) := by decide +kernel
theorem dX9_readLine_27 : decode cX9_readLine 27 = .ok (.aload_n 0, 1) := by decide +kernel
theorem dX9_readLine_28 : decode cX9_readLine 28 = .ok (.bipush 58, 2) := by decide +kernel
theorem dX9_readLine_30 : decode cX9_readLine 30 = .ok (.invokevirtual 208, 3) := by decide +kernel
theorem dX9_readLine_33 : decode cX9_readLine 33 = .ok (.iconst 0, 1) := by decide +kernel
theorem dX9_readLine_34 : decode cX9_readLine 34 = .ok (.istore_n 3, 1) := by decide +kernel
theorem dX9_readLine_35 : decode cX9_readLine 35 = .ok (.iconst 0, 1) := by decide +kernel
theorem dX9_readLine_36 : decode cX9_readLine 36 = .ok (.istore 4, 2) := by decide +kernel
theorem dX9_readLine_38 : decode cX9_readLine 38 = .ok (.aload_n 0, 1) := by decide +kernel
theorem dX9_readLine_39 : decode cX9_readLine 39 = .ok (.getfield 179, 3) := by decide +kernel
theorem dX9_readLine_42 : decode cX9_readLine 42 = .ok (.ifCond .ne 7, 3) := by decide +kernel
theorem dX9_readLine_45 : decode cX9_readLine 45 = .ok (.iconst 1, 1) := by decide +kernel
theorem dX9_readLine_46 : decode cX9_readLine 46 = .ok (.goto 4, 3) := by decide +kernel
theorem dX9_readLine_49 : decode cX9_readLine 49 = .ok (.iconst 0, 1) := by decide +kernel
theorem dX9_readLine_50 : decode cX9_readLine 50 = .ok (.istore 5, 2) := by decide +kernel
theorem dX9_readLine_52 : decode cX9_readLine 52 = .ok (.iload 5, 2) := by decide +kernel
theorem dX9_readLine_54 : decode cX9_readLine 54 = .ok (.ifCond .eq 102, 3) := by decide +kernel
theorem dX9_readLine_57 : decode cX9_readLine 57 = .ok (.aload_n 0, 1) := by decide +kernel
theorem dX9_readLine_58 : decode cX9_readLine 58 = .ok (.iconst 2, 1) := by decide +kernel
theorem dX9_readLine_59 : decode cX9_readLine 59 = .ok (.iconst 0, 1) := by decide +kernel
theorem dX9_readLine_60 : decode cX9_readLine 60 = .ok (.bipush 11, 2) := by decide +kernel
theorem dX9_readLine_62 : decode cX9_readLine 62 = .ok (.invokevirtual 205, 3) := by decide +kernel
theorem dX9_readLine_65 : decode cX9_readLine 65 = .ok (.istore 6, 2) := by decide +kernel
theorem dX9_readLine_67 : decode cX9_readLine 67 = .ok (.aload_n 0, 1) := by decide +kernel
theorem dX9_readLine_68 : decode cX9_readLine 68 = .ok (.iload_n 3, 1) := by decide +kernel
theorem dX9_readLine_69 : decode cX9_readLine 69 = .ok (.iload 6, 2) := by decide +kernel
theorem dX9_readLine_71 : decode cX9_readLine 71 = .ok (.ishr, 1) := by decide +kernel
theorem dX9_readLine_72 : decode cX9_readLine 72 = .ok (.iconst 1, 1) := by decide +kernel
theorem dX9_readLine_73 : decode cX9_readLine 73 = .ok (.iand, 1) := by decide +kernel
theorem dX9_readLine_74 : decode cX9_readLine 74 = .ok (.ifCond .ne 7, 3) := by decide +kernel
theorem dX9_readLine_77 : decode cX9_readLine 77 = .ok (.iconst 1, 1) := by decide +kernel
theorem dX9_readLine_78 : decode cX9_readLine 78 = .ok (.goto 4, 3) := by decide +kernel
theorem dX9_readLine_81 : decode cX9_readLine 81 = .ok (.iconst 0, 1) := by decide +kernel
theorem dX9_readLine_82 : decode cX9_readLine 82 = .ok (.aload_n 0, 1) := by decide +kernel
theorem dX9_readLine_83 : decode cX9_readLine 83 = .ok (.getfield 194, 3) := by decide +kernel
theorem dX9_readLine_86 : decode cX9_readLine 86 = .ok (.invokevirtual 201, 3) := by decide +kernel
theorem dX9_readLine_89 : decode cX9_readLine 89 = .ok (.aload_n 0, 1) := by decide +kernel
theorem dX9_readLine_90 : decode cX9_readLine 90 = .ok (.getfield 179, 3) := by decide +kernel
theorem dX9_readLine_93 : decode cX9_readLine 93 = .ok (.ifCond .ne 30, 3) := by decide +kernel
theorem dX9_readLine_96 : decode cX9_readLine 96 = .ok (.iload_n 3, 1) := by decide +kernel
theorem dX9_readLine_97 : decode cX9_readLine 97 = .ok (.iconst 1, 1) := by decide +kernel
theorem dX9_readLine_98 : decode cX9_readLine 98 = .ok (.iload 6, 2) := by decide +kernel
theorem dX9_readLine_100 : decode cX9_readLine 100 = .ok (.ishl, 1) := by decide +kernel
theorem dX9_readLine_101 : decode cX9_readLine 101 = .ok (.ior, 1) := by decide +kernel
theorem dX9_readLine_102 : decode cX9_readLine 102 = .ok (.istore_n 3, 1) := by decide +kernel
theorem dX9_readLine_103 : decode cX9_readLine 103 = .ok (.aload_n 0, 1) := by decide +kernel
theorem dX9_readLine_104 : decode cX9_readLine 104 = .ok (.getfield 16, 3) := by decide +kernel
theorem dX9_readLine_107 : decode cX9_readLine 107 = .ok (.bipush 6, 2) := by decide +kernel
theorem dX9_readLine_109 : decode cX9_readLine 109 = .ok (.aload_n 0, 1) := by decide +kernel
theorem dX9_readLine_110 : decode cX9_readLine 110 = .ok (.getfield 98, 3) := by decide +kernel
theorem dX9_readLine_113 : decode cX9_readLine 113 = .ok (.imul, 1) := by decide +kernel
theorem dX9_readLine_114 : decode cX9_readLine 114 = .ok (.iload 4, 2) := by decide +kernel
theorem dX9_readLine_116 : decode cX9_readLine 116 = .ok (.iadd, 1) := by decide +kernel
theorem dX9_readLine_117 : decode cX9_readLine 117 = .ok (.iload 6, 2) := by decide +kernel
theorem dX9_readLine_119 : decode cX9_readLine 119 = .ok (.iastore, 1) := by decide +kernel
theorem dX9_readLine_120 : decode cX9_readLine 120 = .ok (.iinc 4 1, 3) := by decide +kernel
theorem dX9_readLine_123 : decode cX9_readLine 123 = .ok (.aload_n 0, 1) := by decide +kernel
theorem dX9_readLine_124 : decode cX9_readLine 124 = .ok (.getfield 179, 3) := by decide +kernel
theorem dX9_readLine_127 : decode cX9_readLine 127 = .ok (.ifCond .ne 23, 3) := by decide +kernel
theorem dX9_readLine_130 : decode cX9_readLine 130 = .ok (.iload 4, 2) := by decide +kernel
theorem dX9_readLine_132 : decode cX9_readLine 132 = .ok (.bipush 6, 2) := by decide +kernel
theorem dX9_readLine_134 : decode cX9_readLine 134 = .ok (.if_icmp .ge 16, 3) := by decide +kernel
theorem dX9_readLine_137 : decode cX9_readLine 137 = .ok (.aload_n 0, 1) := by decide +kernel
theorem dX9_readLine_138 : decode cX9_readLine 138 = .ok (.bipush 62, 2) := by decide +kernel
theorem dX9_readLine_140 : decode cX9_readLine 140 = .ok (.invokevirtual 187, 3) := by decide +kernel
theorem dX9_readLine_143 : decode cX9_readLine 143 = .ok (.ifCond .eq 7, 3) := by decide +kernel
theorem dX9_readLine_146 : decode cX9_readLine 146 = .ok (.iconst 1, 1) := by decide +kernel
theorem dX9_readLine_147 : decode cX9_readLine 147 = .ok (.goto 4, 3) := by decide +kernel
theorem dX9_readLine_150 : decode cX9_readLine 150 = .ok (.iconst 0, 1) := by decide +kernel
theorem dX9_readLine_151 : decode cX9_readLine 151 = .ok (.istore 5, 2) := by decide +kernel
theorem dX9_readLine_153 : decode cX9_readLine 153 = .ok (.goto (-101), 3) := by decide +kernel
theorem dX9_readLine_156 : decode cX9_readLine 156 = .ok (.aload_n 0, 1) := by decide +kernel
theorem dX9_readLine_157 : decode cX9_readLine 157 = .ok (.aload_n 0, 1) := by decide +kernel
theorem dX9_readLine_158 : decode cX9_readLine 158 = .ok (.getfield 179, 3) := by decide +kernel
theorem dX9_readLine_161 : decode cX9_readLine 161 = .ok (.ifCond .ne 9, 3) := by decide +kernel
theorem dX9_readLine_164 : decode cX9_readLine 164 = .ok (.iload 4, 2) := by decide +kernel
theorem dX9_readLine_166 : decode cX9_readLine 166 = .ok (.iconst 2, 1) := by decide +kernel
theorem dX9_readLine_167 : decode cX9_readLine 167 = .ok (.if_icmp .ge 7, 3) := by decide +kernel
theorem dX9_readLine_170 : decode cX9_readLine 170 = .ok (.iconst 1, 1) := by decide +kernel
theorem dX9_readLine_171 : decode cX9_readLine 171 = .ok (.goto 4, 3) := by decide +kernel
theorem dX9_readLine_174 : decode cX9_readLine 174 = .ok (.iconst 0, 1) := by decide +kernel
theorem dX9_readLine_175 : decode cX9_readLine 175 = .ok (.putfield 179, 3) := by decide +kernel
theorem dX9_readLine_178 : decode cX9_readLine 178 = .ok (.aload_n 0, 1) := by decide +kernel
theorem dX9_readLine_179 : decode cX9_readLine 179 = .ok (.getfield 179, 3) := by decide +kernel
theorem dX9_readLine_182 : decode cX9_readLine 182 = .ok (.ifCond .ne 44, 3) := by decide +kernel
theorem dX9_readLine_185 : decode cX9_readLine 185 = .ok (.aload_n 0, 1) := by decide +kernel
theorem dX9_readLine_186 : decode cX9_readLine 186 = .ok (.getfield 7, 3) := by decide +kernel
theorem dX9_readLine_189 : decode cX9_readLine 189 = .ok (.aload_n 0, 1) := by decide +kernel
theorem dX9_readLine_190 : decode cX9_readLine 190 = .ok (.getfield 98, 3) := by decide +kernel
theorem dX9_readLine_193 : decode cX9_readLine 193 = .ok (.iload_n 2, 1) := by decide +kernel
theorem dX9_readLine_194 : decode cX9_readLine 194 = .ok (.iastore, 1) := by decide +kernel
theorem dX9_readLine_195 : decode cX9_readLine 195 = .ok (.aload_n 0, 1) := by decide +kernel
theorem dX9_readLine_196 : decode cX9_readLine 196 = .ok (.getfield 13, 3) := by decide +kernel
theorem dX9_readLine_199 : decode cX9_readLine 199 = .ok (.aload_n 0, 1) := by decide +kernel
theorem dX9_readLine_200 : decode cX9_readLine 200 = .ok (.getfield 98, 3) := by decide +kernel
theorem dX9_readLine_203 : decode cX9_readLine 203 = .ok (.iload 4, 2) := by decide +kernel
theorem dX9_readLine_205 : decode cX9_readLine 205 = .ok (.iastore, 1) := by decide +kernel
theorem dX9_readLine_206 : decode cX9_readLine 206 = .ok (.aload_n 0, 1) := by decide +kernel
theorem dX9_readLine_207 : decode cX9_readLine 207 = .ok (.getfield 19, 3) := by decide +kernel
theorem dX9_readLine_210 : decode cX9_readLine 210 = .ok (.aload_n 0, 1) := by decide +kernel
theorem dX9_readLine_211 : decode cX9_readLine 211 = .ok (.getfield 98, 3) := by decide +kernel
theorem dX9_readLine_214 : decode cX9_readLine 214 = .ok (.iconst 0, 1) := by decide +kernel
theorem dX9_readLine_215 : decode cX9_readLine 215 = .ok (.iastore, 1) := by decide +kernel
theorem dX9_readLine_216 : decode cX9_readLine 216 = .ok (.aload_n 0, 1) := by decide +kernel
theorem dX9_readLine_217 : decode cX9_readLine 217 = .ok (.dup, 1) := by decide +kernel
theorem dX9_readLine_218 : decode cX9_readLine 218 = .ok (.getfield 98, 3) := by decide +kernel
theorem dX9_readLine_221 : decode cX9_readLine 221 = .ok (.iconst 1, 1) := by decide +kernel
theorem dX9_readLine_222 : decode cX9_readLine 222 = .ok (.iadd, 1) := by decide +kernel
theorem dX9_readLine_223 : decode cX9_readLine 223 = .ok (.putfield 98, 3) := by decide +kernel
theorem dX9_readLine_226 : decode cX9_readLine 226 = .ok (.return_, 1) := by decide +kernel
theorem dX9_readTrip_0 : decode cX9_readTrip 0 = .ok (.aload_n 0, 1) := by decide +kernel
theorem dX9_readTrip_1 : decode cX9_readTrip 1 = .ok (.iconst 1, 1) := by decide +kernel
theorem dX9_readTrip_2 : decode cX9_readTrip 2 = .ok (.iconst 0, 1) := by decide +kernel
theorem dX9_readTrip_3 : decode cX9_readTrip 3 = .ok (.aload_n 0, 1) := by decide +kernel
theorem dX9_readTrip_4 : decode cX9_readTrip 4 = .ok (.getfield 98, 3) := by decide +kernel
theorem dX9_readTrip_7 : decode cX9_readTrip 7 = .ok (.iconst 1, 1) := by decide +kernel
theorem dX9_readTrip_8 : decode cX9_readTrip 8 = .ok (.isub, 1) := by decide +kernel
theorem dX9_readTrip_9 : decode cX9_readTrip 9 = .ok (.invokevirtual 205, 3) := by decide +kernel
theorem dX9_readTrip_12 : decode cX9_readTrip 12 = .ok (.istore_n 2, 1) := by decide +kernel
theorem dX9_readTrip_13 : decode cX9_readTrip 13 = .ok (.aload_n 0, 1) := by decide +kernel
theorem dX9_readTrip_14 : decode cX9_readTrip 14 = .ok (.aload_n 0, 1) := by decide +kernel
theorem dX9_readTrip_15 : decode cX9_readTrip 15 = .ok (.getfield 179, 3) := by decide +kernel
theorem dX9_readTrip_18 : decode cX9_readTrip 18 = .ok (.ifCond .ne 14, 3) := by decide +kernel
theorem dX9_readTrip_21 : decode cX9_readTrip 21 = .ok (.aload_n 0, 1) := by decide +kernel
theorem dX9_readTrip_22 : decode cX9_readTrip 22 = .ok (.getfield 19, 3) := by decide +kernel
theorem dX9_readTrip_25 : decode cX9_readTrip 25 = .ok (.iload_n 2, 1) := by decide +kernel
theorem dX9_readTrip_26 : decode cX9_readTrip 26 = .ok (.iaload, 1) := by decide +kernel
theorem dX9_readTrip_27 : decode cX9_readTrip 27 = .ok (.bipush 6, 2) := by decide +kernel
theorem dX9_readTrip_29 : decode cX9_readTrip 29 = .ok (.if_icmp .ge 7, 3) := by decide +kernel
theorem dX9_readTrip_32 : decode cX9_readTrip 32 = .ok (.iconst 1, 1) := by decide +kernel
theorem dX9_readTrip_33 : decode cX9_readTrip 33 = .ok (.goto 4, 3) := by decide +kernel
theorem dX9_readTrip_36 : decode cX9_readTrip 36 = .ok (.iconst 0, 1) := by decide +kernel
theorem dX9_readTrip_37 : decode cX9_readTrip 37 = .ok (.iload_n 1, 1) := by decide +kernel
theorem dX9_readTrip_38 : decode cX9_readTrip 38 = .ok (.invokevirtual 201, 3) := by decide +kernel
theorem dX9_readTrip_41 : decode cX9_readTrip 41 = .ok (.aload_n 0, 1) := by decide +kernel
theorem dX9_readTrip_42 : decode cX9_readTrip 42 = .ok (.bipush 58, 2) := by decide +kernel
theorem dX9_readTrip_44 : decode cX9_readTrip 44 = .ok (.invokevirtual 208, 3) := by decide +kernel
theorem dX9_readTrip_47 : decode cX9_readTrip 47 = .ok (.aload_n 0, 1) := by decide +kernel
theorem dX9_readTrip_48 : decode cX9_readTrip 48 = .ok (.iconst 4, 1) := by decide +kernel
theorem dX9_readTrip_49 : decode cX9_readTrip 49 = .ok (.iconst 0, 1) := by decide +kernel
theorem dX9_readTrip_50 : decode cX9_readTrip 50 = .ok (.sipush 1999, 3) := by decide +kernel
theorem dX9_readTrip_53 : decode cX9_readTrip 53 = .ok (.invokevirtual 205, 3) := by decide +kernel
theorem dX9_readTrip_56 : decode cX9_readTrip 56 = .ok (.istore_n 3, 1) := by decide +kernel
theorem dX9_readTrip_57 : decode cX9_readTrip 57 = .ok (.aload_n 0, 1) := by decide +kernel
theorem dX9_readTrip_58 : decode cX9_readTrip 58 = .ok (.getfield 179, 3) := by decide +kernel
theorem dX9_readTrip_61 : decode cX9_readTrip 61 = .ok (.ifCond .eq 4, 3) := by decide +kernel
theorem dX9_readTrip_64 : decode cX9_readTrip 64 = .ok (.return_, 1) := by decide +kernel
theorem dX9_readTrip_65 : decode cX9_readTrip 65 = .ok (.aload_n 0, 1) := by decide +kernel
theorem dX9_readTrip_66 : decode cX9_readTrip 66 = .ok (.getfield 19, 3) := by decide +kernel
theorem dX9_readTrip_69 : decode cX9_readTrip 69 = .ok (.iload_n 2, 1) := by decide +kernel
theorem dX9_readTrip_70 : decode cX9_readTrip 70 = .ok (.iaload, 1) := by decide +kernel
theorem dX9_readTrip_71 : decode cX9_readTrip 71 = .ok (.istore 4, 2) := by decide +kernel
theorem dX9_readTrip_73 : decode cX9_readTrip 73 = .ok (.aload_n 0, 1) := by decide +kernel
theorem dX9_readTrip_74 : decode cX9_readTrip 74 = .ok (.getfield 22, 3) := by decide +kernel
theorem dX9_readTrip_77 : decode cX9_readTrip 77 = .ok (.bipush 6, 2) := by decide +kernel
theorem dX9_readTrip_79 : decode cX9_readTrip 79 = .ok (.iload_n 2, 1) := by decide +kernel
theorem dX9_readTrip_80 : decode cX9_readTrip 80 = .ok (.imul, 1) := by decide +kernel
theorem dX9_readTrip_81 : decode cX9_readTrip 81 = .ok (.iload 4, 2) := by decide +kernel
theorem dX9_readTrip_83 : decode cX9_readTrip 83 = .ok (.iadd, 1) := by decide +kernel
theorem dX9_readTrip_84 : decode cX9_readTrip 84 = .ok (.iload_n 3, 1) := by decide +kernel
theorem dX9_readTrip_85 : decode cX9_readTrip 85 = .ok (.iastore, 1) := by decide +kernel
theorem dX9_readTrip_86 : decode cX9_readTrip 86 = .ok (.aload_n 0, 1) := by decide +kernel
theorem dX9_readTrip_87 : decode cX9_readTrip 87 = .ok (.getfield 25, 3) := by decide +kernel
theorem dX9_readTrip_90 : decode cX9_readTrip 90 = .ok (.bipush 36, 2) := by decide +kernel
theorem dX9_readTrip_92 : decode cX9_readTrip 92 = .ok (.iload_n 2, 1) := by decide +kernel
theorem dX9_readTrip_93 : decode cX9_readTrip 93 = .ok (.imul, 1) := by decide +kernel
theorem dX9_readTrip_94 : decode cX9_readTrip 94 = .ok (.bipush 6, 2) := by decide +kernel
theorem dX9_readTrip_96 : decode cX9_readTrip 96 = .ok (.iload 4, 2) := by decide +kernel
theorem dX9_readTrip_98 : decode cX9_readTrip 98 = .ok (.imul, 1) := by decide +kernel
theorem dX9_readTrip_99 : decode cX9_readTrip 99 = .ok (.iadd, 1) := by decide +kernel
theorem dX9_readTrip_100 : decode cX9_readTrip 100 = .ok (.iload_n 3, 1) := by decide +kernel
theorem dX9_readTrip_101 : decode cX9_readTrip 101 = .ok (.iastore, 1) := by decide +kernel
theorem dX9_readTrip_102 : decode cX9_readTrip 102 = .ok (.iconst 1, 1) := by decide +kernel
theorem dX9_readTrip_103 : decode cX9_readTrip 103 = .ok (.istore 5, 2) := by decide +kernel
theorem dX9_readTrip_105 : decode cX9_readTrip 105 = .ok (.iload 5, 2) := by decide +kernel
theorem dX9_readTrip_107 : decode cX9_readTrip 107 = .ok (.aload_n 0, 1) := by decide +kernel
theorem dX9_readTrip_108 : decode cX9_readTrip 108 = .ok (.getfield 13, 3) := by decide +kernel
theorem dX9_readTrip_111 : decode cX9_readTrip 111 = .ok (.iload_n 2, 1) := by decide +kernel
theorem dX9_readTrip_112 : decode cX9_readTrip 112 = .ok (.iaload, 1) := by decide +kernel
theorem dX9_readTrip_113 : decode cX9_readTrip 113 = .ok (.if_icmp .ge 55, 3) := by decide +kernel
theorem dX9_readTrip_116 : decode cX9_readTrip 116 = .ok (.aload_n 0, 1) := by decide +kernel
theorem dX9_readTrip_117 : decode cX9_readTrip 117 = .ok (.getfield 179, 3) := by decide +kernel
theorem dX9_readTrip_120 : decode cX9_readTrip 120 = .ok (.ifCond .ne 48, 3) := by decide +kernel
theorem dX9_readTrip_123 : decode cX9_readTrip 123 = .ok (.aload_n 0, 1) := by decide +kernel
theorem dX9_readTrip_124 : decode cX9_readTrip 124 = .ok (.bipush 43, 2) := by decide +kernel
theorem dX9_readTrip_126 : decode cX9_readTrip 126 = .ok (.invokevirtual 208, 3) := by decide +kernel
theorem dX9_readTrip_129 : decode cX9_readTrip 129 = .ok (.iload_n 3, 1) := by decide +kernel
theorem dX9_readTrip_130 : decode cX9_readTrip 130 = .ok (.aload_n 0, 1) := by decide +kernel
theorem dX9_readTrip_131 : decode cX9_readTrip 131 = .ok (.iconst 3, 1) := by decide +kernel
theorem dX9_readTrip_132 : decode cX9_readTrip 132 = .ok (.iconst 1, 1) := by decide +kernel
theorem dX9_readTrip_133 : decode cX9_readTrip 133 = .ok (.sipush 1999, 3) := by decide +kernel
theorem dX9_readTrip_136 : decode cX9_readTrip 136 = .ok (.iload_n 3, 1) := by decide +kernel
theorem dX9_readTrip_137 : decode cX9_readTrip 137 = .ok (.isub, 1) := by decide +kernel
theorem dX9_readTrip_138 : decode cX9_readTrip 138 = .ok (.invokevirtual 205, 3) := by decide +kernel
theorem dX9_readTrip_141 : decode cX9_readTrip 141 = .ok (.iadd, 1) := by decide +kernel
theorem dX9_readTrip_142 : decode cX9_readTrip 142 = .ok (.istore_n 3, 1) := by decide +kernel
theorem dX9_readTrip_143 : decode cX9_readTrip 143 = .ok (.aload_n 0, 1) := by decide +kernel
theorem dX9_readTrip_144 : decode cX9_readTrip 144 = .ok (.getfield 25, 3) := by decide +kernel
theorem dX9_readTrip_147 : decode cX9_readTrip 147 = .ok (.bipush 36, 2) := by decide +kernel
theorem dX9_readTrip_149 : decode cX9_readTrip 149 = .ok (.iload_n 2, 1) := by decide +kernel
theorem dX9_readTrip_150 : decode cX9_readTrip 150 = .ok (.imul, 1) := by decide +kernel
theorem dX9_readTrip_151 : decode cX9_readTrip 151 = .ok (.bipush 6, 2) := by decide +kernel
theorem dX9_readTrip_153 : decode cX9_readTrip 153 = .ok (.iload 4, 2) := by decide +kernel
theorem dX9_readTrip_155 : decode cX9_readTrip 155 = .ok (.imul, 1) := by decide +kernel
theorem dX9_readTrip_156 : decode cX9_readTrip 156 = .ok (.iadd, 1) := by decide +kernel
theorem dX9_readTrip_157 : decode cX9_readTrip 157 = .ok (.iload 5, 2) := by decide +kernel
theorem dX9_readTrip_159 : decode cX9_readTrip 159 = .ok (.iadd, 1) := by decide +kernel
theorem dX9_readTrip_160 : decode cX9_readTrip 160 = .ok (.iload_n 3, 1) := by decide +kernel
theorem dX9_readTrip_161 : decode cX9_readTrip 161 = .ok (.iastore, 1) := by decide +kernel
theorem dX9_readTrip_162 : decode cX9_readTrip 162 = .ok (.iinc 5 1, 3) := by decide +kernel
theorem dX9_readTrip_165 : decode cX9_readTrip 165 = .ok (.goto (-60), 3) := by decide +kernel
theorem dX9_readTrip_168 : decode cX9_readTrip 168 = .ok (.aload_n 0, 1) := by decide +kernel
theorem dX9_readTrip_169 : decode cX9_readTrip 169 = .ok (.getfield 19, 3) := by decide +kernel
theorem dX9_readTrip_172 : decode cX9_readTrip 172 = .ok (.iload_n 2, 1) := by decide +kernel
theorem dX9_readTrip_173 : decode cX9_readTrip 173 = .ok (.dup2, 1) := by decide +kernel
theorem dX9_readTrip_174 : decode cX9_readTrip 174 = .ok (.iaload, 1) := by decide +kernel
theorem dX9_readTrip_175 : decode cX9_readTrip 175 = .ok (.aload_n 0, 1) := by decide +kernel
theorem dX9_readTrip_176 : decode cX9_readTrip 176 = .ok (.getfield 179, 3) := by decide +kernel
theorem dX9_readTrip_179 : decode cX9_readTrip 179 = .ok (.ifCond .eq 7, 3) := by decide +kernel
theorem dX9_readTrip_182 : decode cX9_readTrip 182 = .ok (.iconst 0, 1) := by decide +kernel
theorem dX9_readTrip_183 : decode cX9_readTrip 183 = .ok (.goto 4, 3) := by decide +kernel
theorem dX9_readTrip_186 : decode cX9_readTrip 186 = .ok (.iconst 1, 1) := by decide +kernel
theorem dX9_readTrip_187 : decode cX9_readTrip 187 = .ok (.iadd, 1) := by decide +kernel
theorem dX9_readTrip_188 : decode cX9_readTrip 188 = .ok (.iastore, 1) := by decide +kernel
theorem dX9_readTrip_189 : decode cX9_readTrip 189 = .ok (.return_, 1) := by decide +kernel
theorem dX9_readFoot_0 : decode cX9_readFoot 0 = .ok (.aload_n 0, 1) := by decide +kernel
theorem dX9_readFoot_1 : decode cX9_readFoot 1 = .ok (.iconst 2, 1) := by decide +kernel
theorem dX9_readFoot_2 : decode cX9_readFoot 2 = .ok (.iconst 0, 1) := by decide +kernel
theorem dX9_readFoot_3 : decode cX9_readFoot 3 = .ok (.bipush 11, 2) := by decide +kernel
theorem dX9_readFoot_5 : decode cX9_readFoot 5 = .ok (.invokevirtual 205, 3) := by decide +kernel
theorem dX9_readFoot_8 : decode cX9_readFoot 8 = .ok (.istore_n 1, 1) := by decide +kernel
theorem dX9_readFoot_9 : decode cX9_readFoot 9 = .ok (.aload_n 0, 1) := by decide +kernel
theorem dX9_readFoot_10 : decode cX9_readFoot 10 = .ok (.bipush 45, 2) := by decide +kernel
theorem dX9_readFoot_12 : decode cX9_readFoot 12 = .ok (.invokevirtual 208, 3) := by decide +kernel
theorem dX9_readFoot_15 : decode cX9_readFoot 15 = .ok (.aload_n 0, 1) := by decide +kernel
theorem dX9_readFoot_16 : decode cX9_readFoot 16 = .ok (.iconst 2, 1) := by decide +kernel
theorem dX9_readFoot_17 : decode cX9_readFoot 17 = .ok (.iconst 0, 1) := by decide +kernel
theorem dX9_readFoot_18 : decode cX9_readFoot 18 = .ok (.bipush 11, 2) := by decide +kernel
theorem dX9_readFoot_20 : decode cX9_readFoot 20 = .ok (.invokevirtual 205, 3) := by decide +kernel
theorem dX9_readFoot_23 : decode cX9_readFoot 23 = .ok (.istore_n 2, 1) := by decide +kernel
theorem dX9_readFoot_24 : decode cX9_readFoot 24 = .ok (.aload_n 0, 1) := by decide +kernel
theorem dX9_readFoot_25 : decode cX9_readFoot 25 = .ok (.iload_n 1, 1) := by decide +kernel
theorem dX9_readFoot_26 : decode cX9_readFoot 26 = .ok (.iload_n 2, 1) := by decide +kernel
theorem dX9_readFoot_27 : decode cX9_readFoot 27 = .ok (.if_icmp .eq 7, 3) := by decide +kernel
theorem dX9_readFoot_30 : decode cX9_readFoot 30 = .ok (.iconst 1, 1) := by decide +kernel
theorem dX9_readFoot_31 : decode cX9_readFoot 31 = .ok (.goto 4, 3) := by decide +kernel
theorem dX9_readFoot_34 : decode cX9_readFoot 34 = .ok (.iconst 0, 1) := by decide +kernel
theorem dX9_readFoot_35 : decode cX9_readFoot 35 = .ok (.aload_n 0, 1) := by decide +kernel
theorem dX9_readFoot_36 : decode cX9_readFoot 36 = .ok (.getfield 194, 3) := by decide +kernel
theorem dX9_readFoot_39 : decode cX9_readFoot 39 = .ok (.invokevirtual 201, 3) := by decide +kernel
theorem dX9_readFoot_42 : decode cX9_readFoot 42 = .ok (.aload_n 0, 1) := by decide +kernel
theorem dX9_readFoot_43 : decode cX9_readFoot 43 = .ok (.bipush 61, 2) := by decide +kernel
theorem dX9_readFoot_45 : decode cX9_readFoot 45 = .ok (.invokevirtual 208, 3) := by decide +kernel
theorem dX9_readFoot_48 : decode cX9_readFoot 48 = .ok (.aload_n 0, 1) := by decide +kernel
theorem dX9_readFoot_49 : decode cX9_readFoot 49 = .ok (.iconst 2, 1) := by decide +kernel
theorem dX9_readFoot_50 : decode cX9_readFoot 50 = .ok (.iconst 1, 1) := by decide +kernel
theorem dX9_readFoot_51 : decode cX9_readFoot 51 = .ok (.bipush 60, 2) := by decide +kernel
theorem dX9_readFoot_53 : decode cX9_readFoot 53 = .ok (.invokevirtual 205, 3) := by decide +kernel
theorem dX9_readFoot_56 : decode cX9_readFoot 56 = .ok (.istore_n 3, 1) := by decide +kernel
theorem dX9_readFoot_57 : decode cX9_readFoot 57 = .ok (.aload_n 0, 1) := by decide +kernel
theorem dX9_readFoot_58 : decode cX9_readFoot 58 = .ok (.getfield 179, 3) := by decide +kernel
theorem dX9_readFoot_61 : decode cX9_readFoot 61 = .ok (.ifCond .ne 27, 3) := by decide +kernel
theorem dX9_readFoot_64 : decode cX9_readFoot 64 = .ok (.aload_n 0, 1) := by decide +kernel
theorem dX9_readFoot_65 : decode cX9_readFoot 65 = .ok (.getfield 28, 3) := by decide +kernel
theorem dX9_readFoot_68 : decode cX9_readFoot 68 = .ok (.bipush 12, 2) := by decide +kernel
theorem dX9_readFoot_70 : decode cX9_readFoot 70 = .ok (.iload_n 1, 1) := by decide +kernel
theorem dX9_readFoot_71 : decode cX9_readFoot 71 = .ok (.imul, 1) := by decide +kernel
theorem dX9_readFoot_72 : decode cX9_readFoot 72 = .ok (.iload_n 2, 1) := by decide +kernel
theorem dX9_readFoot_73 : decode cX9_readFoot 73 = .ok (.iadd, 1) := by decide +kernel
theorem dX9_readFoot_74 : decode cX9_readFoot 74 = .ok (.iload_n 3, 1) := by decide +kernel
theorem dX9_readFoot_75 : decode cX9_readFoot 75 = .ok (.iastore, 1) := by decide +kernel
theorem dX9_readFoot_76 : decode cX9_readFoot 76 = .ok (.aload_n 0, 1) := by decide +kernel
theorem dX9_readFoot_77 : decode cX9_readFoot 77 = .ok (.getfield 28, 3) := by decide +kernel
theorem dX9_readFoot_80 : decode cX9_readFoot 80 = .ok (.bipush 12, 2) := by decide +kernel
theorem dX9_readFoot_82 : decode cX9_readFoot 82 = .ok (.iload_n 2, 1) := by decide +kernel
theorem dX9_readFoot_83 : decode cX9_readFoot 83 = .ok (.imul, 1) := by decide +kernel
theorem dX9_readFoot_84 : decode cX9_readFoot 84 = .ok (.iload_n 1, 1) := by decide +kernel
theorem dX9_readFoot_85 : decode cX9_readFoot 85 = .ok (.iadd, 1) := by decide +kernel
theorem dX9_readFoot_86 : decode cX9_readFoot 86 = .ok (.iload_n 3, 1) := by decide +kernel
theorem dX9_readFoot_87 : decode cX9_readFoot 87 = .ok (.iastore, 1) := by decide +kernel
theorem dX9_readFoot_88 : decode cX9_readFoot 88 = .ok (.return_, 1) := by decide +kernel
theorem dX9_isTooLate_0 : decode cX9_isTooLate 0 = .ok (.aload_n 0, 1) := by decide +kernel
theorem dX9_isTooLate_1 : decode cX9_isTooLate 1 = .ok (.iload_n 1, 1) := by decide +kernel
theorem dX9_isTooLate_2 : decode cX9_isTooLate 2 = .ok (.iload_n 2, 1) := by decide +kernel
theorem dX9_isTooLate_3 : decode cX9_isTooLate 3 = .ok (.aload_n 0, 1) := by decide +kernel
theorem dX9_isTooLate_4 : decode cX9_isTooLate 4 = .ok (.getfield 13, 3) := by decide +kernel
theorem dX9_isTooLate_7 : decode cX9_isTooLate 7 = .ok (.iload_n 1, 1) := by decide +kernel
theorem dX9_isTooLate_8 : decode cX9_isTooLate 8 = .ok (.iaload, 1) := by decide +kernel
theorem dX9_isTooLate_9 : decode cX9_isTooLate 9 = .ok (.iconst 1, 1) := by decide +kernel
theorem dX9_isTooLate_10 : decode cX9_isTooLate 10 = .ok (.isub, 1) := by decide +kernel
theorem dX9_isTooLate_11 : decode cX9_isTooLate 11 = .ok (.invokevirtual 120, 3) := by decide +kernel
theorem dX9_isTooLate_14 : decode cX9_isTooLate 14 = .ok (.iload_n 3, 1) := by decide +kernel
theorem dX9_isTooLate_15 : decode cX9_isTooLate 15 = .ok (.iadd, 1) := by decide +kernel
theorem dX9_isTooLate_16 : decode cX9_isTooLate 16 = .ok (.sipush 9000, 3) := by decide +kernel
theorem dX9_isTooLate_19 : decode cX9_isTooLate 19 = .ok (.if_icmp .le 7, 3) := by decide +kernel
theorem dX9_isTooLate_22 : decode cX9_isTooLate 22 = .ok (.iconst 1, 1) := by decide +kernel
theorem dX9_isTooLate_23 : decode cX9_isTooLate 23 = .ok (.goto 4, 3) := by decide +kernel
theorem dX9_isTooLate_26 : decode cX9_isTooLate 26 = .ok (.iconst 0, 1) := by decide +kernel
theorem dX9_isTooLate_27 : decode cX9_isTooLate 27 = .ok (.ireturn, 1) := by decide +kernel
theorem dX9_delays_0 : decode cX9_delays 0 = .ok (.iload_n 3, 1) := by decide +kernel
theorem dX9_delays_1 : decode cX9_delays 1 = .ok (.istore 5, 2) := by decide +kernel
theorem dX9_delays_3 : decode cX9_delays 3 = .ok (.iload 5, 2) := by decide +kernel
theorem dX9_delays_5 : decode cX9_delays 5 = .ok (.aload_n 0, 1) := by decide +kernel
theorem dX9_delays_6 : decode cX9_delays 6 = .ok (.getfield 13, 3) := by decide +kernel
theorem dX9_delays_9 : decode cX9_delays 9 = .ok (.iload_n 1, 1) := by decide +kernel
theorem dX9_delays_10 : decode cX9_delays 10 = .ok (.iaload, 1) := by decide +kernel
theorem dX9_delays_11 : decode cX9_delays 11 = .ok (.if_icmp .ge 31, 3) := by decide +kernel
theorem dX9_delays_14 : decode cX9_delays 14 = .ok (.aload_n 0, 1) := by decide +kernel
theorem dX9_delays_15 : decode cX9_delays 15 = .ok (.getfield 25, 3) := by decide +kernel
theorem dX9_delays_18 : decode cX9_delays 18 = .ok (.bipush 36, 2) := by decide +kernel
theorem dX9_delays_20 : decode cX9_delays 20 = .ok (.iload_n 1, 1) := by decide +kernel
theorem dX9_delays_21 : decode cX9_delays 21 = .ok (.imul, 1) := by decide +kernel
theorem dX9_delays_22 : decode cX9_delays 22 = .ok (.bipush 6, 2) := by decide +kernel
theorem dX9_delays_24 : decode cX9_delays 24 = .ok (.iload_n 2, 1) := by decide +kernel
theorem dX9_delays_25 : decode cX9_delays 25 = .ok (.imul, 1) := by decide +kernel
theorem dX9_delays_26 : decode cX9_delays 26 = .ok (.iadd, 1) := by decide +kernel
theorem dX9_delays_27 : decode cX9_delays 27 = .ok (.iload 5, 2) := by decide +kernel
theorem dX9_delays_29 : decode cX9_delays 29 = .ok (.iadd, 1) := by decide +kernel
theorem dX9_delays_30 : decode cX9_delays 30 = .ok (.dup2, 1) := by decide +kernel
theorem dX9_delays_31 : decode cX9_delays 31 = .ok (.iaload, 1) := by decide +kernel
theorem dX9_delays_32 : decode cX9_delays 32 = .ok (.iload 4, 2) := by decide +kernel
theorem dX9_delays_34 : decode cX9_delays 34 = .ok (.iadd, 1) := by decide +kernel
theorem dX9_delays_35 : decode cX9_delays 35 = .ok (.iastore, 1) := by decide +kernel
theorem dX9_delays_36 : decode cX9_delays 36 = .ok (.iinc 5 1, 3) := by decide +kernel
theorem dX9_delays_39 : decode cX9_delays 39 = .ok (.goto (-36), 3) := by decide +kernel
theorem dX9_delays_42 : decode cX9_delays 42 = .ok (.return_, 1) := by decide +kernel
theorem dX9_readDelay_0 : decode cX9_readDelay 0 = .ok (.aload_n 0, 1) := by decide +kernel
theorem dX9_readDelay_1 : decode cX9_readDelay 1 = .ok (.iconst 1, 1) := by decide +kernel
theorem dX9_readDelay_2 : decode cX9_readDelay 2 = .ok (.iconst 0, 1) := by decide +kernel
theorem dX9_readDelay_3 : decode cX9_readDelay 3 = .ok (.aload_n 0, 1) := by decide +kernel
theorem dX9_readDelay_4 : decode cX9_readDelay 4 = .ok (.getfield 98, 3) := by decide +kernel
theorem dX9_readDelay_7 : decode cX9_readDelay 7 = .ok (.iconst 1, 1) := by decide +kernel
theorem dX9_readDelay_8 : decode cX9_readDelay 8 = .ok (.isub, 1) := by decide +kernel
theorem dX9_readDelay_9 : decode cX9_readDelay 9 = .ok (.invokevirtual 205, 3) := by decide +kernel
theorem dX9_readDelay_12 : decode cX9_readDelay 12 = .ok (.istore_n 2, 1) := by decide +kernel
theorem dX9_readDelay_13 : decode cX9_readDelay 13 = .ok (.aload_n 0, 1) := by decide +kernel
theorem dX9_readDelay_14 : decode cX9_readDelay 14 = .ok (.bipush 46, 2) := by decide +kernel
theorem dX9_readDelay_16 : decode cX9_readDelay 16 = .ok (.invokevirtual 208, 3) := by decide +kernel
theorem dX9_readDelay_19 : decode cX9_readDelay 19 = .ok (.aload_n 0, 1) := by decide +kernel
theorem dX9_readDelay_20 : decode cX9_readDelay 20 = .ok (.iconst 1, 1) := by decide +kernel
theorem dX9_readDelay_21 : decode cX9_readDelay 21 = .ok (.iconst 0, 1) := by decide +kernel
theorem dX9_readDelay_22 : decode cX9_readDelay 22 = .ok (.aload_n 0, 1) := by decide +kernel
theorem dX9_readDelay_23 : decode cX9_readDelay 23 = .ok (.getfield 179, 3) := by decide +kernel
theorem dX9_readDelay_26 : decode cX9_readDelay 26 = .ok (.ifCond .eq 7, 3) := by decide +kernel
theorem dX9_readDelay_29 : decode cX9_readDelay 29 = .ok (.iconst 0, 1) := by decide +kernel
theorem dX9_readDelay_30 : decode cX9_readDelay 30 = .ok (.goto 11, 3) := by decide +kernel
theorem dX9_readDelay_33 : decode cX9_readDelay 33 = .ok (.aload_n 0, 1) := by decide +kernel
theorem dX9_readDelay_34 : decode cX9_readDelay 34 = .ok (.getfield 19, 3) := by decide +kernel
theorem dX9_readDelay_37 : decode cX9_readDelay 37 = .ok (.iload_n 2, 1) := by decide +kernel
theorem dX9_readDelay_38 : decode cX9_readDelay 38 = .ok (.iaload, 1) := by decide +kernel
theorem dX9_readDelay_39 : decode cX9_readDelay 39 = .ok (.iconst 1, 1) := by decide +kernel
theorem dX9_readDelay_40 : decode cX9_readDelay 40 = .ok (.isub, 1) := by decide +kernel
theorem dX9_readDelay_41 : decode cX9_readDelay 41 = .ok (.invokevirtual 205, 3) := by decide +kernel
theorem dX9_readDelay_44 : decode cX9_readDelay 44 = .ok (.istore_n 3, 1) := by decide +kernel
theorem dX9_readDelay_45 : decode cX9_readDelay 45 = .ok (.aload_n 0, 1) := by decide +kernel
theorem dX9_readDelay_46 : decode cX9_readDelay 46 = .ok (.bipush 64, 2) := by decide +kernel
theorem dX9_readDelay_48 : decode cX9_readDelay 48 = .ok (.invokevirtual 208, 3) := by decide +kernel
theorem dX9_readDelay_51 : decode cX9_readDelay 51 = .ok (.aload_n 0, 1) := by decide +kernel
theorem dX9_readDelay_52 : decode cX9_readDelay 52 = .ok (.iconst 1, 1) := by decide +kernel
theorem dX9_readDelay_53 : decode cX9_readDelay 53 = .ok (.iconst 0, 1) := by decide +kernel
theorem dX9_readDelay_54 : decode cX9_readDelay 54 = .ok (.aload_n 0, 1) := by decide +kernel
theorem dX9_readDelay_55 : decode cX9_readDelay 55 = .ok (.getfield 179, 3) := by decide +kernel
theorem dX9_readDelay_58 : decode cX9_readDelay 58 = .ok (.ifCond .eq 7, 3) := by decide +kernel
theorem dX9_readDelay_61 : decode cX9_readDelay 61 = .ok (.iconst 0, 1) := by decide +kernel
theorem dX9_readDelay_62 : decode cX9_readDelay 62 = .ok (.goto 11, 3) := by decide +kernel
theorem dX9_readDelay_65 : decode cX9_readDelay 65 = .ok (.aload_n 0, 1) := by decide +kernel
theorem dX9_readDelay_66 : decode cX9_readDelay 66 = .ok (.getfield 13, 3) := by decide +kernel
theorem dX9_readDelay_69 : decode cX9_readDelay 69 = .ok (.iload_n 2, 1) := by decide +kernel
theorem dX9_readDelay_70 : decode cX9_readDelay 70 = .ok (.iaload, 1) := by decide +kernel
theorem dX9_readDelay_71 : decode cX9_readDelay 71 = .ok (.iconst 1, 1) := by decide +kernel
theorem dX9_readDelay_72 : decode cX9_readDelay 72 = .ok (.isub, 1) := by decide +kernel
theorem dX9_readDelay_73 : decode cX9_readDelay 73 = .ok (.invokevirtual 205, 3) := by decide +kernel
theorem dX9_readDelay_76 : decode cX9_readDelay 76 = .ok (.istore 4, 2) := by decide +kernel
theorem dX9_readDelay_78 : decode cX9_readDelay 78 = .ok (.aload_n 0, 1) := by decide +kernel
theorem dX9_readDelay_79 : decode cX9_readDelay 79 = .ok (.bipush 43, 2) := by decide +kernel
theorem dX9_readDelay_81 : decode cX9_readDelay 81 = .ok (.invokevirtual 208, 3) := by decide +kernel
theorem dX9_readDelay_84 : decode cX9_readDelay 84 = .ok (.aload_n 0, 1) := by decide +kernel
theorem dX9_readDelay_85 : decode cX9_readDelay 85 = .ok (.iconst 2, 1) := by decide +kernel
theorem dX9_readDelay_86 : decode cX9_readDelay 86 = .ok (.iconst 1, 1) := by decide +kernel
theorem dX9_readDelay_87 : decode cX9_readDelay 87 = .ok (.bipush 99, 2) := by decide +kernel
theorem dX9_readDelay_89 : decode cX9_readDelay 89 = .ok (.invokevirtual 205, 3) := by decide +kernel
theorem dX9_readDelay_92 : decode cX9_readDelay 92 = .ok (.istore 5, 2) := by decide +kernel
theorem dX9_readDelay_94 : decode cX9_readDelay 94 = .ok (.aload_n 0, 1) := by decide +kernel
theorem dX9_readDelay_95 : decode cX9_readDelay 95 = .ok (.aload_n 0, 1) := by decide +kernel
theorem dX9_readDelay_96 : decode cX9_readDelay 96 = .ok (.getfield 179, 3) := by decide +kernel
theorem dX9_readDelay_99 : decode cX9_readDelay 99 = .ok (.ifCond .ne 14, 3) := by decide +kernel
theorem dX9_readDelay_102 : decode cX9_readDelay 102 = .ok (.aload_n 0, 1) := by decide +kernel
theorem dX9_readDelay_103 : decode cX9_readDelay 103 = .ok (.iload_n 2, 1) := by decide +kernel
theorem dX9_readDelay_104 : decode cX9_readDelay 104 = .ok (.iload_n 3, 1) := by decide +kernel
theorem dX9_readDelay_105 : decode cX9_readDelay 105 = .ok (.iload 5, 2) := by decide +kernel
theorem dX9_readDelay_107 : decode cX9_readDelay 107 = .ok (.invokevirtual 211, 3) := by decide +kernel
theorem dX9_readDelay_110 : decode cX9_readDelay 110 = .ok (.ifCond .ne 7, 3) := by decide +kernel
theorem dX9_readDelay_113 : decode cX9_readDelay 113 = .ok (.iconst 1, 1) := by decide +kernel
theorem dX9_readDelay_114 : decode cX9_readDelay 114 = .ok (.goto 4, 3) := by decide +kernel
theorem dX9_readDelay_117 : decode cX9_readDelay 117 = .ok (.iconst 0, 1) := by decide +kernel
theorem dX9_readDelay_118 : decode cX9_readDelay 118 = .ok (.iload_n 1, 1) := by decide +kernel
theorem dX9_readDelay_119 : decode cX9_readDelay 119 = .ok (.invokevirtual 201, 3) := by decide +kernel
theorem dX9_readDelay_122 : decode cX9_readDelay 122 = .ok (.aload_n 0, 1) := by decide +kernel
theorem dX9_readDelay_123 : decode cX9_readDelay 123 = .ok (.getfield 179, 3) := by decide +kernel
theorem dX9_readDelay_126 : decode cX9_readDelay 126 = .ok (.ifCond .ne 13, 3) := by decide +kernel
theorem dX9_readDelay_129 : decode cX9_readDelay 129 = .ok (.aload_n 0, 1) := by decide +kernel
theorem dX9_readDelay_130 : decode cX9_readDelay 130 = .ok (.iload_n 2, 1) := by decide +kernel
theorem dX9_readDelay_131 : decode cX9_readDelay 131 = .ok (.iload_n 3, 1) := by decide +kernel
theorem dX9_readDelay_132 : decode cX9_readDelay 132 = .ok (.iload 4, 2) := by decide +kernel
theorem dX9_readDelay_134 : decode cX9_readDelay 134 = .ok (.iload 5, 2) := by decide +kernel
theorem dX9_readDelay_136 : decode cX9_readDelay 136 = .ok (.invokevirtual 214, 3) := by decide +kernel
theorem dX9_readDelay_139 : decode cX9_readDelay 139 = .ok (.return_, 1) := by decide +kernel
theorem dX9_readPart_0 : decode cX9_readPart 0 = .ok (.aload_n 0, 1) := by decide +kernel
theorem dX9_readPart_1 : decode cX9_readPart 1 = .ok (.getfield 176, 3) := by decide +kernel
theorem dX9_readPart_4 : decode cX9_readPart 4 = .ok (.istore_n 1, 1) := by decide +kernel
theorem dX9_readPart_5 : decode cX9_readPart 5 = .ok (.aload_n 0, 1) := by decide +kernel
theorem dX9_readPart_6 : decode cX9_readPart 6 = .ok (.invokevirtual 183, 3) := by decide +kernel
theorem dX9_readPart_9 : decode cX9_readPart 9 = .ok (.istore_n 2, 1) := by decide +kernel
theorem dX9_readPart_10 : decode cX9_readPart 10 = .ok (.aload_n 0, 1) := by decide +kernel
theorem dX9_readPart_11 : decode cX9_readPart 11 = .ok (.iload_n 2, 1) := by decide +kernel
theorem dX9_readPart_12 : decode cX9_readPart 12 = .ok (.bipush 76, 2) := by decide +kernel
theorem dX9_readPart_14 : decode cX9_readPart 14 = .ok (.if_icmp .eq 25, 3) := by decide +kernel
theorem dX9_readPart_17 : decode cX9_readPart 17 = .ok (.iload_n 2, 1) := by decide +kernel
theorem dX9_readPart_18 : decode cX9_readPart 18 = .ok (.bipush 84, 2) := by decide +kernel
theorem dX9_readPart_20 : decode cX9_readPart 20 = .ok (.if_icmp .eq 19, 3) := by decide +kernel
theorem dX9_readPart_23 : decode cX9_readPart 23 = .ok (.iload_n 2, 1) := by decide +kernel
theorem dX9_readPart_24 : decode cX9_readPart 24 = .ok (.bipush 70, 2) := by decide +kernel
theorem dX9_readPart_26 : decode cX9_readPart 26 = .ok (.if_icmp .eq 13, 3) := by decide +kernel
theorem dX9_readPart_29 : decode cX9_readPart 29 = .ok (.iload_n 2, 1) := by decide +kernel
theorem dX9_readPart_30 : decode cX9_readPart 30 = .ok (.bipush 68, 2) := by decide +kernel
theorem dX9_readPart_32 : decode cX9_readPart 32 = .ok (.if_icmp .eq 7, 3) := by decide +kernel
theorem dX9_readPart_35 : decode cX9_readPart 35 = .ok (.iconst 1, 1) := by decide +kernel
theorem dX9_readPart_36 : decode cX9_readPart 36 = .ok (.goto 4, 3) := by decide +kernel
theorem dX9_readPart_39 : decode cX9_readPart 39 = .ok (.iconst 0, 1) := by decide +kernel
theorem dX9_readPart_40 : decode cX9_readPart 40 = .ok (.putfield 179, 3) := by decide +kernel
theorem dX9_readPart_43 : decode cX9_readPart 43 = .ok (.aload_n 0, 1) := by decide +kernel
theorem dX9_readPart_44 : decode cX9_readPart 44 = .ok (.dup, 1) := by decide +kernel
theorem dX9_readPart_45 : decode cX9_readPart 45 = .ok (.getfield 176, 3) := by decide +kernel
theorem dX9_readPart_48 : decode cX9_readPart 48 = .ok (.aload_n 0, 1) := by decide +kernel
theorem dX9_readPart_49 : decode cX9_readPart 49 = .ok (.getfield 179, 3) := by decide +kernel
theorem dX9_readPart_52 : decode cX9_readPart 52 = .ok (.ifCond .eq 7, 3) := by decide +kernel
theorem dX9_readPart_55 : decode cX9_readPart 55 = .ok (.iconst 0, 1) := by decide +kernel
theorem dX9_readPart_56 : decode cX9_readPart 56 = .ok (.goto 4, 3) := by decide +kernel
theorem dX9_readPart_59 : decode cX9_readPart 59 = .ok (.iconst 1, 1) := by decide +kernel
theorem dX9_readPart_60 : decode cX9_readPart 60 = .ok (.iadd, 1) := by decide +kernel
theorem dX9_readPart_61 : decode cX9_readPart 61 = .ok (.putfield 176, 3) := by decide +kernel
theorem dX9_readPart_64 : decode cX9_readPart 64 = .ok (.aload_n 0, 1) := by decide +kernel
theorem dX9_readPart_65 : decode cX9_readPart 65 = .ok (.getfield 179, 3) := by decide +kernel
theorem dX9_readPart_68 : decode cX9_readPart 68 = .ok (.ifCond .eq 4, 3) := by decide +kernel
theorem dX9_readPart_71 : decode cX9_readPart 71 = .ok (.return_, 1) := by decide +kernel
theorem dX9_readPart_72 : decode cX9_readPart 72 = .ok (.iload_n 2, 1) := by decide +kernel
theorem dX9_readPart_73 : decode cX9_readPart 73 = .ok (.bipush 76, 2) := by decide +kernel
theorem dX9_readPart_75 : decode cX9_readPart 75 = .ok (.if_icmp .ne 11, 3) := by decide +kernel
theorem dX9_readPart_78 : decode cX9_readPart 78 = .ok (.aload_n 0, 1) := by decide +kernel
theorem dX9_readPart_79 : decode cX9_readPart 79 = .ok (.iload_n 1, 1) := by decide +kernel
theorem dX9_readPart_80 : decode cX9_readPart 80 = .ok (.invokevirtual 218, 3) := by decide +kernel
theorem dX9_readPart_83 : decode cX9_readPart 83 = .ok (.goto 35, 3) := by decide +kernel
theorem dX9_readPart_86 : decode cX9_readPart 86 = .ok (.iload_n 2, 1) := by decide +kernel
theorem dX9_readPart_87 : decode cX9_readPart 87 = .ok (.bipush 84, 2) := by decide +kernel
theorem dX9_readPart_89 : decode cX9_readPart 89 = .ok (.if_icmp .ne 11, 3) := by decide +kernel
theorem dX9_readPart_92 : decode cX9_readPart 92 = .ok (.aload_n 0, 1) := by decide +kernel
theorem dX9_readPart_93 : decode cX9_readPart 93 = .ok (.iload_n 1, 1) := by decide +kernel
theorem dX9_readPart_94 : decode cX9_readPart 94 = .ok (.invokevirtual 221, 3) := by decide +kernel
theorem dX9_readPart_97 : decode cX9_readPart 97 = .ok (.goto 21, 3) := by decide +kernel
theorem dX9_readPart_100 : decode cX9_readPart 100 = .ok (.iload_n 2, 1) := by decide +kernel
theorem dX9_readPart_101 : decode cX9_readPart 101 = .ok (.bipush 70, 2) := by decide +kernel
theorem dX9_readPart_103 : decode cX9_readPart 103 = .ok (.if_icmp .ne 10, 3) := by decide +kernel
theorem dX9_readPart_106 : decode cX9_readPart 106 = .ok (.aload_n 0, 1) := by decide +kernel
theorem dX9_readPart_107 : decode cX9_readPart 107 = .ok (.invokevirtual 224, 3) := by decide +kernel
theorem dX9_readPart_110 : decode cX9_readPart 110 = .ok (.goto 8, 3) := by decide +kernel
theorem dX9_readPart_113 : decode cX9_readPart 113 = .ok (.aload_n 0, 1) := by decide +kernel
theorem dX9_readPart_114 : decode cX9_readPart 114 = .ok (.iload_n 1, 1) := by decide +kernel
theorem dX9_readPart_115 : decode cX9_readPart 115 = .ok (.invokevirtual 227, 3) := by decide +kernel
theorem dX9_readPart_118 : decode cX9_readPart 118 = .ok (.return_, 1) := by decide +kernel
theorem dX9_table_0 : decode cX9_table 0 = .ok (.aload_n 0, 1) := by decide +kernel
theorem dX9_table_1 : decode cX9_table 1 = .ok (.iconst 0, 1) := by decide +kernel
theorem dX9_table_2 : decode cX9_table 2 = .ok (.putfield 87, 3) := by decide +kernel
theorem dX9_table_5 : decode cX9_table 5 = .ok (.aload_n 0, 1) := by decide +kernel
theorem dX9_table_6 : decode cX9_table 6 = .ok (.aload_n 0, 1) := by decide +kernel
theorem dX9_table_7 : decode cX9_table 7 = .ok (.getfield 68, 3) := by decide +kernel
theorem dX9_table_10 : decode cX9_table 10 = .ok (.iconst 1, 1) := by decide +kernel
theorem dX9_table_11 : decode cX9_table 11 = .ok (.invokevirtual 230, 3) := by decide +kernel
theorem dX9_table_14 : decode cX9_table 14 = .ok (.aload_n 0, 1) := by decide +kernel
theorem dX9_table_15 : decode cX9_table 15 = .ok (.iconst 0, 1) := by decide +kernel
theorem dX9_table_16 : decode cX9_table 16 = .ok (.putfield 176, 3) := by decide +kernel
theorem dX9_table_19 : decode cX9_table 19 = .ok (.aload_n 0, 1) := by decide +kernel
theorem dX9_table_20 : decode cX9_table 20 = .ok (.iconst 0, 1) := by decide +kernel
theorem dX9_table_21 : decode cX9_table 21 = .ok (.putfield 179, 3) := by decide +kernel
theorem dX9_table_24 : decode cX9_table 24 = .ok (.iconst 0, 1) := by decide +kernel
theorem dX9_table_25 : decode cX9_table 25 = .ok (.istore_n 1, 1) := by decide +kernel
theorem dX9_table_26 : decode cX9_table 26 = .ok (.iconst 1, 1) := by decide +kernel
theorem dX9_table_27 : decode cX9_table 27 = .ok (.istore_n 2, 1) := by decide +kernel
theorem dX9_table_28 : decode cX9_table 28 = .ok (.iload_n 2, 1) := by decide +kernel
theorem dX9_table_29 : decode cX9_table 29 = .ok (.ifCond .eq 20, 3) := by decide +kernel
theorem dX9_table_32 : decode cX9_table 32 = .ok (.aload_n 0, 1) := by decide +kernel
theorem dX9_table_33 : decode cX9_table 33 = .ok (.invokevirtual 234, 3) := by decide +kernel
theorem dX9_table_36 : decode cX9_table 36 = .ok (.iinc 1 1, 3) := by decide +kernel
theorem dX9_table_39 : decode cX9_table 39 = .ok (.aload_n 0, 1) := by decide +kernel
theorem dX9_table_40 : decode cX9_table 40 = .ok (.bipush 59, 2) := by decide +kernel
theorem dX9_table_42 : decode cX9_table 42 = .ok (.invokevirtual 187, 3) := by decide +kernel
theorem dX9_table_45 : decode cX9_table 45 = .ok (.istore_n 2, 1) := by decide +kernel
theorem dX9_table_46 : decode cX9_table 46 = .ok (.goto (-18), 3) := by decide +kernel
theorem dX9_table_49 : decode cX9_table 49 = .ok (.aload_n 0, 1) := by decide +kernel
theorem dX9_table_50 : decode cX9_table 50 = .ok (.aload_n 0, 1) := by decide +kernel
theorem dX9_table_51 : decode cX9_table 51 = .ok (.getfield 179, 3) := by decide +kernel
theorem dX9_table_54 : decode cX9_table 54 = .ok (.ifCond .ne 14, 3) := by decide +kernel
theorem dX9_table_57 : decode cX9_table 57 = .ok (.aload_n 0, 1) := by decide +kernel
theorem dX9_table_58 : decode cX9_table 58 = .ok (.getfield 176, 3) := by decide +kernel
theorem dX9_table_61 : decode cX9_table 61 = .ok (.aload_n 0, 1) := by decide +kernel
theorem dX9_table_62 : decode cX9_table 62 = .ok (.getfield 173, 3) := by decide +kernel
theorem dX9_table_65 : decode cX9_table 65 = .ok (.if_icmp .ge 7, 3) := by decide +kernel
theorem dX9_table_68 : decode cX9_table 68 = .ok (.iconst 1, 1) := by decide +kernel
theorem dX9_table_69 : decode cX9_table 69 = .ok (.goto 4, 3) := by decide +kernel
theorem dX9_table_72 : decode cX9_table 72 = .ok (.iconst 0, 1) := by decide +kernel
theorem dX9_table_73 : decode cX9_table 73 = .ok (.putfield 179, 3) := by decide +kernel
theorem dX9_table_76 : decode cX9_table 76 = .ok (.aload_n 0, 1) := by decide +kernel
theorem dX9_table_77 : decode cX9_table 77 = .ok (.iconst 0, 1) := by decide +kernel
theorem dX9_table_78 : decode cX9_table 78 = .ok (.putfield 173, 3) := by decide +kernel
theorem dX9_table_81 : decode cX9_table 81 = .ok (.aload_n 0, 1) := by decide +kernel
theorem dX9_table_82 : decode cX9_table 82 = .ok (.getfield 179, 3) := by decide +kernel
theorem dX9_table_85 : decode cX9_table 85 = .ok (.ifCond .eq 20, 3) := by decide +kernel
theorem dX9_table_88 : decode cX9_table 88 = .ok (.aload_n 0, 1) := by decide +kernel
theorem dX9_table_89 : decode cX9_table 89 = .ok (.aload_n 0, 1) := by decide +kernel
theorem dX9_table_90 : decode cX9_table 90 = .ok (.getfield 68, 3) := by decide +kernel
theorem dX9_table_93 : decode cX9_table 93 = .ok (.iconst 0, 1) := by decide +kernel
theorem dX9_table_94 : decode cX9_table 94 = .ok (.invokevirtual 230, 3) := by decide +kernel
theorem dX9_table_97 : decode cX9_table 97 = .ok (.bipush (-100), 2) := by decide +kernel
theorem dX9_table_99 : decode cX9_table 99 = .ok (.aload_n 0, 1) := by decide +kernel
theorem dX9_table_100 : decode cX9_table 100 = .ok (.getfield 176, 3) := by decide +kernel
theorem dX9_table_103 : decode cX9_table 103 = .ok (.isub, 1) := by decide +kernel
theorem dX9_table_104 : decode cX9_table 104 = .ok (.ireturn, 1) := by decide +kernel
theorem dX9_table_105 : decode cX9_table 105 = .ok (.iload_n 1, 1) := by decide +kernel
theorem dX9_table_106 : decode cX9_table 106 = .ok (.ireturn, 1) := by decide +kernel
theorem dX9_carry_0 : decode cX9_carry 0 = .ok (.aload_n 0, 1) := by decide +kernel
theorem dX9_carry_1 : decode cX9_carry 1 = .ok (.getfield 237, 3) := by decide +kernel
theorem dX9_carry_4 : decode cX9_carry 4 = .ok (.ifCond .eq 13, 3) := by decide +kernel
theorem dX9_carry_7 : decode cX9_carry 7 = .ok (.aload_n 0, 1) := by decide +kernel
theorem dX9_carry_8 : decode cX9_carry 8 = .ok (.getfield 240, 3) := by decide +kernel
theorem dX9_carry_11 : decode cX9_carry 11 = .ok (.aload_n 0, 1) := by decide +kernel
theorem dX9_carry_12 : decode cX9_carry 12 = .ok (.getfield 243, 3) := by decide +kernel
theorem dX9_carry_15 : decode cX9_carry 15 = .ok (.iload_n 1, 1) := by decide +kernel
theorem dX9_carry_16 : decode cX9_carry 16 = .ok (.iastore, 1) := by decide +kernel
theorem dX9_carry_17 : decode cX9_carry 17 = .ok (.aload_n 0, 1) := by decide +kernel
theorem dX9_carry_18 : decode cX9_carry 18 = .ok (.dup, 1) := by decide +kernel
theorem dX9_carry_19 : decode cX9_carry 19 = .ok (.getfield 243, 3) := by decide +kernel
theorem dX9_carry_22 : decode cX9_carry 22 = .ok (.iconst 1, 1) := by decide +kernel
theorem dX9_carry_23 : decode cX9_carry 23 = .ok (.iadd, 1) := by decide +kernel
theorem dX9_carry_24 : decode cX9_carry 24 = .ok (.putfield 243, 3) := by decide +kernel
theorem dX9_carry_27 : decode cX9_carry 27 = .ok (.aload_n 0, 1) := by decide +kernel
theorem dX9_carry_28 : decode cX9_carry 28 = .ok (.getfield 240, 3) := by decide +kernel
theorem dX9_carry_31 : decode cX9_carry 31 = .ok (.aload_n 0, 1) := by decide +kernel
theorem dX9_carry_32 : decode cX9_carry 32 = .ok (.getfield 243, 3) := by decide +kernel
theorem dX9_carry_35 : decode cX9_carry 35 = .ok (.iconst 1, 1) := by decide +kernel
theorem dX9_carry_36 : decode cX9_carry 36 = .ok (.isub, 1) := by decide +kernel
theorem dX9_carry_37 : decode cX9_carry 37 = .ok (.iaload, 1) := by decide +kernel
theorem dX9_carry_38 : decode cX9_carry 38 = .ok (.ireturn, 1) := by decide +kernel
theorem dX9_carryAll_0 : decode cX9_carryAll 0 = .ok (.aload_n 0, 1) := by decide +kernel
theorem dX9_carryAll_1 : decode cX9_carryAll 1 = .ok (.aload_n 1, 1) := by decide +kernel
theorem dX9_carryAll_2 : decode cX9_carryAll 2 = .ok (.putfield 240, 3) := by decide +kernel
theorem dX9_carryAll_5 : decode cX9_carryAll 5 = .ok (.aload_n 0, 1) := by decide +kernel
theorem dX9_carryAll_6 : decode cX9_carryAll 6 = .ok (.iload_n 2, 1) := by decide +kernel
theorem dX9_carryAll_7 : decode cX9_carryAll 7 = .ok (.putfield 237, 3) := by decide +kernel
theorem dX9_carryAll_10 : decode cX9_carryAll 10 = .ok (.aload_n 0, 1) := by decide +kernel
theorem dX9_carryAll_11 : decode cX9_carryAll 11 = .ok (.iconst 0, 1) := by decide +kernel
theorem dX9_carryAll_12 : decode cX9_carryAll 12 = .ok (.putfield 243, 3) := by decide +kernel
theorem dX9_carryAll_15 : decode cX9_carryAll 15 = .ok (.aload_n 0, 1) := by decide +kernel
theorem dX9_carryAll_16 : decode cX9_carryAll 16 = .ok (.aload_n 0, 1) := by decide +kernel
theorem dX9_carryAll_17 : decode cX9_carryAll 17 = .ok (.aload_n 0, 1) := by decide +kernel
theorem dX9_carryAll_18 : decode cX9_carryAll 18 = .ok (.getfield 98, 3) := by decide +kernel
theorem dX9_carryAll_21 : decode cX9_carryAll 21 = .ok (.invokevirtual 246, 3) := by decide +kernel
theorem dX9_carryAll_24 : decode cX9_carryAll 24 = .ok (.putfield 98, 3) := by decide +kernel
theorem dX9_carryAll_27 : decode cX9_carryAll 27 = .ok (.iconst 0, 1) := by decide +kernel
theorem dX9_carryAll_28 : decode cX9_carryAll 28 = .ok (.istore_n 3, 1) := by decide +kernel
theorem dX9_carryAll_29 : decode cX9_carryAll 29 = .ok (.iload_n 3, 1) := by decide +kernel
theorem dX9_carryAll_30 : decode cX9_carryAll 30 = .ok (.bipush 8, 2) := by decide +kernel
theorem dX9_carryAll_32 : decode cX9_carryAll 32 = .ok (.if_icmp .ge 57, 3) := by decide +kernel
theorem dX9_carryAll_35 : decode cX9_carryAll 35 = .ok (.aload_n 0, 1) := by decide +kernel
theorem dX9_carryAll_36 : decode cX9_carryAll 36 = .ok (.getfield 7, 3) := by decide +kernel
theorem dX9_carryAll_39 : decode cX9_carryAll 39 = .ok (.iload_n 3, 1) := by decide +kernel
theorem dX9_carryAll_40 : decode cX9_carryAll 40 = .ok (.aload_n 0, 1) := by decide +kernel
theorem dX9_carryAll_41 : decode cX9_carryAll 41 = .ok (.aload_n 0, 1) := by decide +kernel
theorem dX9_carryAll_42 : decode cX9_carryAll 42 = .ok (.getfield 7, 3) := by decide +kernel
theorem dX9_carryAll_45 : decode cX9_carryAll 45 = .ok (.iload_n 3, 1) := by decide +kernel
theorem dX9_carryAll_46 : decode cX9_carryAll 46 = .ok (.iaload, 1) := by decide +kernel
theorem dX9_carryAll_47 : decode cX9_carryAll 47 = .ok (.invokevirtual 246, 3) := by decide +kernel
theorem dX9_carryAll_50 : decode cX9_carryAll 50 = .ok (.iastore, 1) := by decide +kernel
theorem dX9_carryAll_51 : decode cX9_carryAll 51 = .ok (.aload_n 0, 1) := by decide +kernel
theorem dX9_carryAll_52 : decode cX9_carryAll 52 = .ok (.getfield 13, 3) := by decide +kernel
theorem dX9_carryAll_55 : decode cX9_carryAll 55 = .ok (.iload_n 3, 1) := by decide +kernel
theorem dX9_carryAll_56 : decode cX9_carryAll 56 = .ok (.aload_n 0, 1) := by decide +kernel
theorem dX9_carryAll_57 : decode cX9_carryAll 57 = .ok (.aload_n 0, 1) := by decide +kernel
theorem dX9_carryAll_58 : decode cX9_carryAll 58 = .ok (.getfield 13, 3) := by decide +kernel
theorem dX9_carryAll_61 : decode cX9_carryAll 61 = .ok (.iload_n 3, 1) := by decide +kernel
theorem dX9_carryAll_62 : decode cX9_carryAll 62 = .ok (.iaload, 1) := by decide +kernel
theorem dX9_carryAll_63 : decode cX9_carryAll 63 = .ok (.invokevirtual 246, 3) := by decide +kernel
theorem dX9_carryAll_66 : decode cX9_carryAll 66 = .ok (.iastore, 1) := by decide +kernel
theorem dX9_carryAll_67 : decode cX9_carryAll 67 = .ok (.aload_n 0, 1) := by decide +kernel
theorem dX9_carryAll_68 : decode cX9_carryAll 68 = .ok (.getfield 19, 3) := by decide +kernel
theorem dX9_carryAll_71 : decode cX9_carryAll 71 = .ok (.iload_n 3, 1) := by decide +kernel
theorem dX9_carryAll_72 : decode cX9_carryAll 72 = .ok (.aload_n 0, 1) := by decide +kernel
theorem dX9_carryAll_73 : decode cX9_carryAll 73 = .ok (.aload_n 0, 1) := by decide +kernel
theorem dX9_carryAll_74 : decode cX9_carryAll 74 = .ok (.getfield 19, 3) := by decide +kernel
theorem dX9_carryAll_77 : decode cX9_carryAll 77 = .ok (.iload_n 3, 1) := by decide +kernel
theorem dX9_carryAll_78 : decode cX9_carryAll 78 = .ok (.iaload, 1) := by decide +kernel
theorem dX9_carryAll_79 : decode cX9_carryAll 79 = .ok (.invokevirtual 246, 3) := by decide +kernel
theorem dX9_carryAll_82 : decode cX9_carryAll 82 = .ok (.iastore, 1) := by decide +kernel
theorem dX9_carryAll_83 : decode cX9_carryAll 83 = .ok (.iinc 3 1, 3) := by decide +kernel
theorem dX9_carryAll_86 : decode cX9_carryAll 86 = .ok (.goto (-57), 3) := by decide +kernel
theorem dX9_carryAll_89 : decode cX9_carryAll 89 = .ok (.iconst 0, 1) := by decide +kernel
theorem dX9_carryAll_90 : decode cX9_carryAll 90 = .ok (.istore_n 3, 1) := by decide +kernel
theorem dX9_carryAll_91 : decode cX9_carryAll 91 = .ok (.iload_n 3, 1) := by decide +kernel
theorem dX9_carryAll_92 : decode cX9_carryAll 92 = .ok (.bipush 48, 2) := by decide +kernel
theorem dX9_carryAll_94 : decode cX9_carryAll 94 = .ok (.if_icmp .ge 41, 3) := by decide +kernel
theorem dX9_carryAll_97 : decode cX9_carryAll 97 = .ok (.aload_n 0, 1) := by decide +kernel
theorem dX9_carryAll_98 : decode cX9_carryAll 98 = .ok (.getfield 16, 3) := by decide +kernel
theorem dX9_carryAll_101 : decode cX9_carryAll 101 = .ok (.iload_n 3, 1) := by decide +kernel
theorem dX9_carryAll_102 : decode cX9_carryAll 102 = .ok (.aload_n 0, 1) := by decide +kernel
theorem dX9_carryAll_103 : decode cX9_carryAll 103 = .ok (.aload_n 0, 1) := by decide +kernel
theorem dX9_carryAll_104 : decode cX9_carryAll 104 = .ok (.getfield 16, 3) := by decide +kernel
theorem dX9_carryAll_107 : decode cX9_carryAll 107 = .ok (.iload_n 3, 1) := by decide +kernel
theorem dX9_carryAll_108 : decode cX9_carryAll 108 = .ok (.iaload, 1) := by decide +kernel
theorem dX9_carryAll_109 : decode cX9_carryAll 109 = .ok (.invokevirtual 246, 3) := by decide +kernel
theorem dX9_carryAll_112 : decode cX9_carryAll 112 = .ok (.iastore, 1) := by decide +kernel
theorem dX9_carryAll_113 : decode cX9_carryAll 113 = .ok (.aload_n 0, 1) := by decide +kernel
theorem dX9_carryAll_114 : decode cX9_carryAll 114 = .ok (.getfield 22, 3) := by decide +kernel
theorem dX9_carryAll_117 : decode cX9_carryAll 117 = .ok (.iload_n 3, 1) := by decide +kernel
theorem dX9_carryAll_118 : decode cX9_carryAll 118 = .ok (.aload_n 0, 1) := by decide +kernel
theorem dX9_carryAll_119 : decode cX9_carryAll 119 = .ok (.aload_n 0, 1) := by decide +kernel
theorem dX9_carryAll_120 : decode cX9_carryAll 120 = .ok (.getfield 22, 3) := by decide +kernel
theorem dX9_carryAll_123 : decode cX9_carryAll 123 = .ok (.iload_n 3, 1) := by decide +kernel
theorem dX9_carryAll_124 : decode cX9_carryAll 124 = .ok (.iaload, 1) := by decide +kernel
theorem dX9_carryAll_125 : decode cX9_carryAll 125 = .ok (.invokevirtual 246, 3) := by decide +kernel
theorem dX9_carryAll_128 : decode cX9_carryAll 128 = .ok (.iastore, 1) := by decide +kernel
theorem dX9_carryAll_129 : decode cX9_carryAll 129 = .ok (.iinc 3 1, 3) := by decide +kernel
theorem dX9_carryAll_132 : decode cX9_carryAll 132 = .ok (.goto (-41), 3) := by decide +kernel
theorem dX9_carryAll_135 : decode cX9_carryAll 135 = .ok (.iconst 0, 1) := by decide +kernel
theorem dX9_carryAll_136 : decode cX9_carryAll 136 = .ok (.istore_n 3, 1) := by decide +kernel
theorem dX9_carryAll_137 : decode cX9_carryAll 137 = .ok (.iload_n 3, 1) := by decide +kernel
theorem dX9_carryAll_138 : decode cX9_carryAll 138 = .ok (.sipush 288, 3) := by decide +kernel
theorem dX9_carryAll_141 : decode cX9_carryAll 141 = .ok (.if_icmp .ge 25, 3) := by decide +kernel
theorem dX9_carryAll_144 : decode cX9_carryAll 144 = .ok (.aload_n 0, 1) := by decide +kernel
theorem dX9_carryAll_145 : decode cX9_carryAll 145 = .ok (.getfield 25, 3) := by decide +kernel
theorem dX9_carryAll_148 : decode cX9_carryAll 148 = .ok (.iload_n 3, 1) := by decide +kernel
theorem dX9_carryAll_149 : decode cX9_carryAll 149 = .ok (.aload_n 0, 1) := by decide +kernel
theorem dX9_carryAll_150 : decode cX9_carryAll 150 = .ok (.aload_n 0, 1) := by decide +kernel
theorem dX9_carryAll_151 : decode cX9_carryAll 151 = .ok (.getfield 25, 3) := by decide +kernel
theorem dX9_carryAll_154 : decode cX9_carryAll 154 = .ok (.iload_n 3, 1) := by decide +kernel
theorem dX9_carryAll_155 : decode cX9_carryAll 155 = .ok (.iaload, 1) := by decide +kernel
theorem dX9_carryAll_156 : decode cX9_carryAll 156 = .ok (.invokevirtual 246, 3) := by decide +kernel
theorem dX9_carryAll_159 : decode cX9_carryAll 159 = .ok (.iastore, 1) := by decide +kernel
theorem dX9_carryAll_160 : decode cX9_carryAll 160 = .ok (.iinc 3 1, 3) := by decide +kernel
theorem dX9_carryAll_163 : decode cX9_carryAll 163 = .ok (.goto (-26), 3) := by decide +kernel
theorem dX9_carryAll_166 : decode cX9_carryAll 166 = .ok (.iconst 0, 1) := by decide +kernel
theorem dX9_carryAll_167 : decode cX9_carryAll 167 = .ok (.istore_n 3, 1) := by decide +kernel
theorem dX9_carryAll_168 : decode cX9_carryAll 168 = .ok (.iload_n 3, 1) := by decide +kernel
theorem dX9_carryAll_169 : decode cX9_carryAll 169 = .ok (.sipush 144, 3) := by decide +kernel
theorem dX9_carryAll_172 : decode cX9_carryAll 172 = .ok (.if_icmp .ge 25, 3) := by decide +kernel
theorem dX9_carryAll_175 : decode cX9_carryAll 175 = .ok (.aload_n 0, 1) := by decide +kernel
theorem dX9_carryAll_176 : decode cX9_carryAll 176 = .ok (.getfield 28, 3) := by decide +kernel
theorem dX9_carryAll_179 : decode cX9_carryAll 179 = .ok (.iload_n 3, 1) := by decide +kernel
theorem dX9_carryAll_180 : decode cX9_carryAll 180 = .ok (.aload_n 0, 1) := by decide +kernel
theorem dX9_carryAll_181 : decode cX9_carryAll 181 = .ok (.aload_n 0, 1) := by decide +kernel
theorem dX9_carryAll_182 : decode cX9_carryAll 182 = .ok (.getfield 28, 3) := by decide +kernel
theorem dX9_carryAll_185 : decode cX9_carryAll 185 = .ok (.iload_n 3, 1) := by decide +kernel
theorem dX9_carryAll_186 : decode cX9_carryAll 186 = .ok (.iaload, 1) := by decide +kernel
theorem dX9_carryAll_187 : decode cX9_carryAll 187 = .ok (.invokevirtual 246, 3) := by decide +kernel
theorem dX9_carryAll_190 : decode cX9_carryAll 190 = .ok (.iastore, 1) := by decide +kernel
theorem dX9_carryAll_191 : decode cX9_carryAll 191 = .ok (.iinc 3 1, 3) := by decide +kernel
theorem dX9_carryAll_194 : decode cX9_carryAll 194 = .ok (.goto (-26), 3) := by decide +kernel
theorem dX9_carryAll_197 : decode cX9_carryAll 197 = .ok (.return_, 1) := by decide +kernel
theorem dX9_image_0 : decode cX9_image 0 = .ok (.aload_n 0, 1) := by decide +kernel
theorem dX9_image_1 : decode cX9_image 1 = .ok (.iconst 0, 1) := by decide +kernel
theorem dX9_image_2 : decode cX9_image 2 = .ok (.putfield 87, 3) := by decide +kernel
theorem dX9_image_5 : decode cX9_image 5 = .ok (.aload_n 0, 1) := by decide +kernel
theorem dX9_image_6 : decode cX9_image 6 = .ok (.iconst 1, 1) := by decide +kernel
theorem dX9_image_7 : decode cX9_image 7 = .ok (.putfield 249, 3) := by decide +kernel
theorem dX9_image_10 : decode cX9_image 10 = .ok (.aload_n 0, 1) := by decide +kernel
theorem dX9_image_11 : decode cX9_image 11 = .ok (.aload_n 0, 1) := by decide +kernel
theorem dX9_image_12 : decode cX9_image 12 = .ok (.getfield 71, 3) := by decide +kernel
theorem dX9_image_15 : decode cX9_image 15 = .ok (.iconst 1, 1) := by decide +kernel
theorem dX9_image_16 : decode cX9_image 16 = .ok (.invokevirtual 230, 3) := by decide +kernel
theorem dX9_image_19 : decode cX9_image 19 = .ok (.aload_n 0, 1) := by decide +kernel
theorem dX9_image_20 : decode cX9_image 20 = .ok (.getfield 98, 3) := by decide +kernel
theorem dX9_image_23 : decode cX9_image 23 = .ok (.ireturn, 1) := by decide +kernel
theorem dX9_undo_0 : decode cX9_undo 0 = .ok (.aload_n 0, 1) := by decide +kernel
theorem dX9_undo_1 : decode cX9_undo 1 = .ok (.iconst 0, 1) := by decide +kernel
theorem dX9_undo_2 : decode cX9_undo 2 = .ok (.putfield 87, 3) := by decide +kernel
theorem dX9_undo_5 : decode cX9_undo 5 = .ok (.aload_n 0, 1) := by decide +kernel
theorem dX9_undo_6 : decode cX9_undo 6 = .ok (.getfield 249, 3) := by decide +kernel
theorem dX9_undo_9 : decode cX9_undo 9 = .ok (.ifCond .ne 6, 3) := by decide +kernel
theorem dX9_undo_12 : decode cX9_undo 12 = .ok (.bipush (-3), 2) := by decide +kernel
theorem dX9_undo_14 : decode cX9_undo 14 = .ok (.ireturn, 1) := by decide +kernel
theorem dX9_undo_15 : decode cX9_undo 15 = .ok (.aload_n 0, 1) := by decide +kernel
theorem dX9_undo_16 : decode cX9_undo 16 = .ok (.aload_n 0, 1) := by decide +kernel
theorem dX9_undo_17 : decode cX9_undo 17 = .ok (.getfield 71, 3) := by decide +kernel
theorem dX9_undo_20 : decode cX9_undo 20 = .ok (.iconst 0, 1) := by decide +kernel
theorem dX9_undo_21 : decode cX9_undo 21 = .ok (.invokevirtual 230, 3) := by decide +kernel
theorem dX9_undo_24 : decode cX9_undo 24 = .ok (.aload_n 0, 1) := by decide +kernel
theorem dX9_undo_25 : decode cX9_undo 25 = .ok (.getfield 98, 3) := by decide +kernel
theorem dX9_undo_28 : decode cX9_undo 28 = .ok (.ireturn, 1) := by decide +kernel
theorem dX9_runsOf_0 : decode cX9_runsOf 0 = .ok (.iconst 0, 1) := by decide +kernel
theorem dX9_runsOf_1 : decode cX9_runsOf 1 = .ok (.istore_n 2, 1) := by decide +kernel
theorem dX9_runsOf_2 : decode cX9_runsOf 2 = .ok (.iconst 0, 1) := by decide +kernel
theorem dX9_runsOf_3 : decode cX9_runsOf 3 = .ok (.istore_n 3, 1) := by decide +kernel
theorem dX9_runsOf_4 : decode cX9_runsOf 4 = .ok (.iload_n 3, 1) := by decide +kernel
theorem dX9_runsOf_5 : decode cX9_runsOf 5 = .ok (.aload_n 0, 1) := by decide +kernel
theorem dX9_runsOf_6 : decode cX9_runsOf 6 = .ok (.getfield 19, 3) := by decide +kernel
theorem dX9_runsOf_9 : decode cX9_runsOf 9 = .ok (.iload_n 1, 1) := by decide +kernel
theorem dX9_runsOf_10 : decode cX9_runsOf 10 = .ok (.iaload, 1) := by decide +kernel
theorem dX9_runsOf_11 : decode cX9_runsOf 11 = .ok (.if_icmp .ge 26, 3) := by decide +kernel
theorem dX9_runsOf_14 : decode cX9_runsOf 14 = .ok (.iload_n 2, 1) := by decide +kernel
theorem dX9_runsOf_15 : decode cX9_runsOf 15 = .ok (.aload_n 0, 1) := by decide +kernel
theorem dX9_runsOf_16 : decode cX9_runsOf 16 = .ok (.iload_n 1, 1) := by decide +kernel
theorem dX9_runsOf_17 : decode cX9_runsOf 17 = .ok (.iload_n 3, 1) := by decide +kernel
theorem dX9_runsOf_18 : decode cX9_runsOf 18 = .ok (.invokevirtual 108, 3) := by decide +kernel
theorem dX9_runsOf_21 : decode cX9_runsOf 21 = .ok (.ifCond .eq 7, 3) := by decide +kernel
theorem dX9_runsOf_24 : decode cX9_runsOf 24 = .ok (.iconst 1, 1) := by decide +kernel
theorem dX9_runsOf_25 : decode cX9_runsOf 25 = .ok (.goto 4, 3) := by decide +kernel
theorem dX9_runsOf_28 : decode cX9_runsOf 28 = .ok (.iconst 0, 1) := by decide +kernel
theorem dX9_runsOf_29 : decode cX9_runsOf 29 = .ok (.iadd, 1) := by decide +kernel
theorem dX9_runsOf_30 : decode cX9_runsOf 30 = .ok (.istore_n 2, 1) := by decide +kernel
theorem dX9_runsOf_31 : decode cX9_runsOf 31 = .ok (.iinc 3 1, 3) := by decide +kernel
theorem dX9_runsOf_34 : decode cX9_runsOf 34 = .ok (.goto (-30), 3) := by decide +kernel
theorem dX9_runsOf_37 : decode cX9_runsOf 37 = .ok (.iload_n 2, 1) := by decide +kernel
theorem dX9_runsOf_38 : decode cX9_runsOf 38 = .ok (.ireturn, 1) := by decide +kernel
theorem dX9_line_0 : decode cX9_line 0 = .ok (.aload_n 0, 1) := by decide +kernel
theorem dX9_line_1 : decode cX9_line 1 = .ok (.iconst 0, 1) := by decide +kernel
theorem dX9_line_2 : decode cX9_line 2 = .ok (.putfield 87, 3) := by decide +kernel
theorem dX9_line_5 : decode cX9_line 5 = .ok (.aload_n 0, 1) := by decide +kernel
theorem dX9_line_6 : decode cX9_line 6 = .ok (.iload_n 1, 1) := by decide +kernel
theorem dX9_line_7 : decode cX9_line 7 = .ok (.invokevirtual 101, 3) := by decide +kernel
theorem dX9_line_10 : decode cX9_line 10 = .ok (.ifCond .eq 15, 3) := by decide +kernel
theorem dX9_line_13 : decode cX9_line 13 = .ok (.iload_n 2, 1) := by decide +kernel
theorem dX9_line_14 : decode cX9_line 14 = .ok (.i2l, 1) := by decide +kernel
theorem dX9_line_15 : decode cX9_line 15 = .ok (.lconst 0, 1) := by decide +kernel
theorem dX9_line_16 : decode cX9_line 16 = .ok (.ldc2_w 252, 3) := by decide +kernel
theorem dX9_line_19 : decode cX9_line 19 = .ok (.invokestatic 92, 3) := by decide +kernel
theorem dX9_line_22 : decode cX9_line 22 = .ok (.ifCond .ne 5, 3) := by decide +kernel
theorem dX9_line_25 : decode cX9_line 25 = .ok (.iconst (-1), 1) := by decide +kernel
theorem dX9_line_26 : decode cX9_line 26 = .ok (.ireturn, 1) := by decide +kernel
theorem dX9_line_27 : decode cX9_line 27 = .ok (.iload_n 2, 1) := by decide +kernel
theorem dX9_line_28 : decode cX9_line 28 = .ok (.ifCond .ne 12, 3) := by decide +kernel
theorem dX9_line_31 : decode cX9_line 31 = .ok (.aload_n 0, 1) := by decide +kernel
theorem dX9_line_32 : decode cX9_line 32 = .ok (.getfield 7, 3) := by decide +kernel
theorem dX9_line_35 : decode cX9_line 35 = .ok (.iload_n 1, 1) := by decide +kernel
theorem dX9_line_36 : decode cX9_line 36 = .ok (.iaload, 1) := by decide +kernel
theorem dX9_line_37 : decode cX9_line 37 = .ok (.goto 36, 3) := by decide +kernel
theorem dX9_line_40 : decode cX9_line 40 = .ok (.iload_n 2, 1) := by decide +kernel
theorem dX9_line_41 : decode cX9_line 41 = .ok (.iconst 1, 1) := by decide +kernel
theorem dX9_line_42 : decode cX9_line 42 = .ok (.if_icmp .ne 12, 3) := by decide +kernel
theorem dX9_line_45 : decode cX9_line 45 = .ok (.aload_n 0, 1) := by decide +kernel
theorem dX9_line_46 : decode cX9_line 46 = .ok (.getfield 13, 3) := by decide +kernel
theorem dX9_line_49 : decode cX9_line 49 = .ok (.iload_n 1, 1) := by decide +kernel
theorem dX9_line_50 : decode cX9_line 50 = .ok (.iaload, 1) := by decide +kernel
theorem dX9_line_51 : decode cX9_line 51 = .ok (.goto 22, 3) := by decide +kernel
theorem dX9_line_54 : decode cX9_line 54 = .ok (.iload_n 2, 1) := by decide +kernel
theorem dX9_line_55 : decode cX9_line 55 = .ok (.iconst 2, 1) := by decide +kernel
theorem dX9_line_56 : decode cX9_line 56 = .ok (.if_icmp .ne 12, 3) := by decide +kernel
theorem dX9_line_59 : decode cX9_line 59 = .ok (.aload_n 0, 1) := by decide +kernel
theorem dX9_line_60 : decode cX9_line 60 = .ok (.getfield 19, 3) := by decide +kernel
theorem dX9_line_63 : decode cX9_line 63 = .ok (.iload_n 1, 1) := by decide +kernel
theorem dX9_line_64 : decode cX9_line 64 = .ok (.iaload, 1) := by decide +kernel
theorem dX9_line_65 : decode cX9_line 65 = .ok (.goto 8, 3) := by decide +kernel
theorem dX9_line_68 : decode cX9_line 68 = .ok (.aload_n 0, 1) := by decide +kernel
theorem dX9_line_69 : decode cX9_line 69 = .ok (.iload_n 1, 1) := by decide +kernel
theorem dX9_line_70 : decode cX9_line 70 = .ok (.invokevirtual 254, 3) := by decide +kernel
theorem dX9_line_73 : decode cX9_line 73 = .ok (.ireturn, 1) := by decide +kernel
theorem dX9_stop_0 : decode cX9_stop 0 = .ok (.aload_n 0, 1) := by decide +kernel
theorem dX9_stop_1 : decode cX9_stop 1 = .ok (.iconst 0, 1) := by decide +kernel
theorem dX9_stop_2 : decode cX9_stop 2 = .ok (.putfield 87, 3) := by decide +kernel
theorem dX9_stop_5 : decode cX9_stop 5 = .ok (.aload_n 0, 1) := by decide +kernel
theorem dX9_stop_6 : decode cX9_stop 6 = .ok (.iload_n 1, 1) := by decide +kernel
theorem dX9_stop_7 : decode cX9_stop 7 = .ok (.invokevirtual 101, 3) := by decide +kernel
theorem dX9_stop_10 : decode cX9_stop 10 = .ok (.ifCond .eq 30, 3) := by decide +kernel
theorem dX9_stop_13 : decode cX9_stop 13 = .ok (.iload_n 2, 1) := by decide +kernel
theorem dX9_stop_14 : decode cX9_stop 14 = .ok (.i2l, 1) := by decide +kernel
theorem dX9_stop_15 : decode cX9_stop 15 = .ok (.lconst 0, 1) := by decide +kernel
theorem dX9_stop_16 : decode cX9_stop 16 = .ok (.aload_n 0, 1) := by decide +kernel
theorem dX9_stop_17 : decode cX9_stop 17 = .ok (.getfield 13, 3) := by decide +kernel
theorem dX9_stop_20 : decode cX9_stop 20 = .ok (.iload_n 1, 1) := by decide +kernel
theorem dX9_stop_21 : decode cX9_stop 21 = .ok (.iaload, 1) := by decide +kernel
theorem dX9_stop_22 : decode cX9_stop 22 = .ok (.iconst 1, 1) := by decide +kernel
theorem dX9_stop_23 : decode cX9_stop 23 = .ok (.isub, 1) := by decide +kernel
theorem dX9_stop_24 : decode cX9_stop 24 = .ok (.i2l, 1) := by decide +kernel
theorem dX9_stop_25 : decode cX9_stop 25 = .ok (.invokestatic 92, 3) := by decide +kernel
theorem dX9_stop_28 : decode cX9_stop 28 = .ok (.ifCond .eq 12, 3) := by decide +kernel
theorem dX9_stop_31 : decode cX9_stop 31 = .ok (.aload_n 0, 1) := by decide +kernel
theorem dX9_stop_32 : decode cX9_stop 32 = .ok (.iload_n 1, 1) := by decide +kernel
theorem dX9_stop_33 : decode cX9_stop 33 = .ok (.iload_n 2, 1) := by decide +kernel
theorem dX9_stop_34 : decode cX9_stop 34 = .ok (.invokevirtual 117, 3) := by decide +kernel
theorem dX9_stop_37 : decode cX9_stop 37 = .ok (.goto 4, 3) := by decide +kernel
theorem dX9_stop_40 : decode cX9_stop 40 = .ok (.iconst (-1), 1) := by decide +kernel
theorem dX9_stop_41 : decode cX9_stop 41 = .ok (.ireturn, 1) := by decide +kernel
theorem dX9_minute_0 : decode cX9_minute 0 = .ok (.aload_n 0, 1) := by decide +kernel
theorem dX9_minute_1 : decode cX9_minute 1 = .ok (.iconst 0, 1) := by decide +kernel
theorem dX9_minute_2 : decode cX9_minute 2 = .ok (.putfield 87, 3) := by decide +kernel
theorem dX9_minute_5 : decode cX9_minute 5 = .ok (.aload_n 0, 1) := by decide +kernel
theorem dX9_minute_6 : decode cX9_minute 6 = .ok (.iload_n 1, 1) := by decide +kernel
theorem dX9_minute_7 : decode cX9_minute 7 = .ok (.iload_n 2, 1) := by decide +kernel
theorem dX9_minute_8 : decode cX9_minute 8 = .ok (.invokevirtual 257, 3) := by decide +kernel
theorem dX9_minute_11 : decode cX9_minute 11 = .ok (.ifCond .eq 31, 3) := by decide +kernel
theorem dX9_minute_14 : decode cX9_minute 14 = .ok (.iload_n 3, 1) := by decide +kernel
theorem dX9_minute_15 : decode cX9_minute 15 = .ok (.i2l, 1) := by decide +kernel
theorem dX9_minute_16 : decode cX9_minute 16 = .ok (.lconst 0, 1) := by decide +kernel
theorem dX9_minute_17 : decode cX9_minute 17 = .ok (.aload_n 0, 1) := by decide +kernel
theorem dX9_minute_18 : decode cX9_minute 18 = .ok (.getfield 13, 3) := by decide +kernel
theorem dX9_minute_21 : decode cX9_minute 21 = .ok (.iload_n 1, 1) := by decide +kernel
theorem dX9_minute_22 : decode cX9_minute 22 = .ok (.iaload, 1) := by decide +kernel
theorem dX9_minute_23 : decode cX9_minute 23 = .ok (.iconst 1, 1) := by decide +kernel
theorem dX9_minute_24 : decode cX9_minute 24 = .ok (.isub, 1) := by decide +kernel
theorem dX9_minute_25 : decode cX9_minute 25 = .ok (.i2l, 1) := by decide +kernel
theorem dX9_minute_26 : decode cX9_minute 26 = .ok (.invokestatic 92, 3) := by decide +kernel
theorem dX9_minute_29 : decode cX9_minute 29 = .ok (.ifCond .eq 13, 3) := by decide +kernel
theorem dX9_minute_32 : decode cX9_minute 32 = .ok (.aload_n 0, 1) := by decide +kernel
theorem dX9_minute_33 : decode cX9_minute 33 = .ok (.iload_n 1, 1) := by decide +kernel
theorem dX9_minute_34 : decode cX9_minute 34 = .ok (.iload_n 2, 1) := by decide +kernel
theorem dX9_minute_35 : decode cX9_minute 35 = .ok (.iload_n 3, 1) := by decide +kernel
theorem dX9_minute_36 : decode cX9_minute 36 = .ok (.invokevirtual 120, 3) := by decide +kernel
theorem dX9_minute_39 : decode cX9_minute 39 = .ok (.goto 4, 3) := by decide +kernel
theorem dX9_minute_42 : decode cX9_minute 42 = .ok (.iconst (-1), 1) := by decide +kernel
theorem dX9_minute_43 : decode cX9_minute 43 = .ok (.ireturn, 1) := by decide +kernel
theorem dX9_runs_0 : decode cX9_runs 0 = .ok (.aload_n 0, 1) := by decide +kernel
theorem dX9_runs_1 : decode cX9_runs 1 = .ok (.iconst 0, 1) := by decide +kernel
theorem dX9_runs_2 : decode cX9_runs 2 = .ok (.putfield 87, 3) := by decide +kernel
theorem dX9_runs_5 : decode cX9_runs 5 = .ok (.aload_n 0, 1) := by decide +kernel
theorem dX9_runs_6 : decode cX9_runs 6 = .ok (.iload_n 1, 1) := by decide +kernel
theorem dX9_runs_7 : decode cX9_runs 7 = .ok (.iload_n 2, 1) := by decide +kernel
theorem dX9_runs_8 : decode cX9_runs 8 = .ok (.invokevirtual 257, 3) := by decide +kernel
theorem dX9_runs_11 : decode cX9_runs 11 = .ok (.ifCond .ne 7, 3) := by decide +kernel
theorem dX9_runs_14 : decode cX9_runs 14 = .ok (.iconst (-1), 1) := by decide +kernel
theorem dX9_runs_15 : decode cX9_runs 15 = .ok (.goto 17, 3) := by decide +kernel
theorem dX9_runs_18 : decode cX9_runs 18 = .ok (.aload_n 0, 1) := by decide +kernel
theorem dX9_runs_19 : decode cX9_runs 19 = .ok (.iload_n 1, 1) := by decide +kernel
theorem dX9_runs_20 : decode cX9_runs 20 = .ok (.iload_n 2, 1) := by decide +kernel
theorem dX9_runs_21 : decode cX9_runs 21 = .ok (.invokevirtual 108, 3) := by decide +kernel
theorem dX9_runs_24 : decode cX9_runs 24 = .ok (.ifCond .eq 7, 3) := by decide +kernel
theorem dX9_runs_27 : decode cX9_runs 27 = .ok (.iconst 1, 1) := by decide +kernel
theorem dX9_runs_28 : decode cX9_runs 28 = .ok (.goto 4, 3) := by decide +kernel
theorem dX9_runs_31 : decode cX9_runs 31 = .ok (.iconst 0, 1) := by decide +kernel
theorem dX9_runs_32 : decode cX9_runs 32 = .ok (.ireturn, 1) := by decide +kernel
theorem dX9_areTwo_0 : decode cX9_areTwo 0 = .ok (.iload_n 0, 1) := by decide +kernel
theorem dX9_areTwo_1 : decode cX9_areTwo 1 = .ok (.invokestatic 260, 3) := by decide +kernel
theorem dX9_areTwo_4 : decode cX9_areTwo 4 = .ok (.ifCond .eq 19, 3) := by decide +kernel
theorem dX9_areTwo_7 : decode cX9_areTwo 7 = .ok (.iload_n 1, 1) := by decide +kernel
theorem dX9_areTwo_8 : decode cX9_areTwo 8 = .ok (.invokestatic 260, 3) := by decide +kernel
theorem dX9_areTwo_11 : decode cX9_areTwo 11 = .ok (.ifCond .eq 12, 3) := by decide +kernel
theorem dX9_areTwo_14 : decode cX9_areTwo 14 = .ok (.iload_n 0, 1) := by decide +kernel
theorem dX9_areTwo_15 : decode cX9_areTwo 15 = .ok (.iload_n 1, 1) := by decide +kernel
theorem dX9_areTwo_16 : decode cX9_areTwo 16 = .ok (.if_icmp .eq 7, 3) := by decide +kernel
theorem dX9_areTwo_19 : decode cX9_areTwo 19 = .ok (.iconst 1, 1) := by decide +kernel
theorem dX9_areTwo_20 : decode cX9_areTwo 20 = .ok (.goto 4, 3) := by decide +kernel
theorem dX9_areTwo_23 : decode cX9_areTwo 23 = .ok (.iconst 0, 1) := by decide +kernel
theorem dX9_areTwo_24 : decode cX9_areTwo 24 = .ok (.ireturn, 1) := by decide +kernel
theorem dX9_footTold_0 : decode cX9_footTold 0 = .ok (.aload_n 0, 1) := by decide +kernel
theorem dX9_footTold_1 : decode cX9_footTold 1 = .ok (.getfield 28, 3) := by decide +kernel
theorem dX9_footTold_4 : decode cX9_footTold 4 = .ok (.bipush 12, 2) := by decide +kernel
theorem dX9_footTold_6 : decode cX9_footTold 6 = .ok (.iload_n 1, 1) := by decide +kernel
theorem dX9_footTold_7 : decode cX9_footTold 7 = .ok (.imul, 1) := by decide +kernel
theorem dX9_footTold_8 : decode cX9_footTold 8 = .ok (.iload_n 2, 1) := by decide +kernel
theorem dX9_footTold_9 : decode cX9_footTold 9 = .ok (.iadd, 1) := by decide +kernel
theorem dX9_footTold_10 : decode cX9_footTold 10 = .ok (.iaload, 1) := by decide +kernel
theorem dX9_footTold_11 : decode cX9_footTold 11 = .ok (.ifCond .ne 8, 3) := by decide +kernel
theorem dX9_footTold_14 : decode cX9_footTold 14 = .ok (.bipush (-5), 2) := by decide +kernel
theorem dX9_footTold_16 : decode cX9_footTold 16 = .ok (.goto 14, 3) := by decide +kernel
theorem dX9_footTold_19 : decode cX9_footTold 19 = .ok (.aload_n 0, 1) := by decide +kernel
theorem dX9_footTold_20 : decode cX9_footTold 20 = .ok (.getfield 28, 3) := by decide +kernel
theorem dX9_footTold_23 : decode cX9_footTold 23 = .ok (.bipush 12, 2) := by decide +kernel
theorem dX9_footTold_25 : decode cX9_footTold 25 = .ok (.iload_n 1, 1) := by decide +kernel
theorem dX9_footTold_26 : decode cX9_footTold 26 = .ok (.imul, 1) := by decide +kernel
theorem dX9_footTold_27 : decode cX9_footTold 27 = .ok (.iload_n 2, 1) := by decide +kernel
theorem dX9_footTold_28 : decode cX9_footTold 28 = .ok (.iadd, 1) := by decide +kernel
theorem dX9_footTold_29 : decode cX9_footTold 29 = .ok (.iaload, 1) := by decide +kernel
theorem dX9_footTold_30 : decode cX9_footTold 30 = .ok (.ireturn, 1) := by decide +kernel
theorem dX9_foot_0 : decode cX9_foot 0 = .ok (.aload_n 0, 1) := by decide +kernel
theorem dX9_foot_1 : decode cX9_foot 1 = .ok (.iconst 0, 1) := by decide +kernel
theorem dX9_foot_2 : decode cX9_foot 2 = .ok (.putfield 87, 3) := by decide +kernel
theorem dX9_foot_5 : decode cX9_foot 5 = .ok (.iload_n 1, 1) := by decide +kernel
theorem dX9_foot_6 : decode cX9_foot 6 = .ok (.iload_n 2, 1) := by decide +kernel
theorem dX9_foot_7 : decode cX9_foot 7 = .ok (.invokestatic 263, 3) := by decide +kernel
theorem dX9_foot_10 : decode cX9_foot 10 = .ok (.ifCond .eq 12, 3) := by decide +kernel
theorem dX9_foot_13 : decode cX9_foot 13 = .ok (.aload_n 0, 1) := by decide +kernel
theorem dX9_foot_14 : decode cX9_foot 14 = .ok (.iload_n 1, 1) := by decide +kernel
theorem dX9_foot_15 : decode cX9_foot 15 = .ok (.iload_n 2, 1) := by decide +kernel
theorem dX9_foot_16 : decode cX9_foot 16 = .ok (.invokevirtual 266, 3) := by decide +kernel
theorem dX9_foot_19 : decode cX9_foot 19 = .ok (.goto 4, 3) := by decide +kernel
theorem dX9_foot_22 : decode cX9_foot 22 = .ok (.iconst (-1), 1) := by decide +kernel
theorem dX9_foot_23 : decode cX9_foot 23 = .ok (.ireturn, 1) := by decide +kernel
theorem dX9_walk_0 : decode cX9_walk 0 = .ok (.aload_n 0, 1) := by decide +kernel
theorem dX9_walk_1 : decode cX9_walk 1 = .ok (.iconst 0, 1) := by decide +kernel
theorem dX9_walk_2 : decode cX9_walk 2 = .ok (.putfield 87, 3) := by decide +kernel
theorem dX9_walk_5 : decode cX9_walk 5 = .ok (.iload_n 1, 1) := by decide +kernel
theorem dX9_walk_6 : decode cX9_walk 6 = .ok (.iload_n 2, 1) := by decide +kernel
theorem dX9_walk_7 : decode cX9_walk 7 = .ok (.invokestatic 263, 3) := by decide +kernel
theorem dX9_walk_10 : decode cX9_walk 10 = .ok (.ifCond .eq 15, 3) := by decide +kernel
theorem dX9_walk_13 : decode cX9_walk 13 = .ok (.iload_n 3, 1) := by decide +kernel
theorem dX9_walk_14 : decode cX9_walk 14 = .ok (.i2l, 1) := by decide +kernel
theorem dX9_walk_15 : decode cX9_walk 15 = .ok (.lconst 0, 1) := by decide +kernel
theorem dX9_walk_16 : decode cX9_walk 16 = .ok (.ldc2_w 269, 3) := by decide +kernel
theorem dX9_walk_19 : decode cX9_walk 19 = .ok (.invokestatic 92, 3) := by decide +kernel
theorem dX9_walk_22 : decode cX9_walk 22 = .ok (.ifCond .ne 18, 3) := by decide +kernel
theorem dX9_walk_25 : decode cX9_walk 25 = .ok (.iload_n 1, 1) := by decide +kernel
theorem dX9_walk_26 : decode cX9_walk 26 = .ok (.iload_n 2, 1) := by decide +kernel
theorem dX9_walk_27 : decode cX9_walk 27 = .ok (.invokestatic 263, 3) := by decide +kernel
theorem dX9_walk_30 : decode cX9_walk 30 = .ok (.ifCond .eq 8, 3) := by decide +kernel
theorem dX9_walk_33 : decode cX9_walk 33 = .ok (.bipush (-2), 2) := by decide +kernel
theorem dX9_walk_35 : decode cX9_walk 35 = .ok (.goto 4, 3) := by decide +kernel
theorem dX9_walk_38 : decode cX9_walk 38 = .ok (.iconst (-1), 1) := by decide +kernel
theorem dX9_walk_39 : decode cX9_walk 39 = .ok (.ireturn, 1) := by decide +kernel
theorem dX9_walk_40 : decode cX9_walk 40 = .ok (.aload_n 0, 1) := by decide +kernel
theorem dX9_walk_41 : decode cX9_walk 41 = .ok (.iload_n 1, 1) := by decide +kernel
theorem dX9_walk_42 : decode cX9_walk 42 = .ok (.iload_n 2, 1) := by decide +kernel
theorem dX9_walk_43 : decode cX9_walk 43 = .ok (.invokevirtual 266, 3) := by decide +kernel
theorem dX9_walk_46 : decode cX9_walk 46 = .ok (.istore 4, 2) := by decide +kernel
theorem dX9_walk_48 : decode cX9_walk 48 = .ok (.aload_n 0, 1) := by decide +kernel
theorem dX9_walk_49 : decode cX9_walk 49 = .ok (.getfield 28, 3) := by decide +kernel
theorem dX9_walk_52 : decode cX9_walk 52 = .ok (.bipush 12, 2) := by decide +kernel
theorem dX9_walk_54 : decode cX9_walk 54 = .ok (.iload_n 1, 1) := by decide +kernel
theorem dX9_walk_55 : decode cX9_walk 55 = .ok (.imul, 1) := by decide +kernel
theorem dX9_walk_56 : decode cX9_walk 56 = .ok (.iload_n 2, 1) := by decide +kernel
theorem dX9_walk_57 : decode cX9_walk 57 = .ok (.iadd, 1) := by decide +kernel
theorem dX9_walk_58 : decode cX9_walk 58 = .ok (.iload_n 3, 1) := by decide +kernel
theorem dX9_walk_59 : decode cX9_walk 59 = .ok (.iastore, 1) := by decide +kernel
theorem dX9_walk_60 : decode cX9_walk 60 = .ok (.aload_n 0, 1) := by decide +kernel
theorem dX9_walk_61 : decode cX9_walk 61 = .ok (.getfield 28, 3) := by decide +kernel
theorem dX9_walk_64 : decode cX9_walk 64 = .ok (.bipush 12, 2) := by decide +kernel
theorem dX9_walk_66 : decode cX9_walk 66 = .ok (.iload_n 2, 1) := by decide +kernel
theorem dX9_walk_67 : decode cX9_walk 67 = .ok (.imul, 1) := by decide +kernel
theorem dX9_walk_68 : decode cX9_walk 68 = .ok (.iload_n 1, 1) := by decide +kernel
theorem dX9_walk_69 : decode cX9_walk 69 = .ok (.iadd, 1) := by decide +kernel
theorem dX9_walk_70 : decode cX9_walk 70 = .ok (.iload_n 3, 1) := by decide +kernel
theorem dX9_walk_71 : decode cX9_walk 71 = .ok (.iastore, 1) := by decide +kernel
theorem dX9_walk_72 : decode cX9_walk 72 = .ok (.iload 4, 2) := by decide +kernel
theorem dX9_walk_74 : decode cX9_walk 74 = .ok (.ireturn, 1) := by decide +kernel
theorem dX9_delay_0 : decode cX9_delay 0 = .ok (.aload_n 0, 1) := by decide +kernel
theorem dX9_delay_1 : decode cX9_delay 1 = .ok (.iconst 0, 1) := by decide +kernel
theorem dX9_delay_2 : decode cX9_delay 2 = .ok (.putfield 87, 3) := by decide +kernel
theorem dX9_delay_5 : decode cX9_delay 5 = .ok (.aload_n 0, 1) := by decide +kernel
theorem dX9_delay_6 : decode cX9_delay 6 = .ok (.iload_n 1, 1) := by decide +kernel
theorem dX9_delay_7 : decode cX9_delay 7 = .ok (.iload_n 2, 1) := by decide +kernel
theorem dX9_delay_8 : decode cX9_delay 8 = .ok (.invokevirtual 257, 3) := by decide +kernel
theorem dX9_delay_11 : decode cX9_delay 11 = .ok (.ifCond .ne 5, 3) := by decide +kernel
theorem dX9_delay_14 : decode cX9_delay 14 = .ok (.iconst (-1), 1) := by decide +kernel
theorem dX9_delay_15 : decode cX9_delay 15 = .ok (.ireturn, 1) := by decide +kernel
theorem dX9_delay_16 : decode cX9_delay 16 = .ok (.iload_n 3, 1) := by decide +kernel
theorem dX9_delay_17 : decode cX9_delay 17 = .ok (.i2l, 1) := by decide +kernel
theorem dX9_delay_18 : decode cX9_delay 18 = .ok (.lconst 0, 1) := by decide +kernel
theorem dX9_delay_19 : decode cX9_delay 19 = .ok (.aload_n 0, 1) := by decide +kernel
theorem dX9_delay_20 : decode cX9_delay 20 = .ok (.getfield 13, 3) := by decide +kernel
theorem dX9_delay_23 : decode cX9_delay 23 = .ok (.iload_n 1, 1) := by decide +kernel
theorem dX9_delay_24 : decode cX9_delay 24 = .ok (.iaload, 1) := by decide +kernel
theorem dX9_delay_25 : decode cX9_delay 25 = .ok (.iconst 1, 1) := by decide +kernel
theorem dX9_delay_26 : decode cX9_delay 26 = .ok (.isub, 1) := by decide +kernel
theorem dX9_delay_27 : decode cX9_delay 27 = .ok (.i2l, 1) := by decide +kernel
theorem dX9_delay_28 : decode cX9_delay 28 = .ok (.invokestatic 92, 3) := by decide +kernel
theorem dX9_delay_31 : decode cX9_delay 31 = .ok (.ifCond .ne 5, 3) := by decide +kernel
theorem dX9_delay_34 : decode cX9_delay 34 = .ok (.iconst (-1), 1) := by decide +kernel
theorem dX9_delay_35 : decode cX9_delay 35 = .ok (.ireturn, 1) := by decide +kernel
theorem dX9_delay_36 : decode cX9_delay 36 = .ok (.iload 4, 2) := by decide +kernel
theorem dX9_delay_38 : decode cX9_delay 38 = .ok (.i2l, 1) := by decide +kernel
theorem dX9_delay_39 : decode cX9_delay 39 = .ok (.lconst 1, 1) := by decide +kernel
theorem dX9_delay_40 : decode cX9_delay 40 = .ok (.ldc2_w 271, 3) := by decide +kernel
theorem dX9_delay_43 : decode cX9_delay 43 = .ok (.invokestatic 92, 3) := by decide +kernel
theorem dX9_delay_46 : decode cX9_delay 46 = .ok (.ifCond .ne 6, 3) := by decide +kernel
theorem dX9_delay_49 : decode cX9_delay 49 = .ok (.bipush (-2), 2) := by decide +kernel
theorem dX9_delay_51 : decode cX9_delay 51 = .ok (.ireturn, 1) := by decide +kernel
theorem dX9_delay_52 : decode cX9_delay 52 = .ok (.aload_n 0, 1) := by decide +kernel
theorem dX9_delay_53 : decode cX9_delay 53 = .ok (.iload_n 1, 1) := by decide +kernel
theorem dX9_delay_54 : decode cX9_delay 54 = .ok (.iload_n 2, 1) := by decide +kernel
theorem dX9_delay_55 : decode cX9_delay 55 = .ok (.iload 4, 2) := by decide +kernel
theorem dX9_delay_57 : decode cX9_delay 57 = .ok (.invokevirtual 211, 3) := by decide +kernel
theorem dX9_delay_60 : decode cX9_delay 60 = .ok (.ifCond .eq 6, 3) := by decide +kernel
theorem dX9_delay_63 : decode cX9_delay 63 = .ok (.bipush (-4), 2) := by decide +kernel
theorem dX9_delay_65 : decode cX9_delay 65 = .ok (.ireturn, 1) := by decide +kernel
theorem dX9_delay_66 : decode cX9_delay 66 = .ok (.aload_n 0, 1) := by decide +kernel
theorem dX9_delay_67 : decode cX9_delay 67 = .ok (.iload_n 1, 1) := by decide +kernel
theorem dX9_delay_68 : decode cX9_delay 68 = .ok (.iload_n 2, 1) := by decide +kernel
theorem dX9_delay_69 : decode cX9_delay 69 = .ok (.iload_n 3, 1) := by decide +kernel
theorem dX9_delay_70 : decode cX9_delay 70 = .ok (.iload 4, 2) := by decide +kernel
theorem dX9_delay_72 : decode cX9_delay 72 = .ok (.invokevirtual 214, 3) := by decide +kernel
theorem dX9_delay_75 : decode cX9_delay 75 = .ok (.aload_n 0, 1) := by decide +kernel
theorem dX9_delay_76 : decode cX9_delay 76 = .ok (.iload_n 1, 1) := by decide +kernel
theorem dX9_delay_77 : decode cX9_delay 77 = .ok (.iload_n 2, 1) := by decide +kernel
theorem dX9_delay_78 : decode cX9_delay 78 = .ok (.iload_n 3, 1) := by decide +kernel
theorem dX9_delay_79 : decode cX9_delay 79 = .ok (.invokevirtual 120, 3) := by decide +kernel
theorem dX9_delay_82 : decode cX9_delay 82 = .ok (.ireturn, 1) := by decide +kernel
theorem dX9_drop_0 : decode cX9_drop 0 = .ok (.aload_n 0, 1) := by decide +kernel
theorem dX9_drop_1 : decode cX9_drop 1 = .ok (.iconst 0, 1) := by decide +kernel
theorem dX9_drop_2 : decode cX9_drop 2 = .ok (.putfield 87, 3) := by decide +kernel
theorem dX9_drop_5 : decode cX9_drop 5 = .ok (.aload_n 0, 1) := by decide +kernel
theorem dX9_drop_6 : decode cX9_drop 6 = .ok (.iload_n 1, 1) := by decide +kernel
theorem dX9_drop_7 : decode cX9_drop 7 = .ok (.invokevirtual 101, 3) := by decide +kernel
theorem dX9_drop_10 : decode cX9_drop 10 = .ok (.ifCond .ne 5, 3) := by decide +kernel
theorem dX9_drop_13 : decode cX9_drop 13 = .ok (.iconst (-1), 1) := by decide +kernel
theorem dX9_drop_14 : decode cX9_drop 14 = .ok (.ireturn, 1) := by decide +kernel
theorem dX9_drop_15 : decode cX9_drop 15 = .ok (.aload_n 0, 1) := by decide +kernel
theorem dX9_drop_16 : decode cX9_drop 16 = .ok (.getfield 19, 3) := by decide +kernel
theorem dX9_drop_19 : decode cX9_drop 19 = .ok (.iload_n 1, 1) := by decide +kernel
theorem dX9_drop_20 : decode cX9_drop 20 = .ok (.iaload, 1) := by decide +kernel
theorem dX9_drop_21 : decode cX9_drop 21 = .ok (.ifCond .ne 6, 3) := by decide +kernel
theorem dX9_drop_24 : decode cX9_drop 24 = .ok (.bipush (-3), 2) := by decide +kernel
theorem dX9_drop_26 : decode cX9_drop 26 = .ok (.ireturn, 1) := by decide +kernel
theorem dX9_drop_27 : decode cX9_drop 27 = .ok (.aload_n 0, 1) := by decide +kernel
theorem dX9_drop_28 : decode cX9_drop 28 = .ok (.getfield 19, 3) := by decide +kernel
theorem dX9_drop_31 : decode cX9_drop 31 = .ok (.iload_n 1, 1) := by decide +kernel
theorem dX9_drop_32 : decode cX9_drop 32 = .ok (.dup2, 1) := by decide +kernel
theorem dX9_drop_33 : decode cX9_drop 33 = .ok (.iaload, 1) := by decide +kernel
theorem dX9_drop_34 : decode cX9_drop 34 = .ok (.iconst 1, 1) := by decide +kernel
theorem dX9_drop_35 : decode cX9_drop 35 = .ok (.isub, 1) := by decide +kernel
theorem dX9_drop_36 : decode cX9_drop 36 = .ok (.iastore, 1) := by decide +kernel
theorem dX9_drop_37 : decode cX9_drop 37 = .ok (.aload_n 0, 1) := by decide +kernel
theorem dX9_drop_38 : decode cX9_drop 38 = .ok (.getfield 19, 3) := by decide +kernel
theorem dX9_drop_41 : decode cX9_drop 41 = .ok (.iload_n 1, 1) := by decide +kernel
theorem dX9_drop_42 : decode cX9_drop 42 = .ok (.iaload, 1) := by decide +kernel
theorem dX9_drop_43 : decode cX9_drop 43 = .ok (.ireturn, 1) := by decide +kernel
theorem dX9_wrong_0 : decode cX9_wrong 0 = .ok (.iload_n 0, 1) := by decide +kernel
theorem dX9_wrong_1 : decode cX9_wrong 1 = .ok (.invokestatic 260, 3) := by decide +kernel
theorem dX9_wrong_4 : decode cX9_wrong 4 = .ok (.ifCond .eq 10, 3) := by decide +kernel
theorem dX9_wrong_7 : decode cX9_wrong 7 = .ok (.iload_n 1, 1) := by decide +kernel
theorem dX9_wrong_8 : decode cX9_wrong 8 = .ok (.invokestatic 260, 3) := by decide +kernel
theorem dX9_wrong_11 : decode cX9_wrong 11 = .ok (.ifCond .ne 7, 3) := by decide +kernel
theorem dX9_wrong_14 : decode cX9_wrong 14 = .ok (.iconst (-1), 1) := by decide +kernel
theorem dX9_wrong_15 : decode cX9_wrong 15 = .ok (.goto 28, 3) := by decide +kernel
theorem dX9_wrong_18 : decode cX9_wrong 18 = .ok (.iload_n 2, 1) := by decide +kernel
theorem dX9_wrong_19 : decode cX9_wrong 19 = .ok (.invokestatic 273, 3) := by decide +kernel
theorem dX9_wrong_22 : decode cX9_wrong 22 = .ok (.ifCond .eq 15, 3) := by decide +kernel
theorem dX9_wrong_25 : decode cX9_wrong 25 = .ok (.iload_n 3, 1) := by decide +kernel
theorem dX9_wrong_26 : decode cX9_wrong 26 = .ok (.i2l, 1) := by decide +kernel
theorem dX9_wrong_27 : decode cX9_wrong 27 = .ok (.lconst 0, 1) := by decide +kernel
theorem dX9_wrong_28 : decode cX9_wrong 28 = .ok (.ldc2_w 276, 3) := by decide +kernel
theorem dX9_wrong_31 : decode cX9_wrong 31 = .ok (.invokestatic 92, 3) := by decide +kernel
theorem dX9_wrong_34 : decode cX9_wrong 34 = .ok (.ifCond .ne 8, 3) := by decide +kernel
theorem dX9_wrong_37 : decode cX9_wrong 37 = .ok (.bipush (-2), 2) := by decide +kernel
theorem dX9_wrong_39 : decode cX9_wrong 39 = .ok (.goto 4, 3) := by decide +kernel
theorem dX9_wrong_42 : decode cX9_wrong 42 = .ok (.iconst 0, 1) := by decide +kernel
theorem dX9_wrong_43 : decode cX9_wrong 43 = .ok (.ireturn, 1) := by decide +kernel
theorem dX9_earliest_0 : decode cX9_earliest 0 = .ok (.aload_n 0, 1) := by decide +kernel
theorem dX9_earliest_1 : decode cX9_earliest 1 = .ok (.iconst 0, 1) := by decide +kernel
theorem dX9_earliest_2 : decode cX9_earliest 2 = .ok (.putfield 87, 3) := by decide +kernel
theorem dX9_earliest_5 : decode cX9_earliest 5 = .ok (.iload_n 1, 1) := by decide +kernel
theorem dX9_earliest_6 : decode cX9_earliest 6 = .ok (.iload_n 3, 1) := by decide +kernel
theorem dX9_earliest_7 : decode cX9_earliest 7 = .ok (.iload_n 2, 1) := by decide +kernel
theorem dX9_earliest_8 : decode cX9_earliest 8 = .ok (.iload 4, 2) := by decide +kernel
theorem dX9_earliest_10 : decode cX9_earliest 10 = .ok (.invokestatic 278, 3) := by decide +kernel
theorem dX9_earliest_13 : decode cX9_earliest 13 = .ok (.ifCond .ge 12, 3) := by decide +kernel
theorem dX9_earliest_16 : decode cX9_earliest 16 = .ok (.iload_n 1, 1) := by decide +kernel
theorem dX9_earliest_17 : decode cX9_earliest 17 = .ok (.iload_n 3, 1) := by decide +kernel
theorem dX9_earliest_18 : decode cX9_earliest 18 = .ok (.iload_n 2, 1) := by decide +kernel
theorem dX9_earliest_19 : decode cX9_earliest 19 = .ok (.iload 4, 2) := by decide +kernel
theorem dX9_earliest_21 : decode cX9_earliest 21 = .ok (.invokestatic 278, 3) := by decide +kernel
theorem dX9_earliest_24 : decode cX9_earliest 24 = .ok (.ireturn, 1) := by decide +kernel
theorem dX9_earliest_25 : decode cX9_earliest 25 = .ok (.aload_n 0, 1) := by decide +kernel
theorem dX9_earliest_26 : decode cX9_earliest 26 = .ok (.iload_n 1, 1) := by decide +kernel
theorem dX9_earliest_27 : decode cX9_earliest 27 = .ok (.iload_n 2, 1) := by decide +kernel
theorem dX9_earliest_28 : decode cX9_earliest 28 = .ok (.iload_n 3, 1) := by decide +kernel
theorem dX9_earliest_29 : decode cX9_earliest 29 = .ok (.iload 4, 2) := by decide +kernel
theorem dX9_earliest_31 : decode cX9_earliest 31 = .ok (.invokevirtual 282, 3) := by decide +kernel
theorem dX9_earliest_34 : decode cX9_earliest 34 = .ok (.istore 5, 2) := by decide +kernel
theorem dX9_earliest_36 : decode cX9_earliest 36 = .ok (.iload 5, 2) := by decide +kernel
theorem dX9_earliest_38 : decode cX9_earliest 38 = .ok (.ldc 112, 2) := by decide +kernel
theorem dX9_earliest_40 : decode cX9_earliest 40 = .ok (.if_icmp .lt 8, 3) := by decide +kernel
theorem dX9_earliest_43 : decode cX9_earliest 43 = .ok (.bipush (-5), 2) := by decide +kernel
theorem dX9_earliest_45 : decode cX9_earliest 45 = .ok (.goto 5, 3) := by decide +kernel
theorem dX9_earliest_48 : decode cX9_earliest 48 = .ok (.iload 5, 2) := by decide +kernel
theorem dX9_earliest_50 : decode cX9_earliest 50 = .ok (.ireturn, 1) := by decide +kernel
theorem dX9_worth_0 : decode cX9_worth 0 = .ok (.aload_n 0, 1) := by decide +kernel
theorem dX9_worth_1 : decode cX9_worth 1 = .ok (.iconst 0, 1) := by decide +kernel
theorem dX9_worth_2 : decode cX9_worth 2 = .ok (.putfield 87, 3) := by decide +kernel
theorem dX9_worth_5 : decode cX9_worth 5 = .ok (.iload_n 1, 1) := by decide +kernel
theorem dX9_worth_6 : decode cX9_worth 6 = .ok (.iload_n 3, 1) := by decide +kernel
theorem dX9_worth_7 : decode cX9_worth 7 = .ok (.iload_n 2, 1) := by decide +kernel
theorem dX9_worth_8 : decode cX9_worth 8 = .ok (.iconst 0, 1) := by decide +kernel
theorem dX9_worth_9 : decode cX9_worth 9 = .ok (.invokestatic 278, 3) := by decide +kernel
theorem dX9_worth_12 : decode cX9_worth 12 = .ok (.ifCond .ge 11, 3) := by decide +kernel
theorem dX9_worth_15 : decode cX9_worth 15 = .ok (.iload_n 1, 1) := by decide +kernel
theorem dX9_worth_16 : decode cX9_worth 16 = .ok (.iload_n 3, 1) := by decide +kernel
theorem dX9_worth_17 : decode cX9_worth 17 = .ok (.iload_n 2, 1) := by decide +kernel
theorem dX9_worth_18 : decode cX9_worth 18 = .ok (.iconst 0, 1) := by decide +kernel
theorem dX9_worth_19 : decode cX9_worth 19 = .ok (.invokestatic 278, 3) := by decide +kernel
theorem dX9_worth_22 : decode cX9_worth 22 = .ok (.ireturn, 1) := by decide +kernel
theorem dX9_worth_23 : decode cX9_worth 23 = .ok (.aload_n 0, 1) := by decide +kernel
theorem dX9_worth_24 : decode cX9_worth 24 = .ok (.iload_n 1, 1) := by decide +kernel
theorem dX9_worth_25 : decode cX9_worth 25 = .ok (.iload_n 2, 1) := by decide +kernel
theorem dX9_worth_26 : decode cX9_worth 26 = .ok (.invokevirtual 138, 3) := by decide +kernel
theorem dX9_worth_29 : decode cX9_worth 29 = .ok (.aload_n 0, 1) := by decide +kernel
theorem dX9_worth_30 : decode cX9_worth 30 = .ok (.getfield 41, 3) := by decide +kernel
theorem dX9_worth_33 : decode cX9_worth 33 = .ok (.iload_n 3, 1) := by decide +kernel
theorem dX9_worth_34 : decode cX9_worth 34 = .ok (.iaload, 1) := by decide +kernel
theorem dX9_worth_35 : decode cX9_worth 35 = .ok (.ldc 112, 2) := by decide +kernel
theorem dX9_worth_37 : decode cX9_worth 37 = .ok (.if_icmp .ge 7, 3) := by decide +kernel
theorem dX9_worth_40 : decode cX9_worth 40 = .ok (.iconst 1, 1) := by decide +kernel
theorem dX9_worth_41 : decode cX9_worth 41 = .ok (.goto 4, 3) := by decide +kernel
theorem dX9_worth_44 : decode cX9_worth 44 = .ok (.iconst 0, 1) := by decide +kernel
theorem dX9_worth_45 : decode cX9_worth 45 = .ok (.istore 4, 2) := by decide +kernel
theorem dX9_worth_47 : decode cX9_worth 47 = .ok (.iconst 1, 1) := by decide +kernel
theorem dX9_worth_48 : decode cX9_worth 48 = .ok (.istore 5, 2) := by decide +kernel
theorem dX9_worth_50 : decode cX9_worth 50 = .ok (.iload 5, 2) := by decide +kernel
theorem dX9_worth_52 : decode cX9_worth 52 = .ok (.bipush 6, 2) := by decide +kernel
theorem dX9_worth_54 : decode cX9_worth 54 = .ok (.if_icmp .gt 51, 3) := by decide +kernel
theorem dX9_worth_57 : decode cX9_worth 57 = .ok (.iload 4, 2) := by decide +kernel
theorem dX9_worth_59 : decode cX9_worth 59 = .ok (.aload_n 0, 1) := by decide +kernel
theorem dX9_worth_60 : decode cX9_worth 60 = .ok (.getfield 41, 3) := by decide +kernel
theorem dX9_worth_63 : decode cX9_worth 63 = .ok (.bipush 12, 2) := by decide +kernel
theorem dX9_worth_65 : decode cX9_worth 65 = .ok (.iload 5, 2) := by decide +kernel
theorem dX9_worth_67 : decode cX9_worth 67 = .ok (.imul, 1) := by decide +kernel
theorem dX9_worth_68 : decode cX9_worth 68 = .ok (.iload_n 3, 1) := by decide +kernel
theorem dX9_worth_69 : decode cX9_worth 69 = .ok (.iadd, 1) := by decide +kernel
theorem dX9_worth_70 : decode cX9_worth 70 = .ok (.iaload, 1) := by decide +kernel
theorem dX9_worth_71 : decode cX9_worth 71 = .ok (.aload_n 0, 1) := by decide +kernel
theorem dX9_worth_72 : decode cX9_worth 72 = .ok (.getfield 41, 3) := by decide +kernel
theorem dX9_worth_75 : decode cX9_worth 75 = .ok (.bipush 12, 2) := by decide +kernel
theorem dX9_worth_77 : decode cX9_worth 77 = .ok (.iload 5, 2) := by decide +kernel
theorem dX9_worth_79 : decode cX9_worth 79 = .ok (.iconst 1, 1) := by decide +kernel
theorem dX9_worth_80 : decode cX9_worth 80 = .ok (.isub, 1) := by decide +kernel
theorem dX9_worth_81 : decode cX9_worth 81 = .ok (.imul, 1) := by decide +kernel
theorem dX9_worth_82 : decode cX9_worth 82 = .ok (.iload_n 3, 1) := by decide +kernel
theorem dX9_worth_83 : decode cX9_worth 83 = .ok (.iadd, 1) := by decide +kernel
theorem dX9_worth_84 : decode cX9_worth 84 = .ok (.iaload, 1) := by decide +kernel
theorem dX9_worth_85 : decode cX9_worth 85 = .ok (.if_icmp .ge 10, 3) := by decide +kernel
theorem dX9_worth_88 : decode cX9_worth 88 = .ok (.iconst 1, 1) := by decide +kernel
theorem dX9_worth_89 : decode cX9_worth 89 = .ok (.iload 5, 2) := by decide +kernel
theorem dX9_worth_91 : decode cX9_worth 91 = .ok (.ishl, 1) := by decide +kernel
theorem dX9_worth_92 : decode cX9_worth 92 = .ok (.goto 4, 3) := by decide +kernel
theorem dX9_worth_95 : decode cX9_worth 95 = .ok (.iconst 0, 1) := by decide +kernel
theorem dX9_worth_96 : decode cX9_worth 96 = .ok (.ior, 1) := by decide +kernel
theorem dX9_worth_97 : decode cX9_worth 97 = .ok (.istore 4, 2) := by decide +kernel
theorem dX9_worth_99 : decode cX9_worth 99 = .ok (.iinc 5 1, 3) := by decide +kernel
theorem dX9_worth_102 : decode cX9_worth 102 = .ok (.goto (-52), 3) := by decide +kernel
theorem dX9_worth_105 : decode cX9_worth 105 = .ok (.iload 4, 2) := by decide +kernel
theorem dX9_worth_107 : decode cX9_worth 107 = .ok (.ireturn, 1) := by decide +kernel
theorem dX9_legs_0 : decode cX9_legs 0 = .ok (.aload_n 0, 1) := by decide +kernel
theorem dX9_legs_1 : decode cX9_legs 1 = .ok (.iconst 0, 1) := by decide +kernel
theorem dX9_legs_2 : decode cX9_legs 2 = .ok (.putfield 87, 3) := by decide +kernel
theorem dX9_legs_5 : decode cX9_legs 5 = .ok (.iload_n 1, 1) := by decide +kernel
theorem dX9_legs_6 : decode cX9_legs 6 = .ok (.iload_n 3, 1) := by decide +kernel
theorem dX9_legs_7 : decode cX9_legs 7 = .ok (.iload_n 2, 1) := by decide +kernel
theorem dX9_legs_8 : decode cX9_legs 8 = .ok (.iload 4, 2) := by decide +kernel
theorem dX9_legs_10 : decode cX9_legs 10 = .ok (.invokestatic 278, 3) := by decide +kernel
theorem dX9_legs_13 : decode cX9_legs 13 = .ok (.ifCond .ge 12, 3) := by decide +kernel
theorem dX9_legs_16 : decode cX9_legs 16 = .ok (.iload_n 1, 1) := by decide +kernel
theorem dX9_legs_17 : decode cX9_legs 17 = .ok (.iload_n 3, 1) := by decide +kernel
theorem dX9_legs_18 : decode cX9_legs 18 = .ok (.iload_n 2, 1) := by decide +kernel
theorem dX9_legs_19 : decode cX9_legs 19 = .ok (.iload 4, 2) := by decide +kernel
theorem dX9_legs_21 : decode cX9_legs 21 = .ok (.invokestatic 278, 3) := by decide +kernel
theorem dX9_legs_24 : decode cX9_legs 24 = .ok (.ireturn, 1) := by decide +kernel
theorem dX9_legs_25 : decode cX9_legs 25 = .ok (.aload_n 0, 1) := by decide +kernel
theorem dX9_legs_26 : decode cX9_legs 26 = .ok (.iload_n 1, 1) := by decide +kernel
theorem dX9_legs_27 : decode cX9_legs 27 = .ok (.iload_n 2, 1) := by decide +kernel
theorem dX9_legs_28 : decode cX9_legs 28 = .ok (.iload_n 3, 1) := by decide +kernel
theorem dX9_legs_29 : decode cX9_legs 29 = .ok (.iload 4, 2) := by decide +kernel
theorem dX9_legs_31 : decode cX9_legs 31 = .ok (.invokevirtual 285, 3) := by decide +kernel
theorem dX9_legs_34 : decode cX9_legs 34 = .ok (.ifCond .eq 10, 3) := by decide +kernel
theorem dX9_legs_37 : decode cX9_legs 37 = .ok (.aload_n 0, 1) := by decide +kernel
theorem dX9_legs_38 : decode cX9_legs 38 = .ok (.getfield 155, 3) := by decide +kernel
theorem dX9_legs_41 : decode cX9_legs 41 = .ok (.goto 5, 3) := by decide +kernel
theorem dX9_legs_44 : decode cX9_legs 44 = .ok (.bipush (-5), 2) := by decide +kernel
theorem dX9_legs_46 : decode cX9_legs 46 = .ok (.ireturn, 1) := by decide +kernel
theorem dX9_ofLeg_0 : decode cX9_ofLeg 0 = .ok (.iload_n 2, 1) := by decide +kernel
theorem dX9_ofLeg_1 : decode cX9_ofLeg 1 = .ok (.tableswitch 70 0 4 #[35, 42, 49, 56, 63], 35) := by decide +kernel
theorem dX9_ofLeg_36 : decode cX9_ofLeg 36 = .ok (.aload_n 0, 1) := by decide +kernel
theorem dX9_ofLeg_37 : decode cX9_ofLeg 37 = .ok (.getfield 44, 3) := by decide +kernel
theorem dX9_ofLeg_40 : decode cX9_ofLeg 40 = .ok (.iload_n 1, 1) := by decide +kernel
theorem dX9_ofLeg_41 : decode cX9_ofLeg 41 = .ok (.iaload, 1) := by decide +kernel
theorem dX9_ofLeg_42 : decode cX9_ofLeg 42 = .ok (.ireturn, 1) := by decide +kernel
theorem dX9_ofLeg_43 : decode cX9_ofLeg 43 = .ok (.aload_n 0, 1) := by decide +kernel
theorem dX9_ofLeg_44 : decode cX9_ofLeg 44 = .ok (.getfield 47, 3) := by decide +kernel
theorem dX9_ofLeg_47 : decode cX9_ofLeg 47 = .ok (.iload_n 1, 1) := by decide +kernel
theorem dX9_ofLeg_48 : decode cX9_ofLeg 48 = .ok (.iaload, 1) := by decide +kernel
theorem dX9_ofLeg_49 : decode cX9_ofLeg 49 = .ok (.ireturn, 1) := by decide +kernel
theorem dX9_ofLeg_50 : decode cX9_ofLeg 50 = .ok (.aload_n 0, 1) := by decide +kernel
theorem dX9_ofLeg_51 : decode cX9_ofLeg 51 = .ok (.getfield 50, 3) := by decide +kernel
theorem dX9_ofLeg_54 : decode cX9_ofLeg 54 = .ok (.iload_n 1, 1) := by decide +kernel
theorem dX9_ofLeg_55 : decode cX9_ofLeg 55 = .ok (.iaload, 1) := by decide +kernel
theorem dX9_ofLeg_56 : decode cX9_ofLeg 56 = .ok (.ireturn, 1) := by decide +kernel
theorem dX9_ofLeg_57 : decode cX9_ofLeg 57 = .ok (.aload_n 0, 1) := by decide +kernel
theorem dX9_ofLeg_58 : decode cX9_ofLeg 58 = .ok (.getfield 53, 3) := by decide +kernel
theorem dX9_ofLeg_61 : decode cX9_ofLeg 61 = .ok (.iload_n 1, 1) := by decide +kernel
theorem dX9_ofLeg_62 : decode cX9_ofLeg 62 = .ok (.iaload, 1) := by decide +kernel
theorem dX9_ofLeg_63 : decode cX9_ofLeg 63 = .ok (.ireturn, 1) := by decide +kernel
theorem dX9_ofLeg_64 : decode cX9_ofLeg 64 = .ok (.aload_n 0, 1) := by decide +kernel
theorem dX9_ofLeg_65 : decode cX9_ofLeg 65 = .ok (.getfield 56, 3) := by decide +kernel
theorem dX9_ofLeg_68 : decode cX9_ofLeg 68 = .ok (.iload_n 1, 1) := by decide +kernel
theorem dX9_ofLeg_69 : decode cX9_ofLeg 69 = .ok (.iaload, 1) := by decide +kernel
theorem dX9_ofLeg_70 : decode cX9_ofLeg 70 = .ok (.ireturn, 1) := by decide +kernel
theorem dX9_ofLeg_71 : decode cX9_ofLeg 71 = .ok (.aload_n 0, 1) := by decide +kernel
theorem dX9_ofLeg_72 : decode cX9_ofLeg 72 = .ok (.getfield 59, 3) := by decide +kernel
theorem dX9_ofLeg_75 : decode cX9_ofLeg 75 = .ok (.iload_n 1, 1) := by decide +kernel
theorem dX9_ofLeg_76 : decode cX9_ofLeg 76 = .ok (.iaload, 1) := by decide +kernel
theorem dX9_ofLeg_77 : decode cX9_ofLeg 77 = .ok (.ireturn, 1) := by decide +kernel
theorem dX9_leg_0 : decode cX9_leg 0 = .ok (.aload_n 0, 1) := by decide +kernel
theorem dX9_leg_1 : decode cX9_leg 1 = .ok (.iconst 0, 1) := by decide +kernel
theorem dX9_leg_2 : decode cX9_leg 2 = .ok (.putfield 87, 3) := by decide +kernel
theorem dX9_leg_5 : decode cX9_leg 5 = .ok (.iload_n 1, 1) := by decide +kernel
theorem dX9_leg_6 : decode cX9_leg 6 = .ok (.invokestatic 260, 3) := by decide +kernel
theorem dX9_leg_9 : decode cX9_leg 9 = .ok (.ifCond .eq 28, 3) := by decide +kernel
theorem dX9_leg_12 : decode cX9_leg 12 = .ok (.iload_n 3, 1) := by decide +kernel
theorem dX9_leg_13 : decode cX9_leg 13 = .ok (.invokestatic 260, 3) := by decide +kernel
theorem dX9_leg_16 : decode cX9_leg 16 = .ok (.ifCond .eq 21, 3) := by decide +kernel
theorem dX9_leg_19 : decode cX9_leg 19 = .ok (.iload 5, 2) := by decide +kernel
theorem dX9_leg_21 : decode cX9_leg 21 = .ok (.ifCond .lt 16, 3) := by decide +kernel
theorem dX9_leg_24 : decode cX9_leg 24 = .ok (.iload 6, 2) := by decide +kernel
theorem dX9_leg_26 : decode cX9_leg 26 = .ok (.i2l, 1) := by decide +kernel
theorem dX9_leg_27 : decode cX9_leg 27 = .ok (.lconst 0, 1) := by decide +kernel
theorem dX9_leg_28 : decode cX9_leg 28 = .ok (.ldc2_w 289, 3) := by decide +kernel
theorem dX9_leg_31 : decode cX9_leg 31 = .ok (.invokestatic 92, 3) := by decide +kernel
theorem dX9_leg_34 : decode cX9_leg 34 = .ok (.ifCond .ne 5, 3) := by decide +kernel
theorem dX9_leg_37 : decode cX9_leg 37 = .ok (.iconst (-1), 1) := by decide +kernel
theorem dX9_leg_38 : decode cX9_leg 38 = .ok (.ireturn, 1) := by decide +kernel
theorem dX9_leg_39 : decode cX9_leg 39 = .ok (.iload_n 1, 1) := by decide +kernel
theorem dX9_leg_40 : decode cX9_leg 40 = .ok (.iload_n 3, 1) := by decide +kernel
theorem dX9_leg_41 : decode cX9_leg 41 = .ok (.iload_n 2, 1) := by decide +kernel
theorem dX9_leg_42 : decode cX9_leg 42 = .ok (.iload 4, 2) := by decide +kernel
theorem dX9_leg_44 : decode cX9_leg 44 = .ok (.invokestatic 278, 3) := by decide +kernel
theorem dX9_leg_47 : decode cX9_leg 47 = .ok (.ifCond .ge 6, 3) := by decide +kernel
theorem dX9_leg_50 : decode cX9_leg 50 = .ok (.bipush (-2), 2) := by decide +kernel
theorem dX9_leg_52 : decode cX9_leg 52 = .ok (.ireturn, 1) := by decide +kernel
theorem dX9_leg_53 : decode cX9_leg 53 = .ok (.aload_n 0, 1) := by decide +kernel
theorem dX9_leg_54 : decode cX9_leg 54 = .ok (.iload_n 1, 1) := by decide +kernel
theorem dX9_leg_55 : decode cX9_leg 55 = .ok (.iload_n 2, 1) := by decide +kernel
theorem dX9_leg_56 : decode cX9_leg 56 = .ok (.iload_n 3, 1) := by decide +kernel
theorem dX9_leg_57 : decode cX9_leg 57 = .ok (.iload 4, 2) := by decide +kernel
theorem dX9_leg_59 : decode cX9_leg 59 = .ok (.invokevirtual 285, 3) := by decide +kernel
theorem dX9_leg_62 : decode cX9_leg 62 = .ok (.ifCond .eq 30, 3) := by decide +kernel
theorem dX9_leg_65 : decode cX9_leg 65 = .ok (.iload 5, 2) := by decide +kernel
theorem dX9_leg_67 : decode cX9_leg 67 = .ok (.aload_n 0, 1) := by decide +kernel
theorem dX9_leg_68 : decode cX9_leg 68 = .ok (.getfield 155, 3) := by decide +kernel
theorem dX9_leg_71 : decode cX9_leg 71 = .ok (.if_icmp .ge 21, 3) := by decide +kernel
theorem dX9_leg_74 : decode cX9_leg 74 = .ok (.aload_n 0, 1) := by decide +kernel
theorem dX9_leg_75 : decode cX9_leg 75 = .ok (.aload_n 0, 1) := by decide +kernel
theorem dX9_leg_76 : decode cX9_leg 76 = .ok (.getfield 155, 3) := by decide +kernel
theorem dX9_leg_79 : decode cX9_leg 79 = .ok (.iconst 1, 1) := by decide +kernel
theorem dX9_leg_80 : decode cX9_leg 80 = .ok (.isub, 1) := by decide +kernel
