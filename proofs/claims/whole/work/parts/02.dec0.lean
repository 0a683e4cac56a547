theorem dX0_init_0 : decode cX0_init 0 = .ok (.aload_n 0, 1) := by decide +kernel
theorem dX0_init_1 : decode cX0_init 1 = .ok (.invokespecial 3, 3) := by decide +kernel
theorem dX0_init_4 : decode cX0_init 4 = .ok (.aload_n 0, 1) := by decide +kernel
theorem dX0_init_5 : decode cX0_init 5 = .ok (.aload_n 1, 1) := by decide +kernel
theorem dX0_init_6 : decode cX0_init 6 = .ok (.putfield 9, 3) := by decide +kernel
theorem dX0_init_9 : decode cX0_init 9 = .ok (.aload_n 0, 1) := by decide +kernel
theorem dX0_init_10 : decode cX0_init 10 = .ok (.bipush 48, 2) := by decide +kernel
theorem dX0_init_12 : decode cX0_init 12 = .ok (.newarray .int, 2) := by decide +kernel
theorem dX0_init_14 : decode cX0_init 14 = .ok (.putfield 15, 3) := by decide +kernel
theorem dX0_init_17 : decode cX0_init 17 = .ok (.aload_n 0, 1) := by decide +kernel
theorem dX0_init_18 : decode cX0_init 18 = .ok (.iconst 0, 1) := by decide +kernel
theorem dX0_init_19 : decode cX0_init 19 = .ok (.putfield 19, 3) := by decide +kernel
theorem dX0_init_22 : decode cX0_init 22 = .ok (.return_, 1) := by decide +kernel
theorem dX0_gather_0 : decode cX0_gather 0 = .ok (.aload_n 0, 1) := by decide +kernel
theorem dX0_gather_1 : decode cX0_gather 1 = .ok (.iconst 0, 1) := by decide +kernel
theorem dX0_gather_2 : decode cX0_gather 2 = .ok (.putfield 19, 3) := by decide +kernel
theorem dX0_gather_5 : decode cX0_gather 5 = .ok (.iconst 0, 1) := by decide +kernel
theorem dX0_gather_6 : decode cX0_gather 6 = .ok (.istore_n 3, 1) := by decide +kernel
theorem dX0_gather_7 : decode cX0_gather 7 = .ok (.iload_n 3, 1) := by decide +kernel
theorem dX0_gather_8 : decode cX0_gather 8 = .ok (.aload_n 0, 1) := by decide +kernel
theorem dX0_gather_9 : decode cX0_gather 9 = .ok (.getfield 9, 3) := by decide +kernel
theorem dX0_gather_12 : decode cX0_gather 12 = .ok (.getfield 23, 3) := by decide +kernel
theorem dX0_gather_15 : decode cX0_gather 15 = .ok (.if_icmp .ge 106, 3) := by decide +kernel
theorem dX0_gather_18 : decode cX0_gather 18 = .ok (.aload_n 0, 1) := by decide +kernel
theorem dX0_gather_19 : decode cX0_gather 19 = .ok (.getfield 9, 3) := by decide +kernel
theorem dX0_gather_22 : decode cX0_gather 22 = .ok (.iload_n 3, 1) := by decide +kernel
theorem dX0_gather_23 : decode cX0_gather 23 = .ok (.iload_n 1, 1) := by decide +kernel
theorem dX0_gather_24 : decode cX0_gather 24 = .ok (.invokevirtual 28, 3) := by decide +kernel
theorem dX0_gather_27 : decode cX0_gather 27 = .ok (.istore 4, 2) := by decide +kernel
theorem dX0_gather_29 : decode cX0_gather 29 = .ok (.aload_n 0, 1) := by decide +kernel
theorem dX0_gather_30 : decode cX0_gather 30 = .ok (.iload_n 3, 1) := by decide +kernel
theorem dX0_gather_31 : decode cX0_gather 31 = .ok (.iload 4, 2) := by decide +kernel
theorem dX0_gather_33 : decode cX0_gather 33 = .ok (.invokevirtual 32, 3) := by decide +kernel
theorem dX0_gather_36 : decode cX0_gather 36 = .ok (.ifCond .ne 6, 3) := by decide +kernel
theorem dX0_gather_39 : decode cX0_gather 39 = .ok (.goto 76, 3) := by decide +kernel
theorem dX0_gather_42 : decode cX0_gather 42 = .ok (.iconst 0, 1) := by decide +kernel
theorem dX0_gather_43 : decode cX0_gather 43 = .ok (.istore 5, 2) := by decide +kernel
theorem dX0_gather_45 : decode cX0_gather 45 = .ok (.iload 5, 2) := by decide +kernel
theorem dX0_gather_47 : decode cX0_gather 47 = .ok (.aload_n 0, 1) := by decide +kernel
theorem dX0_gather_48 : decode cX0_gather 48 = .ok (.getfield 9, 3) := by decide +kernel
theorem dX0_gather_51 : decode cX0_gather 51 = .ok (.getfield 36, 3) := by decide +kernel
theorem dX0_gather_54 : decode cX0_gather 54 = .ok (.iload_n 3, 1) := by decide +kernel
theorem dX0_gather_55 : decode cX0_gather 55 = .ok (.iaload, 1) := by decide +kernel
theorem dX0_gather_56 : decode cX0_gather 56 = .ok (.if_icmp .ge 59, 3) := by decide +kernel
theorem dX0_gather_59 : decode cX0_gather 59 = .ok (.aload_n 0, 1) := by decide +kernel
theorem dX0_gather_60 : decode cX0_gather 60 = .ok (.getfield 9, 3) := by decide +kernel
theorem dX0_gather_63 : decode cX0_gather 63 = .ok (.iload_n 3, 1) := by decide +kernel
theorem dX0_gather_64 : decode cX0_gather 64 = .ok (.iload 5, 2) := by decide +kernel
theorem dX0_gather_66 : decode cX0_gather 66 = .ok (.iload 4, 2) := by decide +kernel
theorem dX0_gather_68 : decode cX0_gather 68 = .ok (.invokevirtual 39, 3) := by decide +kernel
theorem dX0_gather_71 : decode cX0_gather 71 = .ok (.istore 6, 2) := by decide +kernel
theorem dX0_gather_73 : decode cX0_gather 73 = .ok (.aload_n 0, 1) := by decide +kernel
theorem dX0_gather_74 : decode cX0_gather 74 = .ok (.getfield 9, 3) := by decide +kernel
theorem dX0_gather_77 : decode cX0_gather 77 = .ok (.iload_n 3, 1) := by decide +kernel
theorem dX0_gather_78 : decode cX0_gather 78 = .ok (.iload 5, 2) := by decide +kernel
theorem dX0_gather_80 : decode cX0_gather 80 = .ok (.invokevirtual 43, 3) := by decide +kernel
theorem dX0_gather_83 : decode cX0_gather 83 = .ok (.ifCond .eq 26, 3) := by decide +kernel
theorem dX0_gather_86 : decode cX0_gather 86 = .ok (.iload 6, 2) := by decide +kernel
theorem dX0_gather_88 : decode cX0_gather 88 = .ok (.iload_n 2, 1) := by decide +kernel
theorem dX0_gather_89 : decode cX0_gather 89 = .ok (.if_icmp .lt 20, 3) := by decide +kernel
theorem dX0_gather_92 : decode cX0_gather 92 = .ok (.aload_n 0, 1) := by decide +kernel
theorem dX0_gather_93 : decode cX0_gather 93 = .ok (.iload 6, 2) := by decide +kernel
theorem dX0_gather_95 : decode cX0_gather 95 = .ok (.bipush 100, 2) := by decide +kernel
theorem dX0_gather_97 : decode cX0_gather 97 = .ok (.imul, 1) := by decide +kernel
theorem dX0_gather_98 : decode cX0_gather 98 = .ok (.iload_n 3, 1) := by decide +kernel
theorem dX0_gather_99 : decode cX0_gather 99 = .ok (.bipush 10, 2) := by decide +kernel
theorem dX0_gather_101 : decode cX0_gather 101 = .ok (.imul, 1) := by decide +kernel
theorem dX0_gather_102 : decode cX0_gather 102 = .ok (.iadd, 1) := by decide +kernel
theorem dX0_gather_103 : decode cX0_gather 103 = .ok (.iload 5, 2) := by decide +kernel
theorem dX0_gather_105 : decode cX0_gather 105 = .ok (.iadd, 1) := by decide +kernel
theorem dX0_gather_106 : decode cX0_gather 106 = .ok (.invokevirtual 46, 3) := by decide +kernel
theorem dX0_gather_109 : decode cX0_gather 109 = .ok (.iinc 5 1, 3) := by decide +kernel
theorem dX0_gather_112 : decode cX0_gather 112 = .ok (.goto (-67), 3) := by decide +kernel
theorem dX0_gather_115 : decode cX0_gather 115 = .ok (.iinc 3 1, 3) := by decide +kernel
theorem dX0_gather_118 : decode cX0_gather 118 = .ok (.goto (-111), 3) := by decide +kernel
theorem dX0_gather_121 : decode cX0_gather 121 = .ok (.return_, 1) := by decide +kernel
theorem dX0_goesOn_0 : decode cX0_goesOn 0 = .ok (.iload_n 2, 1) := by decide +kernel
theorem dX0_goesOn_1 : decode cX0_goesOn 1 = .ok (.ifCond .lt 22, 3) := by decide +kernel
theorem dX0_goesOn_4 : decode cX0_goesOn 4 = .ok (.iload_n 2, 1) := by decide +kernel
theorem dX0_goesOn_5 : decode cX0_goesOn 5 = .ok (.aload_n 0, 1) := by decide +kernel
theorem dX0_goesOn_6 : decode cX0_goesOn 6 = .ok (.getfield 9, 3) := by decide +kernel
theorem dX0_goesOn_9 : decode cX0_goesOn 9 = .ok (.getfield 50, 3) := by decide +kernel
theorem dX0_goesOn_12 : decode cX0_goesOn 12 = .ok (.iload_n 1, 1) := by decide +kernel
theorem dX0_goesOn_13 : decode cX0_goesOn 13 = .ok (.iaload, 1) := by decide +kernel
theorem dX0_goesOn_14 : decode cX0_goesOn 14 = .ok (.iconst 1, 1) := by decide +kernel
theorem dX0_goesOn_15 : decode cX0_goesOn 15 = .ok (.isub, 1) := by decide +kernel
theorem dX0_goesOn_16 : decode cX0_goesOn 16 = .ok (.if_icmp .ge 7, 3) := by decide +kernel
theorem dX0_goesOn_19 : decode cX0_goesOn 19 = .ok (.iconst 1, 1) := by decide +kernel
theorem dX0_goesOn_20 : decode cX0_goesOn 20 = .ok (.goto 4, 3) := by decide +kernel
theorem dX0_goesOn_23 : decode cX0_goesOn 23 = .ok (.iconst 0, 1) := by decide +kernel
theorem dX0_goesOn_24 : decode cX0_goesOn 24 = .ok (.ireturn, 1) := by decide +kernel
theorem dX0_insert_0 : decode cX0_insert 0 = .ok (.aload_n 0, 1) := by decide +kernel
theorem dX0_insert_1 : decode cX0_insert 1 = .ok (.getfield 19, 3) := by decide +kernel
theorem dX0_insert_4 : decode cX0_insert 4 = .ok (.aload_n 0, 1) := by decide +kernel
theorem dX0_insert_5 : decode cX0_insert 5 = .ok (.getfield 15, 3) := by decide +kernel
theorem dX0_insert_8 : decode cX0_insert 8 = .ok (.arraylength, 1) := by decide +kernel
theorem dX0_insert_9 : decode cX0_insert 9 = .ok (.if_icmp .lt 4, 3) := by decide +kernel
theorem dX0_insert_12 : decode cX0_insert 12 = .ok (.return_, 1) := by decide +kernel
theorem dX0_insert_13 : decode cX0_insert 13 = .ok (.aload_n 0, 1) := by decide +kernel
theorem dX0_insert_14 : decode cX0_insert 14 = .ok (.getfield 19, 3) := by decide +kernel
theorem dX0_insert_17 : decode cX0_insert 17 = .ok (.istore_n 2, 1) := by decide +kernel
theorem dX0_insert_18 : decode cX0_insert 18 = .ok (.iload_n 2, 1) := by decide +kernel
theorem dX0_insert_19 : decode cX0_insert 19 = .ok (.ifCond .le 35, 3) := by decide +kernel
theorem dX0_insert_22 : decode cX0_insert 22 = .ok (.aload_n 0, 1) := by decide +kernel
theorem dX0_insert_23 : decode cX0_insert 23 = .ok (.getfield 15, 3) := by decide +kernel
theorem dX0_insert_26 : decode cX0_insert 26 = .ok (.iload_n 2, 1) := by decide +kernel
theorem dX0_insert_27 : decode cX0_insert 27 = .ok (.iconst 1, 1) := by decide +kernel
theorem dX0_insert_28 : decode cX0_insert 28 = .ok (.isub, 1) := by decide +kernel
theorem dX0_insert_29 : decode cX0_insert 29 = .ok (.iaload, 1) := by decide +kernel
theorem dX0_insert_30 : decode cX0_insert 30 = .ok (.iload_n 1, 1) := by decide +kernel
theorem dX0_insert_31 : decode cX0_insert 31 = .ok (.if_icmp .le 23, 3) := by decide +kernel
theorem dX0_insert_34 : decode cX0_insert 34 = .ok (.aload_n 0, 1) := by decide +kernel
theorem dX0_insert_35 : decode cX0_insert 35 = .ok (.getfield 15, 3) := by decide +kernel
theorem dX0_insert_38 : decode cX0_insert 38 = .ok (.iload_n 2, 1) := by decide +kernel
theorem dX0_insert_39 : decode cX0_insert 39 = .ok (.aload_n 0, 1) := by decide +kernel
theorem dX0_insert_40 : decode cX0_insert 40 = .ok (.getfield 15, 3) := by decide +kernel
theorem dX0_insert_43 : decode cX0_insert 43 = .ok (.iload_n 2, 1) := by decide +kernel
theorem dX0_insert_44 : decode cX0_insert 44 = .ok (.iconst 1, 1) := by decide +kernel
theorem dX0_insert_45 : decode cX0_insert 45 = .ok (.isub, 1) := by decide +kernel
theorem dX0_insert_46 : decode cX0_insert 46 = .ok (.iaload, 1) := by decide +kernel
theorem dX0_insert_47 : decode cX0_insert 47 = .ok (.iastore, 1) := by decide +kernel
theorem dX0_insert_48 : decode cX0_insert 48 = .ok (.iinc 2 (-1), 3) := by decide +kernel
theorem dX0_insert_51 : decode cX0_insert 51 = .ok (.goto (-33), 3) := by decide +kernel
theorem dX0_insert_54 : decode cX0_insert 54 = .ok (.aload_n 0, 1) := by decide +kernel
theorem dX0_insert_55 : decode cX0_insert 55 = .ok (.getfield 15, 3) := by decide +kernel
theorem dX0_insert_58 : decode cX0_insert 58 = .ok (.iload_n 2, 1) := by decide +kernel
theorem dX0_insert_59 : decode cX0_insert 59 = .ok (.iload_n 1, 1) := by decide +kernel
theorem dX0_insert_60 : decode cX0_insert 60 = .ok (.iastore, 1) := by decide +kernel
theorem dX0_insert_61 : decode cX0_insert 61 = .ok (.aload_n 0, 1) := by decide +kernel
theorem dX0_insert_62 : decode cX0_insert 62 = .ok (.dup, 1) := by decide +kernel
theorem dX0_insert_63 : decode cX0_insert 63 = .ok (.getfield 19, 3) := by decide +kernel
theorem dX0_insert_66 : decode cX0_insert 66 = .ok (.iconst 1, 1) := by decide +kernel
theorem dX0_insert_67 : decode cX0_insert 67 = .ok (.iadd, 1) := by decide +kernel
theorem dX0_insert_68 : decode cX0_insert 68 = .ok (.putfield 19, 3) := by decide +kernel
theorem dX0_insert_71 : decode cX0_insert 71 = .ok (.return_, 1) := by decide +kernel
theorem dX0_tell_0 : decode cX0_tell 0 = .ok (.aload_n 0, 1) := by decide +kernel
theorem dX0_tell_1 : decode cX0_tell 1 = .ok (.getfield 15, 3) := by decide +kernel
theorem dX0_tell_4 : decode cX0_tell 4 = .ok (.iload_n 1, 1) := by decide +kernel
theorem dX0_tell_5 : decode cX0_tell 5 = .ok (.iaload, 1) := by decide +kernel
theorem dX0_tell_6 : decode cX0_tell 6 = .ok (.istore_n 3, 1) := by decide +kernel
theorem dX0_tell_7 : decode cX0_tell 7 = .ok (.iload_n 2, 1) := by decide +kernel
theorem dX0_tell_8 : decode cX0_tell 8 = .ok (.lookupswitch 41 #[(0, 28), (1, 36)], 28) := by decide +kernel
theorem dX0_tell_36 : decode cX0_tell 36 = .ok (.iload_n 3, 1) := by decide +kernel
theorem dX0_tell_37 : decode cX0_tell 37 = .ok (.bipush 10, 2) := by decide +kernel
theorem dX0_tell_39 : decode cX0_tell 39 = .ok (.idiv, 1) := by decide +kernel
theorem dX0_tell_40 : decode cX0_tell 40 = .ok (.bipush 10, 2) := by decide +kernel
theorem dX0_tell_42 : decode cX0_tell 42 = .ok (.irem, 1) := by decide +kernel
theorem dX0_tell_43 : decode cX0_tell 43 = .ok (.ireturn, 1) := by decide +kernel
theorem dX0_tell_44 : decode cX0_tell 44 = .ok (.iload_n 3, 1) := by decide +kernel
theorem dX0_tell_45 : decode cX0_tell 45 = .ok (.bipush 10, 2) := by decide +kernel
theorem dX0_tell_47 : decode cX0_tell 47 = .ok (.irem, 1) := by decide +kernel
theorem dX0_tell_48 : decode cX0_tell 48 = .ok (.ireturn, 1) := by decide +kernel
theorem dX0_tell_49 : decode cX0_tell 49 = .ok (.iload_n 3, 1) := by decide +kernel
theorem dX0_tell_50 : decode cX0_tell 50 = .ok (.bipush 100, 2) := by decide +kernel
theorem dX0_tell_52 : decode cX0_tell 52 = .ok (.idiv, 1) := by decide +kernel
theorem dX0_tell_53 : decode cX0_tell 53 = .ok (.ireturn, 1) := by decide +kernel
theorem dX0_leastMiss_0 : decode cX0_leastMiss 0 = .ok (.sipush 10000, 3) := by decide +kernel
theorem dX0_leastMiss_3 : decode cX0_leastMiss 3 = .ok (.istore_n 2, 1) := by decide +kernel
theorem dX0_leastMiss_4 : decode cX0_leastMiss 4 = .ok (.iconst 0, 1) := by decide +kernel
theorem dX0_leastMiss_5 : decode cX0_leastMiss 5 = .ok (.istore_n 3, 1) := by decide +kernel
theorem dX0_leastMiss_6 : decode cX0_leastMiss 6 = .ok (.iload_n 3, 1) := by decide +kernel
theorem dX0_leastMiss_7 : decode cX0_leastMiss 7 = .ok (.aload_n 0, 1) := by decide +kernel
theorem dX0_leastMiss_8 : decode cX0_leastMiss 8 = .ok (.getfield 9, 3) := by decide +kernel
theorem dX0_leastMiss_11 : decode cX0_leastMiss 11 = .ok (.getfield 23, 3) := by decide +kernel
theorem dX0_leastMiss_14 : decode cX0_leastMiss 14 = .ok (.if_icmp .ge 91, 3) := by decide +kernel
theorem dX0_leastMiss_17 : decode cX0_leastMiss 17 = .ok (.aload_n 0, 1) := by decide +kernel
theorem dX0_leastMiss_18 : decode cX0_leastMiss 18 = .ok (.getfield 9, 3) := by decide +kernel
theorem dX0_leastMiss_21 : decode cX0_leastMiss 21 = .ok (.iload_n 3, 1) := by decide +kernel
theorem dX0_leastMiss_22 : decode cX0_leastMiss 22 = .ok (.iload_n 1, 1) := by decide +kernel
theorem dX0_leastMiss_23 : decode cX0_leastMiss 23 = .ok (.invokevirtual 28, 3) := by decide +kernel
theorem dX0_leastMiss_26 : decode cX0_leastMiss 26 = .ok (.istore 4, 2) := by decide +kernel
theorem dX0_leastMiss_28 : decode cX0_leastMiss 28 = .ok (.iload 4, 2) := by decide +kernel
theorem dX0_leastMiss_30 : decode cX0_leastMiss 30 = .ok (.iconst 1, 1) := by decide +kernel
theorem dX0_leastMiss_31 : decode cX0_leastMiss 31 = .ok (.if_icmp .ge 6, 3) := by decide +kernel
theorem dX0_leastMiss_34 : decode cX0_leastMiss 34 = .ok (.goto 65, 3) := by decide +kernel
theorem dX0_leastMiss_37 : decode cX0_leastMiss 37 = .ok (.iconst 0, 1) := by decide +kernel
theorem dX0_leastMiss_38 : decode cX0_leastMiss 38 = .ok (.istore 5, 2) := by decide +kernel
theorem dX0_leastMiss_40 : decode cX0_leastMiss 40 = .ok (.iload 5, 2) := by decide +kernel
theorem dX0_leastMiss_42 : decode cX0_leastMiss 42 = .ok (.aload_n 0, 1) := by decide +kernel
theorem dX0_leastMiss_43 : decode cX0_leastMiss 43 = .ok (.getfield 9, 3) := by decide +kernel
theorem dX0_leastMiss_46 : decode cX0_leastMiss 46 = .ok (.getfield 36, 3) := by decide +kernel
theorem dX0_leastMiss_49 : decode cX0_leastMiss 49 = .ok (.iload_n 3, 1) := by decide +kernel
theorem dX0_leastMiss_50 : decode cX0_leastMiss 50 = .ok (.iaload, 1) := by decide +kernel
theorem dX0_leastMiss_51 : decode cX0_leastMiss 51 = .ok (.if_icmp .ge 48, 3) := by decide +kernel
theorem dX0_leastMiss_54 : decode cX0_leastMiss 54 = .ok (.aload_n 0, 1) := by decide +kernel
theorem dX0_leastMiss_55 : decode cX0_leastMiss 55 = .ok (.getfield 9, 3) := by decide +kernel
theorem dX0_leastMiss_58 : decode cX0_leastMiss 58 = .ok (.iload_n 3, 1) := by decide +kernel
theorem dX0_leastMiss_59 : decode cX0_leastMiss 59 = .ok (.iload 5, 2) := by decide +kernel
theorem dX0_leastMiss_61 : decode cX0_leastMiss 61 = .ok (.invokevirtual 43, 3) := by decide +kernel
theorem dX0_leastMiss_64 : decode cX0_leastMiss 64 = .ok (.ifCond .ne 6, 3) := by decide +kernel
theorem dX0_leastMiss_67 : decode cX0_leastMiss 67 = .ok (.goto 26, 3) := by decide +kernel
theorem dX0_leastMiss_70 : decode cX0_leastMiss 70 = .ok (.iload_n 2, 1) := by decide +kernel
theorem dX0_leastMiss_71 : decode cX0_leastMiss 71 = .ok (.aload_n 0, 1) := by decide +kernel
theorem dX0_leastMiss_72 : decode cX0_leastMiss 72 = .ok (.iload_n 3, 1) := by decide +kernel
theorem dX0_leastMiss_73 : decode cX0_leastMiss 73 = .ok (.aload_n 0, 1) := by decide +kernel
theorem dX0_leastMiss_74 : decode cX0_leastMiss 74 = .ok (.getfield 9, 3) := by decide +kernel
theorem dX0_leastMiss_77 : decode cX0_leastMiss 77 = .ok (.iload_n 3, 1) := by decide +kernel
theorem dX0_leastMiss_78 : decode cX0_leastMiss 78 = .ok (.iload 5, 2) := by decide +kernel
theorem dX0_leastMiss_80 : decode cX0_leastMiss 80 = .ok (.iload 4, 2) := by decide +kernel
theorem dX0_leastMiss_82 : decode cX0_leastMiss 82 = .ok (.invokevirtual 39, 3) := by decide +kernel
theorem dX0_leastMiss_85 : decode cX0_leastMiss 85 = .ok (.iload_n 1, 1) := by decide +kernel
theorem dX0_leastMiss_86 : decode cX0_leastMiss 86 = .ok (.invokevirtual 53, 3) := by decide +kernel
theorem dX0_leastMiss_89 : decode cX0_leastMiss 89 = .ok (.invokestatic 56, 3) := by decide +kernel
theorem dX0_leastMiss_92 : decode cX0_leastMiss 92 = .ok (.istore_n 2, 1) := by decide +kernel
theorem dX0_leastMiss_93 : decode cX0_leastMiss 93 = .ok (.iinc 5 1, 3) := by decide +kernel
theorem dX0_leastMiss_96 : decode cX0_leastMiss 96 = .ok (.goto (-56), 3) := by decide +kernel
theorem dX0_leastMiss_99 : decode cX0_leastMiss 99 = .ok (.iinc 3 1, 3) := by decide +kernel
theorem dX0_leastMiss_102 : decode cX0_leastMiss 102 = .ok (.goto (-96), 3) := by decide +kernel
theorem dX0_leastMiss_105 : decode cX0_leastMiss 105 = .ok (.iload_n 2, 1) := by decide +kernel
theorem dX0_leastMiss_106 : decode cX0_leastMiss 106 = .ok (.ireturn, 1) := by decide +kernel
theorem dX0_leastMissOf_0 : decode cX0_leastMissOf 0 = .ok (.sipush 10000, 3) := by decide +kernel
theorem dX0_leastMissOf_3 : decode cX0_leastMissOf 3 = .ok (.istore 4, 2) := by decide +kernel
theorem dX0_leastMissOf_5 : decode cX0_leastMissOf 5 = .ok (.iconst 0, 1) := by decide +kernel
theorem dX0_leastMissOf_6 : decode cX0_leastMissOf 6 = .ok (.istore 5, 2) := by decide +kernel
theorem dX0_leastMissOf_8 : decode cX0_leastMissOf 8 = .ok (.iload 5, 2) := by decide +kernel
theorem dX0_leastMissOf_10 : decode cX0_leastMissOf 10 = .ok (.aload_n 0, 1) := by decide +kernel
theorem dX0_leastMissOf_11 : decode cX0_leastMissOf 11 = .ok (.getfield 9, 3) := by decide +kernel
theorem dX0_leastMissOf_14 : decode cX0_leastMissOf 14 = .ok (.getfield 23, 3) := by decide +kernel
theorem dX0_leastMissOf_17 : decode cX0_leastMissOf 17 = .ok (.if_icmp .ge 111, 3) := by decide +kernel
theorem dX0_leastMissOf_20 : decode cX0_leastMissOf 20 = .ok (.aload_n 0, 1) := by decide +kernel
theorem dX0_leastMissOf_21 : decode cX0_leastMissOf 21 = .ok (.getfield 9, 3) := by decide +kernel
theorem dX0_leastMissOf_24 : decode cX0_leastMissOf 24 = .ok (.iload 5, 2) := by decide +kernel
theorem dX0_leastMissOf_26 : decode cX0_leastMissOf 26 = .ok (.iload_n 3, 1) := by decide +kernel
theorem dX0_leastMissOf_27 : decode cX0_leastMissOf 27 = .ok (.invokevirtual 28, 3) := by decide +kernel
theorem dX0_leastMissOf_30 : decode cX0_leastMissOf 30 = .ok (.istore 6, 2) := by decide +kernel
theorem dX0_leastMissOf_32 : decode cX0_leastMissOf 32 = .ok (.iload 5, 2) := by decide +kernel
theorem dX0_leastMissOf_34 : decode cX0_leastMissOf 34 = .ok (.iload_n 1, 1) := by decide +kernel
theorem dX0_leastMissOf_35 : decode cX0_leastMissOf 35 = .ok (.if_icmp .eq 87, 3) := by decide +kernel
theorem dX0_leastMissOf_38 : decode cX0_leastMissOf 38 = .ok (.aload_n 0, 1) := by decide +kernel
theorem dX0_leastMissOf_39 : decode cX0_leastMissOf 39 = .ok (.iload 5, 2) := by decide +kernel
theorem dX0_leastMissOf_41 : decode cX0_leastMissOf 41 = .ok (.iload 6, 2) := by decide +kernel
theorem dX0_leastMissOf_43 : decode cX0_leastMissOf 43 = .ok (.invokevirtual 32, 3) := by decide +kernel
theorem dX0_leastMissOf_46 : decode cX0_leastMissOf 46 = .ok (.ifCond .ne 6, 3) := by decide +kernel
theorem dX0_leastMissOf_49 : decode cX0_leastMissOf 49 = .ok (.goto 73, 3) := by decide +kernel
theorem dX0_leastMissOf_52 : decode cX0_leastMissOf 52 = .ok (.iconst 0, 1) := by decide +kernel
theorem dX0_leastMissOf_53 : decode cX0_leastMissOf 53 = .ok (.istore 7, 2) := by decide +kernel
theorem dX0_leastMissOf_55 : decode cX0_leastMissOf 55 = .ok (.iload 7, 2) := by decide +kernel
theorem dX0_leastMissOf_57 : decode cX0_leastMissOf 57 = .ok (.aload_n 0, 1) := by decide +kernel
theorem dX0_leastMissOf_58 : decode cX0_leastMissOf 58 = .ok (.getfield 9, 3) := by decide +kernel
theorem dX0_leastMissOf_61 : decode cX0_leastMissOf 61 = .ok (.getfield 36, 3) := by decide +kernel
theorem dX0_leastMissOf_64 : decode cX0_leastMissOf 64 = .ok (.iload 5, 2) := by decide +kernel
theorem dX0_leastMissOf_66 : decode cX0_leastMissOf 66 = .ok (.iaload, 1) := by decide +kernel
theorem dX0_leastMissOf_67 : decode cX0_leastMissOf 67 = .ok (.if_icmp .ge 55, 3) := by decide +kernel
theorem dX0_leastMissOf_70 : decode cX0_leastMissOf 70 = .ok (.aload_n 0, 1) := by decide +kernel
theorem dX0_leastMissOf_71 : decode cX0_leastMissOf 71 = .ok (.getfield 9, 3) := by decide +kernel
theorem dX0_leastMissOf_74 : decode cX0_leastMissOf 74 = .ok (.iload 5, 2) := by decide +kernel
theorem dX0_leastMissOf_76 : decode cX0_leastMissOf 76 = .ok (.iload 7, 2) := by decide +kernel
theorem dX0_leastMissOf_78 : decode cX0_leastMissOf 78 = .ok (.iload 6, 2) := by decide +kernel
theorem dX0_leastMissOf_80 : decode cX0_leastMissOf 80 = .ok (.invokevirtual 39, 3) := by decide +kernel
theorem dX0_leastMissOf_83 : decode cX0_leastMissOf 83 = .ok (.istore 8, 2) := by decide +kernel
theorem dX0_leastMissOf_85 : decode cX0_leastMissOf 85 = .ok (.aload_n 0, 1) := by decide +kernel
theorem dX0_leastMissOf_86 : decode cX0_leastMissOf 86 = .ok (.getfield 9, 3) := by decide +kernel
theorem dX0_leastMissOf_89 : decode cX0_leastMissOf 89 = .ok (.iload 5, 2) := by decide +kernel
theorem dX0_leastMissOf_91 : decode cX0_leastMissOf 91 = .ok (.iload 7, 2) := by decide +kernel
theorem dX0_leastMissOf_93 : decode cX0_leastMissOf 93 = .ok (.invokevirtual 43, 3) := by decide +kernel
theorem dX0_leastMissOf_96 : decode cX0_leastMissOf 96 = .ok (.ifCond .eq 20, 3) := by decide +kernel
theorem dX0_leastMissOf_99 : decode cX0_leastMissOf 99 = .ok (.iload 8, 2) := by decide +kernel
theorem dX0_leastMissOf_101 : decode cX0_leastMissOf 101 = .ok (.iload_n 2, 1) := by decide +kernel
theorem dX0_leastMissOf_102 : decode cX0_leastMissOf 102 = .ok (.if_icmp .ge 14, 3) := by decide +kernel
theorem dX0_leastMissOf_105 : decode cX0_leastMissOf 105 = .ok (.iload 4, 2) := by decide +kernel
theorem dX0_leastMissOf_107 : decode cX0_leastMissOf 107 = .ok (.iload_n 2, 1) := by decide +kernel
theorem dX0_leastMissOf_108 : decode cX0_leastMissOf 108 = .ok (.iload 8, 2) := by decide +kernel
theorem dX0_leastMissOf_110 : decode cX0_leastMissOf 110 = .ok (.isub, 1) := by decide +kernel
theorem dX0_leastMissOf_111 : decode cX0_leastMissOf 111 = .ok (.invokestatic 56, 3) := by decide +kernel
theorem dX0_leastMissOf_114 : decode cX0_leastMissOf 114 = .ok (.istore 4, 2) := by decide +kernel
theorem dX0_leastMissOf_116 : decode cX0_leastMissOf 116 = .ok (.iinc 7 1, 3) := by decide +kernel
theorem dX0_leastMissOf_119 : decode cX0_leastMissOf 119 = .ok (.goto (-64), 3) := by decide +kernel
theorem dX0_leastMissOf_122 : decode cX0_leastMissOf 122 = .ok (.iinc 5 1, 3) := by decide +kernel
theorem dX0_leastMissOf_125 : decode cX0_leastMissOf 125 = .ok (.goto (-117), 3) := by decide +kernel
theorem dX0_leastMissOf_128 : decode cX0_leastMissOf 128 = .ok (.iload 4, 2) := by decide +kernel
theorem dX0_leastMissOf_130 : decode cX0_leastMissOf 130 = .ok (.ireturn, 1) := by decide +kernel
theorem dX1_goesAt_0 : decode cX1_goesAt 0 = .ok (.iload_n 1, 1) := by decide +kernel
theorem dX1_goesAt_1 : decode cX1_goesAt 1 = .ok (.sipush 1300, 3) := by decide +kernel
theorem dX1_goesAt_4 : decode cX1_goesAt 4 = .ok (.if_icmp .ge 7, 3) := by decide +kernel
theorem dX1_goesAt_7 : decode cX1_goesAt 7 = .ok (.iconst 1, 1) := by decide +kernel
theorem dX1_goesAt_8 : decode cX1_goesAt 8 = .ok (.goto 4, 3) := by decide +kernel
theorem dX1_goesAt_11 : decode cX1_goesAt 11 = .ok (.iconst 0, 1) := by decide +kernel
theorem dX1_goesAt_12 : decode cX1_goesAt 12 = .ok (.istore_n 2, 1) := by decide +kernel
theorem dX1_goesAt_13 : decode cX1_goesAt 13 = .ok (.iload_n 1, 1) := by decide +kernel
theorem dX1_goesAt_14 : decode cX1_goesAt 14 = .ok (.sipush 300, 3) := by decide +kernel
theorem dX1_goesAt_17 : decode cX1_goesAt 17 = .ok (.if_icmp .lt 10, 3) := by decide +kernel
theorem dX1_goesAt_20 : decode cX1_goesAt 20 = .ok (.iload_n 1, 1) := by decide +kernel
theorem dX1_goesAt_21 : decode cX1_goesAt 21 = .ok (.sipush 1200, 3) := by decide +kernel
theorem dX1_goesAt_24 : decode cX1_goesAt 24 = .ok (.if_icmp .lt 7, 3) := by decide +kernel
theorem dX1_goesAt_27 : decode cX1_goesAt 27 = .ok (.iconst 1, 1) := by decide +kernel
theorem dX1_goesAt_28 : decode cX1_goesAt 28 = .ok (.goto 4, 3) := by decide +kernel
theorem dX1_goesAt_31 : decode cX1_goesAt 31 = .ok (.iconst 0, 1) := by decide +kernel
theorem dX1_goesAt_32 : decode cX1_goesAt 32 = .ok (.istore_n 3, 1) := by decide +kernel
theorem dX1_goesAt_33 : decode cX1_goesAt 33 = .ok (.iload_n 3, 1) := by decide +kernel
theorem dX1_goesAt_34 : decode cX1_goesAt 34 = .ok (.ifCond .ne 10, 3) := by decide +kernel
theorem dX1_goesAt_37 : decode cX1_goesAt 37 = .ok (.iload_n 1, 1) := by decide +kernel
theorem dX1_goesAt_38 : decode cX1_goesAt 38 = .ok (.bipush 60, 2) := by decide +kernel
theorem dX1_goesAt_40 : decode cX1_goesAt 40 = .ok (.irem, 1) := by decide +kernel
theorem dX1_goesAt_41 : decode cX1_goesAt 41 = .ok (.ifCond .ne 7, 3) := by decide +kernel
theorem dX1_goesAt_44 : decode cX1_goesAt 44 = .ok (.iconst 1, 1) := by decide +kernel
theorem dX1_goesAt_45 : decode cX1_goesAt 45 = .ok (.goto 4, 3) := by decide +kernel
theorem dX1_goesAt_48 : decode cX1_goesAt 48 = .ok (.iconst 0, 1) := by decide +kernel
theorem dX1_goesAt_49 : decode cX1_goesAt 49 = .ok (.istore 4, 2) := by decide +kernel
theorem dX1_goesAt_51 : decode cX1_goesAt 51 = .ok (.iload_n 0, 1) := by decide +kernel
theorem dX1_goesAt_52 : decode cX1_goesAt 52 = .ok (.tableswitch 63 1 5 #[36, 38, 40, 43, 60], 36) := by decide +kernel
theorem dX1_goesAt_88 : decode cX1_goesAt 88 = .ok (.iload_n 2, 1) := by decide +kernel
theorem dX1_goesAt_89 : decode cX1_goesAt 89 = .ok (.ireturn, 1) := by decide +kernel
theorem dX1_goesAt_90 : decode cX1_goesAt 90 = .ok (.iload_n 3, 1) := by decide +kernel
theorem dX1_goesAt_91 : decode cX1_goesAt 91 = .ok (.ireturn, 1) := by decide +kernel
theorem dX1_goesAt_92 : decode cX1_goesAt 92 = .ok (.iload 4, 2) := by decide +kernel
theorem dX1_goesAt_94 : decode cX1_goesAt 94 = .ok (.ireturn, 1) := by decide +kernel
theorem dX1_goesAt_95 : decode cX1_goesAt 95 = .ok (.iload_n 2, 1) := by decide +kernel
theorem dX1_goesAt_96 : decode cX1_goesAt 96 = .ok (.ifCond .eq 14, 3) := by decide +kernel
theorem dX1_goesAt_99 : decode cX1_goesAt 99 = .ok (.iload_n 1, 1) := by decide +kernel
theorem dX1_goesAt_100 : decode cX1_goesAt 100 = .ok (.sipush 400, 3) := by decide +kernel
theorem dX1_goesAt_103 : decode cX1_goesAt 103 = .ok (.if_icmp .lt 7, 3) := by decide +kernel
theorem dX1_goesAt_106 : decode cX1_goesAt 106 = .ok (.iconst 1, 1) := by decide +kernel
theorem dX1_goesAt_107 : decode cX1_goesAt 107 = .ok (.goto 4, 3) := by decide +kernel
theorem dX1_goesAt_110 : decode cX1_goesAt 110 = .ok (.iconst 0, 1) := by decide +kernel
theorem dX1_goesAt_111 : decode cX1_goesAt 111 = .ok (.ireturn, 1) := by decide +kernel
theorem dX1_goesAt_112 : decode cX1_goesAt 112 = .ok (.iload 4, 2) := by decide +kernel
theorem dX1_goesAt_114 : decode cX1_goesAt 114 = .ok (.ireturn, 1) := by decide +kernel
theorem dX1_goesAt_115 : decode cX1_goesAt 115 = .ok (.iconst 1, 1) := by decide +kernel
theorem dX1_goesAt_116 : decode cX1_goesAt 116 = .ok (.ireturn, 1) := by decide +kernel
theorem dX1_price_0 : decode cX1_price 0 = .ok (.iload_n 1, 1) := by decide +kernel
theorem dX1_price_1 : decode cX1_price 1 = .ok (.iconst 2, 1) := by decide +kernel
theorem dX1_price_2 : decode cX1_price 2 = .ok (.iadd, 1) := by decide +kernel
theorem dX1_price_3 : decode cX1_price 3 = .ok (.istore_n 2, 1) := by decide +kernel
theorem dX1_price_4 : decode cX1_price 4 = .ok (.iload_n 2, 1) := by decide +kernel
theorem dX1_price_5 : decode cX1_price 5 = .ok (.iconst 1, 1) := by decide +kernel
theorem dX1_price_6 : decode cX1_price 6 = .ok (.iadd, 1) := by decide +kernel
theorem dX1_price_7 : decode cX1_price 7 = .ok (.istore_n 3, 1) := by decide +kernel
theorem dX1_price_8 : decode cX1_price 8 = .ok (.iconst 2, 1) := by decide +kernel
theorem dX1_price_9 : decode cX1_price 9 = .ok (.iload_n 2, 1) := by decide +kernel
theorem dX1_price_10 : decode cX1_price 10 = .ok (.imul, 1) := by decide +kernel
theorem dX1_price_11 : decode cX1_price 11 = .ok (.istore 4, 2) := by decide +kernel
theorem dX1_price_13 : decode cX1_price 13 = .ok (.iload_n 0, 1) := by decide +kernel
theorem dX1_price_14 : decode cX1_price 14 = .ok (.tableswitch 48 1 5 #[34, 48, 36, 39, 43], 34) := by decide +kernel
theorem dX1_price_48 : decode cX1_price 48 = .ok (.iload_n 3, 1) := by decide +kernel
theorem dX1_price_49 : decode cX1_price 49 = .ok (.ireturn, 1) := by decide +kernel
theorem dX1_price_50 : decode cX1_price 50 = .ok (.iload 4, 2) := by decide +kernel
theorem dX1_price_52 : decode cX1_price 52 = .ok (.ireturn, 1) := by decide +kernel
theorem dX1_price_53 : decode cX1_price 53 = .ok (.iload_n 3, 1) := by decide +kernel
theorem dX1_price_54 : decode cX1_price 54 = .ok (.iconst 5, 1) := by decide +kernel
theorem dX1_price_55 : decode cX1_price 55 = .ok (.iadd, 1) := by decide +kernel
theorem dX1_price_56 : decode cX1_price 56 = .ok (.ireturn, 1) := by decide +kernel
theorem dX1_price_57 : decode cX1_price 57 = .ok (.iload 4, 2) := by decide +kernel
theorem dX1_price_59 : decode cX1_price 59 = .ok (.iconst 3, 1) := by decide +kernel
theorem dX1_price_60 : decode cX1_price 60 = .ok (.isub, 1) := by decide +kernel
theorem dX1_price_61 : decode cX1_price 61 = .ok (.ireturn, 1) := by decide +kernel
theorem dX1_price_62 : decode cX1_price 62 = .ok (.iload_n 2, 1) := by decide +kernel
theorem dX1_price_63 : decode cX1_price 63 = .ok (.ireturn, 1) := by decide +kernel
theorem dX2_init_0 : decode cX2_init 0 = .ok (.aload_n 0, 1) := by decide +kernel
theorem dX2_init_1 : decode cX2_init 1 = .ok (.invokespecial 1, 3) := by decide +kernel
theorem dX2_init_4 : decode cX2_init 4 = .ok (.aload_n 0, 1) := by decide +kernel
theorem dX2_init_5 : decode cX2_init 5 = .ok (.iconst 4, 1) := by decide +kernel
theorem dX2_init_6 : decode cX2_init 6 = .ok (.bipush 20, 2) := by decide +kernel
theorem dX2_init_8 : decode cX2_init 8 = .ok (.multianewarray 9 2, 4) := by decide +kernel
theorem dX2_init_12 : decode cX2_init 12 = .ok (.putfield 11, 3) := by decide +kernel
theorem dX2_init_15 : decode cX2_init 15 = .ok (.aload_n 0, 1) := by decide +kernel
theorem dX2_init_16 : decode cX2_init 16 = .ok (.iconst 4, 1) := by decide +kernel
theorem dX2_init_17 : decode cX2_init 17 = .ok (.newarray .int, 2) := by decide +kernel
theorem dX2_init_19 : decode cX2_init 19 = .ok (.putfield 14, 3) := by decide +kernel
theorem dX2_init_22 : decode cX2_init 22 = .ok (.aload_n 0, 1) := by decide +kernel
theorem dX2_init_23 : decode cX2_init 23 = .ok (.getfield 14, 3) := by decide +kernel
theorem dX2_init_26 : decode cX2_init 26 = .ok (.iconst (-1), 1) := by decide +kernel
theorem dX2_init_27 : decode cX2_init 27 = .ok (.invokestatic 18, 3) := by decide +kernel
theorem dX2_init_30 : decode cX2_init 30 = .ok (.return_, 1) := by decide +kernel
theorem dX2_isList_0 : decode cX2_isList 0 = .ok (.iload_n 0, 1) := by decide +kernel
theorem dX2_isList_1 : decode cX2_isList 1 = .ok (.ifCond .lt 12, 3) := by decide +kernel
theorem dX2_isList_4 : decode cX2_isList 4 = .ok (.iload_n 0, 1) := by decide +kernel
theorem dX2_isList_5 : decode cX2_isList 5 = .ok (.iconst 4, 1) := by decide +kernel
theorem dX2_isList_6 : decode cX2_isList 6 = .ok (.if_icmp .ge 7, 3) := by decide +kernel
theorem dX2_isList_9 : decode cX2_isList 9 = .ok (.iconst 1, 1) := by decide +kernel
theorem dX2_isList_10 : decode cX2_isList 10 = .ok (.goto 4, 3) := by decide +kernel
theorem dX2_isList_13 : decode cX2_isList 13 = .ok (.iconst 0, 1) := by decide +kernel
theorem dX2_isList_14 : decode cX2_isList 14 = .ok (.ireturn, 1) := by decide +kernel
theorem dX2_isHeld_0 : decode cX2_isHeld 0 = .ok (.iload_n 1, 1) := by decide +kernel
theorem dX2_isHeld_1 : decode cX2_isHeld 1 = .ok (.invokestatic 24, 3) := by decide +kernel
theorem dX2_isHeld_4 : decode cX2_isHeld 4 = .ok (.ifCond .eq 17, 3) := by decide +kernel
theorem dX2_isHeld_7 : decode cX2_isHeld 7 = .ok (.aload_n 0, 1) := by decide +kernel
theorem dX2_isHeld_8 : decode cX2_isHeld 8 = .ok (.getfield 14, 3) := by decide +kernel
theorem dX2_isHeld_11 : decode cX2_isHeld 11 = .ok (.iload_n 1, 1) := by decide +kernel
theorem dX2_isHeld_12 : decode cX2_isHeld 12 = .ok (.iaload, 1) := by decide +kernel
theorem dX2_isHeld_13 : decode cX2_isHeld 13 = .ok (.iconst (-1), 1) := by decide +kernel
theorem dX2_isHeld_14 : decode cX2_isHeld 14 = .ok (.if_icmp .eq 7, 3) := by decide +kernel
theorem dX2_isHeld_17 : decode cX2_isHeld 17 = .ok (.iconst 1, 1) := by decide +kernel
theorem dX2_isHeld_18 : decode cX2_isHeld 18 = .ok (.goto 4, 3) := by decide +kernel
theorem dX2_isHeld_21 : decode cX2_isHeld 21 = .ok (.iconst 0, 1) := by decide +kernel
theorem dX2_isHeld_22 : decode cX2_isHeld 22 = .ok (.ireturn, 1) := by decide +kernel
theorem dX2_hasPlace_0 : decode cX2_hasPlace 0 = .ok (.iload_n 1, 1) := by decide +kernel
theorem dX2_hasPlace_1 : decode cX2_hasPlace 1 = .ok (.invokestatic 24, 3) := by decide +kernel
theorem dX2_hasPlace_4 : decode cX2_hasPlace 4 = .ok (.ifCond .eq 21, 3) := by decide +kernel
theorem dX2_hasPlace_7 : decode cX2_hasPlace 7 = .ok (.iload_n 2, 1) := by decide +kernel
theorem dX2_hasPlace_8 : decode cX2_hasPlace 8 = .ok (.ifCond .lt 17, 3) := by decide +kernel
theorem dX2_hasPlace_11 : decode cX2_hasPlace 11 = .ok (.iload_n 2, 1) := by decide +kernel
theorem dX2_hasPlace_12 : decode cX2_hasPlace 12 = .ok (.aload_n 0, 1) := by decide +kernel
theorem dX2_hasPlace_13 : decode cX2_hasPlace 13 = .ok (.getfield 14, 3) := by decide +kernel
theorem dX2_hasPlace_16 : decode cX2_hasPlace 16 = .ok (.iload_n 1, 1) := by decide +kernel
theorem dX2_hasPlace_17 : decode cX2_hasPlace 17 = .ok (.iaload, 1) := by decide +kernel
theorem dX2_hasPlace_18 : decode cX2_hasPlace 18 = .ok (.if_icmp .ge 7, 3) := by decide +kernel
theorem dX2_hasPlace_21 : decode cX2_hasPlace 21 = .ok (.iconst 1, 1) := by decide +kernel
theorem dX2_hasPlace_22 : decode cX2_hasPlace 22 = .ok (.goto 4, 3) := by decide +kernel
theorem dX2_hasPlace_25 : decode cX2_hasPlace 25 = .ok (.iconst 0, 1) := by decide +kernel
theorem dX2_hasPlace_26 : decode cX2_hasPlace 26 = .ok (.ireturn, 1) := by decide +kernel
theorem dX2_hasPlaceBehind_0 : decode cX2_hasPlaceBehind 0 = .ok (.aload_n 0, 1) := by decide +kernel
theorem dX2_hasPlaceBehind_1 : decode cX2_hasPlaceBehind 1 = .ok (.iload_n 1, 1) := by decide +kernel
theorem dX2_hasPlaceBehind_2 : decode cX2_hasPlaceBehind 2 = .ok (.iload_n 2, 1) := by decide +kernel
theorem dX2_hasPlaceBehind_3 : decode cX2_hasPlaceBehind 3 = .ok (.invokevirtual 28, 3) := by decide +kernel
theorem dX2_hasPlaceBehind_6 : decode cX2_hasPlaceBehind 6 = .ok (.ifCond .eq 19, 3) := by decide +kernel
theorem dX2_hasPlaceBehind_9 : decode cX2_hasPlaceBehind 9 = .ok (.iload_n 3, 1) := by decide +kernel
theorem dX2_hasPlaceBehind_10 : decode cX2_hasPlaceBehind 10 = .ok (.aload_n 0, 1) := by decide +kernel
theorem dX2_hasPlaceBehind_11 : decode cX2_hasPlaceBehind 11 = .ok (.getfield 14, 3) := by decide +kernel
theorem dX2_hasPlaceBehind_14 : decode cX2_hasPlaceBehind 14 = .ok (.iload_n 1, 1) := by decide +kernel
theorem dX2_hasPlaceBehind_15 : decode cX2_hasPlaceBehind 15 = .ok (.iaload, 1) := by decide +kernel
theorem dX2_hasPlaceBehind_16 : decode cX2_hasPlaceBehind 16 = .ok (.iload_n 2, 1) := by decide +kernel
theorem dX2_hasPlaceBehind_17 : decode cX2_hasPlaceBehind 17 = .ok (.isub, 1) := by decide +kernel
theorem dX2_hasPlaceBehind_18 : decode cX2_hasPlaceBehind 18 = .ok (.if_icmp .ge 7, 3) := by decide +kernel
theorem dX2_hasPlaceBehind_21 : decode cX2_hasPlaceBehind 21 = .ok (.iconst 1, 1) := by decide +kernel
theorem dX2_hasPlaceBehind_22 : decode cX2_hasPlaceBehind 22 = .ok (.goto 4, 3) := by decide +kernel
theorem dX2_hasPlaceBehind_25 : decode cX2_hasPlaceBehind 25 = .ok (.iconst 0, 1) := by decide +kernel
theorem dX2_hasPlaceBehind_26 : decode cX2_hasPlaceBehind 26 = .ok (.ireturn, 1) := by decide +kernel
theorem dX2_begin_0 : decode cX2_begin 0 = .ok (.aload_n 0, 1) := by decide +kernel
theorem dX2_begin_1 : decode cX2_begin 1 = .ok (.getfield 11, 3) := by decide +kernel
theorem dX2_begin_4 : decode cX2_begin 4 = .ok (.iload_n 1, 1) := by decide +kernel
theorem dX2_begin_5 : decode cX2_begin 5 = .ok (.aaload, 1) := by decide +kernel
theorem dX2_begin_6 : decode cX2_begin 6 = .ok (.iconst 0, 1) := by decide +kernel
theorem dX2_begin_7 : decode cX2_begin 7 = .ok (.invokestatic 18, 3) := by decide +kernel
theorem dX2_begin_10 : decode cX2_begin 10 = .ok (.aload_n 0, 1) := by decide +kernel
theorem dX2_begin_11 : decode cX2_begin 11 = .ok (.getfield 14, 3) := by decide +kernel
theorem dX2_begin_14 : decode cX2_begin 14 = .ok (.iload_n 1, 1) := by decide +kernel
theorem dX2_begin_15 : decode cX2_begin 15 = .ok (.iload_n 2, 1) := by decide +kernel
theorem dX2_begin_16 : decode cX2_begin 16 = .ok (.iastore, 1) := by decide +kernel
theorem dX2_begin_17 : decode cX2_begin 17 = .ok (.return_, 1) := by decide +kernel
theorem dX3_init_0 : decode cX3_init 0 = .ok (.aload_n 0, 1) := by decide +kernel
theorem dX3_init_1 : decode cX3_init 1 = .ok (.invokespecial 3, 3) := by decide +kernel
theorem dX3_init_4 : decode cX3_init 4 = .ok (.aload_n 0, 1) := by decide +kernel
theorem dX3_init_5 : decode cX3_init 5 = .ok (.iconst 0, 1) := by decide +kernel
theorem dX3_init_6 : decode cX3_init 6 = .ok (.putfield 9, 3) := by decide +kernel
theorem dX3_init_9 : decode cX3_init 9 = .ok (.aload_n 0, 1) := by decide +kernel
theorem dX3_init_10 : decode cX3_init 10 = .ok (.bipush 8, 2) := by decide +kernel
theorem dX3_init_12 : decode cX3_init 12 = .ok (.newarray .int, 2) := by decide +kernel
theorem dX3_init_14 : decode cX3_init 14 = .ok (.putfield 15, 3) := by decide +kernel
theorem dX3_init_17 : decode cX3_init 17 = .ok (.aload_n 0, 1) := by decide +kernel
theorem dX3_init_18 : decode cX3_init 18 = .ok (.bipush 8, 2) := by decide +kernel
theorem dX3_init_20 : decode cX3_init 20 = .ok (.newarray .int, 2) := by decide +kernel
theorem dX3_init_22 : decode cX3_init 22 = .ok (.putfield 19, 3) := by decide +kernel
theorem dX3_init_25 : decode cX3_init 25 = .ok (.aload_n 0, 1) := by decide +kernel
theorem dX3_init_26 : decode cX3_init 26 = .ok (.bipush 8, 2) := by decide +kernel
theorem dX3_init_28 : decode cX3_init 28 = .ok (.newarray .int, 2) := by decide +kernel
theorem dX3_init_30 : decode cX3_init 30 = .ok (.putfield 22, 3) := by decide +kernel
theorem dX3_init_33 : decode cX3_init 33 = .ok (.aload_n 0, 1) := by decide +kernel
theorem dX3_init_34 : decode cX3_init 34 = .ok (.bipush 8, 2) := by decide +kernel
theorem dX3_init_36 : decode cX3_init 36 = .ok (.bipush 6, 2) := by decide +kernel
theorem dX3_init_38 : decode cX3_init 38 = .ok (.multianewarray 25 2, 4) := by decide +kernel
theorem dX3_init_42 : decode cX3_init 42 = .ok (.putfield 27, 3) := by decide +kernel
theorem dX3_init_45 : decode cX3_init 45 = .ok (.aload_n 0, 1) := by decide +kernel
theorem dX3_init_46 : decode cX3_init 46 = .ok (.bipush 48, 2) := by decide +kernel
theorem dX3_init_48 : decode cX3_init 48 = .ok (.bipush 6, 2) := by decide +kernel
theorem dX3_init_50 : decode cX3_init 50 = .ok (.multianewarray 25 2, 4) := by decide +kernel
theorem dX3_init_54 : decode cX3_init 54 = .ok (.putfield 30, 3) := by decide +kernel
theorem dX3_init_57 : decode cX3_init 57 = .ok (.aload_n 0, 1) := by decide +kernel
theorem dX3_init_58 : decode cX3_init 58 = .ok (.bipush 48, 2) := by decide +kernel
theorem dX3_init_60 : decode cX3_init 60 = .ok (.newarray .int, 2) := by decide +kernel
theorem dX3_init_62 : decode cX3_init 62 = .ok (.putfield 33, 3) := by decide +kernel
theorem dX3_init_65 : decode cX3_init 65 = .ok (.aload_n 0, 1) := by decide +kernel
theorem dX3_init_66 : decode cX3_init 66 = .ok (.bipush 12, 2) := by decide +kernel
theorem dX3_init_68 : decode cX3_init 68 = .ok (.bipush 12, 2) := by decide +kernel
theorem dX3_init_70 : decode cX3_init 70 = .ok (.multianewarray 25 2, 4) := by decide +kernel
theorem dX3_init_74 : decode cX3_init 74 = .ok (.putfield 36, 3) := by decide +kernel
theorem dX3_init_77 : decode cX3_init 77 = .ok (.return_, 1) := by decide +kernel
theorem dX3_copyFrom_0 : decode cX3_copyFrom 0 = .ok (.aload_n 0, 1) := by decide +kernel
theorem dX3_copyFrom_1 : decode cX3_copyFrom 1 = .ok (.aload_n 1, 1) := by decide +kernel
theorem dX3_copyFrom_2 : decode cX3_copyFrom 2 = .ok (.getfield 9, 3) := by decide +kernel
theorem dX3_copyFrom_5 : decode cX3_copyFrom 5 = .ok (.putfield 9, 3) := by decide +kernel
theorem dX3_copyFrom_8 : decode cX3_copyFrom 8 = .ok (.aload_n 1, 1) := by decide +kernel
theorem dX3_copyFrom_9 : decode cX3_copyFrom 9 = .ok (.getfield 15, 3) := by decide +kernel
theorem dX3_copyFrom_12 : decode cX3_copyFrom 12 = .ok (.iconst 0, 1) := by decide +kernel
theorem dX3_copyFrom_13 : decode cX3_copyFrom 13 = .ok (.aload_n 0, 1) := by decide +kernel
theorem dX3_copyFrom_14 : decode cX3_copyFrom 14 = .ok (.getfield 15, 3) := by decide +kernel
theorem dX3_copyFrom_17 : decode cX3_copyFrom 17 = .ok (.iconst 0, 1) := by decide +kernel
theorem dX3_copyFrom_18 : decode cX3_copyFrom 18 = .ok (.bipush 8, 2) := by decide +kernel
theorem dX3_copyFrom_20 : decode cX3_copyFrom 20 = .ok (.invokestatic 39, 3) := by decide +kernel
theorem dX3_copyFrom_23 : decode cX3_copyFrom 23 = .ok (.aload_n 1, 1) := by decide +kernel
theorem dX3_copyFrom_24 : decode cX3_copyFrom 24 = .ok (.getfield 19, 3) := by decide +kernel
theorem dX3_copyFrom_27 : decode cX3_copyFrom 27 = .ok (.iconst 0, 1) := by decide +kernel
theorem dX3_copyFrom_28 : decode cX3_copyFrom 28 = .ok (.aload_n 0, 1) := by decide +kernel
theorem dX3_copyFrom_29 : decode cX3_copyFrom 29 = .ok (.getfield 19, 3) := by decide +kernel
theorem dX3_copyFrom_32 : decode cX3_copyFrom 32 = .ok (.iconst 0, 1) := by decide +kernel
theorem dX3_copyFrom_33 : decode cX3_copyFrom 33 = .ok (.bipush 8, 2) := by decide +kernel
theorem dX3_copyFrom_35 : decode cX3_copyFrom 35 = .ok (.invokestatic 39, 3) := by decide +kernel
theorem dX3_copyFrom_38 : decode cX3_copyFrom 38 = .ok (.aload_n 1, 1) := by decide +kernel
theorem dX3_copyFrom_39 : decode cX3_copyFrom 39 = .ok (.getfield 22, 3) := by decide +kernel
theorem dX3_copyFrom_42 : decode cX3_copyFrom 42 = .ok (.iconst 0, 1) := by decide +kernel
theorem dX3_copyFrom_43 : decode cX3_copyFrom 43 = .ok (.aload_n 0, 1) := by decide +kernel
theorem dX3_copyFrom_44 : decode cX3_copyFrom 44 = .ok (.getfield 22, 3) := by decide +kernel
theorem dX3_copyFrom_47 : decode cX3_copyFrom 47 = .ok (.iconst 0, 1) := by decide +kernel
theorem dX3_copyFrom_48 : decode cX3_copyFrom 48 = .ok (.bipush 8, 2) := by decide +kernel
theorem dX3_copyFrom_50 : decode cX3_copyFrom 50 = .ok (.invokestatic 39, 3) := by decide +kernel
theorem dX3_copyFrom_53 : decode cX3_copyFrom 53 = .ok (.aload_n 1, 1) := by decide +kernel
theorem dX3_copyFrom_54 : decode cX3_copyFrom 54 = .ok (.getfield 33, 3) := by decide +kernel
theorem dX3_copyFrom_57 : decode cX3_copyFrom 57 = .ok (.iconst 0, 1) := by decide +kernel
theorem dX3_copyFrom_58 : decode cX3_copyFrom 58 = .ok (.aload_n 0, 1) := by decide +kernel
theorem dX3_copyFrom_59 : decode cX3_copyFrom 59 = .ok (.getfield 33, 3) := by decide +kernel
theorem dX3_copyFrom_62 : decode cX3_copyFrom 62 = .ok (.iconst 0, 1) := by decide +kernel
theorem dX3_copyFrom_63 : decode cX3_copyFrom 63 = .ok (.bipush 48, 2) := by decide +kernel
theorem dX3_copyFrom_65 : decode cX3_copyFrom 65 = .ok (.invokestatic 39, 3) := by decide +kernel
theorem dX3_copyFrom_68 : decode cX3_copyFrom 68 = .ok (.iconst 0, 1) := by decide +kernel
theorem dX3_copyFrom_69 : decode cX3_copyFrom 69 = .ok (.istore_n 2, 1) := by decide +kernel
theorem dX3_copyFrom_70 : decode cX3_copyFrom 70 = .ok (.iload_n 2, 1) := by decide +kernel
theorem dX3_copyFrom_71 : decode cX3_copyFrom 71 = .ok (.bipush 8, 2) := by decide +kernel
theorem dX3_copyFrom_73 : decode cX3_copyFrom 73 = .ok (.if_icmp .ge 28, 3) := by decide +kernel
theorem dX3_copyFrom_76 : decode cX3_copyFrom 76 = .ok (.aload_n 1, 1) := by decide +kernel
theorem dX3_copyFrom_77 : decode cX3_copyFrom 77 = .ok (.getfield 27, 3) := by decide +kernel
theorem dX3_copyFrom_80 : decode cX3_copyFrom 80 = .ok (.iload_n 2, 1) := by decide +kernel
theorem dX3_copyFrom_81 : decode cX3_copyFrom 81 = .ok (.aaload, 1) := by decide +kernel
theorem dX3_copyFrom_82 : decode cX3_copyFrom 82 = .ok (.iconst 0, 1) := by decide +kernel
theorem dX3_copyFrom_83 : decode cX3_copyFrom 83 = .ok (.aload_n 0, 1) := by decide +kernel
theorem dX3_copyFrom_84 : decode cX3_copyFrom 84 = .ok (.getfield 27, 3) := by decide +kernel
theorem dX3_copyFrom_87 : decode cX3_copyFrom 87 = .ok (.iload_n 2, 1) := by decide +kernel
theorem dX3_copyFrom_88 : decode cX3_copyFrom 88 = .ok (.aaload, 1) := by decide +kernel
theorem dX3_copyFrom_89 : decode cX3_copyFrom 89 = .ok (.iconst 0, 1) := by decide +kernel
theorem dX3_copyFrom_90 : decode cX3_copyFrom 90 = .ok (.bipush 6, 2) := by decide +kernel
theorem dX3_copyFrom_92 : decode cX3_copyFrom 92 = .ok (.invokestatic 39, 3) := by decide +kernel
theorem dX3_copyFrom_95 : decode cX3_copyFrom 95 = .ok (.iinc 2 1, 3) := by decide +kernel
theorem dX3_copyFrom_98 : decode cX3_copyFrom 98 = .ok (.goto (-28), 3) := by decide +kernel
theorem dX3_copyFrom_101 : decode cX3_copyFrom 101 = .ok (.iconst 0, 1) := by decide +kernel
theorem dX3_copyFrom_102 : decode cX3_copyFrom 102 = .ok (.istore_n 2, 1) := by decide +kernel
theorem dX3_copyFrom_103 : decode cX3_copyFrom 103 = .ok (.iload_n 2, 1) := by decide +kernel
theorem dX3_copyFrom_104 : decode cX3_copyFrom 104 = .ok (.bipush 48, 2) := by decide +kernel
theorem dX3_copyFrom_106 : decode cX3_copyFrom 106 = .ok (.if_icmp .ge 28, 3) := by decide +kernel
theorem dX3_copyFrom_109 : decode cX3_copyFrom 109 = .ok (.aload_n 1, 1) := by decide +kernel
theorem dX3_copyFrom_110 : decode cX3_copyFrom 110 = .ok (.getfield 30, 3) := by decide +kernel
theorem dX3_copyFrom_113 : decode cX3_copyFrom 113 = .ok (.iload_n 2, 1) := by decide +kernel
theorem dX3_copyFrom_114 : decode cX3_copyFrom 114 = .ok (.aaload, 1) := by decide +kernel
theorem dX3_copyFrom_115 : decode cX3_copyFrom 115 = .ok (.iconst 0, 1) := by decide +kernel
theorem dX3_copyFrom_116 : decode cX3_copyFrom 116 = .ok (.aload_n 0, 1) := by decide +kernel
theorem dX3_copyFrom_117 : decode cX3_copyFrom 117 = .ok (.getfield 30, 3) := by decide +kernel
theorem dX3_copyFrom_120 : decode cX3_copyFrom 120 = .ok (.iload_n 2, 1) := by decide +kernel
theorem dX3_copyFrom_121 : decode cX3_copyFrom 121 = .ok (.aaload, 1) := by decide +kernel
theorem dX3_copyFrom_122 : decode cX3_copyFrom 122 = .ok (.iconst 0, 1) := by decide +kernel
theorem dX3_copyFrom_123 : decode cX3_copyFrom 123 = .ok (.bipush 6, 2) := by decide +kernel
theorem dX3_copyFrom_125 : decode cX3_copyFrom 125 = .ok (.invokestatic 39, 3) := by decide +kernel
theorem dX3_copyFrom_128 : decode cX3_copyFrom 128 = .ok (.iinc 2 1, 3) := by decide +kernel
theorem dX3_copyFrom_131 : decode cX3_copyFrom 131 = .ok (.goto (-28), 3) := by decide +kernel
theorem dX3_copyFrom_134 : decode cX3_copyFrom 134 = .ok (.iconst 0, 1) := by decide +kernel
theorem dX3_copyFrom_135 : decode cX3_copyFrom 135 = .ok (.istore_n 2, 1) := by decide +kernel
theorem dX3_copyFrom_136 : decode cX3_copyFrom 136 = .ok (.iload_n 2, 1) := by decide +kernel
theorem dX3_copyFrom_137 : decode cX3_copyFrom 137 = .ok (.bipush 12, 2) := by decide +kernel
theorem dX3_copyFrom_139 : decode cX3_copyFrom 139 = .ok (.if_icmp .ge 28, 3) := by decide +kernel
theorem dX3_copyFrom_142 : decode cX3_copyFrom 142 = .ok (.aload_n 1, 1) := by decide +kernel
theorem dX3_copyFrom_143 : decode cX3_copyFrom 143 = .ok (.getfield 36, 3) := by decide +kernel
theorem dX3_copyFrom_146 : decode cX3_copyFrom 146 = .ok (.iload_n 2, 1) := by decide +kernel
theorem dX3_copyFrom_147 : decode cX3_copyFrom 147 = .ok (.aaload, 1) := by decide +kernel
theorem dX3_copyFrom_148 : decode cX3_copyFrom 148 = .ok (.iconst 0, 1) := by decide +kernel
theorem dX3_copyFrom_149 : decode cX3_copyFrom 149 = .ok (.aload_n 0, 1) := by decide +kernel
theorem dX3_copyFrom_150 : decode cX3_copyFrom 150 = .ok (.getfield 36, 3) := by decide +kernel
theorem dX3_copyFrom_153 : decode cX3_copyFrom 153 = .ok (.iload_n 2, 1) := by decide +kernel
theorem dX3_copyFrom_154 : decode cX3_copyFrom 154 = .ok (.aaload, 1) := by decide +kernel
theorem dX3_copyFrom_155 : decode cX3_copyFrom 155 = .ok (.iconst 0, 1) := by decide +kernel
theorem dX3_copyFrom_156 : decode cX3_copyFrom 156 = .ok (.bipush 12, 2) := by decide +kernel
theorem dX3_copyFrom_158 : decode cX3_copyFrom 158 = .ok (.invokestatic 39, 3) := by decide +kernel
theorem dX3_copyFrom_161 : decode cX3_copyFrom 161 = .ok (.iinc 2 1, 3) := by decide +kernel
theorem dX3_copyFrom_164 : decode cX3_copyFrom 164 = .ok (.goto (-28), 3) := by decide +kernel
theorem dX3_copyFrom_167 : decode cX3_copyFrom 167 = .ok (.return_, 1) := by decide +kernel
theorem dX3_hasLine_0 : decode cX3_hasLine 0 = .ok (.iload_n 1, 1) := by decide +kernel
theorem dX3_hasLine_1 : decode cX3_hasLine 1 = .ok (.ifCond .lt 15, 3) := by decide +kernel
theorem dX3_hasLine_4 : decode cX3_hasLine 4 = .ok (.iload_n 1, 1) := by decide +kernel
theorem dX3_hasLine_5 : decode cX3_hasLine 5 = .ok (.aload_n 0, 1) := by decide +kernel
theorem dX3_hasLine_6 : decode cX3_hasLine 6 = .ok (.getfield 9, 3) := by decide +kernel
theorem dX3_hasLine_9 : decode cX3_hasLine 9 = .ok (.if_icmp .ge 7, 3) := by decide +kernel
theorem dX3_hasLine_12 : decode cX3_hasLine 12 = .ok (.iconst 1, 1) := by decide +kernel
theorem dX3_hasLine_13 : decode cX3_hasLine 13 = .ok (.goto 4, 3) := by decide +kernel
theorem dX3_hasLine_16 : decode cX3_hasLine 16 = .ok (.iconst 0, 1) := by decide +kernel
theorem dX3_hasLine_17 : decode cX3_hasLine 17 = .ok (.ireturn, 1) := by decide +kernel
theorem dX3_hasTrip_0 : decode cX3_hasTrip 0 = .ok (.aload_n 0, 1) := by decide +kernel
theorem dX3_hasTrip_1 : decode cX3_hasTrip 1 = .ok (.iload_n 1, 1) := by decide +kernel
theorem dX3_hasTrip_2 : decode cX3_hasTrip 2 = .ok (.invokevirtual 45, 3) := by decide +kernel
theorem dX3_hasTrip_5 : decode cX3_hasTrip 5 = .ok (.ifCond .eq 21, 3) := by decide +kernel
theorem dX3_hasTrip_8 : decode cX3_hasTrip 8 = .ok (.iload_n 2, 1) := by decide +kernel
theorem dX3_hasTrip_9 : decode cX3_hasTrip 9 = .ok (.ifCond .lt 17, 3) := by decide +kernel
theorem dX3_hasTrip_12 : decode cX3_hasTrip 12 = .ok (.iload_n 2, 1) := by decide +kernel
theorem dX3_hasTrip_13 : decode cX3_hasTrip 13 = .ok (.aload_n 0, 1) := by decide +kernel
theorem dX3_hasTrip_14 : decode cX3_hasTrip 14 = .ok (.getfield 22, 3) := by decide +kernel
theorem dX3_hasTrip_17 : decode cX3_hasTrip 17 = .ok (.iload_n 1, 1) := by decide +kernel
theorem dX3_hasTrip_18 : decode cX3_hasTrip 18 = .ok (.iaload, 1) := by decide +kernel
theorem dX3_hasTrip_19 : decode cX3_hasTrip 19 = .ok (.if_icmp .ge 7, 3) := by decide +kernel
theorem dX3_hasTrip_22 : decode cX3_hasTrip 22 = .ok (.iconst 1, 1) := by decide +kernel
theorem dX3_hasTrip_23 : decode cX3_hasTrip 23 = .ok (.goto 4, 3) := by decide +kernel
theorem dX3_hasTrip_26 : decode cX3_hasTrip 26 = .ok (.iconst 0, 1) := by decide +kernel
theorem dX3_hasTrip_27 : decode cX3_hasTrip 27 = .ok (.ireturn, 1) := by decide +kernel
theorem dX3_hasPlace_0 : decode cX3_hasPlace 0 = .ok (.aload_n 0, 1) := by decide +kernel
theorem dX3_hasPlace_1 : decode cX3_hasPlace 1 = .ok (.iload_n 1, 1) := by decide +kernel
theorem dX3_hasPlace_2 : decode cX3_hasPlace 2 = .ok (.invokevirtual 45, 3) := by decide +kernel
theorem dX3_hasPlace_5 : decode cX3_hasPlace 5 = .ok (.ifCond .eq 21, 3) := by decide +kernel
theorem dX3_hasPlace_8 : decode cX3_hasPlace 8 = .ok (.iload_n 2, 1) := by decide +kernel
theorem dX3_hasPlace_9 : decode cX3_hasPlace 9 = .ok (.ifCond .lt 17, 3) := by decide +kernel
theorem dX3_hasPlace_12 : decode cX3_hasPlace 12 = .ok (.iload_n 2, 1) := by decide +kernel
theorem dX3_hasPlace_13 : decode cX3_hasPlace 13 = .ok (.aload_n 0, 1) := by decide +kernel
theorem dX3_hasPlace_14 : decode cX3_hasPlace 14 = .ok (.getfield 19, 3) := by decide +kernel
theorem dX3_hasPlace_17 : decode cX3_hasPlace 17 = .ok (.iload_n 1, 1) := by decide +kernel
theorem dX3_hasPlace_18 : decode cX3_hasPlace 18 = .ok (.iaload, 1) := by decide +kernel
theorem dX3_hasPlace_19 : decode cX3_hasPlace 19 = .ok (.if_icmp .ge 7, 3) := by decide +kernel
theorem dX3_hasPlace_22 : decode cX3_hasPlace 22 = .ok (.iconst 1, 1) := by decide +kernel
theorem dX3_hasPlace_23 : decode cX3_hasPlace 23 = .ok (.goto 4, 3) := by decide +kernel
theorem dX3_hasPlace_26 : decode cX3_hasPlace 26 = .ok (.iconst 0, 1) := by decide +kernel
theorem dX3_hasPlace_27 : decode cX3_hasPlace 27 = .ok (.ireturn, 1) := by decide +kernel
theorem dX3_rowOf_0 : decode cX3_rowOf 0 = .ok (.iload_n 0, 1) := by decide +kernel
theorem dX3_rowOf_1 : decode cX3_rowOf 1 = .ok (.bipush 6, 2) := by decide +kernel
theorem dX3_rowOf_3 : decode cX3_rowOf 3 = .ok (.imul, 1) := by decide +kernel
theorem dX3_rowOf_4 : decode cX3_rowOf 4 = .ok (.iload_n 1, 1) := by decide +kernel
theorem dX3_rowOf_5 : decode cX3_rowOf 5 = .ok (.iadd, 1) := by decide +kernel
theorem dX3_rowOf_6 : decode cX3_rowOf 6 = .ok (.ireturn, 1) := by decide +kernel
theorem dX3_minuteOf_0 : decode cX3_minuteOf 0 = .ok (.aload_n 0, 1) := by decide +kernel
theorem dX3_minuteOf_1 : decode cX3_minuteOf 1 = .ok (.getfield 30, 3) := by decide +kernel
theorem dX3_minuteOf_4 : decode cX3_minuteOf 4 = .ok (.iload_n 1, 1) := by decide +kernel
theorem dX3_minuteOf_5 : decode cX3_minuteOf 5 = .ok (.iload_n 2, 1) := by decide +kernel
theorem dX3_minuteOf_6 : decode cX3_minuteOf 6 = .ok (.invokestatic 49, 3) := by decide +kernel
theorem dX3_minuteOf_9 : decode cX3_minuteOf 9 = .ok (.aaload, 1) := by decide +kernel
theorem dX3_minuteOf_10 : decode cX3_minuteOf 10 = .ok (.iload_n 3, 1) := by decide +kernel
theorem dX3_minuteOf_11 : decode cX3_minuteOf 11 = .ok (.iaload, 1) := by decide +kernel
theorem dX3_minuteOf_12 : decode cX3_minuteOf 12 = .ok (.ireturn, 1) := by decide +kernel
theorem dX3_isRunning_0 : decode cX3_isRunning 0 = .ok (.aload_n 0, 1) := by decide +kernel
theorem dX3_isRunning_1 : decode cX3_isRunning 1 = .ok (.getfield 33, 3) := by decide +kernel
theorem dX3_isRunning_4 : decode cX3_isRunning 4 = .ok (.iload_n 1, 1) := by decide +kernel
theorem dX3_isRunning_5 : decode cX3_isRunning 5 = .ok (.iload_n 2, 1) := by decide +kernel
theorem dX3_isRunning_6 : decode cX3_isRunning 6 = .ok (.invokestatic 49, 3) := by decide +kernel
theorem dX3_isRunning_9 : decode cX3_isRunning 9 = .ok (.iaload, 1) := by decide +kernel
theorem dX3_isRunning_10 : decode cX3_isRunning 10 = .ok (.iconst 1, 1) := by decide +kernel
theorem dX3_isRunning_11 : decode cX3_isRunning 11 = .ok (.if_icmp .ne 7, 3) := by decide +kernel
theorem dX3_isRunning_14 : decode cX3_isRunning 14 = .ok (.iconst 1, 1) := by decide +kernel
theorem dX3_isRunning_15 : decode cX3_isRunning 15 = .ok (.goto 4, 3) := by decide +kernel
theorem dX3_isRunning_18 : decode cX3_isRunning 18 = .ok (.iconst 0, 1) := by decide +kernel
theorem dX3_isRunning_19 : decode cX3_isRunning 19 = .ok (.ireturn, 1) := by decide +kernel
theorem dX3_placeOf_0 : decode cX3_placeOf 0 = .ok (.iconst 0, 1) := by decide +kernel
theorem dX3_placeOf_1 : decode cX3_placeOf 1 = .ok (.istore_n 3, 1) := by decide +kernel
theorem dX3_placeOf_2 : decode cX3_placeOf 2 = .ok (.iload_n 3, 1) := by decide +kernel
theorem dX3_placeOf_3 : decode cX3_placeOf 3 = .ok (.aload_n 0, 1) := by decide +kernel
theorem dX3_placeOf_4 : decode cX3_placeOf 4 = .ok (.getfield 19, 3) := by decide +kernel
theorem dX3_placeOf_7 : decode cX3_placeOf 7 = .ok (.iload_n 1, 1) := by decide +kernel
theorem dX3_placeOf_8 : decode cX3_placeOf 8 = .ok (.iaload, 1) := by decide +kernel
theorem dX3_placeOf_9 : decode cX3_placeOf 9 = .ok (.if_icmp .ge 23, 3) := by decide +kernel
theorem dX3_placeOf_12 : decode cX3_placeOf 12 = .ok (.aload_n 0, 1) := by decide +kernel
theorem dX3_placeOf_13 : decode cX3_placeOf 13 = .ok (.getfield 27, 3) := by decide +kernel
theorem dX3_placeOf_16 : decode cX3_placeOf 16 = .ok (.iload_n 1, 1) := by decide +kernel
theorem dX3_placeOf_17 : decode cX3_placeOf 17 = .ok (.aaload, 1) := by decide +kernel
theorem dX3_placeOf_18 : decode cX3_placeOf 18 = .ok (.iload_n 3, 1) := by decide +kernel
theorem dX3_placeOf_19 : decode cX3_placeOf 19 = .ok (.iaload, 1) := by decide +kernel
theorem dX3_placeOf_20 : decode cX3_placeOf 20 = .ok (.iload_n 2, 1) := by decide +kernel
theorem dX3_placeOf_21 : decode cX3_placeOf 21 = .ok (.if_icmp .ne 5, 3) := by decide +kernel
theorem dX3_placeOf_24 : decode cX3_placeOf 24 = .ok (.iload_n 3, 1) := by decide +kernel
theorem dX3_placeOf_25 : decode cX3_placeOf 25 = .ok (.ireturn, 1) := by decide +kernel
theorem dX3_placeOf_26 : decode cX3_placeOf 26 = .ok (.iinc 3 1, 3) := by decide +kernel
theorem dX3_placeOf_29 : decode cX3_placeOf 29 = .ok (.goto (-27), 3) := by decide +kernel
theorem dX3_placeOf_32 : decode cX3_placeOf 32 = .ok (.iconst (-1), 1) := by decide +kernel
theorem dX3_placeOf_33 : decode cX3_placeOf 33 = .ok (.ireturn, 1) := by decide +kernel
theorem dX3_beginLine_0 : decode cX3_beginLine 0 = .ok (.aload_n 0, 1) := by decide +kernel
theorem dX3_beginLine_1 : decode cX3_beginLine 1 = .ok (.getfield 15, 3) := by decide +kernel
theorem dX3_beginLine_4 : decode cX3_beginLine 4 = .ok (.aload_n 0, 1) := by decide +kernel
theorem dX3_beginLine_5 : decode cX3_beginLine 5 = .ok (.getfield 9, 3) := by decide +kernel
theorem dX3_beginLine_8 : decode cX3_beginLine 8 = .ok (.iload_n 1, 1) := by decide +kernel
theorem dX3_beginLine_9 : decode cX3_beginLine 9 = .ok (.iastore, 1) := by decide +kernel
theorem dX3_beginLine_10 : decode cX3_beginLine 10 = .ok (.aload_n 0, 1) := by decide +kernel
theorem dX3_beginLine_11 : decode cX3_beginLine 11 = .ok (.getfield 19, 3) := by decide +kernel
theorem dX3_beginLine_14 : decode cX3_beginLine 14 = .ok (.aload_n 0, 1) := by decide +kernel
theorem dX3_beginLine_15 : decode cX3_beginLine 15 = .ok (.getfield 9, 3) := by decide +kernel
theorem dX3_beginLine_18 : decode cX3_beginLine 18 = .ok (.iconst 0, 1) := by decide +kernel
theorem dX3_beginLine_19 : decode cX3_beginLine 19 = .ok (.iastore, 1) := by decide +kernel
theorem dX3_beginLine_20 : decode cX3_beginLine 20 = .ok (.aload_n 0, 1) := by decide +kernel
theorem dX3_beginLine_21 : decode cX3_beginLine 21 = .ok (.getfield 22, 3) := by decide +kernel
theorem dX3_beginLine_24 : decode cX3_beginLine 24 = .ok (.aload_n 0, 1) := by decide +kernel
theorem dX3_beginLine_25 : decode cX3_beginLine 25 = .ok (.getfield 9, 3) := by decide +kernel
theorem dX3_beginLine_28 : decode cX3_beginLine 28 = .ok (.iconst 0, 1) := by decide +kernel
theorem dX3_beginLine_29 : decode cX3_beginLine 29 = .ok (.iastore, 1) := by decide +kernel
theorem dX3_beginLine_30 : decode cX3_beginLine 30 = .ok (.aload_n 0, 1) := by decide +kernel
theorem dX3_beginLine_31 : decode cX3_beginLine 31 = .ok (.dup, 1) := by decide +kernel
theorem dX3_beginLine_32 : decode cX3_beginLine 32 = .ok (.getfield 9, 3) := by decide +kernel
theorem dX3_beginLine_35 : decode cX3_beginLine 35 = .ok (.iconst 1, 1) := by decide +kernel
theorem dX3_beginLine_36 : decode cX3_beginLine 36 = .ok (.iadd, 1) := by decide +kernel
theorem dX3_beginLine_37 : decode cX3_beginLine 37 = .ok (.putfield 9, 3) := by decide +kernel
theorem dX3_beginLine_40 : decode cX3_beginLine 40 = .ok (.return_, 1) := by decide +kernel
theorem dX3_addStop_0 : decode cX3_addStop 0 = .ok (.aload_n 0, 1) := by decide +kernel
theorem dX3_addStop_1 : decode cX3_addStop 1 = .ok (.getfield 27, 3) := by decide +kernel
theorem dX3_addStop_4 : decode cX3_addStop 4 = .ok (.iload_n 1, 1) := by decide +kernel
theorem dX3_addStop_5 : decode cX3_addStop 5 = .ok (.aaload, 1) := by decide +kernel
theorem dX3_addStop_6 : decode cX3_addStop 6 = .ok (.aload_n 0, 1) := by decide +kernel
theorem dX3_addStop_7 : decode cX3_addStop 7 = .ok (.getfield 19, 3) := by decide +kernel
theorem dX3_addStop_10 : decode cX3_addStop 10 = .ok (.iload_n 1, 1) := by decide +kernel
theorem dX3_addStop_11 : decode cX3_addStop 11 = .ok (.iaload, 1) := by decide +kernel
theorem dX3_addStop_12 : decode cX3_addStop 12 = .ok (.iload_n 2, 1) := by decide +kernel
theorem dX3_addStop_13 : decode cX3_addStop 13 = .ok (.iastore, 1) := by decide +kernel
theorem dX3_addStop_14 : decode cX3_addStop 14 = .ok (.aload_n 0, 1) := by decide +kernel
theorem dX3_addStop_15 : decode cX3_addStop 15 = .ok (.getfield 19, 3) := by decide +kernel
theorem dX3_addStop_18 : decode cX3_addStop 18 = .ok (.iload_n 1, 1) := by decide +kernel
theorem dX3_addStop_19 : decode cX3_addStop 19 = .ok (.dup2, 1) := by decide +kernel
theorem dX3_addStop_20 : decode cX3_addStop 20 = .ok (.iaload, 1) := by decide +kernel
theorem dX3_addStop_21 : decode cX3_addStop 21 = .ok (.iconst 1, 1) := by decide +kernel
theorem dX3_addStop_22 : decode cX3_addStop 22 = .ok (.iadd, 1) := by decide +kernel
theorem dX3_addStop_23 : decode cX3_addStop 23 = .ok (.iastore, 1) := by decide +kernel
theorem dX3_addStop_24 : decode cX3_addStop 24 = .ok (.return_, 1) := by decide +kernel
theorem dX3_beginTrip_0 : decode cX3_beginTrip 0 = .ok (.iload_n 1, 1) := by decide +kernel
theorem dX3_beginTrip_1 : decode cX3_beginTrip 1 = .ok (.aload_n 0, 1) := by decide +kernel
theorem dX3_beginTrip_2 : decode cX3_beginTrip 2 = .ok (.getfield 22, 3) := by decide +kernel
theorem dX3_beginTrip_5 : decode cX3_beginTrip 5 = .ok (.iload_n 1, 1) := by decide +kernel
theorem dX3_beginTrip_6 : decode cX3_beginTrip 6 = .ok (.iaload, 1) := by decide +kernel
theorem dX3_beginTrip_7 : decode cX3_beginTrip 7 = .ok (.invokestatic 49, 3) := by decide +kernel
theorem dX3_beginTrip_10 : decode cX3_beginTrip 10 = .ok (.istore_n 3, 1) := by decide +kernel
theorem dX3_beginTrip_11 : decode cX3_beginTrip 11 = .ok (.aload_n 0, 1) := by decide +kernel
theorem dX3_beginTrip_12 : decode cX3_beginTrip 12 = .ok (.getfield 30, 3) := by decide +kernel
theorem dX3_beginTrip_15 : decode cX3_beginTrip 15 = .ok (.iload_n 3, 1) := by decide +kernel
theorem dX3_beginTrip_16 : decode cX3_beginTrip 16 = .ok (.aaload, 1) := by decide +kernel
theorem dX3_beginTrip_17 : decode cX3_beginTrip 17 = .ok (.iconst 0, 1) := by decide +kernel
theorem dX3_beginTrip_18 : decode cX3_beginTrip 18 = .ok (.iload_n 2, 1) := by decide +kernel
theorem dX3_beginTrip_19 : decode cX3_beginTrip 19 = .ok (.iastore, 1) := by decide +kernel
theorem dX3_beginTrip_20 : decode cX3_beginTrip 20 = .ok (.aload_n 0, 1) := by decide +kernel
theorem dX3_beginTrip_21 : decode cX3_beginTrip 21 = .ok (.getfield 33, 3) := by decide +kernel
theorem dX3_beginTrip_24 : decode cX3_beginTrip 24 = .ok (.iload_n 3, 1) := by decide +kernel
theorem dX3_beginTrip_25 : decode cX3_beginTrip 25 = .ok (.aload_n 0, 1) := by decide +kernel
theorem dX3_beginTrip_26 : decode cX3_beginTrip 26 = .ok (.getfield 15, 3) := by decide +kernel
theorem dX3_beginTrip_29 : decode cX3_beginTrip 29 = .ok (.iload_n 1, 1) := by decide +kernel
theorem dX3_beginTrip_30 : decode cX3_beginTrip 30 = .ok (.iaload, 1) := by decide +kernel
theorem dX3_beginTrip_31 : decode cX3_beginTrip 31 = .ok (.iload_n 2, 1) := by decide +kernel
theorem dX3_beginTrip_32 : decode cX3_beginTrip 32 = .ok (.invokestatic 53, 3) := by decide +kernel
theorem dX3_beginTrip_35 : decode cX3_beginTrip 35 = .ok (.ifCond .eq 7, 3) := by decide +kernel
theorem dX3_beginTrip_38 : decode cX3_beginTrip 38 = .ok (.iconst 1, 1) := by decide +kernel
theorem dX3_beginTrip_39 : decode cX3_beginTrip 39 = .ok (.goto 4, 3) := by decide +kernel
theorem dX3_beginTrip_42 : decode cX3_beginTrip 42 = .ok (.iconst 0, 1) := by decide +kernel
theorem dX3_beginTrip_43 : decode cX3_beginTrip 43 = .ok (.iastore, 1) := by decide +kernel
theorem dX3_beginTrip_44 : decode cX3_beginTrip 44 = .ok (.aload_n 0, 1) := by decide +kernel
theorem dX3_beginTrip_45 : decode cX3_beginTrip 45 = .ok (.getfield 22, 3) := by decide +kernel
theorem dX3_beginTrip_48 : decode cX3_beginTrip 48 = .ok (.iload_n 1, 1) := by decide +kernel
theorem dX3_beginTrip_49 : decode cX3_beginTrip 49 = .ok (.dup2, 1) := by decide +kernel
theorem dX3_beginTrip_50 : decode cX3_beginTrip 50 = .ok (.iaload, 1) := by decide +kernel
theorem dX3_beginTrip_51 : decode cX3_beginTrip 51 = .ok (.iconst 1, 1) := by decide +kernel
theorem dX3_beginTrip_52 : decode cX3_beginTrip 52 = .ok (.iadd, 1) := by decide +kernel
theorem dX3_beginTrip_53 : decode cX3_beginTrip 53 = .ok (.iastore, 1) := by decide +kernel
theorem dX3_beginTrip_54 : decode cX3_beginTrip 54 = .ok (.return_, 1) := by decide +kernel
theorem dX3_putMinute_0 : decode cX3_putMinute 0 = .ok (.aload_n 0, 1) := by decide +kernel
theorem dX3_putMinute_1 : decode cX3_putMinute 1 = .ok (.getfield 30, 3) := by decide +kernel
theorem dX3_putMinute_4 : decode cX3_putMinute 4 = .ok (.iload_n 1, 1) := by decide +kernel
theorem dX3_putMinute_5 : decode cX3_putMinute 5 = .ok (.iload_n 2, 1) := by decide +kernel
theorem dX3_putMinute_6 : decode cX3_putMinute 6 = .ok (.invokestatic 49, 3) := by decide +kernel
theorem dX3_putMinute_9 : decode cX3_putMinute 9 = .ok (.aaload, 1) := by decide +kernel
theorem dX3_putMinute_10 : decode cX3_putMinute 10 = .ok (.iload_n 3, 1) := by decide +kernel
theorem dX3_putMinute_11 : decode cX3_putMinute 11 = .ok (.iload 4, 2) := by decide +kernel
theorem dX3_putMinute_13 : decode cX3_putMinute 13 = .ok (.iastore, 1) := by decide +kernel
theorem dX3_putMinute_14 : decode cX3_putMinute 14 = .ok (.return_, 1) := by decide +kernel
theorem dX3_putPath_0 : decode cX3_putPath 0 = .ok (.aload_n 0, 1) := by decide +kernel
theorem dX3_putPath_1 : decode cX3_putPath 1 = .ok (.getfield 36, 3) := by decide +kernel
theorem dX3_putPath_4 : decode cX3_putPath 4 = .ok (.iload_n 1, 1) := by decide +kernel
theorem dX3_putPath_5 : decode cX3_putPath 5 = .ok (.aaload, 1) := by decide +kernel
theorem dX3_putPath_6 : decode cX3_putPath 6 = .ok (.iload_n 2, 1) := by decide +kernel
theorem dX3_putPath_7 : decode cX3_putPath 7 = .ok (.iload_n 3, 1) := by decide +kernel
theorem dX3_putPath_8 : decode cX3_putPath 8 = .ok (.iastore, 1) := by decide +kernel
theorem dX3_putPath_9 : decode cX3_putPath 9 = .ok (.aload_n 0, 1) := by decide +kernel
theorem dX3_putPath_10 : decode cX3_putPath 10 = .ok (.getfield 36, 3) := by decide +kernel
theorem dX3_putPath_13 : decode cX3_putPath 13 = .ok (.iload_n 2, 1) := by decide +kernel
theorem dX3_putPath_14 : decode cX3_putPath 14 = .ok (.aaload, 1) := by decide +kernel
theorem dX3_putPath_15 : decode cX3_putPath 15 = .ok (.iload_n 1, 1) := by decide +kernel
theorem dX3_putPath_16 : decode cX3_putPath 16 = .ok (.iload_n 3, 1) := by decide +kernel
theorem dX3_putPath_17 : decode cX3_putPath 17 = .ok (.iastore, 1) := by decide +kernel
theorem dX3_putPath_18 : decode cX3_putPath 18 = .ok (.return_, 1) := by decide +kernel
theorem dX3_putDelay_0 : decode cX3_putDelay 0 = .ok (.aload_n 0, 1) := by decide +kernel
theorem dX3_putDelay_1 : decode cX3_putDelay 1 = .ok (.getfield 30, 3) := by decide +kernel
theorem dX3_putDelay_4 : decode cX3_putDelay 4 = .ok (.iload_n 1, 1) := by decide +kernel
theorem dX3_putDelay_5 : decode cX3_putDelay 5 = .ok (.iload_n 2, 1) := by decide +kernel
theorem dX3_putDelay_6 : decode cX3_putDelay 6 = .ok (.invokestatic 49, 3) := by decide +kernel
theorem dX3_putDelay_9 : decode cX3_putDelay 9 = .ok (.aaload, 1) := by decide +kernel
theorem dX3_putDelay_10 : decode cX3_putDelay 10 = .ok (.astore 5, 2) := by decide +kernel
theorem dX3_putDelay_12 : decode cX3_putDelay 12 = .ok (.aload_n 0, 1) := by decide +kernel
theorem dX3_putDelay_13 : decode cX3_putDelay 13 = .ok (.getfield 19, 3) := by decide +kernel
theorem dX3_putDelay_16 : decode cX3_putDelay 16 = .ok (.iload_n 1, 1) := by decide +kernel
theorem dX3_putDelay_17 : decode cX3_putDelay 17 = .ok (.iaload, 1) := by decide +kernel
theorem dX3_putDelay_18 : decode cX3_putDelay 18 = .ok (.istore 6, 2) := by decide +kernel
theorem dX3_putDelay_20 : decode cX3_putDelay 20 = .ok (.aload 5, 2) := by decide +kernel
theorem dX3_putDelay_22 : decode cX3_putDelay 22 = .ok (.iload 6, 2) := by decide +kernel
theorem dX3_putDelay_24 : decode cX3_putDelay 24 = .ok (.iconst 1, 1) := by decide +kernel
theorem dX3_putDelay_25 : decode cX3_putDelay 25 = .ok (.isub, 1) := by decide +kernel
theorem dX3_putDelay_26 : decode cX3_putDelay 26 = .ok (.iaload, 1) := by decide +kernel
theorem dX3_putDelay_27 : decode cX3_putDelay 27 = .ok (.iload 4, 2) := by decide +kernel
theorem dX3_putDelay_29 : decode cX3_putDelay 29 = .ok (.iadd, 1) := by decide +kernel
theorem dX3_putDelay_30 : decode cX3_putDelay 30 = .ok (.sipush 9000, 3) := by decide +kernel
theorem dX3_putDelay_33 : decode cX3_putDelay 33 = .ok (.if_icmp .le 5, 3) := by decide +kernel
theorem dX3_putDelay_36 : decode cX3_putDelay 36 = .ok (.iconst 0, 1) := by decide +kernel
theorem dX3_putDelay_37 : decode cX3_putDelay 37 = .ok (.ireturn, 1) := by decide +kernel
theorem dX3_putDelay_38 : decode cX3_putDelay 38 = .ok (.iload_n 3, 1) := by decide +kernel
theorem dX3_putDelay_39 : decode cX3_putDelay 39 = .ok (.istore 7, 2) := by decide +kernel
theorem dX3_putDelay_41 : decode cX3_putDelay 41 = .ok (.iload 7, 2) := by decide +kernel
theorem dX3_putDelay_43 : decode cX3_putDelay 43 = .ok (.iload 6, 2) := by decide +kernel
theorem dX3_putDelay_45 : decode cX3_putDelay 45 = .ok (.if_icmp .ge 19, 3) := by decide +kernel
theorem dX3_putDelay_48 : decode cX3_putDelay 48 = .ok (.aload 5, 2) := by decide +kernel
theorem dX3_putDelay_50 : decode cX3_putDelay 50 = .ok (.iload 7, 2) := by decide +kernel
theorem dX3_putDelay_52 : decode cX3_putDelay 52 = .ok (.dup2, 1) := by decide +kernel
theorem dX3_putDelay_53 : decode cX3_putDelay 53 = .ok (.iaload, 1) := by decide +kernel
theorem dX3_putDelay_54 : decode cX3_putDelay 54 = .ok (.iload 4, 2) := by decide +kernel
theorem dX3_putDelay_56 : decode cX3_putDelay 56 = .ok (.iadd, 1) := by decide +kernel
theorem dX3_putDelay_57 : decode cX3_putDelay 57 = .ok (.iastore, 1) := by decide +kernel
theorem dX3_putDelay_58 : decode cX3_putDelay 58 = .ok (.iinc 7 1, 3) := by decide +kernel
theorem dX3_putDelay_61 : decode cX3_putDelay 61 = .ok (.goto (-20), 3) := by decide +kernel
theorem dX3_putDelay_64 : decode cX3_putDelay 64 = .ok (.iconst 1, 1) := by decide +kernel
theorem dX3_putDelay_65 : decode cX3_putDelay 65 = .ok (.ireturn, 1) := by decide +kernel
theorem dX3_countRunning_0 : decode cX3_countRunning 0 = .ok (.iconst 0, 1) := by decide +kernel
theorem dX3_countRunning_1 : decode cX3_countRunning 1 = .ok (.istore_n 2, 1) := by decide +kernel
theorem dX3_countRunning_2 : decode cX3_countRunning 2 = .ok (.iconst 0, 1) := by decide +kernel
theorem dX3_countRunning_3 : decode cX3_countRunning 3 = .ok (.istore_n 3, 1) := by decide +kernel
theorem dX3_countRunning_4 : decode cX3_countRunning 4 = .ok (.iload_n 3, 1) := by decide +kernel
theorem dX3_countRunning_5 : decode cX3_countRunning 5 = .ok (.aload_n 0, 1) := by decide +kernel
theorem dX3_countRunning_6 : decode cX3_countRunning 6 = .ok (.getfield 22, 3) := by decide +kernel
theorem dX3_countRunning_9 : decode cX3_countRunning 9 = .ok (.iload_n 1, 1) := by decide +kernel
theorem dX3_countRunning_10 : decode cX3_countRunning 10 = .ok (.iaload, 1) := by decide +kernel
theorem dX3_countRunning_11 : decode cX3_countRunning 11 = .ok (.if_icmp .ge 21, 3) := by decide +kernel
theorem dX3_countRunning_14 : decode cX3_countRunning 14 = .ok (.aload_n 0, 1) := by decide +kernel
theorem dX3_countRunning_15 : decode cX3_countRunning 15 = .ok (.iload_n 1, 1) := by decide +kernel
theorem dX3_countRunning_16 : decode cX3_countRunning 16 = .ok (.iload_n 3, 1) := by decide +kernel
theorem dX3_countRunning_17 : decode cX3_countRunning 17 = .ok (.invokevirtual 59, 3) := by decide +kernel
theorem dX3_countRunning_20 : decode cX3_countRunning 20 = .ok (.ifCond .eq 6, 3) := by decide +kernel
theorem dX3_countRunning_23 : decode cX3_countRunning 23 = .ok (.iinc 2 1, 3) := by decide +kernel
theorem dX3_countRunning_26 : decode cX3_countRunning 26 = .ok (.iinc 3 1, 3) := by decide +kernel
theorem dX3_countRunning_29 : decode cX3_countRunning 29 = .ok (.goto (-25), 3) := by decide +kernel
theorem dX3_countRunning_32 : decode cX3_countRunning 32 = .ok (.iload_n 2, 1) := by decide +kernel
theorem dX3_countRunning_33 : decode cX3_countRunning 33 = .ok (.ireturn, 1) := by decide +kernel
theorem dX3_countAllRunning_0 : decode cX3_countAllRunning 0 = .ok (.iconst 0, 1) := by decide +kernel
theorem dX3_countAllRunning_1 : decode cX3_countAllRunning 1 = .ok (.istore_n 1, 1) := by decide +kernel
theorem dX3_countAllRunning_2 : decode cX3_countAllRunning 2 = .ok (.iconst 0, 1) := by decide +kernel
theorem dX3_countAllRunning_3 : decode cX3_countAllRunning 3 = .ok (.istore_n 2, 1) := by decide +kernel
theorem dX3_countAllRunning_4 : decode cX3_countAllRunning 4 = .ok (.iload_n 2, 1) := by decide +kernel
theorem dX3_countAllRunning_5 : decode cX3_countAllRunning 5 = .ok (.aload_n 0, 1) := by decide +kernel
theorem dX3_countAllRunning_6 : decode cX3_countAllRunning 6 = .ok (.getfield 9, 3) := by decide +kernel
theorem dX3_countAllRunning_9 : decode cX3_countAllRunning 9 = .ok (.if_icmp .ge 17, 3) := by decide +kernel
theorem dX3_countAllRunning_12 : decode cX3_countAllRunning 12 = .ok (.iload_n 1, 1) := by decide +kernel
theorem dX3_countAllRunning_13 : decode cX3_countAllRunning 13 = .ok (.aload_n 0, 1) := by decide +kernel
theorem dX3_countAllRunning_14 : decode cX3_countAllRunning 14 = .ok (.iload_n 2, 1) := by decide +kernel
theorem dX3_countAllRunning_15 : decode cX3_countAllRunning 15 = .ok (.invokevirtual 62, 3) := by decide +kernel
theorem dX3_countAllRunning_18 : decode cX3_countAllRunning 18 = .ok (.iadd, 1) := by decide +kernel
theorem dX3_countAllRunning_19 : decode cX3_countAllRunning 19 = .ok (.istore_n 1, 1) := by decide +kernel
theorem dX3_countAllRunning_20 : decode cX3_countAllRunning 20 = .ok (.iinc 2 1, 3) := by decide +kernel
theorem dX3_countAllRunning_23 : decode cX3_countAllRunning 23 = .ok (.goto (-19), 3) := by decide +kernel
theorem dX3_countAllRunning_26 : decode cX3_countAllRunning 26 = .ok (.iload_n 1, 1) := by decide +kernel
theorem dX3_countAllRunning_27 : decode cX3_countAllRunning 27 = .ok (.ireturn, 1) := by decide +kernel
theorem dX3_countTrips_0 : decode cX3_countTrips 0 = .ok (.iconst 0, 1) := by decide +kernel
theorem dX3_countTrips_1 : decode cX3_countTrips 1 = .ok (.istore_n 1, 1) := by decide +kernel
theorem dX3_countTrips_2 : decode cX3_countTrips 2 = .ok (.iconst 0, 1) := by decide +kernel
theorem dX3_countTrips_3 : decode cX3_countTrips 3 = .ok (.istore_n 2, 1) := by decide +kernel
theorem dX3_countTrips_4 : decode cX3_countTrips 4 = .ok (.iload_n 2, 1) := by decide +kernel
theorem dX3_countTrips_5 : decode cX3_countTrips 5 = .ok (.aload_n 0, 1) := by decide +kernel
theorem dX3_countTrips_6 : decode cX3_countTrips 6 = .ok (.getfield 9, 3) := by decide +kernel
theorem dX3_countTrips_9 : decode cX3_countTrips 9 = .ok (.if_icmp .ge 18, 3) := by decide +kernel
theorem dX3_countTrips_12 : decode cX3_countTrips 12 = .ok (.iload_n 1, 1) := by decide +kernel
theorem dX3_countTrips_13 : decode cX3_countTrips 13 = .ok (.aload_n 0, 1) := by decide +kernel
theorem dX3_countTrips_14 : decode cX3_countTrips 14 = .ok (.getfield 22, 3) := by decide +kernel
theorem dX3_countTrips_17 : decode cX3_countTrips 17 = .ok (.iload_n 2, 1) := by decide +kernel
theorem dX3_countTrips_18 : decode cX3_countTrips 18 = .ok (.iaload, 1) := by decide +kernel
theorem dX3_countTrips_19 : decode cX3_countTrips 19 = .ok (.iadd, 1) := by decide +kernel
theorem dX3_countTrips_20 : decode cX3_countTrips 20 = .ok (.istore_n 1, 1) := by decide +kernel
theorem dX3_countTrips_21 : decode cX3_countTrips 21 = .ok (.iinc 2 1, 3) := by decide +kernel
theorem dX3_countTrips_24 : decode cX3_countTrips 24 = .ok (.goto (-20), 3) := by decide +kernel
theorem dX3_countTrips_27 : decode cX3_countTrips 27 = .ok (.iload_n 1, 1) := by decide +kernel
theorem dX3_countTrips_28 : decode cX3_countTrips 28 = .ok (.ireturn, 1) := by decide +kernel
theorem dX3_countPaths_0 : decode cX3_countPaths 0 = .ok (.iconst 0, 1) := by decide +kernel
theorem dX3_countPaths_1 : decode cX3_countPaths 1 = .ok (.istore_n 1, 1) := by decide +kernel
theorem dX3_countPaths_2 : decode cX3_countPaths 2 = .ok (.iconst 0, 1) := by decide +kernel
theorem dX3_countPaths_3 : decode cX3_countPaths 3 = .ok (.istore_n 2, 1) := by decide +kernel
theorem dX3_countPaths_4 : decode cX3_countPaths 4 = .ok (.iload_n 2, 1) := by decide +kernel
theorem dX3_countPaths_5 : decode cX3_countPaths 5 = .ok (.bipush 12, 2) := by decide +kernel
theorem dX3_countPaths_7 : decode cX3_countPaths 7 = .ok (.if_icmp .ge 39, 3) := by decide +kernel
theorem dX3_countPaths_10 : decode cX3_countPaths 10 = .ok (.iload_n 2, 1) := by decide +kernel
theorem dX3_countPaths_11 : decode cX3_countPaths 11 = .ok (.iconst 1, 1) := by decide +kernel
theorem dX3_countPaths_12 : decode cX3_countPaths 12 = .ok (.iadd, 1) := by decide +kernel
theorem dX3_countPaths_13 : decode cX3_countPaths 13 = .ok (.istore_n 3, 1) := by decide +kernel
theorem dX3_countPaths_14 : decode cX3_countPaths 14 = .ok (.iload_n 3, 1) := by decide +kernel
theorem dX3_countPaths_15 : decode cX3_countPaths 15 = .ok (.bipush 12, 2) := by decide +kernel
theorem dX3_countPaths_17 : decode cX3_countPaths 17 = .ok (.if_icmp .ge 23, 3) := by decide +kernel
theorem dX3_countPaths_20 : decode cX3_countPaths 20 = .ok (.aload_n 0, 1) := by decide +kernel
theorem dX3_countPaths_21 : decode cX3_countPaths 21 = .ok (.getfield 36, 3) := by decide +kernel
theorem dX3_countPaths_24 : decode cX3_countPaths 24 = .ok (.iload_n 2, 1) := by decide +kernel
theorem dX3_countPaths_25 : decode cX3_countPaths 25 = .ok (.aaload, 1) := by decide +kernel
theorem dX3_countPaths_26 : decode cX3_countPaths 26 = .ok (.iload_n 3, 1) := by decide +kernel
theorem dX3_countPaths_27 : decode cX3_countPaths 27 = .ok (.iaload, 1) := by decide +kernel
theorem dX3_countPaths_28 : decode cX3_countPaths 28 = .ok (.ifCond .eq 6, 3) := by decide +kernel
theorem dX3_countPaths_31 : decode cX3_countPaths 31 = .ok (.iinc 1 1, 3) := by decide +kernel
theorem dX3_countPaths_34 : decode cX3_countPaths 34 = .ok (.iinc 3 1, 3) := by decide +kernel
theorem dX3_countPaths_37 : decode cX3_countPaths 37 = .ok (.goto (-23), 3) := by decide +kernel
theorem dX3_countPaths_40 : decode cX3_countPaths 40 = .ok (.iinc 2 1, 3) := by decide +kernel
theorem dX3_countPaths_43 : decode cX3_countPaths 43 = .ok (.goto (-39), 3) := by decide +kernel
theorem dX3_countPaths_46 : decode cX3_countPaths 46 = .ok (.iload_n 1, 1) := by decide +kernel
theorem dX3_countPaths_47 : decode cX3_countPaths 47 = .ok (.ireturn, 1) := by decide +kernel
theorem dX3_countLoneStops_0 : decode cX3_countLoneStops 0 = .ok (.iconst 0, 1) := by decide +kernel
theorem dX3_countLoneStops_1 : decode cX3_countLoneStops 1 = .ok (.istore_n 1, 1) := by decide +kernel
theorem dX3_countLoneStops_2 : decode cX3_countLoneStops 2 = .ok (.iconst 0, 1) := by decide +kernel
theorem dX3_countLoneStops_3 : decode cX3_countLoneStops 3 = .ok (.istore_n 2, 1) := by decide +kernel
theorem dX3_countLoneStops_4 : decode cX3_countLoneStops 4 = .ok (.iload_n 2, 1) := by decide +kernel
theorem dX3_countLoneStops_5 : decode cX3_countLoneStops 5 = .ok (.bipush 12, 2) := by decide +kernel
theorem dX3_countLoneStops_7 : decode cX3_countLoneStops 7 = .ok (.if_icmp .ge 20, 3) := by decide +kernel
theorem dX3_countLoneStops_10 : decode cX3_countLoneStops 10 = .ok (.aload_n 0, 1) := by decide +kernel
theorem dX3_countLoneStops_11 : decode cX3_countLoneStops 11 = .ok (.iload_n 2, 1) := by decide +kernel
theorem dX3_countLoneStops_12 : decode cX3_countLoneStops 12 = .ok (.invokevirtual 66, 3) := by decide +kernel
theorem dX3_countLoneStops_15 : decode cX3_countLoneStops 15 = .ok (.ifCond .ne 6, 3) := by decide +kernel
theorem dX3_countLoneStops_18 : decode cX3_countLoneStops 18 = .ok (.iinc 1 1, 3) := by decide +kernel
theorem dX3_countLoneStops_21 : decode cX3_countLoneStops 21 = .ok (.iinc 2 1, 3) := by decide +kernel
theorem dX3_countLoneStops_24 : decode cX3_countLoneStops 24 = .ok (.goto (-20), 3) := by decide +kernel
theorem dX3_countLoneStops_27 : decode cX3_countLoneStops 27 = .ok (.iload_n 1, 1) := by decide +kernel
theorem dX3_countLoneStops_28 : decode cX3_countLoneStops 28 = .ok (.ireturn, 1) := by decide +kernel
theorem dX3_isServed_0 : decode cX3_isServed 0 = .ok (.iconst 0, 1) := by decide +kernel
theorem dX3_isServed_1 : decode cX3_isServed 1 = .ok (.istore_n 2, 1) := by decide +kernel
theorem dX3_isServed_2 : decode cX3_isServed 2 = .ok (.iload_n 2, 1) := by decide +kernel
theorem dX3_isServed_3 : decode cX3_isServed 3 = .ok (.aload_n 0, 1) := by decide +kernel
theorem dX3_isServed_4 : decode cX3_isServed 4 = .ok (.getfield 9, 3) := by decide +kernel
theorem dX3_isServed_7 : decode cX3_isServed 7 = .ok (.if_icmp .ge 20, 3) := by decide +kernel
theorem dX3_isServed_10 : decode cX3_isServed 10 = .ok (.aload_n 0, 1) := by decide +kernel
theorem dX3_isServed_11 : decode cX3_isServed 11 = .ok (.iload_n 2, 1) := by decide +kernel
theorem dX3_isServed_12 : decode cX3_isServed 12 = .ok (.iload_n 1, 1) := by decide +kernel
theorem dX3_isServed_13 : decode cX3_isServed 13 = .ok (.invokevirtual 69, 3) := by decide +kernel
theorem dX3_isServed_16 : decode cX3_isServed 16 = .ok (.ifCond .lt 5, 3) := by decide +kernel
theorem dX3_isServed_19 : decode cX3_isServed 19 = .ok (.iconst 1, 1) := by decide +kernel
theorem dX3_isServed_20 : decode cX3_isServed 20 = .ok (.ireturn, 1) := by decide +kernel
theorem dX3_isServed_21 : decode cX3_isServed 21 = .ok (.iinc 2 1, 3) := by decide +kernel
theorem dX3_isServed_24 : decode cX3_isServed 24 = .ok (.goto (-22), 3) := by decide +kernel
theorem dX3_isServed_27 : decode cX3_isServed 27 = .ok (.iconst 0, 1) := by decide +kernel
theorem dX3_isServed_28 : decode cX3_isServed 28 = .ok (.ireturn, 1) := by decide +kernel
theorem dX4_init_0 : decode cX4_init 0 = .ok (.aload_n 0, 1) := by decide +kernel
theorem dX4_init_1 : decode cX4_init 1 = .ok (.invokespecial 3, 3) := by decide +kernel
theorem dX4_init_4 : decode cX4_init 4 = .ok (.aload_n 0, 1) := by decide +kernel
theorem dX4_init_5 : decode cX4_init 5 = .ok (.aload_n 1, 1) := by decide +kernel
theorem dX4_init_6 : decode cX4_init 6 = .ok (.putfield 9, 3) := by decide +kernel
theorem dX4_init_9 : decode cX4_init 9 = .ok (.aload_n 0, 1) := by decide +kernel
theorem dX4_init_10 : decode cX4_init 10 = .ok (.aload_n 2, 1) := by decide +kernel
theorem dX4_init_11 : decode cX4_init 11 = .ok (.putfield 15, 3) := by decide +kernel
theorem dX4_init_14 : decode cX4_init 14 = .ok (.aload_n 0, 1) := by decide +kernel
theorem dX4_init_15 : decode cX4_init 15 = .ok (.iconst 0, 1) := by decide +kernel
theorem dX4_init_16 : decode cX4_init 16 = .ok (.putfield 19, 3) := by decide +kernel
theorem dX4_init_19 : decode cX4_init 19 = .ok (.aload_n 0, 1) := by decide +kernel
theorem dX4_init_20 : decode cX4_init 20 = .ok (.iconst 0, 1) := by decide +kernel
theorem dX4_init_21 : decode cX4_init 21 = .ok (.putfield 23, 3) := by decide +kernel
theorem dX4_init_24 : decode cX4_init 24 = .ok (.aload_n 0, 1) := by decide +kernel
theorem dX4_init_25 : decode cX4_init 25 = .ok (.iconst 0, 1) := by decide +kernel
theorem dX4_init_26 : decode cX4_init 26 = .ok (.putfield 26, 3) := by decide +kernel
theorem dX4_init_29 : decode cX4_init 29 = .ok (.aload_n 0, 1) := by decide +kernel
theorem dX4_init_30 : decode cX4_init 30 = .ok (.iconst 0, 1) := by decide +kernel
theorem dX4_init_31 : decode cX4_init 31 = .ok (.putfield 29, 3) := by decide +kernel
theorem dX4_init_34 : decode cX4_init 34 = .ok (.aload_n 0, 1) := by decide +kernel
theorem dX4_init_35 : decode cX4_init 35 = .ok (.iconst 0, 1) := by decide +kernel
theorem dX4_init_36 : decode cX4_init 36 = .ok (.putfield 32, 3) := by decide +kernel
theorem dX4_init_39 : decode cX4_init 39 = .ok (.return_, 1) := by decide +kernel
theorem dX4_readTable_0 : decode cX4_readTable 0 = .ok (.aload_n 0, 1) := by decide +kernel
theorem dX4_readTable_1 : decode cX4_readTable 1 = .ok (.iconst 0, 1) := by decide +kernel
theorem dX4_readTable_2 : decode cX4_readTable 2 = .ok (.putfield 19, 3) := by decide +kernel
theorem dX4_readTable_5 : decode cX4_readTable 5 = .ok (.iconst 1, 1) := by decide +kernel
theorem dX4_readTable_6 : decode cX4_readTable 6 = .ok (.istore_n 1, 1) := by decide +kernel
theorem dX4_readTable_7 : decode cX4_readTable 7 = .ok (.iload_n 1, 1) := by decide +kernel
theorem dX4_readTable_8 : decode cX4_readTable 8 = .ok (.bipush 80, 2) := by decide +kernel
theorem dX4_readTable_10 : decode cX4_readTable 10 = .ok (.if_icmp .gt 57, 3) := by decide +kernel
theorem dX4_readTable_13 : decode cX4_readTable 13 = .ok (.aload_n 0, 1) := by decide +kernel
theorem dX4_readTable_14 : decode cX4_readTable 14 = .ok (.invokevirtual 35, 3) := by decide +kernel
theorem dX4_readTable_17 : decode cX4_readTable 17 = .ok (.ifCond .ne 11, 3) := by decide +kernel
theorem dX4_readTable_20 : decode cX4_readTable 20 = .ok (.bipush (-100), 2) := by decide +kernel
theorem dX4_readTable_22 : decode cX4_readTable 22 = .ok (.aload_n 0, 1) := by decide +kernel
theorem dX4_readTable_23 : decode cX4_readTable 23 = .ok (.getfield 32, 3) := by decide +kernel
theorem dX4_readTable_26 : decode cX4_readTable 26 = .ok (.isub, 1) := by decide +kernel
theorem dX4_readTable_27 : decode cX4_readTable 27 = .ok (.ireturn, 1) := by decide +kernel
theorem dX4_readTable_28 : decode cX4_readTable 28 = .ok (.aload_n 0, 1) := by decide +kernel
theorem dX4_readTable_29 : decode cX4_readTable 29 = .ok (.getfield 19, 3) := by decide +kernel
theorem dX4_readTable_32 : decode cX4_readTable 32 = .ok (.aload_n 0, 1) := by decide +kernel
theorem dX4_readTable_33 : decode cX4_readTable 33 = .ok (.getfield 15, 3) := by decide +kernel
theorem dX4_readTable_36 : decode cX4_readTable 36 = .ok (.getfield 39, 3) := by decide +kernel
theorem dX4_readTable_39 : decode cX4_readTable 39 = .ok (.if_icmp .lt 5, 3) := by decide +kernel
theorem dX4_readTable_42 : decode cX4_readTable 42 = .ok (.iload_n 1, 1) := by decide +kernel
theorem dX4_readTable_43 : decode cX4_readTable 43 = .ok (.ireturn, 1) := by decide +kernel
theorem dX4_readTable_44 : decode cX4_readTable 44 = .ok (.aload_n 0, 1) := by decide +kernel
theorem dX4_readTable_45 : decode cX4_readTable 45 = .ok (.bipush 59, 2) := by decide +kernel
theorem dX4_readTable_47 : decode cX4_readTable 47 = .ok (.invokevirtual 44, 3) := by decide +kernel
theorem dX4_readTable_50 : decode cX4_readTable 50 = .ok (.ifCond .ne 11, 3) := by decide +kernel
theorem dX4_readTable_53 : decode cX4_readTable 53 = .ok (.bipush (-100), 2) := by decide +kernel
theorem dX4_readTable_55 : decode cX4_readTable 55 = .ok (.aload_n 0, 1) := by decide +kernel
theorem dX4_readTable_56 : decode cX4_readTable 56 = .ok (.getfield 32, 3) := by decide +kernel
theorem dX4_readTable_59 : decode cX4_readTable 59 = .ok (.isub, 1) := by decide +kernel
theorem dX4_readTable_60 : decode cX4_readTable 60 = .ok (.ireturn, 1) := by decide +kernel
theorem dX4_readTable_61 : decode cX4_readTable 61 = .ok (.iinc 1 1, 3) := by decide +kernel
theorem dX4_readTable_64 : decode cX4_readTable 64 = .ok (.goto (-57), 3) := by decide +kernel
theorem dX4_readTable_67 : decode cX4_readTable 67 = .ok (.bipush (-100), 2) := by decide +kernel
theorem dX4_readTable_69 : decode cX4_readTable 69 = .ok (.aload_n 0, 1) := by decide +kernel
theorem dX4_readTable_70 : decode cX4_readTable 70 = .ok (.getfield 19, 3) := by decide +kernel
theorem dX4_readTable_73 : decode cX4_readTable 73 = .ok (.isub, 1) := by decide +kernel
theorem dX4_readTable_74 : decode cX4_readTable 74 = .ok (.ireturn, 1) := by decide +kernel
theorem dX4_failAt_0 : decode cX4_failAt 0 = .ok (.aload_n 0, 1) := by decide +kernel
theorem dX4_failAt_1 : decode cX4_failAt 1 = .ok (.iload_n 1, 1) := by decide +kernel
theorem dX4_failAt_2 : decode cX4_failAt 2 = .ok (.putfield 32, 3) := by decide +kernel
theorem dX4_failAt_5 : decode cX4_failAt 5 = .ok (.iconst 0, 1) := by decide +kernel
theorem dX4_failAt_6 : decode cX4_failAt 6 = .ok (.ireturn, 1) := by decide +kernel
theorem dX4_takeByte_0 : decode cX4_takeByte 0 = .ok (.aload_n 0, 1) := by decide +kernel
theorem dX4_takeByte_1 : decode cX4_takeByte 1 = .ok (.getfield 15, 3) := by decide +kernel
theorem dX4_takeByte_4 : decode cX4_takeByte 4 = .ok (.aload_n 0, 1) := by decide +kernel
theorem dX4_takeByte_5 : decode cX4_takeByte 5 = .ok (.getfield 19, 3) := by decide +kernel
theorem dX4_takeByte_8 : decode cX4_takeByte 8 = .ok (.invokevirtual 48, 3) := by decide +kernel
theorem dX4_takeByte_11 : decode cX4_takeByte 11 = .ok (.iload_n 1, 1) := by decide +kernel
theorem dX4_takeByte_12 : decode cX4_takeByte 12 = .ok (.if_icmp .eq 12, 3) := by decide +kernel
theorem dX4_takeByte_15 : decode cX4_takeByte 15 = .ok (.aload_n 0, 1) := by decide +kernel
theorem dX4_takeByte_16 : decode cX4_takeByte 16 = .ok (.aload_n 0, 1) := by decide +kernel
theorem dX4_takeByte_17 : decode cX4_takeByte 17 = .ok (.getfield 19, 3) := by decide +kernel
theorem dX4_takeByte_20 : decode cX4_takeByte 20 = .ok (.invokevirtual 52, 3) := by decide +kernel
theorem dX4_takeByte_23 : decode cX4_takeByte 23 = .ok (.ireturn, 1) := by decide +kernel
theorem dX4_takeByte_24 : decode cX4_takeByte 24 = .ok (.aload_n 0, 1) := by decide +kernel
theorem dX4_takeByte_25 : decode cX4_takeByte 25 = .ok (.dup, 1) := by decide +kernel
theorem dX4_takeByte_26 : decode cX4_takeByte 26 = .ok (.getfield 19, 3) := by decide +kernel
theorem dX4_takeByte_29 : decode cX4_takeByte 29 = .ok (.iconst 1, 1) := by decide +kernel
theorem dX4_takeByte_30 : decode cX4_takeByte 30 = .ok (.iadd, 1) := by decide +kernel
theorem dX4_takeByte_31 : decode cX4_takeByte 31 = .ok (.putfield 19, 3) := by decide +kernel
theorem dX4_takeByte_34 : decode cX4_takeByte 34 = .ok (.iconst 1, 1) := by decide +kernel
theorem dX4_takeByte_35 : decode cX4_takeByte 35 = .ok (.ireturn, 1) := by decide +kernel
theorem dX4_isFigure_0 : decode cX4_isFigure 0 = .ok (.iload_n 0, 1) := by decide +kernel
theorem dX4_isFigure_1 : decode cX4_isFigure 1 = .ok (.bipush 48, 2) := by decide +kernel
theorem dX4_isFigure_3 : decode cX4_isFigure 3 = .ok (.if_icmp .lt 13, 3) := by decide +kernel
theorem dX4_isFigure_6 : decode cX4_isFigure 6 = .ok (.iload_n 0, 1) := by decide +kernel
theorem dX4_isFigure_7 : decode cX4_isFigure 7 = .ok (.bipush 57, 2) := by decide +kernel
theorem dX4_isFigure_9 : decode cX4_isFigure 9 = .ok (.if_icmp .gt 7, 3) := by decide +kernel
theorem dX4_isFigure_12 : decode cX4_isFigure 12 = .ok (.iconst 1, 1) := by decide +kernel
theorem dX4_isFigure_13 : decode cX4_isFigure 13 = .ok (.goto 4, 3) := by decide +kernel
theorem dX4_isFigure_16 : decode cX4_isFigure 16 = .ok (.iconst 0, 1) := by decide +kernel
theorem dX4_isFigure_17 : decode cX4_isFigure 17 = .ok (.ireturn, 1) := by decide +kernel
theorem dX4_takeNumber_0 : decode cX4_takeNumber 0 = .ok (.aload_n 0, 1) := by decide +kernel
theorem dX4_takeNumber_1 : decode cX4_takeNumber 1 = .ok (.aload_n 0, 1) := by decide +kernel
theorem dX4_takeNumber_2 : decode cX4_takeNumber 2 = .ok (.getfield 19, 3) := by decide +kernel
theorem dX4_takeNumber_5 : decode cX4_takeNumber 5 = .ok (.putfield 29, 3) := by decide +kernel
theorem dX4_takeNumber_8 : decode cX4_takeNumber 8 = .ok (.aload_n 0, 1) := by decide +kernel
theorem dX4_takeNumber_9 : decode cX4_takeNumber 9 = .ok (.iconst 0, 1) := by decide +kernel
theorem dX4_takeNumber_10 : decode cX4_takeNumber 10 = .ok (.putfield 26, 3) := by decide +kernel
theorem dX4_takeNumber_13 : decode cX4_takeNumber 13 = .ok (.iconst 0, 1) := by decide +kernel
theorem dX4_takeNumber_14 : decode cX4_takeNumber 14 = .ok (.istore 4, 2) := by decide +kernel
theorem dX4_takeNumber_16 : decode cX4_takeNumber 16 = .ok (.iload 4, 2) := by decide +kernel
theorem dX4_takeNumber_18 : decode cX4_takeNumber 18 = .ok (.iload_n 1, 1) := by decide +kernel
theorem dX4_takeNumber_19 : decode cX4_takeNumber 19 = .ok (.if_icmp .ge 62, 3) := by decide +kernel
theorem dX4_takeNumber_22 : decode cX4_takeNumber 22 = .ok (.aload_n 0, 1) := by decide +kernel
theorem dX4_takeNumber_23 : decode cX4_takeNumber 23 = .ok (.getfield 15, 3) := by decide +kernel
theorem dX4_takeNumber_26 : decode cX4_takeNumber 26 = .ok (.aload_n 0, 1) := by decide +kernel
theorem dX4_takeNumber_27 : decode cX4_takeNumber 27 = .ok (.getfield 19, 3) := by decide +kernel
theorem dX4_takeNumber_30 : decode cX4_takeNumber 30 = .ok (.invokevirtual 48, 3) := by decide +kernel
theorem dX4_takeNumber_33 : decode cX4_takeNumber 33 = .ok (.invokestatic 55, 3) := by decide +kernel
theorem dX4_takeNumber_36 : decode cX4_takeNumber 36 = .ok (.ifCond .eq 45, 3) := by decide +kernel
theorem dX4_takeNumber_39 : decode cX4_takeNumber 39 = .ok (.aload_n 0, 1) := by decide +kernel
theorem dX4_takeNumber_40 : decode cX4_takeNumber 40 = .ok (.aload_n 0, 1) := by decide +kernel
theorem dX4_takeNumber_41 : decode cX4_takeNumber 41 = .ok (.getfield 26, 3) := by decide +kernel
theorem dX4_takeNumber_44 : decode cX4_takeNumber 44 = .ok (.bipush 10, 2) := by decide +kernel
theorem dX4_takeNumber_46 : decode cX4_takeNumber 46 = .ok (.imul, 1) := by decide +kernel
theorem dX4_takeNumber_47 : decode cX4_takeNumber 47 = .ok (.aload_n 0, 1) := by decide +kernel
theorem dX4_takeNumber_48 : decode cX4_takeNumber 48 = .ok (.getfield 15, 3) := by decide +kernel
theorem dX4_takeNumber_51 : decode cX4_takeNumber 51 = .ok (.aload_n 0, 1) := by decide +kernel
theorem dX4_takeNumber_52 : decode cX4_takeNumber 52 = .ok (.getfield 19, 3) := by decide +kernel
theorem dX4_takeNumber_55 : decode cX4_takeNumber 55 = .ok (.invokevirtual 48, 3) := by decide +kernel
theorem dX4_takeNumber_58 : decode cX4_takeNumber 58 = .ok (.iadd, 1) := by decide +kernel
theorem dX4_takeNumber_59 : decode cX4_takeNumber 59 = .ok (.bipush 48, 2) := by decide +kernel
theorem dX4_takeNumber_61 : decode cX4_takeNumber 61 = .ok (.isub, 1) := by decide +kernel
theorem dX4_takeNumber_62 : decode cX4_takeNumber 62 = .ok (.putfield 26, 3) := by decide +kernel
theorem dX4_takeNumber_65 : decode cX4_takeNumber 65 = .ok (.aload_n 0, 1) := by decide +kernel
theorem dX4_takeNumber_66 : decode cX4_takeNumber 66 = .ok (.dup, 1) := by decide +kernel
theorem dX4_takeNumber_67 : decode cX4_takeNumber 67 = .ok (.getfield 19, 3) := by decide +kernel
theorem dX4_takeNumber_70 : decode cX4_takeNumber 70 = .ok (.iconst 1, 1) := by decide +kernel
theorem dX4_takeNumber_71 : decode cX4_takeNumber 71 = .ok (.iadd, 1) := by decide +kernel
theorem dX4_takeNumber_72 : decode cX4_takeNumber 72 = .ok (.putfield 19, 3) := by decide +kernel
theorem dX4_takeNumber_75 : decode cX4_takeNumber 75 = .ok (.iinc 4 1, 3) := by decide +kernel
theorem dX4_takeNumber_78 : decode cX4_takeNumber 78 = .ok (.goto (-62), 3) := by decide +kernel
theorem dX4_takeNumber_81 : decode cX4_takeNumber 81 = .ok (.aload_n 0, 1) := by decide +kernel
theorem dX4_takeNumber_82 : decode cX4_takeNumber 82 = .ok (.getfield 19, 3) := by decide +kernel
theorem dX4_takeNumber_85 : decode cX4_takeNumber 85 = .ok (.aload_n 0, 1) := by decide +kernel
theorem dX4_takeNumber_86 : decode cX4_takeNumber 86 = .ok (.getfield 29, 3) := by decide +kernel
theorem dX4_takeNumber_89 : decode cX4_takeNumber 89 = .ok (.if_icmp .ne 12, 3) := by decide +kernel
theorem dX4_takeNumber_92 : decode cX4_takeNumber 92 = .ok (.aload_n 0, 1) := by decide +kernel
theorem dX4_takeNumber_93 : decode cX4_takeNumber 93 = .ok (.aload_n 0, 1) := by decide +kernel
theorem dX4_takeNumber_94 : decode cX4_takeNumber 94 = .ok (.getfield 19, 3) := by decide +kernel
theorem dX4_takeNumber_97 : decode cX4_takeNumber 97 = .ok (.invokevirtual 52, 3) := by decide +kernel
theorem dX4_takeNumber_100 : decode cX4_takeNumber 100 = .ok (.ireturn, 1) := by decide +kernel
theorem dX4_takeNumber_101 : decode cX4_takeNumber 101 = .ok (.aload_n 0, 1) := by decide +kernel
theorem dX4_takeNumber_102 : decode cX4_takeNumber 102 = .ok (.getfield 26, 3) := by decide +kernel
theorem dX4_takeNumber_105 : decode cX4_takeNumber 105 = .ok (.iload_n 2, 1) := by decide +kernel
theorem dX4_takeNumber_106 : decode cX4_takeNumber 106 = .ok (.if_icmp .lt 11, 3) := by decide +kernel
theorem dX4_takeNumber_109 : decode cX4_takeNumber 109 = .ok (.aload_n 0, 1) := by decide +kernel
theorem dX4_takeNumber_110 : decode cX4_takeNumber 110 = .ok (.getfield 26, 3) := by decide +kernel
theorem dX4_takeNumber_113 : decode cX4_takeNumber 113 = .ok (.iload_n 3, 1) := by decide +kernel
theorem dX4_takeNumber_114 : decode cX4_takeNumber 114 = .ok (.if_icmp .le 12, 3) := by decide +kernel
theorem dX4_takeNumber_117 : decode cX4_takeNumber 117 = .ok (.aload_n 0, 1) := by decide +kernel
theorem dX4_takeNumber_118 : decode cX4_takeNumber 118 = .ok (.aload_n 0, 1) := by decide +kernel
theorem dX4_takeNumber_119 : decode cX4_takeNumber 119 = .ok (.getfield 29, 3) := by decide +kernel
theorem dX4_takeNumber_122 : decode cX4_takeNumber 122 = .ok (.invokevirtual 52, 3) := by decide +kernel
theorem dX4_takeNumber_125 : decode cX4_takeNumber 125 = .ok (.ireturn, 1) := by decide +kernel
theorem dX4_takeNumber_126 : decode cX4_takeNumber 126 = .ok (.iconst 1, 1) := by decide +kernel
theorem dX4_takeNumber_127 : decode cX4_takeNumber 127 = .ok (.ireturn, 1) := by decide +kernel
theorem dX4_readPart_0 : decode cX4_readPart 0 = .ok (.aload_n 0, 1) := by decide +kernel
theorem dX4_readPart_1 : decode cX4_readPart 1 = .ok (.aload_n 0, 1) := by decide +kernel
theorem dX4_readPart_2 : decode cX4_readPart 2 = .ok (.getfield 19, 3) := by decide +kernel
theorem dX4_readPart_5 : decode cX4_readPart 5 = .ok (.putfield 23, 3) := by decide +kernel
theorem dX4_readPart_8 : decode cX4_readPart 8 = .ok (.aload_n 0, 1) := by decide +kernel
theorem dX4_readPart_9 : decode cX4_readPart 9 = .ok (.getfield 15, 3) := by decide +kernel
theorem dX4_readPart_12 : decode cX4_readPart 12 = .ok (.aload_n 0, 1) := by decide +kernel
theorem dX4_readPart_13 : decode cX4_readPart 13 = .ok (.getfield 19, 3) := by decide +kernel
theorem dX4_readPart_16 : decode cX4_readPart 16 = .ok (.invokevirtual 48, 3) := by decide +kernel
theorem dX4_readPart_19 : decode cX4_readPart 19 = .ok (.istore_n 1, 1) := by decide +kernel
theorem dX4_readPart_20 : decode cX4_readPart 20 = .ok (.iload_n 1, 1) := by decide +kernel
theorem dX4_readPart_21 : decode cX4_readPart 21 = .ok (.lookupswitch 103 #[(68, 88), (70, 73), (76, 43), (84, 58)], 43) := by decide +kernel
theorem dX4_readPart_64 : decode cX4_readPart 64 = .ok (.aload_n 0, 1) := by decide +kernel
theorem dX4_readPart_65 : decode cX4_readPart 65 = .ok (.dup, 1) := by decide +kernel
theorem dX4_readPart_66 : decode cX4_readPart 66 = .ok (.getfield 19, 3) := by decide +kernel
theorem dX4_readPart_69 : decode cX4_readPart 69 = .ok (.iconst 1, 1) := by decide +kernel
theorem dX4_readPart_70 : decode cX4_readPart 70 = .ok (.iadd, 1) := by decide +kernel
theorem dX4_readPart_71 : decode cX4_readPart 71 = .ok (.putfield 19, 3) := by decide +kernel
theorem dX4_readPart_74 : decode cX4_readPart 74 = .ok (.aload_n 0, 1) := by decide +kernel
theorem dX4_readPart_75 : decode cX4_readPart 75 = .ok (.invokevirtual 58, 3) := by decide +kernel
theorem dX4_readPart_78 : decode cX4_readPart 78 = .ok (.ireturn, 1) := by decide +kernel
theorem dX4_readPart_79 : decode cX4_readPart 79 = .ok (.aload_n 0, 1) := by decide +kernel
theorem dX4_readPart_80 : decode cX4_readPart 80 = .ok (.dup, 1) := by decide +kernel
theorem dX4_readPart_81 : decode cX4_readPart 81 = .ok (.getfield 19, 3) := by decide +kernel
theorem dX4_readPart_84 : decode cX4_readPart 84 = .ok (.iconst 1, 1) := by decide +kernel
theorem dX4_readPart_85 : decode cX4_readPart 85 = .ok (.iadd, 1) := by decide +kernel
theorem dX4_readPart_86 : decode cX4_readPart 86 = .ok (.putfield 19, 3) := by decide +kernel
theorem dX4_readPart_89 : decode cX4_readPart 89 = .ok (.aload_n 0, 1) := by decide +kernel
theorem dX4_readPart_90 : decode cX4_readPart 90 = .ok (.invokevirtual 61, 3) := by decide +kernel
theorem dX4_readPart_93 : decode cX4_readPart 93 = .ok (.ireturn, 1) := by decide +kernel
theorem dX4_readPart_94 : decode cX4_readPart 94 = .ok (.aload_n 0, 1) := by decide +kernel
theorem dX4_readPart_95 : decode cX4_readPart 95 = .ok (.dup, 1) := by decide +kernel
theorem dX4_readPart_96 : decode cX4_readPart 96 = .ok (.getfield 19, 3) := by decide +kernel
theorem dX4_readPart_99 : decode cX4_readPart 99 = .ok (.iconst 1, 1) := by decide +kernel
theorem dX4_readPart_100 : decode cX4_readPart 100 = .ok (.iadd, 1) := by decide +kernel
theorem dX4_readPart_101 : decode cX4_readPart 101 = .ok (.putfield 19, 3) := by decide +kernel
theorem dX4_readPart_104 : decode cX4_readPart 104 = .ok (.aload_n 0, 1) := by decide +kernel
theorem dX4_readPart_105 : decode cX4_readPart 105 = .ok (.invokevirtual 64, 3) := by decide +kernel
theorem dX4_readPart_108 : decode cX4_readPart 108 = .ok (.ireturn, 1) := by decide +kernel
theorem dX4_readPart_109 : decode cX4_readPart 109 = .ok (.aload_n 0, 1) := by decide +kernel
theorem dX4_readPart_110 : decode cX4_readPart 110 = .ok (.dup, 1) := by decide +kernel
theorem dX4_readPart_111 : decode cX4_readPart 111 = .ok (.getfield 19, 3) := by decide +kernel
theorem dX4_readPart_114 : decode cX4_readPart 114 = .ok (.iconst 1, 1) := by decide +kernel
theorem dX4_readPart_115 : decode cX4_readPart 115 = .ok (.iadd, 1) := by decide +kernel
theorem dX4_readPart_116 : decode cX4_readPart 116 = .ok (.putfield 19, 3) := by decide +kernel
theorem dX4_readPart_119 : decode cX4_readPart 119 = .ok (.aload_n 0, 1) := by decide +kernel
theorem dX4_readPart_120 : decode cX4_readPart 120 = .ok (.invokevirtual 67, 3) := by decide +kernel
theorem dX4_readPart_123 : decode cX4_readPart 123 = .ok (.ireturn, 1) := by decide +kernel
theorem dX4_readPart_124 : decode cX4_readPart 124 = .ok (.aload_n 0, 1) := by decide +kernel
theorem dX4_readPart_125 : decode cX4_readPart 125 = .ok (.aload_n 0, 1) := by decide +kernel
theorem dX4_readPart_126 : decode cX4_readPart 126 = .ok (.getfield 19, 3) := by decide +kernel
theorem dX4_readPart_129 : decode cX4_readPart 129 = .ok (.invokevirtual 52, 3) := by decide +kernel
theorem dX4_readPart_132 : decode cX4_readPart 132 = .ok (.ireturn, 1) := by decide +kernel
theorem dX4_readLine_0 : decode cX4_readLine 0 = .ok (.aload_n 0, 1) := by decide +kernel
theorem dX4_readLine_1 : decode cX4_readLine 1 = .ok (.getfield 9, 3) := by decide +kernel
theorem dX4_readLine_4 : decode cX4_readLine 4 = .ok (.getfield 70, 3) := by decide +kernel
theorem dX4_readLine_7 : decode cX4_readLine 7 = .ok (.bipush 8, 2) := by decide +kernel
theorem dX4_readLine_9 : decode cX4_readLine 9 = .ok (.if_icmp .lt 12, 3) := by decide +kernel
theorem dX4_readLine_12 : decode cX4_readLine 12 = .ok (.aload_n 0, 1) := by decide +kernel
theorem dX4_readLine_13 : decode cX4_readLine 13 = .ok (.aload_n 0, 1) := by decide +kernel
theorem dX4_readLine_14 : decode cX4_readLine 14 = .ok (.getfield 23, 3) := by decide +kernel
theorem dX4_readLine_17 : decode cX4_readLine 17 = .ok (.invokevirtual 52, 3) := by decide +kernel
theorem dX4_readLine_20 : decode cX4_readLine 20 = .ok (.ireturn, 1) := by decide +kernel
theorem dX4_readLine_21 : decode cX4_readLine 21 = .ok (.aload_n 0, 1) := by decide +kernel
theorem dX4_readLine_22 : decode cX4_readLine 22 = .ok (.iconst 1, 1) := by decide +kernel
theorem dX4_readLine_23 : decode cX4_readLine 23 = .ok (.iconst 0, 1) := by decide +kernel
theorem dX4_readLine_24 : decode cX4_readLine 24 = .ok (.iconst 5, 1) := by decide +kernel
theorem dX4_readLine_25 : decode cX4_readLine 25 = .ok (.invokevirtual 75, 3) := by decide +kernel
theorem dX4_readLine_28 : decode cX4_readLine 28 = .ok (.ifCond .ne 5, 3) := by decide +kernel
theorem dX4_readLine_31 : decode cX4_readLine 31 = .ok (.iconst 0, 1) := by decide +kernel
theorem dX4_readLine_32 : decode cX4_readLine 32 = .ok (.ireturn, 1) := by decide +kernel
theorem dX4_readLine_33 : decode cX4_readLine 33 = .ok (.aload_n 0, 1) := by decide +kernel
theorem dX4_readLine_34 : decode cX4_readLine 34 = .ok (.getfield 9, 3) := by decide +kernel
theorem dX4_readLine_37 : decode cX4_readLine 37 = .ok (.getfield 70, 3) := by decide +kernel
theorem dX4_readLine_40 : decode cX4_readLine 40 = .ok (.istore_n 1, 1) := by decide +kernel
theorem dX4_readLine_41 : decode cX4_readLine 41 = .ok (.aload_n 0, 1) := by decide +kernel
theorem dX4_readLine_42 : decode cX4_readLine 42 = .ok (.getfield 9, 3) := by decide +kernel
theorem dX4_readLine_45 : decode cX4_readLine 45 = .ok (.aload_n 0, 1) := by decide +kernel
theorem dX4_readLine_46 : decode cX4_readLine 46 = .ok (.getfield 26, 3) := by decide +kernel
theorem dX4_readLine_49 : decode cX4_readLine 49 = .ok (.invokevirtual 79, 3) := by decide +kernel
theorem dX4_readLine_52 : decode cX4_readLine 52 = .ok (.aload_n 0, 1) := by decide +kernel
theorem dX4_readLine_53 : decode cX4_readLine 53 = .ok (.bipush 58, 2) := by decide +kernel
theorem dX4_readLine_55 : decode cX4_readLine 55 = .ok (.invokevirtual 44, 3) := by decide +kernel
theorem dX4_readLine_58 : decode cX4_readLine 58 = .ok (.ifCond .ne 5, 3) := by decide +kernel
theorem dX4_readLine_61 : decode cX4_readLine 61 = .ok (.iconst 0, 1) := by decide +kernel
theorem dX4_readLine_62 : decode cX4_readLine 62 = .ok (.ireturn, 1) := by decide +kernel
theorem dX4_readLine_63 : decode cX4_readLine 63 = .ok (.iconst 0, 1) := by decide +kernel
theorem dX4_readLine_64 : decode cX4_readLine 64 = .ok (.istore_n 2, 1) := by decide +kernel
theorem dX4_readLine_65 : decode cX4_readLine 65 = .ok (.iload_n 2, 1) := by decide +kernel
theorem dX4_readLine_66 : decode cX4_readLine 66 = .ok (.bipush 6, 2) := by decide +kernel
theorem dX4_readLine_68 : decode cX4_readLine 68 = .ok (.if_icmp .ge 83, 3) := by decide +kernel
theorem dX4_readLine_71 : decode cX4_readLine 71 = .ok (.iload_n 2, 1) := by decide +kernel
theorem dX4_readLine_72 : decode cX4_readLine 72 = .ok (.iconst 2, 1) := by decide +kernel
theorem dX4_readLine_73 : decode cX4_readLine 73 = .ok (.if_icmp .lt 12, 3) := by decide +kernel
theorem dX4_readLine_76 : decode cX4_readLine 76 = .ok (.aload_n 0, 1) := by decide +kernel
theorem dX4_readLine_77 : decode cX4_readLine 77 = .ok (.invokevirtual 83, 3) := by decide +kernel
theorem dX4_readLine_80 : decode cX4_readLine 80 = .ok (.ifCond .eq 5, 3) := by decide +kernel
theorem dX4_readLine_83 : decode cX4_readLine 83 = .ok (.iconst 1, 1) := by decide +kernel
theorem dX4_readLine_84 : decode cX4_readLine 84 = .ok (.ireturn, 1) := by decide +kernel
theorem dX4_readLine_85 : decode cX4_readLine 85 = .ok (.iload_n 2, 1) := by decide +kernel
theorem dX4_readLine_86 : decode cX4_readLine 86 = .ok (.ifCond .le 14, 3) := by decide +kernel
theorem dX4_readLine_89 : decode cX4_readLine 89 = .ok (.aload_n 0, 1) := by decide +kernel
theorem dX4_readLine_90 : decode cX4_readLine 90 = .ok (.bipush 62, 2) := by decide +kernel
theorem dX4_readLine_92 : decode cX4_readLine 92 = .ok (.invokevirtual 44, 3) := by decide +kernel
theorem dX4_readLine_95 : decode cX4_readLine 95 = .ok (.ifCond .ne 5, 3) := by decide +kernel
theorem dX4_readLine_98 : decode cX4_readLine 98 = .ok (.iconst 0, 1) := by decide +kernel
theorem dX4_readLine_99 : decode cX4_readLine 99 = .ok (.ireturn, 1) := by decide +kernel
theorem dX4_readLine_100 : decode cX4_readLine 100 = .ok (.aload_n 0, 1) := by decide +kernel
theorem dX4_readLine_101 : decode cX4_readLine 101 = .ok (.invokevirtual 86, 3) := by decide +kernel
theorem dX4_readLine_104 : decode cX4_readLine 104 = .ok (.ifCond .ne 5, 3) := by decide +kernel
theorem dX4_readLine_107 : decode cX4_readLine 107 = .ok (.iconst 0, 1) := by decide +kernel
theorem dX4_readLine_108 : decode cX4_readLine 108 = .ok (.ireturn, 1) := by decide +kernel
theorem dX4_readLine_109 : decode cX4_readLine 109 = .ok (.aload_n 0, 1) := by decide +kernel
theorem dX4_readLine_110 : decode cX4_readLine 110 = .ok (.getfield 9, 3) := by decide +kernel
theorem dX4_readLine_113 : decode cX4_readLine 113 = .ok (.iload_n 1, 1) := by decide +kernel
theorem dX4_readLine_114 : decode cX4_readLine 114 = .ok (.aload_n 0, 1) := by decide +kernel
theorem dX4_readLine_115 : decode cX4_readLine 115 = .ok (.getfield 26, 3) := by decide +kernel
theorem dX4_readLine_118 : decode cX4_readLine 118 = .ok (.invokevirtual 89, 3) := by decide +kernel
theorem dX4_readLine_121 : decode cX4_readLine 121 = .ok (.ifCond .lt 12, 3) := by decide +kernel
theorem dX4_readLine_124 : decode cX4_readLine 124 = .ok (.aload_n 0, 1) := by decide +kernel
theorem dX4_readLine_125 : decode cX4_readLine 125 = .ok (.aload_n 0, 1) := by decide +kernel
theorem dX4_readLine_126 : decode cX4_readLine 126 = .ok (.getfield 29, 3) := by decide +kernel
theorem dX4_readLine_129 : decode cX4_readLine 129 = .ok (.invokevirtual 52, 3) := by decide +kernel
theorem dX4_readLine_132 : decode cX4_readLine 132 = .ok (.ireturn, 1) := by decide +kernel
theorem dX4_readLine_133 : decode cX4_readLine 133 = .ok (.aload_n 0, 1) := by decide +kernel
theorem dX4_readLine_134 : decode cX4_readLine 134 = .ok (.getfield 9, 3) := by decide +kernel
theorem dX4_readLine_137 : decode cX4_readLine 137 = .ok (.iload_n 1, 1) := by decide +kernel
theorem dX4_readLine_138 : decode cX4_readLine 138 = .ok (.aload_n 0, 1) := by decide +kernel
theorem dX4_readLine_139 : decode cX4_readLine 139 = .ok (.getfield 26, 3) := by decide +kernel
theorem dX4_readLine_142 : decode cX4_readLine 142 = .ok (.invokevirtual 93, 3) := by decide +kernel
theorem dX4_readLine_145 : decode cX4_readLine 145 = .ok (.iinc 2 1, 3) := by decide +kernel
theorem dX4_readLine_148 : decode cX4_readLine 148 = .ok (.goto (-83), 3) := by decide +kernel
theorem dX4_readLine_151 : decode cX4_readLine 151 = .ok (.iconst 1, 1) := by decide +kernel
theorem dX4_readLine_152 : decode cX4_readLine 152 = .ok (.ireturn, 1) := by decide +kernel
theorem dX4_isPartEnd_0 : decode cX4_isPartEnd 0 = .ok (.aload_n 0, 1) := by decide +kernel
theorem dX4_isPartEnd_1 : decode cX4_isPartEnd 1 = .ok (.getfield 19, 3) := by decide +kernel
theorem dX4_isPartEnd_4 : decode cX4_isPartEnd 4 = .ok (.aload_n 0, 1) := by decide +kernel
theorem dX4_isPartEnd_5 : decode cX4_isPartEnd 5 = .ok (.getfield 15, 3) := by decide +kernel
theorem dX4_isPartEnd_8 : decode cX4_isPartEnd 8 = .ok (.getfield 39, 3) := by decide +kernel
theorem dX4_isPartEnd_11 : decode cX4_isPartEnd 11 = .ok (.if_icmp .ge 19, 3) := by decide +kernel
theorem dX4_isPartEnd_14 : decode cX4_isPartEnd 14 = .ok (.aload_n 0, 1) := by decide +kernel
theorem dX4_isPartEnd_15 : decode cX4_isPartEnd 15 = .ok (.getfield 15, 3) := by decide +kernel
theorem dX4_isPartEnd_18 : decode cX4_isPartEnd 18 = .ok (.aload_n 0, 1) := by decide +kernel
theorem dX4_isPartEnd_19 : decode cX4_isPartEnd 19 = .ok (.getfield 19, 3) := by decide +kernel
theorem dX4_isPartEnd_22 : decode cX4_isPartEnd 22 = .ok (.invokevirtual 48, 3) := by decide +kernel
theorem dX4_isPartEnd_25 : decode cX4_isPartEnd 25 = .ok (.bipush 59, 2) := by decide +kernel
theorem dX4_isPartEnd_27 : decode cX4_isPartEnd 27 = .ok (.if_icmp .ne 7, 3) := by decide +kernel
theorem dX4_isPartEnd_30 : decode cX4_isPartEnd 30 = .ok (.iconst 1, 1) := by decide +kernel
theorem dX4_isPartEnd_31 : decode cX4_isPartEnd 31 = .ok (.goto 4, 3) := by decide +kernel
theorem dX4_isPartEnd_34 : decode cX4_isPartEnd 34 = .ok (.iconst 0, 1) := by decide +kernel
theorem dX4_isPartEnd_35 : decode cX4_isPartEnd 35 = .ok (.ireturn, 1) := by decide +kernel
theorem dX4_takeStop_0 : decode cX4_takeStop 0 = .ok (.aload_n 0, 1) := by decide +kernel
theorem dX4_takeStop_1 : decode cX4_takeStop 1 = .ok (.iconst 2, 1) := by decide +kernel
theorem dX4_takeStop_2 : decode cX4_takeStop 2 = .ok (.iconst 0, 1) := by decide +kernel
theorem dX4_takeStop_3 : decode cX4_takeStop 3 = .ok (.bipush 11, 2) := by decide +kernel
theorem dX4_takeStop_5 : decode cX4_takeStop 5 = .ok (.invokevirtual 75, 3) := by decide +kernel
theorem dX4_takeStop_8 : decode cX4_takeStop 8 = .ok (.ireturn, 1) := by decide +kernel
theorem dX4_readTrip_0 : decode cX4_readTrip 0 = .ok (.aload_n 0, 1) := by decide +kernel
theorem dX4_readTrip_1 : decode cX4_readTrip 1 = .ok (.iconst 1, 1) := by decide +kernel
theorem dX4_readTrip_2 : decode cX4_readTrip 2 = .ok (.iconst 0, 1) := by decide +kernel
theorem dX4_readTrip_3 : decode cX4_readTrip 3 = .ok (.aload_n 0, 1) := by decide +kernel
theorem dX4_readTrip_4 : decode cX4_readTrip 4 = .ok (.getfield 9, 3) := by decide +kernel
theorem dX4_readTrip_7 : decode cX4_readTrip 7 = .ok (.getfield 70, 3) := by decide +kernel
theorem dX4_readTrip_10 : decode cX4_readTrip 10 = .ok (.iconst 1, 1) := by decide +kernel
theorem dX4_readTrip_11 : decode cX4_readTrip 11 = .ok (.isub, 1) := by decide +kernel
theorem dX4_readTrip_12 : decode cX4_readTrip 12 = .ok (.invokevirtual 75, 3) := by decide +kernel
theorem dX4_readTrip_15 : decode cX4_readTrip 15 = .ok (.ifCond .ne 5, 3) := by decide +kernel
theorem dX4_readTrip_18 : decode cX4_readTrip 18 = .ok (.iconst 0, 1) := by decide +kernel
theorem dX4_readTrip_19 : decode cX4_readTrip 19 = .ok (.ireturn, 1) := by decide +kernel
theorem dX4_readTrip_20 : decode cX4_readTrip 20 = .ok (.aload_n 0, 1) := by decide +kernel
theorem dX4_readTrip_21 : decode cX4_readTrip 21 = .ok (.getfield 26, 3) := by decide +kernel
theorem dX4_readTrip_24 : decode cX4_readTrip 24 = .ok (.istore_n 1, 1) := by decide +kernel
theorem dX4_readTrip_25 : decode cX4_readTrip 25 = .ok (.aload_n 0, 1) := by decide +kernel
theorem dX4_readTrip_26 : decode cX4_readTrip 26 = .ok (.getfield 9, 3) := by decide +kernel
theorem dX4_readTrip_29 : decode cX4_readTrip 29 = .ok (.getfield 97, 3) := by decide +kernel
theorem dX4_readTrip_32 : decode cX4_readTrip 32 = .ok (.iload_n 1, 1) := by decide +kernel
theorem dX4_readTrip_33 : decode cX4_readTrip 33 = .ok (.iaload, 1) := by decide +kernel
theorem dX4_readTrip_34 : decode cX4_readTrip 34 = .ok (.istore_n 2, 1) := by decide +kernel
theorem dX4_readTrip_35 : decode cX4_readTrip 35 = .ok (.iload_n 2, 1) := by decide +kernel
theorem dX4_readTrip_36 : decode cX4_readTrip 36 = .ok (.bipush 6, 2) := by decide +kernel
theorem dX4_readTrip_38 : decode cX4_readTrip 38 = .ok (.if_icmp .lt 12, 3) := by decide +kernel
theorem dX4_readTrip_41 : decode cX4_readTrip 41 = .ok (.aload_n 0, 1) := by decide +kernel
theorem dX4_readTrip_42 : decode cX4_readTrip 42 = .ok (.aload_n 0, 1) := by decide +kernel
theorem dX4_readTrip_43 : decode cX4_readTrip 43 = .ok (.getfield 23, 3) := by decide +kernel
theorem dX4_readTrip_46 : decode cX4_readTrip 46 = .ok (.invokevirtual 52, 3) := by decide +kernel
theorem dX4_readTrip_49 : decode cX4_readTrip 49 = .ok (.ireturn, 1) := by decide +kernel
theorem dX4_readTrip_50 : decode cX4_readTrip 50 = .ok (.aload_n 0, 1) := by decide +kernel
theorem dX4_readTrip_51 : decode cX4_readTrip 51 = .ok (.bipush 58, 2) := by decide +kernel
theorem dX4_readTrip_53 : decode cX4_readTrip 53 = .ok (.invokevirtual 44, 3) := by decide +kernel
theorem dX4_readTrip_56 : decode cX4_readTrip 56 = .ok (.ifCond .eq 15, 3) := by decide +kernel
theorem dX4_readTrip_59 : decode cX4_readTrip 59 = .ok (.aload_n 0, 1) := by decide +kernel
theorem dX4_readTrip_60 : decode cX4_readTrip 60 = .ok (.iconst 4, 1) := by decide +kernel
theorem dX4_readTrip_61 : decode cX4_readTrip 61 = .ok (.iconst 0, 1) := by decide +kernel
theorem dX4_readTrip_62 : decode cX4_readTrip 62 = .ok (.sipush 1999, 3) := by decide +kernel
theorem dX4_readTrip_65 : decode cX4_readTrip 65 = .ok (.invokevirtual 75, 3) := by decide +kernel
theorem dX4_readTrip_68 : decode cX4_readTrip 68 = .ok (.ifCond .ne 5, 3) := by decide +kernel
theorem dX4_readTrip_71 : decode cX4_readTrip 71 = .ok (.iconst 0, 1) := by decide +kernel
theorem dX4_readTrip_72 : decode cX4_readTrip 72 = .ok (.ireturn, 1) := by decide +kernel
theorem dX4_readTrip_73 : decode cX4_readTrip 73 = .ok (.aload_n 0, 1) := by decide +kernel
theorem dX4_readTrip_74 : decode cX4_readTrip 74 = .ok (.getfield 26, 3) := by decide +kernel
theorem dX4_readTrip_77 : decode cX4_readTrip 77 = .ok (.istore_n 3, 1) := by decide +kernel
theorem dX4_readTrip_78 : decode cX4_readTrip 78 = .ok (.aload_n 0, 1) := by decide +kernel
theorem dX4_readTrip_79 : decode cX4_readTrip 79 = .ok (.getfield 9, 3) := by decide +kernel
theorem dX4_readTrip_82 : decode cX4_readTrip 82 = .ok (.iload_n 1, 1) := by decide +kernel
theorem dX4_readTrip_83 : decode cX4_readTrip 83 = .ok (.iload_n 3, 1) := by decide +kernel
theorem dX4_readTrip_84 : decode cX4_readTrip 84 = .ok (.invokevirtual 101, 3) := by decide +kernel
theorem dX4_readTrip_87 : decode cX4_readTrip 87 = .ok (.iconst 1, 1) := by decide +kernel
theorem dX4_readTrip_88 : decode cX4_readTrip 88 = .ok (.istore 4, 2) := by decide +kernel
theorem dX4_readTrip_90 : decode cX4_readTrip 90 = .ok (.iload 4, 2) := by decide +kernel
theorem dX4_readTrip_92 : decode cX4_readTrip 92 = .ok (.aload_n 0, 1) := by decide +kernel
theorem dX4_readTrip_93 : decode cX4_readTrip 93 = .ok (.getfield 9, 3) := by decide +kernel
theorem dX4_readTrip_96 : decode cX4_readTrip 96 = .ok (.getfield 104, 3) := by decide +kernel
theorem dX4_readTrip_99 : decode cX4_readTrip 99 = .ok (.iload_n 1, 1) := by decide +kernel
theorem dX4_readTrip_100 : decode cX4_readTrip 100 = .ok (.iaload, 1) := by decide +kernel
theorem dX4_readTrip_101 : decode cX4_readTrip 101 = .ok (.if_icmp .ge 53, 3) := by decide +kernel
theorem dX4_readTrip_104 : decode cX4_readTrip 104 = .ok (.aload_n 0, 1) := by decide +kernel
theorem dX4_readTrip_105 : decode cX4_readTrip 105 = .ok (.bipush 43, 2) := by decide +kernel
theorem dX4_readTrip_107 : decode cX4_readTrip 107 = .ok (.invokevirtual 44, 3) := by decide +kernel
theorem dX4_readTrip_110 : decode cX4_readTrip 110 = .ok (.ifCond .eq 17, 3) := by decide +kernel
theorem dX4_readTrip_113 : decode cX4_readTrip 113 = .ok (.aload_n 0, 1) := by decide +kernel
theorem dX4_readTrip_114 : decode cX4_readTrip 114 = .ok (.iconst 3, 1) := by decide +kernel
theorem dX4_readTrip_115 : decode cX4_readTrip 115 = .ok (.iconst 1, 1) := by decide +kernel
theorem dX4_readTrip_116 : decode cX4_readTrip 116 = .ok (.sipush 1999, 3) := by decide +kernel
theorem dX4_readTrip_119 : decode cX4_readTrip 119 = .ok (.iload_n 3, 1) := by decide +kernel
theorem dX4_readTrip_120 : decode cX4_readTrip 120 = .ok (.isub, 1) := by decide +kernel
theorem dX4_readTrip_121 : decode cX4_readTrip 121 = .ok (.invokevirtual 75, 3) := by decide +kernel
theorem dX4_readTrip_124 : decode cX4_readTrip 124 = .ok (.ifCond .ne 5, 3) := by decide +kernel
theorem dX4_readTrip_127 : decode cX4_readTrip 127 = .ok (.iconst 0, 1) := by decide +kernel
theorem dX4_readTrip_128 : decode cX4_readTrip 128 = .ok (.ireturn, 1) := by decide +kernel
theorem dX4_readTrip_129 : decode cX4_readTrip 129 = .ok (.iload_n 3, 1) := by decide +kernel
theorem dX4_readTrip_130 : decode cX4_readTrip 130 = .ok (.aload_n 0, 1) := by decide +kernel
theorem dX4_readTrip_131 : decode cX4_readTrip 131 = .ok (.getfield 26, 3) := by decide +kernel
theorem dX4_readTrip_134 : decode cX4_readTrip 134 = .ok (.iadd, 1) := by decide +kernel
theorem dX4_readTrip_135 : decode cX4_readTrip 135 = .ok (.istore_n 3, 1) := by decide +kernel
theorem dX4_readTrip_136 : decode cX4_readTrip 136 = .ok (.aload_n 0, 1) := by decide +kernel
theorem dX4_readTrip_137 : decode cX4_readTrip 137 = .ok (.getfield 9, 3) := by decide +kernel
theorem dX4_readTrip_140 : decode cX4_readTrip 140 = .ok (.iload_n 1, 1) := by decide +kernel
theorem dX4_readTrip_141 : decode cX4_readTrip 141 = .ok (.iload_n 2, 1) := by decide +kernel
theorem dX4_readTrip_142 : decode cX4_readTrip 142 = .ok (.iload 4, 2) := by decide +kernel
theorem dX4_readTrip_144 : decode cX4_readTrip 144 = .ok (.iload_n 3, 1) := by decide +kernel
theorem dX4_readTrip_145 : decode cX4_readTrip 145 = .ok (.invokevirtual 107, 3) := by decide +kernel
theorem dX4_readTrip_148 : decode cX4_readTrip 148 = .ok (.iinc 4 1, 3) := by decide +kernel
theorem dX4_readTrip_151 : decode cX4_readTrip 151 = .ok (.goto (-61), 3) := by decide +kernel
theorem dX4_readTrip_154 : decode cX4_readTrip 154 = .ok (.iconst 1, 1) := by decide +kernel
theorem dX4_readTrip_155 : decode cX4_readTrip 155 = .ok (.ireturn, 1) := by decide +kernel
theorem dX4_readPath_0 : decode cX4_readPath 0 = .ok (.aload_n 0, 1) := by decide +kernel
theorem dX4_readPath_1 : decode cX4_readPath 1 = .ok (.invokevirtual 86, 3) := by decide +kernel
theorem dX4_readPath_4 : decode cX4_readPath 4 = .ok (.ifCond .ne 5, 3) := by decide +kernel
theorem dX4_readPath_7 : decode cX4_readPath 7 = .ok (.iconst 0, 1) := by decide +kernel
theorem dX4_readPath_8 : decode cX4_readPath 8 = .ok (.ireturn, 1) := by decide +kernel
theorem dX4_readPath_9 : decode cX4_readPath 9 = .ok (.aload_n 0, 1) := by decide +kernel
theorem dX4_readPath_10 : decode cX4_readPath 10 = .ok (.getfield 26, 3) := by decide +kernel
theorem dX4_readPath_13 : decode cX4_readPath 13 = .ok (.istore_n 1, 1) := by decide +kernel
theorem dX4_readPath_14 : decode cX4_readPath 14 = .ok (.aload_n 0, 1) := by decide +kernel
theorem dX4_readPath_15 : decode cX4_readPath 15 = .ok (.bipush 45, 2) := by decide +kernel
theorem dX4_readPath_17 : decode cX4_readPath 17 = .ok (.invokevirtual 44, 3) := by decide +kernel
theorem dX4_readPath_20 : decode cX4_readPath 20 = .ok (.ifCond .eq 10, 3) := by decide +kernel
theorem dX4_readPath_23 : decode cX4_readPath 23 = .ok (.aload_n 0, 1) := by decide +kernel
theorem dX4_readPath_24 : decode cX4_readPath 24 = .ok (.invokevirtual 86, 3) := by decide +kernel
theorem dX4_readPath_27 : decode cX4_readPath 27 = .ok (.ifCond .ne 5, 3) := by decide +kernel
theorem dX4_readPath_30 : decode cX4_readPath 30 = .ok (.iconst 0, 1) := by decide +kernel
theorem dX4_readPath_31 : decode cX4_readPath 31 = .ok (.ireturn, 1) := by decide +kernel
theorem dX4_readPath_32 : decode cX4_readPath 32 = .ok (.aload_n 0, 1) := by decide +kernel
theorem dX4_readPath_33 : decode cX4_readPath 33 = .ok (.getfield 26, 3) := by decide +kernel
theorem dX4_readPath_36 : decode cX4_readPath 36 = .ok (.istore_n 2, 1) := by decide +kernel
theorem dX4_readPath_37 : decode cX4_readPath 37 = .ok (.iload_n 2, 1) := by decide +kernel
theorem dX4_readPath_38 : decode cX4_readPath 38 = .ok (.iload_n 1, 1) := by decide +kernel
theorem dX4_readPath_39 : decode cX4_readPath 39 = .ok (.if_icmp .ne 12, 3) := by decide +kernel
theorem dX4_readPath_42 : decode cX4_readPath 42 = .ok (.aload_n 0, 1) := by decide +kernel
theorem dX4_readPath_43 : decode cX4_readPath 43 = .ok (.aload_n 0, 1) := by decide +kernel
theorem dX4_readPath_44 : decode cX4_readPath 44 = .ok (.getfield 29, 3) := by decide +kernel
theorem dX4_readPath_47 : decode cX4_readPath 47 = .ok (.invokevirtual 52, 3) := by decide +kernel
theorem dX4_readPath_50 : decode cX4_readPath 50 = .ok (.ireturn, 1) := by decide +kernel
theorem dX4_readPath_51 : decode cX4_readPath 51 = .ok (.aload_n 0, 1) := by decide +kernel
theorem dX4_readPath_52 : decode cX4_readPath 52 = .ok (.bipush 61, 2) := by decide +kernel
theorem dX4_readPath_54 : decode cX4_readPath 54 = .ok (.invokevirtual 44, 3) := by decide +kernel
theorem dX4_readPath_57 : decode cX4_readPath 57 = .ok (.ifCond .eq 14, 3) := by decide +kernel
theorem dX4_readPath_60 : decode cX4_readPath 60 = .ok (.aload_n 0, 1) := by decide +kernel
theorem dX4_readPath_61 : decode cX4_readPath 61 = .ok (.iconst 2, 1) := by decide +kernel
theorem dX4_readPath_62 : decode cX4_readPath 62 = .ok (.iconst 1, 1) := by decide +kernel
theorem dX4_readPath_63 : decode cX4_readPath 63 = .ok (.bipush 60, 2) := by decide +kernel
theorem dX4_readPath_65 : decode cX4_readPath 65 = .ok (.invokevirtual 75, 3) := by decide +kernel
theorem dX4_readPath_68 : decode cX4_readPath 68 = .ok (.ifCond .ne 5, 3) := by decide +kernel
theorem dX4_readPath_71 : decode cX4_readPath 71 = .ok (.iconst 0, 1) := by decide +kernel
theorem dX4_readPath_72 : decode cX4_readPath 72 = .ok (.ireturn, 1) := by decide +kernel
theorem dX4_readPath_73 : decode cX4_readPath 73 = .ok (.aload_n 0, 1) := by decide +kernel
theorem dX4_readPath_74 : decode cX4_readPath 74 = .ok (.getfield 9, 3) := by decide +kernel
theorem dX4_readPath_77 : decode cX4_readPath 77 = .ok (.iload_n 1, 1) := by decide +kernel
theorem dX4_readPath_78 : decode cX4_readPath 78 = .ok (.iload_n 2, 1) := by decide +kernel
theorem dX4_readPath_79 : decode cX4_readPath 79 = .ok (.aload_n 0, 1) := by decide +kernel
theorem dX4_readPath_80 : decode cX4_readPath 80 = .ok (.getfield 26, 3) := by decide +kernel
theorem dX4_readPath_83 : decode cX4_readPath 83 = .ok (.invokevirtual 111, 3) := by decide +kernel
theorem dX4_readPath_86 : decode cX4_readPath 86 = .ok (.iconst 1, 1) := by decide +kernel
theorem dX4_readPath_87 : decode cX4_readPath 87 = .ok (.ireturn, 1) := by decide +kernel
theorem dX4_readDelay_0 : decode cX4_readDelay 0 = .ok (.aload_n 0, 1) := by decide +kernel
theorem dX4_readDelay_1 : decode cX4_readDelay 1 = .ok (.iconst 1, 1) := by decide +kernel
theorem dX4_readDelay_2 : decode cX4_readDelay 2 = .ok (.iconst 0, 1) := by decide +kernel
theorem dX4_readDelay_3 : decode cX4_readDelay 3 = .ok (.aload_n 0, 1) := by decide +kernel
theorem dX4_readDelay_4 : decode cX4_readDelay 4 = .ok (.getfield 9, 3) := by decide +kernel
theorem dX4_readDelay_7 : decode cX4_readDelay 7 = .ok (.getfield 70, 3) := by decide +kernel
theorem dX4_readDelay_10 : decode cX4_readDelay 10 = .ok (.iconst 1, 1) := by decide +kernel
theorem dX4_readDelay_11 : decode cX4_readDelay 11 = .ok (.isub, 1) := by decide +kernel
theorem dX4_readDelay_12 : decode cX4_readDelay 12 = .ok (.invokevirtual 75, 3) := by decide +kernel
theorem dX4_readDelay_15 : decode cX4_readDelay 15 = .ok (.ifCond .ne 5, 3) := by decide +kernel
theorem dX4_readDelay_18 : decode cX4_readDelay 18 = .ok (.iconst 0, 1) := by decide +kernel
theorem dX4_readDelay_19 : decode cX4_readDelay 19 = .ok (.ireturn, 1) := by decide +kernel
theorem dX4_readDelay_20 : decode cX4_readDelay 20 = .ok (.aload_n 0, 1) := by decide +kernel
theorem dX4_readDelay_21 : decode cX4_readDelay 21 = .ok (.getfield 26, 3) := by decide +kernel
theorem dX4_readDelay_24 : decode cX4_readDelay 24 = .ok (.istore_n 1, 1) := by decide +kernel
theorem dX4_readDelay_25 : decode cX4_readDelay 25 = .ok (.aload_n 0, 1) := by decide +kernel
theorem dX4_readDelay_26 : decode cX4_readDelay 26 = .ok (.bipush 46, 2) := by decide +kernel
theorem dX4_readDelay_28 : decode cX4_readDelay 28 = .ok (.invokevirtual 44, 3) := by decide +kernel
theorem dX4_readDelay_31 : decode cX4_readDelay 31 = .ok (.ifCond .eq 23, 3) := by decide +kernel
theorem dX4_readDelay_34 : decode cX4_readDelay 34 = .ok (.aload_n 0, 1) := by decide +kernel
theorem dX4_readDelay_35 : decode cX4_readDelay 35 = .ok (.iconst 1, 1) := by decide +kernel
theorem dX4_readDelay_36 : decode cX4_readDelay 36 = .ok (.iconst 0, 1) := by decide +kernel
theorem dX4_readDelay_37 : decode cX4_readDelay 37 = .ok (.aload_n 0, 1) := by decide +kernel
theorem dX4_readDelay_38 : decode cX4_readDelay 38 = .ok (.getfield 9, 3) := by decide +kernel
theorem dX4_readDelay_41 : decode cX4_readDelay 41 = .ok (.getfield 97, 3) := by decide +kernel
theorem dX4_readDelay_44 : decode cX4_readDelay 44 = .ok (.iload_n 1, 1) := by decide +kernel
theorem dX4_readDelay_45 : decode cX4_readDelay 45 = .ok (.iaload, 1) := by decide +kernel
theorem dX4_readDelay_46 : decode cX4_readDelay 46 = .ok (.iconst 1, 1) := by decide +kernel
theorem dX4_readDelay_47 : decode cX4_readDelay 47 = .ok (.isub, 1) := by decide +kernel
theorem dX4_readDelay_48 : decode cX4_readDelay 48 = .ok (.invokevirtual 75, 3) := by decide +kernel
theorem dX4_readDelay_51 : decode cX4_readDelay 51 = .ok (.ifCond .ne 5, 3) := by decide +kernel
theorem dX4_readDelay_54 : decode cX4_readDelay 54 = .ok (.iconst 0, 1) := by decide +kernel
theorem dX4_readDelay_55 : decode cX4_readDelay 55 = .ok (.ireturn, 1) := by decide +kernel
theorem dX4_readDelay_56 : decode cX4_readDelay 56 = .ok (.aload_n 0, 1) := by decide +kernel
theorem dX4_readDelay_57 : decode cX4_readDelay 57 = .ok (.getfield 26, 3) := by decide +kernel
theorem dX4_readDelay_60 : decode cX4_readDelay 60 = .ok (.istore_n 2, 1) := by decide +kernel
theorem dX4_readDelay_61 : decode cX4_readDelay 61 = .ok (.aload_n 0, 1) := by decide +kernel
theorem dX4_readDelay_62 : decode cX4_readDelay 62 = .ok (.bipush 64, 2) := by decide +kernel
theorem dX4_readDelay_64 : decode cX4_readDelay 64 = .ok (.invokevirtual 44, 3) := by decide +kernel
theorem dX4_readDelay_67 : decode cX4_readDelay 67 = .ok (.ifCond .eq 23, 3) := by decide +kernel
theorem dX4_readDelay_70 : decode cX4_readDelay 70 = .ok (.aload_n 0, 1) := by decide +kernel
theorem dX4_readDelay_71 : decode cX4_readDelay 71 = .ok (.iconst 1, 1) := by decide +kernel
theorem dX4_readDelay_72 : decode cX4_readDelay 72 = .ok (.iconst 0, 1) := by decide +kernel
theorem dX4_readDelay_73 : decode cX4_readDelay 73 = .ok (.aload_n 0, 1) := by decide +kernel
theorem dX4_readDelay_74 : decode cX4_readDelay 74 = .ok (.getfield 9, 3) := by decide +kernel
theorem dX4_readDelay_77 : decode cX4_readDelay 77 = .ok (.getfield 104, 3) := by decide +kernel
theorem dX4_readDelay_80 : decode cX4_readDelay 80 = .ok (.iload_n 1, 1) := by decide +kernel
theorem dX4_readDelay_81 : decode cX4_readDelay 81 = .ok (.iaload, 1) := by decide +kernel
theorem dX4_readDelay_82 : decode cX4_readDelay 82 = .ok (.iconst 1, 1) := by decide +kernel
theorem dX4_readDelay_83 : decode cX4_readDelay 83 = .ok (.isub, 1) := by decide +kernel
theorem dX4_readDelay_84 : decode cX4_readDelay 84 = .ok (.invokevirtual 75, 3) := by decide +kernel
theorem dX4_readDelay_87 : decode cX4_readDelay 87 = .ok (.ifCond .ne 5, 3) := by decide +kernel
theorem dX4_readDelay_90 : decode cX4_readDelay 90 = .ok (.iconst 0, 1) := by decide +kernel
theorem dX4_readDelay_91 : decode cX4_readDelay 91 = .ok (.ireturn, 1) := by decide +kernel
theorem dX4_readDelay_92 : decode cX4_readDelay 92 = .ok (.aload_n 0, 1) := by decide +kernel
theorem dX4_readDelay_93 : decode cX4_readDelay 93 = .ok (.getfield 26, 3) := by decide +kernel
theorem dX4_readDelay_96 : decode cX4_readDelay 96 = .ok (.istore_n 3, 1) := by decide +kernel
theorem dX4_readDelay_97 : decode cX4_readDelay 97 = .ok (.aload_n 0, 1) := by decide +kernel
theorem dX4_readDelay_98 : decode cX4_readDelay 98 = .ok (.bipush 43, 2) := by decide +kernel
theorem dX4_readDelay_100 : decode cX4_readDelay 100 = .ok (.invokevirtual 44, 3) := by decide +kernel
theorem dX4_readDelay_103 : decode cX4_readDelay 103 = .ok (.ifCond .eq 14, 3) := by decide +kernel
theorem dX4_readDelay_106 : decode cX4_readDelay 106 = .ok (.aload_n 0, 1) := by decide +kernel
theorem dX4_readDelay_107 : decode cX4_readDelay 107 = .ok (.iconst 2, 1) := by decide +kernel
theorem dX4_readDelay_108 : decode cX4_readDelay 108 = .ok (.iconst 1, 1) := by decide +kernel
theorem dX4_readDelay_109 : decode cX4_readDelay 109 = .ok (.bipush 99, 2) := by decide +kernel
theorem dX4_readDelay_111 : decode cX4_readDelay 111 = .ok (.invokevirtual 75, 3) := by decide +kernel
theorem dX4_readDelay_114 : decode cX4_readDelay 114 = .ok (.ifCond .ne 5, 3) := by decide +kernel
theorem dX4_readDelay_117 : decode cX4_readDelay 117 = .ok (.iconst 0, 1) := by decide +kernel
theorem dX4_readDelay_118 : decode cX4_readDelay 118 = .ok (.ireturn, 1) := by decide +kernel
theorem dX4_readDelay_119 : decode cX4_readDelay 119 = .ok (.aload_n 0, 1) := by decide +kernel
theorem dX4_readDelay_120 : decode cX4_readDelay 120 = .ok (.getfield 9, 3) := by decide +kernel
theorem dX4_readDelay_123 : decode cX4_readDelay 123 = .ok (.iload_n 1, 1) := by decide +kernel
theorem dX4_readDelay_124 : decode cX4_readDelay 124 = .ok (.iload_n 2, 1) := by decide +kernel
theorem dX4_readDelay_125 : decode cX4_readDelay 125 = .ok (.iload_n 3, 1) := by decide +kernel
theorem dX4_readDelay_126 : decode cX4_readDelay 126 = .ok (.aload_n 0, 1) := by decide +kernel
theorem dX4_readDelay_127 : decode cX4_readDelay 127 = .ok (.getfield 26, 3) := by decide +kernel
theorem dX4_readDelay_130 : decode cX4_readDelay 130 = .ok (.invokevirtual 115, 3) := by decide +kernel
theorem dX4_readDelay_133 : decode cX4_readDelay 133 = .ok (.ifCond .ne 14, 3) := by decide +kernel
theorem dX4_readDelay_136 : decode cX4_readDelay 136 = .ok (.aload_n 0, 1) := by decide +kernel
theorem dX4_readDelay_137 : decode cX4_readDelay 137 = .ok (.aload_n 0, 1) := by decide +kernel
theorem dX4_readDelay_138 : decode cX4_readDelay 138 = .ok (.getfield 23, 3) := by decide +kernel
theorem dX4_readDelay_141 : decode cX4_readDelay 141 = .ok (.invokevirtual 52, 3) := by decide +kernel
theorem dX4_readDelay_144 : decode cX4_readDelay 144 = .ok (.ifCond .eq 7, 3) := by decide +kernel
theorem dX4_readDelay_147 : decode cX4_readDelay 147 = .ok (.iconst 1, 1) := by decide +kernel
theorem dX4_readDelay_148 : decode cX4_readDelay 148 = .ok (.goto 4, 3) := by decide +kernel
theorem dX4_readDelay_151 : decode cX4_readDelay 151 = .ok (.iconst 0, 1) := by decide +kernel
theorem dX4_readDelay_152 : decode cX4_readDelay 152 = .ok (.ireturn, 1) := by decide +kernel
theorem dX5_init_0 : decode cX5_init 0 = .ok (.aload_n 0, 1) := by decide +kernel
theorem dX5_init_1 : decode cX5_init 1 = .ok (.invokespecial 3, 3) := by decide +kernel
theorem dX5_init_4 : decode cX5_init 4 = .ok (.aload_n 0, 1) := by decide +kernel
theorem dX5_init_5 : decode cX5_init 5 = .ok (.aload_n 1, 1) := by decide +kernel
theorem dX5_init_6 : decode cX5_init 6 = .ok (.putfield 9, 3) := by decide +kernel
theorem dX5_init_9 : decode cX5_init 9 = .ok (.aload_n 0, 1) := by decide +kernel
theorem dX5_init_10 : decode cX5_init 10 = .ok (.aload_n 2, 1) := by decide +kernel
theorem dX5_init_11 : decode cX5_init 11 = .ok (.putfield 15, 3) := by decide +kernel
theorem dX5_init_14 : decode cX5_init 14 = .ok (.aload_n 0, 1) := by decide +kernel
theorem dX5_init_15 : decode cX5_init 15 = .ok (.bipush 13, 2) := by decide +kernel
theorem dX5_init_17 : decode cX5_init 17 = .ok (.bipush 7, 2) := by decide +kernel
theorem dX5_init_19 : decode cX5_init 19 = .ok (.multianewarray 19 2, 4) := by decide +kernel
theorem dX5_init_23 : decode cX5_init 23 = .ok (.putfield 21, 3) := by decide +kernel
theorem dX5_init_26 : decode cX5_init 26 = .ok (.aload_n 0, 1) := by decide +kernel
theorem dX5_init_27 : decode cX5_init 27 = .ok (.iconst 0, 1) := by decide +kernel
theorem dX5_init_28 : decode cX5_init 28 = .ok (.putfield 24, 3) := by decide +kernel
theorem dX5_init_31 : decode cX5_init 31 = .ok (.aload_n 0, 1) := by decide +kernel
theorem dX5_init_32 : decode cX5_init 32 = .ok (.iconst 0, 1) := by decide +kernel
theorem dX5_init_33 : decode cX5_init 33 = .ok (.putfield 28, 3) := by decide +kernel
theorem dX5_init_36 : decode cX5_init 36 = .ok (.aload_n 0, 1) := by decide +kernel
theorem dX5_init_37 : decode cX5_init 37 = .ok (.iconst 0, 1) := by decide +kernel
theorem dX5_init_38 : decode cX5_init 38 = .ok (.putfield 31, 3) := by decide +kernel
theorem dX5_init_41 : decode cX5_init 41 = .ok (.aload_n 0, 1) := by decide +kernel
theorem dX5_init_42 : decode cX5_init 42 = .ok (.iconst 0, 1) := by decide +kernel
theorem dX5_init_43 : decode cX5_init 43 = .ok (.putfield 34, 3) := by decide +kernel
theorem dX5_init_46 : decode cX5_init 46 = .ok (.return_, 1) := by decide +kernel
theorem dX5_trace_0 : decode cX5_trace 0 = .ok (.aload_n 0, 1) := by decide +kernel
theorem dX5_trace_1 : decode cX5_trace 1 = .ok (.iconst 0, 1) := by decide +kernel
theorem dX5_trace_2 : decode cX5_trace 2 = .ok (.putfield 24, 3) := by decide +kernel
theorem dX5_trace_5 : decode cX5_trace 5 = .ok (.aload_n 0, 1) := by decide +kernel
theorem dX5_trace_6 : decode cX5_trace 6 = .ok (.getfield 15, 3) := by decide +kernel
theorem dX5_trace_9 : decode cX5_trace 9 = .ok (.iload_n 1, 1) := by decide +kernel
theorem dX5_trace_10 : decode cX5_trace 10 = .ok (.iload_n 2, 1) := by decide +kernel
theorem dX5_trace_11 : decode cX5_trace 11 = .ok (.iload 4, 2) := by decide +kernel
theorem dX5_trace_13 : decode cX5_trace 13 = .ok (.invokevirtual 37, 3) := by decide +kernel
theorem dX5_trace_16 : decode cX5_trace 16 = .ok (.aload_n 0, 1) := by decide +kernel
theorem dX5_trace_17 : decode cX5_trace 17 = .ok (.getfield 15, 3) := by decide +kernel
theorem dX5_trace_20 : decode cX5_trace 20 = .ok (.getfield 43, 3) := by decide +kernel
theorem dX5_trace_23 : decode cX5_trace 23 = .ok (.iload 4, 2) := by decide +kernel
theorem dX5_trace_25 : decode cX5_trace 25 = .ok (.aaload, 1) := by decide +kernel
