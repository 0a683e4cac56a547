theorem dX9_leg_81 : decode cX9_leg 81 = .ok (.iload 5, 2) := by decide +kernel
theorem dX9_leg_83 : decode cX9_leg 83 = .ok (.isub, 1) := by decide +kernel
theorem dX9_leg_84 : decode cX9_leg 84 = .ok (.iload 6, 2) := by decide +kernel
theorem dX9_leg_86 : decode cX9_leg 86 = .ok (.invokevirtual 291, 3) := by decide +kernel
theorem dX9_leg_89 : decode cX9_leg 89 = .ok (.goto 4, 3) := by decide +kernel
theorem dX9_leg_92 : decode cX9_leg 92 = .ok (.iconst (-1), 1) := by decide +kernel
theorem dX9_leg_93 : decode cX9_leg 93 = .ok (.ireturn, 1) := by decide +kernel
theorem dX9_fare_0 : decode cX9_fare 0 = .ok (.aload_n 0, 1) := by decide +kernel
theorem dX9_fare_1 : decode cX9_fare 1 = .ok (.iconst 0, 1) := by decide +kernel
theorem dX9_fare_2 : decode cX9_fare 2 = .ok (.putfield 87, 3) := by decide +kernel
theorem dX9_fare_5 : decode cX9_fare 5 = .ok (.iload_n 1, 1) := by decide +kernel
theorem dX9_fare_6 : decode cX9_fare 6 = .ok (.iload_n 3, 1) := by decide +kernel
theorem dX9_fare_7 : decode cX9_fare 7 = .ok (.iload_n 2, 1) := by decide +kernel
theorem dX9_fare_8 : decode cX9_fare 8 = .ok (.iload 4, 2) := by decide +kernel
theorem dX9_fare_10 : decode cX9_fare 10 = .ok (.invokestatic 278, 3) := by decide +kernel
theorem dX9_fare_13 : decode cX9_fare 13 = .ok (.ifCond .ge 12, 3) := by decide +kernel
theorem dX9_fare_16 : decode cX9_fare 16 = .ok (.iload_n 1, 1) := by decide +kernel
theorem dX9_fare_17 : decode cX9_fare 17 = .ok (.iload_n 3, 1) := by decide +kernel
theorem dX9_fare_18 : decode cX9_fare 18 = .ok (.iload_n 2, 1) := by decide +kernel
theorem dX9_fare_19 : decode cX9_fare 19 = .ok (.iload 4, 2) := by decide +kernel
theorem dX9_fare_21 : decode cX9_fare 21 = .ok (.invokestatic 278, 3) := by decide +kernel
theorem dX9_fare_24 : decode cX9_fare 24 = .ok (.ireturn, 1) := by decide +kernel
theorem dX9_fare_25 : decode cX9_fare 25 = .ok (.aload_n 0, 1) := by decide +kernel
theorem dX9_fare_26 : decode cX9_fare 26 = .ok (.iload_n 1, 1) := by decide +kernel
theorem dX9_fare_27 : decode cX9_fare 27 = .ok (.iload_n 2, 1) := by decide +kernel
theorem dX9_fare_28 : decode cX9_fare 28 = .ok (.iload_n 3, 1) := by decide +kernel
theorem dX9_fare_29 : decode cX9_fare 29 = .ok (.iload 4, 2) := by decide +kernel
theorem dX9_fare_31 : decode cX9_fare 31 = .ok (.invokevirtual 285, 3) := by decide +kernel
theorem dX9_fare_34 : decode cX9_fare 34 = .ok (.ifCond .ne 6, 3) := by decide +kernel
theorem dX9_fare_37 : decode cX9_fare 37 = .ok (.bipush (-5), 2) := by decide +kernel
theorem dX9_fare_39 : decode cX9_fare 39 = .ok (.ireturn, 1) := by decide +kernel
theorem dX9_fare_40 : decode cX9_fare 40 = .ok (.iconst 0, 1) := by decide +kernel
theorem dX9_fare_41 : decode cX9_fare 41 = .ok (.istore 5, 2) := by decide +kernel
theorem dX9_fare_43 : decode cX9_fare 43 = .ok (.iconst 0, 1) := by decide +kernel
theorem dX9_fare_44 : decode cX9_fare 44 = .ok (.istore 6, 2) := by decide +kernel
theorem dX9_fare_46 : decode cX9_fare 46 = .ok (.iload 6, 2) := by decide +kernel
theorem dX9_fare_48 : decode cX9_fare 48 = .ok (.aload_n 0, 1) := by decide +kernel
theorem dX9_fare_49 : decode cX9_fare 49 = .ok (.getfield 155, 3) := by decide +kernel
theorem dX9_fare_52 : decode cX9_fare 52 = .ok (.if_icmp .ge 46, 3) := by decide +kernel
theorem dX9_fare_55 : decode cX9_fare 55 = .ok (.iload 5, 2) := by decide +kernel
theorem dX9_fare_57 : decode cX9_fare 57 = .ok (.aload_n 0, 1) := by decide +kernel
theorem dX9_fare_58 : decode cX9_fare 58 = .ok (.getfield 44, 3) := by decide +kernel
theorem dX9_fare_61 : decode cX9_fare 61 = .ok (.iload 6, 2) := by decide +kernel
theorem dX9_fare_63 : decode cX9_fare 63 = .ok (.iaload, 1) := by decide +kernel
theorem dX9_fare_64 : decode cX9_fare 64 = .ok (.ifCond .ge 7, 3) := by decide +kernel
theorem dX9_fare_67 : decode cX9_fare 67 = .ok (.iconst 0, 1) := by decide +kernel
theorem dX9_fare_68 : decode cX9_fare 68 = .ok (.goto 21, 3) := by decide +kernel
theorem dX9_fare_71 : decode cX9_fare 71 = .ok (.aload_n 0, 1) := by decide +kernel
theorem dX9_fare_72 : decode cX9_fare 72 = .ok (.aload_n 0, 1) := by decide +kernel
theorem dX9_fare_73 : decode cX9_fare 73 = .ok (.getfield 44, 3) := by decide +kernel
theorem dX9_fare_76 : decode cX9_fare 76 = .ok (.iload 6, 2) := by decide +kernel
theorem dX9_fare_78 : decode cX9_fare 78 = .ok (.iaload, 1) := by decide +kernel
theorem dX9_fare_79 : decode cX9_fare 79 = .ok (.aload_n 0, 1) := by decide +kernel
theorem dX9_fare_80 : decode cX9_fare 80 = .ok (.getfield 62, 3) := by decide +kernel
theorem dX9_fare_83 : decode cX9_fare 83 = .ok (.iload 6, 2) := by decide +kernel
theorem dX9_fare_85 : decode cX9_fare 85 = .ok (.iaload, 1) := by decide +kernel
theorem dX9_fare_86 : decode cX9_fare 86 = .ok (.invokevirtual 294, 3) := by decide +kernel
theorem dX9_fare_89 : decode cX9_fare 89 = .ok (.iadd, 1) := by decide +kernel
theorem dX9_fare_90 : decode cX9_fare 90 = .ok (.istore 5, 2) := by decide +kernel
theorem dX9_fare_92 : decode cX9_fare 92 = .ok (.iinc 6 1, 3) := by decide +kernel
theorem dX9_fare_95 : decode cX9_fare 95 = .ok (.goto (-49), 3) := by decide +kernel
theorem dX9_fare_98 : decode cX9_fare 98 = .ok (.iload 5, 2) := by decide +kernel
theorem dX9_fare_100 : decode cX9_fare 100 = .ok (.ireturn, 1) := by decide +kernel
theorem dX9_waiting_0 : decode cX9_waiting 0 = .ok (.aload_n 0, 1) := by decide +kernel
theorem dX9_waiting_1 : decode cX9_waiting 1 = .ok (.iconst 0, 1) := by decide +kernel
theorem dX9_waiting_2 : decode cX9_waiting 2 = .ok (.putfield 87, 3) := by decide +kernel
theorem dX9_waiting_5 : decode cX9_waiting 5 = .ok (.iload_n 1, 1) := by decide +kernel
theorem dX9_waiting_6 : decode cX9_waiting 6 = .ok (.iload_n 3, 1) := by decide +kernel
theorem dX9_waiting_7 : decode cX9_waiting 7 = .ok (.iload_n 2, 1) := by decide +kernel
theorem dX9_waiting_8 : decode cX9_waiting 8 = .ok (.iload 4, 2) := by decide +kernel
theorem dX9_waiting_10 : decode cX9_waiting 10 = .ok (.invokestatic 278, 3) := by decide +kernel
theorem dX9_waiting_13 : decode cX9_waiting 13 = .ok (.ifCond .ge 12, 3) := by decide +kernel
theorem dX9_waiting_16 : decode cX9_waiting 16 = .ok (.iload_n 1, 1) := by decide +kernel
theorem dX9_waiting_17 : decode cX9_waiting 17 = .ok (.iload_n 3, 1) := by decide +kernel
theorem dX9_waiting_18 : decode cX9_waiting 18 = .ok (.iload_n 2, 1) := by decide +kernel
theorem dX9_waiting_19 : decode cX9_waiting 19 = .ok (.iload 4, 2) := by decide +kernel
theorem dX9_waiting_21 : decode cX9_waiting 21 = .ok (.invokestatic 278, 3) := by decide +kernel
theorem dX9_waiting_24 : decode cX9_waiting 24 = .ok (.ireturn, 1) := by decide +kernel
theorem dX9_waiting_25 : decode cX9_waiting 25 = .ok (.aload_n 0, 1) := by decide +kernel
theorem dX9_waiting_26 : decode cX9_waiting 26 = .ok (.iload_n 1, 1) := by decide +kernel
theorem dX9_waiting_27 : decode cX9_waiting 27 = .ok (.iload_n 2, 1) := by decide +kernel
theorem dX9_waiting_28 : decode cX9_waiting 28 = .ok (.iload_n 3, 1) := by decide +kernel
theorem dX9_waiting_29 : decode cX9_waiting 29 = .ok (.iload 4, 2) := by decide +kernel
theorem dX9_waiting_31 : decode cX9_waiting 31 = .ok (.invokevirtual 285, 3) := by decide +kernel
theorem dX9_waiting_34 : decode cX9_waiting 34 = .ok (.ifCond .ne 6, 3) := by decide +kernel
theorem dX9_waiting_37 : decode cX9_waiting 37 = .ok (.bipush (-5), 2) := by decide +kernel
theorem dX9_waiting_39 : decode cX9_waiting 39 = .ok (.ireturn, 1) := by decide +kernel
theorem dX9_waiting_40 : decode cX9_waiting 40 = .ok (.aload_n 0, 1) := by decide +kernel
theorem dX9_waiting_41 : decode cX9_waiting 41 = .ok (.getfield 41, 3) := by decide +kernel
theorem dX9_waiting_44 : decode cX9_waiting 44 = .ok (.bipush 12, 2) := by decide +kernel
theorem dX9_waiting_46 : decode cX9_waiting 46 = .ok (.iload 4, 2) := by decide +kernel
theorem dX9_waiting_48 : decode cX9_waiting 48 = .ok (.imul, 1) := by decide +kernel
theorem dX9_waiting_49 : decode cX9_waiting 49 = .ok (.iload_n 3, 1) := by decide +kernel
theorem dX9_waiting_50 : decode cX9_waiting 50 = .ok (.iadd, 1) := by decide +kernel
theorem dX9_waiting_51 : decode cX9_waiting 51 = .ok (.iaload, 1) := by decide +kernel
theorem dX9_waiting_52 : decode cX9_waiting 52 = .ok (.iload_n 2, 1) := by decide +kernel
theorem dX9_waiting_53 : decode cX9_waiting 53 = .ok (.isub, 1) := by decide +kernel
theorem dX9_waiting_54 : decode cX9_waiting 54 = .ok (.istore 5, 2) := by decide +kernel
theorem dX9_waiting_56 : decode cX9_waiting 56 = .ok (.iconst 0, 1) := by decide +kernel
theorem dX9_waiting_57 : decode cX9_waiting 57 = .ok (.istore 6, 2) := by decide +kernel
theorem dX9_waiting_59 : decode cX9_waiting 59 = .ok (.iload 6, 2) := by decide +kernel
theorem dX9_waiting_61 : decode cX9_waiting 61 = .ok (.aload_n 0, 1) := by decide +kernel
theorem dX9_waiting_62 : decode cX9_waiting 62 = .ok (.getfield 155, 3) := by decide +kernel
theorem dX9_waiting_65 : decode cX9_waiting 65 = .ok (.if_icmp .ge 29, 3) := by decide +kernel
theorem dX9_waiting_68 : decode cX9_waiting 68 = .ok (.iload 5, 2) := by decide +kernel
theorem dX9_waiting_70 : decode cX9_waiting 70 = .ok (.aload_n 0, 1) := by decide +kernel
theorem dX9_waiting_71 : decode cX9_waiting 71 = .ok (.getfield 59, 3) := by decide +kernel
theorem dX9_waiting_74 : decode cX9_waiting 74 = .ok (.iload 6, 2) := by decide +kernel
theorem dX9_waiting_76 : decode cX9_waiting 76 = .ok (.iaload, 1) := by decide +kernel
theorem dX9_waiting_77 : decode cX9_waiting 77 = .ok (.aload_n 0, 1) := by decide +kernel
theorem dX9_waiting_78 : decode cX9_waiting 78 = .ok (.getfield 56, 3) := by decide +kernel
theorem dX9_waiting_81 : decode cX9_waiting 81 = .ok (.iload 6, 2) := by decide +kernel
theorem dX9_waiting_83 : decode cX9_waiting 83 = .ok (.iaload, 1) := by decide +kernel
theorem dX9_waiting_84 : decode cX9_waiting 84 = .ok (.isub, 1) := by decide +kernel
theorem dX9_waiting_85 : decode cX9_waiting 85 = .ok (.isub, 1) := by decide +kernel
theorem dX9_waiting_86 : decode cX9_waiting 86 = .ok (.istore 5, 2) := by decide +kernel
theorem dX9_waiting_88 : decode cX9_waiting 88 = .ok (.iinc 6 1, 3) := by decide +kernel
theorem dX9_waiting_91 : decode cX9_waiting 91 = .ok (.goto (-32), 3) := by decide +kernel
theorem dX9_waiting_94 : decode cX9_waiting 94 = .ok (.iload 5, 2) := by decide +kernel
theorem dX9_waiting_96 : decode cX9_waiting 96 = .ok (.ireturn, 1) := by decide +kernel
theorem dX9_latest_0 : decode cX9_latest 0 = .ok (.aload_n 0, 1) := by decide +kernel
theorem dX9_latest_1 : decode cX9_latest 1 = .ok (.iconst 0, 1) := by decide +kernel
theorem dX9_latest_2 : decode cX9_latest 2 = .ok (.putfield 87, 3) := by decide +kernel
theorem dX9_latest_5 : decode cX9_latest 5 = .ok (.iload_n 1, 1) := by decide +kernel
theorem dX9_latest_6 : decode cX9_latest 6 = .ok (.iload_n 2, 1) := by decide +kernel
theorem dX9_latest_7 : decode cX9_latest 7 = .ok (.iload_n 3, 1) := by decide +kernel
theorem dX9_latest_8 : decode cX9_latest 8 = .ok (.iload 4, 2) := by decide +kernel
theorem dX9_latest_10 : decode cX9_latest 10 = .ok (.invokestatic 278, 3) := by decide +kernel
theorem dX9_latest_13 : decode cX9_latest 13 = .ok (.ifCond .ge 12, 3) := by decide +kernel
theorem dX9_latest_16 : decode cX9_latest 16 = .ok (.iload_n 1, 1) := by decide +kernel
theorem dX9_latest_17 : decode cX9_latest 17 = .ok (.iload_n 2, 1) := by decide +kernel
theorem dX9_latest_18 : decode cX9_latest 18 = .ok (.iload_n 3, 1) := by decide +kernel
theorem dX9_latest_19 : decode cX9_latest 19 = .ok (.iload 4, 2) := by decide +kernel
theorem dX9_latest_21 : decode cX9_latest 21 = .ok (.invokestatic 278, 3) := by decide +kernel
theorem dX9_latest_24 : decode cX9_latest 24 = .ok (.ireturn, 1) := by decide +kernel
theorem dX9_latest_25 : decode cX9_latest 25 = .ok (.iconst (-1), 1) := by decide +kernel
theorem dX9_latest_26 : decode cX9_latest 26 = .ok (.istore 5, 2) := by decide +kernel
theorem dX9_latest_28 : decode cX9_latest 28 = .ok (.sipush 1999, 3) := by decide +kernel
theorem dX9_latest_31 : decode cX9_latest 31 = .ok (.istore 6, 2) := by decide +kernel
theorem dX9_latest_33 : decode cX9_latest 33 = .ok (.iload 5, 2) := by decide +kernel
theorem dX9_latest_35 : decode cX9_latest 35 = .ok (.iload 6, 2) := by decide +kernel
theorem dX9_latest_37 : decode cX9_latest 37 = .ok (.if_icmp .ge 68, 3) := by decide +kernel
theorem dX9_latest_40 : decode cX9_latest 40 = .ok (.iload 5, 2) := by decide +kernel
theorem dX9_latest_42 : decode cX9_latest 42 = .ok (.iload 6, 2) := by decide +kernel
theorem dX9_latest_44 : decode cX9_latest 44 = .ok (.iadd, 1) := by decide +kernel
theorem dX9_latest_45 : decode cX9_latest 45 = .ok (.iconst 1, 1) := by decide +kernel
theorem dX9_latest_46 : decode cX9_latest 46 = .ok (.iadd, 1) := by decide +kernel
theorem dX9_latest_47 : decode cX9_latest 47 = .ok (.iconst 2, 1) := by decide +kernel
theorem dX9_latest_48 : decode cX9_latest 48 = .ok (.idiv, 1) := by decide +kernel
theorem dX9_latest_49 : decode cX9_latest 49 = .ok (.istore 7, 2) := by decide +kernel
theorem dX9_latest_51 : decode cX9_latest 51 = .ok (.aload_n 0, 1) := by decide +kernel
theorem dX9_latest_52 : decode cX9_latest 52 = .ok (.iload_n 1, 1) := by decide +kernel
theorem dX9_latest_53 : decode cX9_latest 53 = .ok (.iload 7, 2) := by decide +kernel
theorem dX9_latest_55 : decode cX9_latest 55 = .ok (.iload_n 2, 1) := by decide +kernel
theorem dX9_latest_56 : decode cX9_latest 56 = .ok (.iload 4, 2) := by decide +kernel
theorem dX9_latest_58 : decode cX9_latest 58 = .ok (.invokevirtual 282, 3) := by decide +kernel
theorem dX9_latest_61 : decode cX9_latest 61 = .ok (.iload_n 3, 1) := by decide +kernel
theorem dX9_latest_62 : decode cX9_latest 62 = .ok (.if_icmp .gt 7, 3) := by decide +kernel
theorem dX9_latest_65 : decode cX9_latest 65 = .ok (.iconst 1, 1) := by decide +kernel
theorem dX9_latest_66 : decode cX9_latest 66 = .ok (.goto 4, 3) := by decide +kernel
theorem dX9_latest_69 : decode cX9_latest 69 = .ok (.iconst 0, 1) := by decide +kernel
theorem dX9_latest_70 : decode cX9_latest 70 = .ok (.istore 8, 2) := by decide +kernel
theorem dX9_latest_72 : decode cX9_latest 72 = .ok (.iload 8, 2) := by decide +kernel
theorem dX9_latest_74 : decode cX9_latest 74 = .ok (.ifCond .eq 8, 3) := by decide +kernel
theorem dX9_latest_77 : decode cX9_latest 77 = .ok (.iload 7, 2) := by decide +kernel
theorem dX9_latest_79 : decode cX9_latest 79 = .ok (.goto 5, 3) := by decide +kernel
theorem dX9_latest_82 : decode cX9_latest 82 = .ok (.iload 5, 2) := by decide +kernel
theorem dX9_latest_84 : decode cX9_latest 84 = .ok (.istore 5, 2) := by decide +kernel
theorem dX9_latest_86 : decode cX9_latest 86 = .ok (.iload 8, 2) := by decide +kernel
theorem dX9_latest_88 : decode cX9_latest 88 = .ok (.ifCond .eq 8, 3) := by decide +kernel
theorem dX9_latest_91 : decode cX9_latest 91 = .ok (.iload 6, 2) := by decide +kernel
theorem dX9_latest_93 : decode cX9_latest 93 = .ok (.goto 7, 3) := by decide +kernel
theorem dX9_latest_96 : decode cX9_latest 96 = .ok (.iload 7, 2) := by decide +kernel
theorem dX9_latest_98 : decode cX9_latest 98 = .ok (.iconst 1, 1) := by decide +kernel
theorem dX9_latest_99 : decode cX9_latest 99 = .ok (.isub, 1) := by decide +kernel
theorem dX9_latest_100 : decode cX9_latest 100 = .ok (.istore 6, 2) := by decide +kernel
theorem dX9_latest_102 : decode cX9_latest 102 = .ok (.goto (-69), 3) := by decide +kernel
theorem dX9_latest_105 : decode cX9_latest 105 = .ok (.iload 5, 2) := by decide +kernel
theorem dX9_latest_107 : decode cX9_latest 107 = .ok (.ifCond .ge 8, 3) := by decide +kernel
theorem dX9_latest_110 : decode cX9_latest 110 = .ok (.bipush (-5), 2) := by decide +kernel
theorem dX9_latest_112 : decode cX9_latest 112 = .ok (.goto 5, 3) := by decide +kernel
theorem dX9_latest_115 : decode cX9_latest 115 = .ok (.iload 5, 2) := by decide +kernel
theorem dX9_latest_117 : decode cX9_latest 117 = .ok (.ireturn, 1) := by decide +kernel
theorem dX9_profile_0 : decode cX9_profile 0 = .ok (.aload_n 0, 1) := by decide +kernel
theorem dX9_profile_1 : decode cX9_profile 1 = .ok (.iconst 0, 1) := by decide +kernel
theorem dX9_profile_2 : decode cX9_profile 2 = .ok (.putfield 87, 3) := by decide +kernel
theorem dX9_profile_5 : decode cX9_profile 5 = .ok (.iload_n 1, 1) := by decide +kernel
theorem dX9_profile_6 : decode cX9_profile 6 = .ok (.invokestatic 260, 3) := by decide +kernel
theorem dX9_profile_9 : decode cX9_profile 9 = .ok (.ifCond .eq 16, 3) := by decide +kernel
theorem dX9_profile_12 : decode cX9_profile 12 = .ok (.iload_n 2, 1) := by decide +kernel
theorem dX9_profile_13 : decode cX9_profile 13 = .ok (.invokestatic 260, 3) := by decide +kernel
theorem dX9_profile_16 : decode cX9_profile 16 = .ok (.ifCond .eq 9, 3) := by decide +kernel
theorem dX9_profile_19 : decode cX9_profile 19 = .ok (.iload 6, 2) := by decide +kernel
theorem dX9_profile_21 : decode cX9_profile 21 = .ok (.iconst (-1), 1) := by decide +kernel
theorem dX9_profile_22 : decode cX9_profile 22 = .ok (.if_icmp .ge 5, 3) := by decide +kernel
theorem dX9_profile_25 : decode cX9_profile 25 = .ok (.iconst (-1), 1) := by decide +kernel
theorem dX9_profile_26 : decode cX9_profile 26 = .ok (.ireturn, 1) := by decide +kernel
theorem dX9_profile_27 : decode cX9_profile 27 = .ok (.iload_n 3, 1) := by decide +kernel
theorem dX9_profile_28 : decode cX9_profile 28 = .ok (.i2l, 1) := by decide +kernel
theorem dX9_profile_29 : decode cX9_profile 29 = .ok (.lconst 0, 1) := by decide +kernel
theorem dX9_profile_30 : decode cX9_profile 30 = .ok (.ldc2_w 276, 3) := by decide +kernel
theorem dX9_profile_33 : decode cX9_profile 33 = .ok (.invokestatic 92, 3) := by decide +kernel
theorem dX9_profile_36 : decode cX9_profile 36 = .ok (.ifCond .eq 36, 3) := by decide +kernel
theorem dX9_profile_39 : decode cX9_profile 39 = .ok (.iload 4, 2) := by decide +kernel
theorem dX9_profile_41 : decode cX9_profile 41 = .ok (.invokestatic 273, 3) := by decide +kernel
theorem dX9_profile_44 : decode cX9_profile 44 = .ok (.ifCond .eq 28, 3) := by decide +kernel
theorem dX9_profile_47 : decode cX9_profile 47 = .ok (.iload 5, 2) := by decide +kernel
theorem dX9_profile_49 : decode cX9_profile 49 = .ok (.invokestatic 273, 3) := by decide +kernel
theorem dX9_profile_52 : decode cX9_profile 52 = .ok (.ifCond .eq 20, 3) := by decide +kernel
theorem dX9_profile_55 : decode cX9_profile 55 = .ok (.iload 5, 2) := by decide +kernel
theorem dX9_profile_57 : decode cX9_profile 57 = .ok (.iload 4, 2) := by decide +kernel
theorem dX9_profile_59 : decode cX9_profile 59 = .ok (.if_icmp .lt 13, 3) := by decide +kernel
theorem dX9_profile_62 : decode cX9_profile 62 = .ok (.iload 5, 2) := by decide +kernel
theorem dX9_profile_64 : decode cX9_profile 64 = .ok (.iload 4, 2) := by decide +kernel
theorem dX9_profile_66 : decode cX9_profile 66 = .ok (.isub, 1) := by decide +kernel
theorem dX9_profile_67 : decode cX9_profile 67 = .ok (.bipush 100, 2) := by decide +kernel
theorem dX9_profile_69 : decode cX9_profile 69 = .ok (.if_icmp .lt 6, 3) := by decide +kernel
theorem dX9_profile_72 : decode cX9_profile 72 = .ok (.bipush (-2), 2) := by decide +kernel
theorem dX9_profile_74 : decode cX9_profile 74 = .ok (.ireturn, 1) := by decide +kernel
theorem dX9_profile_75 : decode cX9_profile 75 = .ok (.iconst 0, 1) := by decide +kernel
theorem dX9_profile_76 : decode cX9_profile 76 = .ok (.istore 7, 2) := by decide +kernel
theorem dX9_profile_78 : decode cX9_profile 78 = .ok (.bipush (-5), 2) := by decide +kernel
theorem dX9_profile_80 : decode cX9_profile 80 = .ok (.istore 8, 2) := by decide +kernel
theorem dX9_profile_82 : decode cX9_profile 82 = .ok (.aload_n 0, 1) := by decide +kernel
theorem dX9_profile_83 : decode cX9_profile 83 = .ok (.iload_n 1, 1) := by decide +kernel
theorem dX9_profile_84 : decode cX9_profile 84 = .ok (.iload 4, 2) := by decide +kernel
theorem dX9_profile_86 : decode cX9_profile 86 = .ok (.iload_n 2, 1) := by decide +kernel
theorem dX9_profile_87 : decode cX9_profile 87 = .ok (.iload_n 3, 1) := by decide +kernel
theorem dX9_profile_88 : decode cX9_profile 88 = .ok (.invokevirtual 282, 3) := by decide +kernel
theorem dX9_profile_91 : decode cX9_profile 91 = .ok (.istore 9, 2) := by decide +kernel
theorem dX9_profile_93 : decode cX9_profile 93 = .ok (.iload 4, 2) := by decide +kernel
theorem dX9_profile_95 : decode cX9_profile 95 = .ok (.istore 10, 2) := by decide +kernel
theorem dX9_profile_97 : decode cX9_profile 97 = .ok (.iload 10, 2) := by decide +kernel
theorem dX9_profile_99 : decode cX9_profile 99 = .ok (.iload 5, 2) := by decide +kernel
theorem dX9_profile_101 : decode cX9_profile 101 = .ok (.if_icmp .gt 59, 3) := by decide +kernel
theorem dX9_profile_104 : decode cX9_profile 104 = .ok (.aload_n 0, 1) := by decide +kernel
theorem dX9_profile_105 : decode cX9_profile 105 = .ok (.iload_n 1, 1) := by decide +kernel
theorem dX9_profile_106 : decode cX9_profile 106 = .ok (.iload 10, 2) := by decide +kernel
theorem dX9_profile_108 : decode cX9_profile 108 = .ok (.iconst 1, 1) := by decide +kernel
theorem dX9_profile_109 : decode cX9_profile 109 = .ok (.iadd, 1) := by decide +kernel
theorem dX9_profile_110 : decode cX9_profile 110 = .ok (.iload_n 2, 1) := by decide +kernel
theorem dX9_profile_111 : decode cX9_profile 111 = .ok (.iload_n 3, 1) := by decide +kernel
theorem dX9_profile_112 : decode cX9_profile 112 = .ok (.invokevirtual 282, 3) := by decide +kernel
theorem dX9_profile_115 : decode cX9_profile 115 = .ok (.istore 11, 2) := by decide +kernel
theorem dX9_profile_117 : decode cX9_profile 117 = .ok (.iload 9, 2) := by decide +kernel
theorem dX9_profile_119 : decode cX9_profile 119 = .ok (.ldc 112, 2) := by decide +kernel
theorem dX9_profile_121 : decode cX9_profile 121 = .ok (.if_icmp .ge 29, 3) := by decide +kernel
theorem dX9_profile_124 : decode cX9_profile 124 = .ok (.iload 9, 2) := by decide +kernel
theorem dX9_profile_126 : decode cX9_profile 126 = .ok (.iload 11, 2) := by decide +kernel
theorem dX9_profile_128 : decode cX9_profile 128 = .ok (.if_icmp .ge 22, 3) := by decide +kernel
theorem dX9_profile_131 : decode cX9_profile 131 = .ok (.iload 7, 2) := by decide +kernel
theorem dX9_profile_133 : decode cX9_profile 133 = .ok (.iload 6, 2) := by decide +kernel
theorem dX9_profile_135 : decode cX9_profile 135 = .ok (.if_icmp .ne 8, 3) := by decide +kernel
theorem dX9_profile_138 : decode cX9_profile 138 = .ok (.iload 10, 2) := by decide +kernel
theorem dX9_profile_140 : decode cX9_profile 140 = .ok (.goto 5, 3) := by decide +kernel
theorem dX9_profile_143 : decode cX9_profile 143 = .ok (.iload 8, 2) := by decide +kernel
theorem dX9_profile_145 : decode cX9_profile 145 = .ok (.istore 8, 2) := by decide +kernel
theorem dX9_profile_147 : decode cX9_profile 147 = .ok (.iinc 7 1, 3) := by decide +kernel
theorem dX9_profile_150 : decode cX9_profile 150 = .ok (.iload 11, 2) := by decide +kernel
theorem dX9_profile_152 : decode cX9_profile 152 = .ok (.istore 9, 2) := by decide +kernel
theorem dX9_profile_154 : decode cX9_profile 154 = .ok (.iinc 10 1, 3) := by decide +kernel
theorem dX9_profile_157 : decode cX9_profile 157 = .ok (.goto (-60), 3) := by decide +kernel
theorem dX9_profile_160 : decode cX9_profile 160 = .ok (.iload 6, 2) := by decide +kernel
theorem dX9_profile_162 : decode cX9_profile 162 = .ok (.iconst (-1), 1) := by decide +kernel
theorem dX9_profile_163 : decode cX9_profile 163 = .ok (.if_icmp .ne 8, 3) := by decide +kernel
theorem dX9_profile_166 : decode cX9_profile 166 = .ok (.iload 7, 2) := by decide +kernel
theorem dX9_profile_168 : decode cX9_profile 168 = .ok (.goto 5, 3) := by decide +kernel
theorem dX9_profile_171 : decode cX9_profile 171 = .ok (.iload 8, 2) := by decide +kernel
theorem dX9_profile_173 : decode cX9_profile 173 = .ok (.ireturn, 1) := by decide +kernel
theorem dX9_reached_0 : decode cX9_reached 0 = .ok (.aload_n 0, 1) := by decide +kernel
theorem dX9_reached_1 : decode cX9_reached 1 = .ok (.iconst 0, 1) := by decide +kernel
theorem dX9_reached_2 : decode cX9_reached 2 = .ok (.putfield 87, 3) := by decide +kernel
theorem dX9_reached_5 : decode cX9_reached 5 = .ok (.iload_n 1, 1) := by decide +kernel
theorem dX9_reached_6 : decode cX9_reached 6 = .ok (.invokestatic 260, 3) := by decide +kernel
theorem dX9_reached_9 : decode cX9_reached 9 = .ok (.ifCond .ne 5, 3) := by decide +kernel
theorem dX9_reached_12 : decode cX9_reached 12 = .ok (.iconst (-1), 1) := by decide +kernel
theorem dX9_reached_13 : decode cX9_reached 13 = .ok (.ireturn, 1) := by decide +kernel
theorem dX9_reached_14 : decode cX9_reached 14 = .ok (.iload_n 2, 1) := by decide +kernel
theorem dX9_reached_15 : decode cX9_reached 15 = .ok (.invokestatic 273, 3) := by decide +kernel
theorem dX9_reached_18 : decode cX9_reached 18 = .ok (.ifCond .eq 23, 3) := by decide +kernel
theorem dX9_reached_21 : decode cX9_reached 21 = .ok (.iload_n 3, 1) := by decide +kernel
theorem dX9_reached_22 : decode cX9_reached 22 = .ok (.invokestatic 273, 3) := by decide +kernel
theorem dX9_reached_25 : decode cX9_reached 25 = .ok (.ifCond .eq 16, 3) := by decide +kernel
theorem dX9_reached_28 : decode cX9_reached 28 = .ok (.iload 4, 2) := by decide +kernel
theorem dX9_reached_30 : decode cX9_reached 30 = .ok (.i2l, 1) := by decide +kernel
theorem dX9_reached_31 : decode cX9_reached 31 = .ok (.lconst 0, 1) := by decide +kernel
theorem dX9_reached_32 : decode cX9_reached 32 = .ok (.ldc2_w 276, 3) := by decide +kernel
theorem dX9_reached_35 : decode cX9_reached 35 = .ok (.invokestatic 92, 3) := by decide +kernel
theorem dX9_reached_38 : decode cX9_reached 38 = .ok (.ifCond .ne 6, 3) := by decide +kernel
theorem dX9_reached_41 : decode cX9_reached 41 = .ok (.bipush (-2), 2) := by decide +kernel
theorem dX9_reached_43 : decode cX9_reached 43 = .ok (.ireturn, 1) := by decide +kernel
theorem dX9_reached_44 : decode cX9_reached 44 = .ok (.aload_n 0, 1) := by decide +kernel
theorem dX9_reached_45 : decode cX9_reached 45 = .ok (.iload_n 1, 1) := by decide +kernel
theorem dX9_reached_46 : decode cX9_reached 46 = .ok (.iload_n 2, 1) := by decide +kernel
theorem dX9_reached_47 : decode cX9_reached 47 = .ok (.invokevirtual 138, 3) := by decide +kernel
theorem dX9_reached_50 : decode cX9_reached 50 = .ok (.iconst 0, 1) := by decide +kernel
theorem dX9_reached_51 : decode cX9_reached 51 = .ok (.istore 5, 2) := by decide +kernel
theorem dX9_reached_53 : decode cX9_reached 53 = .ok (.iconst 0, 1) := by decide +kernel
theorem dX9_reached_54 : decode cX9_reached 54 = .ok (.istore 6, 2) := by decide +kernel
theorem dX9_reached_56 : decode cX9_reached 56 = .ok (.iload 6, 2) := by decide +kernel
theorem dX9_reached_58 : decode cX9_reached 58 = .ok (.bipush 12, 2) := by decide +kernel
theorem dX9_reached_60 : decode cX9_reached 60 = .ok (.if_icmp .ge 39, 3) := by decide +kernel
theorem dX9_reached_63 : decode cX9_reached 63 = .ok (.iload 5, 2) := by decide +kernel
theorem dX9_reached_65 : decode cX9_reached 65 = .ok (.aload_n 0, 1) := by decide +kernel
theorem dX9_reached_66 : decode cX9_reached 66 = .ok (.getfield 41, 3) := by decide +kernel
theorem dX9_reached_69 : decode cX9_reached 69 = .ok (.bipush 12, 2) := by decide +kernel
theorem dX9_reached_71 : decode cX9_reached 71 = .ok (.iload 4, 2) := by decide +kernel
theorem dX9_reached_73 : decode cX9_reached 73 = .ok (.imul, 1) := by decide +kernel
theorem dX9_reached_74 : decode cX9_reached 74 = .ok (.iload 6, 2) := by decide +kernel
theorem dX9_reached_76 : decode cX9_reached 76 = .ok (.iadd, 1) := by decide +kernel
theorem dX9_reached_77 : decode cX9_reached 77 = .ok (.iaload, 1) := by decide +kernel
theorem dX9_reached_78 : decode cX9_reached 78 = .ok (.iload_n 3, 1) := by decide +kernel
theorem dX9_reached_79 : decode cX9_reached 79 = .ok (.if_icmp .gt 10, 3) := by decide +kernel
theorem dX9_reached_82 : decode cX9_reached 82 = .ok (.iconst 1, 1) := by decide +kernel
theorem dX9_reached_83 : decode cX9_reached 83 = .ok (.iload 6, 2) := by decide +kernel
theorem dX9_reached_85 : decode cX9_reached 85 = .ok (.ishl, 1) := by decide +kernel
theorem dX9_reached_86 : decode cX9_reached 86 = .ok (.goto 4, 3) := by decide +kernel
theorem dX9_reached_89 : decode cX9_reached 89 = .ok (.iconst 0, 1) := by decide +kernel
theorem dX9_reached_90 : decode cX9_reached 90 = .ok (.ior, 1) := by decide +kernel
theorem dX9_reached_91 : decode cX9_reached 91 = .ok (.istore 5, 2) := by decide +kernel
theorem dX9_reached_93 : decode cX9_reached 93 = .ok (.iinc 6 1, 3) := by decide +kernel
theorem dX9_reached_96 : decode cX9_reached 96 = .ok (.goto (-40), 3) := by decide +kernel
theorem dX9_reached_99 : decode cX9_reached 99 = .ok (.iload 5, 2) := by decide +kernel
theorem dX9_reached_101 : decode cX9_reached 101 = .ok (.ireturn, 1) := by decide +kernel
theorem dX9_lateBy_0 : decode cX9_lateBy 0 = .ok (.aload_n 0, 1) := by decide +kernel
theorem dX9_lateBy_1 : decode cX9_lateBy 1 = .ok (.iload_n 1, 1) := by decide +kernel
theorem dX9_lateBy_2 : decode cX9_lateBy 2 = .ok (.iload_n 2, 1) := by decide +kernel
theorem dX9_lateBy_3 : decode cX9_lateBy 3 = .ok (.iload_n 3, 1) := by decide +kernel
theorem dX9_lateBy_4 : decode cX9_lateBy 4 = .ok (.iload 4, 2) := by decide +kernel
theorem dX9_lateBy_6 : decode cX9_lateBy 6 = .ok (.invokevirtual 282, 3) := by decide +kernel
theorem dX9_lateBy_9 : decode cX9_lateBy 9 = .ok (.istore 5, 2) := by decide +kernel
theorem dX9_lateBy_11 : decode cX9_lateBy 11 = .ok (.iload 5, 2) := by decide +kernel
theorem dX9_lateBy_13 : decode cX9_lateBy 13 = .ok (.ldc 112, 2) := by decide +kernel
theorem dX9_lateBy_15 : decode cX9_lateBy 15 = .ok (.if_icmp .lt 9, 3) := by decide +kernel
theorem dX9_lateBy_18 : decode cX9_lateBy 18 = .ok (.sipush 10000, 3) := by decide +kernel
theorem dX9_lateBy_21 : decode cX9_lateBy 21 = .ok (.goto 5, 3) := by decide +kernel
theorem dX9_lateBy_24 : decode cX9_lateBy 24 = .ok (.iload 5, 2) := by decide +kernel
theorem dX9_lateBy_26 : decode cX9_lateBy 26 = .ok (.ireturn, 1) := by decide +kernel
theorem dX9_worst_0 : decode cX9_worst 0 = .ok (.aload_n 0, 1) := by decide +kernel
theorem dX9_worst_1 : decode cX9_worst 1 = .ok (.iconst 0, 1) := by decide +kernel
theorem dX9_worst_2 : decode cX9_worst 2 = .ok (.putfield 87, 3) := by decide +kernel
theorem dX9_worst_5 : decode cX9_worst 5 = .ok (.iload_n 1, 1) := by decide +kernel
theorem dX9_worst_6 : decode cX9_worst 6 = .ok (.invokestatic 260, 3) := by decide +kernel
theorem dX9_worst_9 : decode cX9_worst 9 = .ok (.ifCond .eq 21, 3) := by decide +kernel
theorem dX9_worst_12 : decode cX9_worst 12 = .ok (.iload_n 3, 1) := by decide +kernel
theorem dX9_worst_13 : decode cX9_worst 13 = .ok (.invokestatic 260, 3) := by decide +kernel
theorem dX9_worst_16 : decode cX9_worst 16 = .ok (.ifCond .eq 14, 3) := by decide +kernel
theorem dX9_worst_19 : decode cX9_worst 19 = .ok (.iload 5, 2) := by decide +kernel
theorem dX9_worst_21 : decode cX9_worst 21 = .ok (.i2l, 1) := by decide +kernel
theorem dX9_worst_22 : decode cX9_worst 22 = .ok (.lconst 0, 1) := by decide +kernel
theorem dX9_worst_23 : decode cX9_worst 23 = .ok (.lconst 1, 1) := by decide +kernel
theorem dX9_worst_24 : decode cX9_worst 24 = .ok (.invokestatic 92, 3) := by decide +kernel
theorem dX9_worst_27 : decode cX9_worst 27 = .ok (.ifCond .ne 5, 3) := by decide +kernel
theorem dX9_worst_30 : decode cX9_worst 30 = .ok (.iconst (-1), 1) := by decide +kernel
theorem dX9_worst_31 : decode cX9_worst 31 = .ok (.ireturn, 1) := by decide +kernel
theorem dX9_worst_32 : decode cX9_worst 32 = .ok (.iload_n 1, 1) := by decide +kernel
theorem dX9_worst_33 : decode cX9_worst 33 = .ok (.iload_n 3, 1) := by decide +kernel
theorem dX9_worst_34 : decode cX9_worst 34 = .ok (.iload_n 2, 1) := by decide +kernel
theorem dX9_worst_35 : decode cX9_worst 35 = .ok (.iload 4, 2) := by decide +kernel
theorem dX9_worst_37 : decode cX9_worst 37 = .ok (.invokestatic 278, 3) := by decide +kernel
theorem dX9_worst_40 : decode cX9_worst 40 = .ok (.ifCond .ge 6, 3) := by decide +kernel
theorem dX9_worst_43 : decode cX9_worst 43 = .ok (.bipush (-2), 2) := by decide +kernel
theorem dX9_worst_45 : decode cX9_worst 45 = .ok (.ireturn, 1) := by decide +kernel
theorem dX9_worst_46 : decode cX9_worst 46 = .ok (.aload_n 0, 1) := by decide +kernel
theorem dX9_worst_47 : decode cX9_worst 47 = .ok (.iload_n 1, 1) := by decide +kernel
theorem dX9_worst_48 : decode cX9_worst 48 = .ok (.iload_n 2, 1) := by decide +kernel
theorem dX9_worst_49 : decode cX9_worst 49 = .ok (.iload_n 3, 1) := by decide +kernel
theorem dX9_worst_50 : decode cX9_worst 50 = .ok (.iload 4, 2) := by decide +kernel
theorem dX9_worst_52 : decode cX9_worst 52 = .ok (.invokevirtual 297, 3) := by decide +kernel
theorem dX9_worst_55 : decode cX9_worst 55 = .ok (.istore 6, 2) := by decide +kernel
theorem dX9_worst_57 : decode cX9_worst 57 = .ok (.iconst 0, 1) := by decide +kernel
theorem dX9_worst_58 : decode cX9_worst 58 = .ok (.istore 7, 2) := by decide +kernel
theorem dX9_worst_60 : decode cX9_worst 60 = .ok (.bipush (-5), 2) := by decide +kernel
theorem dX9_worst_62 : decode cX9_worst 62 = .ok (.istore 8, 2) := by decide +kernel
theorem dX9_worst_64 : decode cX9_worst 64 = .ok (.iconst 0, 1) := by decide +kernel
theorem dX9_worst_65 : decode cX9_worst 65 = .ok (.istore 9, 2) := by decide +kernel
theorem dX9_worst_67 : decode cX9_worst 67 = .ok (.iload 9, 2) := by decide +kernel
theorem dX9_worst_69 : decode cX9_worst 69 = .ok (.aload_n 0, 1) := by decide +kernel
theorem dX9_worst_70 : decode cX9_worst 70 = .ok (.getfield 98, 3) := by decide +kernel
theorem dX9_worst_73 : decode cX9_worst 73 = .ok (.if_icmp .ge 94, 3) := by decide +kernel
theorem dX9_worst_76 : decode cX9_worst 76 = .ok (.iconst 0, 1) := by decide +kernel
theorem dX9_worst_77 : decode cX9_worst 77 = .ok (.istore 10, 2) := by decide +kernel
theorem dX9_worst_79 : decode cX9_worst 79 = .ok (.iload 10, 2) := by decide +kernel
theorem dX9_worst_81 : decode cX9_worst 81 = .ok (.aload_n 0, 1) := by decide +kernel
theorem dX9_worst_82 : decode cX9_worst 82 = .ok (.getfield 19, 3) := by decide +kernel
theorem dX9_worst_85 : decode cX9_worst 85 = .ok (.iload 9, 2) := by decide +kernel
theorem dX9_worst_87 : decode cX9_worst 87 = .ok (.iaload, 1) := by decide +kernel
theorem dX9_worst_88 : decode cX9_worst 88 = .ok (.if_icmp .ge 73, 3) := by decide +kernel
theorem dX9_worst_91 : decode cX9_worst 91 = .ok (.aload_n 0, 1) := by decide +kernel
theorem dX9_worst_92 : decode cX9_worst 92 = .ok (.bipush 6, 2) := by decide +kernel
theorem dX9_worst_94 : decode cX9_worst 94 = .ok (.iload 9, 2) := by decide +kernel
theorem dX9_worst_96 : decode cX9_worst 96 = .ok (.imul, 1) := by decide +kernel
theorem dX9_worst_97 : decode cX9_worst 97 = .ok (.iload 10, 2) := by decide +kernel
theorem dX9_worst_99 : decode cX9_worst 99 = .ok (.iadd, 1) := by decide +kernel
theorem dX9_worst_100 : decode cX9_worst 100 = .ok (.putfield 31, 3) := by decide +kernel
theorem dX9_worst_103 : decode cX9_worst 103 = .ok (.aload_n 0, 1) := by decide +kernel
theorem dX9_worst_104 : decode cX9_worst 104 = .ok (.iload_n 1, 1) := by decide +kernel
theorem dX9_worst_105 : decode cX9_worst 105 = .ok (.iload_n 2, 1) := by decide +kernel
theorem dX9_worst_106 : decode cX9_worst 106 = .ok (.iload_n 3, 1) := by decide +kernel
theorem dX9_worst_107 : decode cX9_worst 107 = .ok (.iload 4, 2) := by decide +kernel
theorem dX9_worst_109 : decode cX9_worst 109 = .ok (.invokevirtual 297, 3) := by decide +kernel
theorem dX9_worst_112 : decode cX9_worst 112 = .ok (.iload 6, 2) := by decide +kernel
theorem dX9_worst_114 : decode cX9_worst 114 = .ok (.isub, 1) := by decide +kernel
theorem dX9_worst_115 : decode cX9_worst 115 = .ok (.istore 11, 2) := by decide +kernel
theorem dX9_worst_117 : decode cX9_worst 117 = .ok (.iload 11, 2) := by decide +kernel
theorem dX9_worst_119 : decode cX9_worst 119 = .ok (.iload 7, 2) := by decide +kernel
theorem dX9_worst_121 : decode cX9_worst 121 = .ok (.if_icmp .le 14, 3) := by decide +kernel
theorem dX9_worst_124 : decode cX9_worst 124 = .ok (.bipush 10, 2) := by decide +kernel
theorem dX9_worst_126 : decode cX9_worst 126 = .ok (.iload 9, 2) := by decide +kernel
theorem dX9_worst_128 : decode cX9_worst 128 = .ok (.imul, 1) := by decide +kernel
theorem dX9_worst_129 : decode cX9_worst 129 = .ok (.iload 10, 2) := by decide +kernel
theorem dX9_worst_131 : decode cX9_worst 131 = .ok (.iadd, 1) := by decide +kernel
theorem dX9_worst_132 : decode cX9_worst 132 = .ok (.goto 5, 3) := by decide +kernel
theorem dX9_worst_135 : decode cX9_worst 135 = .ok (.iload 8, 2) := by decide +kernel
theorem dX9_worst_137 : decode cX9_worst 137 = .ok (.istore 8, 2) := by decide +kernel
theorem dX9_worst_139 : decode cX9_worst 139 = .ok (.iload 11, 2) := by decide +kernel
theorem dX9_worst_141 : decode cX9_worst 141 = .ok (.iload 7, 2) := by decide +kernel
theorem dX9_worst_143 : decode cX9_worst 143 = .ok (.if_icmp .le 8, 3) := by decide +kernel
theorem dX9_worst_146 : decode cX9_worst 146 = .ok (.iload 11, 2) := by decide +kernel
theorem dX9_worst_148 : decode cX9_worst 148 = .ok (.goto 5, 3) := by decide +kernel
theorem dX9_worst_151 : decode cX9_worst 151 = .ok (.iload 7, 2) := by decide +kernel
theorem dX9_worst_153 : decode cX9_worst 153 = .ok (.istore 7, 2) := by decide +kernel
theorem dX9_worst_155 : decode cX9_worst 155 = .ok (.iinc 10 1, 3) := by decide +kernel
theorem dX9_worst_158 : decode cX9_worst 158 = .ok (.goto (-79), 3) := by decide +kernel
theorem dX9_worst_161 : decode cX9_worst 161 = .ok (.iinc 9 1, 3) := by decide +kernel
theorem dX9_worst_164 : decode cX9_worst 164 = .ok (.goto (-97), 3) := by decide +kernel
theorem dX9_worst_167 : decode cX9_worst 167 = .ok (.aload_n 0, 1) := by decide +kernel
theorem dX9_worst_168 : decode cX9_worst 168 = .ok (.iconst (-1), 1) := by decide +kernel
theorem dX9_worst_169 : decode cX9_worst 169 = .ok (.putfield 31, 3) := by decide +kernel
theorem dX9_worst_172 : decode cX9_worst 172 = .ok (.iload 8, 2) := by decide +kernel
theorem dX9_worst_174 : decode cX9_worst 174 = .ok (.ifCond .lt 8, 3) := by decide +kernel
theorem dX9_worst_177 : decode cX9_worst 177 = .ok (.iload 5, 2) := by decide +kernel
theorem dX9_worst_179 : decode cX9_worst 179 = .ok (.ifCond .ne 8, 3) := by decide +kernel
theorem dX9_worst_182 : decode cX9_worst 182 = .ok (.iload 8, 2) := by decide +kernel
theorem dX9_worst_184 : decode cX9_worst 184 = .ok (.goto 5, 3) := by decide +kernel
theorem dX9_worst_187 : decode cX9_worst 187 = .ok (.iload 7, 2) := by decide +kernel
theorem dX9_worst_189 : decode cX9_worst 189 = .ok (.ireturn, 1) := by decide +kernel
theorem dX9_cut_0 : decode cX9_cut 0 = .ok (.aload_n 0, 1) := by decide +kernel
theorem dX9_cut_1 : decode cX9_cut 1 = .ok (.iconst 0, 1) := by decide +kernel
theorem dX9_cut_2 : decode cX9_cut 2 = .ok (.putfield 87, 3) := by decide +kernel
theorem dX9_cut_5 : decode cX9_cut 5 = .ok (.iload_n 1, 1) := by decide +kernel
theorem dX9_cut_6 : decode cX9_cut 6 = .ok (.iload_n 3, 1) := by decide +kernel
theorem dX9_cut_7 : decode cX9_cut 7 = .ok (.invokestatic 263, 3) := by decide +kernel
theorem dX9_cut_10 : decode cX9_cut 10 = .ok (.ifCond .eq 14, 3) := by decide +kernel
theorem dX9_cut_13 : decode cX9_cut 13 = .ok (.iload 5, 2) := by decide +kernel
theorem dX9_cut_15 : decode cX9_cut 15 = .ok (.i2l, 1) := by decide +kernel
theorem dX9_cut_16 : decode cX9_cut 16 = .ok (.lconst 0, 1) := by decide +kernel
theorem dX9_cut_17 : decode cX9_cut 17 = .ok (.lconst 1, 1) := by decide +kernel
theorem dX9_cut_18 : decode cX9_cut 18 = .ok (.invokestatic 92, 3) := by decide +kernel
theorem dX9_cut_21 : decode cX9_cut 21 = .ok (.ifCond .ne 5, 3) := by decide +kernel
theorem dX9_cut_24 : decode cX9_cut 24 = .ok (.iconst (-1), 1) := by decide +kernel
theorem dX9_cut_25 : decode cX9_cut 25 = .ok (.ireturn, 1) := by decide +kernel
theorem dX9_cut_26 : decode cX9_cut 26 = .ok (.iload_n 1, 1) := by decide +kernel
theorem dX9_cut_27 : decode cX9_cut 27 = .ok (.iload_n 3, 1) := by decide +kernel
theorem dX9_cut_28 : decode cX9_cut 28 = .ok (.iload_n 2, 1) := by decide +kernel
theorem dX9_cut_29 : decode cX9_cut 29 = .ok (.iload 4, 2) := by decide +kernel
theorem dX9_cut_31 : decode cX9_cut 31 = .ok (.invokestatic 278, 3) := by decide +kernel
theorem dX9_cut_34 : decode cX9_cut 34 = .ok (.ifCond .ge 6, 3) := by decide +kernel
theorem dX9_cut_37 : decode cX9_cut 37 = .ok (.bipush (-2), 2) := by decide +kernel
theorem dX9_cut_39 : decode cX9_cut 39 = .ok (.ireturn, 1) := by decide +kernel
theorem dX9_cut_40 : decode cX9_cut 40 = .ok (.aload_n 0, 1) := by decide +kernel
theorem dX9_cut_41 : decode cX9_cut 41 = .ok (.iload_n 1, 1) := by decide +kernel
theorem dX9_cut_42 : decode cX9_cut 42 = .ok (.iload_n 2, 1) := by decide +kernel
theorem dX9_cut_43 : decode cX9_cut 43 = .ok (.iload_n 3, 1) := by decide +kernel
theorem dX9_cut_44 : decode cX9_cut 44 = .ok (.iload 4, 2) := by decide +kernel
theorem dX9_cut_46 : decode cX9_cut 46 = .ok (.invokevirtual 297, 3) := by decide +kernel
theorem dX9_cut_49 : decode cX9_cut 49 = .ok (.istore 6, 2) := by decide +kernel
theorem dX9_cut_51 : decode cX9_cut 51 = .ok (.iconst 0, 1) := by decide +kernel
theorem dX9_cut_52 : decode cX9_cut 52 = .ok (.istore 7, 2) := by decide +kernel
theorem dX9_cut_54 : decode cX9_cut 54 = .ok (.bipush (-5), 2) := by decide +kernel
theorem dX9_cut_56 : decode cX9_cut 56 = .ok (.istore 8, 2) := by decide +kernel
theorem dX9_cut_58 : decode cX9_cut 58 = .ok (.iconst 0, 1) := by decide +kernel
theorem dX9_cut_59 : decode cX9_cut 59 = .ok (.istore 9, 2) := by decide +kernel
theorem dX9_cut_61 : decode cX9_cut 61 = .ok (.iload 9, 2) := by decide +kernel
theorem dX9_cut_63 : decode cX9_cut 63 = .ok (.bipush 12, 2) := by decide +kernel
theorem dX9_cut_65 : decode cX9_cut 65 = .ok (.if_icmp .ge 77, 3) := by decide +kernel
theorem dX9_cut_68 : decode cX9_cut 68 = .ok (.aload_n 0, 1) := by decide +kernel
theorem dX9_cut_69 : decode cX9_cut 69 = .ok (.iload 9, 2) := by decide +kernel
theorem dX9_cut_71 : decode cX9_cut 71 = .ok (.iload_n 1, 1) := by decide +kernel
theorem dX9_cut_72 : decode cX9_cut 72 = .ok (.if_icmp .eq 9, 3) := by decide +kernel
theorem dX9_cut_75 : decode cX9_cut 75 = .ok (.iload 9, 2) := by decide +kernel
theorem dX9_cut_77 : decode cX9_cut 77 = .ok (.iload_n 3, 1) := by decide +kernel
theorem dX9_cut_78 : decode cX9_cut 78 = .ok (.if_icmp .ne 7, 3) := by decide +kernel
theorem dX9_cut_81 : decode cX9_cut 81 = .ok (.iconst (-1), 1) := by decide +kernel
theorem dX9_cut_82 : decode cX9_cut 82 = .ok (.goto 5, 3) := by decide +kernel
theorem dX9_cut_85 : decode cX9_cut 85 = .ok (.iload 9, 2) := by decide +kernel
theorem dX9_cut_87 : decode cX9_cut 87 = .ok (.putfield 35, 3) := by decide +kernel
theorem dX9_cut_90 : decode cX9_cut 90 = .ok (.aload_n 0, 1) := by decide +kernel
theorem dX9_cut_91 : decode cX9_cut 91 = .ok (.iload_n 1, 1) := by decide +kernel
theorem dX9_cut_92 : decode cX9_cut 92 = .ok (.iload_n 2, 1) := by decide +kernel
theorem dX9_cut_93 : decode cX9_cut 93 = .ok (.iload_n 3, 1) := by decide +kernel
theorem dX9_cut_94 : decode cX9_cut 94 = .ok (.iload 4, 2) := by decide +kernel
theorem dX9_cut_96 : decode cX9_cut 96 = .ok (.invokevirtual 297, 3) := by decide +kernel
theorem dX9_cut_99 : decode cX9_cut 99 = .ok (.iload 6, 2) := by decide +kernel
theorem dX9_cut_101 : decode cX9_cut 101 = .ok (.isub, 1) := by decide +kernel
theorem dX9_cut_102 : decode cX9_cut 102 = .ok (.istore 10, 2) := by decide +kernel
theorem dX9_cut_104 : decode cX9_cut 104 = .ok (.iload 10, 2) := by decide +kernel
theorem dX9_cut_106 : decode cX9_cut 106 = .ok (.iload 7, 2) := by decide +kernel
theorem dX9_cut_108 : decode cX9_cut 108 = .ok (.if_icmp .le 8, 3) := by decide +kernel
theorem dX9_cut_111 : decode cX9_cut 111 = .ok (.iload 9, 2) := by decide +kernel
theorem dX9_cut_113 : decode cX9_cut 113 = .ok (.goto 5, 3) := by decide +kernel
theorem dX9_cut_116 : decode cX9_cut 116 = .ok (.iload 8, 2) := by decide +kernel
theorem dX9_cut_118 : decode cX9_cut 118 = .ok (.istore 8, 2) := by decide +kernel
theorem dX9_cut_120 : decode cX9_cut 120 = .ok (.iload 10, 2) := by decide +kernel
theorem dX9_cut_122 : decode cX9_cut 122 = .ok (.iload 7, 2) := by decide +kernel
theorem dX9_cut_124 : decode cX9_cut 124 = .ok (.if_icmp .le 8, 3) := by decide +kernel
theorem dX9_cut_127 : decode cX9_cut 127 = .ok (.iload 10, 2) := by decide +kernel
theorem dX9_cut_129 : decode cX9_cut 129 = .ok (.goto 5, 3) := by decide +kernel
theorem dX9_cut_132 : decode cX9_cut 132 = .ok (.iload 7, 2) := by decide +kernel
theorem dX9_cut_134 : decode cX9_cut 134 = .ok (.istore 7, 2) := by decide +kernel
theorem dX9_cut_136 : decode cX9_cut 136 = .ok (.iinc 9 1, 3) := by decide +kernel
theorem dX9_cut_139 : decode cX9_cut 139 = .ok (.goto (-78), 3) := by decide +kernel
theorem dX9_cut_142 : decode cX9_cut 142 = .ok (.aload_n 0, 1) := by decide +kernel
theorem dX9_cut_143 : decode cX9_cut 143 = .ok (.iconst (-1), 1) := by decide +kernel
theorem dX9_cut_144 : decode cX9_cut 144 = .ok (.putfield 35, 3) := by decide +kernel
theorem dX9_cut_147 : decode cX9_cut 147 = .ok (.iload 8, 2) := by decide +kernel
theorem dX9_cut_149 : decode cX9_cut 149 = .ok (.ifCond .lt 8, 3) := by decide +kernel
theorem dX9_cut_152 : decode cX9_cut 152 = .ok (.iload 5, 2) := by decide +kernel
theorem dX9_cut_154 : decode cX9_cut 154 = .ok (.ifCond .ne 8, 3) := by decide +kernel
theorem dX9_cut_157 : decode cX9_cut 157 = .ok (.iload 8, 2) := by decide +kernel
theorem dX9_cut_159 : decode cX9_cut 159 = .ok (.goto 5, 3) := by decide +kernel
theorem dX9_cut_162 : decode cX9_cut 162 = .ok (.iload 7, 2) := by decide +kernel
theorem dX9_cut_164 : decode cX9_cut 164 = .ok (.ireturn, 1) := by decide +kernel
theorem dX9_placeOn_0 : decode cX9_placeOn 0 = .ok (.iconst (-1), 1) := by decide +kernel
theorem dX9_placeOn_1 : decode cX9_placeOn 1 = .ok (.istore_n 3, 1) := by decide +kernel
theorem dX9_placeOn_2 : decode cX9_placeOn 2 = .ok (.iconst 0, 1) := by decide +kernel
theorem dX9_placeOn_3 : decode cX9_placeOn 3 = .ok (.istore 4, 2) := by decide +kernel
theorem dX9_placeOn_5 : decode cX9_placeOn 5 = .ok (.iload 4, 2) := by decide +kernel
theorem dX9_placeOn_7 : decode cX9_placeOn 7 = .ok (.aload_n 0, 1) := by decide +kernel
theorem dX9_placeOn_8 : decode cX9_placeOn 8 = .ok (.getfield 13, 3) := by decide +kernel
theorem dX9_placeOn_11 : decode cX9_placeOn 11 = .ok (.iload_n 1, 1) := by decide +kernel
theorem dX9_placeOn_12 : decode cX9_placeOn 12 = .ok (.iaload, 1) := by decide +kernel
theorem dX9_placeOn_13 : decode cX9_placeOn 13 = .ok (.if_icmp .ge 27, 3) := by decide +kernel
theorem dX9_placeOn_16 : decode cX9_placeOn 16 = .ok (.aload_n 0, 1) := by decide +kernel
theorem dX9_placeOn_17 : decode cX9_placeOn 17 = .ok (.iload_n 1, 1) := by decide +kernel
theorem dX9_placeOn_18 : decode cX9_placeOn 18 = .ok (.iload 4, 2) := by decide +kernel
theorem dX9_placeOn_20 : decode cX9_placeOn 20 = .ok (.invokevirtual 117, 3) := by decide +kernel
theorem dX9_placeOn_23 : decode cX9_placeOn 23 = .ok (.iload_n 2, 1) := by decide +kernel
theorem dX9_placeOn_24 : decode cX9_placeOn 24 = .ok (.if_icmp .ne 8, 3) := by decide +kernel
theorem dX9_placeOn_27 : decode cX9_placeOn 27 = .ok (.iload 4, 2) := by decide +kernel
theorem dX9_placeOn_29 : decode cX9_placeOn 29 = .ok (.goto 4, 3) := by decide +kernel
theorem dX9_placeOn_32 : decode cX9_placeOn 32 = .ok (.iload_n 3, 1) := by decide +kernel
theorem dX9_placeOn_33 : decode cX9_placeOn 33 = .ok (.istore_n 3, 1) := by decide +kernel
theorem dX9_placeOn_34 : decode cX9_placeOn 34 = .ok (.iinc 4 1, 3) := by decide +kernel
theorem dX9_placeOn_37 : decode cX9_placeOn 37 = .ok (.goto (-32), 3) := by decide +kernel
theorem dX9_placeOn_40 : decode cX9_placeOn 40 = .ok (.iload_n 3, 1) := by decide +kernel
theorem dX9_placeOn_41 : decode cX9_placeOn 41 = .ok (.ireturn, 1) := by decide +kernel
theorem dX9_departureAt_0 : decode cX9_departureAt 0 = .ok (.aload_n 0, 1) := by decide +kernel
theorem dX9_departureAt_1 : decode cX9_departureAt 1 = .ok (.iload_n 1, 1) := by decide +kernel
theorem dX9_departureAt_2 : decode cX9_departureAt 2 = .ok (.iload_n 3, 1) := by decide +kernel
theorem dX9_departureAt_3 : decode cX9_departureAt 3 = .ok (.invokevirtual 300, 3) := by decide +kernel
theorem dX9_departureAt_6 : decode cX9_departureAt 6 = .ok (.istore 4, 2) := by decide +kernel
theorem dX9_departureAt_8 : decode cX9_departureAt 8 = .ok (.iload 4, 2) := by decide +kernel
theorem dX9_departureAt_10 : decode cX9_departureAt 10 = .ok (.ifCond .lt 36, 3) := by decide +kernel
theorem dX9_departureAt_13 : decode cX9_departureAt 13 = .ok (.iload 4, 2) := by decide +kernel
theorem dX9_departureAt_15 : decode cX9_departureAt 15 = .ok (.aload_n 0, 1) := by decide +kernel
theorem dX9_departureAt_16 : decode cX9_departureAt 16 = .ok (.getfield 13, 3) := by decide +kernel
theorem dX9_departureAt_19 : decode cX9_departureAt 19 = .ok (.iload_n 1, 1) := by decide +kernel
theorem dX9_departureAt_20 : decode cX9_departureAt 20 = .ok (.iaload, 1) := by decide +kernel
theorem dX9_departureAt_21 : decode cX9_departureAt 21 = .ok (.iconst 1, 1) := by decide +kernel
theorem dX9_departureAt_22 : decode cX9_departureAt 22 = .ok (.isub, 1) := by decide +kernel
theorem dX9_departureAt_23 : decode cX9_departureAt 23 = .ok (.if_icmp .ge 23, 3) := by decide +kernel
theorem dX9_departureAt_26 : decode cX9_departureAt 26 = .ok (.aload_n 0, 1) := by decide +kernel
theorem dX9_departureAt_27 : decode cX9_departureAt 27 = .ok (.iload_n 1, 1) := by decide +kernel
theorem dX9_departureAt_28 : decode cX9_departureAt 28 = .ok (.iload_n 2, 1) := by decide +kernel
theorem dX9_departureAt_29 : decode cX9_departureAt 29 = .ok (.invokevirtual 108, 3) := by decide +kernel
theorem dX9_departureAt_32 : decode cX9_departureAt 32 = .ok (.ifCond .eq 14, 3) := by decide +kernel
theorem dX9_departureAt_35 : decode cX9_departureAt 35 = .ok (.aload_n 0, 1) := by decide +kernel
theorem dX9_departureAt_36 : decode cX9_departureAt 36 = .ok (.iload_n 1, 1) := by decide +kernel
theorem dX9_departureAt_37 : decode cX9_departureAt 37 = .ok (.iload_n 2, 1) := by decide +kernel
theorem dX9_departureAt_38 : decode cX9_departureAt 38 = .ok (.iload 4, 2) := by decide +kernel
theorem dX9_departureAt_40 : decode cX9_departureAt 40 = .ok (.invokevirtual 120, 3) := by decide +kernel
theorem dX9_departureAt_43 : decode cX9_departureAt 43 = .ok (.goto 4, 3) := by decide +kernel
theorem dX9_departureAt_46 : decode cX9_departureAt 46 = .ok (.iconst (-1), 1) := by decide +kernel
theorem dX9_departureAt_47 : decode cX9_departureAt 47 = .ok (.ireturn, 1) := by decide +kernel
theorem dX9_arrivalAt_0 : decode cX9_arrivalAt 0 = .ok (.aload_n 0, 1) := by decide +kernel
theorem dX9_arrivalAt_1 : decode cX9_arrivalAt 1 = .ok (.iload_n 1, 1) := by decide +kernel
theorem dX9_arrivalAt_2 : decode cX9_arrivalAt 2 = .ok (.iload_n 3, 1) := by decide +kernel
theorem dX9_arrivalAt_3 : decode cX9_arrivalAt 3 = .ok (.invokevirtual 300, 3) := by decide +kernel
theorem dX9_arrivalAt_6 : decode cX9_arrivalAt 6 = .ok (.istore 4, 2) := by decide +kernel
theorem dX9_arrivalAt_8 : decode cX9_arrivalAt 8 = .ok (.iload 4, 2) := by decide +kernel
theorem dX9_arrivalAt_10 : decode cX9_arrivalAt 10 = .ok (.ifCond .le 23, 3) := by decide +kernel
theorem dX9_arrivalAt_13 : decode cX9_arrivalAt 13 = .ok (.aload_n 0, 1) := by decide +kernel
theorem dX9_arrivalAt_14 : decode cX9_arrivalAt 14 = .ok (.iload_n 1, 1) := by decide +kernel
theorem dX9_arrivalAt_15 : decode cX9_arrivalAt 15 = .ok (.iload_n 2, 1) := by decide +kernel
theorem dX9_arrivalAt_16 : decode cX9_arrivalAt 16 = .ok (.invokevirtual 108, 3) := by decide +kernel
theorem dX9_arrivalAt_19 : decode cX9_arrivalAt 19 = .ok (.ifCond .eq 14, 3) := by decide +kernel
theorem dX9_arrivalAt_22 : decode cX9_arrivalAt 22 = .ok (.aload_n 0, 1) := by decide +kernel
theorem dX9_arrivalAt_23 : decode cX9_arrivalAt 23 = .ok (.iload_n 1, 1) := by decide +kernel
theorem dX9_arrivalAt_24 : decode cX9_arrivalAt 24 = .ok (.iload_n 2, 1) := by decide +kernel
theorem dX9_arrivalAt_25 : decode cX9_arrivalAt 25 = .ok (.iload 4, 2) := by decide +kernel
theorem dX9_arrivalAt_27 : decode cX9_arrivalAt 27 = .ok (.invokevirtual 120, 3) := by decide +kernel
theorem dX9_arrivalAt_30 : decode cX9_arrivalAt 30 = .ok (.goto 4, 3) := by decide +kernel
theorem dX9_arrivalAt_33 : decode cX9_arrivalAt 33 = .ok (.iconst (-1), 1) := by decide +kernel
theorem dX9_arrivalAt_34 : decode cX9_arrivalAt 34 = .ok (.ireturn, 1) := by decide +kernel
theorem dX9_nextBoard_0 : decode cX9_nextBoard 0 = .ok (.ldc2_w 303, 3) := by decide +kernel
theorem dX9_nextBoard_3 : decode cX9_nextBoard 3 = .ok (.lstore 4, 2) := by decide +kernel
theorem dX9_nextBoard_5 : decode cX9_nextBoard 5 = .ok (.iconst 0, 1) := by decide +kernel
theorem dX9_nextBoard_6 : decode cX9_nextBoard 6 = .ok (.istore 6, 2) := by decide +kernel
theorem dX9_nextBoard_8 : decode cX9_nextBoard 8 = .ok (.iload 6, 2) := by decide +kernel
theorem dX9_nextBoard_10 : decode cX9_nextBoard 10 = .ok (.aload_n 0, 1) := by decide +kernel
theorem dX9_nextBoard_11 : decode cX9_nextBoard 11 = .ok (.getfield 98, 3) := by decide +kernel
theorem dX9_nextBoard_14 : decode cX9_nextBoard 14 = .ok (.if_icmp .ge 98, 3) := by decide +kernel
theorem dX9_nextBoard_17 : decode cX9_nextBoard 17 = .ok (.iconst 0, 1) := by decide +kernel
theorem dX9_nextBoard_18 : decode cX9_nextBoard 18 = .ok (.istore 7, 2) := by decide +kernel
theorem dX9_nextBoard_20 : decode cX9_nextBoard 20 = .ok (.iload 7, 2) := by decide +kernel
theorem dX9_nextBoard_22 : decode cX9_nextBoard 22 = .ok (.aload_n 0, 1) := by decide +kernel
theorem dX9_nextBoard_23 : decode cX9_nextBoard 23 = .ok (.getfield 19, 3) := by decide +kernel
theorem dX9_nextBoard_26 : decode cX9_nextBoard 26 = .ok (.iload 6, 2) := by decide +kernel
theorem dX9_nextBoard_28 : decode cX9_nextBoard 28 = .ok (.iaload, 1) := by decide +kernel
theorem dX9_nextBoard_29 : decode cX9_nextBoard 29 = .ok (.if_icmp .ge 77, 3) := by decide +kernel
theorem dX9_nextBoard_32 : decode cX9_nextBoard 32 = .ok (.aload_n 0, 1) := by decide +kernel
theorem dX9_nextBoard_33 : decode cX9_nextBoard 33 = .ok (.iload 6, 2) := by decide +kernel
theorem dX9_nextBoard_35 : decode cX9_nextBoard 35 = .ok (.iload 7, 2) := by decide +kernel
theorem dX9_nextBoard_37 : decode cX9_nextBoard 37 = .ok (.iload_n 1, 1) := by decide +kernel
theorem dX9_nextBoard_38 : decode cX9_nextBoard 38 = .ok (.invokevirtual 305, 3) := by decide +kernel
theorem dX9_nextBoard_41 : decode cX9_nextBoard 41 = .ok (.istore 8, 2) := by decide +kernel
theorem dX9_nextBoard_43 : decode cX9_nextBoard 43 = .ok (.ldc2_w 308, 3) := by decide +kernel
theorem dX9_nextBoard_46 : decode cX9_nextBoard 46 = .ok (.iload 8, 2) := by decide +kernel
theorem dX9_nextBoard_48 : decode cX9_nextBoard 48 = .ok (.i2l, 1) := by decide +kernel
theorem dX9_nextBoard_49 : decode cX9_nextBoard 49 = .ok (.lmul, 1) := by decide +kernel
theorem dX9_nextBoard_50 : decode cX9_nextBoard 50 = .ok (.ldc2_w 310, 3) := by decide +kernel
theorem dX9_nextBoard_53 : decode cX9_nextBoard 53 = .ok (.iload 6, 2) := by decide +kernel
theorem dX9_nextBoard_55 : decode cX9_nextBoard 55 = .ok (.i2l, 1) := by decide +kernel
theorem dX9_nextBoard_56 : decode cX9_nextBoard 56 = .ok (.lmul, 1) := by decide +kernel
theorem dX9_nextBoard_57 : decode cX9_nextBoard 57 = .ok (.ladd, 1) := by decide +kernel
theorem dX9_nextBoard_58 : decode cX9_nextBoard 58 = .ok (.iload 7, 2) := by decide +kernel
theorem dX9_nextBoard_60 : decode cX9_nextBoard 60 = .ok (.i2l, 1) := by decide +kernel
theorem dX9_nextBoard_61 : decode cX9_nextBoard 61 = .ok (.ladd, 1) := by decide +kernel
theorem dX9_nextBoard_62 : decode cX9_nextBoard 62 = .ok (.lstore 9, 2) := by decide +kernel
theorem dX9_nextBoard_64 : decode cX9_nextBoard 64 = .ok (.iload 8, 2) := by decide +kernel
theorem dX9_nextBoard_66 : decode cX9_nextBoard 66 = .ok (.ifCond .lt 30, 3) := by decide +kernel
theorem dX9_nextBoard_69 : decode cX9_nextBoard 69 = .ok (.lload 9, 2) := by decide +kernel
theorem dX9_nextBoard_71 : decode cX9_nextBoard 71 = .ok (.lload_n 2, 1) := by decide +kernel
theorem dX9_nextBoard_72 : decode cX9_nextBoard 72 = .ok (.lcmp, 1) := by decide +kernel
theorem dX9_nextBoard_73 : decode cX9_nextBoard 73 = .ok (.ifCond .le 23, 3) := by decide +kernel
theorem dX9_nextBoard_76 : decode cX9_nextBoard 76 = .ok (.lload 4, 2) := by decide +kernel
theorem dX9_nextBoard_78 : decode cX9_nextBoard 78 = .ok (.lconst 0, 1) := by decide +kernel
theorem dX9_nextBoard_79 : decode cX9_nextBoard 79 = .ok (.lcmp, 1) := by decide +kernel
theorem dX9_nextBoard_80 : decode cX9_nextBoard 80 = .ok (.ifCond .lt 11, 3) := by decide +kernel
theorem dX9_nextBoard_83 : decode cX9_nextBoard 83 = .ok (.lload 9, 2) := by decide +kernel
theorem dX9_nextBoard_85 : decode cX9_nextBoard 85 = .ok (.lload 4, 2) := by decide +kernel
theorem dX9_nextBoard_87 : decode cX9_nextBoard 87 = .ok (.lcmp, 1) := by decide +kernel
theorem dX9_nextBoard_88 : decode cX9_nextBoard 88 = .ok (.ifCond .ge 8, 3) := by decide +kernel
theorem dX9_nextBoard_91 : decode cX9_nextBoard 91 = .ok (.lload 9, 2) := by decide +kernel
theorem dX9_nextBoard_93 : decode cX9_nextBoard 93 = .ok (.goto 5, 3) := by decide +kernel
theorem dX9_nextBoard_96 : decode cX9_nextBoard 96 = .ok (.lload 4, 2) := by decide +kernel
theorem dX9_nextBoard_98 : decode cX9_nextBoard 98 = .ok (.lstore 4, 2) := by decide +kernel
theorem dX9_nextBoard_100 : decode cX9_nextBoard 100 = .ok (.iinc 7 1, 3) := by decide +kernel
theorem dX9_nextBoard_103 : decode cX9_nextBoard 103 = .ok (.goto (-83), 3) := by decide +kernel
theorem dX9_nextBoard_106 : decode cX9_nextBoard 106 = .ok (.iinc 6 1, 3) := by decide +kernel
theorem dX9_nextBoard_109 : decode cX9_nextBoard 109 = .ok (.goto (-101), 3) := by decide +kernel
theorem dX9_nextBoard_112 : decode cX9_nextBoard 112 = .ok (.lload 4, 2) := by decide +kernel
theorem dX9_nextBoard_114 : decode cX9_nextBoard 114 = .ok (.lreturn, 1) := by decide +kernel
theorem dX9_board_0 : decode cX9_board 0 = .ok (.aload_n 0, 1) := by decide +kernel
theorem dX9_board_1 : decode cX9_board 1 = .ok (.iconst 0, 1) := by decide +kernel
theorem dX9_board_2 : decode cX9_board 2 = .ok (.putfield 87, 3) := by decide +kernel
theorem dX9_board_5 : decode cX9_board 5 = .ok (.iload_n 1, 1) := by decide +kernel
theorem dX9_board_6 : decode cX9_board 6 = .ok (.invokestatic 260, 3) := by decide +kernel
theorem dX9_board_9 : decode cX9_board 9 = .ok (.ifCond .eq 20, 3) := by decide +kernel
theorem dX9_board_12 : decode cX9_board 12 = .ok (.iload_n 3, 1) := by decide +kernel
theorem dX9_board_13 : decode cX9_board 13 = .ok (.ifCond .lt 16, 3) := by decide +kernel
theorem dX9_board_16 : decode cX9_board 16 = .ok (.iload 4, 2) := by decide +kernel
theorem dX9_board_18 : decode cX9_board 18 = .ok (.i2l, 1) := by decide +kernel
theorem dX9_board_19 : decode cX9_board 19 = .ok (.lconst 0, 1) := by decide +kernel
theorem dX9_board_20 : decode cX9_board 20 = .ok (.ldc2_w 312, 3) := by decide +kernel
theorem dX9_board_23 : decode cX9_board 23 = .ok (.invokestatic 92, 3) := by decide +kernel
theorem dX9_board_26 : decode cX9_board 26 = .ok (.ifCond .ne 5, 3) := by decide +kernel
theorem dX9_board_29 : decode cX9_board 29 = .ok (.iconst (-1), 1) := by decide +kernel
theorem dX9_board_30 : decode cX9_board 30 = .ok (.ireturn, 1) := by decide +kernel
theorem dX9_board_31 : decode cX9_board 31 = .ok (.iload_n 2, 1) := by decide +kernel
theorem dX9_board_32 : decode cX9_board 32 = .ok (.invokestatic 273, 3) := by decide +kernel
theorem dX9_board_35 : decode cX9_board 35 = .ok (.ifCond .ne 6, 3) := by decide +kernel
theorem dX9_board_38 : decode cX9_board 38 = .ok (.bipush (-2), 2) := by decide +kernel
theorem dX9_board_40 : decode cX9_board 40 = .ok (.ireturn, 1) := by decide +kernel
theorem dX9_board_41 : decode cX9_board 41 = .ok (.aload_n 0, 1) := by decide +kernel
theorem dX9_board_42 : decode cX9_board 42 = .ok (.iload_n 1, 1) := by decide +kernel
theorem dX9_board_43 : decode cX9_board 43 = .ok (.ldc2_w 308, 3) := by decide +kernel
theorem dX9_board_46 : decode cX9_board 46 = .ok (.iload_n 2, 1) := by decide +kernel
theorem dX9_board_47 : decode cX9_board 47 = .ok (.i2l, 1) := by decide +kernel
theorem dX9_board_48 : decode cX9_board 48 = .ok (.lmul, 1) := by decide +kernel
theorem dX9_board_49 : decode cX9_board 49 = .ok (.lconst 1, 1) := by decide +kernel
theorem dX9_board_50 : decode cX9_board 50 = .ok (.lsub, 1) := by decide +kernel
theorem dX9_board_51 : decode cX9_board 51 = .ok (.invokevirtual 314, 3) := by decide +kernel
theorem dX9_board_54 : decode cX9_board 54 = .ok (.lstore 5, 2) := by decide +kernel
theorem dX9_board_56 : decode cX9_board 56 = .ok (.iconst 0, 1) := by decide +kernel
theorem dX9_board_57 : decode cX9_board 57 = .ok (.istore 7, 2) := by decide +kernel
theorem dX9_board_59 : decode cX9_board 59 = .ok (.iload 7, 2) := by decide +kernel
theorem dX9_board_61 : decode cX9_board 61 = .ok (.iload_n 3, 1) := by decide +kernel
theorem dX9_board_62 : decode cX9_board 62 = .ok (.if_icmp .ge 25, 3) := by decide +kernel
theorem dX9_board_65 : decode cX9_board 65 = .ok (.lload 5, 2) := by decide +kernel
theorem dX9_board_67 : decode cX9_board 67 = .ok (.lconst 0, 1) := by decide +kernel
theorem dX9_board_68 : decode cX9_board 68 = .ok (.lcmp, 1) := by decide +kernel
theorem dX9_board_69 : decode cX9_board 69 = .ok (.ifCond .lt 18, 3) := by decide +kernel
theorem dX9_board_72 : decode cX9_board 72 = .ok (.aload_n 0, 1) := by decide +kernel
theorem dX9_board_73 : decode cX9_board 73 = .ok (.iload_n 1, 1) := by decide +kernel
theorem dX9_board_74 : decode cX9_board 74 = .ok (.lload 5, 2) := by decide +kernel
theorem dX9_board_76 : decode cX9_board 76 = .ok (.invokevirtual 314, 3) := by decide +kernel
theorem dX9_board_79 : decode cX9_board 79 = .ok (.lstore 5, 2) := by decide +kernel
theorem dX9_board_81 : decode cX9_board 81 = .ok (.iinc 7 1, 3) := by decide +kernel
theorem dX9_board_84 : decode cX9_board 84 = .ok (.goto (-25), 3) := by decide +kernel
theorem dX9_board_87 : decode cX9_board 87 = .ok (.lload 5, 2) := by decide +kernel
theorem dX9_board_89 : decode cX9_board 89 = .ok (.lconst 0, 1) := by decide +kernel
theorem dX9_board_90 : decode cX9_board 90 = .ok (.lcmp, 1) := by decide +kernel
theorem dX9_board_91 : decode cX9_board 91 = .ok (.ifCond .ge 6, 3) := by decide +kernel
theorem dX9_board_94 : decode cX9_board 94 = .ok (.bipush (-5), 2) := by decide +kernel
theorem dX9_board_96 : decode cX9_board 96 = .ok (.ireturn, 1) := by decide +kernel
theorem dX9_board_97 : decode cX9_board 97 = .ok (.iload 4, 2) := by decide +kernel
theorem dX9_board_99 : decode cX9_board 99 = .ok (.ifCond .ne 17, 3) := by decide +kernel
theorem dX9_board_102 : decode cX9_board 102 = .ok (.lload 5, 2) := by decide +kernel
theorem dX9_board_104 : decode cX9_board 104 = .ok (.ldc2_w 310, 3) := by decide +kernel
theorem dX9_board_107 : decode cX9_board 107 = .ok (.ldiv, 1) := by decide +kernel
theorem dX9_board_108 : decode cX9_board 108 = .ok (.ldc2_w 310, 3) := by decide +kernel
theorem dX9_board_111 : decode cX9_board 111 = .ok (.lrem, 1) := by decide +kernel
theorem dX9_board_112 : decode cX9_board 112 = .ok (.l2i, 1) := by decide +kernel
theorem dX9_board_113 : decode cX9_board 113 = .ok (.goto 26, 3) := by decide +kernel
theorem dX9_board_116 : decode cX9_board 116 = .ok (.iload 4, 2) := by decide +kernel
theorem dX9_board_118 : decode cX9_board 118 = .ok (.iconst 1, 1) := by decide +kernel
theorem dX9_board_119 : decode cX9_board 119 = .ok (.if_icmp .ne 13, 3) := by decide +kernel
theorem dX9_board_122 : decode cX9_board 122 = .ok (.lload 5, 2) := by decide +kernel
theorem dX9_board_124 : decode cX9_board 124 = .ok (.ldc2_w 310, 3) := by decide +kernel
theorem dX9_board_127 : decode cX9_board 127 = .ok (.lrem, 1) := by decide +kernel
theorem dX9_board_128 : decode cX9_board 128 = .ok (.l2i, 1) := by decide +kernel
theorem dX9_board_129 : decode cX9_board 129 = .ok (.goto 10, 3) := by decide +kernel
theorem dX9_board_132 : decode cX9_board 132 = .ok (.lload 5, 2) := by decide +kernel
theorem dX9_board_134 : decode cX9_board 134 = .ok (.ldc2_w 308, 3) := by decide +kernel
theorem dX9_board_137 : decode cX9_board 137 = .ok (.ldiv, 1) := by decide +kernel
theorem dX9_board_138 : decode cX9_board 138 = .ok (.l2i, 1) := by decide +kernel
theorem dX9_board_139 : decode cX9_board 139 = .ok (.ireturn, 1) := by decide +kernel
theorem dX9_missed_0 : decode cX9_missed 0 = .ok (.aload_n 0, 1) := by decide +kernel
theorem dX9_missed_1 : decode cX9_missed 1 = .ok (.iconst 0, 1) := by decide +kernel
theorem dX9_missed_2 : decode cX9_missed 2 = .ok (.putfield 87, 3) := by decide +kernel
theorem dX9_missed_5 : decode cX9_missed 5 = .ok (.iload_n 1, 1) := by decide +kernel
theorem dX9_missed_6 : decode cX9_missed 6 = .ok (.invokestatic 260, 3) := by decide +kernel
theorem dX9_missed_9 : decode cX9_missed 9 = .ok (.ifCond .ne 5, 3) := by decide +kernel
theorem dX9_missed_12 : decode cX9_missed 12 = .ok (.iconst (-1), 1) := by decide +kernel
theorem dX9_missed_13 : decode cX9_missed 13 = .ok (.ireturn, 1) := by decide +kernel
theorem dX9_missed_14 : decode cX9_missed 14 = .ok (.ldc 112, 2) := by decide +kernel
theorem dX9_missed_16 : decode cX9_missed 16 = .ok (.istore_n 2, 1) := by decide +kernel
theorem dX9_missed_17 : decode cX9_missed 17 = .ok (.iconst 0, 1) := by decide +kernel
theorem dX9_missed_18 : decode cX9_missed 18 = .ok (.istore_n 3, 1) := by decide +kernel
theorem dX9_missed_19 : decode cX9_missed 19 = .ok (.iload_n 3, 1) := by decide +kernel
theorem dX9_missed_20 : decode cX9_missed 20 = .ok (.bipush 48, 2) := by decide +kernel
theorem dX9_missed_22 : decode cX9_missed 22 = .ok (.if_icmp .ge 174, 3) := by decide +kernel
theorem dX9_missed_25 : decode cX9_missed 25 = .ok (.iconst 0, 1) := by decide +kernel
theorem dX9_missed_26 : decode cX9_missed 26 = .ok (.istore 4, 2) := by decide +kernel
theorem dX9_missed_28 : decode cX9_missed 28 = .ok (.iload 4, 2) := by decide +kernel
theorem dX9_missed_30 : decode cX9_missed 30 = .ok (.bipush 48, 2) := by decide +kernel
theorem dX9_missed_32 : decode cX9_missed 32 = .ok (.if_icmp .ge 158, 3) := by decide +kernel
theorem dX9_missed_35 : decode cX9_missed 35 = .ok (.iload_n 3, 1) := by decide +kernel
theorem dX9_missed_36 : decode cX9_missed 36 = .ok (.bipush 6, 2) := by decide +kernel
theorem dX9_missed_38 : decode cX9_missed 38 = .ok (.idiv, 1) := by decide +kernel
theorem dX9_missed_39 : decode cX9_missed 39 = .ok (.iload 4, 2) := by decide +kernel
theorem dX9_missed_41 : decode cX9_missed 41 = .ok (.bipush 6, 2) := by decide +kernel
theorem dX9_missed_43 : decode cX9_missed 43 = .ok (.idiv, 1) := by decide +kernel
theorem dX9_missed_44 : decode cX9_missed 44 = .ok (.if_icmp .eq 39, 3) := by decide +kernel
theorem dX9_missed_47 : decode cX9_missed 47 = .ok (.aload_n 0, 1) := by decide +kernel
theorem dX9_missed_48 : decode cX9_missed 48 = .ok (.iload_n 3, 1) := by decide +kernel
theorem dX9_missed_49 : decode cX9_missed 49 = .ok (.bipush 6, 2) := by decide +kernel
theorem dX9_missed_51 : decode cX9_missed 51 = .ok (.idiv, 1) := by decide +kernel
theorem dX9_missed_52 : decode cX9_missed 52 = .ok (.iload_n 3, 1) := by decide +kernel
theorem dX9_missed_53 : decode cX9_missed 53 = .ok (.bipush 6, 2) := by decide +kernel
theorem dX9_missed_55 : decode cX9_missed 55 = .ok (.irem, 1) := by decide +kernel
theorem dX9_missed_56 : decode cX9_missed 56 = .ok (.invokevirtual 257, 3) := by decide +kernel
theorem dX9_missed_59 : decode cX9_missed 59 = .ok (.ifCond .eq 24, 3) := by decide +kernel
theorem dX9_missed_62 : decode cX9_missed 62 = .ok (.aload_n 0, 1) := by decide +kernel
theorem dX9_missed_63 : decode cX9_missed 63 = .ok (.iload 4, 2) := by decide +kernel
theorem dX9_missed_65 : decode cX9_missed 65 = .ok (.bipush 6, 2) := by decide +kernel
theorem dX9_missed_67 : decode cX9_missed 67 = .ok (.idiv, 1) := by decide +kernel
theorem dX9_missed_68 : decode cX9_missed 68 = .ok (.iload 4, 2) := by decide +kernel
theorem dX9_missed_70 : decode cX9_missed 70 = .ok (.bipush 6, 2) := by decide +kernel
theorem dX9_missed_72 : decode cX9_missed 72 = .ok (.irem, 1) := by decide +kernel
theorem dX9_missed_73 : decode cX9_missed 73 = .ok (.invokevirtual 257, 3) := by decide +kernel
theorem dX9_missed_76 : decode cX9_missed 76 = .ok (.ifCond .eq 7, 3) := by decide +kernel
theorem dX9_missed_79 : decode cX9_missed 79 = .ok (.iconst 1, 1) := by decide +kernel
theorem dX9_missed_80 : decode cX9_missed 80 = .ok (.goto 4, 3) := by decide +kernel
theorem dX9_missed_83 : decode cX9_missed 83 = .ok (.iconst 0, 1) := by decide +kernel
theorem dX9_missed_84 : decode cX9_missed 84 = .ok (.istore 5, 2) := by decide +kernel
theorem dX9_missed_86 : decode cX9_missed 86 = .ok (.iload 5, 2) := by decide +kernel
theorem dX9_missed_88 : decode cX9_missed 88 = .ok (.ifCond .eq 19, 3) := by decide +kernel
theorem dX9_missed_91 : decode cX9_missed 91 = .ok (.aload_n 0, 1) := by decide +kernel
theorem dX9_missed_92 : decode cX9_missed 92 = .ok (.iload_n 3, 1) := by decide +kernel
theorem dX9_missed_93 : decode cX9_missed 93 = .ok (.bipush 6, 2) := by decide +kernel
theorem dX9_missed_95 : decode cX9_missed 95 = .ok (.idiv, 1) := by decide +kernel
theorem dX9_missed_96 : decode cX9_missed 96 = .ok (.iload_n 3, 1) := by decide +kernel
theorem dX9_missed_97 : decode cX9_missed 97 = .ok (.bipush 6, 2) := by decide +kernel
theorem dX9_missed_99 : decode cX9_missed 99 = .ok (.irem, 1) := by decide +kernel
theorem dX9_missed_100 : decode cX9_missed 100 = .ok (.iload_n 1, 1) := by decide +kernel
theorem dX9_missed_101 : decode cX9_missed 101 = .ok (.invokevirtual 318, 3) := by decide +kernel
theorem dX9_missed_104 : decode cX9_missed 104 = .ok (.goto 4, 3) := by decide +kernel
theorem dX9_missed_107 : decode cX9_missed 107 = .ok (.iconst (-1), 1) := by decide +kernel
theorem dX9_missed_108 : decode cX9_missed 108 = .ok (.istore 6, 2) := by decide +kernel
theorem dX9_missed_110 : decode cX9_missed 110 = .ok (.iload 5, 2) := by decide +kernel
theorem dX9_missed_112 : decode cX9_missed 112 = .ok (.ifCond .eq 21, 3) := by decide +kernel
theorem dX9_missed_115 : decode cX9_missed 115 = .ok (.aload_n 0, 1) := by decide +kernel
theorem dX9_missed_116 : decode cX9_missed 116 = .ok (.iload 4, 2) := by decide +kernel
theorem dX9_missed_118 : decode cX9_missed 118 = .ok (.bipush 6, 2) := by decide +kernel
theorem dX9_missed_120 : decode cX9_missed 120 = .ok (.idiv, 1) := by decide +kernel
theorem dX9_missed_121 : decode cX9_missed 121 = .ok (.iload 4, 2) := by decide +kernel
theorem dX9_missed_123 : decode cX9_missed 123 = .ok (.bipush 6, 2) := by decide +kernel
theorem dX9_missed_125 : decode cX9_missed 125 = .ok (.irem, 1) := by decide +kernel
theorem dX9_missed_126 : decode cX9_missed 126 = .ok (.iload_n 1, 1) := by decide +kernel
theorem dX9_missed_127 : decode cX9_missed 127 = .ok (.invokevirtual 305, 3) := by decide +kernel
theorem dX9_missed_130 : decode cX9_missed 130 = .ok (.goto 4, 3) := by decide +kernel
theorem dX9_missed_133 : decode cX9_missed 133 = .ok (.iconst (-1), 1) := by decide +kernel
theorem dX9_missed_134 : decode cX9_missed 134 = .ok (.istore 7, 2) := by decide +kernel
theorem dX9_missed_136 : decode cX9_missed 136 = .ok (.iload 6, 2) := by decide +kernel
theorem dX9_missed_138 : decode cX9_missed 138 = .ok (.ifCond .lt 19, 3) := by decide +kernel
theorem dX9_missed_141 : decode cX9_missed 141 = .ok (.iload 7, 2) := by decide +kernel
theorem dX9_missed_143 : decode cX9_missed 143 = .ok (.ifCond .lt 14, 3) := by decide +kernel
theorem dX9_missed_146 : decode cX9_missed 146 = .ok (.iload 7, 2) := by decide +kernel
theorem dX9_missed_148 : decode cX9_missed 148 = .ok (.iload 6, 2) := by decide +kernel
theorem dX9_missed_150 : decode cX9_missed 150 = .ok (.if_icmp .ge 7, 3) := by decide +kernel
theorem dX9_missed_153 : decode cX9_missed 153 = .ok (.iconst 1, 1) := by decide +kernel
theorem dX9_missed_154 : decode cX9_missed 154 = .ok (.goto 4, 3) := by decide +kernel
theorem dX9_missed_157 : decode cX9_missed 157 = .ok (.iconst 0, 1) := by decide +kernel
theorem dX9_missed_158 : decode cX9_missed 158 = .ok (.istore 8, 2) := by decide +kernel
theorem dX9_missed_160 : decode cX9_missed 160 = .ok (.iload 8, 2) := by decide +kernel
theorem dX9_missed_162 : decode cX9_missed 162 = .ok (.ifCond .eq 20, 3) := by decide +kernel
theorem dX9_missed_165 : decode cX9_missed 165 = .ok (.iload 6, 2) := by decide +kernel
theorem dX9_missed_167 : decode cX9_missed 167 = .ok (.iload 7, 2) := by decide +kernel
theorem dX9_missed_169 : decode cX9_missed 169 = .ok (.isub, 1) := by decide +kernel
theorem dX9_missed_170 : decode cX9_missed 170 = .ok (.iload_n 2, 1) := by decide +kernel
theorem dX9_missed_171 : decode cX9_missed 171 = .ok (.if_icmp .ge 11, 3) := by decide +kernel
theorem dX9_missed_174 : decode cX9_missed 174 = .ok (.iload 6, 2) := by decide +kernel
theorem dX9_missed_176 : decode cX9_missed 176 = .ok (.iload 7, 2) := by decide +kernel
theorem dX9_missed_178 : decode cX9_missed 178 = .ok (.isub, 1) := by decide +kernel
theorem dX9_missed_179 : decode cX9_missed 179 = .ok (.goto 4, 3) := by decide +kernel
theorem dX9_missed_182 : decode cX9_missed 182 = .ok (.iload_n 2, 1) := by decide +kernel
theorem dX9_missed_183 : decode cX9_missed 183 = .ok (.istore_n 2, 1) := by decide +kernel
theorem dX9_missed_184 : decode cX9_missed 184 = .ok (.iinc 4 1, 3) := by decide +kernel
theorem dX9_missed_187 : decode cX9_missed 187 = .ok (.goto (-159), 3) := by decide +kernel
theorem dX9_missed_190 : decode cX9_missed 190 = .ok (.iinc 3 1, 3) := by decide +kernel
theorem dX9_missed_193 : decode cX9_missed 193 = .ok (.goto (-174), 3) := by decide +kernel
theorem dX9_missed_196 : decode cX9_missed 196 = .ok (.iload_n 2, 1) := by decide +kernel
theorem dX9_missed_197 : decode cX9_missed 197 = .ok (.ldc 112, 2) := by decide +kernel
theorem dX9_missed_199 : decode cX9_missed 199 = .ok (.if_icmp .ne 8, 3) := by decide +kernel
theorem dX9_missed_202 : decode cX9_missed 202 = .ok (.bipush (-5), 2) := by decide +kernel
theorem dX9_missed_204 : decode cX9_missed 204 = .ok (.goto 4, 3) := by decide +kernel
theorem dX9_missed_207 : decode cX9_missed 207 = .ok (.iload_n 2, 1) := by decide +kernel
theorem dX9_missed_208 : decode cX9_missed 208 = .ok (.ireturn, 1) := by decide +kernel
theorem dX9_meet_0 : decode cX9_meet 0 = .ok (.aload_n 0, 1) := by decide +kernel
theorem dX9_meet_1 : decode cX9_meet 1 = .ok (.iconst 0, 1) := by decide +kernel
theorem dX9_meet_2 : decode cX9_meet 2 = .ok (.putfield 87, 3) := by decide +kernel
theorem dX9_meet_5 : decode cX9_meet 5 = .ok (.aload_n 0, 1) := by decide +kernel
theorem dX9_meet_6 : decode cX9_meet 6 = .ok (.iload_n 1, 1) := by decide +kernel
theorem dX9_meet_7 : decode cX9_meet 7 = .ok (.invokevirtual 101, 3) := by decide +kernel
theorem dX9_meet_10 : decode cX9_meet 10 = .ok (.ifCond .eq 11, 3) := by decide +kernel
theorem dX9_meet_13 : decode cX9_meet 13 = .ok (.aload_n 0, 1) := by decide +kernel
theorem dX9_meet_14 : decode cX9_meet 14 = .ok (.iload_n 2, 1) := by decide +kernel
theorem dX9_meet_15 : decode cX9_meet 15 = .ok (.invokevirtual 101, 3) := by decide +kernel
theorem dX9_meet_18 : decode cX9_meet 18 = .ok (.ifCond .ne 5, 3) := by decide +kernel
theorem dX9_meet_21 : decode cX9_meet 21 = .ok (.iconst (-1), 1) := by decide +kernel
theorem dX9_meet_22 : decode cX9_meet 22 = .ok (.ireturn, 1) := by decide +kernel
theorem dX9_meet_23 : decode cX9_meet 23 = .ok (.iconst 0, 1) := by decide +kernel
theorem dX9_meet_24 : decode cX9_meet 24 = .ok (.istore_n 3, 1) := by decide +kernel
theorem dX9_meet_25 : decode cX9_meet 25 = .ok (.iconst 0, 1) := by decide +kernel
theorem dX9_meet_26 : decode cX9_meet 26 = .ok (.istore 4, 2) := by decide +kernel
theorem dX9_meet_28 : decode cX9_meet 28 = .ok (.iload 4, 2) := by decide +kernel
theorem dX9_meet_30 : decode cX9_meet 30 = .ok (.bipush 12, 2) := by decide +kernel
theorem dX9_meet_32 : decode cX9_meet 32 = .ok (.if_icmp .ge 40, 3) := by decide +kernel
theorem dX9_meet_35 : decode cX9_meet 35 = .ok (.iload_n 3, 1) := by decide +kernel
theorem dX9_meet_36 : decode cX9_meet 36 = .ok (.aload_n 0, 1) := by decide +kernel
theorem dX9_meet_37 : decode cX9_meet 37 = .ok (.iload_n 1, 1) := by decide +kernel
theorem dX9_meet_38 : decode cX9_meet 38 = .ok (.iload 4, 2) := by decide +kernel
theorem dX9_meet_40 : decode cX9_meet 40 = .ok (.invokevirtual 300, 3) := by decide +kernel
theorem dX9_meet_43 : decode cX9_meet 43 = .ok (.ifCond .lt 20, 3) := by decide +kernel
theorem dX9_meet_46 : decode cX9_meet 46 = .ok (.aload_n 0, 1) := by decide +kernel
theorem dX9_meet_47 : decode cX9_meet 47 = .ok (.iload_n 2, 1) := by decide +kernel
theorem dX9_meet_48 : decode cX9_meet 48 = .ok (.iload 4, 2) := by decide +kernel
theorem dX9_meet_50 : decode cX9_meet 50 = .ok (.invokevirtual 300, 3) := by decide +kernel
theorem dX9_meet_53 : decode cX9_meet 53 = .ok (.ifCond .lt 10, 3) := by decide +kernel
theorem dX9_meet_56 : decode cX9_meet 56 = .ok (.iconst 1, 1) := by decide +kernel
theorem dX9_meet_57 : decode cX9_meet 57 = .ok (.iload 4, 2) := by decide +kernel
theorem dX9_meet_59 : decode cX9_meet 59 = .ok (.ishl, 1) := by decide +kernel
theorem dX9_meet_60 : decode cX9_meet 60 = .ok (.goto 4, 3) := by decide +kernel
theorem dX9_meet_63 : decode cX9_meet 63 = .ok (.iconst 0, 1) := by decide +kernel
theorem dX9_meet_64 : decode cX9_meet 64 = .ok (.ior, 1) := by decide +kernel
theorem dX9_meet_65 : decode cX9_meet 65 = .ok (.istore_n 3, 1) := by decide +kernel
theorem dX9_meet_66 : decode cX9_meet 66 = .ok (.iinc 4 1, 3) := by decide +kernel
theorem dX9_meet_69 : decode cX9_meet 69 = .ok (.goto (-41), 3) := by decide +kernel
theorem dX9_meet_72 : decode cX9_meet 72 = .ok (.iload_n 3, 1) := by decide +kernel
theorem dX9_meet_73 : decode cX9_meet 73 = .ok (.ireturn, 1) := by decide +kernel
theorem dX9_writes_0 : decode cX9_writes 0 = .ok (.aload_n 0, 1) := by decide +kernel
theorem dX9_writes_1 : decode cX9_writes 1 = .ok (.getfield 74, 3) := by decide +kernel
theorem dX9_writes_4 : decode cX9_writes 4 = .ok (.aload_n 0, 1) := by decide +kernel
theorem dX9_writes_5 : decode cX9_writes 5 = .ok (.getfield 321, 3) := by decide +kernel
theorem dX9_writes_8 : decode cX9_writes 8 = .ok (.iload_n 1, 1) := by decide +kernel
theorem dX9_writes_9 : decode cX9_writes 9 = .ok (.iastore, 1) := by decide +kernel
theorem dX9_writes_10 : decode cX9_writes 10 = .ok (.aload_n 0, 1) := by decide +kernel
theorem dX9_writes_11 : decode cX9_writes 11 = .ok (.dup, 1) := by decide +kernel
theorem dX9_writes_12 : decode cX9_writes 12 = .ok (.getfield 321, 3) := by decide +kernel
theorem dX9_writes_15 : decode cX9_writes 15 = .ok (.iconst 1, 1) := by decide +kernel
theorem dX9_writes_16 : decode cX9_writes 16 = .ok (.iadd, 1) := by decide +kernel
theorem dX9_writes_17 : decode cX9_writes 17 = .ok (.putfield 321, 3) := by decide +kernel
theorem dX9_writes_20 : decode cX9_writes 20 = .ok (.return_, 1) := by decide +kernel
theorem dX9_writesNumber_0 : decode cX9_writesNumber 0 = .ok (.iload_n 1, 1) := by decide +kernel
theorem dX9_writesNumber_1 : decode cX9_writesNumber 1 = .ok (.bipush 9, 2) := by decide +kernel
theorem dX9_writesNumber_3 : decode cX9_writesNumber 3 = .ok (.if_icmp .le 14, 3) := by decide +kernel
theorem dX9_writesNumber_6 : decode cX9_writesNumber 6 = .ok (.aload_n 0, 1) := by decide +kernel
theorem dX9_writesNumber_7 : decode cX9_writesNumber 7 = .ok (.bipush 48, 2) := by decide +kernel
theorem dX9_writesNumber_9 : decode cX9_writesNumber 9 = .ok (.iload_n 1, 1) := by decide +kernel
theorem dX9_writesNumber_10 : decode cX9_writesNumber 10 = .ok (.bipush 10, 2) := by decide +kernel
theorem dX9_writesNumber_12 : decode cX9_writesNumber 12 = .ok (.idiv, 1) := by decide +kernel
theorem dX9_writesNumber_13 : decode cX9_writesNumber 13 = .ok (.iadd, 1) := by decide +kernel
theorem dX9_writesNumber_14 : decode cX9_writesNumber 14 = .ok (.invokevirtual 324, 3) := by decide +kernel
theorem dX9_writesNumber_17 : decode cX9_writesNumber 17 = .ok (.aload_n 0, 1) := by decide +kernel
theorem dX9_writesNumber_18 : decode cX9_writesNumber 18 = .ok (.bipush 48, 2) := by decide +kernel
theorem dX9_writesNumber_20 : decode cX9_writesNumber 20 = .ok (.iload_n 1, 1) := by decide +kernel
theorem dX9_writesNumber_21 : decode cX9_writesNumber 21 = .ok (.bipush 10, 2) := by decide +kernel
theorem dX9_writesNumber_23 : decode cX9_writesNumber 23 = .ok (.irem, 1) := by decide +kernel
theorem dX9_writesNumber_24 : decode cX9_writesNumber 24 = .ok (.iadd, 1) := by decide +kernel
theorem dX9_writesNumber_25 : decode cX9_writesNumber 25 = .ok (.invokevirtual 324, 3) := by decide +kernel
theorem dX9_writesNumber_28 : decode cX9_writesNumber 28 = .ok (.return_, 1) := by decide +kernel
theorem dX9_writesLeg_0 : decode cX9_writesLeg 0 = .ok (.aload_n 0, 1) := by decide +kernel
theorem dX9_writesLeg_1 : decode cX9_writesLeg 1 = .ok (.getfield 44, 3) := by decide +kernel
theorem dX9_writesLeg_4 : decode cX9_writesLeg 4 = .ok (.iload_n 1, 1) := by decide +kernel
theorem dX9_writesLeg_5 : decode cX9_writesLeg 5 = .ok (.iaload, 1) := by decide +kernel
theorem dX9_writesLeg_6 : decode cX9_writesLeg 6 = .ok (.ifCond .ge 12, 3) := by decide +kernel
theorem dX9_writesLeg_9 : decode cX9_writesLeg 9 = .ok (.aload_n 0, 1) := by decide +kernel
theorem dX9_writesLeg_10 : decode cX9_writesLeg 10 = .ok (.bipush 87, 2) := by decide +kernel
theorem dX9_writesLeg_12 : decode cX9_writesLeg 12 = .ok (.invokevirtual 324, 3) := by decide +kernel
theorem dX9_writesLeg_15 : decode cX9_writesLeg 15 = .ok (.goto 35, 3) := by decide +kernel
theorem dX9_writesLeg_18 : decode cX9_writesLeg 18 = .ok (.aload_n 0, 1) := by decide +kernel
theorem dX9_writesLeg_19 : decode cX9_writesLeg 19 = .ok (.bipush 76, 2) := by decide +kernel
theorem dX9_writesLeg_21 : decode cX9_writesLeg 21 = .ok (.invokevirtual 324, 3) := by decide +kernel
theorem dX9_writesLeg_24 : decode cX9_writesLeg 24 = .ok (.aload_n 0, 1) := by decide +kernel
theorem dX9_writesLeg_25 : decode cX9_writesLeg 25 = .ok (.aload_n 0, 1) := by decide +kernel
theorem dX9_writesLeg_26 : decode cX9_writesLeg 26 = .ok (.getfield 44, 3) := by decide +kernel
theorem dX9_writesLeg_29 : decode cX9_writesLeg 29 = .ok (.iload_n 1, 1) := by decide +kernel
theorem dX9_writesLeg_30 : decode cX9_writesLeg 30 = .ok (.iaload, 1) := by decide +kernel
theorem dX9_writesLeg_31 : decode cX9_writesLeg 31 = .ok (.invokevirtual 327, 3) := by decide +kernel
theorem dX9_writesLeg_34 : decode cX9_writesLeg 34 = .ok (.aload_n 0, 1) := by decide +kernel
theorem dX9_writesLeg_35 : decode cX9_writesLeg 35 = .ok (.bipush 46, 2) := by decide +kernel
theorem dX9_writesLeg_37 : decode cX9_writesLeg 37 = .ok (.invokevirtual 324, 3) := by decide +kernel
theorem dX9_writesLeg_40 : decode cX9_writesLeg 40 = .ok (.aload_n 0, 1) := by decide +kernel
theorem dX9_writesLeg_41 : decode cX9_writesLeg 41 = .ok (.aload_n 0, 1) := by decide +kernel
theorem dX9_writesLeg_42 : decode cX9_writesLeg 42 = .ok (.getfield 47, 3) := by decide +kernel
theorem dX9_writesLeg_45 : decode cX9_writesLeg 45 = .ok (.iload_n 1, 1) := by decide +kernel
theorem dX9_writesLeg_46 : decode cX9_writesLeg 46 = .ok (.iaload, 1) := by decide +kernel
theorem dX9_writesLeg_47 : decode cX9_writesLeg 47 = .ok (.invokevirtual 327, 3) := by decide +kernel
theorem dX9_writesLeg_50 : decode cX9_writesLeg 50 = .ok (.aload_n 0, 1) := by decide +kernel
theorem dX9_writesLeg_51 : decode cX9_writesLeg 51 = .ok (.bipush 58, 2) := by decide +kernel
theorem dX9_writesLeg_53 : decode cX9_writesLeg 53 = .ok (.invokevirtual 324, 3) := by decide +kernel
theorem dX9_writesLeg_56 : decode cX9_writesLeg 56 = .ok (.aload_n 0, 1) := by decide +kernel
theorem dX9_writesLeg_57 : decode cX9_writesLeg 57 = .ok (.aload_n 0, 1) := by decide +kernel
theorem dX9_writesLeg_58 : decode cX9_writesLeg 58 = .ok (.getfield 50, 3) := by decide +kernel
theorem dX9_writesLeg_61 : decode cX9_writesLeg 61 = .ok (.iload_n 1, 1) := by decide +kernel
theorem dX9_writesLeg_62 : decode cX9_writesLeg 62 = .ok (.iaload, 1) := by decide +kernel
theorem dX9_writesLeg_63 : decode cX9_writesLeg 63 = .ok (.invokevirtual 327, 3) := by decide +kernel
theorem dX9_writesLeg_66 : decode cX9_writesLeg 66 = .ok (.aload_n 0, 1) := by decide +kernel
theorem dX9_writesLeg_67 : decode cX9_writesLeg 67 = .ok (.bipush 62, 2) := by decide +kernel
theorem dX9_writesLeg_69 : decode cX9_writesLeg 69 = .ok (.invokevirtual 324, 3) := by decide +kernel
theorem dX9_writesLeg_72 : decode cX9_writesLeg 72 = .ok (.aload_n 0, 1) := by decide +kernel
theorem dX9_writesLeg_73 : decode cX9_writesLeg 73 = .ok (.aload_n 0, 1) := by decide +kernel
theorem dX9_writesLeg_74 : decode cX9_writesLeg 74 = .ok (.getfield 53, 3) := by decide +kernel
theorem dX9_writesLeg_77 : decode cX9_writesLeg 77 = .ok (.iload_n 1, 1) := by decide +kernel
theorem dX9_writesLeg_78 : decode cX9_writesLeg 78 = .ok (.iaload, 1) := by decide +kernel
theorem dX9_writesLeg_79 : decode cX9_writesLeg 79 = .ok (.invokevirtual 327, 3) := by decide +kernel
theorem dX9_writesLeg_82 : decode cX9_writesLeg 82 = .ok (.return_, 1) := by decide +kernel
theorem dX9_spell_0 : decode cX9_spell 0 = .ok (.aload_n 0, 1) := by decide +kernel
theorem dX9_spell_1 : decode cX9_spell 1 = .ok (.iconst 0, 1) := by decide +kernel
theorem dX9_spell_2 : decode cX9_spell 2 = .ok (.putfield 87, 3) := by decide +kernel
theorem dX9_spell_5 : decode cX9_spell 5 = .ok (.iload_n 1, 1) := by decide +kernel
theorem dX9_spell_6 : decode cX9_spell 6 = .ok (.iload_n 3, 1) := by decide +kernel
theorem dX9_spell_7 : decode cX9_spell 7 = .ok (.iload_n 2, 1) := by decide +kernel
theorem dX9_spell_8 : decode cX9_spell 8 = .ok (.iload 4, 2) := by decide +kernel
theorem dX9_spell_10 : decode cX9_spell 10 = .ok (.invokestatic 278, 3) := by decide +kernel
theorem dX9_spell_13 : decode cX9_spell 13 = .ok (.ifCond .ge 12, 3) := by decide +kernel
theorem dX9_spell_16 : decode cX9_spell 16 = .ok (.iload_n 1, 1) := by decide +kernel
theorem dX9_spell_17 : decode cX9_spell 17 = .ok (.iload_n 3, 1) := by decide +kernel
theorem dX9_spell_18 : decode cX9_spell 18 = .ok (.iload_n 2, 1) := by decide +kernel
theorem dX9_spell_19 : decode cX9_spell 19 = .ok (.iload 4, 2) := by decide +kernel
theorem dX9_spell_21 : decode cX9_spell 21 = .ok (.invokestatic 278, 3) := by decide +kernel
theorem dX9_spell_24 : decode cX9_spell 24 = .ok (.ireturn, 1) := by decide +kernel
theorem dX9_spell_25 : decode cX9_spell 25 = .ok (.aload_n 0, 1) := by decide +kernel
theorem dX9_spell_26 : decode cX9_spell 26 = .ok (.iload_n 1, 1) := by decide +kernel
theorem dX9_spell_27 : decode cX9_spell 27 = .ok (.iload_n 2, 1) := by decide +kernel
theorem dX9_spell_28 : decode cX9_spell 28 = .ok (.iload_n 3, 1) := by decide +kernel
theorem dX9_spell_29 : decode cX9_spell 29 = .ok (.iload 4, 2) := by decide +kernel
theorem dX9_spell_31 : decode cX9_spell 31 = .ok (.invokevirtual 285, 3) := by decide +kernel
theorem dX9_spell_34 : decode cX9_spell 34 = .ok (.ifCond .ne 6, 3) := by decide +kernel
theorem dX9_spell_37 : decode cX9_spell 37 = .ok (.bipush (-5), 2) := by decide +kernel
theorem dX9_spell_39 : decode cX9_spell 39 = .ok (.ireturn, 1) := by decide +kernel
theorem dX9_spell_40 : decode cX9_spell 40 = .ok (.aload_n 0, 1) := by decide +kernel
theorem dX9_spell_41 : decode cX9_spell 41 = .ok (.iconst 0, 1) := by decide +kernel
theorem dX9_spell_42 : decode cX9_spell 42 = .ok (.putfield 321, 3) := by decide +kernel
theorem dX9_spell_45 : decode cX9_spell 45 = .ok (.aload_n 0, 1) := by decide +kernel
theorem dX9_spell_46 : decode cX9_spell 46 = .ok (.getfield 155, 3) := by decide +kernel
theorem dX9_spell_49 : decode cX9_spell 49 = .ok (.iconst 1, 1) := by decide +kernel
theorem dX9_spell_50 : decode cX9_spell 50 = .ok (.isub, 1) := by decide +kernel
theorem dX9_spell_51 : decode cX9_spell 51 = .ok (.istore 5, 2) := by decide +kernel
theorem dX9_spell_53 : decode cX9_spell 53 = .ok (.iload 5, 2) := by decide +kernel
theorem dX9_spell_55 : decode cX9_spell 55 = .ok (.ifCond .lt 26, 3) := by decide +kernel
theorem dX9_spell_58 : decode cX9_spell 58 = .ok (.aload_n 0, 1) := by decide +kernel
theorem dX9_spell_59 : decode cX9_spell 59 = .ok (.iload 5, 2) := by decide +kernel
theorem dX9_spell_61 : decode cX9_spell 61 = .ok (.invokevirtual 330, 3) := by decide +kernel
theorem dX9_spell_64 : decode cX9_spell 64 = .ok (.iload 5, 2) := by decide +kernel
theorem dX9_spell_66 : decode cX9_spell 66 = .ok (.ifCond .le 9, 3) := by decide +kernel
theorem dX9_spell_69 : decode cX9_spell 69 = .ok (.aload_n 0, 1) := by decide +kernel
theorem dX9_spell_70 : decode cX9_spell 70 = .ok (.bipush 32, 2) := by decide +kernel
theorem dX9_spell_72 : decode cX9_spell 72 = .ok (.invokevirtual 324, 3) := by decide +kernel
theorem dX9_spell_75 : decode cX9_spell 75 = .ok (.iinc 5 (-1), 3) := by decide +kernel
theorem dX9_spell_78 : decode cX9_spell 78 = .ok (.goto (-25), 3) := by decide +kernel
theorem dX9_spell_81 : decode cX9_spell 81 = .ok (.aload_n 0, 1) := by decide +kernel
theorem dX9_spell_82 : decode cX9_spell 82 = .ok (.getfield 321, 3) := by decide +kernel
theorem dX9_spell_85 : decode cX9_spell 85 = .ok (.ireturn, 1) := by decide +kernel
theorem dX9_paper_0 : decode cX9_paper 0 = .ok (.aload_n 0, 1) := by decide +kernel
theorem dX9_paper_1 : decode cX9_paper 1 = .ok (.iconst 0, 1) := by decide +kernel
theorem dX9_paper_2 : decode cX9_paper 2 = .ok (.putfield 87, 3) := by decide +kernel
theorem dX9_paper_5 : decode cX9_paper 5 = .ok (.iload_n 1, 1) := by decide +kernel
theorem dX9_paper_6 : decode cX9_paper 6 = .ok (.i2l, 1) := by decide +kernel
theorem dX9_paper_7 : decode cX9_paper 7 = .ok (.lconst 0, 1) := by decide +kernel
theorem dX9_paper_8 : decode cX9_paper 8 = .ok (.aload_n 0, 1) := by decide +kernel
theorem dX9_paper_9 : decode cX9_paper 9 = .ok (.getfield 321, 3) := by decide +kernel
theorem dX9_paper_12 : decode cX9_paper 12 = .ok (.iconst 1, 1) := by decide +kernel
theorem dX9_paper_13 : decode cX9_paper 13 = .ok (.isub, 1) := by decide +kernel
theorem dX9_paper_14 : decode cX9_paper 14 = .ok (.i2l, 1) := by decide +kernel
theorem dX9_paper_15 : decode cX9_paper 15 = .ok (.invokestatic 92, 3) := by decide +kernel
theorem dX9_paper_18 : decode cX9_paper 18 = .ok (.ifCond .eq 12, 3) := by decide +kernel
theorem dX9_paper_21 : decode cX9_paper 21 = .ok (.aload_n 0, 1) := by decide +kernel
theorem dX9_paper_22 : decode cX9_paper 22 = .ok (.getfield 74, 3) := by decide +kernel
theorem dX9_paper_25 : decode cX9_paper 25 = .ok (.iload_n 1, 1) := by decide +kernel
theorem dX9_paper_26 : decode cX9_paper 26 = .ok (.iaload, 1) := by decide +kernel
theorem dX9_paper_27 : decode cX9_paper 27 = .ok (.goto 4, 3) := by decide +kernel
theorem dX9_paper_30 : decode cX9_paper 30 = .ok (.iconst (-1), 1) := by decide +kernel
theorem dX9_paper_31 : decode cX9_paper 31 = .ok (.ireturn, 1) := by decide +kernel
theorem dX9_tripsOf_0 : decode cX9_tripsOf 0 = .ok (.iconst 0, 1) := by decide +kernel
theorem dX9_tripsOf_1 : decode cX9_tripsOf 1 = .ok (.istore_n 2, 1) := by decide +kernel
theorem dX9_tripsOf_2 : decode cX9_tripsOf 2 = .ok (.iconst 0, 1) := by decide +kernel
theorem dX9_tripsOf_3 : decode cX9_tripsOf 3 = .ok (.istore_n 3, 1) := by decide +kernel
theorem dX9_tripsOf_4 : decode cX9_tripsOf 4 = .ok (.iload_n 3, 1) := by decide +kernel
theorem dX9_tripsOf_5 : decode cX9_tripsOf 5 = .ok (.aload_n 0, 1) := by decide +kernel
theorem dX9_tripsOf_6 : decode cX9_tripsOf 6 = .ok (.getfield 98, 3) := by decide +kernel
theorem dX9_tripsOf_9 : decode cX9_tripsOf 9 = .ok (.if_icmp .ge 30, 3) := by decide +kernel
theorem dX9_tripsOf_12 : decode cX9_tripsOf 12 = .ok (.iload_n 2, 1) := by decide +kernel
theorem dX9_tripsOf_13 : decode cX9_tripsOf 13 = .ok (.iload_n 1, 1) := by decide +kernel
theorem dX9_tripsOf_14 : decode cX9_tripsOf 14 = .ok (.ifCond .eq 11, 3) := by decide +kernel
theorem dX9_tripsOf_17 : decode cX9_tripsOf 17 = .ok (.aload_n 0, 1) := by decide +kernel
theorem dX9_tripsOf_18 : decode cX9_tripsOf 18 = .ok (.iload_n 3, 1) := by decide +kernel
theorem dX9_tripsOf_19 : decode cX9_tripsOf 19 = .ok (.invokevirtual 254, 3) := by decide +kernel
theorem dX9_tripsOf_22 : decode cX9_tripsOf 22 = .ok (.goto 9, 3) := by decide +kernel
theorem dX9_tripsOf_25 : decode cX9_tripsOf 25 = .ok (.aload_n 0, 1) := by decide +kernel
theorem dX9_tripsOf_26 : decode cX9_tripsOf 26 = .ok (.getfield 19, 3) := by decide +kernel
theorem dX9_tripsOf_29 : decode cX9_tripsOf 29 = .ok (.iload_n 3, 1) := by decide +kernel
theorem dX9_tripsOf_30 : decode cX9_tripsOf 30 = .ok (.iaload, 1) := by decide +kernel
theorem dX9_tripsOf_31 : decode cX9_tripsOf 31 = .ok (.iadd, 1) := by decide +kernel
theorem dX9_tripsOf_32 : decode cX9_tripsOf 32 = .ok (.istore_n 2, 1) := by decide +kernel
theorem dX9_tripsOf_33 : decode cX9_tripsOf 33 = .ok (.iinc 3 1, 3) := by decide +kernel
theorem dX9_tripsOf_36 : decode cX9_tripsOf 36 = .ok (.goto (-32), 3) := by decide +kernel
theorem dX9_tripsOf_39 : decode cX9_tripsOf 39 = .ok (.iload_n 2, 1) := by decide +kernel
theorem dX9_tripsOf_40 : decode cX9_tripsOf 40 = .ok (.ireturn, 1) := by decide +kernel
theorem dX9_footMany_0 : decode cX9_footMany 0 = .ok (.iconst 0, 1) := by decide +kernel
theorem dX9_footMany_1 : decode cX9_footMany 1 = .ok (.istore_n 1, 1) := by decide +kernel
theorem dX9_footMany_2 : decode cX9_footMany 2 = .ok (.iconst 0, 1) := by decide +kernel
theorem dX9_footMany_3 : decode cX9_footMany 3 = .ok (.istore_n 2, 1) := by decide +kernel
theorem dX9_footMany_4 : decode cX9_footMany 4 = .ok (.iload_n 2, 1) := by decide +kernel
theorem dX9_footMany_5 : decode cX9_footMany 5 = .ok (.sipush 144, 3) := by decide +kernel
theorem dX9_footMany_8 : decode cX9_footMany 8 = .ok (.if_icmp .ge 26, 3) := by decide +kernel
theorem dX9_footMany_11 : decode cX9_footMany 11 = .ok (.iload_n 1, 1) := by decide +kernel
theorem dX9_footMany_12 : decode cX9_footMany 12 = .ok (.aload_n 0, 1) := by decide +kernel
theorem dX9_footMany_13 : decode cX9_footMany 13 = .ok (.getfield 28, 3) := by decide +kernel
theorem dX9_footMany_16 : decode cX9_footMany 16 = .ok (.iload_n 2, 1) := by decide +kernel
theorem dX9_footMany_17 : decode cX9_footMany 17 = .ok (.iaload, 1) := by decide +kernel
theorem dX9_footMany_18 : decode cX9_footMany 18 = .ok (.ifCond .le 7, 3) := by decide +kernel
theorem dX9_footMany_21 : decode cX9_footMany 21 = .ok (.iconst 1, 1) := by decide +kernel
theorem dX9_footMany_22 : decode cX9_footMany 22 = .ok (.goto 4, 3) := by decide +kernel
theorem dX9_footMany_25 : decode cX9_footMany 25 = .ok (.iconst 0, 1) := by decide +kernel
theorem dX9_footMany_26 : decode cX9_footMany 26 = .ok (.iadd, 1) := by decide +kernel
theorem dX9_footMany_27 : decode cX9_footMany 27 = .ok (.istore_n 1, 1) := by decide +kernel
theorem dX9_footMany_28 : decode cX9_footMany 28 = .ok (.iinc 2 1, 3) := by decide +kernel
theorem dX9_footMany_31 : decode cX9_footMany 31 = .ok (.goto (-27), 3) := by decide +kernel
theorem dX9_footMany_34 : decode cX9_footMany 34 = .ok (.iload_n 1, 1) := by decide +kernel
theorem dX9_footMany_35 : decode cX9_footMany 35 = .ok (.iconst 2, 1) := by decide +kernel
theorem dX9_footMany_36 : decode cX9_footMany 36 = .ok (.idiv, 1) := by decide +kernel
theorem dX9_footMany_37 : decode cX9_footMany 37 = .ok (.ireturn, 1) := by decide +kernel
theorem dX9_bareStops_0 : decode cX9_bareStops 0 = .ok (.iconst 0, 1) := by decide +kernel
theorem dX9_bareStops_1 : decode cX9_bareStops 1 = .ok (.istore_n 1, 1) := by decide +kernel
theorem dX9_bareStops_2 : decode cX9_bareStops 2 = .ok (.iconst 0, 1) := by decide +kernel
theorem dX9_bareStops_3 : decode cX9_bareStops 3 = .ok (.istore_n 2, 1) := by decide +kernel
theorem dX9_bareStops_4 : decode cX9_bareStops 4 = .ok (.iload_n 2, 1) := by decide +kernel
theorem dX9_bareStops_5 : decode cX9_bareStops 5 = .ok (.bipush 12, 2) := by decide +kernel
theorem dX9_bareStops_7 : decode cX9_bareStops 7 = .ok (.if_icmp .ge 61, 3) := by decide +kernel
theorem dX9_bareStops_10 : decode cX9_bareStops 10 = .ok (.iconst 1, 1) := by decide +kernel
theorem dX9_bareStops_11 : decode cX9_bareStops 11 = .ok (.istore_n 3, 1) := by decide +kernel
theorem dX9_bareStops_12 : decode cX9_bareStops 12 = .ok (.iconst 0, 1) := by decide +kernel
theorem dX9_bareStops_13 : decode cX9_bareStops 13 = .ok (.istore 4, 2) := by decide +kernel
theorem dX9_bareStops_15 : decode cX9_bareStops 15 = .ok (.iload 4, 2) := by decide +kernel
theorem dX9_bareStops_17 : decode cX9_bareStops 17 = .ok (.aload_n 0, 1) := by decide +kernel
theorem dX9_bareStops_18 : decode cX9_bareStops 18 = .ok (.getfield 98, 3) := by decide +kernel
theorem dX9_bareStops_21 : decode cX9_bareStops 21 = .ok (.if_icmp .ge 29, 3) := by decide +kernel
theorem dX9_bareStops_24 : decode cX9_bareStops 24 = .ok (.iload_n 3, 1) := by decide +kernel
theorem dX9_bareStops_25 : decode cX9_bareStops 25 = .ok (.ifCond .eq 17, 3) := by decide +kernel
theorem dX9_bareStops_28 : decode cX9_bareStops 28 = .ok (.aload_n 0, 1) := by decide +kernel
theorem dX9_bareStops_29 : decode cX9_bareStops 29 = .ok (.iload 4, 2) := by decide +kernel
theorem dX9_bareStops_31 : decode cX9_bareStops 31 = .ok (.iload_n 2, 1) := by decide +kernel
theorem dX9_bareStops_32 : decode cX9_bareStops 32 = .ok (.invokevirtual 300, 3) := by decide +kernel
theorem dX9_bareStops_35 : decode cX9_bareStops 35 = .ok (.ifCond .ge 7, 3) := by decide +kernel
theorem dX9_bareStops_38 : decode cX9_bareStops 38 = .ok (.iconst 1, 1) := by decide +kernel
theorem dX9_bareStops_39 : decode cX9_bareStops 39 = .ok (.goto 4, 3) := by decide +kernel
theorem dX9_bareStops_42 : decode cX9_bareStops 42 = .ok (.iconst 0, 1) := by decide +kernel
theorem dX9_bareStops_43 : decode cX9_bareStops 43 = .ok (.istore_n 3, 1) := by decide +kernel
theorem dX9_bareStops_44 : decode cX9_bareStops 44 = .ok (.iinc 4 1, 3) := by decide +kernel
theorem dX9_bareStops_47 : decode cX9_bareStops 47 = .ok (.goto (-32), 3) := by decide +kernel
theorem dX9_bareStops_50 : decode cX9_bareStops 50 = .ok (.iload_n 1, 1) := by decide +kernel
theorem dX9_bareStops_51 : decode cX9_bareStops 51 = .ok (.iload_n 3, 1) := by decide +kernel
theorem dX9_bareStops_52 : decode cX9_bareStops 52 = .ok (.ifCond .eq 7, 3) := by decide +kernel
theorem dX9_bareStops_55 : decode cX9_bareStops 55 = .ok (.iconst 1, 1) := by decide +kernel
theorem dX9_bareStops_56 : decode cX9_bareStops 56 = .ok (.goto 4, 3) := by decide +kernel
theorem dX9_bareStops_59 : decode cX9_bareStops 59 = .ok (.iconst 0, 1) := by decide +kernel
theorem dX9_bareStops_60 : decode cX9_bareStops 60 = .ok (.iadd, 1) := by decide +kernel
theorem dX9_bareStops_61 : decode cX9_bareStops 61 = .ok (.istore_n 1, 1) := by decide +kernel
theorem dX9_bareStops_62 : decode cX9_bareStops 62 = .ok (.iinc 2 1, 3) := by decide +kernel
theorem dX9_bareStops_65 : decode cX9_bareStops 65 = .ok (.goto (-61), 3) := by decide +kernel
theorem dX9_bareStops_68 : decode cX9_bareStops 68 = .ok (.iload_n 1, 1) := by decide +kernel
theorem dX9_bareStops_69 : decode cX9_bareStops 69 = .ok (.ireturn, 1) := by decide +kernel
theorem dX9_told_0 : decode cX9_told 0 = .ok (.aload_n 0, 1) := by decide +kernel
theorem dX9_told_1 : decode cX9_told 1 = .ok (.iconst 0, 1) := by decide +kernel
theorem dX9_told_2 : decode cX9_told 2 = .ok (.putfield 87, 3) := by decide +kernel
theorem dX9_told_5 : decode cX9_told 5 = .ok (.iload_n 1, 1) := by decide +kernel
theorem dX9_told_6 : decode cX9_told 6 = .ok (.tableswitch 82 0 6 #[42, 47, 62, 47, 67, 72, 77], 42) := by decide +kernel
theorem dX9_told_48 : decode cX9_told 48 = .ok (.aload_n 0, 1) := by decide +kernel
theorem dX9_told_49 : decode cX9_told 49 = .ok (.getfield 98, 3) := by decide +kernel
theorem dX9_told_52 : decode cX9_told 52 = .ok (.ireturn, 1) := by decide +kernel
theorem dX9_told_53 : decode cX9_told 53 = .ok (.aload_n 0, 1) := by decide +kernel
theorem dX9_told_54 : decode cX9_told 54 = .ok (.iload_n 1, 1) := by decide +kernel
theorem dX9_told_55 : decode cX9_told 55 = .ok (.iconst 3, 1) := by decide +kernel
theorem dX9_told_56 : decode cX9_told 56 = .ok (.if_icmp .ne 7, 3) := by decide +kernel
theorem dX9_told_59 : decode cX9_told 59 = .ok (.iconst 1, 1) := by decide +kernel
theorem dX9_told_60 : decode cX9_told 60 = .ok (.goto 4, 3) := by decide +kernel
theorem dX9_told_63 : decode cX9_told 63 = .ok (.iconst 0, 1) := by decide +kernel
theorem dX9_told_64 : decode cX9_told 64 = .ok (.invokevirtual 333, 3) := by decide +kernel
theorem dX9_told_67 : decode cX9_told 67 = .ok (.ireturn, 1) := by decide +kernel
theorem dX9_told_68 : decode cX9_told 68 = .ok (.aload_n 0, 1) := by decide +kernel
theorem dX9_told_69 : decode cX9_told 69 = .ok (.invokevirtual 337, 3) := by decide +kernel
theorem dX9_told_72 : decode cX9_told 72 = .ok (.ireturn, 1) := by decide +kernel
theorem dX9_told_73 : decode cX9_told 73 = .ok (.aload_n 0, 1) := by decide +kernel
theorem dX9_told_74 : decode cX9_told 74 = .ok (.invokevirtual 340, 3) := by decide +kernel
theorem dX9_told_77 : decode cX9_told 77 = .ok (.ireturn, 1) := by decide +kernel
theorem dX9_told_78 : decode cX9_told 78 = .ok (.aload_n 0, 1) := by decide +kernel
theorem dX9_told_79 : decode cX9_told 79 = .ok (.getfield 173, 3) := by decide +kernel
theorem dX9_told_82 : decode cX9_told 82 = .ok (.ireturn, 1) := by decide +kernel
theorem dX9_told_83 : decode cX9_told 83 = .ok (.aload_n 0, 1) := by decide +kernel
theorem dX9_told_84 : decode cX9_told 84 = .ok (.getfield 321, 3) := by decide +kernel
theorem dX9_told_87 : decode cX9_told 87 = .ok (.ireturn, 1) := by decide +kernel
theorem dX9_told_88 : decode cX9_told 88 = .ok (.iconst (-1), 1) := by decide +kernel
theorem dX9_told_89 : decode cX9_told 89 = .ok (.ireturn, 1) := by decide +kernel
theorem dX9_isList_0 : decode cX9_isList 0 = .ok (.iload_n 0, 1) := by decide +kernel
theorem dX9_isList_1 : decode cX9_isList 1 = .ok (.i2l, 1) := by decide +kernel
theorem dX9_isList_2 : decode cX9_isList 2 = .ok (.lconst 0, 1) := by decide +kernel
theorem dX9_isList_3 : decode cX9_isList 3 = .ok (.ldc2_w 252, 3) := by decide +kernel
theorem dX9_isList_6 : decode cX9_isList 6 = .ok (.invokestatic 92, 3) := by decide +kernel
theorem dX9_isList_9 : decode cX9_isList 9 = .ok (.ireturn, 1) := by decide +kernel
theorem dX9_list_0 : decode cX9_list 0 = .ok (.aload_n 0, 1) := by decide +kernel
theorem dX9_list_1 : decode cX9_list 1 = .ok (.iconst 0, 1) := by decide +kernel
theorem dX9_list_2 : decode cX9_list 2 = .ok (.putfield 87, 3) := by decide +kernel
theorem dX9_list_5 : decode cX9_list 5 = .ok (.iload_n 1, 1) := by decide +kernel
theorem dX9_list_6 : decode cX9_list 6 = .ok (.invokestatic 343, 3) := by decide +kernel
theorem dX9_list_9 : decode cX9_list 9 = .ok (.ifCond .ne 5, 3) := by decide +kernel
theorem dX9_list_12 : decode cX9_list 12 = .ok (.iconst (-1), 1) := by decide +kernel
theorem dX9_list_13 : decode cX9_list 13 = .ok (.ireturn, 1) := by decide +kernel
theorem dX9_list_14 : decode cX9_list 14 = .ok (.iload_n 2, 1) := by decide +kernel
theorem dX9_list_15 : decode cX9_list 15 = .ok (.bipush 20, 2) := by decide +kernel
theorem dX9_list_17 : decode cX9_list 17 = .ok (.if_icmp .gt 7, 3) := by decide +kernel
theorem dX9_list_20 : decode cX9_list 20 = .ok (.iload_n 2, 1) := by decide +kernel
theorem dX9_list_21 : decode cX9_list 21 = .ok (.ifCond .ge 15, 3) := by decide +kernel
theorem dX9_list_24 : decode cX9_list 24 = .ok (.iload_n 2, 1) := by decide +kernel
theorem dX9_list_25 : decode cX9_list 25 = .ok (.ifCond .ge 8, 3) := by decide +kernel
theorem dX9_list_28 : decode cX9_list 28 = .ok (.bipush (-14), 2) := by decide +kernel
theorem dX9_list_30 : decode cX9_list 30 = .ok (.goto 5, 3) := by decide +kernel
theorem dX9_list_33 : decode cX9_list 33 = .ok (.bipush (-2), 2) := by decide +kernel
theorem dX9_list_35 : decode cX9_list 35 = .ok (.ireturn, 1) := by decide +kernel
theorem dX9_list_36 : decode cX9_list 36 = .ok (.aload_n 0, 1) := by decide +kernel
theorem dX9_list_37 : decode cX9_list 37 = .ok (.getfield 77, 3) := by decide +kernel
theorem dX9_list_40 : decode cX9_list 40 = .ok (.iload_n 1, 1) := by decide +kernel
theorem dX9_list_41 : decode cX9_list 41 = .ok (.iconst 1, 1) := by decide +kernel
theorem dX9_list_42 : decode cX9_list 42 = .ok (.bastore, 1) := by decide +kernel
theorem dX9_list_43 : decode cX9_list 43 = .ok (.aload_n 0, 1) := by decide +kernel
theorem dX9_list_44 : decode cX9_list 44 = .ok (.getfield 81, 3) := by decide +kernel
theorem dX9_list_47 : decode cX9_list 47 = .ok (.iload_n 1, 1) := by decide +kernel
theorem dX9_list_48 : decode cX9_list 48 = .ok (.iload_n 2, 1) := by decide +kernel
theorem dX9_list_49 : decode cX9_list 49 = .ok (.iastore, 1) := by decide +kernel
theorem dX9_list_50 : decode cX9_list 50 = .ok (.iconst 0, 1) := by decide +kernel
theorem dX9_list_51 : decode cX9_list 51 = .ok (.istore_n 3, 1) := by decide +kernel
theorem dX9_list_52 : decode cX9_list 52 = .ok (.iload_n 3, 1) := by decide +kernel
theorem dX9_list_53 : decode cX9_list 53 = .ok (.bipush 20, 2) := by decide +kernel
theorem dX9_list_55 : decode cX9_list 55 = .ok (.if_icmp .ge 21, 3) := by decide +kernel
theorem dX9_list_58 : decode cX9_list 58 = .ok (.aload_n 0, 1) := by decide +kernel
theorem dX9_list_59 : decode cX9_list 59 = .ok (.getfield 84, 3) := by decide +kernel
theorem dX9_list_62 : decode cX9_list 62 = .ok (.bipush 20, 2) := by decide +kernel
theorem dX9_list_64 : decode cX9_list 64 = .ok (.iload_n 1, 1) := by decide +kernel
theorem dX9_list_65 : decode cX9_list 65 = .ok (.imul, 1) := by decide +kernel
theorem dX9_list_66 : decode cX9_list 66 = .ok (.iload_n 3, 1) := by decide +kernel
theorem dX9_list_67 : decode cX9_list 67 = .ok (.iadd, 1) := by decide +kernel
theorem dX9_list_68 : decode cX9_list 68 = .ok (.iconst 0, 1) := by decide +kernel
theorem dX9_list_69 : decode cX9_list 69 = .ok (.iastore, 1) := by decide +kernel
theorem dX9_list_70 : decode cX9_list 70 = .ok (.iinc 3 1, 3) := by decide +kernel
theorem dX9_list_73 : decode cX9_list 73 = .ok (.goto (-21), 3) := by decide +kernel
theorem dX9_list_76 : decode cX9_list 76 = .ok (.iconst 1, 1) := by decide +kernel
theorem dX9_list_77 : decode cX9_list 77 = .ok (.ireturn, 1) := by decide +kernel
theorem dX9_set_0 : decode cX9_set 0 = .ok (.aload_n 0, 1) := by decide +kernel
theorem dX9_set_1 : decode cX9_set 1 = .ok (.iconst 0, 1) := by decide +kernel
theorem dX9_set_2 : decode cX9_set 2 = .ok (.putfield 87, 3) := by decide +kernel
theorem dX9_set_5 : decode cX9_set 5 = .ok (.iload_n 1, 1) := by decide +kernel
theorem dX9_set_6 : decode cX9_set 6 = .ok (.invokestatic 343, 3) := by decide +kernel
theorem dX9_set_9 : decode cX9_set 9 = .ok (.ifCond .eq 12, 3) := by decide +kernel
theorem dX9_set_12 : decode cX9_set 12 = .ok (.aload_n 0, 1) := by decide +kernel
theorem dX9_set_13 : decode cX9_set 13 = .ok (.getfield 77, 3) := by decide +kernel
theorem dX9_set_16 : decode cX9_set 16 = .ok (.iload_n 1, 1) := by decide +kernel
theorem dX9_set_17 : decode cX9_set 17 = .ok (.baload, 1) := by decide +kernel
theorem dX9_set_18 : decode cX9_set 18 = .ok (.ifCond .ne 17, 3) := by decide +kernel
theorem dX9_set_21 : decode cX9_set 21 = .ok (.iload_n 1, 1) := by decide +kernel
theorem dX9_set_22 : decode cX9_set 22 = .ok (.invokestatic 343, 3) := by decide +kernel
theorem dX9_set_25 : decode cX9_set 25 = .ok (.ifCond .eq 8, 3) := by decide +kernel
theorem dX9_set_28 : decode cX9_set 28 = .ok (.bipush (-11), 2) := by decide +kernel
theorem dX9_set_30 : decode cX9_set 30 = .ok (.goto 4, 3) := by decide +kernel
theorem dX9_set_33 : decode cX9_set 33 = .ok (.iconst (-1), 1) := by decide +kernel
theorem dX9_set_34 : decode cX9_set 34 = .ok (.ireturn, 1) := by decide +kernel
theorem dX9_set_35 : decode cX9_set 35 = .ok (.iload_n 2, 1) := by decide +kernel
theorem dX9_set_36 : decode cX9_set 36 = .ok (.i2l, 1) := by decide +kernel
theorem dX9_set_37 : decode cX9_set 37 = .ok (.lconst 0, 1) := by decide +kernel
theorem dX9_set_38 : decode cX9_set 38 = .ok (.aload_n 0, 1) := by decide +kernel
theorem dX9_set_39 : decode cX9_set 39 = .ok (.getfield 81, 3) := by decide +kernel
theorem dX9_set_42 : decode cX9_set 42 = .ok (.iload_n 1, 1) := by decide +kernel
theorem dX9_set_43 : decode cX9_set 43 = .ok (.iaload, 1) := by decide +kernel
theorem dX9_set_44 : decode cX9_set 44 = .ok (.iconst 1, 1) := by decide +kernel
theorem dX9_set_45 : decode cX9_set 45 = .ok (.isub, 1) := by decide +kernel
theorem dX9_set_46 : decode cX9_set 46 = .ok (.i2l, 1) := by decide +kernel
theorem dX9_set_47 : decode cX9_set 47 = .ok (.invokestatic 92, 3) := by decide +kernel
theorem dX9_set_50 : decode cX9_set 50 = .ok (.ifCond .ne 6, 3) := by decide +kernel
theorem dX9_set_53 : decode cX9_set 53 = .ok (.bipush (-13), 2) := by decide +kernel
theorem dX9_set_55 : decode cX9_set 55 = .ok (.ireturn, 1) := by decide +kernel
theorem dX9_set_56 : decode cX9_set 56 = .ok (.aload_n 0, 1) := by decide +kernel
theorem dX9_set_57 : decode cX9_set 57 = .ok (.getfield 84, 3) := by decide +kernel
theorem dX9_set_60 : decode cX9_set 60 = .ok (.bipush 20, 2) := by decide +kernel
theorem dX9_set_62 : decode cX9_set 62 = .ok (.iload_n 1, 1) := by decide +kernel
theorem dX9_set_63 : decode cX9_set 63 = .ok (.imul, 1) := by decide +kernel
theorem dX9_set_64 : decode cX9_set 64 = .ok (.iload_n 2, 1) := by decide +kernel
theorem dX9_set_65 : decode cX9_set 65 = .ok (.iadd, 1) := by decide +kernel
theorem dX9_set_66 : decode cX9_set 66 = .ok (.iload_n 3, 1) := by decide +kernel
theorem dX9_set_67 : decode cX9_set 67 = .ok (.iastore, 1) := by decide +kernel
theorem dX9_set_68 : decode cX9_set 68 = .ok (.iconst 1, 1) := by decide +kernel
theorem dX9_set_69 : decode cX9_set 69 = .ok (.ireturn, 1) := by decide +kernel
theorem dX9_get_0 : decode cX9_get 0 = .ok (.aload_n 0, 1) := by decide +kernel
theorem dX9_get_1 : decode cX9_get 1 = .ok (.iconst 0, 1) := by decide +kernel
theorem dX9_get_2 : decode cX9_get 2 = .ok (.putfield 87, 3) := by decide +kernel
theorem dX9_get_5 : decode cX9_get 5 = .ok (.iload_n 1, 1) := by decide +kernel
theorem dX9_get_6 : decode cX9_get 6 = .ok (.invokestatic 343, 3) := by decide +kernel
theorem dX9_get_9 : decode cX9_get 9 = .ok (.ifCond .eq 44, 3) := by decide +kernel
theorem dX9_get_12 : decode cX9_get 12 = .ok (.aload_n 0, 1) := by decide +kernel
theorem dX9_get_13 : decode cX9_get 13 = .ok (.getfield 77, 3) := by decide +kernel
theorem dX9_get_16 : decode cX9_get 16 = .ok (.iload_n 1, 1) := by decide +kernel
theorem dX9_get_17 : decode cX9_get 17 = .ok (.baload, 1) := by decide +kernel
theorem dX9_get_18 : decode cX9_get 18 = .ok (.ifCond .eq 35, 3) := by decide +kernel
theorem dX9_get_21 : decode cX9_get 21 = .ok (.iload_n 2, 1) := by decide +kernel
theorem dX9_get_22 : decode cX9_get 22 = .ok (.i2l, 1) := by decide +kernel
theorem dX9_get_23 : decode cX9_get 23 = .ok (.lconst 0, 1) := by decide +kernel
theorem dX9_get_24 : decode cX9_get 24 = .ok (.aload_n 0, 1) := by decide +kernel
theorem dX9_get_25 : decode cX9_get 25 = .ok (.getfield 81, 3) := by decide +kernel
theorem dX9_get_28 : decode cX9_get 28 = .ok (.iload_n 1, 1) := by decide +kernel
theorem dX9_get_29 : decode cX9_get 29 = .ok (.iaload, 1) := by decide +kernel
theorem dX9_get_30 : decode cX9_get 30 = .ok (.iconst 1, 1) := by decide +kernel
theorem dX9_get_31 : decode cX9_get 31 = .ok (.isub, 1) := by decide +kernel
theorem dX9_get_32 : decode cX9_get 32 = .ok (.i2l, 1) := by decide +kernel
theorem dX9_get_33 : decode cX9_get 33 = .ok (.invokestatic 92, 3) := by decide +kernel
theorem dX9_get_36 : decode cX9_get 36 = .ok (.ifCond .eq 17, 3) := by decide +kernel
theorem dX9_get_39 : decode cX9_get 39 = .ok (.aload_n 0, 1) := by decide +kernel
theorem dX9_get_40 : decode cX9_get 40 = .ok (.getfield 84, 3) := by decide +kernel
theorem dX9_get_43 : decode cX9_get 43 = .ok (.bipush 20, 2) := by decide +kernel
theorem dX9_get_45 : decode cX9_get 45 = .ok (.iload_n 1, 1) := by decide +kernel
theorem dX9_get_46 : decode cX9_get 46 = .ok (.imul, 1) := by decide +kernel
theorem dX9_get_47 : decode cX9_get 47 = .ok (.iload_n 2, 1) := by decide +kernel
theorem dX9_get_48 : decode cX9_get 48 = .ok (.iadd, 1) := by decide +kernel
theorem dX9_get_49 : decode cX9_get 49 = .ok (.iaload, 1) := by decide +kernel
theorem dX9_get_50 : decode cX9_get 50 = .ok (.goto 6, 3) := by decide +kernel
theorem dX9_get_53 : decode cX9_get 53 = .ok (.ldc_w 346, 3) := by decide +kernel
theorem dX9_get_56 : decode cX9_get 56 = .ok (.ireturn, 1) := by decide +kernel
theorem dX9_wrongLay_0 : decode cX9_wrongLay 0 = .ok (.iload_n 1, 1) := by decide +kernel
theorem dX9_wrongLay_1 : decode cX9_wrongLay 1 = .ok (.invokestatic 343, 3) := by decide +kernel
theorem dX9_wrongLay_4 : decode cX9_wrongLay 4 = .ok (.ifCond .ne 7, 3) := by decide +kernel
theorem dX9_wrongLay_7 : decode cX9_wrongLay 7 = .ok (.iconst (-1), 1) := by decide +kernel
theorem dX9_wrongLay_8 : decode cX9_wrongLay 8 = .ok (.goto 11, 3) := by decide +kernel
theorem dX9_wrongLay_11 : decode cX9_wrongLay 11 = .ok (.iload_n 2, 1) := by decide +kernel
theorem dX9_wrongLay_12 : decode cX9_wrongLay 12 = .ok (.iload_n 2, 1) := by decide +kernel
theorem dX9_wrongLay_13 : decode cX9_wrongLay 13 = .ok (.iload_n 3, 1) := by decide +kernel
theorem dX9_wrongLay_14 : decode cX9_wrongLay 14 = .ok (.iload 4, 2) := by decide +kernel
theorem dX9_wrongLay_16 : decode cX9_wrongLay 16 = .ok (.invokestatic 278, 3) := by decide +kernel
theorem dX9_wrongLay_19 : decode cX9_wrongLay 19 = .ok (.istore 5, 2) := by decide +kernel
theorem dX9_wrongLay_21 : decode cX9_wrongLay 21 = .ok (.iload 5, 2) := by decide +kernel
theorem dX9_wrongLay_23 : decode cX9_wrongLay 23 = .ok (.ifCond .ge 8, 3) := by decide +kernel
theorem dX9_wrongLay_26 : decode cX9_wrongLay 26 = .ok (.iload 5, 2) := by decide +kernel
theorem dX9_wrongLay_28 : decode cX9_wrongLay 28 = .ok (.goto 18, 3) := by decide +kernel
theorem dX9_wrongLay_31 : decode cX9_wrongLay 31 = .ok (.aload_n 0, 1) := by decide +kernel
theorem dX9_wrongLay_32 : decode cX9_wrongLay 32 = .ok (.getfield 77, 3) := by decide +kernel
theorem dX9_wrongLay_35 : decode cX9_wrongLay 35 = .ok (.iload_n 1, 1) := by decide +kernel
theorem dX9_wrongLay_36 : decode cX9_wrongLay 36 = .ok (.baload, 1) := by decide +kernel
theorem dX9_wrongLay_37 : decode cX9_wrongLay 37 = .ok (.ifCond .eq 7, 3) := by decide +kernel
theorem dX9_wrongLay_40 : decode cX9_wrongLay 40 = .ok (.iconst 0, 1) := by decide +kernel
theorem dX9_wrongLay_41 : decode cX9_wrongLay 41 = .ok (.goto 5, 3) := by decide +kernel
theorem dX9_wrongLay_44 : decode cX9_wrongLay 44 = .ok (.bipush (-11), 2) := by decide +kernel
theorem dX9_wrongLay_46 : decode cX9_wrongLay 46 = .ok (.ireturn, 1) := by decide +kernel
theorem dX9_toldAt_0 : decode cX9_toldAt 0 = .ok (.aload_n 0, 1) := by decide +kernel
theorem dX9_toldAt_1 : decode cX9_toldAt 1 = .ok (.getfield 41, 3) := by decide +kernel
theorem dX9_toldAt_4 : decode cX9_toldAt 4 = .ok (.bipush 12, 2) := by decide +kernel
theorem dX9_toldAt_6 : decode cX9_toldAt 6 = .ok (.iload_n 1, 1) := by decide +kernel
theorem dX9_toldAt_7 : decode cX9_toldAt 7 = .ok (.imul, 1) := by decide +kernel
theorem dX9_toldAt_8 : decode cX9_toldAt 8 = .ok (.iload_n 2, 1) := by decide +kernel
theorem dX9_toldAt_9 : decode cX9_toldAt 9 = .ok (.iadd, 1) := by decide +kernel
theorem dX9_toldAt_10 : decode cX9_toldAt 10 = .ok (.iaload, 1) := by decide +kernel
theorem dX9_toldAt_11 : decode cX9_toldAt 11 = .ok (.ldc 112, 2) := by decide +kernel
theorem dX9_toldAt_13 : decode cX9_toldAt 13 = .ok (.if_icmp .lt 7, 3) := by decide +kernel
theorem dX9_toldAt_16 : decode cX9_toldAt 16 = .ok (.iconst (-1), 1) := by decide +kernel
theorem dX9_toldAt_17 : decode cX9_toldAt 17 = .ok (.goto 14, 3) := by decide +kernel
theorem dX9_toldAt_20 : decode cX9_toldAt 20 = .ok (.aload_n 0, 1) := by decide +kernel
theorem dX9_toldAt_21 : decode cX9_toldAt 21 = .ok (.getfield 41, 3) := by decide +kernel
theorem dX9_toldAt_24 : decode cX9_toldAt 24 = .ok (.bipush 12, 2) := by decide +kernel
theorem dX9_toldAt_26 : decode cX9_toldAt 26 = .ok (.iload_n 1, 1) := by decide +kernel
theorem dX9_toldAt_27 : decode cX9_toldAt 27 = .ok (.imul, 1) := by decide +kernel
theorem dX9_toldAt_28 : decode cX9_toldAt 28 = .ok (.iload_n 2, 1) := by decide +kernel
theorem dX9_toldAt_29 : decode cX9_toldAt 29 = .ok (.iadd, 1) := by decide +kernel
theorem dX9_toldAt_30 : decode cX9_toldAt 30 = .ok (.iaload, 1) := by decide +kernel
theorem dX9_toldAt_31 : decode cX9_toldAt 31 = .ok (.ireturn, 1) := by decide +kernel
theorem dX9_lay_0 : decode cX9_lay 0 = .ok (.aload_n 0, 1) := by decide +kernel
theorem dX9_lay_1 : decode cX9_lay 1 = .ok (.iconst 0, 1) := by decide +kernel
theorem dX9_lay_2 : decode cX9_lay 2 = .ok (.putfield 87, 3) := by decide +kernel
theorem dX9_lay_5 : decode cX9_lay 5 = .ok (.aload_n 0, 1) := by decide +kernel
theorem dX9_lay_6 : decode cX9_lay 6 = .ok (.iload_n 1, 1) := by decide +kernel
theorem dX9_lay_7 : decode cX9_lay 7 = .ok (.iload_n 3, 1) := by decide +kernel
theorem dX9_lay_8 : decode cX9_lay 8 = .ok (.iload 4, 2) := by decide +kernel
theorem dX9_lay_10 : decode cX9_lay 10 = .ok (.iload 5, 2) := by decide +kernel
theorem dX9_lay_12 : decode cX9_lay 12 = .ok (.invokevirtual 347, 3) := by decide +kernel
theorem dX9_lay_15 : decode cX9_lay 15 = .ok (.ifCond .ge 14, 3) := by decide +kernel
theorem dX9_lay_18 : decode cX9_lay 18 = .ok (.aload_n 0, 1) := by decide +kernel
theorem dX9_lay_19 : decode cX9_lay 19 = .ok (.iload_n 1, 1) := by decide +kernel
theorem dX9_lay_20 : decode cX9_lay 20 = .ok (.iload_n 3, 1) := by decide +kernel
theorem dX9_lay_21 : decode cX9_lay 21 = .ok (.iload 4, 2) := by decide +kernel
theorem dX9_lay_23 : decode cX9_lay 23 = .ok (.iload 5, 2) := by decide +kernel
theorem dX9_lay_25 : decode cX9_lay 25 = .ok (.invokevirtual 347, 3) := by decide +kernel
theorem dX9_lay_28 : decode cX9_lay 28 = .ok (.ireturn, 1) := by decide +kernel
theorem dX9_lay_29 : decode cX9_lay 29 = .ok (.aload_n 0, 1) := by decide +kernel
theorem dX9_lay_30 : decode cX9_lay 30 = .ok (.iload_n 3, 1) := by decide +kernel
theorem dX9_lay_31 : decode cX9_lay 31 = .ok (.iload 4, 2) := by decide +kernel
theorem dX9_lay_33 : decode cX9_lay 33 = .ok (.invokevirtual 138, 3) := by decide +kernel
theorem dX9_lay_36 : decode cX9_lay 36 = .ok (.iconst 0, 1) := by decide +kernel
theorem dX9_lay_37 : decode cX9_lay 37 = .ok (.istore 6, 2) := by decide +kernel
theorem dX9_lay_39 : decode cX9_lay 39 = .ok (.iload 6, 2) := by decide +kernel
theorem dX9_lay_41 : decode cX9_lay 41 = .ok (.bipush 12, 2) := by decide +kernel
theorem dX9_lay_43 : decode cX9_lay 43 = .ok (.if_icmp .ge 55, 3) := by decide +kernel
theorem dX9_lay_46 : decode cX9_lay 46 = .ok (.iload_n 2, 1) := by decide +kernel
theorem dX9_lay_47 : decode cX9_lay 47 = .ok (.ifCond .lt 20, 3) := by decide +kernel
theorem dX9_lay_50 : decode cX9_lay 50 = .ok (.iload_n 2, 1) := by decide +kernel
theorem dX9_lay_51 : decode cX9_lay 51 = .ok (.i2l, 1) := by decide +kernel
theorem dX9_lay_52 : decode cX9_lay 52 = .ok (.iload 6, 2) := by decide +kernel
theorem dX9_lay_54 : decode cX9_lay 54 = .ok (.i2l, 1) := by decide +kernel
theorem dX9_lay_55 : decode cX9_lay 55 = .ok (.ladd, 1) := by decide +kernel
theorem dX9_lay_56 : decode cX9_lay 56 = .ok (.aload_n 0, 1) := by decide +kernel
theorem dX9_lay_57 : decode cX9_lay 57 = .ok (.getfield 81, 3) := by decide +kernel
theorem dX9_lay_60 : decode cX9_lay 60 = .ok (.iload_n 1, 1) := by decide +kernel
theorem dX9_lay_61 : decode cX9_lay 61 = .ok (.iaload, 1) := by decide +kernel
theorem dX9_lay_62 : decode cX9_lay 62 = .ok (.i2l, 1) := by decide +kernel
theorem dX9_lay_63 : decode cX9_lay 63 = .ok (.lcmp, 1) := by decide +kernel
theorem dX9_lay_64 : decode cX9_lay 64 = .ok (.ifCond .lt 6, 3) := by decide +kernel
theorem dX9_lay_67 : decode cX9_lay 67 = .ok (.bipush (-13), 2) := by decide +kernel
theorem dX9_lay_69 : decode cX9_lay 69 = .ok (.ireturn, 1) := by decide +kernel
theorem dX9_lay_70 : decode cX9_lay 70 = .ok (.aload_n 0, 1) := by decide +kernel
theorem dX9_lay_71 : decode cX9_lay 71 = .ok (.getfield 84, 3) := by decide +kernel
theorem dX9_lay_74 : decode cX9_lay 74 = .ok (.bipush 20, 2) := by decide +kernel
theorem dX9_lay_76 : decode cX9_lay 76 = .ok (.iload_n 1, 1) := by decide +kernel
theorem dX9_lay_77 : decode cX9_lay 77 = .ok (.imul, 1) := by decide +kernel
theorem dX9_lay_78 : decode cX9_lay 78 = .ok (.iload_n 2, 1) := by decide +kernel
theorem dX9_lay_79 : decode cX9_lay 79 = .ok (.iadd, 1) := by decide +kernel
theorem dX9_lay_80 : decode cX9_lay 80 = .ok (.iload 6, 2) := by decide +kernel
theorem dX9_lay_82 : decode cX9_lay 82 = .ok (.iadd, 1) := by decide +kernel
theorem dX9_lay_83 : decode cX9_lay 83 = .ok (.aload_n 0, 1) := by decide +kernel
theorem dX9_lay_84 : decode cX9_lay 84 = .ok (.iload 5, 2) := by decide +kernel
theorem dX9_lay_86 : decode cX9_lay 86 = .ok (.iload 6, 2) := by decide +kernel
theorem dX9_lay_88 : decode cX9_lay 88 = .ok (.invokevirtual 350, 3) := by decide +kernel
theorem dX9_lay_91 : decode cX9_lay 91 = .ok (.iastore, 1) := by decide +kernel
theorem dX9_lay_92 : decode cX9_lay 92 = .ok (.iinc 6 1, 3) := by decide +kernel
theorem dX9_lay_95 : decode cX9_lay 95 = .ok (.goto (-56), 3) := by decide +kernel
theorem dX9_lay_98 : decode cX9_lay 98 = .ok (.bipush 12, 2) := by decide +kernel
theorem dX9_lay_100 : decode cX9_lay 100 = .ok (.ireturn, 1) := by decide +kernel
theorem dX9_judge_0 : decode cX9_judge 0 = .ok (.aload_n 0, 1) := by decide +kernel
theorem dX9_judge_1 : decode cX9_judge 1 = .ok (.iconst 0, 1) := by decide +kernel
theorem dX9_judge_2 : decode cX9_judge 2 = .ok (.putfield 87, 3) := by decide +kernel
theorem dX9_judge_5 : decode cX9_judge 5 = .ok (.aload_n 0, 1) := by decide +kernel
theorem dX9_judge_6 : decode cX9_judge 6 = .ok (.iload_n 1, 1) := by decide +kernel
theorem dX9_judge_7 : decode cX9_judge 7 = .ok (.iload_n 3, 1) := by decide +kernel
theorem dX9_judge_8 : decode cX9_judge 8 = .ok (.iload 4, 2) := by decide +kernel
theorem dX9_judge_10 : decode cX9_judge 10 = .ok (.iload 5, 2) := by decide +kernel
theorem dX9_judge_12 : decode cX9_judge 12 = .ok (.invokevirtual 347, 3) := by decide +kernel
theorem dX9_judge_15 : decode cX9_judge 15 = .ok (.ifCond .ge 14, 3) := by decide +kernel
theorem dX9_judge_18 : decode cX9_judge 18 = .ok (.aload_n 0, 1) := by decide +kernel
theorem dX9_judge_19 : decode cX9_judge 19 = .ok (.iload_n 1, 1) := by decide +kernel
theorem dX9_judge_20 : decode cX9_judge 20 = .ok (.iload_n 3, 1) := by decide +kernel
theorem dX9_judge_21 : decode cX9_judge 21 = .ok (.iload 4, 2) := by decide +kernel
theorem dX9_judge_23 : decode cX9_judge 23 = .ok (.iload 5, 2) := by decide +kernel
theorem dX9_judge_25 : decode cX9_judge 25 = .ok (.invokevirtual 347, 3) := by decide +kernel
theorem dX9_judge_28 : decode cX9_judge 28 = .ok (.ireturn, 1) := by decide +kernel
theorem dX9_judge_29 : decode cX9_judge 29 = .ok (.aload_n 0, 1) := by decide +kernel
theorem dX9_judge_30 : decode cX9_judge 30 = .ok (.iload_n 3, 1) := by decide +kernel
theorem dX9_judge_31 : decode cX9_judge 31 = .ok (.iload 4, 2) := by decide +kernel
theorem dX9_judge_33 : decode cX9_judge 33 = .ok (.invokevirtual 138, 3) := by decide +kernel
theorem dX9_judge_36 : decode cX9_judge 36 = .ok (.iconst 0, 1) := by decide +kernel
theorem dX9_judge_37 : decode cX9_judge 37 = .ok (.istore 6, 2) := by decide +kernel
theorem dX9_judge_39 : decode cX9_judge 39 = .ok (.iload 6, 2) := by decide +kernel
theorem dX9_judge_41 : decode cX9_judge 41 = .ok (.bipush 12, 2) := by decide +kernel
theorem dX9_judge_43 : decode cX9_judge 43 = .ok (.if_icmp .ge 64, 3) := by decide +kernel
theorem dX9_judge_46 : decode cX9_judge 46 = .ok (.iload_n 2, 1) := by decide +kernel
theorem dX9_judge_47 : decode cX9_judge 47 = .ok (.ifCond .lt 20, 3) := by decide +kernel
theorem dX9_judge_50 : decode cX9_judge 50 = .ok (.iload_n 2, 1) := by decide +kernel
theorem dX9_judge_51 : decode cX9_judge 51 = .ok (.i2l, 1) := by decide +kernel
theorem dX9_judge_52 : decode cX9_judge 52 = .ok (.iload 6, 2) := by decide +kernel
theorem dX9_judge_54 : decode cX9_judge 54 = .ok (.i2l, 1) := by decide +kernel
theorem dX9_judge_55 : decode cX9_judge 55 = .ok (.ladd, 1) := by decide +kernel
theorem dX9_judge_56 : decode cX9_judge 56 = .ok (.aload_n 0, 1) := by decide +kernel
theorem dX9_judge_57 : decode cX9_judge 57 = .ok (.getfield 81, 3) := by decide +kernel
theorem dX9_judge_60 : decode cX9_judge 60 = .ok (.iload_n 1, 1) := by decide +kernel
theorem dX9_judge_61 : decode cX9_judge 61 = .ok (.iaload, 1) := by decide +kernel
theorem dX9_judge_62 : decode cX9_judge 62 = .ok (.i2l, 1) := by decide +kernel
theorem dX9_judge_63 : decode cX9_judge 63 = .ok (.lcmp, 1) := by decide +kernel
theorem dX9_judge_64 : decode cX9_judge 64 = .ok (.ifCond .lt 9, 3) := by decide +kernel
theorem dX9_judge_67 : decode cX9_judge 67 = .ok (.bipush 100, 2) := by decide +kernel
theorem dX9_judge_69 : decode cX9_judge 69 = .ok (.iload 6, 2) := by decide +kernel
theorem dX9_judge_71 : decode cX9_judge 71 = .ok (.iadd, 1) := by decide +kernel
theorem dX9_judge_72 : decode cX9_judge 72 = .ok (.ireturn, 1) := by decide +kernel
theorem dX9_judge_73 : decode cX9_judge 73 = .ok (.aload_n 0, 1) := by decide +kernel
theorem dX9_judge_74 : decode cX9_judge 74 = .ok (.getfield 84, 3) := by decide +kernel
theorem dX9_judge_77 : decode cX9_judge 77 = .ok (.bipush 20, 2) := by decide +kernel
theorem dX9_judge_79 : decode cX9_judge 79 = .ok (.iload_n 1, 1) := by decide +kernel
theorem dX9_judge_80 : decode cX9_judge 80 = .ok (.imul, 1) := by decide +kernel
theorem dX9_judge_81 : decode cX9_judge 81 = .ok (.iload_n 2, 1) := by decide +kernel
theorem dX9_judge_82 : decode cX9_judge 82 = .ok (.iadd, 1) := by decide +kernel
theorem dX9_judge_83 : decode cX9_judge 83 = .ok (.iload 6, 2) := by decide +kernel
theorem dX9_judge_85 : decode cX9_judge 85 = .ok (.iadd, 1) := by decide +kernel
theorem dX9_judge_86 : decode cX9_judge 86 = .ok (.iaload, 1) := by decide +kernel
theorem dX9_judge_87 : decode cX9_judge 87 = .ok (.aload_n 0, 1) := by decide +kernel
theorem dX9_judge_88 : decode cX9_judge 88 = .ok (.iload 5, 2) := by decide +kernel
theorem dX9_judge_90 : decode cX9_judge 90 = .ok (.iload 6, 2) := by decide +kernel
theorem dX9_judge_92 : decode cX9_judge 92 = .ok (.invokevirtual 350, 3) := by decide +kernel
theorem dX9_judge_95 : decode cX9_judge 95 = .ok (.if_icmp .eq 6, 3) := by decide +kernel
theorem dX9_judge_98 : decode cX9_judge 98 = .ok (.iload 6, 2) := by decide +kernel
theorem dX9_judge_100 : decode cX9_judge 100 = .ok (.ireturn, 1) := by decide +kernel
theorem dX9_judge_101 : decode cX9_judge 101 = .ok (.iinc 6 1, 3) := by decide +kernel
theorem dX9_judge_104 : decode cX9_judge 104 = .ok (.goto (-65), 3) := by decide +kernel
theorem dX9_judge_107 : decode cX9_judge 107 = .ok (.bipush (-5), 2) := by decide +kernel
theorem dX9_judge_109 : decode cX9_judge 109 = .ok (.ireturn, 1) := by decide +kernel
theorem dJ9_max_7cf53_0 : decode cJ9_max_7cf53 0 = .ok (.iload_n 0, 1) := by decide +kernel
theorem dJ9_max_7cf53_1 : decode cJ9_max_7cf53 1 = .ok (.iload_n 1, 1) := by decide +kernel
theorem dJ9_max_7cf53_2 : decode cJ9_max_7cf53 2 = .ok (.if_icmp .lt 7, 3) := by decide +kernel
theorem dJ9_max_7cf53_5 : decode cJ9_max_7cf53 5 = .ok (.iload_n 0, 1) := by decide +kernel
theorem dJ9_max_7cf53_6 : decode cJ9_max_7cf53 6 = .ok (.goto 4, 3) := by decide +kernel
theorem dJ9_max_7cf53_9 : decode cJ9_max_7cf53 9 = .ok (.iload_n 1, 1) := by decide +kernel
theorem dJ9_max_7cf53_10 : decode cJ9_max_7cf53 10 = .ok (.ireturn, 1) := by decide +kernel
theorem dJ9_min_7cf53_0 : decode cJ9_min_7cf53 0 = .ok (.iload_n 0, 1) := by decide +kernel
theorem dJ9_min_7cf53_1 : decode cJ9_min_7cf53 1 = .ok (.iload_n 1, 1) := by decide +kernel
theorem dJ9_min_7cf53_2 : decode cJ9_min_7cf53 2 = .ok (.if_icmp .gt 7, 3) := by decide +kernel
theorem dJ9_min_7cf53_5 : decode cJ9_min_7cf53 5 = .ok (.iload_n 0, 1) := by decide +kernel
theorem dJ9_min_7cf53_6 : decode cJ9_min_7cf53 6 = .ok (.goto 4, 3) := by decide +kernel
theorem dJ9_min_7cf53_9 : decode cJ9_min_7cf53 9 = .ok (.iload_n 1, 1) := by decide +kernel
theorem dJ9_min_7cf53_10 : decode cJ9_min_7cf53 10 = .ok (.ireturn, 1) := by decide +kernel
theorem dJ7_fill_53178_0 : decode cJ7_fill_53178 0 = .ok (.iconst 0, 1) := by decide +kernel
theorem dJ7_fill_53178_1 : decode cJ7_fill_53178 1 = .ok (.istore_n 2, 1) := by decide +kernel
theorem dJ7_fill_53178_2 : decode cJ7_fill_53178 2 = .ok (.aload_n 0, 1) := by decide +kernel
theorem dJ7_fill_53178_3 : decode cJ7_fill_53178 3 = .ok (.arraylength, 1) := by decide +kernel
theorem dJ7_fill_53178_4 : decode cJ7_fill_53178 4 = .ok (.istore_n 3, 1) := by decide +kernel
theorem dJ7_fill_53178_5 : decode cJ7_fill_53178 5 = .ok (.iload_n 2, 1) := by decide +kernel
theorem dJ7_fill_53178_6 : decode cJ7_fill_53178 6 = .ok (.iload_n 3, 1) := by decide +kernel
theorem dJ7_fill_53178_7 : decode cJ7_fill_53178 7 = .ok (.if_icmp .ge 13, 3) := by decide +kernel
theorem dJ7_fill_53178_10 : decode cJ7_fill_53178 10 = .ok (.aload_n 0, 1) := by decide +kernel
theorem dJ7_fill_53178_11 : decode cJ7_fill_53178 11 = .ok (.iload_n 2, 1) := by decide +kernel
theorem dJ7_fill_53178_12 : decode cJ7_fill_53178 12 = .ok (.iload_n 1, 1) := by decide +kernel
theorem dJ7_fill_53178_13 : decode cJ7_fill_53178 13 = .ok (.iastore, 1) := by decide +kernel
theorem dJ7_fill_53178_14 : decode cJ7_fill_53178 14 = .ok (.iinc 2 1, 3) := by decide +kernel
theorem dJ7_fill_53178_17 : decode cJ7_fill_53178 17 = .ok (.goto (-12), 3) := by decide +kernel
theorem dJ7_fill_53178_20 : decode cJ7_fill_53178 20 = .ok (.return_, 1) := by decide +kernel
