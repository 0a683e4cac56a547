def sh_0 : Shp := []
def mm_0 : Mem := fun _ _ => 0
def sh_1 : Shp := sh_0 ++ [(10, 11, List.replicate 11 (-1))]
def sh_2 : Shp := sh_1 ++ [(5, 8, List.replicate 8 (-1))]
def mm_1 : Mem := up2 mm_0 1 0 0
def sh_3 : Shp := sh_2 ++ [(0, 8, [])]
def sh_4 : Shp := sh_3.set 1 (5, 8, [(-1), 2, (-1), (-1), (-1), (-1), (-1), (-1)])
def sh_5 : Shp := sh_4 ++ [(0, 8, [])]
def sh_6 : Shp := sh_5.set 1 (5, 8, [(-1), 2, 3, (-1), (-1), (-1), (-1), (-1)])
def sh_7 : Shp := sh_6 ++ [(0, 8, [])]
def sh_8 : Shp := sh_7.set 1 (5, 8, [(-1), 2, 3, 4, (-1), (-1), (-1), (-1)])
def sh_9 : Shp := sh_8 ++ ((2, 8, []) :: List.replicate 8 (0, 6, []))
def sh_10 : Shp := sh_9.set 1 (5, 8, [(-1), 2, 3, 4, 5, (-1), (-1), (-1)])
def sh_11 : Shp := sh_10 ++ ((2, 48, []) :: List.replicate 48 (0, 6, []))
def sh_12 : Shp := sh_11.set 1 (5, 8, [(-1), 2, 3, 4, 5, 14, (-1), (-1)])
def sh_13 : Shp := sh_12 ++ [(0, 48, [])]
def sh_14 : Shp := sh_13.set 1 (5, 8, [(-1), 2, 3, 4, 5, 14, 63, (-1)])
def sh_15 : Shp := sh_14 ++ ((2, 12, []) :: List.replicate 12 (0, 12, []))
def sh_16 : Shp := sh_15.set 1 (5, 8, [(-1), 2, 3, 4, 5, 14, 63, 64])
def sh_17 : Shp := sh_16.set 0 (10, 11, [1, (-1), (-1), (-1), (-1), (-1), (-1), (-1), (-1), (-1), (-1)])
def sh_18 : Shp := sh_17 ++ [(5, 8, List.replicate 8 (-1))]
def mm_2 : Mem := up2 mm_1 77 0 0
def sh_19 : Shp := sh_18 ++ [(0, 8, [])]
def sh_20 : Shp := sh_19.set 77 (5, 8, [(-1), 78, (-1), (-1), (-1), (-1), (-1), (-1)])
def sh_21 : Shp := sh_20 ++ [(0, 8, [])]
def sh_22 : Shp := sh_21.set 77 (5, 8, [(-1), 78, 79, (-1), (-1), (-1), (-1), (-1)])
def sh_23 : Shp := sh_22 ++ [(0, 8, [])]
def sh_24 : Shp := sh_23.set 77 (5, 8, [(-1), 78, 79, 80, (-1), (-1), (-1), (-1)])
def sh_25 : Shp := sh_24 ++ ((2, 8, []) :: List.replicate 8 (0, 6, []))
def sh_26 : Shp := sh_25.set 77 (5, 8, [(-1), 78, 79, 80, 81, (-1), (-1), (-1)])
def sh_27 : Shp := sh_26 ++ ((2, 48, []) :: List.replicate 48 (0, 6, []))
def sh_28 : Shp := sh_27.set 77 (5, 8, [(-1), 78, 79, 80, 81, 90, (-1), (-1)])
def sh_29 : Shp := sh_28 ++ [(0, 48, [])]
def sh_30 : Shp := sh_29.set 77 (5, 8, [(-1), 78, 79, 80, 81, 90, 139, (-1)])
def sh_31 : Shp := sh_30 ++ ((2, 12, []) :: List.replicate 12 (0, 12, []))
def sh_32 : Shp := sh_31.set 77 (5, 8, [(-1), 78, 79, 80, 81, 90, 139, 140])
def sh_33 : Shp := sh_32.set 0 (10, 11, [1, 77, (-1), (-1), (-1), (-1), (-1), (-1), (-1), (-1), (-1)])
def sh_34 : Shp := sh_33 ++ [(5, 8, List.replicate 8 (-1))]
def mm_3 : Mem := up2 mm_2 153 0 0
def sh_35 : Shp := sh_34 ++ [(0, 8, [])]
def sh_36 : Shp := sh_35.set 153 (5, 8, [(-1), 154, (-1), (-1), (-1), (-1), (-1), (-1)])
def sh_37 : Shp := sh_36 ++ [(0, 8, [])]
def sh_38 : Shp := sh_37.set 153 (5, 8, [(-1), 154, 155, (-1), (-1), (-1), (-1), (-1)])
def sh_39 : Shp := sh_38 ++ [(0, 8, [])]
def sh_40 : Shp := sh_39.set 153 (5, 8, [(-1), 154, 155, 156, (-1), (-1), (-1), (-1)])
def sh_41 : Shp := sh_40 ++ ((2, 8, []) :: List.replicate 8 (0, 6, []))
def sh_42 : Shp := sh_41.set 153 (5, 8, [(-1), 154, 155, 156, 157, (-1), (-1), (-1)])
def sh_43 : Shp := sh_42 ++ ((2, 48, []) :: List.replicate 48 (0, 6, []))
def sh_44 : Shp := sh_43.set 153 (5, 8, [(-1), 154, 155, 156, 157, 166, (-1), (-1)])
def sh_45 : Shp := sh_44 ++ [(0, 48, [])]
def sh_46 : Shp := sh_45.set 153 (5, 8, [(-1), 154, 155, 156, 157, 166, 215, (-1)])
def sh_47 : Shp := sh_46 ++ ((2, 12, []) :: List.replicate 12 (0, 12, []))
def sh_48 : Shp := sh_47.set 153 (5, 8, [(-1), 154, 155, 156, 157, 166, 215, 216])
def sh_49 : Shp := sh_48.set 0 (10, 11, [1, 77, 153, (-1), (-1), (-1), (-1), (-1), (-1), (-1), (-1)])
def sh_50 : Shp := sh_49 ++ [(8, 6, List.replicate 6 (-1))]
def sh_51 : Shp := sh_50.set 229 (8, 6, [1, (-1), (-1), (-1), (-1), (-1)])
def sh_52 : Shp := sh_51 ++ ((2, 7, []) :: List.replicate 7 (0, 12, []))
def sh_53 : Shp := sh_52.set 229 (8, 6, [1, 230, (-1), (-1), (-1), (-1)])
def sh_54 : Shp := sh_53 ++ ((2, 7, []) :: List.replicate 7 (0, 12, []))
def sh_55 : Shp := sh_54.set 229 (8, 6, [1, 230, 238, (-1), (-1), (-1)])
def mm_4 : Mem := up2 mm_3 229 3 (-1)
def mm_5 : Mem := up2 mm_4 229 4 (-1)
def mm_6 : Mem := up2 mm_5 229 5 (-1)
def sh_56 : Shp := sh_55.set 0 (10, 11, [1, 77, 153, 229, (-1), (-1), (-1), (-1), (-1), (-1), (-1)])
def sh_57 : Shp := sh_56 ++ [(7, 7, List.replicate 7 (-1))]
def sh_58 : Shp := sh_57.set 246 (7, 7, [1, (-1), (-1), (-1), (-1), (-1), (-1)])
def sh_59 : Shp := sh_58.set 246 (7, 7, [1, 229, (-1), (-1), (-1), (-1), (-1)])
def sh_60 : Shp := sh_59 ++ ((2, 13, []) :: List.replicate 13 (0, 7, []))
def sh_61 : Shp := sh_60.set 246 (7, 7, [1, 229, 247, (-1), (-1), (-1), (-1)])
def mm_7 : Mem := up2 mm_6 246 3 0
def mm_8 : Mem := up2 mm_7 246 4 0
def mm_9 : Mem := up2 mm_8 246 5 0
def mm_10 : Mem := up2 mm_9 246 6 0
def sh_62 : Shp := sh_61.set 0 (10, 11, [1, 77, 153, 229, 246, (-1), (-1), (-1), (-1), (-1), (-1)])
def sh_63 : Shp := sh_62 ++ [(3, 3, List.replicate 3 (-1))]
def sh_64 : Shp := sh_63.set 261 (3, 3, [1, (-1), (-1)])
def sh_65 : Shp := sh_64 ++ [(0, 48, [])]
def sh_66 : Shp := sh_65.set 261 (3, 3, [1, 262, (-1)])
def mm_11 : Mem := up2 mm_10 261 2 0
def sh_67 : Shp := sh_66.set 0 (10, 11, [1, 77, 153, 229, 246, 261, (-1), (-1), (-1), (-1), (-1)])
def sh_68 : Shp := sh_67 ++ [(9, 2, List.replicate 2 (-1))]
def sh_69 : Shp := sh_68 ++ [(0, 80, [])]
def sh_70 : Shp := sh_69.set 263 (9, 2, [264, (-1)])
def mm_12 : Mem := up2 mm_11 263 1 0
def sh_71 : Shp := sh_70.set 0 (10, 11, [1, 77, 153, 229, 246, 261, 263, (-1), (-1), (-1), (-1)])
def sh_72 : Shp := sh_71 ++ [(9, 2, List.replicate 2 (-1))]
def sh_73 : Shp := sh_72 ++ [(0, 160, [])]
def sh_74 : Shp := sh_73.set 265 (9, 2, [266, (-1)])
def mm_13 : Mem := up2 mm_12 265 1 0
def sh_75 : Shp := sh_74.set 0 (10, 11, [1, 77, 153, 229, 246, 261, 263, 265, (-1), (-1), (-1)])
def sh_76 : Shp := sh_75 ++ [(6, 7, List.replicate 7 (-1))]
def sh_77 : Shp := sh_76.set 267 (6, 7, [1, (-1), (-1), (-1), (-1), (-1), (-1)])
def sh_78 : Shp := sh_77.set 267 (6, 7, [1, 263, (-1), (-1), (-1), (-1), (-1)])
def mm_14 : Mem := up2 mm_13 267 2 0
def mm_15 : Mem := up2 mm_14 267 3 0
def mm_16 : Mem := up2 mm_15 267 4 0
def mm_17 : Mem := up2 mm_16 267 5 0
def mm_18 : Mem := up2 mm_17 267 6 0
def sh_79 : Shp := sh_78.set 0 (10, 11, [1, 77, 153, 229, 246, 261, 263, 265, 267, (-1), (-1)])
def sh_80 : Shp := sh_79 ++ [(4, 2, List.replicate 2 (-1))]
def sh_81 : Shp := sh_80 ++ ((2, 4, []) :: List.replicate 4 (0, 20, []))
def sh_82 : Shp := sh_81.set 268 (4, 2, [269, (-1)])
def sh_83 : Shp := sh_82 ++ [(0, 4, [])]
def sh_84 : Shp := sh_83.set 268 (4, 2, [269, 274])
def mm_19 : Mem := up2 mm_18 274 0 (-1)
def mm_20 : Mem := up2 mm_19 274 1 (-1)
def mm_21 : Mem := up2 mm_20 274 2 (-1)
def mm_22 : Mem := up2 mm_21 274 3 (-1)
def sh_85 : Shp := sh_84.set 0 (10, 11, [1, 77, 153, 229, 246, 261, 263, 265, 267, 268, (-1)])
def mm_23 : Mem := up2 mm_22 0 10 0
def sh_86 : Shp := sh_85 ++ [(11, 41, List.replicate 41 (-1))]
def sh_87 : Shp := sh_86 ++ [(0, 8, [])]
def sh_88 : Shp := sh_87.set 275 (11, 41, [(-1), 276, (-1), (-1), (-1), (-1), (-1), (-1), (-1), (-1), (-1), (-1), (-1), (-1), (-1), (-1), (-1), (-1), (-1), (-1), (-1), (-1), (-1), (-1), (-1), (-1), (-1), (-1), (-1), (-1), (-1), (-1), (-1), (-1), (-1), (-1), (-1), (-1), (-1), (-1), (-1)])
def sh_89 : Shp := sh_88 ++ [(0, 8, [])]
def sh_90 : Shp := sh_89.set 275 (11, 41, [(-1), 276, 277, (-1), (-1), (-1), (-1), (-1), (-1), (-1), (-1), (-1), (-1), (-1), (-1), (-1), (-1), (-1), (-1), (-1), (-1), (-1), (-1), (-1), (-1), (-1), (-1), (-1), (-1), (-1), (-1), (-1), (-1), (-1), (-1), (-1), (-1), (-1), (-1), (-1), (-1)])
def sh_91 : Shp := sh_90 ++ [(0, 48, [])]
def sh_92 : Shp := sh_91.set 275 (11, 41, [(-1), 276, 277, 278, (-1), (-1), (-1), (-1), (-1), (-1), (-1), (-1), (-1), (-1), (-1), (-1), (-1), (-1), (-1), (-1), (-1), (-1), (-1), (-1), (-1), (-1), (-1), (-1), (-1), (-1), (-1), (-1), (-1), (-1), (-1), (-1), (-1), (-1), (-1), (-1), (-1)])
def sh_93 : Shp := sh_92 ++ [(0, 8, [])]
def sh_94 : Shp := sh_93.set 275 (11, 41, [(-1), 276, 277, 278, 279, (-1), (-1), (-1), (-1), (-1), (-1), (-1), (-1), (-1), (-1), (-1), (-1), (-1), (-1), (-1), (-1), (-1), (-1), (-1), (-1), (-1), (-1), (-1), (-1), (-1), (-1), (-1), (-1), (-1), (-1), (-1), (-1), (-1), (-1), (-1), (-1)])
def sh_95 : Shp := sh_94 ++ [(0, 48, [])]
def sh_96 : Shp := sh_95.set 275 (11, 41, [(-1), 276, 277, 278, 279, 280, (-1), (-1), (-1), (-1), (-1), (-1), (-1), (-1), (-1), (-1), (-1), (-1), (-1), (-1), (-1), (-1), (-1), (-1), (-1), (-1), (-1), (-1), (-1), (-1), (-1), (-1), (-1), (-1), (-1), (-1), (-1), (-1), (-1), (-1), (-1)])
def sh_97 : Shp := sh_96 ++ [(0, 288, [])]
def sh_98 : Shp := sh_97.set 275 (11, 41, [(-1), 276, 277, 278, 279, 280, 281, (-1), (-1), (-1), (-1), (-1), (-1), (-1), (-1), (-1), (-1), (-1), (-1), (-1), (-1), (-1), (-1), (-1), (-1), (-1), (-1), (-1), (-1), (-1), (-1), (-1), (-1), (-1), (-1), (-1), (-1), (-1), (-1), (-1), (-1)])
def sh_99 : Shp := sh_98 ++ [(0, 144, [])]
def sh_100 : Shp := sh_99.set 275 (11, 41, [(-1), 276, 277, 278, 279, 280, 281, 282, (-1), (-1), (-1), (-1), (-1), (-1), (-1), (-1), (-1), (-1), (-1), (-1), (-1), (-1), (-1), (-1), (-1), (-1), (-1), (-1), (-1), (-1), (-1), (-1), (-1), (-1), (-1), (-1), (-1), (-1), (-1), (-1), (-1)])
def mm_24 : Mem := up2 mm_23 275 9 (-1)
def mm_25 : Mem := up2 mm_24 275 10 (-1)
def sh_101 : Shp := sh_100 ++ [(0, 84, [])]
def sh_102 : Shp := sh_101.set 275 (11, 41, [(-1), 276, 277, 278, 279, 280, 281, 282, (-1), (-1), (-1), (-1), 283, (-1), (-1), (-1), (-1), (-1), (-1), (-1), (-1), (-1), (-1), (-1), (-1), (-1), (-1), (-1), (-1), (-1), (-1), (-1), (-1), (-1), (-1), (-1), (-1), (-1), (-1), (-1), (-1)])
def sh_103 : Shp := sh_102 ++ [(0, 84, [])]
def sh_104 : Shp := sh_103.set 275 (11, 41, [(-1), 276, 277, 278, 279, 280, 281, 282, (-1), (-1), (-1), (-1), 283, 284, (-1), (-1), (-1), (-1), (-1), (-1), (-1), (-1), (-1), (-1), (-1), (-1), (-1), (-1), (-1), (-1), (-1), (-1), (-1), (-1), (-1), (-1), (-1), (-1), (-1), (-1), (-1)])
def sh_105 : Shp := sh_104 ++ [(0, 16, [])]
def sh_106 : Shp := sh_105.set 275 (11, 41, [(-1), 276, 277, 278, 279, 280, 281, 282, (-1), (-1), (-1), (-1), 283, 284, (-1), 285, (-1), (-1), (-1), (-1), (-1), (-1), (-1), (-1), (-1), (-1), (-1), (-1), (-1), (-1), (-1), (-1), (-1), (-1), (-1), (-1), (-1), (-1), (-1), (-1), (-1)])
def sh_107 : Shp := sh_106 ++ [(0, 16, [])]
def sh_108 : Shp := sh_107.set 275 (11, 41, [(-1), 276, 277, 278, 279, 280, 281, 282, (-1), (-1), (-1), (-1), 283, 284, (-1), 285, 286, (-1), (-1), (-1), (-1), (-1), (-1), (-1), (-1), (-1), (-1), (-1), (-1), (-1), (-1), (-1), (-1), (-1), (-1), (-1), (-1), (-1), (-1), (-1), (-1)])
def sh_109 : Shp := sh_108 ++ [(0, 16, [])]
def sh_110 : Shp := sh_109.set 275 (11, 41, [(-1), 276, 277, 278, 279, 280, 281, 282, (-1), (-1), (-1), (-1), 283, 284, (-1), 285, 286, 287, (-1), (-1), (-1), (-1), (-1), (-1), (-1), (-1), (-1), (-1), (-1), (-1), (-1), (-1), (-1), (-1), (-1), (-1), (-1), (-1), (-1), (-1), (-1)])
def sh_111 : Shp := sh_110 ++ [(0, 16, [])]
def sh_112 : Shp := sh_111.set 275 (11, 41, [(-1), 276, 277, 278, 279, 280, 281, 282, (-1), (-1), (-1), (-1), 283, 284, (-1), 285, 286, 287, 288, (-1), (-1), (-1), (-1), (-1), (-1), (-1), (-1), (-1), (-1), (-1), (-1), (-1), (-1), (-1), (-1), (-1), (-1), (-1), (-1), (-1), (-1)])
def sh_113 : Shp := sh_112 ++ [(0, 16, [])]
def sh_114 : Shp := sh_113.set 275 (11, 41, [(-1), 276, 277, 278, 279, 280, 281, 282, (-1), (-1), (-1), (-1), 283, 284, (-1), 285, 286, 287, 288, 289, (-1), (-1), (-1), (-1), (-1), (-1), (-1), (-1), (-1), (-1), (-1), (-1), (-1), (-1), (-1), (-1), (-1), (-1), (-1), (-1), (-1)])
def sh_115 : Shp := sh_114 ++ [(0, 16, [])]
def sh_116 : Shp := sh_115.set 275 (11, 41, [(-1), 276, 277, 278, 279, 280, 281, 282, (-1), (-1), (-1), (-1), 283, 284, (-1), 285, 286, 287, 288, 289, 290, (-1), (-1), (-1), (-1), (-1), (-1), (-1), (-1), (-1), (-1), (-1), (-1), (-1), (-1), (-1), (-1), (-1), (-1), (-1), (-1)])
def sh_117 : Shp := sh_116 ++ [(0, 16, [])]
def sh_118 : Shp := sh_117.set 275 (11, 41, [(-1), 276, 277, 278, 279, 280, 281, 282, (-1), (-1), (-1), (-1), 283, 284, (-1), 285, 286, 287, 288, 289, 290, 291, (-1), (-1), (-1), (-1), (-1), (-1), (-1), (-1), (-1), (-1), (-1), (-1), (-1), (-1), (-1), (-1), (-1), (-1), (-1)])
def sh_119 : Shp := sh_118 ++ [(0, 80, [])]
def sh_120 : Shp := sh_119.set 275 (11, 41, [(-1), 276, 277, 278, 279, 280, 281, 282, (-1), (-1), (-1), (-1), 283, 284, (-1), 285, 286, 287, 288, 289, 290, 291, (-1), (-1), (-1), 292, (-1), (-1), (-1), (-1), (-1), (-1), (-1), (-1), (-1), (-1), (-1), (-1), (-1), (-1), (-1)])
def sh_121 : Shp := sh_120 ++ [(0, 700, [])]
def sh_122 : Shp := sh_121.set 275 (11, 41, [(-1), 276, 277, 278, 279, 280, 281, 282, (-1), (-1), (-1), (-1), 283, 284, (-1), 285, 286, 287, 288, 289, 290, 291, (-1), (-1), (-1), 292, (-1), (-1), (-1), (-1), 293, (-1), (-1), (-1), (-1), (-1), (-1), (-1), (-1), (-1), (-1)])
def sh_123 : Shp := sh_122 ++ [(0, 700, [])]
def sh_124 : Shp := sh_123.set 275 (11, 41, [(-1), 276, 277, 278, 279, 280, 281, 282, (-1), (-1), (-1), (-1), 283, 284, (-1), 285, 286, 287, 288, 289, 290, 291, (-1), (-1), (-1), 292, (-1), (-1), (-1), (-1), 293, 294, (-1), (-1), (-1), (-1), (-1), (-1), (-1), (-1), (-1)])
def sh_125 : Shp := sh_124 ++ [(0, 200, [])]
def sh_126 : Shp := sh_125.set 275 (11, 41, [(-1), 276, 277, 278, 279, 280, 281, 282, (-1), (-1), (-1), (-1), 283, 284, (-1), 285, 286, 287, 288, 289, 290, 291, (-1), (-1), (-1), 292, (-1), (-1), (-1), (-1), 293, 294, (-1), (-1), (-1), (-1), 295, (-1), (-1), (-1), (-1)])
def sh_127 : Shp := sh_126 ++ [(1, 4, [])]
def sh_128 : Shp := sh_127.set 275 (11, 41, [(-1), 276, 277, 278, 279, 280, 281, 282, (-1), (-1), (-1), (-1), 283, 284, (-1), 285, 286, 287, 288, 289, 290, 291, (-1), (-1), (-1), 292, (-1), (-1), (-1), (-1), 293, 294, (-1), (-1), (-1), (-1), 295, (-1), 296, (-1), (-1)])
def sh_129 : Shp := sh_128 ++ [(0, 4, [])]
def sh_130 : Shp := sh_129.set 275 (11, 41, [(-1), 276, 277, 278, 279, 280, 281, 282, (-1), (-1), (-1), (-1), 283, 284, (-1), 285, 286, 287, 288, 289, 290, 291, (-1), (-1), (-1), 292, (-1), (-1), (-1), (-1), 293, 294, (-1), (-1), (-1), (-1), 295, (-1), 296, 297, (-1)])
def sh_131 : Shp := sh_130 ++ [(0, 80, [])]
def sh_132 : Shp := sh_131.set 275 (11, 41, [(-1), 276, 277, 278, 279, 280, 281, 282, (-1), (-1), (-1), (-1), 283, 284, (-1), 285, 286, 287, 288, 289, 290, 291, (-1), (-1), (-1), 292, (-1), (-1), (-1), (-1), 293, 294, (-1), (-1), (-1), (-1), 295, (-1), 296, 297, 298])
def mm_26 : Mem := up2 mm_25 275 8 0
def S0 : Shp := [(10, 11, [1, 77, 153, 229, 246, 261, 263, 265, 267, 268, (-1)]), (5, 8, [(-1), 2, 3, 4, 5, 14, 63, 64]), (0, 8, []), (0, 8, []), (0, 8, []), (2, 8, []), (0, 6, []), (0, 6, []), (0, 6, []), (0, 6, []), (0, 6, []), (0, 6, []), (0, 6, []), (0, 6, []), (2, 48, []), (0, 6, []), (0, 6, []), (0, 6, []), (0, 6, []), (0, 6, []), (0, 6, []), (0, 6, []), (0, 6, []), (0, 6, []), (0, 6, []), (0, 6, []), (0, 6, []), (0, 6, []), (0, 6, []), (0, 6, []), (0, 6, []), (0, 6, []), (0, 6, []), (0, 6, []), (0, 6, []), (0, 6, []), (0, 6, []), (0, 6, []), (0, 6, []), (0, 6, []), (0, 6, []), (0, 6, []), (0, 6, []), (0, 6, []), (0, 6, []), (0, 6, []), (0, 6, []), (0, 6, []), (0, 6, []), (0, 6, []), (0, 6, []), (0, 6, []), (0, 6, []), (0, 6, []), (0, 6, []), (0, 6, []), (0, 6, []), (0, 6, []), (0, 6, []), (0, 6, []), (0, 6, []), (0, 6, []), (0, 6, []), (0, 48, []), (2, 12, []), (0, 12, []), (0, 12, []), (0, 12, []), (0, 12, []), (0, 12, []), (0, 12, []), (0, 12, []), (0, 12, []), (0, 12, []), (0, 12, []), (0, 12, []), (0, 12, []), (5, 8, [(-1), 78, 79, 80, 81, 90, 139, 140]), (0, 8, []), (0, 8, []), (0, 8, []), (2, 8, []), (0, 6, []), (0, 6, []), (0, 6, []), (0, 6, []), (0, 6, []), (0, 6, []), (0, 6, []), (0, 6, []), (2, 48, []), (0, 6, []), (0, 6, []), (0, 6, []), (0, 6, []), (0, 6, []), (0, 6, []), (0, 6, []), (0, 6, []), (0, 6, []), (0, 6, []), (0, 6, []), (0, 6, []), (0, 6, []), (0, 6, []), (0, 6, []), (0, 6, []), (0, 6, []), (0, 6, []), (0, 6, []), (0, 6, []), (0, 6, []), (0, 6, []), (0, 6, []), (0, 6, []), (0, 6, []), (0, 6, []), (0, 6, []), (0, 6, []), (0, 6, []), (0, 6, []), (0, 6, []), (0, 6, []), (0, 6, []), (0, 6, []), (0, 6, []), (0, 6, []), (0, 6, []), (0, 6, []), (0, 6, []), (0, 6, []), (0, 6, []), (0, 6, []), (0, 6, []), (0, 6, []), (0, 6, []), (0, 6, []), (0, 6, []), (0, 6, []), (0, 48, []), (2, 12, []), (0, 12, []), (0, 12, []), (0, 12, []), (0, 12, []), (0, 12, []), (0, 12, []), (0, 12, []), (0, 12, []), (0, 12, []), (0, 12, []), (0, 12, []), (0, 12, []), (5, 8, [(-1), 154, 155, 156, 157, 166, 215, 216]), (0, 8, []), (0, 8, []), (0, 8, []), (2, 8, []), (0, 6, []), (0, 6, []), (0, 6, []), (0, 6, []), (0, 6, []), (0, 6, []), (0, 6, []), (0, 6, []), (2, 48, []), (0, 6, []), (0, 6, []), (0, 6, []), (0, 6, []), (0, 6, []), (0, 6, []), (0, 6, []), (0, 6, []), (0, 6, []), (0, 6, []), (0, 6, []), (0, 6, []), (0, 6, []), (0, 6, []), (0, 6, []), (0, 6, []), (0, 6, []), (0, 6, []), (0, 6, []), (0, 6, []), (0, 6, []), (0, 6, []), (0, 6, []), (0, 6, []), (0, 6, []), (0, 6, []), (0, 6, []), (0, 6, []), (0, 6, []), (0, 6, []), (0, 6, []), (0, 6, []), (0, 6, []), (0, 6, []), (0, 6, []), (0, 6, []), (0, 6, []), (0, 6, []), (0, 6, []), (0, 6, []), (0, 6, []), (0, 6, []), (0, 6, []), (0, 6, []), (0, 6, []), (0, 6, []), (0, 6, []), (0, 6, []), (0, 48, []), (2, 12, []), (0, 12, []), (0, 12, []), (0, 12, []), (0, 12, []), (0, 12, []), (0, 12, []), (0, 12, []), (0, 12, []), (0, 12, []), (0, 12, []), (0, 12, []), (0, 12, []), (8, 6, [1, 230, 238, (-1), (-1), (-1)]), (2, 7, []), (0, 12, []), (0, 12, []), (0, 12, []), (0, 12, []), (0, 12, []), (0, 12, []), (0, 12, []), (2, 7, []), (0, 12, []), (0, 12, []), (0, 12, []), (0, 12, []), (0, 12, []), (0, 12, []), (0, 12, []), (7, 7, [1, 229, 247, (-1), (-1), (-1), (-1)]), (2, 13, []), (0, 7, []), (0, 7, []), (0, 7, []), (0, 7, []), (0, 7, []), (0, 7, []), (0, 7, []), (0, 7, []), (0, 7, []), (0, 7, []), (0, 7, []), (0, 7, []), (0, 7, []), (3, 3, [1, 262, (-1)]), (0, 48, []), (9, 2, [264, (-1)]), (0, 80, []), (9, 2, [266, (-1)]), (0, 160, []), (6, 7, [1, 263, (-1), (-1), (-1), (-1), (-1)]), (4, 2, [269, 274]), (2, 4, []), (0, 20, []), (0, 20, []), (0, 20, []), (0, 20, []), (0, 4, []), (11, 41, [(-1), 276, 277, 278, 279, 280, 281, 282, (-1), (-1), (-1), (-1), 283, 284, (-1), 285, 286, 287, 288, 289, 290, 291, (-1), (-1), (-1), 292, (-1), (-1), (-1), (-1), 293, 294, (-1), (-1), (-1), (-1), 295, (-1), 296, 297, 298]), (0, 8, []), (0, 8, []), (0, 48, []), (0, 8, []), (0, 48, []), (0, 288, []), (0, 144, []), (0, 84, []), (0, 84, []), (0, 16, []), (0, 16, []), (0, 16, []), (0, 16, []), (0, 16, []), (0, 16, []), (0, 16, []), (0, 80, []), (0, 700, []), (0, 700, []), (0, 200, []), (1, 4, []), (0, 4, []), (0, 80, [])]
def M0 : Mem := mm_26
theorem sh_last : sh_132 = S0 := by decide +kernel
theorem s0_0 : S0[(0 : Int).toNat]? = some (10, 11, [1, 77, 153, 229, 246, 261, 263, 265, 267, 268, (-1)]) := by decide +kernel
theorem s0_1 : S0[(1 : Int).toNat]? = some (5, 8, [(-1), 2, 3, 4, 5, 14, 63, 64]) := by decide +kernel
theorem s0_2 : S0[(2 : Int).toNat]? = some (0, 8, []) := by decide +kernel
theorem s0_3 : S0[(3 : Int).toNat]? = some (0, 8, []) := by decide +kernel
theorem s0_4 : S0[(4 : Int).toNat]? = some (0, 8, []) := by decide +kernel
theorem s0_5 : S0[(5 : Int).toNat]? = some (2, 8, []) := by decide +kernel
theorem s0_6 : S0[(6 : Int).toNat]? = some (0, 6, []) := by decide +kernel
theorem s0_7 : S0[(7 : Int).toNat]? = some (0, 6, []) := by decide +kernel
theorem s0_8 : S0[(8 : Int).toNat]? = some (0, 6, []) := by decide +kernel
theorem s0_9 : S0[(9 : Int).toNat]? = some (0, 6, []) := by decide +kernel
theorem s0_10 : S0[(10 : Int).toNat]? = some (0, 6, []) := by decide +kernel
theorem s0_11 : S0[(11 : Int).toNat]? = some (0, 6, []) := by decide +kernel
theorem s0_12 : S0[(12 : Int).toNat]? = some (0, 6, []) := by decide +kernel
theorem s0_13 : S0[(13 : Int).toNat]? = some (0, 6, []) := by decide +kernel
theorem s0_14 : S0[(14 : Int).toNat]? = some (2, 48, []) := by decide +kernel
theorem s0_15 : S0[(15 : Int).toNat]? = some (0, 6, []) := by decide +kernel
theorem s0_16 : S0[(16 : Int).toNat]? = some (0, 6, []) := by decide +kernel
theorem s0_17 : S0[(17 : Int).toNat]? = some (0, 6, []) := by decide +kernel
theorem s0_18 : S0[(18 : Int).toNat]? = some (0, 6, []) := by decide +kernel
theorem s0_19 : S0[(19 : Int).toNat]? = some (0, 6, []) := by decide +kernel
theorem s0_20 : S0[(20 : Int).toNat]? = some (0, 6, []) := by decide +kernel
theorem s0_21 : S0[(21 : Int).toNat]? = some (0, 6, []) := by decide +kernel
theorem s0_22 : S0[(22 : Int).toNat]? = some (0, 6, []) := by decide +kernel
theorem s0_23 : S0[(23 : Int).toNat]? = some (0, 6, []) := by decide +kernel
theorem s0_24 : S0[(24 : Int).toNat]? = some (0, 6, []) := by decide +kernel
theorem s0_25 : S0[(25 : Int).toNat]? = some (0, 6, []) := by decide +kernel
theorem s0_26 : S0[(26 : Int).toNat]? = some (0, 6, []) := by decide +kernel
theorem s0_27 : S0[(27 : Int).toNat]? = some (0, 6, []) := by decide +kernel
theorem s0_28 : S0[(28 : Int).toNat]? = some (0, 6, []) := by decide +kernel
theorem s0_29 : S0[(29 : Int).toNat]? = some (0, 6, []) := by decide +kernel
theorem s0_30 : S0[(30 : Int).toNat]? = some (0, 6, []) := by decide +kernel
theorem s0_31 : S0[(31 : Int).toNat]? = some (0, 6, []) := by decide +kernel
theorem s0_32 : S0[(32 : Int).toNat]? = some (0, 6, []) := by decide +kernel
theorem s0_33 : S0[(33 : Int).toNat]? = some (0, 6, []) := by decide +kernel
theorem s0_34 : S0[(34 : Int).toNat]? = some (0, 6, []) := by decide +kernel
theorem s0_35 : S0[(35 : Int).toNat]? = some (0, 6, []) := by decide +kernel
theorem s0_36 : S0[(36 : Int).toNat]? = some (0, 6, []) := by decide +kernel
theorem s0_37 : S0[(37 : Int).toNat]? = some (0, 6, []) := by decide +kernel
theorem s0_38 : S0[(38 : Int).toNat]? = some (0, 6, []) := by decide +kernel
theorem s0_39 : S0[(39 : Int).toNat]? = some (0, 6, []) := by decide +kernel
theorem s0_40 : S0[(40 : Int).toNat]? = some (0, 6, []) := by decide +kernel
theorem s0_41 : S0[(41 : Int).toNat]? = some (0, 6, []) := by decide +kernel
theorem s0_42 : S0[(42 : Int).toNat]? = some (0, 6, []) := by decide +kernel
theorem s0_43 : S0[(43 : Int).toNat]? = some (0, 6, []) := by decide +kernel
theorem s0_44 : S0[(44 : Int).toNat]? = some (0, 6, []) := by decide +kernel
theorem s0_45 : S0[(45 : Int).toNat]? = some (0, 6, []) := by decide +kernel
theorem s0_46 : S0[(46 : Int).toNat]? = some (0, 6, []) := by decide +kernel
theorem s0_47 : S0[(47 : Int).toNat]? = some (0, 6, []) := by decide +kernel
theorem s0_48 : S0[(48 : Int).toNat]? = some (0, 6, []) := by decide +kernel
theorem s0_49 : S0[(49 : Int).toNat]? = some (0, 6, []) := by decide +kernel
theorem s0_50 : S0[(50 : Int).toNat]? = some (0, 6, []) := by decide +kernel
theorem s0_51 : S0[(51 : Int).toNat]? = some (0, 6, []) := by decide +kernel
theorem s0_52 : S0[(52 : Int).toNat]? = some (0, 6, []) := by decide +kernel
theorem s0_53 : S0[(53 : Int).toNat]? = some (0, 6, []) := by decide +kernel
theorem s0_54 : S0[(54 : Int).toNat]? = some (0, 6, []) := by decide +kernel
theorem s0_55 : S0[(55 : Int).toNat]? = some (0, 6, []) := by decide +kernel
theorem s0_56 : S0[(56 : Int).toNat]? = some (0, 6, []) := by decide +kernel
theorem s0_57 : S0[(57 : Int).toNat]? = some (0, 6, []) := by decide +kernel
theorem s0_58 : S0[(58 : Int).toNat]? = some (0, 6, []) := by decide +kernel
theorem s0_59 : S0[(59 : Int).toNat]? = some (0, 6, []) := by decide +kernel
theorem s0_60 : S0[(60 : Int).toNat]? = some (0, 6, []) := by decide +kernel
theorem s0_61 : S0[(61 : Int).toNat]? = some (0, 6, []) := by decide +kernel
theorem s0_62 : S0[(62 : Int).toNat]? = some (0, 6, []) := by decide +kernel
theorem s0_63 : S0[(63 : Int).toNat]? = some (0, 48, []) := by decide +kernel
theorem s0_64 : S0[(64 : Int).toNat]? = some (2, 12, []) := by decide +kernel
theorem s0_65 : S0[(65 : Int).toNat]? = some (0, 12, []) := by decide +kernel
theorem s0_66 : S0[(66 : Int).toNat]? = some (0, 12, []) := by decide +kernel
theorem s0_67 : S0[(67 : Int).toNat]? = some (0, 12, []) := by decide +kernel
theorem s0_68 : S0[(68 : Int).toNat]? = some (0, 12, []) := by decide +kernel
theorem s0_69 : S0[(69 : Int).toNat]? = some (0, 12, []) := by decide +kernel
theorem s0_70 : S0[(70 : Int).toNat]? = some (0, 12, []) := by decide +kernel
theorem s0_71 : S0[(71 : Int).toNat]? = some (0, 12, []) := by decide +kernel
theorem s0_72 : S0[(72 : Int).toNat]? = some (0, 12, []) := by decide +kernel
theorem s0_73 : S0[(73 : Int).toNat]? = some (0, 12, []) := by decide +kernel
theorem s0_74 : S0[(74 : Int).toNat]? = some (0, 12, []) := by decide +kernel
theorem s0_75 : S0[(75 : Int).toNat]? = some (0, 12, []) := by decide +kernel
theorem s0_76 : S0[(76 : Int).toNat]? = some (0, 12, []) := by decide +kernel
theorem s0_77 : S0[(77 : Int).toNat]? = some (5, 8, [(-1), 78, 79, 80, 81, 90, 139, 140]) := by decide +kernel
theorem s0_78 : S0[(78 : Int).toNat]? = some (0, 8, []) := by decide +kernel
theorem s0_79 : S0[(79 : Int).toNat]? = some (0, 8, []) := by decide +kernel
theorem s0_80 : S0[(80 : Int).toNat]? = some (0, 8, []) := by decide +kernel
theorem s0_81 : S0[(81 : Int).toNat]? = some (2, 8, []) := by decide +kernel
theorem s0_82 : S0[(82 : Int).toNat]? = some (0, 6, []) := by decide +kernel
theorem s0_83 : S0[(83 : Int).toNat]? = some (0, 6, []) := by decide +kernel
theorem s0_84 : S0[(84 : Int).toNat]? = some (0, 6, []) := by decide +kernel
theorem s0_85 : S0[(85 : Int).toNat]? = some (0, 6, []) := by decide +kernel
theorem s0_86 : S0[(86 : Int).toNat]? = some (0, 6, []) := by decide +kernel
theorem s0_87 : S0[(87 : Int).toNat]? = some (0, 6, []) := by decide +kernel
theorem s0_88 : S0[(88 : Int).toNat]? = some (0, 6, []) := by decide +kernel
theorem s0_89 : S0[(89 : Int).toNat]? = some (0, 6, []) := by decide +kernel
theorem s0_90 : S0[(90 : Int).toNat]? = some (2, 48, []) := by decide +kernel
theorem s0_91 : S0[(91 : Int).toNat]? = some (0, 6, []) := by decide +kernel
theorem s0_92 : S0[(92 : Int).toNat]? = some (0, 6, []) := by decide +kernel
theorem s0_93 : S0[(93 : Int).toNat]? = some (0, 6, []) := by decide +kernel
theorem s0_94 : S0[(94 : Int).toNat]? = some (0, 6, []) := by decide +kernel
theorem s0_95 : S0[(95 : Int).toNat]? = some (0, 6, []) := by decide +kernel
theorem s0_96 : S0[(96 : Int).toNat]? = some (0, 6, []) := by decide +kernel
theorem s0_97 : S0[(97 : Int).toNat]? = some (0, 6, []) := by decide +kernel
theorem s0_98 : S0[(98 : Int).toNat]? = some (0, 6, []) := by decide +kernel
theorem s0_99 : S0[(99 : Int).toNat]? = some (0, 6, []) := by decide +kernel
theorem s0_100 : S0[(100 : Int).toNat]? = some (0, 6, []) := by decide +kernel
theorem s0_101 : S0[(101 : Int).toNat]? = some (0, 6, []) := by decide +kernel
theorem s0_102 : S0[(102 : Int).toNat]? = some (0, 6, []) := by decide +kernel
theorem s0_103 : S0[(103 : Int).toNat]? = some (0, 6, []) := by decide +kernel
theorem s0_104 : S0[(104 : Int).toNat]? = some (0, 6, []) := by decide +kernel
theorem s0_105 : S0[(105 : Int).toNat]? = some (0, 6, []) := by decide +kernel
theorem s0_106 : S0[(106 : Int).toNat]? = some (0, 6, []) := by decide +kernel
theorem s0_107 : S0[(107 : Int).toNat]? = some (0, 6, []) := by decide +kernel
theorem s0_108 : S0[(108 : Int).toNat]? = some (0, 6, []) := by decide +kernel
theorem s0_109 : S0[(109 : Int).toNat]? = some (0, 6, []) := by decide +kernel
theorem s0_110 : S0[(110 : Int).toNat]? = some (0, 6, []) := by decide +kernel
theorem s0_111 : S0[(111 : Int).toNat]? = some (0, 6, []) := by decide +kernel
theorem s0_112 : S0[(112 : Int).toNat]? = some (0, 6, []) := by decide +kernel
theorem s0_113 : S0[(113 : Int).toNat]? = some (0, 6, []) := by decide +kernel
theorem s0_114 : S0[(114 : Int).toNat]? = some (0, 6, []) := by decide +kernel
theorem s0_115 : S0[(115 : Int).toNat]? = some (0, 6, []) := by decide +kernel
theorem s0_116 : S0[(116 : Int).toNat]? = some (0, 6, []) := by decide +kernel
theorem s0_117 : S0[(117 : Int).toNat]? = some (0, 6, []) := by decide +kernel
theorem s0_118 : S0[(118 : Int).toNat]? = some (0, 6, []) := by decide +kernel
theorem s0_119 : S0[(119 : Int).toNat]? = some (0, 6, []) := by decide +kernel
theorem s0_120 : S0[(120 : Int).toNat]? = some (0, 6, []) := by decide +kernel
theorem s0_121 : S0[(121 : Int).toNat]? = some (0, 6, []) := by decide +kernel
theorem s0_122 : S0[(122 : Int).toNat]? = some (0, 6, []) := by decide +kernel
theorem s0_123 : S0[(123 : Int).toNat]? = some (0, 6, []) := by decide +kernel
theorem s0_124 : S0[(124 : Int).toNat]? = some (0, 6, []) := by decide +kernel
theorem s0_125 : S0[(125 : Int).toNat]? = some (0, 6, []) := by decide +kernel
theorem s0_126 : S0[(126 : Int).toNat]? = some (0, 6, []) := by decide +kernel
theorem s0_127 : S0[(127 : Int).toNat]? = some (0, 6, []) := by decide +kernel
theorem s0_128 : S0[(128 : Int).toNat]? = some (0, 6, []) := by decide +kernel
theorem s0_129 : S0[(129 : Int).toNat]? = some (0, 6, []) := by decide +kernel
theorem s0_130 : S0[(130 : Int).toNat]? = some (0, 6, []) := by decide +kernel
theorem s0_131 : S0[(131 : Int).toNat]? = some (0, 6, []) := by decide +kernel
theorem s0_132 : S0[(132 : Int).toNat]? = some (0, 6, []) := by decide +kernel
theorem s0_133 : S0[(133 : Int).toNat]? = some (0, 6, []) := by decide +kernel
theorem s0_134 : S0[(134 : Int).toNat]? = some (0, 6, []) := by decide +kernel
theorem s0_135 : S0[(135 : Int).toNat]? = some (0, 6, []) := by decide +kernel
theorem s0_136 : S0[(136 : Int).toNat]? = some (0, 6, []) := by decide +kernel
theorem s0_137 : S0[(137 : Int).toNat]? = some (0, 6, []) := by decide +kernel
theorem s0_138 : S0[(138 : Int).toNat]? = some (0, 6, []) := by decide +kernel
theorem s0_139 : S0[(139 : Int).toNat]? = some (0, 48, []) := by decide +kernel
theorem s0_140 : S0[(140 : Int).toNat]? = some (2, 12, []) := by decide +kernel
theorem s0_141 : S0[(141 : Int).toNat]? = some (0, 12, []) := by decide +kernel
theorem s0_142 : S0[(142 : Int).toNat]? = some (0, 12, []) := by decide +kernel
theorem s0_143 : S0[(143 : Int).toNat]? = some (0, 12, []) := by decide +kernel
theorem s0_144 : S0[(144 : Int).toNat]? = some (0, 12, []) := by decide +kernel
theorem s0_145 : S0[(145 : Int).toNat]? = some (0, 12, []) := by decide +kernel
theorem s0_146 : S0[(146 : Int).toNat]? = some (0, 12, []) := by decide +kernel
theorem s0_147 : S0[(147 : Int).toNat]? = some (0, 12, []) := by decide +kernel
theorem s0_148 : S0[(148 : Int).toNat]? = some (0, 12, []) := by decide +kernel
theorem s0_149 : S0[(149 : Int).toNat]? = some (0, 12, []) := by decide +kernel
theorem s0_150 : S0[(150 : Int).toNat]? = some (0, 12, []) := by decide +kernel
theorem s0_151 : S0[(151 : Int).toNat]? = some (0, 12, []) := by decide +kernel
theorem s0_152 : S0[(152 : Int).toNat]? = some (0, 12, []) := by decide +kernel
theorem s0_153 : S0[(153 : Int).toNat]? = some (5, 8, [(-1), 154, 155, 156, 157, 166, 215, 216]) := by decide +kernel
theorem s0_154 : S0[(154 : Int).toNat]? = some (0, 8, []) := by decide +kernel
theorem s0_155 : S0[(155 : Int).toNat]? = some (0, 8, []) := by decide +kernel
theorem s0_156 : S0[(156 : Int).toNat]? = some (0, 8, []) := by decide +kernel
theorem s0_157 : S0[(157 : Int).toNat]? = some (2, 8, []) := by decide +kernel
theorem s0_158 : S0[(158 : Int).toNat]? = some (0, 6, []) := by decide +kernel
theorem s0_159 : S0[(159 : Int).toNat]? = some (0, 6, []) := by decide +kernel
theorem s0_160 : S0[(160 : Int).toNat]? = some (0, 6, []) := by decide +kernel
theorem s0_161 : S0[(161 : Int).toNat]? = some (0, 6, []) := by decide +kernel
theorem s0_162 : S0[(162 : Int).toNat]? = some (0, 6, []) := by decide +kernel
theorem s0_163 : S0[(163 : Int).toNat]? = some (0, 6, []) := by decide +kernel
theorem s0_164 : S0[(164 : Int).toNat]? = some (0, 6, []) := by decide +kernel
theorem s0_165 : S0[(165 : Int).toNat]? = some (0, 6, []) := by decide +kernel
theorem s0_166 : S0[(166 : Int).toNat]? = some (2, 48, []) := by decide +kernel
theorem s0_167 : S0[(167 : Int).toNat]? = some (0, 6, []) := by decide +kernel
theorem s0_168 : S0[(168 : Int).toNat]? = some (0, 6, []) := by decide +kernel
theorem s0_169 : S0[(169 : Int).toNat]? = some (0, 6, []) := by decide +kernel
theorem s0_170 : S0[(170 : Int).toNat]? = some (0, 6, []) := by decide +kernel
theorem s0_171 : S0[(171 : Int).toNat]? = some (0, 6, []) := by decide +kernel
theorem s0_172 : S0[(172 : Int).toNat]? = some (0, 6, []) := by decide +kernel
theorem s0_173 : S0[(173 : Int).toNat]? = some (0, 6, []) := by decide +kernel
theorem s0_174 : S0[(174 : Int).toNat]? = some (0, 6, []) := by decide +kernel
theorem s0_175 : S0[(175 : Int).toNat]? = some (0, 6, []) := by decide +kernel
theorem s0_176 : S0[(176 : Int).toNat]? = some (0, 6, []) := by decide +kernel
theorem s0_177 : S0[(177 : Int).toNat]? = some (0, 6, []) := by decide +kernel
theorem s0_178 : S0[(178 : Int).toNat]? = some (0, 6, []) := by decide +kernel
theorem s0_179 : S0[(179 : Int).toNat]? = some (0, 6, []) := by decide +kernel
theorem s0_180 : S0[(180 : Int).toNat]? = some (0, 6, []) := by decide +kernel
theorem s0_181 : S0[(181 : Int).toNat]? = some (0, 6, []) := by decide +kernel
theorem s0_182 : S0[(182 : Int).toNat]? = some (0, 6, []) := by decide +kernel
theorem s0_183 : S0[(183 : Int).toNat]? = some (0, 6, []) := by decide +kernel
theorem s0_184 : S0[(184 : Int).toNat]? = some (0, 6, []) := by decide +kernel
theorem s0_185 : S0[(185 : Int).toNat]? = some (0, 6, []) := by decide +kernel
theorem s0_186 : S0[(186 : Int).toNat]? = some (0, 6, []) := by decide +kernel
theorem s0_187 : S0[(187 : Int).toNat]? = some (0, 6, []) := by decide +kernel
theorem s0_188 : S0[(188 : Int).toNat]? = some (0, 6, []) := by decide +kernel
theorem s0_189 : S0[(189 : Int).toNat]? = some (0, 6, []) := by decide +kernel
theorem s0_190 : S0[(190 : Int).toNat]? = some (0, 6, []) := by decide +kernel
theorem s0_191 : S0[(191 : Int).toNat]? = some (0, 6, []) := by decide +kernel
theorem s0_192 : S0[(192 : Int).toNat]? = some (0, 6, []) := by decide +kernel
theorem s0_193 : S0[(193 : Int).toNat]? = some (0, 6, []) := by decide +kernel
theorem s0_194 : S0[(194 : Int).toNat]? = some (0, 6, []) := by decide +kernel
theorem s0_195 : S0[(195 : Int).toNat]? = some (0, 6, []) := by decide +kernel
theorem s0_196 : S0[(196 : Int).toNat]? = some (0, 6, []) := by decide +kernel
theorem s0_197 : S0[(197 : Int).toNat]? = some (0, 6, []) := by decide +kernel
theorem s0_198 : S0[(198 : Int).toNat]? = some (0, 6, []) := by decide +kernel
theorem s0_199 : S0[(199 : Int).toNat]? = some (0, 6, []) := by decide +kernel
theorem s0_200 : S0[(200 : Int).toNat]? = some (0, 6, []) := by decide +kernel
theorem s0_201 : S0[(201 : Int).toNat]? = some (0, 6, []) := by decide +kernel
theorem s0_202 : S0[(202 : Int).toNat]? = some (0, 6, []) := by decide +kernel
theorem s0_203 : S0[(203 : Int).toNat]? = some (0, 6, []) := by decide +kernel
theorem s0_204 : S0[(204 : Int).toNat]? = some (0, 6, []) := by decide +kernel
theorem s0_205 : S0[(205 : Int).toNat]? = some (0, 6, []) := by decide +kernel
theorem s0_206 : S0[(206 : Int).toNat]? = some (0, 6, []) := by decide +kernel
theorem s0_207 : S0[(207 : Int).toNat]? = some (0, 6, []) := by decide +kernel
theorem s0_208 : S0[(208 : Int).toNat]? = some (0, 6, []) := by decide +kernel
theorem s0_209 : S0[(209 : Int).toNat]? = some (0, 6, []) := by decide +kernel
theorem s0_210 : S0[(210 : Int).toNat]? = some (0, 6, []) := by decide +kernel
theorem s0_211 : S0[(211 : Int).toNat]? = some (0, 6, []) := by decide +kernel
theorem s0_212 : S0[(212 : Int).toNat]? = some (0, 6, []) := by decide +kernel
theorem s0_213 : S0[(213 : Int).toNat]? = some (0, 6, []) := by decide +kernel
theorem s0_214 : S0[(214 : Int).toNat]? = some (0, 6, []) := by decide +kernel
theorem s0_215 : S0[(215 : Int).toNat]? = some (0, 48, []) := by decide +kernel
theorem s0_216 : S0[(216 : Int).toNat]? = some (2, 12, []) := by decide +kernel
theorem s0_217 : S0[(217 : Int).toNat]? = some (0, 12, []) := by decide +kernel
theorem s0_218 : S0[(218 : Int).toNat]? = some (0, 12, []) := by decide +kernel
theorem s0_219 : S0[(219 : Int).toNat]? = some (0, 12, []) := by decide +kernel
theorem s0_220 : S0[(220 : Int).toNat]? = some (0, 12, []) := by decide +kernel
theorem s0_221 : S0[(221 : Int).toNat]? = some (0, 12, []) := by decide +kernel
theorem s0_222 : S0[(222 : Int).toNat]? = some (0, 12, []) := by decide +kernel
theorem s0_223 : S0[(223 : Int).toNat]? = some (0, 12, []) := by decide +kernel
theorem s0_224 : S0[(224 : Int).toNat]? = some (0, 12, []) := by decide +kernel
theorem s0_225 : S0[(225 : Int).toNat]? = some (0, 12, []) := by decide +kernel
theorem s0_226 : S0[(226 : Int).toNat]? = some (0, 12, []) := by decide +kernel
theorem s0_227 : S0[(227 : Int).toNat]? = some (0, 12, []) := by decide +kernel
theorem s0_228 : S0[(228 : Int).toNat]? = some (0, 12, []) := by decide +kernel
theorem s0_229 : S0[(229 : Int).toNat]? = some (8, 6, [1, 230, 238, (-1), (-1), (-1)]) := by decide +kernel
theorem s0_230 : S0[(230 : Int).toNat]? = some (2, 7, []) := by decide +kernel
theorem s0_231 : S0[(231 : Int).toNat]? = some (0, 12, []) := by decide +kernel
theorem s0_232 : S0[(232 : Int).toNat]? = some (0, 12, []) := by decide +kernel
theorem s0_233 : S0[(233 : Int).toNat]? = some (0, 12, []) := by decide +kernel
theorem s0_234 : S0[(234 : Int).toNat]? = some (0, 12, []) := by decide +kernel
theorem s0_235 : S0[(235 : Int).toNat]? = some (0, 12, []) := by decide +kernel
theorem s0_236 : S0[(236 : Int).toNat]? = some (0, 12, []) := by decide +kernel
theorem s0_237 : S0[(237 : Int).toNat]? = some (0, 12, []) := by decide +kernel
theorem s0_238 : S0[(238 : Int).toNat]? = some (2, 7, []) := by decide +kernel
theorem s0_239 : S0[(239 : Int).toNat]? = some (0, 12, []) := by decide +kernel
theorem s0_240 : S0[(240 : Int).toNat]? = some (0, 12, []) := by decide +kernel
theorem s0_241 : S0[(241 : Int).toNat]? = some (0, 12, []) := by decide +kernel
theorem s0_242 : S0[(242 : Int).toNat]? = some (0, 12, []) := by decide +kernel
theorem s0_243 : S0[(243 : Int).toNat]? = some (0, 12, []) := by decide +kernel
theorem s0_244 : S0[(244 : Int).toNat]? = some (0, 12, []) := by decide +kernel
theorem s0_245 : S0[(245 : Int).toNat]? = some (0, 12, []) := by decide +kernel
theorem s0_246 : S0[(246 : Int).toNat]? = some (7, 7, [1, 229, 247, (-1), (-1), (-1), (-1)]) := by decide +kernel
theorem s0_247 : S0[(247 : Int).toNat]? = some (2, 13, []) := by decide +kernel
theorem s0_248 : S0[(248 : Int).toNat]? = some (0, 7, []) := by decide +kernel
theorem s0_249 : S0[(249 : Int).toNat]? = some (0, 7, []) := by decide +kernel
theorem s0_250 : S0[(250 : Int).toNat]? = some (0, 7, []) := by decide +kernel
theorem s0_251 : S0[(251 : Int).toNat]? = some (0, 7, []) := by decide +kernel
theorem s0_252 : S0[(252 : Int).toNat]? = some (0, 7, []) := by decide +kernel
theorem s0_253 : S0[(253 : Int).toNat]? = some (0, 7, []) := by decide +kernel
theorem s0_254 : S0[(254 : Int).toNat]? = some (0, 7, []) := by decide +kernel
theorem s0_255 : S0[(255 : Int).toNat]? = some (0, 7, []) := by decide +kernel
theorem s0_256 : S0[(256 : Int).toNat]? = some (0, 7, []) := by decide +kernel
theorem s0_257 : S0[(257 : Int).toNat]? = some (0, 7, []) := by decide +kernel
theorem s0_258 : S0[(258 : Int).toNat]? = some (0, 7, []) := by decide +kernel
theorem s0_259 : S0[(259 : Int).toNat]? = some (0, 7, []) := by decide +kernel
theorem s0_260 : S0[(260 : Int).toNat]? = some (0, 7, []) := by decide +kernel
theorem s0_261 : S0[(261 : Int).toNat]? = some (3, 3, [1, 262, (-1)]) := by decide +kernel
theorem s0_262 : S0[(262 : Int).toNat]? = some (0, 48, []) := by decide +kernel
theorem s0_263 : S0[(263 : Int).toNat]? = some (9, 2, [264, (-1)]) := by decide +kernel
theorem s0_264 : S0[(264 : Int).toNat]? = some (0, 80, []) := by decide +kernel
theorem s0_265 : S0[(265 : Int).toNat]? = some (9, 2, [266, (-1)]) := by decide +kernel
theorem s0_266 : S0[(266 : Int).toNat]? = some (0, 160, []) := by decide +kernel
theorem s0_267 : S0[(267 : Int).toNat]? = some (6, 7, [1, 263, (-1), (-1), (-1), (-1), (-1)]) := by decide +kernel
theorem s0_268 : S0[(268 : Int).toNat]? = some (4, 2, [269, 274]) := by decide +kernel
theorem s0_269 : S0[(269 : Int).toNat]? = some (2, 4, []) := by decide +kernel
theorem s0_270 : S0[(270 : Int).toNat]? = some (0, 20, []) := by decide +kernel
theorem s0_271 : S0[(271 : Int).toNat]? = some (0, 20, []) := by decide +kernel
theorem s0_272 : S0[(272 : Int).toNat]? = some (0, 20, []) := by decide +kernel
theorem s0_273 : S0[(273 : Int).toNat]? = some (0, 20, []) := by decide +kernel
theorem s0_274 : S0[(274 : Int).toNat]? = some (0, 4, []) := by decide +kernel
theorem s0_275 : S0[(275 : Int).toNat]? = some (11, 41, [(-1), 276, 277, 278, 279, 280, 281, 282, (-1), (-1), (-1), (-1), 283, 284, (-1), 285, 286, 287, 288, 289, 290, 291, (-1), (-1), (-1), 292, (-1), (-1), (-1), (-1), 293, 294, (-1), (-1), (-1), (-1), 295, (-1), 296, 297, 298]) := by decide +kernel
theorem s0_276 : S0[(276 : Int).toNat]? = some (0, 8, []) := by decide +kernel
theorem s0_277 : S0[(277 : Int).toNat]? = some (0, 8, []) := by decide +kernel
theorem s0_278 : S0[(278 : Int).toNat]? = some (0, 48, []) := by decide +kernel
theorem s0_279 : S0[(279 : Int).toNat]? = some (0, 8, []) := by decide +kernel
theorem s0_280 : S0[(280 : Int).toNat]? = some (0, 48, []) := by decide +kernel
theorem s0_281 : S0[(281 : Int).toNat]? = some (0, 288, []) := by decide +kernel
theorem s0_282 : S0[(282 : Int).toNat]? = some (0, 144, []) := by decide +kernel
theorem s0_283 : S0[(283 : Int).toNat]? = some (0, 84, []) := by decide +kernel
theorem s0_284 : S0[(284 : Int).toNat]? = some (0, 84, []) := by decide +kernel
theorem s0_285 : S0[(285 : Int).toNat]? = some (0, 16, []) := by decide +kernel
theorem s0_286 : S0[(286 : Int).toNat]? = some (0, 16, []) := by decide +kernel
theorem s0_287 : S0[(287 : Int).toNat]? = some (0, 16, []) := by decide +kernel
theorem s0_288 : S0[(288 : Int).toNat]? = some (0, 16, []) := by decide +kernel
theorem s0_289 : S0[(289 : Int).toNat]? = some (0, 16, []) := by decide +kernel
theorem s0_290 : S0[(290 : Int).toNat]? = some (0, 16, []) := by decide +kernel
theorem s0_291 : S0[(291 : Int).toNat]? = some (0, 16, []) := by decide +kernel
theorem s0_292 : S0[(292 : Int).toNat]? = some (0, 80, []) := by decide +kernel
theorem s0_293 : S0[(293 : Int).toNat]? = some (0, 700, []) := by decide +kernel
theorem s0_294 : S0[(294 : Int).toNat]? = some (0, 700, []) := by decide +kernel
theorem s0_295 : S0[(295 : Int).toNat]? = some (0, 200, []) := by decide +kernel
theorem s0_296 : S0[(296 : Int).toNat]? = some (1, 4, []) := by decide +kernel
theorem s0_297 : S0[(297 : Int).toNat]? = some (0, 4, []) := by decide +kernel
theorem s0_298 : S0[(298 : Int).toNat]? = some (0, 80, []) := by decide +kernel
/-- an array of numbers of so many places -/
abbrev isA (a : Int) (N : Nat) : Prop := 0 ≤ a ∧ S0[a.toNat]? = some (0, N, [])
theorem rw_5 (i : Int) (h0 : 0 ≤ i) (h1 : i < 8) : isA (6 + i) 6 := by
  obtain ⟨n, rfl⟩ := Int.eq_ofNat_of_zero_le h0
  have h : ∀ m : Fin 8, S0[6 + m.val]? = some (0, 6, []) := by decide +kernel
  have h2 := h ⟨n, by omega⟩
  refine ⟨by omega, ?_⟩
  rw [show ((6 : Int) + (n : Nat)).toNat = 6 + n by omega]
  exact h2
theorem rw_14 (i : Int) (h0 : 0 ≤ i) (h1 : i < 48) : isA (15 + i) 6 := by
  obtain ⟨n, rfl⟩ := Int.eq_ofNat_of_zero_le h0
  have h : ∀ m : Fin 48, S0[15 + m.val]? = some (0, 6, []) := by decide +kernel
  have h2 := h ⟨n, by omega⟩
  refine ⟨by omega, ?_⟩
  rw [show ((15 : Int) + (n : Nat)).toNat = 15 + n by omega]
  exact h2
theorem rw_64 (i : Int) (h0 : 0 ≤ i) (h1 : i < 12) : isA (65 + i) 12 := by
  obtain ⟨n, rfl⟩ := Int.eq_ofNat_of_zero_le h0
  have h : ∀ m : Fin 12, S0[65 + m.val]? = some (0, 12, []) := by decide +kernel
  have h2 := h ⟨n, by omega⟩
  refine ⟨by omega, ?_⟩
  rw [show ((65 : Int) + (n : Nat)).toNat = 65 + n by omega]
  exact h2
theorem rw_81 (i : Int) (h0 : 0 ≤ i) (h1 : i < 8) : isA (82 + i) 6 := by
  obtain ⟨n, rfl⟩ := Int.eq_ofNat_of_zero_le h0
  have h : ∀ m : Fin 8, S0[82 + m.val]? = some (0, 6, []) := by decide +kernel
  have h2 := h ⟨n, by omega⟩
  refine ⟨by omega, ?_⟩
  rw [show ((82 : Int) + (n : Nat)).toNat = 82 + n by omega]
  exact h2
theorem rw_90 (i : Int) (h0 : 0 ≤ i) (h1 : i < 48) : isA (91 + i) 6 := by
  obtain ⟨n, rfl⟩ := Int.eq_ofNat_of_zero_le h0
  have h : ∀ m : Fin 48, S0[91 + m.val]? = some (0, 6, []) := by decide +kernel
  have h2 := h ⟨n, by omega⟩
  refine ⟨by omega, ?_⟩
  rw [show ((91 : Int) + (n : Nat)).toNat = 91 + n by omega]
  exact h2
theorem rw_140 (i : Int) (h0 : 0 ≤ i) (h1 : i < 12) : isA (141 + i) 12 := by
  obtain ⟨n, rfl⟩ := Int.eq_ofNat_of_zero_le h0
  have h : ∀ m : Fin 12, S0[141 + m.val]? = some (0, 12, []) := by decide +kernel
  have h2 := h ⟨n, by omega⟩
  refine ⟨by omega, ?_⟩
  rw [show ((141 : Int) + (n : Nat)).toNat = 141 + n by omega]
  exact h2
theorem rw_157 (i : Int) (h0 : 0 ≤ i) (h1 : i < 8) : isA (158 + i) 6 := by
  obtain ⟨n, rfl⟩ := Int.eq_ofNat_of_zero_le h0
  have h : ∀ m : Fin 8, S0[158 + m.val]? = some (0, 6, []) := by decide +kernel
  have h2 := h ⟨n, by omega⟩
  refine ⟨by omega, ?_⟩
  rw [show ((158 : Int) + (n : Nat)).toNat = 158 + n by omega]
  exact h2
theorem rw_166 (i : Int) (h0 : 0 ≤ i) (h1 : i < 48) : isA (167 + i) 6 := by
  obtain ⟨n, rfl⟩ := Int.eq_ofNat_of_zero_le h0
  have h : ∀ m : Fin 48, S0[167 + m.val]? = some (0, 6, []) := by decide +kernel
  have h2 := h ⟨n, by omega⟩
  refine ⟨by omega, ?_⟩
  rw [show ((167 : Int) + (n : Nat)).toNat = 167 + n by omega]
  exact h2
theorem rw_216 (i : Int) (h0 : 0 ≤ i) (h1 : i < 12) : isA (217 + i) 12 := by
  obtain ⟨n, rfl⟩ := Int.eq_ofNat_of_zero_le h0
  have h : ∀ m : Fin 12, S0[217 + m.val]? = some (0, 12, []) := by decide +kernel
  have h2 := h ⟨n, by omega⟩
  refine ⟨by omega, ?_⟩
  rw [show ((217 : Int) + (n : Nat)).toNat = 217 + n by omega]
  exact h2
theorem rw_230 (i : Int) (h0 : 0 ≤ i) (h1 : i < 7) : isA (231 + i) 12 := by
  obtain ⟨n, rfl⟩ := Int.eq_ofNat_of_zero_le h0
  have h : ∀ m : Fin 7, S0[231 + m.val]? = some (0, 12, []) := by decide +kernel
  have h2 := h ⟨n, by omega⟩
  refine ⟨by omega, ?_⟩
  rw [show ((231 : Int) + (n : Nat)).toNat = 231 + n by omega]
  exact h2
theorem rw_238 (i : Int) (h0 : 0 ≤ i) (h1 : i < 7) : isA (239 + i) 12 := by
  obtain ⟨n, rfl⟩ := Int.eq_ofNat_of_zero_le h0
  have h : ∀ m : Fin 7, S0[239 + m.val]? = some (0, 12, []) := by decide +kernel
  have h2 := h ⟨n, by omega⟩
  refine ⟨by omega, ?_⟩
  rw [show ((239 : Int) + (n : Nat)).toNat = 239 + n by omega]
  exact h2
theorem rw_247 (i : Int) (h0 : 0 ≤ i) (h1 : i < 13) : isA (248 + i) 7 := by
  obtain ⟨n, rfl⟩ := Int.eq_ofNat_of_zero_le h0
  have h : ∀ m : Fin 13, S0[248 + m.val]? = some (0, 7, []) := by decide +kernel
  have h2 := h ⟨n, by omega⟩
  refine ⟨by omega, ?_⟩
  rw [show ((248 : Int) + (n : Nat)).toNat = 248 + n by omega]
  exact h2
theorem rw_269 (i : Int) (h0 : 0 ≤ i) (h1 : i < 4) : isA (270 + i) 20 := by
  obtain ⟨n, rfl⟩ := Int.eq_ofNat_of_zero_le h0
  have h : ∀ m : Fin 4, S0[270 + m.val]? = some (0, 20, []) := by decide +kernel
  have h2 := h ⟨n, by omega⟩
  refine ⟨by omega, ?_⟩
  rw [show ((270 : Int) + (n : Nat)).toNat = 270 + n by omega]
  exact h2
theorem n01 : (0 : Nat) ≠ 1 := by decide
theorem n21 : (2 : Nat) ≠ 1 := by decide
abbrev Ex0 : State → Nat → Nat → Prop := fun _ _ _ => True
/-- from here the method ends, with an answer and a memory of which Q is true (nothing is made) -/
abbrev AW (m : MD) (pc : Nat) (ls : List AV) (M : Mem) (Q : Int → Mem → Prop) : Prop := AWG m Ex0 0 0 pc ls [] S0 M (fun r S1 M1 => S1 = S0 ∧ Q r M1)
