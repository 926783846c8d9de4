theorem dX13_shortest_66 : decode cX13_shortest 66 = .ok (.iaload, 1) := by decide +kernel
theorem dX13_shortest_67 : decode cX13_shortest 67 = .ok (.idiv, 1) := by decide +kernel
theorem dX13_shortest_68 : decode cX13_shortest 68 = .ok (.invokevirtual 336, 3) := by decide +kernel
theorem dX13_shortest_71 : decode cX13_shortest 71 = .ok (.goto 4, 3) := by decide +kernel
theorem dX13_shortest_74 : decode cX13_shortest 74 = .ok (.iconst 0, 1) := by decide +kernel
theorem dX13_shortest_75 : decode cX13_shortest 75 = .ok (.istore 4, 2) := by decide +kernel
theorem dX13_shortest_77 : decode cX13_shortest 77 = .ok (.iload 4, 2) := by decide +kernel
theorem dX13_shortest_79 : decode cX13_shortest 79 = .ok (.ifCond .le 16, 3) := by decide +kernel
theorem dX13_shortest_82 : decode cX13_shortest 82 = .ok (.iload_n 2, 1) := by decide +kernel
theorem dX13_shortest_83 : decode cX13_shortest 83 = .ok (.ifCond .eq 9, 3) := by decide +kernel
theorem dX13_shortest_86 : decode cX13_shortest 86 = .ok (.iload 4, 2) := by decide +kernel
theorem dX13_shortest_88 : decode cX13_shortest 88 = .ok (.iload_n 2, 1) := by decide +kernel
theorem dX13_shortest_89 : decode cX13_shortest 89 = .ok (.if_icmp .ge 6, 3) := by decide +kernel
theorem dX13_shortest_92 : decode cX13_shortest 92 = .ok (.iload 4, 2) := by decide +kernel
theorem dX13_shortest_94 : decode cX13_shortest 94 = .ok (.istore_n 2, 1) := by decide +kernel
theorem dX13_shortest_95 : decode cX13_shortest 95 = .ok (.iinc 3 1, 3) := by decide +kernel
theorem dX13_shortest_98 : decode cX13_shortest 98 = .ok (.goto (-80), 3) := by decide +kernel
theorem dX13_shortest_101 : decode cX13_shortest 101 = .ok (.iload_n 2, 1) := by decide +kernel
theorem dX13_shortest_102 : decode cX13_shortest 102 = .ok (.ireturn, 1) := by decide +kernel
set_option maxRecDepth 20000 in
theorem ggX13_allRectangles_X13_rectanglesOf : GoodIn wsX13_allRectangles wsX13_rectanglesOf := goodIn_r _ [7, 2, 8, 9, 10, 6, 11, 12, 13, 14, 15, 16, 17, 18, 19, 20, 21, 22, 23, 24, 25, 26, 27, 28, 29, 30, 31, 32, 33, 34, 35, 36, 37, 38, 39, 40, 41, 42, 43, 44, 45, 46, 47, 48, 49, 50, 51, 52, 53, 54, 55, 56, 57, 58, 59, 60, 61, 62, 63, 64, 65, 66, 67, 68, 69, 70, 71, 72, 73, 74, 75, 76, 77, 78, 79, 80, 81, 82, 83, 84, 85, 86, 87, 88, 89, 90] (by decide +kernel) (by decide +kernel)
set_option maxRecDepth 20000 in
theorem gX13_allRectangles_X13_rectanglesOf : GoodIn wsX13_allRectangles (wsV RX13 346 RX13 yX13_rectanglesOf wsX13_rectanglesOf) := goodIn_app (goodIn_of _ (by decide +kernel)) ggX13_allRectangles_X13_rectanglesOf
theorem dX13_allRectangles_0 : decode cX13_allRectangles 0 = .ok (.aload_n 0, 1) := by decide +kernel
theorem dX13_allRectangles_1 : decode cX13_allRectangles 1 = .ok (.iconst 0, 1) := by decide +kernel
theorem dX13_allRectangles_2 : decode cX13_allRectangles 2 = .ok (.putfield 93, 3) := by decide +kernel
theorem dX13_allRectangles_5 : decode cX13_allRectangles 5 = .ok (.iconst 0, 1) := by decide +kernel
theorem dX13_allRectangles_6 : decode cX13_allRectangles 6 = .ok (.istore_n 1, 1) := by decide +kernel
theorem dX13_allRectangles_7 : decode cX13_allRectangles 7 = .ok (.iconst 1, 1) := by decide +kernel
theorem dX13_allRectangles_8 : decode cX13_allRectangles 8 = .ok (.istore_n 2, 1) := by decide +kernel
theorem dX13_allRectangles_9 : decode cX13_allRectangles 9 = .ok (.iload_n 2, 1) := by decide +kernel
theorem dX13_allRectangles_10 : decode cX13_allRectangles 10 = .ok (.aload_n 0, 1) := by decide +kernel
theorem dX13_allRectangles_11 : decode cX13_allRectangles 11 = .ok (.getfield 20, 3) := by decide +kernel
theorem dX13_allRectangles_14 : decode cX13_allRectangles 14 = .ok (.iconst 2, 1) := by decide +kernel
theorem dX13_allRectangles_15 : decode cX13_allRectangles 15 = .ok (.iaload, 1) := by decide +kernel
theorem dX13_allRectangles_16 : decode cX13_allRectangles 16 = .ok (.if_icmp .gt 17, 3) := by decide +kernel
theorem dX13_allRectangles_19 : decode cX13_allRectangles 19 = .ok (.iload_n 1, 1) := by decide +kernel
theorem dX13_allRectangles_20 : decode cX13_allRectangles 20 = .ok (.aload_n 0, 1) := by decide +kernel
theorem dX13_allRectangles_21 : decode cX13_allRectangles 21 = .ok (.iload_n 2, 1) := by decide +kernel
theorem dX13_allRectangles_22 : decode cX13_allRectangles 22 = .ok (.invokevirtual 346, 3) := by decide +kernel
theorem dX13_allRectangles_25 : decode cX13_allRectangles 25 = .ok (.iadd, 1) := by decide +kernel
theorem dX13_allRectangles_26 : decode cX13_allRectangles 26 = .ok (.istore_n 1, 1) := by decide +kernel
theorem dX13_allRectangles_27 : decode cX13_allRectangles 27 = .ok (.iinc 2 1, 3) := by decide +kernel
theorem dX13_allRectangles_30 : decode cX13_allRectangles 30 = .ok (.goto (-21), 3) := by decide +kernel
theorem dX13_allRectangles_33 : decode cX13_allRectangles 33 = .ok (.iload_n 1, 1) := by decide +kernel
theorem dX13_allRectangles_34 : decode cX13_allRectangles 34 = .ok (.ireturn, 1) := by decide +kernel
set_option maxRecDepth 20000 in
theorem ggX13_outline_X13_isLayer : GoodIn wsX13_outline wsX13_isLayer := goodIn_r _ [6, 1, 7, 8, 5, 9, 31, 32, 33, 34, 35, 36, 37, 38, 39, 40, 41, 42, 43, 44, 45, 46, 47, 48, 49, 50, 51, 52, 53, 54, 55, 56, 57, 58, 59, 60, 61, 62, 63, 64, 65, 66, 67, 68, 69, 70, 71, 72, 73, 74, 75, 76, 77, 78] (by decide +kernel) (by decide +kernel)
set_option maxRecDepth 20000 in
theorem gX13_outline_X13_isLayer : GoodIn wsX13_outline (wsV RX13 327 RX13 yX13_isLayer wsX13_isLayer) := goodIn_app (goodIn_of _ (by decide +kernel)) ggX13_outline_X13_isLayer
set_option maxRecDepth 20000 in
theorem ggX13_outline_X13_goes : GoodIn wsX13_outline wsX13_goes := goodIn_r _ [13, 14, 15, 16, 5, 17, 31, 32, 33, 34, 35, 36, 37, 38, 39, 40, 41, 42, 43, 44, 45, 46, 47, 48, 49, 50, 51, 52, 53, 54, 55, 56, 57, 58, 59, 60, 61, 62, 63, 64, 65, 66, 67, 68, 69, 70, 71, 72, 73, 74, 75, 76, 77, 78] (by decide +kernel) (by decide +kernel)
set_option maxRecDepth 20000 in
theorem gX13_outline_X13_goes : GoodIn wsX13_outline (wsV RX13 103 RX13 yX13_goes wsX13_goes) := goodIn_app (goodIn_of _ (by decide +kernel)) ggX13_outline_X13_goes
set_option maxRecDepth 20000 in
theorem ggX13_outline_X13_cellMany : GoodIn wsX13_outline wsX13_cellMany := goodIn_r _ [21, 1, 31, 32, 33, 34, 35, 36, 37, 38, 39, 40, 41, 42, 43, 44, 45, 46, 47, 48, 49, 50, 51, 52, 53, 54, 55, 56, 57, 58, 59, 60, 61, 62, 63, 64, 65, 66, 67, 68, 69, 70, 71, 72, 73, 74, 75, 76, 77, 78] (by decide +kernel) (by decide +kernel)
set_option maxRecDepth 20000 in
theorem gX13_outline_X13_cellMany : GoodIn wsX13_outline (wsV RX13 251 RX13 yX13_cellMany wsX13_cellMany) := goodIn_app (goodIn_of _ (by decide +kernel)) ggX13_outline_X13_cellMany
set_option maxRecDepth 20000 in
theorem ggX13_outline_X13_isOf : GoodIn wsX13_outline wsX13_isOf := goodIn_r _ [25, 26, 27, 28, 29, 5, 30, 1, 7, 8, 9, 31, 32, 33, 34, 35, 36, 37, 38, 39, 40, 41, 42, 43, 44, 45, 46, 47, 48, 49, 50, 51, 52, 53, 54, 55, 56, 57, 58, 59, 60, 61, 62, 63, 64, 65, 66, 67, 68, 69, 70, 71, 72, 73, 74, 75, 76, 77, 78] (by decide +kernel) (by decide +kernel)
set_option maxRecDepth 20000 in
theorem gX13_outline_X13_isOf : GoodIn wsX13_outline (wsV RX13 330 RX13 yX13_isOf wsX13_isOf) := goodIn_app (goodIn_of _ (by decide +kernel)) ggX13_outline_X13_isOf
set_option maxRecDepth 20000 in
theorem ggX13_outline_X13_truth : GoodIn wsX13_outline wsX13_truth := goodIn_r _ [17] (by decide +kernel) (by decide +kernel)
set_option maxRecDepth 20000 in
theorem gX13_outline_X13_truth : GoodIn wsX13_outline (va_wsS RX13 96 yX13_truth wsX13_truth) := goodIn_app (goodIn_of _ (by decide +kernel)) ggX13_outline_X13_truth
theorem dX13_outline_0 : decode cX13_outline 0 = .ok (.aload_n 0, 1) := by decide +kernel
theorem dX13_outline_1 : decode cX13_outline 1 = .ok (.aload_n 0, 1) := by decide +kernel
theorem dX13_outline_2 : decode cX13_outline 2 = .ok (.iload_n 1, 1) := by decide +kernel
theorem dX13_outline_3 : decode cX13_outline 3 = .ok (.invokevirtual 327, 3) := by decide +kernel
theorem dX13_outline_6 : decode cX13_outline 6 = .ok (.invokevirtual 103, 3) := by decide +kernel
theorem dX13_outline_9 : decode cX13_outline 9 = .ok (.ifCond .ne 5, 3) := by decide +kernel
theorem dX13_outline_12 : decode cX13_outline 12 = .ok (.iconst 0, 1) := by decide +kernel
theorem dX13_outline_13 : decode cX13_outline 13 = .ok (.ireturn, 1) := by decide +kernel
theorem dX13_outline_14 : decode cX13_outline 14 = .ok (.iconst 0, 1) := by decide +kernel
theorem dX13_outline_15 : decode cX13_outline 15 = .ok (.istore_n 2, 1) := by decide +kernel
theorem dX13_outline_16 : decode cX13_outline 16 = .ok (.iconst 0, 1) := by decide +kernel
theorem dX13_outline_17 : decode cX13_outline 17 = .ok (.istore_n 3, 1) := by decide +kernel
theorem dX13_outline_18 : decode cX13_outline 18 = .ok (.iload_n 3, 1) := by decide +kernel
theorem dX13_outline_19 : decode cX13_outline 19 = .ok (.aload_n 0, 1) := by decide +kernel
theorem dX13_outline_20 : decode cX13_outline 20 = .ok (.invokevirtual 251, 3) := by decide +kernel
theorem dX13_outline_23 : decode cX13_outline 23 = .ok (.if_icmp .ge 135, 3) := by decide +kernel
theorem dX13_outline_26 : decode cX13_outline 26 = .ok (.iload_n 3, 1) := by decide +kernel
theorem dX13_outline_27 : decode cX13_outline 27 = .ok (.aload_n 0, 1) := by decide +kernel
theorem dX13_outline_28 : decode cX13_outline 28 = .ok (.getfield 20, 3) := by decide +kernel
theorem dX13_outline_31 : decode cX13_outline 31 = .ok (.iconst 0, 1) := by decide +kernel
theorem dX13_outline_32 : decode cX13_outline 32 = .ok (.iaload, 1) := by decide +kernel
theorem dX13_outline_33 : decode cX13_outline 33 = .ok (.irem, 1) := by decide +kernel
theorem dX13_outline_34 : decode cX13_outline 34 = .ok (.istore 4, 2) := by decide +kernel
theorem dX13_outline_36 : decode cX13_outline 36 = .ok (.iload_n 3, 1) := by decide +kernel
theorem dX13_outline_37 : decode cX13_outline 37 = .ok (.aload_n 0, 1) := by decide +kernel
theorem dX13_outline_38 : decode cX13_outline 38 = .ok (.getfield 20, 3) := by decide +kernel
theorem dX13_outline_41 : decode cX13_outline 41 = .ok (.iconst 0, 1) := by decide +kernel
theorem dX13_outline_42 : decode cX13_outline 42 = .ok (.iaload, 1) := by decide +kernel
theorem dX13_outline_43 : decode cX13_outline 43 = .ok (.idiv, 1) := by decide +kernel
theorem dX13_outline_44 : decode cX13_outline 44 = .ok (.istore 5, 2) := by decide +kernel
theorem dX13_outline_46 : decode cX13_outline 46 = .ok (.aload_n 0, 1) := by decide +kernel
theorem dX13_outline_47 : decode cX13_outline 47 = .ok (.iload_n 1, 1) := by decide +kernel
theorem dX13_outline_48 : decode cX13_outline 48 = .ok (.iload 4, 2) := by decide +kernel
theorem dX13_outline_50 : decode cX13_outline 50 = .ok (.iload 5, 2) := by decide +kernel
theorem dX13_outline_52 : decode cX13_outline 52 = .ok (.invokevirtual 330, 3) := by decide +kernel
theorem dX13_outline_55 : decode cX13_outline 55 = .ok (.ifCond .eq 97, 3) := by decide +kernel
theorem dX13_outline_58 : decode cX13_outline 58 = .ok (.iload_n 2, 1) := by decide +kernel
theorem dX13_outline_59 : decode cX13_outline 59 = .ok (.aload_n 0, 1) := by decide +kernel
theorem dX13_outline_60 : decode cX13_outline 60 = .ok (.iload_n 1, 1) := by decide +kernel
theorem dX13_outline_61 : decode cX13_outline 61 = .ok (.iload 4, 2) := by decide +kernel
theorem dX13_outline_63 : decode cX13_outline 63 = .ok (.iconst 1, 1) := by decide +kernel
theorem dX13_outline_64 : decode cX13_outline 64 = .ok (.isub, 1) := by decide +kernel
theorem dX13_outline_65 : decode cX13_outline 65 = .ok (.iload 5, 2) := by decide +kernel
theorem dX13_outline_67 : decode cX13_outline 67 = .ok (.invokevirtual 330, 3) := by decide +kernel
theorem dX13_outline_70 : decode cX13_outline 70 = .ok (.ifCond .ne 7, 3) := by decide +kernel
theorem dX13_outline_73 : decode cX13_outline 73 = .ok (.iconst 1, 1) := by decide +kernel
theorem dX13_outline_74 : decode cX13_outline 74 = .ok (.goto 4, 3) := by decide +kernel
theorem dX13_outline_77 : decode cX13_outline 77 = .ok (.iconst 0, 1) := by decide +kernel
theorem dX13_outline_78 : decode cX13_outline 78 = .ok (.invokestatic 96, 3) := by decide +kernel
theorem dX13_outline_81 : decode cX13_outline 81 = .ok (.aload_n 0, 1) := by decide +kernel
theorem dX13_outline_82 : decode cX13_outline 82 = .ok (.iload_n 1, 1) := by decide +kernel
theorem dX13_outline_83 : decode cX13_outline 83 = .ok (.iload 4, 2) := by decide +kernel
theorem dX13_outline_85 : decode cX13_outline 85 = .ok (.iconst 1, 1) := by decide +kernel
theorem dX13_outline_86 : decode cX13_outline 86 = .ok (.iadd, 1) := by decide +kernel
theorem dX13_outline_87 : decode cX13_outline 87 = .ok (.iload 5, 2) := by decide +kernel
theorem dX13_outline_89 : decode cX13_outline 89 = .ok (.invokevirtual 330, 3) := by decide +kernel
theorem dX13_outline_92 : decode cX13_outline 92 = .ok (.ifCond .ne 7, 3) := by decide +kernel
theorem dX13_outline_95 : decode cX13_outline 95 = .ok (.iconst 1, 1) := by decide +kernel
theorem dX13_outline_96 : decode cX13_outline 96 = .ok (.goto 4, 3) := by decide +kernel
theorem dX13_outline_99 : decode cX13_outline 99 = .ok (.iconst 0, 1) := by decide +kernel
theorem dX13_outline_100 : decode cX13_outline 100 = .ok (.invokestatic 96, 3) := by decide +kernel
theorem dX13_outline_103 : decode cX13_outline 103 = .ok (.iadd, 1) := by decide +kernel
theorem dX13_outline_104 : decode cX13_outline 104 = .ok (.aload_n 0, 1) := by decide +kernel
theorem dX13_outline_105 : decode cX13_outline 105 = .ok (.iload_n 1, 1) := by decide +kernel
theorem dX13_outline_106 : decode cX13_outline 106 = .ok (.iload 4, 2) := by decide +kernel
theorem dX13_outline_108 : decode cX13_outline 108 = .ok (.iload 5, 2) := by decide +kernel
theorem dX13_outline_110 : decode cX13_outline 110 = .ok (.iconst 1, 1) := by decide +kernel
theorem dX13_outline_111 : decode cX13_outline 111 = .ok (.isub, 1) := by decide +kernel
theorem dX13_outline_112 : decode cX13_outline 112 = .ok (.invokevirtual 330, 3) := by decide +kernel
theorem dX13_outline_115 : decode cX13_outline 115 = .ok (.ifCond .ne 7, 3) := by decide +kernel
theorem dX13_outline_118 : decode cX13_outline 118 = .ok (.iconst 1, 1) := by decide +kernel
theorem dX13_outline_119 : decode cX13_outline 119 = .ok (.goto 4, 3) := by decide +kernel
theorem dX13_outline_122 : decode cX13_outline 122 = .ok (.iconst 0, 1) := by decide +kernel
theorem dX13_outline_123 : decode cX13_outline 123 = .ok (.invokestatic 96, 3) := by decide +kernel
theorem dX13_outline_126 : decode cX13_outline 126 = .ok (.iadd, 1) := by decide +kernel
theorem dX13_outline_127 : decode cX13_outline 127 = .ok (.aload_n 0, 1) := by decide +kernel
theorem dX13_outline_128 : decode cX13_outline 128 = .ok (.iload_n 1, 1) := by decide +kernel
theorem dX13_outline_129 : decode cX13_outline 129 = .ok (.iload 4, 2) := by decide +kernel
theorem dX13_outline_131 : decode cX13_outline 131 = .ok (.iload 5, 2) := by decide +kernel
theorem dX13_outline_133 : decode cX13_outline 133 = .ok (.iconst 1, 1) := by decide +kernel
theorem dX13_outline_134 : decode cX13_outline 134 = .ok (.iadd, 1) := by decide +kernel
theorem dX13_outline_135 : decode cX13_outline 135 = .ok (.invokevirtual 330, 3) := by decide +kernel
theorem dX13_outline_138 : decode cX13_outline 138 = .ok (.ifCond .ne 7, 3) := by decide +kernel
theorem dX13_outline_141 : decode cX13_outline 141 = .ok (.iconst 1, 1) := by decide +kernel
theorem dX13_outline_142 : decode cX13_outline 142 = .ok (.goto 4, 3) := by decide +kernel
theorem dX13_outline_145 : decode cX13_outline 145 = .ok (.iconst 0, 1) := by decide +kernel
theorem dX13_outline_146 : decode cX13_outline 146 = .ok (.invokestatic 96, 3) := by decide +kernel
theorem dX13_outline_149 : decode cX13_outline 149 = .ok (.iadd, 1) := by decide +kernel
theorem dX13_outline_150 : decode cX13_outline 150 = .ok (.iadd, 1) := by decide +kernel
theorem dX13_outline_151 : decode cX13_outline 151 = .ok (.istore_n 2, 1) := by decide +kernel
theorem dX13_outline_152 : decode cX13_outline 152 = .ok (.iinc 3 1, 3) := by decide +kernel
theorem dX13_outline_155 : decode cX13_outline 155 = .ok (.goto (-137), 3) := by decide +kernel
theorem dX13_outline_158 : decode cX13_outline 158 = .ok (.iload_n 2, 1) := by decide +kernel
theorem dX13_outline_159 : decode cX13_outline 159 = .ok (.ireturn, 1) := by decide +kernel
set_option maxRecDepth 20000 in
theorem ggX13_groupAt_X13_isCell : GoodIn wsX13_groupAt wsX13_isCell := goodIn_r _ [6, 7, 8, 9, 5, 10, 16, 17, 18, 19, 20, 21, 22, 23, 24, 25, 26, 27, 28, 29, 30, 31, 32, 33, 34, 35, 36, 37, 38, 39, 40, 41, 42, 43, 44, 45, 46, 47, 48, 49, 50, 51, 52, 53, 54, 55, 56, 57, 58, 59, 60, 61, 62, 63] (by decide +kernel) (by decide +kernel)
set_option maxRecDepth 20000 in
theorem gX13_groupAt_X13_isCell : GoodIn wsX13_groupAt (wsV RX13 195 RX13 yX13_isCell wsX13_isCell) := goodIn_app (goodIn_of _ (by decide +kernel)) ggX13_groupAt_X13_isCell
set_option maxRecDepth 20000 in
theorem ggX13_groupAt_X13_isOf : GoodIn wsX13_groupAt wsX13_isOf := goodIn_r _ [14, 15, 2, 3, 4, 5, 6, 7, 8, 9, 10, 16, 17, 18, 19, 20, 21, 22, 23, 24, 25, 26, 27, 28, 29, 30, 31, 32, 33, 34, 35, 36, 37, 38, 39, 40, 41, 42, 43, 44, 45, 46, 47, 48, 49, 50, 51, 52, 53, 54, 55, 56, 57, 58, 59, 60, 61, 62, 63] (by decide +kernel) (by decide +kernel)
set_option maxRecDepth 20000 in
theorem gX13_groupAt_X13_isOf : GoodIn wsX13_groupAt (wsV RX13 330 RX13 yX13_isOf wsX13_isOf) := goodIn_app (goodIn_of _ (by decide +kernel)) ggX13_groupAt_X13_isOf
theorem dX13_groupAt_0 : decode cX13_groupAt 0 = .ok (.aload_n 0, 1) := by decide +kernel
theorem dX13_groupAt_1 : decode cX13_groupAt 1 = .ok (.iload_n 1, 1) := by decide +kernel
theorem dX13_groupAt_2 : decode cX13_groupAt 2 = .ok (.iload_n 2, 1) := by decide +kernel
theorem dX13_groupAt_3 : decode cX13_groupAt 3 = .ok (.invokevirtual 195, 3) := by decide +kernel
theorem dX13_groupAt_6 : decode cX13_groupAt 6 = .ok (.ifCond .eq 29, 3) := by decide +kernel
theorem dX13_groupAt_9 : decode cX13_groupAt 9 = .ok (.aload_n 0, 1) := by decide +kernel
theorem dX13_groupAt_10 : decode cX13_groupAt 10 = .ok (.iload 4, 2) := by decide +kernel
theorem dX13_groupAt_12 : decode cX13_groupAt 12 = .ok (.iload_n 1, 1) := by decide +kernel
theorem dX13_groupAt_13 : decode cX13_groupAt 13 = .ok (.iload_n 2, 1) := by decide +kernel
theorem dX13_groupAt_14 : decode cX13_groupAt 14 = .ok (.invokevirtual 330, 3) := by decide +kernel
theorem dX13_groupAt_17 : decode cX13_groupAt 17 = .ok (.iload_n 3, 1) := by decide +kernel
theorem dX13_groupAt_18 : decode cX13_groupAt 18 = .ok (.if_icmp .ne 17, 3) := by decide +kernel
theorem dX13_groupAt_21 : decode cX13_groupAt 21 = .ok (.aload_n 0, 1) := by decide +kernel
theorem dX13_groupAt_22 : decode cX13_groupAt 22 = .ok (.getfield 45, 3) := by decide +kernel
theorem dX13_groupAt_25 : decode cX13_groupAt 25 = .ok (.bipush 16, 2) := by decide +kernel
theorem dX13_groupAt_27 : decode cX13_groupAt 27 = .ok (.iload_n 2, 1) := by decide +kernel
theorem dX13_groupAt_28 : decode cX13_groupAt 28 = .ok (.imul, 1) := by decide +kernel
theorem dX13_groupAt_29 : decode cX13_groupAt 29 = .ok (.iload_n 1, 1) := by decide +kernel
theorem dX13_groupAt_30 : decode cX13_groupAt 30 = .ok (.iadd, 1) := by decide +kernel
theorem dX13_groupAt_31 : decode cX13_groupAt 31 = .ok (.iaload, 1) := by decide +kernel
theorem dX13_groupAt_32 : decode cX13_groupAt 32 = .ok (.goto 6, 3) := by decide +kernel
theorem dX13_groupAt_35 : decode cX13_groupAt 35 = .ok (.sipush 192, 3) := by decide +kernel
theorem dX13_groupAt_38 : decode cX13_groupAt 38 = .ok (.ireturn, 1) := by decide +kernel
set_option maxRecDepth 20000 in
theorem ggX13_groups_X13_cellMany : GoodIn wsX13_groups wsX13_cellMany := goodIn_r _ [7, 2, 27, 28, 29, 30, 31, 32, 33, 34, 35, 36, 37, 38, 39, 40, 41, 42, 43, 44, 45, 46, 47, 48, 49, 50, 51, 52, 53, 54, 55, 56, 57, 58, 59, 60, 61, 62, 63, 64, 65, 66, 67, 68, 69, 70, 71, 72, 73, 74] (by decide +kernel) (by decide +kernel)
set_option maxRecDepth 20000 in
theorem gX13_groups_X13_cellMany : GoodIn wsX13_groups (wsV RX13 251 RX13 yX13_cellMany wsX13_cellMany) := goodIn_app (goodIn_of _ (by decide +kernel)) ggX13_groups_X13_cellMany
set_option maxRecDepth 20000 in
theorem ggX13_groups_X13_isOf : GoodIn wsX13_groups wsX13_isOf := goodIn_r _ [11, 12, 13, 14, 15, 6, 16, 2, 17, 18, 19, 27, 28, 29, 30, 31, 32, 33, 34, 35, 36, 37, 38, 39, 40, 41, 42, 43, 44, 45, 46, 47, 48, 49, 50, 51, 52, 53, 54, 55, 56, 57, 58, 59, 60, 61, 62, 63, 64, 65, 66, 67, 68, 69, 70, 71, 72, 73, 74] (by decide +kernel) (by decide +kernel)
set_option maxRecDepth 20000 in
theorem gX13_groups_X13_isOf : GoodIn wsX13_groups (wsV RX13 330 RX13 yX13_isOf wsX13_isOf) := goodIn_app (goodIn_of _ (by decide +kernel)) ggX13_groups_X13_isOf
set_option maxRecDepth 20000 in
theorem ggX13_groups_X13_groupAt : GoodIn wsX13_groups wsX13_groupAt := goodIn_r _ [23, 1, 13, 14, 15, 6, 16, 2, 17, 18, 19, 8, 9, 10, 11, 12, 27, 28, 29, 30, 31, 32, 33, 34, 35, 36, 37, 38, 39, 40, 41, 42, 43, 44, 45, 46, 47, 48, 49, 50, 51, 52, 53, 54, 55, 56, 57, 58, 59, 60, 61, 62, 63, 64, 65, 66, 67, 68, 69, 70, 71, 72, 73, 74] (by decide +kernel) (by decide +kernel)
set_option maxRecDepth 20000 in
theorem gX13_groups_X13_groupAt : GoodIn wsX13_groups (wsV RX13 354 RX13 yX13_groupAt wsX13_groupAt) := goodIn_app (goodIn_of _ (by decide +kernel)) ggX13_groups_X13_groupAt
set_option maxRecDepth 20000 in
theorem ggX13_groups_X13_less : GoodIn wsX13_groups wsX13_less := goodIn_r _ [26] (by decide +kernel) (by decide +kernel)
set_option maxRecDepth 20000 in
theorem gX13_groups_X13_less : GoodIn wsX13_groups (va_wsS RX13 210 yX13_less wsX13_less) := goodIn_app (goodIn_of _ (by decide +kernel)) ggX13_groups_X13_less
theorem dX13_groups_0 : decode cX13_groups 0 = .ok (.iconst 0, 1) := by decide +kernel
theorem dX13_groups_1 : decode cX13_groups 1 = .ok (.istore_n 3, 1) := by decide +kernel
theorem dX13_groups_2 : decode cX13_groups 2 = .ok (.iload_n 3, 1) := by decide +kernel
theorem dX13_groups_3 : decode cX13_groups 3 = .ok (.sipush 192, 3) := by decide +kernel
theorem dX13_groups_6 : decode cX13_groups 6 = .ok (.if_icmp .ge 16, 3) := by decide +kernel
theorem dX13_groups_9 : decode cX13_groups 9 = .ok (.aload_n 0, 1) := by decide +kernel
theorem dX13_groups_10 : decode cX13_groups 10 = .ok (.getfield 45, 3) := by decide +kernel
theorem dX13_groups_13 : decode cX13_groups 13 = .ok (.iload_n 3, 1) := by decide +kernel
theorem dX13_groups_14 : decode cX13_groups 14 = .ok (.iload_n 3, 1) := by decide +kernel
theorem dX13_groups_15 : decode cX13_groups 15 = .ok (.iastore, 1) := by decide +kernel
theorem dX13_groups_16 : decode cX13_groups 16 = .ok (.iinc 3 1, 3) := by decide +kernel
theorem dX13_groups_19 : decode cX13_groups 19 = .ok (.goto (-17), 3) := by decide +kernel
theorem dX13_groups_22 : decode cX13_groups 22 = .ok (.iconst 1, 1) := by decide +kernel
theorem dX13_groups_23 : decode cX13_groups 23 = .ok (.istore_n 3, 1) := by decide +kernel
theorem dX13_groups_24 : decode cX13_groups 24 = .ok (.iload_n 3, 1) := by decide +kernel
theorem dX13_groups_25 : decode cX13_groups 25 = .ok (.ifCond .eq 182, 3) := by decide +kernel
theorem dX13_groups_28 : decode cX13_groups 28 = .ok (.iconst 0, 1) := by decide +kernel
theorem dX13_groups_29 : decode cX13_groups 29 = .ok (.istore_n 3, 1) := by decide +kernel
theorem dX13_groups_30 : decode cX13_groups 30 = .ok (.iconst 0, 1) := by decide +kernel
theorem dX13_groups_31 : decode cX13_groups 31 = .ok (.istore 4, 2) := by decide +kernel
theorem dX13_groups_33 : decode cX13_groups 33 = .ok (.iload 4, 2) := by decide +kernel
theorem dX13_groups_35 : decode cX13_groups 35 = .ok (.aload_n 0, 1) := by decide +kernel
theorem dX13_groups_36 : decode cX13_groups 36 = .ok (.invokevirtual 251, 3) := by decide +kernel
theorem dX13_groups_39 : decode cX13_groups 39 = .ok (.if_icmp .ge 165, 3) := by decide +kernel
theorem dX13_groups_42 : decode cX13_groups 42 = .ok (.iload 4, 2) := by decide +kernel
theorem dX13_groups_44 : decode cX13_groups 44 = .ok (.aload_n 0, 1) := by decide +kernel
theorem dX13_groups_45 : decode cX13_groups 45 = .ok (.getfield 20, 3) := by decide +kernel
theorem dX13_groups_48 : decode cX13_groups 48 = .ok (.iconst 0, 1) := by decide +kernel
theorem dX13_groups_49 : decode cX13_groups 49 = .ok (.iaload, 1) := by decide +kernel
theorem dX13_groups_50 : decode cX13_groups 50 = .ok (.irem, 1) := by decide +kernel
theorem dX13_groups_51 : decode cX13_groups 51 = .ok (.istore 5, 2) := by decide +kernel
theorem dX13_groups_53 : decode cX13_groups 53 = .ok (.iload 4, 2) := by decide +kernel
theorem dX13_groups_55 : decode cX13_groups 55 = .ok (.aload_n 0, 1) := by decide +kernel
theorem dX13_groups_56 : decode cX13_groups 56 = .ok (.getfield 20, 3) := by decide +kernel
theorem dX13_groups_59 : decode cX13_groups 59 = .ok (.iconst 0, 1) := by decide +kernel
theorem dX13_groups_60 : decode cX13_groups 60 = .ok (.iaload, 1) := by decide +kernel
theorem dX13_groups_61 : decode cX13_groups 61 = .ok (.idiv, 1) := by decide +kernel
theorem dX13_groups_62 : decode cX13_groups 62 = .ok (.istore 6, 2) := by decide +kernel
theorem dX13_groups_64 : decode cX13_groups 64 = .ok (.aload_n 0, 1) := by decide +kernel
theorem dX13_groups_65 : decode cX13_groups 65 = .ok (.iload_n 1, 1) := by decide +kernel
theorem dX13_groups_66 : decode cX13_groups 66 = .ok (.iload 5, 2) := by decide +kernel
theorem dX13_groups_68 : decode cX13_groups 68 = .ok (.iload 6, 2) := by decide +kernel
theorem dX13_groups_70 : decode cX13_groups 70 = .ok (.invokevirtual 330, 3) := by decide +kernel
theorem dX13_groups_73 : decode cX13_groups 73 = .ok (.iload_n 2, 1) := by decide +kernel
theorem dX13_groups_74 : decode cX13_groups 74 = .ok (.if_icmp .eq 6, 3) := by decide +kernel
theorem dX13_groups_77 : decode cX13_groups 77 = .ok (.goto 121, 3) := by decide +kernel
theorem dX13_groups_80 : decode cX13_groups 80 = .ok (.aload_n 0, 1) := by decide +kernel
theorem dX13_groups_81 : decode cX13_groups 81 = .ok (.iload 5, 2) := by decide +kernel
theorem dX13_groups_83 : decode cX13_groups 83 = .ok (.iconst 1, 1) := by decide +kernel
theorem dX13_groups_84 : decode cX13_groups 84 = .ok (.isub, 1) := by decide +kernel
theorem dX13_groups_85 : decode cX13_groups 85 = .ok (.iload 6, 2) := by decide +kernel
theorem dX13_groups_87 : decode cX13_groups 87 = .ok (.iload_n 2, 1) := by decide +kernel
theorem dX13_groups_88 : decode cX13_groups 88 = .ok (.iload_n 1, 1) := by decide +kernel
theorem dX13_groups_89 : decode cX13_groups 89 = .ok (.invokevirtual 354, 3) := by decide +kernel
theorem dX13_groups_92 : decode cX13_groups 92 = .ok (.aload_n 0, 1) := by decide +kernel
theorem dX13_groups_93 : decode cX13_groups 93 = .ok (.iload 5, 2) := by decide +kernel
theorem dX13_groups_95 : decode cX13_groups 95 = .ok (.iconst 1, 1) := by decide +kernel
theorem dX13_groups_96 : decode cX13_groups 96 = .ok (.iadd, 1) := by decide +kernel
theorem dX13_groups_97 : decode cX13_groups 97 = .ok (.iload 6, 2) := by decide +kernel
theorem dX13_groups_99 : decode cX13_groups 99 = .ok (.iload_n 2, 1) := by decide +kernel
theorem dX13_groups_100 : decode cX13_groups 100 = .ok (.iload_n 1, 1) := by decide +kernel
theorem dX13_groups_101 : decode cX13_groups 101 = .ok (.invokevirtual 354, 3) := by decide +kernel
theorem dX13_groups_104 : decode cX13_groups 104 = .ok (.invokestatic 210, 3) := by decide +kernel
theorem dX13_groups_107 : decode cX13_groups 107 = .ok (.aload_n 0, 1) := by decide +kernel
theorem dX13_groups_108 : decode cX13_groups 108 = .ok (.iload 5, 2) := by decide +kernel
theorem dX13_groups_110 : decode cX13_groups 110 = .ok (.iload 6, 2) := by decide +kernel
theorem dX13_groups_112 : decode cX13_groups 112 = .ok (.iconst 1, 1) := by decide +kernel
theorem dX13_groups_113 : decode cX13_groups 113 = .ok (.isub, 1) := by decide +kernel
theorem dX13_groups_114 : decode cX13_groups 114 = .ok (.iload_n 2, 1) := by decide +kernel
theorem dX13_groups_115 : decode cX13_groups 115 = .ok (.iload_n 1, 1) := by decide +kernel
theorem dX13_groups_116 : decode cX13_groups 116 = .ok (.invokevirtual 354, 3) := by decide +kernel
theorem dX13_groups_119 : decode cX13_groups 119 = .ok (.aload_n 0, 1) := by decide +kernel
theorem dX13_groups_120 : decode cX13_groups 120 = .ok (.iload 5, 2) := by decide +kernel
theorem dX13_groups_122 : decode cX13_groups 122 = .ok (.iload 6, 2) := by decide +kernel
theorem dX13_groups_124 : decode cX13_groups 124 = .ok (.iconst 1, 1) := by decide +kernel
theorem dX13_groups_125 : decode cX13_groups 125 = .ok (.iadd, 1) := by decide +kernel
theorem dX13_groups_126 : decode cX13_groups 126 = .ok (.iload_n 2, 1) := by decide +kernel
theorem dX13_groups_127 : decode cX13_groups 127 = .ok (.iload_n 1, 1) := by decide +kernel
theorem dX13_groups_128 : decode cX13_groups 128 = .ok (.invokevirtual 354, 3) := by decide +kernel
theorem dX13_groups_131 : decode cX13_groups 131 = .ok (.invokestatic 210, 3) := by decide +kernel
theorem dX13_groups_134 : decode cX13_groups 134 = .ok (.invokestatic 210, 3) := by decide +kernel
theorem dX13_groups_137 : decode cX13_groups 137 = .ok (.istore 7, 2) := by decide +kernel
theorem dX13_groups_139 : decode cX13_groups 139 = .ok (.iload_n 3, 1) := by decide +kernel
theorem dX13_groups_140 : decode cX13_groups 140 = .ok (.ifCond .ne 21, 3) := by decide +kernel
theorem dX13_groups_143 : decode cX13_groups 143 = .ok (.iload 7, 2) := by decide +kernel
theorem dX13_groups_145 : decode cX13_groups 145 = .ok (.aload_n 0, 1) := by decide +kernel
theorem dX13_groups_146 : decode cX13_groups 146 = .ok (.getfield 45, 3) := by decide +kernel
theorem dX13_groups_149 : decode cX13_groups 149 = .ok (.bipush 16, 2) := by decide +kernel
theorem dX13_groups_151 : decode cX13_groups 151 = .ok (.iload 6, 2) := by decide +kernel
theorem dX13_groups_153 : decode cX13_groups 153 = .ok (.imul, 1) := by decide +kernel
theorem dX13_groups_154 : decode cX13_groups 154 = .ok (.iload 5, 2) := by decide +kernel
theorem dX13_groups_156 : decode cX13_groups 156 = .ok (.iadd, 1) := by decide +kernel
theorem dX13_groups_157 : decode cX13_groups 157 = .ok (.iaload, 1) := by decide +kernel
theorem dX13_groups_158 : decode cX13_groups 158 = .ok (.if_icmp .ge 7, 3) := by decide +kernel
theorem dX13_groups_161 : decode cX13_groups 161 = .ok (.iconst 1, 1) := by decide +kernel
theorem dX13_groups_162 : decode cX13_groups 162 = .ok (.goto 4, 3) := by decide +kernel
theorem dX13_groups_165 : decode cX13_groups 165 = .ok (.iconst 0, 1) := by decide +kernel
theorem dX13_groups_166 : decode cX13_groups 166 = .ok (.istore_n 3, 1) := by decide +kernel
theorem dX13_groups_167 : decode cX13_groups 167 = .ok (.aload_n 0, 1) := by decide +kernel
theorem dX13_groups_168 : decode cX13_groups 168 = .ok (.getfield 45, 3) := by decide +kernel
theorem dX13_groups_171 : decode cX13_groups 171 = .ok (.bipush 16, 2) := by decide +kernel
theorem dX13_groups_173 : decode cX13_groups 173 = .ok (.iload 6, 2) := by decide +kernel
theorem dX13_groups_175 : decode cX13_groups 175 = .ok (.imul, 1) := by decide +kernel
theorem dX13_groups_176 : decode cX13_groups 176 = .ok (.iload 5, 2) := by decide +kernel
theorem dX13_groups_178 : decode cX13_groups 178 = .ok (.iadd, 1) := by decide +kernel
theorem dX13_groups_179 : decode cX13_groups 179 = .ok (.iload 7, 2) := by decide +kernel
theorem dX13_groups_181 : decode cX13_groups 181 = .ok (.aload_n 0, 1) := by decide +kernel
theorem dX13_groups_182 : decode cX13_groups 182 = .ok (.getfield 45, 3) := by decide +kernel
theorem dX13_groups_185 : decode cX13_groups 185 = .ok (.bipush 16, 2) := by decide +kernel
theorem dX13_groups_187 : decode cX13_groups 187 = .ok (.iload 6, 2) := by decide +kernel
theorem dX13_groups_189 : decode cX13_groups 189 = .ok (.imul, 1) := by decide +kernel
theorem dX13_groups_190 : decode cX13_groups 190 = .ok (.iload 5, 2) := by decide +kernel
theorem dX13_groups_192 : decode cX13_groups 192 = .ok (.iadd, 1) := by decide +kernel
theorem dX13_groups_193 : decode cX13_groups 193 = .ok (.iaload, 1) := by decide +kernel
theorem dX13_groups_194 : decode cX13_groups 194 = .ok (.invokestatic 210, 3) := by decide +kernel
theorem dX13_groups_197 : decode cX13_groups 197 = .ok (.iastore, 1) := by decide +kernel
theorem dX13_groups_198 : decode cX13_groups 198 = .ok (.iinc 4 1, 3) := by decide +kernel
theorem dX13_groups_201 : decode cX13_groups 201 = .ok (.goto (-168), 3) := by decide +kernel
theorem dX13_groups_204 : decode cX13_groups 204 = .ok (.goto (-180), 3) := by decide +kernel
theorem dX13_groups_207 : decode cX13_groups 207 = .ok (.return_, 1) := by decide +kernel
set_option maxRecDepth 20000 in
theorem ggX13_parts_X13_isLayer : GoodIn wsX13_parts wsX13_isLayer := goodIn_r _ [7, 8, 9, 10, 6, 11, 47, 48, 49, 50, 51, 52, 53, 54, 55, 56, 57, 58, 59, 60, 61, 62, 63, 64, 65, 66, 67, 68, 69, 70, 71, 72, 73, 74, 75, 76, 77, 78, 79, 80, 81, 82, 83, 84, 85, 86, 87, 88, 89, 90, 91, 92, 93, 94] (by decide +kernel) (by decide +kernel)
set_option maxRecDepth 20000 in
theorem gX13_parts_X13_isLayer : GoodIn wsX13_parts (wsV RX13 327 RX13 yX13_isLayer wsX13_isLayer) := goodIn_app (goodIn_of _ (by decide +kernel)) ggX13_parts_X13_isLayer
set_option maxRecDepth 20000 in
theorem ggX13_parts_X13_goes : GoodIn wsX13_parts wsX13_goes := goodIn_r _ [15, 16, 17, 18, 6, 19, 47, 48, 49, 50, 51, 52, 53, 54, 55, 56, 57, 58, 59, 60, 61, 62, 63, 64, 65, 66, 67, 68, 69, 70, 71, 72, 73, 74, 75, 76, 77, 78, 79, 80, 81, 82, 83, 84, 85, 86, 87, 88, 89, 90, 91, 92, 93, 94] (by decide +kernel) (by decide +kernel)
set_option maxRecDepth 20000 in
theorem gX13_parts_X13_goes : GoodIn wsX13_parts (wsV RX13 103 RX13 yX13_goes wsX13_goes) := goodIn_app (goodIn_of _ (by decide +kernel)) ggX13_parts_X13_goes
set_option maxRecDepth 20000 in
theorem ggX13_parts_X13_groups : GoodIn wsX13_parts wsX13_groups := goodIn_r _ [23, 2, 8, 24, 25, 26, 6, 27, 28, 29, 30, 31, 1, 32, 33, 34, 35, 9, 10, 11, 36, 37, 38, 39, 40, 41, 42, 47, 48, 49, 50, 51, 52, 53, 54, 55, 56, 57, 58, 59, 60, 61, 62, 63, 64, 65, 66, 67, 68, 69, 70, 71, 72, 73, 74, 75, 76, 77, 78, 79, 80, 81, 82, 83, 84, 85, 86, 87, 88, 89, 90, 91, 92, 93, 94] (by decide +kernel) (by decide +kernel)
set_option maxRecDepth 20000 in
theorem gX13_parts_X13_groups : GoodIn wsX13_parts (wsV RX13 358 RX13 yX13_groups wsX13_groups) := goodIn_app (goodIn_of _ (by decide +kernel)) ggX13_parts_X13_groups
set_option maxRecDepth 20000 in
theorem ggX13_parts_X13_cellMany : GoodIn wsX13_parts wsX13_cellMany := goodIn_r _ [27, 8, 47, 48, 49, 50, 51, 52, 53, 54, 55, 56, 57, 58, 59, 60, 61, 62, 63, 64, 65, 66, 67, 68, 69, 70, 71, 72, 73, 74, 75, 76, 77, 78, 79, 80, 81, 82, 83, 84, 85, 86, 87, 88, 89, 90, 91, 92, 93, 94] (by decide +kernel) (by decide +kernel)
set_option maxRecDepth 20000 in
theorem gX13_parts_X13_cellMany : GoodIn wsX13_parts (wsV RX13 251 RX13 yX13_cellMany wsX13_cellMany) := goodIn_app (goodIn_of _ (by decide +kernel)) ggX13_parts_X13_cellMany
set_option maxRecDepth 20000 in
theorem ggX13_parts_X13_cellAt : GoodIn wsX13_parts wsX13_cellAt := goodIn_r _ [46, 8, 47, 48, 49, 50, 51, 52, 53, 54, 55, 56, 57, 58, 59, 60, 61, 62, 63, 64, 65, 66, 67, 68, 69, 70, 71, 72, 73, 74, 75, 76, 77, 78, 79, 80, 81, 82, 83, 84, 85, 86, 87, 88, 89, 90, 91, 92, 93, 94] (by decide +kernel) (by decide +kernel)
set_option maxRecDepth 20000 in
theorem gX13_parts_X13_cellAt : GoodIn wsX13_parts (wsV RX13 255 RX13 yX13_cellAt wsX13_cellAt) := goodIn_app (goodIn_of _ (by decide +kernel)) ggX13_parts_X13_cellAt
set_option maxRecDepth 20000 in
theorem ggX13_parts_X13_truth : GoodIn wsX13_parts wsX13_truth := goodIn_r _ [19] (by decide +kernel) (by decide +kernel)
set_option maxRecDepth 20000 in
theorem gX13_parts_X13_truth : GoodIn wsX13_parts (va_wsS RX13 96 yX13_truth wsX13_truth) := goodIn_app (goodIn_of _ (by decide +kernel)) ggX13_parts_X13_truth
theorem dX13_parts_0 : decode cX13_parts 0 = .ok (.aload_n 0, 1) := by decide +kernel
theorem dX13_parts_1 : decode cX13_parts 1 = .ok (.aload_n 0, 1) := by decide +kernel
theorem dX13_parts_2 : decode cX13_parts 2 = .ok (.iload_n 1, 1) := by decide +kernel
theorem dX13_parts_3 : decode cX13_parts 3 = .ok (.invokevirtual 327, 3) := by decide +kernel
theorem dX13_parts_6 : decode cX13_parts 6 = .ok (.invokevirtual 103, 3) := by decide +kernel
theorem dX13_parts_9 : decode cX13_parts 9 = .ok (.ifCond .ne 5, 3) := by decide +kernel
theorem dX13_parts_12 : decode cX13_parts 12 = .ok (.iconst 0, 1) := by decide +kernel
theorem dX13_parts_13 : decode cX13_parts 13 = .ok (.ireturn, 1) := by decide +kernel
theorem dX13_parts_14 : decode cX13_parts 14 = .ok (.aload_n 0, 1) := by decide +kernel
theorem dX13_parts_15 : decode cX13_parts 15 = .ok (.iload_n 1, 1) := by decide +kernel
theorem dX13_parts_16 : decode cX13_parts 16 = .ok (.iconst 1, 1) := by decide +kernel
theorem dX13_parts_17 : decode cX13_parts 17 = .ok (.invokevirtual 358, 3) := by decide +kernel
theorem dX13_parts_20 : decode cX13_parts 20 = .ok (.iconst 0, 1) := by decide +kernel
theorem dX13_parts_21 : decode cX13_parts 21 = .ok (.istore_n 2, 1) := by decide +kernel
theorem dX13_parts_22 : decode cX13_parts 22 = .ok (.iconst 0, 1) := by decide +kernel
theorem dX13_parts_23 : decode cX13_parts 23 = .ok (.istore_n 3, 1) := by decide +kernel
theorem dX13_parts_24 : decode cX13_parts 24 = .ok (.iload_n 3, 1) := by decide +kernel
theorem dX13_parts_25 : decode cX13_parts 25 = .ok (.aload_n 0, 1) := by decide +kernel
theorem dX13_parts_26 : decode cX13_parts 26 = .ok (.invokevirtual 251, 3) := by decide +kernel
theorem dX13_parts_29 : decode cX13_parts 29 = .ok (.if_icmp .ge 52, 3) := by decide +kernel
theorem dX13_parts_32 : decode cX13_parts 32 = .ok (.iload_n 2, 1) := by decide +kernel
theorem dX13_parts_33 : decode cX13_parts 33 = .ok (.aload_n 0, 1) := by decide +kernel
theorem dX13_parts_34 : decode cX13_parts 34 = .ok (.getfield 29, 3) := by decide +kernel
theorem dX13_parts_37 : decode cX13_parts 37 = .ok (.aload_n 0, 1) := by decide +kernel
theorem dX13_parts_38 : decode cX13_parts 38 = .ok (.iload_n 3, 1) := by decide +kernel
theorem dX13_parts_39 : decode cX13_parts 39 = .ok (.invokevirtual 255, 3) := by decide +kernel
theorem dX13_parts_42 : decode cX13_parts 42 = .ok (.iaload, 1) := by decide +kernel
theorem dX13_parts_43 : decode cX13_parts 43 = .ok (.iload_n 1, 1) := by decide +kernel
theorem dX13_parts_44 : decode cX13_parts 44 = .ok (.if_icmp .lt 25, 3) := by decide +kernel
theorem dX13_parts_47 : decode cX13_parts 47 = .ok (.aload_n 0, 1) := by decide +kernel
theorem dX13_parts_48 : decode cX13_parts 48 = .ok (.getfield 45, 3) := by decide +kernel
theorem dX13_parts_51 : decode cX13_parts 51 = .ok (.aload_n 0, 1) := by decide +kernel
theorem dX13_parts_52 : decode cX13_parts 52 = .ok (.iload_n 3, 1) := by decide +kernel
theorem dX13_parts_53 : decode cX13_parts 53 = .ok (.invokevirtual 255, 3) := by decide +kernel
theorem dX13_parts_56 : decode cX13_parts 56 = .ok (.iaload, 1) := by decide +kernel
theorem dX13_parts_57 : decode cX13_parts 57 = .ok (.aload_n 0, 1) := by decide +kernel
theorem dX13_parts_58 : decode cX13_parts 58 = .ok (.iload_n 3, 1) := by decide +kernel
theorem dX13_parts_59 : decode cX13_parts 59 = .ok (.invokevirtual 255, 3) := by decide +kernel
theorem dX13_parts_62 : decode cX13_parts 62 = .ok (.if_icmp .ne 7, 3) := by decide +kernel
theorem dX13_parts_65 : decode cX13_parts 65 = .ok (.iconst 1, 1) := by decide +kernel
theorem dX13_parts_66 : decode cX13_parts 66 = .ok (.goto 4, 3) := by decide +kernel
theorem dX13_parts_69 : decode cX13_parts 69 = .ok (.iconst 0, 1) := by decide +kernel
theorem dX13_parts_70 : decode cX13_parts 70 = .ok (.invokestatic 96, 3) := by decide +kernel
theorem dX13_parts_73 : decode cX13_parts 73 = .ok (.iadd, 1) := by decide +kernel
theorem dX13_parts_74 : decode cX13_parts 74 = .ok (.istore_n 2, 1) := by decide +kernel
theorem dX13_parts_75 : decode cX13_parts 75 = .ok (.iinc 3 1, 3) := by decide +kernel
theorem dX13_parts_78 : decode cX13_parts 78 = .ok (.goto (-54), 3) := by decide +kernel
theorem dX13_parts_81 : decode cX13_parts 81 = .ok (.iload_n 2, 1) := by decide +kernel
theorem dX13_parts_82 : decode cX13_parts 82 = .ok (.ireturn, 1) := by decide +kernel
theorem dX13_isEdge_0 : decode cX13_isEdge 0 = .ok (.iload_n 1, 1) := by decide +kernel
theorem dX13_isEdge_1 : decode cX13_isEdge 1 = .ok (.ifCond .eq 31, 3) := by decide +kernel
theorem dX13_isEdge_4 : decode cX13_isEdge 4 = .ok (.iload_n 2, 1) := by decide +kernel
theorem dX13_isEdge_5 : decode cX13_isEdge 5 = .ok (.ifCond .eq 27, 3) := by decide +kernel
theorem dX13_isEdge_8 : decode cX13_isEdge 8 = .ok (.iload_n 1, 1) := by decide +kernel
theorem dX13_isEdge_9 : decode cX13_isEdge 9 = .ok (.aload_n 0, 1) := by decide +kernel
theorem dX13_isEdge_10 : decode cX13_isEdge 10 = .ok (.getfield 20, 3) := by decide +kernel
theorem dX13_isEdge_13 : decode cX13_isEdge 13 = .ok (.iconst 0, 1) := by decide +kernel
theorem dX13_isEdge_14 : decode cX13_isEdge 14 = .ok (.iaload, 1) := by decide +kernel
theorem dX13_isEdge_15 : decode cX13_isEdge 15 = .ok (.iconst 1, 1) := by decide +kernel
theorem dX13_isEdge_16 : decode cX13_isEdge 16 = .ok (.isub, 1) := by decide +kernel
theorem dX13_isEdge_17 : decode cX13_isEdge 17 = .ok (.if_icmp .eq 15, 3) := by decide +kernel
theorem dX13_isEdge_20 : decode cX13_isEdge 20 = .ok (.iload_n 2, 1) := by decide +kernel
theorem dX13_isEdge_21 : decode cX13_isEdge 21 = .ok (.aload_n 0, 1) := by decide +kernel
theorem dX13_isEdge_22 : decode cX13_isEdge 22 = .ok (.getfield 20, 3) := by decide +kernel
theorem dX13_isEdge_25 : decode cX13_isEdge 25 = .ok (.iconst 1, 1) := by decide +kernel
theorem dX13_isEdge_26 : decode cX13_isEdge 26 = .ok (.iaload, 1) := by decide +kernel
theorem dX13_isEdge_27 : decode cX13_isEdge 27 = .ok (.iconst 1, 1) := by decide +kernel
theorem dX13_isEdge_28 : decode cX13_isEdge 28 = .ok (.isub, 1) := by decide +kernel
theorem dX13_isEdge_29 : decode cX13_isEdge 29 = .ok (.if_icmp .ne 7, 3) := by decide +kernel
theorem dX13_isEdge_32 : decode cX13_isEdge 32 = .ok (.iconst 1, 1) := by decide +kernel
theorem dX13_isEdge_33 : decode cX13_isEdge 33 = .ok (.goto 4, 3) := by decide +kernel
theorem dX13_isEdge_36 : decode cX13_isEdge 36 = .ok (.iconst 0, 1) := by decide +kernel
theorem dX13_isEdge_37 : decode cX13_isEdge 37 = .ok (.ireturn, 1) := by decide +kernel
set_option maxRecDepth 20000 in
theorem ggX13_hollows_X13_isLayer : GoodIn wsX13_hollows wsX13_isLayer := goodIn_r _ [8, 9, 10, 11, 7, 12, 52, 53, 54, 55, 56, 57, 58, 59, 60, 61, 62, 63, 64, 65, 66, 67, 68, 69, 70, 71, 72, 73, 74, 75, 76, 77, 78, 79, 80, 81, 82, 83, 84, 85, 86, 87, 88, 89, 90, 91, 92, 93, 94, 95, 96, 97, 98, 99] (by decide +kernel) (by decide +kernel)
set_option maxRecDepth 20000 in
theorem gX13_hollows_X13_isLayer : GoodIn wsX13_hollows (wsV RX13 327 RX13 yX13_isLayer wsX13_isLayer) := goodIn_app (goodIn_of _ (by decide +kernel)) ggX13_hollows_X13_isLayer
set_option maxRecDepth 20000 in
theorem ggX13_hollows_X13_goes : GoodIn wsX13_hollows wsX13_goes := goodIn_r _ [16, 17, 18, 19, 7, 20, 52, 53, 54, 55, 56, 57, 58, 59, 60, 61, 62, 63, 64, 65, 66, 67, 68, 69, 70, 71, 72, 73, 74, 75, 76, 77, 78, 79, 80, 81, 82, 83, 84, 85, 86, 87, 88, 89, 90, 91, 92, 93, 94, 95, 96, 97, 98, 99] (by decide +kernel) (by decide +kernel)
set_option maxRecDepth 20000 in
theorem gX13_hollows_X13_goes : GoodIn wsX13_hollows (wsV RX13 103 RX13 yX13_goes wsX13_goes) := goodIn_app (goodIn_of _ (by decide +kernel)) ggX13_hollows_X13_goes
set_option maxRecDepth 20000 in
theorem ggX13_hollows_X13_groups : GoodIn wsX13_hollows wsX13_groups := goodIn_r _ [24, 3, 9, 25, 26, 27, 7, 28, 29, 30, 31, 32, 2, 33, 34, 35, 36, 10, 11, 12, 37, 38, 39, 40, 41, 42, 43, 52, 53, 54, 55, 56, 57, 58, 59, 60, 61, 62, 63, 64, 65, 66, 67, 68, 69, 70, 71, 72, 73, 74, 75, 76, 77, 78, 79, 80, 81, 82, 83, 84, 85, 86, 87, 88, 89, 90, 91, 92, 93, 94, 95, 96, 97, 98, 99] (by decide +kernel) (by decide +kernel)
set_option maxRecDepth 20000 in
theorem gX13_hollows_X13_groups : GoodIn wsX13_hollows (wsV RX13 358 RX13 yX13_groups wsX13_groups) := goodIn_app (goodIn_of _ (by decide +kernel)) ggX13_hollows_X13_groups
set_option maxRecDepth 20000 in
theorem ggX13_hollows_X13_cellMany : GoodIn wsX13_hollows wsX13_cellMany := goodIn_r _ [28, 9, 52, 53, 54, 55, 56, 57, 58, 59, 60, 61, 62, 63, 64, 65, 66, 67, 68, 69, 70, 71, 72, 73, 74, 75, 76, 77, 78, 79, 80, 81, 82, 83, 84, 85, 86, 87, 88, 89, 90, 91, 92, 93, 94, 95, 96, 97, 98, 99] (by decide +kernel) (by decide +kernel)
set_option maxRecDepth 20000 in
theorem gX13_hollows_X13_cellMany : GoodIn wsX13_hollows (wsV RX13 251 RX13 yX13_cellMany wsX13_cellMany) := goodIn_app (goodIn_of _ (by decide +kernel)) ggX13_hollows_X13_cellMany
set_option maxRecDepth 20000 in
theorem ggX13_hollows_X13_cellAt : GoodIn wsX13_hollows wsX13_cellAt := goodIn_r _ [47, 9, 52, 53, 54, 55, 56, 57, 58, 59, 60, 61, 62, 63, 64, 65, 66, 67, 68, 69, 70, 71, 72, 73, 74, 75, 76, 77, 78, 79, 80, 81, 82, 83, 84, 85, 86, 87, 88, 89, 90, 91, 92, 93, 94, 95, 96, 97, 98, 99] (by decide +kernel) (by decide +kernel)
set_option maxRecDepth 20000 in
theorem gX13_hollows_X13_cellAt : GoodIn wsX13_hollows (wsV RX13 255 RX13 yX13_cellAt wsX13_cellAt) := goodIn_app (goodIn_of _ (by decide +kernel)) ggX13_hollows_X13_cellAt
set_option maxRecDepth 20000 in
theorem ggX13_hollows_X13_isEdge : GoodIn wsX13_hollows wsX13_isEdge := goodIn_r _ [51, 9, 52, 53, 54, 55, 56, 57, 58, 59, 60, 61, 62, 63, 64, 65, 66, 67, 68, 69, 70, 71, 72, 73, 74, 75, 76, 77, 78, 79, 80, 81, 82, 83, 84, 85, 86, 87, 88, 89, 90, 91, 92, 93, 94, 95, 96, 97, 98, 99] (by decide +kernel) (by decide +kernel)
set_option maxRecDepth 20000 in
theorem gX13_hollows_X13_isEdge : GoodIn wsX13_hollows (wsV RX13 362 RX13 yX13_isEdge wsX13_isEdge) := goodIn_app (goodIn_of _ (by decide +kernel)) ggX13_hollows_X13_isEdge
set_option maxRecDepth 20000 in
theorem ggX13_hollows_X13_truth : GoodIn wsX13_hollows wsX13_truth := goodIn_r _ [20] (by decide +kernel) (by decide +kernel)
set_option maxRecDepth 20000 in
theorem gX13_hollows_X13_truth : GoodIn wsX13_hollows (va_wsS RX13 96 yX13_truth wsX13_truth) := goodIn_app (goodIn_of _ (by decide +kernel)) ggX13_hollows_X13_truth
theorem dX13_hollows_0 : decode cX13_hollows 0 = .ok (.aload_n 0, 1) := by decide +kernel
theorem dX13_hollows_1 : decode cX13_hollows 1 = .ok (.aload_n 0, 1) := by decide +kernel
theorem dX13_hollows_2 : decode cX13_hollows 2 = .ok (.iload_n 1, 1) := by decide +kernel
theorem dX13_hollows_3 : decode cX13_hollows 3 = .ok (.invokevirtual 327, 3) := by decide +kernel
theorem dX13_hollows_6 : decode cX13_hollows 6 = .ok (.invokevirtual 103, 3) := by decide +kernel
theorem dX13_hollows_9 : decode cX13_hollows 9 = .ok (.ifCond .ne 5, 3) := by decide +kernel
theorem dX13_hollows_12 : decode cX13_hollows 12 = .ok (.iconst 0, 1) := by decide +kernel
theorem dX13_hollows_13 : decode cX13_hollows 13 = .ok (.ireturn, 1) := by decide +kernel
theorem dX13_hollows_14 : decode cX13_hollows 14 = .ok (.aload_n 0, 1) := by decide +kernel
theorem dX13_hollows_15 : decode cX13_hollows 15 = .ok (.iload_n 1, 1) := by decide +kernel
theorem dX13_hollows_16 : decode cX13_hollows 16 = .ok (.iconst 0, 1) := by decide +kernel
theorem dX13_hollows_17 : decode cX13_hollows 17 = .ok (.invokevirtual 358, 3) := by decide +kernel
theorem dX13_hollows_20 : decode cX13_hollows 20 = .ok (.iconst 0, 1) := by decide +kernel
theorem dX13_hollows_21 : decode cX13_hollows 21 = .ok (.istore_n 2, 1) := by decide +kernel
theorem dX13_hollows_22 : decode cX13_hollows 22 = .ok (.iload_n 2, 1) := by decide +kernel
theorem dX13_hollows_23 : decode cX13_hollows 23 = .ok (.sipush 192, 3) := by decide +kernel
theorem dX13_hollows_26 : decode cX13_hollows 26 = .ok (.if_icmp .ge 16, 3) := by decide +kernel
theorem dX13_hollows_29 : decode cX13_hollows 29 = .ok (.aload_n 0, 1) := by decide +kernel
theorem dX13_hollows_30 : decode cX13_hollows 30 = .ok (.getfield 35, 3) := by decide +kernel
theorem dX13_hollows_33 : decode cX13_hollows 33 = .ok (.iload_n 2, 1) := by decide +kernel
theorem dX13_hollows_34 : decode cX13_hollows 34 = .ok (.iconst 0, 1) := by decide +kernel
theorem dX13_hollows_35 : decode cX13_hollows 35 = .ok (.bastore, 1) := by decide +kernel
theorem dX13_hollows_36 : decode cX13_hollows 36 = .ok (.iinc 2 1, 3) := by decide +kernel
theorem dX13_hollows_39 : decode cX13_hollows 39 = .ok (.goto (-17), 3) := by decide +kernel
theorem dX13_hollows_42 : decode cX13_hollows 42 = .ok (.iconst 0, 1) := by decide +kernel
theorem dX13_hollows_43 : decode cX13_hollows 43 = .ok (.istore_n 2, 1) := by decide +kernel
theorem dX13_hollows_44 : decode cX13_hollows 44 = .ok (.iload_n 2, 1) := by decide +kernel
theorem dX13_hollows_45 : decode cX13_hollows 45 = .ok (.aload_n 0, 1) := by decide +kernel
theorem dX13_hollows_46 : decode cX13_hollows 46 = .ok (.invokevirtual 251, 3) := by decide +kernel
theorem dX13_hollows_49 : decode cX13_hollows 49 = .ok (.if_icmp .ge 52, 3) := by decide +kernel
theorem dX13_hollows_52 : decode cX13_hollows 52 = .ok (.aload_n 0, 1) := by decide +kernel
theorem dX13_hollows_53 : decode cX13_hollows 53 = .ok (.iload_n 2, 1) := by decide +kernel
theorem dX13_hollows_54 : decode cX13_hollows 54 = .ok (.invokevirtual 255, 3) := by decide +kernel
theorem dX13_hollows_57 : decode cX13_hollows 57 = .ok (.istore_n 3, 1) := by decide +kernel
theorem dX13_hollows_58 : decode cX13_hollows 58 = .ok (.aload_n 0, 1) := by decide +kernel
theorem dX13_hollows_59 : decode cX13_hollows 59 = .ok (.getfield 29, 3) := by decide +kernel
theorem dX13_hollows_62 : decode cX13_hollows 62 = .ok (.iload_n 3, 1) := by decide +kernel
theorem dX13_hollows_63 : decode cX13_hollows 63 = .ok (.iaload, 1) := by decide +kernel
theorem dX13_hollows_64 : decode cX13_hollows 64 = .ok (.iload_n 1, 1) := by decide +kernel
theorem dX13_hollows_65 : decode cX13_hollows 65 = .ok (.if_icmp .ge 30, 3) := by decide +kernel
theorem dX13_hollows_68 : decode cX13_hollows 68 = .ok (.aload_n 0, 1) := by decide +kernel
theorem dX13_hollows_69 : decode cX13_hollows 69 = .ok (.iload_n 3, 1) := by decide +kernel
theorem dX13_hollows_70 : decode cX13_hollows 70 = .ok (.bipush 16, 2) := by decide +kernel
theorem dX13_hollows_72 : decode cX13_hollows 72 = .ok (.irem, 1) := by decide +kernel
theorem dX13_hollows_73 : decode cX13_hollows 73 = .ok (.iload_n 3, 1) := by decide +kernel
theorem dX13_hollows_74 : decode cX13_hollows 74 = .ok (.bipush 16, 2) := by decide +kernel
theorem dX13_hollows_76 : decode cX13_hollows 76 = .ok (.idiv, 1) := by decide +kernel
theorem dX13_hollows_77 : decode cX13_hollows 77 = .ok (.invokevirtual 362, 3) := by decide +kernel
theorem dX13_hollows_80 : decode cX13_hollows 80 = .ok (.ifCond .eq 15, 3) := by decide +kernel
theorem dX13_hollows_83 : decode cX13_hollows 83 = .ok (.aload_n 0, 1) := by decide +kernel
theorem dX13_hollows_84 : decode cX13_hollows 84 = .ok (.getfield 35, 3) := by decide +kernel
theorem dX13_hollows_87 : decode cX13_hollows 87 = .ok (.aload_n 0, 1) := by decide +kernel
theorem dX13_hollows_88 : decode cX13_hollows 88 = .ok (.getfield 45, 3) := by decide +kernel
theorem dX13_hollows_91 : decode cX13_hollows 91 = .ok (.iload_n 3, 1) := by decide +kernel
theorem dX13_hollows_92 : decode cX13_hollows 92 = .ok (.iaload, 1) := by decide +kernel
theorem dX13_hollows_93 : decode cX13_hollows 93 = .ok (.iconst 1, 1) := by decide +kernel
theorem dX13_hollows_94 : decode cX13_hollows 94 = .ok (.bastore, 1) := by decide +kernel
theorem dX13_hollows_95 : decode cX13_hollows 95 = .ok (.iinc 2 1, 3) := by decide +kernel
theorem dX13_hollows_98 : decode cX13_hollows 98 = .ok (.goto (-54), 3) := by decide +kernel
theorem dX13_hollows_101 : decode cX13_hollows 101 = .ok (.iconst 0, 1) := by decide +kernel
theorem dX13_hollows_102 : decode cX13_hollows 102 = .ok (.istore_n 2, 1) := by decide +kernel
theorem dX13_hollows_103 : decode cX13_hollows 103 = .ok (.iconst 0, 1) := by decide +kernel
theorem dX13_hollows_104 : decode cX13_hollows 104 = .ok (.istore_n 3, 1) := by decide +kernel
theorem dX13_hollows_105 : decode cX13_hollows 105 = .ok (.iload_n 3, 1) := by decide +kernel
theorem dX13_hollows_106 : decode cX13_hollows 106 = .ok (.aload_n 0, 1) := by decide +kernel
theorem dX13_hollows_107 : decode cX13_hollows 107 = .ok (.invokevirtual 251, 3) := by decide +kernel
theorem dX13_hollows_110 : decode cX13_hollows 110 = .ok (.if_icmp .ge 65, 3) := by decide +kernel
theorem dX13_hollows_113 : decode cX13_hollows 113 = .ok (.iload_n 2, 1) := by decide +kernel
theorem dX13_hollows_114 : decode cX13_hollows 114 = .ok (.aload_n 0, 1) := by decide +kernel
theorem dX13_hollows_115 : decode cX13_hollows 115 = .ok (.getfield 29, 3) := by decide +kernel
theorem dX13_hollows_118 : decode cX13_hollows 118 = .ok (.aload_n 0, 1) := by decide +kernel
theorem dX13_hollows_119 : decode cX13_hollows 119 = .ok (.iload_n 3, 1) := by decide +kernel
theorem dX13_hollows_120 : decode cX13_hollows 120 = .ok (.invokevirtual 255, 3) := by decide +kernel
theorem dX13_hollows_123 : decode cX13_hollows 123 = .ok (.iaload, 1) := by decide +kernel
theorem dX13_hollows_124 : decode cX13_hollows 124 = .ok (.iload_n 1, 1) := by decide +kernel
theorem dX13_hollows_125 : decode cX13_hollows 125 = .ok (.if_icmp .ge 38, 3) := by decide +kernel
theorem dX13_hollows_128 : decode cX13_hollows 128 = .ok (.aload_n 0, 1) := by decide +kernel
theorem dX13_hollows_129 : decode cX13_hollows 129 = .ok (.getfield 45, 3) := by decide +kernel
theorem dX13_hollows_132 : decode cX13_hollows 132 = .ok (.aload_n 0, 1) := by decide +kernel
theorem dX13_hollows_133 : decode cX13_hollows 133 = .ok (.iload_n 3, 1) := by decide +kernel
theorem dX13_hollows_134 : decode cX13_hollows 134 = .ok (.invokevirtual 255, 3) := by decide +kernel
theorem dX13_hollows_137 : decode cX13_hollows 137 = .ok (.iaload, 1) := by decide +kernel
theorem dX13_hollows_138 : decode cX13_hollows 138 = .ok (.aload_n 0, 1) := by decide +kernel
theorem dX13_hollows_139 : decode cX13_hollows 139 = .ok (.iload_n 3, 1) := by decide +kernel
theorem dX13_hollows_140 : decode cX13_hollows 140 = .ok (.invokevirtual 255, 3) := by decide +kernel
theorem dX13_hollows_143 : decode cX13_hollows 143 = .ok (.if_icmp .ne 20, 3) := by decide +kernel
theorem dX13_hollows_146 : decode cX13_hollows 146 = .ok (.aload_n 0, 1) := by decide +kernel
theorem dX13_hollows_147 : decode cX13_hollows 147 = .ok (.getfield 35, 3) := by decide +kernel
theorem dX13_hollows_150 : decode cX13_hollows 150 = .ok (.aload_n 0, 1) := by decide +kernel
theorem dX13_hollows_151 : decode cX13_hollows 151 = .ok (.iload_n 3, 1) := by decide +kernel
theorem dX13_hollows_152 : decode cX13_hollows 152 = .ok (.invokevirtual 255, 3) := by decide +kernel
theorem dX13_hollows_155 : decode cX13_hollows 155 = .ok (.baload, 1) := by decide +kernel
theorem dX13_hollows_156 : decode cX13_hollows 156 = .ok (.ifCond .ne 7, 3) := by decide +kernel
theorem dX13_hollows_159 : decode cX13_hollows 159 = .ok (.iconst 1, 1) := by decide +kernel
theorem dX13_hollows_160 : decode cX13_hollows 160 = .ok (.goto 4, 3) := by decide +kernel
theorem dX13_hollows_163 : decode cX13_hollows 163 = .ok (.iconst 0, 1) := by decide +kernel
theorem dX13_hollows_164 : decode cX13_hollows 164 = .ok (.invokestatic 96, 3) := by decide +kernel
theorem dX13_hollows_167 : decode cX13_hollows 167 = .ok (.iadd, 1) := by decide +kernel
theorem dX13_hollows_168 : decode cX13_hollows 168 = .ok (.istore_n 2, 1) := by decide +kernel
theorem dX13_hollows_169 : decode cX13_hollows 169 = .ok (.iinc 3 1, 3) := by decide +kernel
theorem dX13_hollows_172 : decode cX13_hollows 172 = .ok (.goto (-67), 3) := by decide +kernel
theorem dX13_hollows_175 : decode cX13_hollows 175 = .ok (.iload_n 2, 1) := by decide +kernel
theorem dX13_hollows_176 : decode cX13_hollows 176 = .ok (.ireturn, 1) := by decide +kernel
set_option maxRecDepth 20000 in
theorem ggX13_keeps_X13_truth : GoodIn wsX13_keeps wsX13_truth := goodIn_r _ [10] (by decide +kernel) (by decide +kernel)
set_option maxRecDepth 20000 in
theorem gX13_keeps_X13_truth : GoodIn wsX13_keeps (va_wsS RX13 96 yX13_truth wsX13_truth) := goodIn_app (goodIn_of _ (by decide +kernel)) ggX13_keeps_X13_truth
theorem dX13_keeps_0 : decode cX13_keeps 0 = .ok (.iconst 0, 1) := by decide +kernel
theorem dX13_keeps_1 : decode cX13_keeps 1 = .ok (.istore_n 1, 1) := by decide +kernel
theorem dX13_keeps_2 : decode cX13_keeps 2 = .ok (.iconst 0, 1) := by decide +kernel
theorem dX13_keeps_3 : decode cX13_keeps 3 = .ok (.istore_n 2, 1) := by decide +kernel
theorem dX13_keeps_4 : decode cX13_keeps 4 = .ok (.iconst 0, 1) := by decide +kernel
theorem dX13_keeps_5 : decode cX13_keeps 5 = .ok (.istore_n 3, 1) := by decide +kernel
theorem dX13_keeps_6 : decode cX13_keeps 6 = .ok (.iload_n 3, 1) := by decide +kernel
theorem dX13_keeps_7 : decode cX13_keeps 7 = .ok (.sipush 192, 3) := by decide +kernel
theorem dX13_keeps_10 : decode cX13_keeps 10 = .ok (.if_icmp .ge 61, 3) := by decide +kernel
theorem dX13_keeps_13 : decode cX13_keeps 13 = .ok (.iload_n 1, 1) := by decide +kernel
theorem dX13_keeps_14 : decode cX13_keeps 14 = .ok (.aload_n 0, 1) := by decide +kernel
theorem dX13_keeps_15 : decode cX13_keeps 15 = .ok (.getfield 29, 3) := by decide +kernel
theorem dX13_keeps_18 : decode cX13_keeps 18 = .ok (.iload_n 3, 1) := by decide +kernel
theorem dX13_keeps_19 : decode cX13_keeps 19 = .ok (.iaload, 1) := by decide +kernel
theorem dX13_keeps_20 : decode cX13_keeps 20 = .ok (.aload_n 0, 1) := by decide +kernel
theorem dX13_keeps_21 : decode cX13_keeps 21 = .ok (.getfield 39, 3) := by decide +kernel
theorem dX13_keeps_24 : decode cX13_keeps 24 = .ok (.iload_n 3, 1) := by decide +kernel
theorem dX13_keeps_25 : decode cX13_keeps 25 = .ok (.iaload, 1) := by decide +kernel
theorem dX13_keeps_26 : decode cX13_keeps 26 = .ok (.if_icmp .eq 7, 3) := by decide +kernel
theorem dX13_keeps_29 : decode cX13_keeps 29 = .ok (.iconst 1, 1) := by decide +kernel
theorem dX13_keeps_30 : decode cX13_keeps 30 = .ok (.goto 4, 3) := by decide +kernel
theorem dX13_keeps_33 : decode cX13_keeps 33 = .ok (.iconst 0, 1) := by decide +kernel
theorem dX13_keeps_34 : decode cX13_keeps 34 = .ok (.invokestatic 96, 3) := by decide +kernel
theorem dX13_keeps_37 : decode cX13_keeps 37 = .ok (.iadd, 1) := by decide +kernel
theorem dX13_keeps_38 : decode cX13_keeps 38 = .ok (.istore_n 1, 1) := by decide +kernel
theorem dX13_keeps_39 : decode cX13_keeps 39 = .ok (.iload_n 2, 1) := by decide +kernel
theorem dX13_keeps_40 : decode cX13_keeps 40 = .ok (.aload_n 0, 1) := by decide +kernel
theorem dX13_keeps_41 : decode cX13_keeps 41 = .ok (.getfield 26, 3) := by decide +kernel
theorem dX13_keeps_44 : decode cX13_keeps 44 = .ok (.iload_n 3, 1) := by decide +kernel
theorem dX13_keeps_45 : decode cX13_keeps 45 = .ok (.iaload, 1) := by decide +kernel
theorem dX13_keeps_46 : decode cX13_keeps 46 = .ok (.aload_n 0, 1) := by decide +kernel
theorem dX13_keeps_47 : decode cX13_keeps 47 = .ok (.getfield 42, 3) := by decide +kernel
theorem dX13_keeps_50 : decode cX13_keeps 50 = .ok (.iload_n 3, 1) := by decide +kernel
theorem dX13_keeps_51 : decode cX13_keeps 51 = .ok (.iaload, 1) := by decide +kernel
theorem dX13_keeps_52 : decode cX13_keeps 52 = .ok (.if_icmp .eq 7, 3) := by decide +kernel
theorem dX13_keeps_55 : decode cX13_keeps 55 = .ok (.iconst 1, 1) := by decide +kernel
theorem dX13_keeps_56 : decode cX13_keeps 56 = .ok (.goto 4, 3) := by decide +kernel
theorem dX13_keeps_59 : decode cX13_keeps 59 = .ok (.iconst 0, 1) := by decide +kernel
theorem dX13_keeps_60 : decode cX13_keeps 60 = .ok (.invokestatic 96, 3) := by decide +kernel
theorem dX13_keeps_63 : decode cX13_keeps 63 = .ok (.iadd, 1) := by decide +kernel
theorem dX13_keeps_64 : decode cX13_keeps 64 = .ok (.istore_n 2, 1) := by decide +kernel
theorem dX13_keeps_65 : decode cX13_keeps 65 = .ok (.iinc 3 1, 3) := by decide +kernel
theorem dX13_keeps_68 : decode cX13_keeps 68 = .ok (.goto (-62), 3) := by decide +kernel
theorem dX13_keeps_71 : decode cX13_keeps 71 = .ok (.iload_n 1, 1) := by decide +kernel
theorem dX13_keeps_72 : decode cX13_keeps 72 = .ok (.iload_n 2, 1) := by decide +kernel
theorem dX13_keeps_73 : decode cX13_keeps 73 = .ok (.iadd, 1) := by decide +kernel
theorem dX13_keeps_74 : decode cX13_keeps 74 = .ok (.ifCond .ne 5, 3) := by decide +kernel
theorem dX13_keeps_77 : decode cX13_keeps 77 = .ok (.iconst 0, 1) := by decide +kernel
theorem dX13_keeps_78 : decode cX13_keeps 78 = .ok (.ireturn, 1) := by decide +kernel
theorem dX13_keeps_79 : decode cX13_keeps 79 = .ok (.aload_n 0, 1) := by decide +kernel
theorem dX13_keeps_80 : decode cX13_keeps 80 = .ok (.getfield 207, 3) := by decide +kernel
theorem dX13_keeps_83 : decode cX13_keeps 83 = .ok (.bipush 6, 2) := by decide +kernel
theorem dX13_keeps_85 : decode cX13_keeps 85 = .ok (.if_icmp .ne 49, 3) := by decide +kernel
theorem dX13_keeps_88 : decode cX13_keeps 88 = .ok (.aload_n 0, 1) := by decide +kernel
theorem dX13_keeps_89 : decode cX13_keeps 89 = .ok (.dup, 1) := by decide +kernel
theorem dX13_keeps_90 : decode cX13_keeps 90 = .ok (.getfield 207, 3) := by decide +kernel
theorem dX13_keeps_93 : decode cX13_keeps 93 = .ok (.iconst 1, 1) := by decide +kernel
theorem dX13_keeps_94 : decode cX13_keeps 94 = .ok (.isub, 1) := by decide +kernel
theorem dX13_keeps_95 : decode cX13_keeps 95 = .ok (.putfield 207, 3) := by decide +kernel
theorem dX13_keeps_98 : decode cX13_keeps 98 = .ok (.iconst 0, 1) := by decide +kernel
theorem dX13_keeps_99 : decode cX13_keeps 99 = .ok (.istore_n 3, 1) := by decide +kernel
theorem dX13_keeps_100 : decode cX13_keeps 100 = .ok (.iload_n 3, 1) := by decide +kernel
theorem dX13_keeps_101 : decode cX13_keeps 101 = .ok (.sipush 384, 3) := by decide +kernel
theorem dX13_keeps_104 : decode cX13_keeps 104 = .ok (.aload_n 0, 1) := by decide +kernel
theorem dX13_keeps_105 : decode cX13_keeps 105 = .ok (.getfield 207, 3) := by decide +kernel
theorem dX13_keeps_108 : decode cX13_keeps 108 = .ok (.imul, 1) := by decide +kernel
theorem dX13_keeps_109 : decode cX13_keeps 109 = .ok (.if_icmp .ge 25, 3) := by decide +kernel
theorem dX13_keeps_112 : decode cX13_keeps 112 = .ok (.aload_n 0, 1) := by decide +kernel
theorem dX13_keeps_113 : decode cX13_keeps 113 = .ok (.getfield 48, 3) := by decide +kernel
theorem dX13_keeps_116 : decode cX13_keeps 116 = .ok (.iload_n 3, 1) := by decide +kernel
theorem dX13_keeps_117 : decode cX13_keeps 117 = .ok (.aload_n 0, 1) := by decide +kernel
theorem dX13_keeps_118 : decode cX13_keeps 118 = .ok (.getfield 48, 3) := by decide +kernel
theorem dX13_keeps_121 : decode cX13_keeps 121 = .ok (.iload_n 3, 1) := by decide +kernel
theorem dX13_keeps_122 : decode cX13_keeps 122 = .ok (.sipush 384, 3) := by decide +kernel
theorem dX13_keeps_125 : decode cX13_keeps 125 = .ok (.iadd, 1) := by decide +kernel
theorem dX13_keeps_126 : decode cX13_keeps 126 = .ok (.iaload, 1) := by decide +kernel
theorem dX13_keeps_127 : decode cX13_keeps 127 = .ok (.iastore, 1) := by decide +kernel
theorem dX13_keeps_128 : decode cX13_keeps 128 = .ok (.iinc 3 1, 3) := by decide +kernel
theorem dX13_keeps_131 : decode cX13_keeps 131 = .ok (.goto (-31), 3) := by decide +kernel
theorem dX13_keeps_134 : decode cX13_keeps 134 = .ok (.iconst 0, 1) := by decide +kernel
theorem dX13_keeps_135 : decode cX13_keeps 135 = .ok (.istore_n 3, 1) := by decide +kernel
theorem dX13_keeps_136 : decode cX13_keeps 136 = .ok (.iload_n 3, 1) := by decide +kernel
theorem dX13_keeps_137 : decode cX13_keeps 137 = .ok (.sipush 192, 3) := by decide +kernel
theorem dX13_keeps_140 : decode cX13_keeps 140 = .ok (.if_icmp .ge 55, 3) := by decide +kernel
theorem dX13_keeps_143 : decode cX13_keeps 143 = .ok (.aload_n 0, 1) := by decide +kernel
theorem dX13_keeps_144 : decode cX13_keeps 144 = .ok (.getfield 48, 3) := by decide +kernel
theorem dX13_keeps_147 : decode cX13_keeps 147 = .ok (.sipush 384, 3) := by decide +kernel
theorem dX13_keeps_150 : decode cX13_keeps 150 = .ok (.aload_n 0, 1) := by decide +kernel
theorem dX13_keeps_151 : decode cX13_keeps 151 = .ok (.getfield 207, 3) := by decide +kernel
theorem dX13_keeps_154 : decode cX13_keeps 154 = .ok (.imul, 1) := by decide +kernel
theorem dX13_keeps_155 : decode cX13_keeps 155 = .ok (.iload_n 3, 1) := by decide +kernel
theorem dX13_keeps_156 : decode cX13_keeps 156 = .ok (.iadd, 1) := by decide +kernel
theorem dX13_keeps_157 : decode cX13_keeps 157 = .ok (.aload_n 0, 1) := by decide +kernel
theorem dX13_keeps_158 : decode cX13_keeps 158 = .ok (.getfield 39, 3) := by decide +kernel
theorem dX13_keeps_161 : decode cX13_keeps 161 = .ok (.iload_n 3, 1) := by decide +kernel
theorem dX13_keeps_162 : decode cX13_keeps 162 = .ok (.iaload, 1) := by decide +kernel
theorem dX13_keeps_163 : decode cX13_keeps 163 = .ok (.iastore, 1) := by decide +kernel
theorem dX13_keeps_164 : decode cX13_keeps 164 = .ok (.aload_n 0, 1) := by decide +kernel
theorem dX13_keeps_165 : decode cX13_keeps 165 = .ok (.getfield 48, 3) := by decide +kernel
theorem dX13_keeps_168 : decode cX13_keeps 168 = .ok (.sipush 384, 3) := by decide +kernel
theorem dX13_keeps_171 : decode cX13_keeps 171 = .ok (.aload_n 0, 1) := by decide +kernel
theorem dX13_keeps_172 : decode cX13_keeps 172 = .ok (.getfield 207, 3) := by decide +kernel
theorem dX13_keeps_175 : decode cX13_keeps 175 = .ok (.imul, 1) := by decide +kernel
theorem dX13_keeps_176 : decode cX13_keeps 176 = .ok (.sipush 192, 3) := by decide +kernel
theorem dX13_keeps_179 : decode cX13_keeps 179 = .ok (.iadd, 1) := by decide +kernel
theorem dX13_keeps_180 : decode cX13_keeps 180 = .ok (.iload_n 3, 1) := by decide +kernel
theorem dX13_keeps_181 : decode cX13_keeps 181 = .ok (.iadd, 1) := by decide +kernel
theorem dX13_keeps_182 : decode cX13_keeps 182 = .ok (.aload_n 0, 1) := by decide +kernel
theorem dX13_keeps_183 : decode cX13_keeps 183 = .ok (.getfield 42, 3) := by decide +kernel
theorem dX13_keeps_186 : decode cX13_keeps 186 = .ok (.iload_n 3, 1) := by decide +kernel
theorem dX13_keeps_187 : decode cX13_keeps 187 = .ok (.iaload, 1) := by decide +kernel
theorem dX13_keeps_188 : decode cX13_keeps 188 = .ok (.iastore, 1) := by decide +kernel
theorem dX13_keeps_189 : decode cX13_keeps 189 = .ok (.iinc 3 1, 3) := by decide +kernel
theorem dX13_keeps_192 : decode cX13_keeps 192 = .ok (.goto (-56), 3) := by decide +kernel
theorem dX13_keeps_195 : decode cX13_keeps 195 = .ok (.aload_n 0, 1) := by decide +kernel
theorem dX13_keeps_196 : decode cX13_keeps 196 = .ok (.dup, 1) := by decide +kernel
theorem dX13_keeps_197 : decode cX13_keeps 197 = .ok (.getfield 207, 3) := by decide +kernel
theorem dX13_keeps_200 : decode cX13_keeps 200 = .ok (.iconst 1, 1) := by decide +kernel
theorem dX13_keeps_201 : decode cX13_keeps 201 = .ok (.iadd, 1) := by decide +kernel
theorem dX13_keeps_202 : decode cX13_keeps 202 = .ok (.putfield 207, 3) := by decide +kernel
theorem dX13_keeps_205 : decode cX13_keeps 205 = .ok (.iload_n 1, 1) := by decide +kernel
theorem dX13_keeps_206 : decode cX13_keeps 206 = .ok (.ireturn, 1) := by decide +kernel
theorem dX13_undo_0 : decode cX13_undo 0 = .ok (.aload_n 0, 1) := by decide +kernel
theorem dX13_undo_1 : decode cX13_undo 1 = .ok (.iconst 0, 1) := by decide +kernel
theorem dX13_undo_2 : decode cX13_undo 2 = .ok (.putfield 93, 3) := by decide +kernel
theorem dX13_undo_5 : decode cX13_undo 5 = .ok (.aload_n 0, 1) := by decide +kernel
theorem dX13_undo_6 : decode cX13_undo 6 = .ok (.getfield 207, 3) := by decide +kernel
theorem dX13_undo_9 : decode cX13_undo 9 = .ok (.ifCond .ne 5, 3) := by decide +kernel
theorem dX13_undo_12 : decode cX13_undo 12 = .ok (.iconst (-1), 1) := by decide +kernel
theorem dX13_undo_13 : decode cX13_undo 13 = .ok (.ireturn, 1) := by decide +kernel
theorem dX13_undo_14 : decode cX13_undo 14 = .ok (.aload_n 0, 1) := by decide +kernel
theorem dX13_undo_15 : decode cX13_undo 15 = .ok (.dup, 1) := by decide +kernel
theorem dX13_undo_16 : decode cX13_undo 16 = .ok (.getfield 207, 3) := by decide +kernel
theorem dX13_undo_19 : decode cX13_undo 19 = .ok (.iconst 1, 1) := by decide +kernel
theorem dX13_undo_20 : decode cX13_undo 20 = .ok (.isub, 1) := by decide +kernel
theorem dX13_undo_21 : decode cX13_undo 21 = .ok (.putfield 207, 3) := by decide +kernel
theorem dX13_undo_24 : decode cX13_undo 24 = .ok (.iconst 0, 1) := by decide +kernel
theorem dX13_undo_25 : decode cX13_undo 25 = .ok (.istore_n 1, 1) := by decide +kernel
theorem dX13_undo_26 : decode cX13_undo 26 = .ok (.iload_n 1, 1) := by decide +kernel
theorem dX13_undo_27 : decode cX13_undo 27 = .ok (.sipush 192, 3) := by decide +kernel
theorem dX13_undo_30 : decode cX13_undo 30 = .ok (.if_icmp .ge 55, 3) := by decide +kernel
theorem dX13_undo_33 : decode cX13_undo 33 = .ok (.aload_n 0, 1) := by decide +kernel
theorem dX13_undo_34 : decode cX13_undo 34 = .ok (.getfield 29, 3) := by decide +kernel
theorem dX13_undo_37 : decode cX13_undo 37 = .ok (.iload_n 1, 1) := by decide +kernel
theorem dX13_undo_38 : decode cX13_undo 38 = .ok (.aload_n 0, 1) := by decide +kernel
theorem dX13_undo_39 : decode cX13_undo 39 = .ok (.getfield 48, 3) := by decide +kernel
theorem dX13_undo_42 : decode cX13_undo 42 = .ok (.sipush 384, 3) := by decide +kernel
theorem dX13_undo_45 : decode cX13_undo 45 = .ok (.aload_n 0, 1) := by decide +kernel
theorem dX13_undo_46 : decode cX13_undo 46 = .ok (.getfield 207, 3) := by decide +kernel
theorem dX13_undo_49 : decode cX13_undo 49 = .ok (.imul, 1) := by decide +kernel
theorem dX13_undo_50 : decode cX13_undo 50 = .ok (.iload_n 1, 1) := by decide +kernel
theorem dX13_undo_51 : decode cX13_undo 51 = .ok (.iadd, 1) := by decide +kernel
theorem dX13_undo_52 : decode cX13_undo 52 = .ok (.iaload, 1) := by decide +kernel
theorem dX13_undo_53 : decode cX13_undo 53 = .ok (.iastore, 1) := by decide +kernel
theorem dX13_undo_54 : decode cX13_undo 54 = .ok (.aload_n 0, 1) := by decide +kernel
theorem dX13_undo_55 : decode cX13_undo 55 = .ok (.getfield 26, 3) := by decide +kernel
theorem dX13_undo_58 : decode cX13_undo 58 = .ok (.iload_n 1, 1) := by decide +kernel
theorem dX13_undo_59 : decode cX13_undo 59 = .ok (.aload_n 0, 1) := by decide +kernel
theorem dX13_undo_60 : decode cX13_undo 60 = .ok (.getfield 48, 3) := by decide +kernel
theorem dX13_undo_63 : decode cX13_undo 63 = .ok (.sipush 384, 3) := by decide +kernel
theorem dX13_undo_66 : decode cX13_undo 66 = .ok (.aload_n 0, 1) := by decide +kernel
theorem dX13_undo_67 : decode cX13_undo 67 = .ok (.getfield 207, 3) := by decide +kernel
theorem dX13_undo_70 : decode cX13_undo 70 = .ok (.imul, 1) := by decide +kernel
theorem dX13_undo_71 : decode cX13_undo 71 = .ok (.sipush 192, 3) := by decide +kernel
theorem dX13_undo_74 : decode cX13_undo 74 = .ok (.iadd, 1) := by decide +kernel
theorem dX13_undo_75 : decode cX13_undo 75 = .ok (.iload_n 1, 1) := by decide +kernel
theorem dX13_undo_76 : decode cX13_undo 76 = .ok (.iadd, 1) := by decide +kernel
theorem dX13_undo_77 : decode cX13_undo 77 = .ok (.iaload, 1) := by decide +kernel
theorem dX13_undo_78 : decode cX13_undo 78 = .ok (.iastore, 1) := by decide +kernel
theorem dX13_undo_79 : decode cX13_undo 79 = .ok (.iinc 1 1, 3) := by decide +kernel
theorem dX13_undo_82 : decode cX13_undo 82 = .ok (.goto (-56), 3) := by decide +kernel
theorem dX13_undo_85 : decode cX13_undo 85 = .ok (.aload_n 0, 1) := by decide +kernel
theorem dX13_undo_86 : decode cX13_undo 86 = .ok (.getfield 207, 3) := by decide +kernel
theorem dX13_undo_89 : decode cX13_undo 89 = .ok (.ireturn, 1) := by decide +kernel
set_option maxRecDepth 20000 in
theorem ggX13_tones_X13_wantedBy : GoodIn wsX13_tones wsX13_wantedBy := goodIn_r _ [6, 7] (by decide +kernel) (by decide +kernel)
set_option maxRecDepth 20000 in
theorem gX13_tones_X13_wantedBy : GoodIn wsX13_tones (va_wsS RX13 199 yX13_wantedBy wsX13_wantedBy) := goodIn_app (goodIn_of _ (by decide +kernel)) ggX13_tones_X13_wantedBy
set_option maxRecDepth 20000 in
theorem ggX13_tones_X13_heightBy : GoodIn wsX13_tones wsX13_heightBy := goodIn_r _ [11, 12, 13, 14, 15, 5, 16, 17, 18, 19, 20, 21, 22, 23, 24, 25, 26, 27, 28, 29, 30, 31, 32, 33, 34, 35, 36, 37, 38, 39, 40, 41, 42, 43, 44, 45, 46, 47, 48, 49, 50, 51, 52, 53, 54, 55, 56, 57, 58, 59, 60, 61, 62, 63, 64, 65, 66, 67, 68] (by decide +kernel) (by decide +kernel)
set_option maxRecDepth 20000 in
theorem gX13_tones_X13_heightBy : GoodIn wsX13_tones (wsV RX13 203 RX13 yX13_heightBy wsX13_heightBy) := goodIn_app (goodIn_of _ (by decide +kernel)) ggX13_tones_X13_heightBy
theorem dX13_tones_0 : decode cX13_tones 0 = .ok (.aload_n 0, 1) := by decide +kernel
theorem dX13_tones_1 : decode cX13_tones 1 = .ok (.getfield 26, 3) := by decide +kernel
theorem dX13_tones_4 : decode cX13_tones 4 = .ok (.bipush 16, 2) := by decide +kernel
theorem dX13_tones_6 : decode cX13_tones 6 = .ok (.iload_n 2, 1) := by decide +kernel
theorem dX13_tones_7 : decode cX13_tones 7 = .ok (.imul, 1) := by decide +kernel
theorem dX13_tones_8 : decode cX13_tones 8 = .ok (.iload_n 1, 1) := by decide +kernel
theorem dX13_tones_9 : decode cX13_tones 9 = .ok (.iadd, 1) := by decide +kernel
theorem dX13_tones_10 : decode cX13_tones 10 = .ok (.iload_n 3, 1) := by decide +kernel
theorem dX13_tones_11 : decode cX13_tones 11 = .ok (.iastore, 1) := by decide +kernel
theorem dX13_tones_12 : decode cX13_tones 12 = .ok (.aload_n 0, 1) := by decide +kernel
theorem dX13_tones_13 : decode cX13_tones 13 = .ok (.getfield 29, 3) := by decide +kernel
theorem dX13_tones_16 : decode cX13_tones 16 = .ok (.bipush 16, 2) := by decide +kernel
theorem dX13_tones_18 : decode cX13_tones 18 = .ok (.iload_n 2, 1) := by decide +kernel
theorem dX13_tones_19 : decode cX13_tones 19 = .ok (.imul, 1) := by decide +kernel
theorem dX13_tones_20 : decode cX13_tones 20 = .ok (.iload_n 1, 1) := by decide +kernel
theorem dX13_tones_21 : decode cX13_tones 21 = .ok (.iadd, 1) := by decide +kernel
theorem dX13_tones_22 : decode cX13_tones 22 = .ok (.aload_n 0, 1) := by decide +kernel
theorem dX13_tones_23 : decode cX13_tones 23 = .ok (.iload_n 3, 1) := by decide +kernel
theorem dX13_tones_24 : decode cX13_tones 24 = .ok (.invokestatic 199, 3) := by decide +kernel
theorem dX13_tones_27 : decode cX13_tones 27 = .ok (.invokevirtual 203, 3) := by decide +kernel
theorem dX13_tones_30 : decode cX13_tones 30 = .ok (.iastore, 1) := by decide +kernel
theorem dX13_tones_31 : decode cX13_tones 31 = .ok (.return_, 1) := by decide +kernel
set_option maxRecDepth 20000 in
theorem ggX13_setTone_X13_isCell : GoodIn wsX13_setTone wsX13_isCell := goodIn_r _ [8, 9, 10, 11, 7, 12, 49, 50, 51, 52, 53, 54, 55, 56, 57, 58, 59, 60, 61, 62, 63, 64, 65, 66, 67, 68, 69, 70, 71, 72, 73, 74, 75, 76, 77, 78, 79, 80, 81, 82, 83, 84, 85, 86, 87, 88, 89, 90, 91, 92, 93, 94, 95, 96] (by decide +kernel) (by decide +kernel)
set_option maxRecDepth 20000 in
theorem gX13_setTone_X13_isCell : GoodIn wsX13_setTone (wsV RX13 195 RX13 yX13_isCell wsX13_isCell) := goodIn_app (goodIn_of _ (by decide +kernel)) ggX13_setTone_X13_isCell
set_option maxRecDepth 20000 in
theorem ggX13_setTone_X13_isIn : GoodIn wsX13_setTone wsX13_isIn := goodIn_r _ [12] (by decide +kernel) (by decide +kernel)
set_option maxRecDepth 20000 in
theorem gX13_setTone_X13_isIn : GoodIn wsX13_setTone (va_wsS RX13 111 yX13_isIn wsX13_isIn) := goodIn_app (goodIn_of _ (by decide +kernel)) ggX13_setTone_X13_isIn
set_option maxRecDepth 20000 in
theorem ggX13_setTone_X13_truth : GoodIn wsX13_setTone wsX13_truth := goodIn_r _ [15] (by decide +kernel) (by decide +kernel)
set_option maxRecDepth 20000 in
theorem gX13_setTone_X13_truth : GoodIn wsX13_setTone (va_wsS RX13 96 yX13_truth wsX13_truth) := goodIn_app (goodIn_of _ (by decide +kernel)) ggX13_setTone_X13_truth
set_option maxRecDepth 20000 in
theorem ggX13_setTone_X13_laysAside : GoodIn wsX13_setTone wsX13_laysAside := goodIn_r _ [19, 20, 3, 21, 22, 49, 50, 51, 52, 53, 54, 55, 56, 57, 58, 59, 60, 61, 62, 63, 64, 65, 66, 67, 68, 69, 70, 71, 72, 73, 74, 75, 76, 77, 78, 79, 80, 81, 82, 83, 84, 85, 86, 87, 88, 89, 90, 91, 92, 93, 94, 95, 96] (by decide +kernel) (by decide +kernel)
set_option maxRecDepth 20000 in
theorem gX13_setTone_X13_laysAside : GoodIn wsX13_setTone (wsV RX13 314 RX13 yX13_laysAside wsX13_laysAside) := goodIn_app (goodIn_of _ (by decide +kernel)) ggX13_setTone_X13_laysAside
set_option maxRecDepth 20000 in
theorem ggX13_setTone_X13_tones : GoodIn wsX13_setTone wsX13_tones := goodIn_r _ [26, 22, 3, 27, 28, 7, 29, 30, 31, 32, 33, 34, 9, 35, 36, 37, 38, 39, 40, 41, 42, 49, 50, 51, 52, 53, 54, 55, 56, 57, 58, 59, 60, 61, 62, 63, 64, 65, 66, 67, 68, 69, 70, 71, 72, 73, 74, 75, 76, 77, 78, 79, 80, 81, 82, 83, 84, 85, 86, 87, 88, 89, 90, 91, 92, 93, 94, 95, 96] (by decide +kernel) (by decide +kernel)
set_option maxRecDepth 20000 in
theorem gX13_setTone_X13_tones : GoodIn wsX13_setTone (wsV RX13 365 RX13 yX13_tones wsX13_tones) := goodIn_app (goodIn_of _ (by decide +kernel)) ggX13_setTone_X13_tones
set_option maxRecDepth 20000 in
theorem ggX13_setTone_X13_keeps : GoodIn wsX13_setTone wsX13_keeps := goodIn_r _ [46, 3, 20, 22, 21, 47, 48, 13, 14, 7, 15, 49, 50, 51, 52, 53, 54, 55, 56, 57, 58, 59, 60, 61, 62, 63, 64, 65, 66, 67, 68, 69, 70, 71, 72, 73, 74, 75, 76, 77, 78, 79, 80, 81, 82, 83, 84, 85, 86, 87, 88, 89, 90, 91, 92, 93, 94, 95, 96] (by decide +kernel) (by decide +kernel)
set_option maxRecDepth 20000 in
theorem gX13_setTone_X13_keeps : GoodIn wsX13_setTone (wsV RX13 368 RX13 yX13_keeps wsX13_keeps) := goodIn_app (goodIn_of _ (by decide +kernel)) ggX13_setTone_X13_keeps
theorem dX13_setTone_0 : decode cX13_setTone 0 = .ok (.aload_n 0, 1) := by decide +kernel
theorem dX13_setTone_1 : decode cX13_setTone 1 = .ok (.aload_n 0, 1) := by decide +kernel
theorem dX13_setTone_2 : decode cX13_setTone 2 = .ok (.iload_n 1, 1) := by decide +kernel
theorem dX13_setTone_3 : decode cX13_setTone 3 = .ok (.iload_n 2, 1) := by decide +kernel
theorem dX13_setTone_4 : decode cX13_setTone 4 = .ok (.invokevirtual 195, 3) := by decide +kernel
theorem dX13_setTone_7 : decode cX13_setTone 7 = .ok (.ifCond .ne 7, 3) := by decide +kernel
theorem dX13_setTone_10 : decode cX13_setTone 10 = .ok (.iconst 1, 1) := by decide +kernel
theorem dX13_setTone_11 : decode cX13_setTone 11 = .ok (.goto 25, 3) := by decide +kernel
theorem dX13_setTone_14 : decode cX13_setTone 14 = .ok (.iload_n 3, 1) := by decide +kernel
theorem dX13_setTone_15 : decode cX13_setTone 15 = .ok (.i2l, 1) := by decide +kernel
theorem dX13_setTone_16 : decode cX13_setTone 16 = .ok (.lconst 0, 1) := by decide +kernel
theorem dX13_setTone_17 : decode cX13_setTone 17 = .ok (.ldc2_w 276, 3) := by decide +kernel
theorem dX13_setTone_20 : decode cX13_setTone 20 = .ok (.invokestatic 111, 3) := by decide +kernel
theorem dX13_setTone_23 : decode cX13_setTone 23 = .ok (.ifCond .ne 7, 3) := by decide +kernel
theorem dX13_setTone_26 : decode cX13_setTone 26 = .ok (.iconst 1, 1) := by decide +kernel
theorem dX13_setTone_27 : decode cX13_setTone 27 = .ok (.goto 4, 3) := by decide +kernel
theorem dX13_setTone_30 : decode cX13_setTone 30 = .ok (.iconst 0, 1) := by decide +kernel
theorem dX13_setTone_31 : decode cX13_setTone 31 = .ok (.invokestatic 96, 3) := by decide +kernel
theorem dX13_setTone_34 : decode cX13_setTone 34 = .ok (.iconst 2, 1) := by decide +kernel
theorem dX13_setTone_35 : decode cX13_setTone 35 = .ok (.imul, 1) := by decide +kernel
theorem dX13_setTone_36 : decode cX13_setTone 36 = .ok (.putfield 93, 3) := by decide +kernel
theorem dX13_setTone_39 : decode cX13_setTone 39 = .ok (.aload_n 0, 1) := by decide +kernel
theorem dX13_setTone_40 : decode cX13_setTone 40 = .ok (.getfield 93, 3) := by decide +kernel
theorem dX13_setTone_43 : decode cX13_setTone 43 = .ok (.ifCond .le 5, 3) := by decide +kernel
theorem dX13_setTone_46 : decode cX13_setTone 46 = .ok (.iconst 0, 1) := by decide +kernel
theorem dX13_setTone_47 : decode cX13_setTone 47 = .ok (.ireturn, 1) := by decide +kernel
theorem dX13_setTone_48 : decode cX13_setTone 48 = .ok (.aload_n 0, 1) := by decide +kernel
theorem dX13_setTone_49 : decode cX13_setTone 49 = .ok (.invokevirtual 314, 3) := by decide +kernel
theorem dX13_setTone_52 : decode cX13_setTone 52 = .ok (.aload_n 0, 1) := by decide +kernel
theorem dX13_setTone_53 : decode cX13_setTone 53 = .ok (.iload_n 1, 1) := by decide +kernel
theorem dX13_setTone_54 : decode cX13_setTone 54 = .ok (.iload_n 2, 1) := by decide +kernel
theorem dX13_setTone_55 : decode cX13_setTone 55 = .ok (.iload_n 3, 1) := by decide +kernel
theorem dX13_setTone_56 : decode cX13_setTone 56 = .ok (.invokevirtual 365, 3) := by decide +kernel
theorem dX13_setTone_59 : decode cX13_setTone 59 = .ok (.aload_n 0, 1) := by decide +kernel
theorem dX13_setTone_60 : decode cX13_setTone 60 = .ok (.invokevirtual 368, 3) := by decide +kernel
theorem dX13_setTone_63 : decode cX13_setTone 63 = .ok (.istore 4, 2) := by decide +kernel
theorem dX13_setTone_65 : decode cX13_setTone 65 = .ok (.aload_n 0, 1) := by decide +kernel
theorem dX13_setTone_66 : decode cX13_setTone 66 = .ok (.getfield 29, 3) := by decide +kernel
theorem dX13_setTone_69 : decode cX13_setTone 69 = .ok (.bipush 16, 2) := by decide +kernel
theorem dX13_setTone_71 : decode cX13_setTone 71 = .ok (.iload_n 2, 1) := by decide +kernel
theorem dX13_setTone_72 : decode cX13_setTone 72 = .ok (.imul, 1) := by decide +kernel
theorem dX13_setTone_73 : decode cX13_setTone 73 = .ok (.iload_n 1, 1) := by decide +kernel
theorem dX13_setTone_74 : decode cX13_setTone 74 = .ok (.iadd, 1) := by decide +kernel
theorem dX13_setTone_75 : decode cX13_setTone 75 = .ok (.iaload, 1) := by decide +kernel
theorem dX13_setTone_76 : decode cX13_setTone 76 = .ok (.ireturn, 1) := by decide +kernel
set_option maxRecDepth 20000 in
theorem ggX13_isHeight_X13_isIn : GoodIn wsX13_isHeight wsX13_isIn := goodIn_r _ [5] (by decide +kernel) (by decide +kernel)
set_option maxRecDepth 20000 in
theorem gX13_isHeight_X13_isIn : GoodIn wsX13_isHeight (va_wsS RX13 111 yX13_isIn wsX13_isIn) := goodIn_app (goodIn_of _ (by decide +kernel)) ggX13_isHeight_X13_isIn
theorem dX13_isHeight_0 : decode cX13_isHeight 0 = .ok (.iload_n 1, 1) := by decide +kernel
theorem dX13_isHeight_1 : decode cX13_isHeight 1 = .ok (.i2l, 1) := by decide +kernel
theorem dX13_isHeight_2 : decode cX13_isHeight 2 = .ok (.aload_n 0, 1) := by decide +kernel
theorem dX13_isHeight_3 : decode cX13_isHeight 3 = .ok (.getfield 20, 3) := by decide +kernel
theorem dX13_isHeight_6 : decode cX13_isHeight 6 = .ok (.iconst 4, 1) := by decide +kernel
theorem dX13_isHeight_7 : decode cX13_isHeight 7 = .ok (.iaload, 1) := by decide +kernel
theorem dX13_isHeight_8 : decode cX13_isHeight 8 = .ok (.i2l, 1) := by decide +kernel
theorem dX13_isHeight_9 : decode cX13_isHeight 9 = .ok (.aload_n 0, 1) := by decide +kernel
theorem dX13_isHeight_10 : decode cX13_isHeight 10 = .ok (.getfield 20, 3) := by decide +kernel
theorem dX13_isHeight_13 : decode cX13_isHeight 13 = .ok (.iconst 2, 1) := by decide +kernel
theorem dX13_isHeight_14 : decode cX13_isHeight 14 = .ok (.iaload, 1) := by decide +kernel
theorem dX13_isHeight_15 : decode cX13_isHeight 15 = .ok (.i2l, 1) := by decide +kernel
theorem dX13_isHeight_16 : decode cX13_isHeight 16 = .ok (.invokestatic 111, 3) := by decide +kernel
theorem dX13_isHeight_19 : decode cX13_isHeight 19 = .ok (.ireturn, 1) := by decide +kernel
set_option maxRecDepth 20000 in
theorem ggX13_setHeight_X13_isCell : GoodIn wsX13_setHeight wsX13_isCell := goodIn_r _ [8, 9, 10, 11, 7, 12, 32, 33, 34, 35, 36, 37, 38, 39, 40, 41, 42, 43, 44, 45, 46, 47, 48, 49, 50, 51, 52, 53, 54, 55, 56, 57, 58, 59, 60, 61, 62, 63, 64, 65, 66, 67, 68, 69, 70, 71, 72, 73, 74, 75, 76, 77, 78, 79] (by decide +kernel) (by decide +kernel)
set_option maxRecDepth 20000 in
theorem gX13_setHeight_X13_isCell : GoodIn wsX13_setHeight (wsV RX13 195 RX13 yX13_isCell wsX13_isCell) := goodIn_app (goodIn_of _ (by decide +kernel)) ggX13_setHeight_X13_isCell
set_option maxRecDepth 20000 in
theorem ggX13_setHeight_X13_isHeight : GoodIn wsX13_setHeight wsX13_isHeight := goodIn_r _ [16, 9, 10, 11, 7, 12, 32, 33, 34, 35, 36, 37, 38, 39, 40, 41, 42, 43, 44, 45, 46, 47, 48, 49, 50, 51, 52, 53, 54, 55, 56, 57, 58, 59, 60, 61, 62, 63, 64, 65, 66, 67, 68, 69, 70, 71, 72, 73, 74, 75, 76, 77, 78, 79] (by decide +kernel) (by decide +kernel)
set_option maxRecDepth 20000 in
theorem gX13_setHeight_X13_isHeight : GoodIn wsX13_setHeight (wsV RX13 371 RX13 yX13_isHeight wsX13_isHeight) := goodIn_app (goodIn_of _ (by decide +kernel)) ggX13_setHeight_X13_isHeight
set_option maxRecDepth 20000 in
theorem ggX13_setHeight_X13_truth : GoodIn wsX13_setHeight wsX13_truth := goodIn_r _ [19] (by decide +kernel) (by decide +kernel)
set_option maxRecDepth 20000 in
theorem gX13_setHeight_X13_truth : GoodIn wsX13_setHeight (va_wsS RX13 96 yX13_truth wsX13_truth) := goodIn_app (goodIn_of _ (by decide +kernel)) ggX13_setHeight_X13_truth
set_option maxRecDepth 20000 in
theorem ggX13_setHeight_X13_laysAside : GoodIn wsX13_setHeight wsX13_laysAside := goodIn_r _ [23, 3, 2, 24, 25, 32, 33, 34, 35, 36, 37, 38, 39, 40, 41, 42, 43, 44, 45, 46, 47, 48, 49, 50, 51, 52, 53, 54, 55, 56, 57, 58, 59, 60, 61, 62, 63, 64, 65, 66, 67, 68, 69, 70, 71, 72, 73, 74, 75, 76, 77, 78, 79] (by decide +kernel) (by decide +kernel)
set_option maxRecDepth 20000 in
theorem gX13_setHeight_X13_laysAside : GoodIn wsX13_setHeight (wsV RX13 314 RX13 yX13_laysAside wsX13_laysAside) := goodIn_app (goodIn_of _ (by decide +kernel)) ggX13_setHeight_X13_laysAside
set_option maxRecDepth 20000 in
theorem ggX13_setHeight_X13_keeps : GoodIn wsX13_setHeight wsX13_keeps := goodIn_r _ [29, 2, 3, 25, 24, 30, 31, 17, 18, 7, 19, 32, 33, 34, 35, 36, 37, 38, 39, 40, 41, 42, 43, 44, 45, 46, 47, 48, 49, 50, 51, 52, 53, 54, 55, 56, 57, 58, 59, 60, 61, 62, 63, 64, 65, 66, 67, 68, 69, 70, 71, 72, 73, 74, 75, 76, 77, 78, 79] (by decide +kernel) (by decide +kernel)
set_option maxRecDepth 20000 in
theorem gX13_setHeight_X13_keeps : GoodIn wsX13_setHeight (wsV RX13 368 RX13 yX13_keeps wsX13_keeps) := goodIn_app (goodIn_of _ (by decide +kernel)) ggX13_setHeight_X13_keeps
theorem dX13_setHeight_0 : decode cX13_setHeight 0 = .ok (.aload_n 0, 1) := by decide +kernel
theorem dX13_setHeight_1 : decode cX13_setHeight 1 = .ok (.aload_n 0, 1) := by decide +kernel
theorem dX13_setHeight_2 : decode cX13_setHeight 2 = .ok (.iload_n 1, 1) := by decide +kernel
theorem dX13_setHeight_3 : decode cX13_setHeight 3 = .ok (.iload_n 2, 1) := by decide +kernel
theorem dX13_setHeight_4 : decode cX13_setHeight 4 = .ok (.invokevirtual 195, 3) := by decide +kernel
theorem dX13_setHeight_7 : decode cX13_setHeight 7 = .ok (.ifCond .ne 7, 3) := by decide +kernel
theorem dX13_setHeight_10 : decode cX13_setHeight 10 = .ok (.iconst 1, 1) := by decide +kernel
theorem dX13_setHeight_11 : decode cX13_setHeight 11 = .ok (.goto 21, 3) := by decide +kernel
theorem dX13_setHeight_14 : decode cX13_setHeight 14 = .ok (.aload_n 0, 1) := by decide +kernel
theorem dX13_setHeight_15 : decode cX13_setHeight 15 = .ok (.iload_n 3, 1) := by decide +kernel
theorem dX13_setHeight_16 : decode cX13_setHeight 16 = .ok (.invokevirtual 371, 3) := by decide +kernel
theorem dX13_setHeight_19 : decode cX13_setHeight 19 = .ok (.ifCond .ne 7, 3) := by decide +kernel
theorem dX13_setHeight_22 : decode cX13_setHeight 22 = .ok (.iconst 1, 1) := by decide +kernel
theorem dX13_setHeight_23 : decode cX13_setHeight 23 = .ok (.goto 4, 3) := by decide +kernel
theorem dX13_setHeight_26 : decode cX13_setHeight 26 = .ok (.iconst 0, 1) := by decide +kernel
theorem dX13_setHeight_27 : decode cX13_setHeight 27 = .ok (.invokestatic 96, 3) := by decide +kernel
theorem dX13_setHeight_30 : decode cX13_setHeight 30 = .ok (.iconst 2, 1) := by decide +kernel
theorem dX13_setHeight_31 : decode cX13_setHeight 31 = .ok (.imul, 1) := by decide +kernel
theorem dX13_setHeight_32 : decode cX13_setHeight 32 = .ok (.putfield 93, 3) := by decide +kernel
theorem dX13_setHeight_35 : decode cX13_setHeight 35 = .ok (.aload_n 0, 1) := by decide +kernel
theorem dX13_setHeight_36 : decode cX13_setHeight 36 = .ok (.getfield 93, 3) := by decide +kernel
theorem dX13_setHeight_39 : decode cX13_setHeight 39 = .ok (.ifCond .le 5, 3) := by decide +kernel
theorem dX13_setHeight_42 : decode cX13_setHeight 42 = .ok (.iconst 0, 1) := by decide +kernel
theorem dX13_setHeight_43 : decode cX13_setHeight 43 = .ok (.ireturn, 1) := by decide +kernel
theorem dX13_setHeight_44 : decode cX13_setHeight 44 = .ok (.aload_n 0, 1) := by decide +kernel
theorem dX13_setHeight_45 : decode cX13_setHeight 45 = .ok (.invokevirtual 314, 3) := by decide +kernel
theorem dX13_setHeight_48 : decode cX13_setHeight 48 = .ok (.aload_n 0, 1) := by decide +kernel
theorem dX13_setHeight_49 : decode cX13_setHeight 49 = .ok (.getfield 29, 3) := by decide +kernel
theorem dX13_setHeight_52 : decode cX13_setHeight 52 = .ok (.bipush 16, 2) := by decide +kernel
theorem dX13_setHeight_54 : decode cX13_setHeight 54 = .ok (.iload_n 2, 1) := by decide +kernel
theorem dX13_setHeight_55 : decode cX13_setHeight 55 = .ok (.imul, 1) := by decide +kernel
theorem dX13_setHeight_56 : decode cX13_setHeight 56 = .ok (.iload_n 1, 1) := by decide +kernel
theorem dX13_setHeight_57 : decode cX13_setHeight 57 = .ok (.iadd, 1) := by decide +kernel
theorem dX13_setHeight_58 : decode cX13_setHeight 58 = .ok (.iload_n 3, 1) := by decide +kernel
theorem dX13_setHeight_59 : decode cX13_setHeight 59 = .ok (.iastore, 1) := by decide +kernel
theorem dX13_setHeight_60 : decode cX13_setHeight 60 = .ok (.aload_n 0, 1) := by decide +kernel
theorem dX13_setHeight_61 : decode cX13_setHeight 61 = .ok (.invokevirtual 368, 3) := by decide +kernel
theorem dX13_setHeight_64 : decode cX13_setHeight 64 = .ok (.istore 4, 2) := by decide +kernel
theorem dX13_setHeight_66 : decode cX13_setHeight 66 = .ok (.aload_n 0, 1) := by decide +kernel
theorem dX13_setHeight_67 : decode cX13_setHeight 67 = .ok (.getfield 39, 3) := by decide +kernel
theorem dX13_setHeight_70 : decode cX13_setHeight 70 = .ok (.bipush 16, 2) := by decide +kernel
theorem dX13_setHeight_72 : decode cX13_setHeight 72 = .ok (.iload_n 2, 1) := by decide +kernel
theorem dX13_setHeight_73 : decode cX13_setHeight 73 = .ok (.imul, 1) := by decide +kernel
theorem dX13_setHeight_74 : decode cX13_setHeight 74 = .ok (.iload_n 1, 1) := by decide +kernel
theorem dX13_setHeight_75 : decode cX13_setHeight 75 = .ok (.iadd, 1) := by decide +kernel
theorem dX13_setHeight_76 : decode cX13_setHeight 76 = .ok (.iaload, 1) := by decide +kernel
theorem dX13_setHeight_77 : decode cX13_setHeight 77 = .ok (.ireturn, 1) := by decide +kernel
set_option maxRecDepth 20000 in
theorem ggX13_fits_X13_isIn : GoodIn wsX13_fits wsX13_isIn := goodIn_r _ [5] (by decide +kernel) (by decide +kernel)
set_option maxRecDepth 20000 in
theorem gX13_fits_X13_isIn : GoodIn wsX13_fits (va_wsS RX13 111 yX13_isIn wsX13_isIn) := goodIn_app (goodIn_of _ (by decide +kernel)) ggX13_fits_X13_isIn
set_option maxRecDepth 20000 in
theorem ggX13_fits_X13_isHeight : GoodIn wsX13_fits wsX13_isHeight := goodIn_r _ [9, 1, 2, 3, 4, 5, 10, 11, 12, 13, 14, 15, 16, 17, 18, 19, 20, 21, 22, 23, 24, 25, 26, 27, 28, 29, 30, 31, 32, 33, 34, 35, 36, 37, 38, 39, 40, 41, 42, 43, 44, 45, 46, 47, 48, 49, 50, 51, 52, 53, 54, 55, 56, 57] (by decide +kernel) (by decide +kernel)
set_option maxRecDepth 20000 in
theorem gX13_fits_X13_isHeight : GoodIn wsX13_fits (wsV RX13 371 RX13 yX13_isHeight wsX13_isHeight) := goodIn_app (goodIn_of _ (by decide +kernel)) ggX13_fits_X13_isHeight
theorem dX13_fits_0 : decode cX13_fits 0 = .ok (.iload_n 3, 1) := by decide +kernel
theorem dX13_fits_1 : decode cX13_fits 1 = .ok (.i2l, 1) := by decide +kernel
theorem dX13_fits_2 : decode cX13_fits 2 = .ok (.lconst 1, 1) := by decide +kernel
theorem dX13_fits_3 : decode cX13_fits 3 = .ok (.aload_n 0, 1) := by decide +kernel
theorem dX13_fits_4 : decode cX13_fits 4 = .ok (.getfield 20, 3) := by decide +kernel
theorem dX13_fits_7 : decode cX13_fits 7 = .ok (.iconst 0, 1) := by decide +kernel
theorem dX13_fits_8 : decode cX13_fits 8 = .ok (.iaload, 1) := by decide +kernel
theorem dX13_fits_9 : decode cX13_fits 9 = .ok (.iload_n 1, 1) := by decide +kernel
theorem dX13_fits_10 : decode cX13_fits 10 = .ok (.isub, 1) := by decide +kernel
theorem dX13_fits_11 : decode cX13_fits 11 = .ok (.i2l, 1) := by decide +kernel
theorem dX13_fits_12 : decode cX13_fits 12 = .ok (.invokestatic 111, 3) := by decide +kernel
theorem dX13_fits_15 : decode cX13_fits 15 = .ok (.ifCond .eq 35, 3) := by decide +kernel
theorem dX13_fits_18 : decode cX13_fits 18 = .ok (.iload 4, 2) := by decide +kernel
theorem dX13_fits_20 : decode cX13_fits 20 = .ok (.i2l, 1) := by decide +kernel
theorem dX13_fits_21 : decode cX13_fits 21 = .ok (.lconst 1, 1) := by decide +kernel
theorem dX13_fits_22 : decode cX13_fits 22 = .ok (.aload_n 0, 1) := by decide +kernel
theorem dX13_fits_23 : decode cX13_fits 23 = .ok (.getfield 20, 3) := by decide +kernel
theorem dX13_fits_26 : decode cX13_fits 26 = .ok (.iconst 1, 1) := by decide +kernel
theorem dX13_fits_27 : decode cX13_fits 27 = .ok (.iaload, 1) := by decide +kernel
theorem dX13_fits_28 : decode cX13_fits 28 = .ok (.iload_n 2, 1) := by decide +kernel
theorem dX13_fits_29 : decode cX13_fits 29 = .ok (.isub, 1) := by decide +kernel
theorem dX13_fits_30 : decode cX13_fits 30 = .ok (.i2l, 1) := by decide +kernel
theorem dX13_fits_31 : decode cX13_fits 31 = .ok (.invokestatic 111, 3) := by decide +kernel
theorem dX13_fits_34 : decode cX13_fits 34 = .ok (.ifCond .eq 16, 3) := by decide +kernel
theorem dX13_fits_37 : decode cX13_fits 37 = .ok (.aload_n 0, 1) := by decide +kernel
theorem dX13_fits_38 : decode cX13_fits 38 = .ok (.iload 5, 2) := by decide +kernel
theorem dX13_fits_40 : decode cX13_fits 40 = .ok (.invokevirtual 371, 3) := by decide +kernel
theorem dX13_fits_43 : decode cX13_fits 43 = .ok (.ifCond .eq 7, 3) := by decide +kernel
theorem dX13_fits_46 : decode cX13_fits 46 = .ok (.iconst 1, 1) := by decide +kernel
theorem dX13_fits_47 : decode cX13_fits 47 = .ok (.goto 4, 3) := by decide +kernel
theorem dX13_fits_50 : decode cX13_fits 50 = .ok (.iconst 0, 1) := by decide +kernel
theorem dX13_fits_51 : decode cX13_fits 51 = .ok (.ireturn, 1) := by decide +kernel
theorem dX13_fills_0 : decode cX13_fills 0 = .ok (.iload_n 2, 1) := by decide +kernel
theorem dX13_fills_1 : decode cX13_fills 1 = .ok (.istore 6, 2) := by decide +kernel
theorem dX13_fills_3 : decode cX13_fills 3 = .ok (.iload 6, 2) := by decide +kernel
theorem dX13_fills_5 : decode cX13_fills 5 = .ok (.iload_n 2, 1) := by decide +kernel
theorem dX13_fills_6 : decode cX13_fills 6 = .ok (.iload 4, 2) := by decide +kernel
theorem dX13_fills_8 : decode cX13_fills 8 = .ok (.iadd, 1) := by decide +kernel
theorem dX13_fills_9 : decode cX13_fills 9 = .ok (.if_icmp .ge 41, 3) := by decide +kernel
theorem dX13_fills_12 : decode cX13_fills 12 = .ok (.iload_n 1, 1) := by decide +kernel
theorem dX13_fills_13 : decode cX13_fills 13 = .ok (.istore 7, 2) := by decide +kernel
theorem dX13_fills_15 : decode cX13_fills 15 = .ok (.iload 7, 2) := by decide +kernel
theorem dX13_fills_17 : decode cX13_fills 17 = .ok (.iload_n 1, 1) := by decide +kernel
theorem dX13_fills_18 : decode cX13_fills 18 = .ok (.iload_n 3, 1) := by decide +kernel
theorem dX13_fills_19 : decode cX13_fills 19 = .ok (.iadd, 1) := by decide +kernel
theorem dX13_fills_20 : decode cX13_fills 20 = .ok (.if_icmp .ge 24, 3) := by decide +kernel
theorem dX13_fills_23 : decode cX13_fills 23 = .ok (.aload_n 0, 1) := by decide +kernel
theorem dX13_fills_24 : decode cX13_fills 24 = .ok (.getfield 29, 3) := by decide +kernel
theorem dX13_fills_27 : decode cX13_fills 27 = .ok (.bipush 16, 2) := by decide +kernel
theorem dX13_fills_29 : decode cX13_fills 29 = .ok (.iload 6, 2) := by decide +kernel
theorem dX13_fills_31 : decode cX13_fills 31 = .ok (.imul, 1) := by decide +kernel
theorem dX13_fills_32 : decode cX13_fills 32 = .ok (.iload 7, 2) := by decide +kernel
theorem dX13_fills_34 : decode cX13_fills 34 = .ok (.iadd, 1) := by decide +kernel
theorem dX13_fills_35 : decode cX13_fills 35 = .ok (.iload 5, 2) := by decide +kernel
theorem dX13_fills_37 : decode cX13_fills 37 = .ok (.iastore, 1) := by decide +kernel
theorem dX13_fills_38 : decode cX13_fills 38 = .ok (.iinc 7 1, 3) := by decide +kernel
theorem dX13_fills_41 : decode cX13_fills 41 = .ok (.goto (-26), 3) := by decide +kernel
theorem dX13_fills_44 : decode cX13_fills 44 = .ok (.iinc 6 1, 3) := by decide +kernel
theorem dX13_fills_47 : decode cX13_fills 47 = .ok (.goto (-44), 3) := by decide +kernel
theorem dX13_fills_50 : decode cX13_fills 50 = .ok (.return_, 1) := by decide +kernel
set_option maxRecDepth 20000 in
theorem ggX13_fill_X13_isCell : GoodIn wsX13_fill wsX13_isCell := goodIn_r _ [6, 7, 8, 9, 5, 10, 40, 41, 42, 43, 44, 45, 46, 47, 48, 49, 50, 51, 52, 53, 54, 55, 56, 57, 58, 59, 60, 61, 62, 63, 64, 65, 66, 67, 68, 69, 70, 71, 72, 73, 74, 75, 76, 77, 78, 79, 80, 81, 82, 83, 84, 85, 86, 87] (by decide +kernel) (by decide +kernel)
set_option maxRecDepth 20000 in
theorem gX13_fill_X13_isCell : GoodIn wsX13_fill (wsV RX13 195 RX13 yX13_isCell wsX13_isCell) := goodIn_app (goodIn_of _ (by decide +kernel)) ggX13_fill_X13_isCell
set_option maxRecDepth 20000 in
theorem ggX13_fill_X13_fits : GoodIn wsX13_fill wsX13_fits := goodIn_r _ [14, 7, 8, 9, 5, 10, 15, 16, 17, 18, 40, 41, 42, 43, 44, 45, 46, 47, 48, 49, 50, 51, 52, 53, 54, 55, 56, 57, 58, 59, 60, 61, 62, 63, 64, 65, 66, 67, 68, 69, 70, 71, 72, 73, 74, 75, 76, 77, 78, 79, 80, 81, 82, 83, 84, 85, 86, 87] (by decide +kernel) (by decide +kernel)
set_option maxRecDepth 20000 in
theorem gX13_fill_X13_fits : GoodIn wsX13_fill (wsV RX13 374 RX13 yX13_fits wsX13_fits) := goodIn_app (goodIn_of _ (by decide +kernel)) ggX13_fill_X13_fits
set_option maxRecDepth 20000 in
theorem ggX13_fill_X13_truth : GoodIn wsX13_fill wsX13_truth := goodIn_r _ [21] (by decide +kernel) (by decide +kernel)
set_option maxRecDepth 20000 in
theorem gX13_fill_X13_truth : GoodIn wsX13_fill (va_wsS RX13 96 yX13_truth wsX13_truth) := goodIn_app (goodIn_of _ (by decide +kernel)) ggX13_fill_X13_truth
set_option maxRecDepth 20000 in
theorem ggX13_fill_X13_laysAside : GoodIn wsX13_fill wsX13_laysAside := goodIn_r _ [25, 26, 27, 28, 29, 40, 41, 42, 43, 44, 45, 46, 47, 48, 49, 50, 51, 52, 53, 54, 55, 56, 57, 58, 59, 60, 61, 62, 63, 64, 65, 66, 67, 68, 69, 70, 71, 72, 73, 74, 75, 76, 77, 78, 79, 80, 81, 82, 83, 84, 85, 86, 87] (by decide +kernel) (by decide +kernel)
set_option maxRecDepth 20000 in
theorem gX13_fill_X13_laysAside : GoodIn wsX13_fill (wsV RX13 314 RX13 yX13_laysAside wsX13_laysAside) := goodIn_app (goodIn_of _ (by decide +kernel)) ggX13_fill_X13_laysAside
set_option maxRecDepth 20000 in
theorem ggX13_fill_X13_fills : GoodIn wsX13_fill wsX13_fills := goodIn_r _ [33, 27, 40, 41, 42, 43, 44, 45, 46, 47, 48, 49, 50, 51, 52, 53, 54, 55, 56, 57, 58, 59, 60, 61, 62, 63, 64, 65, 66, 67, 68, 69, 70, 71, 72, 73, 74, 75, 76, 77, 78, 79, 80, 81, 82, 83, 84, 85, 86, 87] (by decide +kernel) (by decide +kernel)
set_option maxRecDepth 20000 in
theorem gX13_fill_X13_fills : GoodIn wsX13_fill (wsV RX13 378 RX13 yX13_fills wsX13_fills) := goodIn_app (goodIn_of _ (by decide +kernel)) ggX13_fill_X13_fills
set_option maxRecDepth 20000 in
theorem ggX13_fill_X13_keeps : GoodIn wsX13_fill wsX13_keeps := goodIn_r _ [37, 27, 26, 29, 28, 38, 39, 19, 20, 5, 21, 40, 41, 42, 43, 44, 45, 46, 47, 48, 49, 50, 51, 52, 53, 54, 55, 56, 57, 58, 59, 60, 61, 62, 63, 64, 65, 66, 67, 68, 69, 70, 71, 72, 73, 74, 75, 76, 77, 78, 79, 80, 81, 82, 83, 84, 85, 86, 87] (by decide +kernel) (by decide +kernel)
set_option maxRecDepth 20000 in
theorem gX13_fill_X13_keeps : GoodIn wsX13_fill (wsV RX13 368 RX13 yX13_keeps wsX13_keeps) := goodIn_app (goodIn_of _ (by decide +kernel)) ggX13_fill_X13_keeps
theorem dX13_fill_0 : decode cX13_fill 0 = .ok (.aload_n 0, 1) := by decide +kernel
theorem dX13_fill_1 : decode cX13_fill 1 = .ok (.aload_n 0, 1) := by decide +kernel
theorem dX13_fill_2 : decode cX13_fill 2 = .ok (.iload_n 1, 1) := by decide +kernel
theorem dX13_fill_3 : decode cX13_fill 3 = .ok (.iload_n 2, 1) := by decide +kernel
theorem dX13_fill_4 : decode cX13_fill 4 = .ok (.invokevirtual 195, 3) := by decide +kernel
theorem dX13_fill_7 : decode cX13_fill 7 = .ok (.ifCond .ne 7, 3) := by decide +kernel
theorem dX13_fill_10 : decode cX13_fill 10 = .ok (.iconst 1, 1) := by decide +kernel
theorem dX13_fill_11 : decode cX13_fill 11 = .ok (.goto 27, 3) := by decide +kernel
theorem dX13_fill_14 : decode cX13_fill 14 = .ok (.aload_n 0, 1) := by decide +kernel
theorem dX13_fill_15 : decode cX13_fill 15 = .ok (.iload_n 1, 1) := by decide +kernel
theorem dX13_fill_16 : decode cX13_fill 16 = .ok (.iload_n 2, 1) := by decide +kernel
theorem dX13_fill_17 : decode cX13_fill 17 = .ok (.iload_n 3, 1) := by decide +kernel
theorem dX13_fill_18 : decode cX13_fill 18 = .ok (.iload 4, 2) := by decide +kernel
theorem dX13_fill_20 : decode cX13_fill 20 = .ok (.iload 5, 2) := by decide +kernel
theorem dX13_fill_22 : decode cX13_fill 22 = .ok (.invokevirtual 374, 3) := by decide +kernel
theorem dX13_fill_25 : decode cX13_fill 25 = .ok (.ifCond .ne 7, 3) := by decide +kernel
theorem dX13_fill_28 : decode cX13_fill 28 = .ok (.iconst 1, 1) := by decide +kernel
theorem dX13_fill_29 : decode cX13_fill 29 = .ok (.goto 4, 3) := by decide +kernel
theorem dX13_fill_32 : decode cX13_fill 32 = .ok (.iconst 0, 1) := by decide +kernel
theorem dX13_fill_33 : decode cX13_fill 33 = .ok (.invokestatic 96, 3) := by decide +kernel
theorem dX13_fill_36 : decode cX13_fill 36 = .ok (.iconst 2, 1) := by decide +kernel
theorem dX13_fill_37 : decode cX13_fill 37 = .ok (.imul, 1) := by decide +kernel
theorem dX13_fill_38 : decode cX13_fill 38 = .ok (.putfield 93, 3) := by decide +kernel
theorem dX13_fill_41 : decode cX13_fill 41 = .ok (.aload_n 0, 1) := by decide +kernel
theorem dX13_fill_42 : decode cX13_fill 42 = .ok (.getfield 93, 3) := by decide +kernel
theorem dX13_fill_45 : decode cX13_fill 45 = .ok (.ifCond .le 5, 3) := by decide +kernel
theorem dX13_fill_48 : decode cX13_fill 48 = .ok (.iconst 0, 1) := by decide +kernel
theorem dX13_fill_49 : decode cX13_fill 49 = .ok (.ireturn, 1) := by decide +kernel
theorem dX13_fill_50 : decode cX13_fill 50 = .ok (.aload_n 0, 1) := by decide +kernel
theorem dX13_fill_51 : decode cX13_fill 51 = .ok (.invokevirtual 314, 3) := by decide +kernel
theorem dX13_fill_54 : decode cX13_fill 54 = .ok (.aload_n 0, 1) := by decide +kernel
theorem dX13_fill_55 : decode cX13_fill 55 = .ok (.iload_n 1, 1) := by decide +kernel
theorem dX13_fill_56 : decode cX13_fill 56 = .ok (.iload_n 2, 1) := by decide +kernel
theorem dX13_fill_57 : decode cX13_fill 57 = .ok (.iload_n 3, 1) := by decide +kernel
theorem dX13_fill_58 : decode cX13_fill 58 = .ok (.iload 4, 2) := by decide +kernel
theorem dX13_fill_60 : decode cX13_fill 60 = .ok (.iload 5, 2) := by decide +kernel
theorem dX13_fill_62 : decode cX13_fill 62 = .ok (.invokevirtual 378, 3) := by decide +kernel
theorem dX13_fill_65 : decode cX13_fill 65 = .ok (.aload_n 0, 1) := by decide +kernel
theorem dX13_fill_66 : decode cX13_fill 66 = .ok (.invokevirtual 368, 3) := by decide +kernel
theorem dX13_fill_69 : decode cX13_fill 69 = .ok (.ireturn, 1) := by decide +kernel
set_option maxRecDepth 20000 in
theorem ggX13_repair_X13_laysAside : GoodIn wsX13_repair wsX13_laysAside := goodIn_r _ [6, 7, 8, 9, 10, 57, 58, 59, 60, 61, 62, 63, 64, 65, 66, 67, 68, 69, 70, 71, 72, 73, 74, 75, 76, 77, 78, 79, 80, 81, 82, 83, 84, 85, 86, 87, 88, 89, 90, 91, 92, 93, 94, 95, 96, 97, 98, 99, 100, 101, 102, 103, 104] (by decide +kernel) (by decide +kernel)
set_option maxRecDepth 20000 in
theorem gX13_repair_X13_laysAside : GoodIn wsX13_repair (wsV RX13 314 RX13 yX13_laysAside wsX13_laysAside) := goodIn_app (goodIn_of _ (by decide +kernel)) ggX13_repair_X13_laysAside
set_option maxRecDepth 20000 in
theorem ggX13_repair_X13_repairs : GoodIn wsX13_repair wsX13_repairs := goodIn_r _ [14, 8, 15, 16, 17, 18, 5, 19, 20, 21, 22, 23, 24, 25, 26, 27, 28, 29, 30, 31, 32, 33, 34, 35, 36, 37, 38, 39, 40, 41, 42, 43, 44, 45, 46, 47, 48, 49, 50, 57, 58, 59, 60, 61, 62, 63, 64, 65, 66, 67, 68, 69, 70, 71, 72, 73, 74, 75, 76, 77, 78, 79, 80, 81, 82, 83, 84, 85, 86, 87, 88, 89, 90, 91, 92, 93, 94, 95, 96, 97, 98, 99, 100, 101, 102, 103, 104] (by decide +kernel) (by decide +kernel)
set_option maxRecDepth 20000 in
theorem gX13_repair_X13_repairs : GoodIn wsX13_repair (wsV RX13 317 RX13 yX13_repairs wsX13_repairs) := goodIn_app (goodIn_of _ (by decide +kernel)) ggX13_repair_X13_repairs
set_option maxRecDepth 20000 in
theorem ggX13_repair_X13_keeps : GoodIn wsX13_repair wsX13_keeps := goodIn_r _ [54, 8, 7, 10, 9, 55, 56, 48, 49, 5, 50, 57, 58, 59, 60, 61, 62, 63, 64, 65, 66, 67, 68, 69, 70, 71, 72, 73, 74, 75, 76, 77, 78, 79, 80, 81, 82, 83, 84, 85, 86, 87, 88, 89, 90, 91, 92, 93, 94, 95, 96, 97, 98, 99, 100, 101, 102, 103, 104] (by decide +kernel) (by decide +kernel)
set_option maxRecDepth 20000 in
theorem gX13_repair_X13_keeps : GoodIn wsX13_repair (wsV RX13 368 RX13 yX13_keeps wsX13_keeps) := goodIn_app (goodIn_of _ (by decide +kernel)) ggX13_repair_X13_keeps
theorem dX13_repair_0 : decode cX13_repair 0 = .ok (.aload_n 0, 1) := by decide +kernel
theorem dX13_repair_1 : decode cX13_repair 1 = .ok (.iconst 0, 1) := by decide +kernel
theorem dX13_repair_2 : decode cX13_repair 2 = .ok (.putfield 93, 3) := by decide +kernel
theorem dX13_repair_5 : decode cX13_repair 5 = .ok (.aload_n 0, 1) := by decide +kernel
theorem dX13_repair_6 : decode cX13_repair 6 = .ok (.invokevirtual 314, 3) := by decide +kernel
theorem dX13_repair_9 : decode cX13_repair 9 = .ok (.aload_n 0, 1) := by decide +kernel
theorem dX13_repair_10 : decode cX13_repair 10 = .ok (.invokevirtual 317, 3) := by decide +kernel
theorem dX13_repair_13 : decode cX13_repair 13 = .ok (.istore_n 1, 1) := by decide +kernel
theorem dX13_repair_14 : decode cX13_repair 14 = .ok (.aload_n 0, 1) := by decide +kernel
theorem dX13_repair_15 : decode cX13_repair 15 = .ok (.invokevirtual 368, 3) := by decide +kernel
theorem dX13_repair_18 : decode cX13_repair 18 = .ok (.istore_n 2, 1) := by decide +kernel
theorem dX13_repair_19 : decode cX13_repair 19 = .ok (.iload_n 1, 1) := by decide +kernel
theorem dX13_repair_20 : decode cX13_repair 20 = .ok (.ireturn, 1) := by decide +kernel
set_option maxRecDepth 20000 in
theorem ggX13_flatAt_X13_cellMany : GoodIn wsX13_flatAt wsX13_cellMany := goodIn_r _ [7, 2, 18, 19, 20, 21, 22, 23, 24, 25, 26, 27, 28, 29, 30, 31, 32, 33, 34, 35, 36, 37, 38, 39, 40, 41, 42, 43, 44, 45, 46, 47, 48, 49, 50, 51, 52, 53, 54, 55, 56, 57, 58, 59, 60, 61, 62, 63, 64, 65] (by decide +kernel) (by decide +kernel)
set_option maxRecDepth 20000 in
theorem gX13_flatAt_X13_cellMany : GoodIn wsX13_flatAt (wsV RX13 251 RX13 yX13_cellMany wsX13_cellMany) := goodIn_app (goodIn_of _ (by decide +kernel)) ggX13_flatAt_X13_cellMany
set_option maxRecDepth 20000 in
theorem ggX13_flatAt_X13_cellAt : GoodIn wsX13_flatAt wsX13_cellAt := goodIn_r _ [11, 2, 18, 19, 20, 21, 22, 23, 24, 25, 26, 27, 28, 29, 30, 31, 32, 33, 34, 35, 36, 37, 38, 39, 40, 41, 42, 43, 44, 45, 46, 47, 48, 49, 50, 51, 52, 53, 54, 55, 56, 57, 58, 59, 60, 61, 62, 63, 64, 65] (by decide +kernel) (by decide +kernel)
set_option maxRecDepth 20000 in
theorem gX13_flatAt_X13_cellAt : GoodIn wsX13_flatAt (wsV RX13 255 RX13 yX13_cellAt wsX13_cellAt) := goodIn_app (goodIn_of _ (by decide +kernel)) ggX13_flatAt_X13_cellAt
set_option maxRecDepth 20000 in
theorem ggX13_flatAt_X13_far : GoodIn wsX13_flatAt wsX13_far := goodIn_r _ [14] (by decide +kernel) (by decide +kernel)
set_option maxRecDepth 20000 in
theorem gX13_flatAt_X13_far : GoodIn wsX13_flatAt (va_wsS RX13 261 yX13_far wsX13_far) := goodIn_app (goodIn_of _ (by decide +kernel)) ggX13_flatAt_X13_far
set_option maxRecDepth 20000 in
theorem ggX13_flatAt_X13_more : GoodIn wsX13_flatAt wsX13_more := goodIn_r _ [17] (by decide +kernel) (by decide +kernel)
set_option maxRecDepth 20000 in
theorem gX13_flatAt_X13_more : GoodIn wsX13_flatAt (va_wsS RX13 264 yX13_more wsX13_more) := goodIn_app (goodIn_of _ (by decide +kernel)) ggX13_flatAt_X13_more
theorem dX13_flatAt_0 : decode cX13_flatAt 0 = .ok (.aload_n 0, 1) := by decide +kernel
theorem dX13_flatAt_1 : decode cX13_flatAt 1 = .ok (.getfield 29, 3) := by decide +kernel
theorem dX13_flatAt_4 : decode cX13_flatAt 4 = .ok (.bipush 16, 2) := by decide +kernel
theorem dX13_flatAt_6 : decode cX13_flatAt 6 = .ok (.iload_n 2, 1) := by decide +kernel
theorem dX13_flatAt_7 : decode cX13_flatAt 7 = .ok (.imul, 1) := by decide +kernel
theorem dX13_flatAt_8 : decode cX13_flatAt 8 = .ok (.iload_n 1, 1) := by decide +kernel
theorem dX13_flatAt_9 : decode cX13_flatAt 9 = .ok (.iadd, 1) := by decide +kernel
theorem dX13_flatAt_10 : decode cX13_flatAt 10 = .ok (.iaload, 1) := by decide +kernel
theorem dX13_flatAt_11 : decode cX13_flatAt 11 = .ok (.istore 4, 2) := by decide +kernel
theorem dX13_flatAt_13 : decode cX13_flatAt 13 = .ok (.iconst 0, 1) := by decide +kernel
theorem dX13_flatAt_14 : decode cX13_flatAt 14 = .ok (.istore 5, 2) := by decide +kernel
theorem dX13_flatAt_16 : decode cX13_flatAt 16 = .ok (.iload 5, 2) := by decide +kernel
theorem dX13_flatAt_18 : decode cX13_flatAt 18 = .ok (.aload_n 0, 1) := by decide +kernel
theorem dX13_flatAt_19 : decode cX13_flatAt 19 = .ok (.invokevirtual 251, 3) := by decide +kernel
theorem dX13_flatAt_22 : decode cX13_flatAt 22 = .ok (.if_icmp .ge 59, 3) := by decide +kernel
theorem dX13_flatAt_25 : decode cX13_flatAt 25 = .ok (.iload 4, 2) := by decide +kernel
theorem dX13_flatAt_27 : decode cX13_flatAt 27 = .ok (.aload_n 0, 1) := by decide +kernel
theorem dX13_flatAt_28 : decode cX13_flatAt 28 = .ok (.getfield 29, 3) := by decide +kernel
theorem dX13_flatAt_31 : decode cX13_flatAt 31 = .ok (.aload_n 0, 1) := by decide +kernel
theorem dX13_flatAt_32 : decode cX13_flatAt 32 = .ok (.iload 5, 2) := by decide +kernel
theorem dX13_flatAt_34 : decode cX13_flatAt 34 = .ok (.invokevirtual 255, 3) := by decide +kernel
theorem dX13_flatAt_37 : decode cX13_flatAt 37 = .ok (.iaload, 1) := by decide +kernel
theorem dX13_flatAt_38 : decode cX13_flatAt 38 = .ok (.iload_n 3, 1) := by decide +kernel
theorem dX13_flatAt_39 : decode cX13_flatAt 39 = .ok (.iload 5, 2) := by decide +kernel
theorem dX13_flatAt_41 : decode cX13_flatAt 41 = .ok (.aload_n 0, 1) := by decide +kernel
theorem dX13_flatAt_42 : decode cX13_flatAt 42 = .ok (.getfield 20, 3) := by decide +kernel
theorem dX13_flatAt_45 : decode cX13_flatAt 45 = .ok (.iconst 0, 1) := by decide +kernel
theorem dX13_flatAt_46 : decode cX13_flatAt 46 = .ok (.iaload, 1) := by decide +kernel
theorem dX13_flatAt_47 : decode cX13_flatAt 47 = .ok (.irem, 1) := by decide +kernel
theorem dX13_flatAt_48 : decode cX13_flatAt 48 = .ok (.iload_n 1, 1) := by decide +kernel
theorem dX13_flatAt_49 : decode cX13_flatAt 49 = .ok (.isub, 1) := by decide +kernel
theorem dX13_flatAt_50 : decode cX13_flatAt 50 = .ok (.invokestatic 261, 3) := by decide +kernel
theorem dX13_flatAt_53 : decode cX13_flatAt 53 = .ok (.iload 5, 2) := by decide +kernel
theorem dX13_flatAt_55 : decode cX13_flatAt 55 = .ok (.aload_n 0, 1) := by decide +kernel
theorem dX13_flatAt_56 : decode cX13_flatAt 56 = .ok (.getfield 20, 3) := by decide +kernel
theorem dX13_flatAt_59 : decode cX13_flatAt 59 = .ok (.iconst 0, 1) := by decide +kernel
theorem dX13_flatAt_60 : decode cX13_flatAt 60 = .ok (.iaload, 1) := by decide +kernel
theorem dX13_flatAt_61 : decode cX13_flatAt 61 = .ok (.idiv, 1) := by decide +kernel
theorem dX13_flatAt_62 : decode cX13_flatAt 62 = .ok (.iload_n 2, 1) := by decide +kernel
theorem dX13_flatAt_63 : decode cX13_flatAt 63 = .ok (.isub, 1) := by decide +kernel
theorem dX13_flatAt_64 : decode cX13_flatAt 64 = .ok (.invokestatic 261, 3) := by decide +kernel
theorem dX13_flatAt_67 : decode cX13_flatAt 67 = .ok (.iadd, 1) := by decide +kernel
theorem dX13_flatAt_68 : decode cX13_flatAt 68 = .ok (.imul, 1) := by decide +kernel
theorem dX13_flatAt_69 : decode cX13_flatAt 69 = .ok (.isub, 1) := by decide +kernel
theorem dX13_flatAt_70 : decode cX13_flatAt 70 = .ok (.invokestatic 264, 3) := by decide +kernel
theorem dX13_flatAt_73 : decode cX13_flatAt 73 = .ok (.istore 4, 2) := by decide +kernel
theorem dX13_flatAt_75 : decode cX13_flatAt 75 = .ok (.iinc 5 1, 3) := by decide +kernel
theorem dX13_flatAt_78 : decode cX13_flatAt 78 = .ok (.goto (-62), 3) := by decide +kernel
theorem dX13_flatAt_81 : decode cX13_flatAt 81 = .ok (.iload 4, 2) := by decide +kernel
theorem dX13_flatAt_83 : decode cX13_flatAt 83 = .ok (.ireturn, 1) := by decide +kernel
set_option maxRecDepth 20000 in
theorem ggX13_smooths_X13_cellMany : GoodIn wsX13_smooths wsX13_cellMany := goodIn_r _ [8, 2, 23, 24, 25, 26, 27, 28, 29, 30, 31, 32, 33, 34, 35, 36, 37, 38, 39, 40, 41, 42, 43, 44, 45, 46, 47, 48, 49, 50, 51, 52, 53, 54, 55, 56, 57, 58, 59, 60, 61, 62, 63, 64, 65, 66, 67, 68, 69, 70] (by decide +kernel) (by decide +kernel)
set_option maxRecDepth 20000 in
theorem gX13_smooths_X13_cellMany : GoodIn wsX13_smooths (wsV RX13 251 RX13 yX13_cellMany wsX13_cellMany) := goodIn_app (goodIn_of _ (by decide +kernel)) ggX13_smooths_X13_cellMany
set_option maxRecDepth 20000 in
theorem ggX13_smooths_X13_cellAt : GoodIn wsX13_smooths wsX13_cellAt := goodIn_r _ [12, 2, 23, 24, 25, 26, 27, 28, 29, 30, 31, 32, 33, 34, 35, 36, 37, 38, 39, 40, 41, 42, 43, 44, 45, 46, 47, 48, 49, 50, 51, 52, 53, 54, 55, 56, 57, 58, 59, 60, 61, 62, 63, 64, 65, 66, 67, 68, 69, 70] (by decide +kernel) (by decide +kernel)
set_option maxRecDepth 20000 in
theorem gX13_smooths_X13_cellAt : GoodIn wsX13_smooths (wsV RX13 255 RX13 yX13_cellAt wsX13_cellAt) := goodIn_app (goodIn_of _ (by decide +kernel)) ggX13_smooths_X13_cellAt
set_option maxRecDepth 20000 in
theorem ggX13_smooths_X13_flatAt : GoodIn wsX13_smooths wsX13_flatAt := goodIn_r _ [16, 3, 2, 4, 5, 6, 7, 8, 9, 10, 11, 12, 17, 18, 19, 20, 21, 22, 23, 24, 25, 26, 27, 28, 29, 30, 31, 32, 33, 34, 35, 36, 37, 38, 39, 40, 41, 42, 43, 44, 45, 46, 47, 48, 49, 50, 51, 52, 53, 54, 55, 56, 57, 58, 59, 60, 61, 62, 63, 64, 65, 66, 67, 68, 69, 70] (by decide +kernel) (by decide +kernel)
set_option maxRecDepth 20000 in
theorem gX13_smooths_X13_flatAt : GoodIn wsX13_smooths (wsV RX13 382 RX13 yX13_flatAt wsX13_flatAt) := goodIn_app (goodIn_of _ (by decide +kernel)) ggX13_smooths_X13_flatAt
theorem dX13_smooths_0 : decode cX13_smooths 0 = .ok (.iconst 0, 1) := by decide +kernel
theorem dX13_smooths_1 : decode cX13_smooths 1 = .ok (.istore_n 2, 1) := by decide +kernel
theorem dX13_smooths_2 : decode cX13_smooths 2 = .ok (.iload_n 2, 1) := by decide +kernel
theorem dX13_smooths_3 : decode cX13_smooths 3 = .ok (.aload_n 0, 1) := by decide +kernel
theorem dX13_smooths_4 : decode cX13_smooths 4 = .ok (.invokevirtual 251, 3) := by decide +kernel
theorem dX13_smooths_7 : decode cX13_smooths 7 = .ok (.if_icmp .ge 40, 3) := by decide +kernel
theorem dX13_smooths_10 : decode cX13_smooths 10 = .ok (.aload_n 0, 1) := by decide +kernel
theorem dX13_smooths_11 : decode cX13_smooths 11 = .ok (.getfield 51, 3) := by decide +kernel
theorem dX13_smooths_14 : decode cX13_smooths 14 = .ok (.aload_n 0, 1) := by decide +kernel
theorem dX13_smooths_15 : decode cX13_smooths 15 = .ok (.iload_n 2, 1) := by decide +kernel
theorem dX13_smooths_16 : decode cX13_smooths 16 = .ok (.invokevirtual 255, 3) := by decide +kernel
theorem dX13_smooths_19 : decode cX13_smooths 19 = .ok (.aload_n 0, 1) := by decide +kernel
theorem dX13_smooths_20 : decode cX13_smooths 20 = .ok (.iload_n 2, 1) := by decide +kernel
theorem dX13_smooths_21 : decode cX13_smooths 21 = .ok (.aload_n 0, 1) := by decide +kernel
theorem dX13_smooths_22 : decode cX13_smooths 22 = .ok (.getfield 20, 3) := by decide +kernel
theorem dX13_smooths_25 : decode cX13_smooths 25 = .ok (.iconst 0, 1) := by decide +kernel
theorem dX13_smooths_26 : decode cX13_smooths 26 = .ok (.iaload, 1) := by decide +kernel
theorem dX13_smooths_27 : decode cX13_smooths 27 = .ok (.irem, 1) := by decide +kernel
theorem dX13_smooths_28 : decode cX13_smooths 28 = .ok (.iload_n 2, 1) := by decide +kernel
theorem dX13_smooths_29 : decode cX13_smooths 29 = .ok (.aload_n 0, 1) := by decide +kernel
theorem dX13_smooths_30 : decode cX13_smooths 30 = .ok (.getfield 20, 3) := by decide +kernel
theorem dX13_smooths_33 : decode cX13_smooths 33 = .ok (.iconst 0, 1) := by decide +kernel
theorem dX13_smooths_34 : decode cX13_smooths 34 = .ok (.iaload, 1) := by decide +kernel
theorem dX13_smooths_35 : decode cX13_smooths 35 = .ok (.idiv, 1) := by decide +kernel
theorem dX13_smooths_36 : decode cX13_smooths 36 = .ok (.iload_n 1, 1) := by decide +kernel
theorem dX13_smooths_37 : decode cX13_smooths 37 = .ok (.invokevirtual 382, 3) := by decide +kernel
theorem dX13_smooths_40 : decode cX13_smooths 40 = .ok (.iastore, 1) := by decide +kernel
theorem dX13_smooths_41 : decode cX13_smooths 41 = .ok (.iinc 2 1, 3) := by decide +kernel
theorem dX13_smooths_44 : decode cX13_smooths 44 = .ok (.goto (-42), 3) := by decide +kernel
theorem dX13_smooths_47 : decode cX13_smooths 47 = .ok (.iconst 0, 1) := by decide +kernel
