theorem dX13_shortest_66 : decode cX13_shortest 66 = .ok (.iaload, 1) := by decide +kernel
theorem dX13_shortest_67 : decode cX13_shortest 67 = .ok (.idiv, 1) := by decide +kernel
theorem dX13_shortest_68 : decode cX13_shortest 68 = .ok (.invokevirtual 336, 3) := by decide +kernel
theorem dX13_shortest_71 : decode cX13_shortest 71 = .ok (.goto 4, 3) := by decide +kernel
theorem dX13_shortest_74 : decode cX13_shortest 74 = .ok (.iconst 0, 1) := by decide +kernel
theorem dX13_shortest_75 : decode cX13_shortest 75 = .ok (.istore 4, 2) := by decide +kernel
theorem dX13_shortest_77 : decode cX13_shortest 77 = .ok (.iload 4, 2) := by decide +kernel
theorem dX13_shortest_79 : decode cX13_shortest 79 = .ok (.ifCond .le 16, 3) := by decide +kernel
theorem dX13_shortest_82 : decode cX13_shortest 82 = .ok (.iload_n 2, 1) := by decide +kernel
theorem dX13_shortest_83 : decode cX13_shortest 83 = .ok (.ifCond .eq 9, 3) := by decide +kernel
theorem dX13_shortest_86 : decode cX13_shortest 86 = .ok (.iload 4, 2) := by decide +kernel
theorem dX13_shortest_88 : decode cX13_shortest 88 = .ok (.iload_n 2, 1) := by decide +kernel
theorem dX13_shortest_89 : decode cX13_shortest 89 = .ok (.if_icmp .ge 6, 3) := by decide +kernel
theorem dX13_shortest_92 : decode cX13_shortest 92 = .ok (.iload 4, 2) := by decide +kernel
theorem dX13_shortest_94 : decode cX13_shortest 94 = .ok (.istore_n 2, 1) := by decide +kernel
theorem dX13_shortest_95 : decode cX13_shortest 95 = .ok (.iinc 3 1, 3) := by decide +kernel
theorem dX13_shortest_98 : decode cX13_shortest 98 = .ok (.goto (-80), 3) := by decide +kernel
theorem dX13_shortest_101 : decode cX13_shortest 101 = .ok (.iload_n 2, 1) := by decide +kernel
theorem dX13_shortest_102 : decode cX13_shortest 102 = .ok (.ireturn, 1) := by decide +kernel
set_option maxRecDepth 20000 in
theorem ggX13_allRectangles_X13_rectanglesOf : GoodIn wsX13_allRectangles wsX13_rectanglesOf := goodIn_r _ [7, 2, 8, 9, 10, 6, 11, 12, 13, 14, 15, 16, 17, 18, 19, 20, 21, 22, 23, 24, 25, 26, 27, 28, 29, 30, 31, 32, 33, 34, 35, 36, 37, 38, 39, 40, 41, 42, 43, 44, 45, 46, 47, 48, 49, 50, 51, 52, 53, 54, 55, 56, 57, 58, 59, 60, 61, 62, 63, 64, 65, 66, 67, 68, 69, 70, 71, 72, 73, 74, 75, 76, 77, 78, 79, 80, 81, 82, 83, 84, 85, 86, 87, 88, 89, 90] (by decide +kernel) (by decide +kernel)
set_option maxRecDepth 20000 in
theorem gX13_allRectangles_X13_rectanglesOf : GoodIn wsX13_allRectangles (wsV RX13 346 RX13 yX13_rectanglesOf wsX13_rectanglesOf) := goodIn_app (goodIn_of _ (by decide +kernel)) ggX13_allRectangles_X13_rectanglesOf
theorem dX13_allRectangles_0 : decode cX13_allRectangles 0 = .ok (.aload_n 0, 1) := by decide +kernel
theorem dX13_allRectangles_1 : decode cX13_allRectangles 1 = .ok (.iconst 0, 1) := by decide +kernel
theorem dX13_allRectangles_2 : decode cX13_allRectangles 2 = .ok (.putfield 93, 3) := by decide +kernel
theorem dX13_allRectangles_5 : decode cX13_allRectangles 5 = .ok (.iconst 0, 1) := by decide +kernel
theorem dX13_allRectangles_6 : decode cX13_allRectangles 6 = .ok (.istore_n 1, 1) := by decide +kernel
theorem dX13_allRectangles_7 : decode cX13_allRectangles 7 = .ok (.iconst 1, 1) := by decide +kernel
theorem dX13_allRectangles_8 : decode cX13_allRectangles 8 = .ok (.istore_n 2, 1) := by decide +kernel
theorem dX13_allRectangles_9 : decode cX13_allRectangles 9 = .ok (.iload_n 2, 1) := by decide +kernel
theorem dX13_allRectangles_10 : decode cX13_allRectangles 10 = .ok (.aload_n 0, 1) := by decide +kernel
theorem dX13_allRectangles_11 : decode cX13_allRectangles 11 = .ok (.getfield 20, 3) := by decide +kernel
theorem dX13_allRectangles_14 : decode cX13_allRectangles 14 = .ok (.iconst 2, 1) := by decide +kernel
theorem dX13_allRectangles_15 : decode cX13_allRectangles 15 = .ok (.iaload, 1) := by decide +kernel
theorem dX13_allRectangles_16 : decode cX13_allRectangles 16 = .ok (.if_icmp .gt 17, 3) := by decide +kernel
theorem dX13_allRectangles_19 : decode cX13_allRectangles 19 = .ok (.iload_n 1, 1) := by decide +kernel
theorem dX13_allRectangles_20 : decode cX13_allRectangles 20 = .ok (.aload_n 0, 1) := by decide +kernel
theorem dX13_allRectangles_21 : decode cX13_allRectangles 21 = .ok (.iload_n 2, 1) := by decide +kernel
theorem dX13_allRectangles_22 : decode cX13_allRectangles 22 = .ok (.invokevirtual 346, 3) := by decide +kernel
theorem dX13_allRectangles_25 : decode cX13_allRectangles 25 = .ok (.iadd, 1) := by decide +kernel
theorem dX13_allRectangles_26 : decode cX13_allRectangles 26 = .ok (.istore_n 1, 1) := by decide +kernel
theorem dX13_allRectangles_27 : decode cX13_allRectangles 27 = .ok (.iinc 2 1, 3) := by decide +kernel
theorem dX13_allRectangles_30 : decode cX13_allRectangles 30 = .ok (.goto (-21), 3) := by decide +kernel
theorem dX13_allRectangles_33 : decode cX13_allRectangles 33 = .ok (.iload_n 1, 1) := by decide +kernel
theorem dX13_allRectangles_34 : decode cX13_allRectangles 34 = .ok (.ireturn, 1) := by decide +kernel
set_option maxRecDepth 20000 in
theorem ggX13_outline_X13_isLayer : GoodIn wsX13_outline wsX13_isLayer := goodIn_r _ [6, 1, 7, 8, 5, 9, 31, 32, 33, 34, 35, 36, 37, 38, 39, 40, 41, 42, 43, 44, 45, 46, 47, 48, 49, 50, 51, 52, 53, 54, 55, 56, 57, 58, 59, 60, 61, 62, 63, 64, 65, 66, 67, 68, 69, 70, 71, 72, 73, 74, 75, 76, 77, 78] (by decide +kernel) (by decide +kernel)
set_option maxRecDepth 20000 in
theorem gX13_outline_X13_isLayer : GoodIn wsX13_outline (wsV RX13 327 RX13 yX13_isLayer wsX13_isLayer) := goodIn_app (goodIn_of _ (by decide +kernel)) ggX13_outline_X13_isLayer
set_option maxRecDepth 20000 in
theorem ggX13_outline_X13_goes : GoodIn wsX13_outline wsX13_goes := goodIn_r _ [13, 14, 15, 16, 5, 17, 31, 32, 33, 34, 35, 36, 37, 38, 39, 40, 41, 42, 43, 44, 45, 46, 47, 48, 49, 50, 51, 52, 53, 54, 55, 56, 57, 58, 59, 60, 61, 62, 63, 64, 65, 66, 67, 68, 69, 70, 71, 72, 73, 74, 75, 76, 77, 78] (by decide +kernel) (by decide +kernel)
set_option maxRecDepth 20000 in
theorem gX13_outline_X13_goes : GoodIn wsX13_outline (wsV RX13 103 RX13 yX13_goes wsX13_goes) := goodIn_app (goodIn_of _ (by decide +kernel)) ggX13_outline_X13_goes
set_option maxRecDepth 20000 in
theorem ggX13_outline_X13_cellMany : GoodIn wsX13_outline wsX13_cellMany := goodIn_r _ [21, 1, 31, 32, 33, 34, 35, 36, 37, 38, 39, 40, 41, 42, 43, 44, 45, 46, 47, 48, 49, 50, 51, 52, 53, 54, 55, 56, 57, 58, 59, 60, 61, 62, 63, 64, 65, 66, 67, 68, 69, 70, 71, 72, 73, 74, 75, 76, 77, 78] (by decide +kernel) (by decide +kernel)
set_option maxRecDepth 20000 in
theorem gX13_outline_X13_cellMany : GoodIn wsX13_outline (wsV RX13 251 RX13 yX13_cellMany wsX13_cellMany) := goodIn_app (goodIn_of _ (by decide +kernel)) ggX13_outline_X13_cellMany
set_option maxRecDepth 20000 in
theorem ggX13_outline_X13_isOf : GoodIn wsX13_outline wsX13_isOf := goodIn_r _ [25, 26, 27, 28, 29, 5, 30, 1, 7, 8, 9, 31, 32, 33, 34, 35, 36, 37, 38, 39, 40, 41, 42, 43, 44, 45, 46, 47, 48, 49, 50, 51, 52, 53, 54, 55, 56, 57, 58, 59, 60, 61, 62, 63, 64, 65, 66, 67, 68, 69, 70, 71, 72, 73, 74, 75, 76, 77, 78] (by decide +kernel) (by decide +kernel)
set_option maxRecDepth 20000 in
theorem gX13_outline_X13_isOf : GoodIn wsX13_outline (wsV RX13 330 RX13 yX13_isOf wsX13_isOf) := goodIn_app (goodIn_of _ (by decide +kernel)) ggX13_outline_X13_isOf
set_option maxRecDepth 20000 in
theorem ggX13_outline_X13_truth : GoodIn wsX13_outline wsX13_truth := goodIn_r _ [17] (by decide +kernel) (by decide +kernel)
set_option maxRecDepth 20000 in
theorem gX13_outline_X13_truth : GoodIn wsX13_outline (va_wsS RX13 96 yX13_truth wsX13_truth) := goodIn_app (goodIn_of _ (by decide +kernel)) ggX13_outline_X13_truth
theorem dX13_outline_0 : decode cX13_outline 0 = .ok (.aload_n 0, 1) := by decide +kernel
theorem dX13_outline_1 : decode cX13_outline 1 = .ok (.aload_n 0, 1) := by decide +kernel
theorem dX13_outline_2 : decode cX13_outline 2 = .ok (.iload_n 1, 1) := by decide +kernel
theorem dX13_outline_3 : decode cX13_outline 3 = .ok (.invokevirtual 327, 3) := by decide +kernel
theorem dX13_outline_6 : decode cX13_outline 6 = .ok (.invokevirtual 103, 3) := by decide +kernel
theorem dX13_outline_9 : decode cX13_outline 9 = .ok (.ifCond .ne 5, 3) := by decide +kernel
theorem dX13_outline_12 : decode cX13_outline 12 = .ok (.iconst 0, 1) := by decide +kernel
theorem dX13_outline_13 : decode cX13_outline 13 = .ok (.ireturn, 1) := by decide +kernel
theorem dX13_outline_14 : decode cX13_outline 14 = .ok (.iconst 0, 1) := by decide +kernel
theorem dX13_outline_15 : decode cX13_outline 15 = .ok (.istore_n 2, 1) := by decide +kernel
theorem dX13_outline_16 : decode cX13_outline 16 = .ok (.iconst 0, 1) := by decide +kernel
theorem dX13_outline_17 : decode cX13_outline 17 = .ok (.istore_n 3, 1) := by decide +kernel
theorem dX13_outline_18 : decode cX13_outline 18 = .ok (.iload_n 3, 1) := by decide +kernel
theorem dX13_outline_19 : decode cX13_outline 19 = .ok (.aload_n 0, 1) := by decide +kernel
theorem dX13_outline_20 : decode cX13_outline 20 = .ok (.invokevirtual 251, 3) := by decide +kernel
theorem dX13_outline_23 : decode cX13_outline 23 = .ok (.if_icmp .ge 135, 3) := by decide +kernel
theorem dX13_outline_26 : decode cX13_outline 26 = .ok (.iload_n 3, 1) := by decide +kernel
theorem dX13_outline_27 : decode cX13_outline 27 = .ok (.aload_n 0, 1) := by decide +kernel
theorem dX13_outline_28 : decode cX13_outline 28 = .ok (.getfield 20, 3) := by decide +kernel
theorem dX13_outline_31 : decode cX13_outline 31 = .ok (.iconst 0, 1) := by decide +kernel
theorem dX13_outline_32 : decode cX13_outline 32 = .ok (.iaload, 1) := by decide +kernel
theorem dX13_outline_33 : decode cX13_outline 33 = .ok (.irem, 1) := by decide +kernel
theorem dX13_outline_34 : decode cX13_outline 34 = .ok (.istore 4, 2) := by decide +kernel
theorem dX13_outline_36 : decode cX13_outline 36 = .ok (.iload_n 3, 1) := by decide +kernel
theorem dX13_outline_37 : decode cX13_outline 37 = .ok (.aload_n 0, 1) := by decide +kernel
theorem dX13_outline_38 : decode cX13_outline 38 = .ok (.getfield 20, 3) := by decide +kernel
theorem dX13_outline_41 : decode cX13_outline 41 = .ok (.iconst 0, 1) := by decide +kernel
theorem dX13_outline_42 : decode cX13_outline 42 = .ok (.iaload, 1) := by decide +kernel
theorem dX13_outline_43 : decode cX13_outline 43 = .ok (.idiv, 1) := by decide +kernel
theorem dX13_outline_44 : decode cX13_outline 44 = .ok (.istore 5, 2) := by decide +kernel
theorem dX13_outline_46 : decode cX13_outline 46 = .ok (.aload_n 0, 1) := by decide +kernel
theorem dX13_outline_47 : decode cX13_outline 47 = .ok (.iload_n 1, 1) := by decide +kernel
theorem dX13_outline_48 : decode cX13_outline 48 = .ok (.iload 4, 2) := by decide +kernel
theorem dX13_outline_50 : decode cX13_outline 50 = .ok (.iload 5, 2) := by decide +kernel
theorem dX13_outline_52 : decode cX13_outline 52 = .ok (.invokevirtual 330, 3) := by decide +kernel
theorem dX13_outline_55 : decode cX13_outline 55 = .ok (.ifCond .eq 97, 3) := by decide +kernel
theorem dX13_outline_58 : decode cX13_outline 58 = .ok (.iload_n 2, 1) := by decide +kernel
theorem dX13_outline_59 : decode cX13_outline 59 = .ok (.aload_n 0, 1) := by decide +kernel
theorem dX13_outline_60 : decode cX13_outline 60 = .ok (.iload_n 1, 1) := by decide +kernel
theorem dX13_outline_61 : decode cX13_outline 61 = .ok (.iload 4, 2) := by decide +kernel
theorem dX13_outline_63 : decode cX13_outline 63 = .ok (.iconst 1, 1) := by decide +kernel
theorem dX13_outline_64 : decode cX13_outline 64 = .ok (.isub, 1) := by decide +kernel
theorem dX13_outline_65 : decode cX13_outline 65 = .ok (.iload 5, 2) := by decide +kernel
theorem dX13_outline_67 : decode cX13_outline 67 = .ok (.invokevirtual 330, 3) := by decide +kernel
theorem dX13_outline_70 : decode cX13_outline 70 = .ok (.ifCond .ne 7, 3) := by decide +kernel
theorem dX13_outline_73 : decode cX13_outline 73 = .ok (.iconst 1, 1) := by decide +kernel
theorem dX13_outline_74 : decode cX13_outline 74 = .ok (.goto 4, 3) := by decide +kernel
theorem dX13_outline_77 : decode cX13_outline 77 = .ok (.iconst 0, 1) := by decide +kernel
theorem dX13_outline_78 : decode cX13_outline 78 = .ok (.invokestatic 96, 3) := by decide +kernel
theorem dX13_outline_81 : decode cX13_outline 81 = .ok (.aload_n 0, 1) := by decide +kernel
theorem dX13_outline_82 : decode cX13_outline 82 = .ok (.iload_n 1, 1) := by decide +kernel
theorem dX13_outline_83 : decode cX13_outline 83 = .ok (.iload 4, 2) := by decide +kernel
theorem dX13_outline_85 : decode cX13_outline 85 = .ok (.iconst 1, 1) := by decide +kernel
theorem dX13_outline_86 : decode cX13_outline 86 = .ok (.iadd, 1) := by decide +kernel
theorem dX13_outline_87 : decode cX13_outline 87 = .ok (.iload 5, 2) := by decide +kernel
theorem dX13_outline_89 : decode cX13_outline 89 = .ok (.invokevirtual 330, 3) := by decide +kernel
theorem dX13_outline_92 : decode cX13_outline 92 = .ok (.ifCond .ne 7, 3) := by decide +kernel
theorem dX13_outline_95 : decode cX13_outline 95 = .ok (.iconst 1, 1) := by decide +kernel
theorem dX13_outline_96 : decode cX13_outline 96 = .ok (.goto 4, 3) := by decide +kernel
theorem dX13_outline_99 : decode cX13_outline 99 = .ok (.iconst 0, 1) := by decide +kernel
theorem dX13_outline_100 : decode cX13_outline 100 = .ok (.invokestatic 96, 3) := by decide +kernel
theorem dX13_outline_103 : decode cX13_outline 103 = .ok (.iadd, 1) := by decide +kernel
theorem dX13_outline_104 : decode cX13_outline 104 = .ok (.aload_n 0, 1) := by decide +kernel
theorem dX13_outline_105 : decode cX13_outline 105 = .ok (.iload_n 1, 1) := by decide +kernel
theorem dX13_outline_106 : decode cX13_outline 106 = .ok (.iload 4, 2) := by decide +kernel
theorem dX13_outline_108 : decode cX13_outline 108 = .ok (.iload 5, 2) := by decide +kernel
theorem dX13_outline_110 : decode cX13_outline 110 = .ok (.iconst 1, 1) := by decide +kernel
theorem dX13_outline_111 : decode cX13_outline 111 = .ok (.isub, 1) := by decide +kernel
theorem dX13_outline_112 : decode cX13_outline 112 = .ok (.invokevirtual 330, 3) := by decide +kernel
theorem dX13_outline_115 : decode cX13_outline 115 = .ok (.ifCond .ne 7, 3) := by decide +kernel
theorem dX13_outline_118 : decode cX13_outline 118 = .ok (.iconst 1, 1) := by decide +kernel
theorem dX13_outline_119 : decode cX13_outline 119 = .ok (.goto 4, 3) := by decide +kernel
theorem dX13_outline_122 : decode cX13_outline 122 = .ok (.iconst 0, 1) := by decide +kernel
theorem dX13_outline_123 : decode cX13_outline 123 = .ok (.invokestatic 96, 3) := by decide +kernel
theorem dX13_outline_126 : decode cX13_outline 126 = .ok (.iadd, 1) := by decide +kernel
theorem dX13_outline_127 : decode cX13_outline 127 = .ok (.aload_n 0, 1) := by decide +kernel
theorem dX13_outline_128 : decode cX13_outline 128 = .ok (.iload_n 1, 1) := by decide +kernel
theorem dX13_outline_129 : decode cX13_outline 129 = .ok (.iload 4, 2) := by decide +kernel
theorem dX13_outline_131 : decode cX13_outline 131 = .ok (.iload 5, 2) := by decide +kernel
theorem dX13_outline_133 : decode cX13_outline 133 = .ok (.iconst 1, 1) := by decide +kernel
theorem dX13_outline_134 : decode cX13_outline 134 = .ok (.iadd, 1) := by decide +kernel
theorem dX13_outline_135 : decode cX13_outline 135 = .ok (.invokevirtual 330, 3) := by decide +kernel
theorem dX13_outline_138 : decode cX13_outline 138 = .ok (.ifCond .ne 7, 3) := by decide +kernel
theorem dX13_outline_141 : decode cX13_outline 141 = .ok (.iconst 1, 1) := by decide +kernel
theorem dX13_outline_142 : decode cX13_outline 142 = .ok (.goto 4, 3) := by decide +kernel
theorem dX13_outline_145 : decode cX13_outline 145 = .ok (.iconst 0, 1) := by decide +kernel
theorem dX13_outline_146 : decode cX13_outline 146 = .ok (.invokestatic 96, 3) := by decide +kernel
theorem dX13_outline_149 : decode cX13_outline 149 = .ok (.iadd, 1) := by decide +kernel
theorem dX13_outline_150 : decode cX13_outline 150 = .ok (.iadd, 1) := by decide +kernel
theorem dX13_outline_151 : decode cX13_outline 151 = .ok (.istore_n 2, 1) := by decide +kernel
theorem dX13_outline_152 : decode cX13_outline 152 = .ok (.iinc 3 1, 3) := by decide +kernel
theorem dX13_outline_155 : decode cX13_outline 155 = .ok (.goto (-137), 3) := by decide +kernel
theorem dX13_outline_158 : decode cX13_outline 158 = .ok (.iload_n 2, 1) := by decide +kernel
theorem dX13_outline_159 : decode cX13_outline 159 = .ok (.ireturn, 1) := by decide +kernel
set_option maxRecDepth 20000 in
theorem ggX13_groupAt_X13_isCell : GoodIn wsX13_groupAt wsX13_isCell := goodIn_r _ [6, 7, 8, 9, 5, 10, 16, 17, 18, 19, 20, 21, 22, 23, 24, 25, 26, 27, 28, 29, 30, 31, 32, 33, 34, 35, 36, 37, 38, 39, 40, 41, 42, 43, 44, 45, 46, 47, 48, 49, 50, 51, 52, 53, 54, 55, 56, 57, 58, 59, 60, 61, 62, 63] (by decide +kernel) (by decide +kernel)
set_option maxRecDepth 20000 in
theorem gX13_groupAt_X13_isCell : GoodIn wsX13_groupAt (wsV RX13 195 RX13 yX13_isCell wsX13_isCell) := goodIn_app (goodIn_of _ (by decide +kernel)) ggX13_groupAt_X13_isCell
set_option maxRecDepth 20000 in
theorem ggX13_groupAt_X13_isOf : GoodIn wsX13_groupAt wsX13_isOf := goodIn_r _ [14, 15, 2, 3, 4, 5, 6, 7, 8, 9, 10, 16, 17, 18, 19, 20, 21, 22, 23, 24, 25, 26, 27, 28, 29, 30, 31, 32, 33, 34, 35, 36, 37, 38, 39, 40, 41, 42, 43, 44, 45, 46, 47, 48, 49, 50, 51, 52, 53, 54, 55, 56, 57, 58, 59, 60, 61, 62, 63] (by decide +kernel) (by decide +kernel)
set_option maxRecDepth 20000 in
theorem gX13_groupAt_X13_isOf : GoodIn wsX13_groupAt (wsV RX13 330 RX13 yX13_isOf wsX13_isOf) := goodIn_app (goodIn_of _ (by decide +kernel)) ggX13_groupAt_X13_isOf
theorem dX13_groupAt_0 : decode cX13_groupAt 0 = .ok (.aload_n 0, 1) := by decide +kernel
theorem dX13_groupAt_1 : decode cX13_groupAt 1 = .ok (.iload_n 1, 1) := by decide +kernel
theorem dX13_groupAt_2 : decode cX13_groupAt 2 = .ok (.iload_n 2, 1) := by decide +kernel
theorem dX13_groupAt_3 : decode cX13_groupAt 3 = .ok (.invokevirtual 195, 3) := by decide +kernel
theorem dX13_groupAt_6 : decode cX13_groupAt 6 = .ok (.ifCond .eq 29, 3) := by decide +kernel
theorem dX13_groupAt_9 : decode cX13_groupAt 9 = .ok (.aload_n 0, 1) := by decide +kernel
theorem dX13_groupAt_10 : decode cX13_groupAt 10 = .ok (.iload 4, 2) := by decide +kernel
theorem dX13_groupAt_12 : decode cX13_groupAt 12 = .ok (.iload_n 1, 1) := by decide +kernel
theorem dX13_groupAt_13 : decode cX13_groupAt 13 = .ok (.iload_n 2, 1) := by decide +kernel
theorem dX13_groupAt_14 : decode cX13_groupAt 14 = .ok (.invokevirtual 330, 3) := by decide +kernel
theorem dX13_groupAt_17 : decode cX13_groupAt 17 = .ok (.iload_n 3, 1) := by decide +kernel
theorem dX13_groupAt_18 : decode cX13_groupAt 18 = .ok (.if_icmp .ne 17, 3) := by decide +kernel
theorem dX13_groupAt_21 : decode cX13_groupAt 21 = .ok (.aload_n 0, 1) := by decide +kernel
theorem dX13_groupAt_22 : decode cX13_groupAt 22 = .ok (.getfield 45, 3) := by decide +kernel
theorem dX13_groupAt_25 : decode cX13_groupAt 25 = .ok (.bipush 16, 2) := by decide +kernel
theorem dX13_groupAt_27 : decode cX13_groupAt 27 = .ok (.iload_n 2, 1) := by decide +kernel
theorem dX13_groupAt_28 : decode cX13_groupAt 28 = .ok (.imul, 1) := by decide +kernel
theorem dX13_groupAt_29 : decode cX13_groupAt 29 = .ok (.iload_n 1, 1) := by decide +kernel
theorem dX13_groupAt_30 : decode cX13_groupAt 30 = .ok (.iadd, 1) := by decide +kernel
theorem dX13_groupAt_31 : decode cX13_groupAt 31 = .ok (.iaload, 1) := by decide +kernel
theorem dX13_groupAt_32 : decode cX13_groupAt 32 = .ok (.goto 6, 3) := by decide +kernel
theorem dX13_groupAt_35 : decode cX13_groupAt 35 = .ok (.sipush 192, 3) := by decide +kernel
theorem dX13_groupAt_38 : decode cX13_groupAt 38 = .ok (.ireturn, 1) := by decide +kernel
set_option maxRecDepth 20000 in
theorem ggX13_groups_X13_cellMany : GoodIn wsX13_groups wsX13_cellMany := goodIn_r _ [7, 2, 27, 28, 29, 30, 31, 32, 33, 34, 35, 36, 37, 38, 39, 40, 41, 42, 43, 44, 45, 46, 47, 48, 49, 50, 51, 52, 53, 54, 55, 56, 57, 58, 59, 60, 61, 62, 63, 64, 65, 66, 67, 68, 69, 70, 71, 72, 73, 74] (by decide +kernel) (by decide +kernel)
set_option maxRecDepth 20000 in
theorem gX13_groups_X13_cellMany : GoodIn wsX13_groups (wsV RX13 251 RX13 yX13_cellMany wsX13_cellMany) := goodIn_app (goodIn_of _ (by decide +kernel)) ggX13_groups_X13_cellMany
set_option maxRecDepth 20000 in
theorem ggX13_groups_X13_isOf : GoodIn wsX13_groups wsX13_isOf := goodIn_r _ [11, 12, 13, 14, 15, 6, 16, 2, 17, 18, 19, 27, 28, 29, 30, 31, 32, 33, 34, 35, 36, 37, 38, 39, 40, 41, 42, 43, 44, 45, 46, 47, 48, 49, 50, 51, 52, 53, 54, 55, 56, 57, 58, 59, 60, 61, 62, 63, 64, 65, 66, 67, 68, 69, 70, 71, 72, 73, 74] (by decide +kernel) (by decide +kernel)
set_option maxRecDepth 20000 in
theorem gX13_groups_X13_isOf : GoodIn wsX13_groups (wsV RX13 330 RX13 yX13_isOf wsX13_isOf) := goodIn_app (goodIn_of _ (by decide +kernel)) ggX13_groups_X13_isOf
set_option maxRecDepth 20000 in
theorem ggX13_groups_X13_groupAt : GoodIn wsX13_groups wsX13_groupAt := goodIn_r _ [23, 1, 13, 14, 15, 6, 16, 2, 17, 18, 19, 8, 9, 10, 11, 12, 27, 28, 29, 30, 31, 32, 33, 34, 35, 36, 37, 38, 39, 40, 41, 42, 43, 44, 45, 46, 47, 48, 49, 50, 51, 52, 53, 54, 55, 56, 57, 58, 59, 60, 61, 62, 63, 64, 65, 66, 67, 68, 69, 70, 71, 72, 73, 74] (by decide +kernel) (by decide +kernel)
set_option maxRecDepth 20000 in
theorem gX13_groups_X13_groupAt : GoodIn wsX13_groups (wsV RX13 354 RX13 yX13_groupAt wsX13_groupAt) := goodIn_app (goodIn_of _ (by decide +kernel)) ggX13_groups_X13_groupAt
set_option maxRecDepth 20000 in
theorem ggX13_groups_X13_less : GoodIn wsX13_groups wsX13_less := goodIn_r _ [26] (by decide +kernel) (by decide +kernel)
set_option maxRecDepth 20000 in
theorem gX13_groups_X13_less : GoodIn wsX13_groups (va_wsS RX13 210 yX13_less wsX13_less) := goodIn_app (goodIn_of _ (by decide +kernel)) ggX13_groups_X13_less
theorem dX13_groups_0 : decode cX13_groups 0 = .ok (.iconst 0, 1) := by decide +kernel
theorem dX13_groups_1 : decode cX13_groups 1 = .ok (.istore_n 3, 1) := by decide +kernel
theorem dX13_groups_2 : decode cX13_groups 2 = .ok (.iload_n 3, 1) := by decide +kernel
theorem dX13_groups_3 : decode cX13_groups 3 = .ok (.sipush 192, 3) := by decide +kernel
theorem dX13_groups_6 : decode cX13_groups 6 = .ok (.if_icmp .ge 16, 3) := by decide +kernel
theorem dX13_groups_9 : decode cX13_groups 9 = .ok (.aload_n 0, 1) := by decide +kernel
theorem dX13_groups_10 : decode cX13_groups 10 = .ok (.getfield 45, 3) := by decide +kernel
theorem dX13_groups_13 : decode cX13_groups 13 = .ok (.iload_n 3, 1) := by decide +kernel
theorem dX13_groups_14 : decode cX13_groups 14 = .ok (.iload_n 3, 1) := by decide +kernel
theorem dX13_groups_15 : decode cX13_groups 15 = .ok (.iastore, 1) := by decide +kernel
theorem dX13_groups_16 : decode cX13_groups 16 = .ok (.iinc 3 1, 3) := by decide +kernel
theorem dX13_groups_19 : decode cX13_groups 19 = .ok (.goto (-17), 3) := by decide +kernel
theorem dX13_groups_22 : decode cX13_groups 22 = .ok (.iconst 1, 1) := by decide +kernel
theorem dX13_groups_23 : decode cX13_groups 23 = .ok (.istore_n 3, 1) := by decide +kernel
theorem dX13_groups_24 : decode cX13_groups 24 = .ok (.iload_n 3, 1) := by decide +kernel
theorem dX13_groups_25 : decode cX13_groups 25 = .ok (.ifCond .eq 182, 3) := by decide +kernel
theorem dX13_groups_28 : decode cX13_groups 28 = .ok (.iconst 0, 1) := by decide +kernel
theorem dX13_groups_29 : decode cX13_groups 29 = .ok (.istore_n 3, 1) := by decide +kernel
theorem dX13_groups_30 : decode cX13_groups 30 = .ok (.iconst 0, 1) := by decide +kernel
theorem dX13_groups_31 : decode cX13_groups 31 = .ok (.istore 4, 2) := by decide +kernel
theorem dX13_groups_33 : decode cX13_groups 33 = .ok (.iload 4, 2) := by decide +kernel
theorem dX13_groups_35 : decode cX13_groups 35 = .ok (.aload_n 0, 1) := by decide +kernel
theorem dX13_groups_36 : decode cX13_groups 36 = .ok (.invokevirtual 251, 3) := by decide +kernel
theorem dX13_groups_39 : decode cX13_groups 39 = .ok (.if_icmp .ge 165, 3) := by decide +kernel
theorem dX13_groups_42 : decode cX13_groups 42 = .ok (.iload 4, 2) := by decide +kernel
theorem dX13_groups_44 : decode cX13_groups 44 = .ok (.aload_n 0, 1) := by decide +kernel
theorem dX13_groups_45 : decode cX13_groups 45 = .ok (.getfield 20, 3) := by decide +kernel
theorem dX13_groups_48 : decode cX13_groups 48 = .ok (.iconst 0, 1) := by decide +kernel
theorem dX13_groups_49 : decode cX13_groups 49 = .ok (.iaload, 1) := by decide +kernel
theorem dX13_groups_50 : decode cX13_groups 50 = .ok (.irem, 1) := by decide +kernel
theorem dX13_groups_51 : decode cX13_groups 51 = .ok (.istore 5, 2) := by decide +kernel
theorem dX13_groups_53 : decode cX13_groups 53 = .ok (.iload 4, 2) := by decide +kernel
theorem dX13_groups_55 : decode cX13_groups 55 = .ok (.aload_n 0, 1) := by decide +kernel
theorem dX13_groups_56 : decode cX13_groups 56 = .ok (.getfield 20, 3) := by decide +kernel
theorem dX13_groups_59 : decode cX13_groups 59 = .ok (.iconst 0, 1) := by decide +kernel
theorem dX13_groups_60 : decode cX13_groups 60 = .ok (.iaload, 1) := by decide +kernel
theorem dX13_groups_61 : decode cX13_groups 61 = .ok (.idiv, 1) := by decide +kernel
theorem dX13_groups_62 : decode cX13_groups 62 = .ok (.istore 6, 2) := by decide +kernel
theorem dX13_groups_64 : decode cX13_groups 64 = .ok (.aload_n 0, 1) := by decide +kernel
theorem dX13_groups_65 : decode cX13_groups 65 = .ok (.iload_n 1, 1) := by decide +kernel
theorem dX13_groups_66 : decode cX13_groups 66 = .ok (.iload 5, 2) := by decide +kernel
theorem dX13_groups_68 : decode cX13_groups 68 = .ok (.iload 6, 2) := by decide +kernel
theorem dX13_groups_70 : decode cX13_groups 70 = .ok (.invokevirtual 330, 3) := by decide +kernel
theorem dX13_groups_73 : decode cX13_groups 73 = .ok (.iload_n 2, 1) := by decide +kernel
theorem dX13_groups_74 : decode cX13_groups 74 = .ok (.if_icmp .eq 6, 3) := by decide +kernel
theorem dX13_groups_77 : decode cX13_groups 77 = .ok (.goto 121, 3) := by decide +kernel
theorem dX13_groups_80 : decode cX13_groups 80 = .ok (.aload_n 0, 1) := by decide +kernel
theorem dX13_groups_81 : decode cX13_groups 81 = .ok (.iload 5, 2) := by decide +kernel
theorem dX13_groups_83 : decode cX13_groups 83 = .ok (.iconst 1, 1) := by decide +kernel
theorem dX13_groups_84 : decode cX13_groups 84 = .ok (.isub, 1) := by decide +kernel
theorem dX13_groups_85 : decode cX13_groups 85 = .ok (.iload 6, 2) := by decide +kernel
theorem dX13_groups_87 : decode cX13_groups 87 = .ok (.iload_n 2, 1) := by decide +kernel
theorem dX13_groups_88 : decode cX13_groups 88 = .ok (.iload_n 1, 1) := by decide +kernel
theorem dX13_groups_89 : decode cX13_groups 89 = .ok (.invokevirtual 354, 3) := by decide +kernel
theorem dX13_groups_92 : decode cX13_groups 92 = .ok (.aload_n 0, 1) := by decide +kernel
theorem dX13_groups_93 : decode cX13_groups 93 = .ok (.iload 5, 2) := by decide +kernel
theorem dX13_groups_95 : decode cX13_groups 95 = .ok (.iconst 1, 1) := by decide +kernel
theorem dX13_groups_96 : decode cX13_groups 96 = .ok (.iadd, 1) := by decide +kernel
theorem dX13_groups_97 : decode cX13_groups 97 = .ok (.iload 6, 2) := by decide +kernel
theorem dX13_groups_99 : decode cX13_groups 99 = .ok (.iload_n 2, 1) := by decide +kernel
theorem dX13_groups_100 : decode cX13_groups 100 = .ok (.iload_n 1, 1) := by decide +kernel
theorem dX13_groups_101 : decode cX13_groups 101 = .ok (.invokevirtual 354, 3) := by decide +kernel
theorem dX13_groups_104 : decode cX13_groups 104 = .ok (.invokestatic 210, 3) := by decide +kernel
theorem dX13_groups_107 : decode cX13_groups 107 = .ok (.aload_n 0, 1) := by decide +kernel
theorem dX13_groups_108 : decode cX13_groups 108 = .ok (.iload 5, 2) := by decide +kernel
theorem dX13_groups_110 : decode cX13_groups 110 = .ok (.iload 6, 2) := by decide +kernel
theorem dX13_groups_112 : decode cX13_groups 112 = .ok (.iconst 1, 1) := by decide +kernel
theorem dX13_groups_113 : decode cX13_groups 113 = .ok (.isub, 1) := by decide +kernel
theorem dX13_groups_114 : decode cX13_groups 114 = .ok (.iload_n 2, 1) := by decide +kernel
theorem dX13_groups_115 : decode cX13_groups 115 = .ok (.iload_n 1, 1) := by decide +kernel
theorem dX13_groups_116 : decode cX13_groups 116 = .ok (.invokevirtual 354, 3) := by decide +kernel
theorem dX13_groups_119 : decode cX13_groups 119 = .ok (.aload_n 0, 1) := by decide +kernel
theorem dX13_groups_120 : decode cX13_groups 120 = .ok (.iload 5, 2) := by decide +kernel
theorem dX13_groups_122 : decode cX13_groups 122 = .ok (.iload 6, 2) := by decide +kernel
theorem dX13_groups_124 : decode cX13_groups 124 = .ok (.iconst 1, 1) := by decide +kernel
theorem dX13_groups_125 : decode cX13_groups 125 = .ok (.iadd, 1) := by decide +kernel
theorem dX13_groups_126 : decode cX13_groups 126 = .ok (.iload_n 2, 1) := by decide +kernel
theorem dX13_groups_127 : decode cX13_groups 127 = .ok (.iload_n 1, 1) := by decide +kernel
theorem dX13_groups_128 : decode cX13_groups 128 = .ok (.invokevirtual 354, 3) := by decide +kernel
theorem dX13_groups_131 : decode cX13_groups 131 = .ok (.invokestatic 210, 3) := by decide +kernel
theorem dX13_groups_134 : decode cX13_groups 134 = .ok (.invokestatic 210, 3) := by decide +kernel
theorem dX13_groups_137 : decode cX13_groups 137 = .ok (.istore 7, 2) := by decide +kernel
theorem dX13_groups_139 : decode cX13_groups 139 = .ok (.iload_n 3, 1) := by decide +kernel
theorem dX13_groups_140 : decode cX13_groups 140 = .ok (.ifCond .ne 21, 3) := by decide +kernel
theorem dX13_groups_143 : decode cX13_groups 143 = .ok (.iload 7, 2) := by decide +kernel
theorem dX13_groups_145 : decode cX13_groups 145 = .ok (.aload_n 0, 1) := by decide +kernel
theorem dX13_groups_146 : decode cX13_groups 146 = .ok (.getfield 45, 3) := by decide +kernel
theorem dX13_groups_149 : decode cX13_groups 149 = .ok (.bipush 16, 2) := by decide +kernel
theorem dX13_groups_151 : decode cX13_groups 151 = .ok (.iload 6, 2) := by decide +kernel
theorem dX13_groups_153 : decode cX13_groups 153 = .ok (.imul, 1) := by decide +kernel
theorem dX13_groups_154 : decode cX13_groups 154 = .ok (.iload 5, 2) := by decide +kernel
theorem dX13_groups_156 : decode cX13_groups 156 = .ok (.iadd, 1) := by decide +kernel
theorem dX13_groups_157 : decode cX13_groups 157 = .ok (.iaload, 1) := by decide +kernel
theorem dX13_groups_158 : decode cX13_groups 158 = .ok (.if_icmp .ge 7, 3) := by decide +kernel
theorem dX13_groups_161 : decode cX13_groups 161 = .ok (.iconst 1, 1) := by decide +kernel
theorem dX13_groups_162 : decode cX13_groups 162 = .ok (.goto 4, 3) := by decide +kernel
theorem dX13_groups_165 : decode cX13_groups 165 = .ok (.iconst 0, 1) := by decide +kernel
theorem dX13_groups_166 : decode cX13_groups 166 = .ok (.istore_n 3, 1) := by decide +kernel
theorem dX13_groups_167 : decode cX13_groups 167 = .ok (.aload_n 0, 1) := by decide +kernel
theorem dX13_groups_168 : decode cX13_groups 168 = .ok (.getfield 45, 3) := by decide +kernel
theorem dX13_groups_171 : decode cX13_groups 171 = .ok (.bipush 16, 2) := by decide +kernel
theorem dX13_groups_173 : decode cX13_groups 173 = .ok (.iload 6, 2) := by decide +kernel
theorem dX13_groups_175 : decode cX13_groups 175 = .ok (.imul, 1) := by decide +kernel
theorem dX13_groups_176 : decode cX13_groups 176 = .ok (.iload 5, 2) := by decide +kernel
theorem dX13_groups_178 : decode cX13_groups 178 = .ok (.iadd, 1) := by decide +kernel
theorem dX13_groups_179 : decode cX13_groups 179 = .ok (.iload 7, 2) := by decide +kernel
theorem dX13_groups_181 : decode cX13_groups 181 = .ok (.aload_n 0, 1) := by decide +kernel
theorem dX13_groups_182 : decode cX13_groups 182 = .ok (.getfield 45, 3) := by decide +kernel
theorem dX13_groups_185 : decode cX13_groups 185 = .ok (.bipush 16, 2) := by decide +kernel
theorem dX13_groups_187 : decode cX13_groups 187 = .ok (.iload 6, 2) := by decide +kernel
theorem dX13_groups_189 : decode cX13_groups 189 = .ok (.imul, 1) := by decide +kernel
theorem dX13_groups_190 : decode cX13_groups 190 = .ok (.iload 5, 2) := by decide +kernel
theorem dX13_groups_192 : decode cX13_groups 192 = .ok (.iadd, 1) := by decide +kernel
theorem dX13_groups_193 : decode cX13_groups 193 = .ok (.iaload, 1) := by decide +kernel
theorem dX13_groups_194 : decode cX13_groups 194 = .ok (.invokestatic 210, 3) := by decide +kernel
theorem dX13_groups_197 : decode cX13_groups 197 = .ok (.iastore, 1) := by decide +kernel
theorem dX13_groups_198 : decode cX13_groups 198 = .ok (.iinc 4 1, 3) := by decide +kernel
theorem dX13_groups_201 : decode cX13_groups 201 = .ok (.goto (-168), 3) := by decide +kernel
theorem dX13_groups_204 : decode cX13_groups 204 = .ok (.goto (-180), 3) := by decide +kernel
theorem dX13_groups_207 : decode cX13_groups 207 = .ok (.return_, 1) := by decide +kernel
set_option maxRecDepth 20000 in
theorem ggX13_parts_X13_isLayer : GoodIn wsX13_parts wsX13_isLayer := goodIn_r _ [7, 8, 9, 10, 6, 11, 47, 48, 49, 50, 51, 52, 53, 54, 55, 56, 57, 58, 59, 60, 61, 62, 63, 64, 65, 66, 67, 68, 69, 70, 71, 72, 73, 74, 75, 76, 77, 78, 79, 80, 81, 82, 83, 84, 85, 86, 87, 88, 89, 90, 91, 92, 93, 94] (by decide +kernel) (by decide +kernel)
set_option maxRecDepth 20000 in
theorem gX13_parts_X13_isLayer : GoodIn wsX13_parts (wsV RX13 327 RX13 yX13_isLayer wsX13_isLayer) := goodIn_app (goodIn_of _ (by decide +kernel)) ggX13_parts_X13_isLayer
set_option maxRecDepth 20000 in
theorem ggX13_parts_X13_goes : GoodIn wsX13_parts wsX13_goes := goodIn_r _ [15, 16, 17, 18, 6, 19, 47, 48, 49, 50, 51, 52, 53, 54, 55, 56, 57, 58, 59, 60, 61, 62, 63, 64, 65, 66, 67, 68, 69, 70, 71, 72, 73, 74, 75, 76, 77, 78, 79, 80, 81, 82, 83, 84, 85, 86, 87, 88, 89, 90, 91, 92, 93, 94] (by decide +kernel) (by decide +kernel)
set_option maxRecDepth 20000 in
theorem gX13_parts_X13_goes : GoodIn wsX13_parts (wsV RX13 103 RX13 yX13_goes wsX13_goes) := goodIn_app (goodIn_of _ (by decide +kernel)) ggX13_parts_X13_goes
set_option maxRecDepth 20000 in
theorem ggX13_parts_X13_groups : GoodIn wsX13_parts wsX13_groups := goodIn_r _ [23, 2, 8, 24, 25, 26, 6, 27, 28, 29, 30, 31, 1, 32, 33, 34, 35, 9, 10, 11, 36, 37, 38, 39, 40, 41, 42, 47, 48, 49, 50, 51, 52, 53, 54, 55, 56, 57, 58, 59, 60, 61, 62, 63, 64, 65, 66, 67, 68, 69, 70, 71, 72, 73, 74, 75, 76, 77, 78, 79, 80, 81, 82, 83, 84, 85, 86, 87, 88, 89, 90, 91, 92, 93, 94] (by decide +kernel) (by decide +kernel)
set_option maxRecDepth 20000 in
theorem gX13_parts_X13_groups : GoodIn wsX13_parts (wsV RX13 358 RX13 yX13_groups wsX13_groups) := goodIn_app (goodIn_of _ (by decide +kernel)) ggX13_parts_X13_groups
set_option maxRecDepth 20000 in
theorem ggX13_parts_X13_cellMany : GoodIn wsX13_parts wsX13_cellMany := goodIn_r _ [27, 8, 47, 48, 49, 50, 51, 52, 53, 54, 55, 56, 57, 58, 59, 60, 61, 62, 63, 64, 65, 66, 67, 68, 69, 70, 71, 72, 73, 74, 75, 76, 77, 78, 79, 80, 81, 82, 83, 84, 85, 86, 87, 88, 89, 90, 91, 92, 93, 94] (by decide +kernel) (by decide +kernel)
set_option maxRecDepth 20000 in
theorem gX13_parts_X13_cellMany : GoodIn wsX13_parts (wsV RX13 251 RX13 yX13_cellMany wsX13_cellMany) := goodIn_app (goodIn_of _ (by decide +kernel)) ggX13_parts_X13_cellMany
set_option maxRecDepth 20000 in
theorem ggX13_parts_X13_cellAt : GoodIn wsX13_parts wsX13_cellAt := goodIn_r _ [46, 8, 47, 48, 49, 50, 51, 52, 53, 54, 55, 56, 57, 58, 59, 60, 61, 62, 63, 64, 65, 66, 67, 68, 69, 70, 71, 72, 73, 74, 75, 76, 77, 78, 79, 80, 81, 82, 83, 84, 85, 86, 87, 88, 89, 90, 91, 92, 93, 94] (by decide +kernel) (by decide +kernel)
set_option maxRecDepth 20000 in
theorem gX13_parts_X13_cellAt : GoodIn wsX13_parts (wsV RX13 255 RX13 yX13_cellAt wsX13_cellAt) := goodIn_app (goodIn_of _ (by decide +kernel)) ggX13_parts_X13_cellAt
set_option maxRecDepth 20000 in
theorem ggX13_parts_X13_truth : GoodIn wsX13_parts wsX13_truth := goodIn_r _ [19] (by decide +kernel) (by decide +kernel)
set_option maxRecDepth 20000 in
theorem gX13_parts_X13_truth : GoodIn wsX13_parts (va_wsS RX13 96 yX13_truth wsX13_truth) := goodIn_app (goodIn_of _ (by decide +kernel)) ggX13_parts_X13_truth
theorem dX13_parts_0 : decode cX13_parts 0 = .ok (.aload_n 0, 1) := by decide +kernel
theorem dX13_parts_1 : decode cX13_parts 1 = .ok (.aload_n 0, 1) := by decide +kernel
theorem dX13_parts_2 : decode cX13_parts 2 = .ok (.iload_n 1, 1) := by decide +kernel
theorem dX13_parts_3 : decode cX13_parts 3 = .ok (.invokevirtual 327, 3) := by decide +kernel
theorem dX13_parts_6 : decode cX13_parts 6 = .ok (.invokevirtual 103, 3) := by decide +kernel
theorem dX13_parts_9 : decode cX13_parts 9 = .ok (.ifCond .ne 5, 3) := by decide +kernel
theorem dX13_parts_12 : decode cX13_parts 12 = .ok (.iconst 0, 1) := by decide +kernel
theorem dX13_parts_13 : decode cX13_parts 13 = .ok (.ireturn, 1) := by decide +kernel
theorem dX13_parts_14 : decode cX13_parts 14 = .ok (.aload_n 0, 1) := by decide +kernel
theorem dX13_parts_15 : decode cX13_parts 15 = .ok (.iload_n 1, 1) := by decide +kernel
theorem dX13_parts_16 : decode cX13_parts 16 = .ok (.iconst 1, 1) := by decide +kernel
theorem dX13_parts_17 : decode cX13_parts 17 = .ok (.invokevirtual 358, 3) := by decide +kernel
theorem dX13_parts_20 : decode cX13_parts 20 = .ok (.iconst 0, 1) := by decide +kernel
theorem dX13_parts_21 : decode cX13_parts 21 = .ok (.istore_n 2, 1) := by decide +kernel
theorem dX13_parts_22 : decode cX13_parts 22 = .ok (.iconst 0, 1) := by decide +kernel
theorem dX13_parts_23 : decode cX13_parts 23 = .ok (.istore_n 3, 1) := by decide +kernel
theorem dX13_parts_24 : decode cX13_parts 24 = .ok (.iload_n 3, 1) := by decide +kernel
theorem dX13_parts_25 : decode cX13_parts 25 = .ok (.aload_n 0, 1) := by decide +kernel
theorem dX13_parts_26 : decode cX13_parts 26 = .ok (.invokevirtual 251, 3) := by decide +kernel
theorem dX13_parts_29 : decode cX13_parts 29 = .ok (.if_icmp .ge 52, 3) := by decide +kernel
theorem dX13_parts_32 : decode cX13_parts 32 = .ok (.iload_n 2, 1) := by decide +kernel
theorem dX13_parts_33 : decode cX13_parts 33 = .ok (.aload_n 0, 1) := by decide +kernel
theorem dX13_parts_34 : decode cX13_parts 34 = .ok (.getfield 29, 3) := by decide +kernel
theorem dX13_parts_37 : decode cX13_parts 37 = .ok (.aload_n 0, 1) := by decide +kernel
theorem dX13_parts_38 : decode cX13_parts 38 = .ok (.iload_n 3, 1) := by decide +kernel
theorem dX13_parts_39 : decode cX13_parts 39 = .ok (.invokevirtual 255, 3) := by decide +kernel
theorem dX13_parts_42 : decode cX13_parts 42 = .ok (.iaload, 1) := by decide +kernel
theorem dX13_parts_43 : decode cX13_parts 43 = .ok (.iload_n 1, 1) := by decide +kernel
theorem dX13_parts_44 : decode cX13_parts 44 = .ok (.if_icmp .lt 25, 3) := by decide +kernel
theorem dX13_parts_47 : decode cX13_parts 47 = .ok (.aload_n 0, 1) := by decide +kernel
theorem dX13_parts_48 : decode cX13_parts 48 = .ok (.getfield 45, 3) := by decide +kernel
theorem dX13_parts_51 : decode cX13_parts 51 = .ok (.aload_n 0, 1) := by decide +kernel
theorem dX13_parts_52 : decode cX13_parts 52 = .ok (.iload_n 3, 1) := by decide +kernel
theorem dX13_parts_53 : decode cX13_parts 53 = .ok (.invokevirtual 255, 3) := by decide +kernel
theorem dX13_parts_56 : decode cX13_parts 56 = .ok (.iaload, 1) := by decide +kernel
theorem dX13_parts_57 : decode cX13_parts 57 = .ok (.aload_n 0, 1) := by decide +kernel
theorem dX13_parts_58 : decode cX13_parts 58 = .ok (.iload_n 3, 1) := by decide +kernel
theorem dX13_parts_59 : decode cX13_parts 59 = .ok (.invokevirtual 255, 3) := by decide +kernel
theorem dX13_parts_62 : decode cX13_parts 62 = .ok (.if_icmp .ne 7, 3) := by decide +kernel
theorem dX13_parts_65 : decode cX13_parts 65 = .ok (.iconst 1, 1) := by decide +kernel
theorem dX13_parts_66 : decode cX13_parts 66 = .ok (.goto 4, 3) := by decide +kernel
theorem dX13_parts_69 : decode cX13_parts 69 = .ok (.iconst 0, 1) := by decide +kernel
theorem dX13_parts_70 : decode cX13_parts 70 = .ok (.invokestatic 96, 3) := by decide +kernel
theorem dX13_parts_73 : decode cX13_parts 73 = .ok (.iadd, 1) := by decide +kernel
theorem dX13_parts_74 : decode cX13_parts 74 = .ok (.istore_n 2, 1) := by decide +kernel
theorem dX13_parts_75 : decode cX13_parts 75 = .ok (.iinc 3 1, 3) := by decide +kernel
theorem dX13_parts_78 : decode cX13_parts 78 = .ok (.goto (-54), 3) := by decide +kernel
theorem dX13_parts_81 : decode cX13_parts 81 = .ok (.iload_n 2, 1) := by decide +kernel
theorem dX13_parts_82 : decode cX13_parts 82 = .ok (.ireturn, 1) := by decide +kernel
theorem dX13_isEdge_0 : decode cX13_isEdge 0 = .ok (.iload_n 1, 1) := by decide +kernel
theorem dX13_isEdge_1 : decode cX13_isEdge 1 = .ok (.ifCond .eq 31, 3) := by decide +kernel
theorem dX13_isEdge_4 : decode cX13_isEdge 4 = .ok (.iload_n 2, 1) := by decide +kernel
theorem dX13_isEdge_5 : decode cX13_isEdge 5 = .ok (.ifCond .eq 27, 3) := by decide +kernel
theorem dX13_isEdge_8 : decode cX13_isEdge 8 = .ok (.iload_n 1, 1) := by decide +kernel
theorem dX13_isEdge_9 : decode cX13_isEdge 9 = .ok (.aload_n 0, 1) := by decide +kernel
theorem dX13_isEdge_10 : decode cX13_isEdge 10 = .ok (.getfield 20, 3) := by decide +kernel
theorem dX13_isEdge_13 : decode cX13_isEdge 13 = .ok (.iconst 0, 1) := by decide +kernel
theorem dX13_isEdge_14 : decode cX13_isEdge 14 = .ok (.iaload, 1) := by decide +kernel
theorem dX13_isEdge_15 : decode cX13_isEdge 15 = .ok (.iconst 1, 1) := by decide +kernel
theorem dX13_isEdge_16 : decode cX13_isEdge 16 = .ok (.isub, 1) := by decide +kernel
theorem dX13_isEdge_17 : decode cX13_isEdge 17 = .ok (.if_icmp .eq 15, 3) := by decide +kernel
theorem dX13_isEdge_20 : decode cX13_isEdge 20 = .ok (.iload_n 2, 1) := by decide +kernel
theorem dX13_isEdge_21 : decode cX13_isEdge 21 = .ok (.aload_n 0, 1) := by decide +kernel
theorem dX13_isEdge_22 : decode cX13_isEdge 22 = .ok (.getfield 20, 3) := by decide +kernel
theorem dX13_isEdge_25 : decode cX13_isEdge 25 = .ok (.iconst 1, 1) := by decide +kernel
theorem dX13_isEdge_26 : decode cX13_isEdge 26 = .ok (.iaload, 1) := by decide +kernel
theorem dX13_isEdge_27 : decode cX13_isEdge 27 = .ok (.iconst 1, 1) := by decide +kernel
theorem dX13_isEdge_28 : decode cX13_isEdge 28 = .ok (.isub, 1) := by decide +kernel
theorem dX13_isEdge_29 : decode cX13_isEdge 29 = .ok (.if_icmp .ne 7, 3) := by decide +kernel
theorem dX13_isEdge_32 : decode cX13_isEdge 32 = .ok (.iconst 1, 1) := by decide +kernel
theorem dX13_isEdge_33 : decode cX13_isEdge 33 = .ok (.goto 4, 3) := by decide +kernel
theorem dX13_isEdge_36 : decode cX13_isEdge 36 = .ok (.iconst 0, 1) := by decide +kernel
theorem dX13_isEdge_37 : decode cX13_isEdge 37 = .ok (.ireturn, 1) := by decide +kernel
set_option maxRecDepth 20000 in
theorem ggX13_hollows_X13_isLayer : GoodIn wsX13_hollows wsX13_isLayer := goodIn_r _ [8, 9, 10, 11, 7, 12, 52, 53, 54, 55, 56, 57, 58, 59, 60, 61, 62, 63, 64, 65, 66, 67, 68, 69, 70, 71, 72, 73, 74, 75, 76, 77, 78, 79, 80, 81, 82, 83, 84, 85, 86, 87, 88, 89, 90, 91, 92, 93, 94, 95, 96, 97, 98, 99] (by decide +kernel) (by decide +kernel)
set_option maxRecDepth 20000 in
theorem gX13_hollows_X13_isLayer : GoodIn wsX13_hollows (wsV RX13 327 RX13 yX13_isLayer wsX13_isLayer) := goodIn_app (goodIn_of _ (by decide +kernel)) ggX13_hollows_X13_isLayer
set_option maxRecDepth 20000 in
theorem ggX13_hollows_X13_goes : GoodIn wsX13_hollows wsX13_goes := goodIn_r _ [16, 17, 18, 19, 7, 20, 52, 53, 54, 55, 56, 57, 58, 59, 60, 61, 62, 63, 64, 65, 66, 67, 68, 69, 70, 71, 72, 73, 74, 75, 76, 77, 78, 79, 80, 81, 82, 83, 84, 85, 86, 87, 88, 89, 90, 91, 92, 93, 94, 95, 96, 97, 98, 99] (by decide +kernel) (by decide +kernel)
set_option maxRecDepth 20000 in
theorem gX13_hollows_X13_goes : GoodIn wsX13_hollows (wsV RX13 103 RX13 yX13_goes wsX13_goes) := goodIn_app (goodIn_of _ (by decide +kernel)) ggX13_hollows_X13_goes
set_option maxRecDepth 20000 in
theorem ggX13_hollows_X13_groups : GoodIn wsX13_hollows wsX13_groups := goodIn_r _ [24, 3, 9, 25, 26, 27, 7, 28, 29, 30, 31, 32, 2, 33, 34, 35, 36, 10, 11, 12, 37, 38, 39, 40, 41, 42, 43, 52, 53, 54, 55, 56, 57, 58, 59, 60, 61, 62, 63, 64, 65, 66, 67, 68, 69, 70, 71, 72, 73, 74, 75, 76, 77, 78, 79, 80, 81, 82, 83, 84, 85, 86, 87, 88, 89, 90, 91, 92, 93, 94, 95, 96, 97, 98, 99] (by decide +kernel) (by decide +kernel)
set_option maxRecDepth 20000 in
theorem gX13_hollows_X13_groups : GoodIn wsX13_hollows (wsV RX13 358 RX13 yX13_groups wsX13_groups) := goodIn_app (goodIn_of _ (by decide +kernel)) ggX13_hollows_X13_groups
set_option maxRecDepth 20000 in
theorem ggX13_hollows_X13_cellMany : GoodIn wsX13_hollows wsX13_cellMany := goodIn_r _ [28, 9, 52, 53, 54, 55, 56, 57, 58, 59, 60, 61, 62, 63, 64, 65, 66, 67, 68, 69, 70, 71, 72, 73, 74, 75, 76, 77, 78, 79, 80, 81, 82, 83, 84, 85, 86, 87, 88, 89, 90, 91, 92, 93, 94, 95, 96, 97, 98, 99] (by decide +kernel) (by decide +kernel)
set_option maxRecDepth 20000 in
theorem gX13_hollows_X13_cellMany : GoodIn wsX13_hollows (wsV RX13 251 RX13 yX13_cellMany wsX13_cellMany) := goodIn_app (goodIn_of _ (by decide +kernel)) ggX13_hollows_X13_cellMany
set_option maxRecDepth 20000 in
theorem ggX13_hollows_X13_cellAt : GoodIn wsX13_hollows wsX13_cellAt := goodIn_r _ [47, 9, 52, 53, 54, 55, 56, 57, 58, 59, 60, 61, 62, 63, 64, 65, 66, 67, 68, 69, 70, 71, 72, 73, 74, 75, 76, 77, 78, 79, 80, 81, 82, 83, 84, 85, 86, 87, 88, 89, 90, 91, 92, 93, 94, 95, 96, 97, 98, 99] (by decide +kernel) (by decide +kernel)
set_option maxRecDepth 20000 in
theorem gX13_hollows_X13_cellAt : GoodIn wsX13_hollows (wsV RX13 255 RX13 yX13_cellAt wsX13_cellAt) := goodIn_app (goodIn_of _ (by decide +kernel)) ggX13_hollows_X13_cellAt
set_option maxRecDepth 20000 in
theorem ggX13_hollows_X13_isEdge : GoodIn wsX13_hollows wsX13_isEdge := goodIn_r _ [51, 9, 52, 53, 54, 55, 56, 57, 58, 59, 60, 61, 62, 63, 64, 65, 66, 67, 68, 69, 70, 71, 72, 73, 74, 75, 76, 77, 78, 79, 80, 81, 82, 83, 84, 85, 86, 87, 88, 89, 90, 91, 92, 93, 94, 95, 96, 97, 98, 99] (by decide +kernel) (by decide +kernel)
set_option maxRecDepth 20000 in
theorem gX13_hollows_X13_isEdge : GoodIn wsX13_hollows (wsV RX13 362 RX13 yX13_isEdge wsX13_isEdge) := goodIn_app (goodIn_of _ (by decide +kernel)) ggX13_hollows_X13_isEdge
set_option maxRecDepth 20000 in
theorem ggX13_hollows_X13_truth : GoodIn wsX13_hollows wsX13_truth := goodIn_r _ [20] (by decide +kernel) (by decide +kernel)
set_option maxRecDepth 20000 in
theorem gX13_hollows_X13_truth : GoodIn wsX13_hollows (va_wsS RX13 96 yX13_truth wsX13_truth) := goodIn_app (goodIn_of _ (by decide +kernel)) ggX13_hollows_X13_truth
theorem dX13_hollows_0 : decode cX13_hollows 0 = .ok (.aload_n 0, 1) := by decide +kernel
theorem dX13_hollows_1 : decode cX13_hollows 1 = .ok (.aload_n 0, 1) := by decide +kernel
theorem dX13_hollows_2 : decode cX13_hollows 2 = .ok (.iload_n 1, 1) := by decide +kernel
theorem dX13_hollows_3 : decode cX13_hollows 3 = .ok (.invokevirtual 327, 3) := by decide +kernel
theorem dX13_hollows_6 : decode cX13_hollows 6 = .ok (.invokevirtual 103, 3) := by decide +kernel
theorem dX13_hollows_9 : decode cX13_hollows 9 = .ok (.ifCond .ne 5, 3) := by decide +kernel
theorem dX13_hollows_12 : decode cX13_hollows 12 = .ok (.iconst 0, 1) := by decide +kernel
theorem dX13_hollows_13 : decode cX13_hollows 13 = .ok (.ireturn, 1) := by decide +kernel
theorem dX13_hollows_14 : decode cX13_hollows 14 = .ok (.aload_n 0, 1) := by decide +kernel
theorem dX13_hollows_15 : decode cX13_hollows 15 = .ok (.iload_n 1, 1) := by decide +kernel
theorem dX13_hollows_16 : decode cX13_hollows 16 = .ok (.iconst 0, 1) := by decide +kernel
theorem dX13_hollows_17 : decode cX13_hollows 17 = .ok (.invokevirtual 358, 3) := by decide +kernel
theorem dX13_hollows_20 : decode cX13_hollows 20 = .ok (.iconst 0, 1) := by decide +kernel
theorem dX13_hollows_21 : decode cX13_hollows 21 = .ok (.istore_n 2, 1) := by decide +kernel
theorem dX13_hollows_22 : decode cX13_hollows 22 = .ok (.iload_n 2, 1) := by decide +kernel
theorem dX13_hollows_23 : decode cX13_hollows 23 = .ok (.sipush 192, 3) := by decide +kernel
theorem dX13_hollows_26 : decode cX13_hollows 26 = .ok (.if_icmp .ge 16, 3) := by decide +kernel
theorem dX13_hollows_29 : decode cX13_hollows 29 = .ok (.aload_n 0, 1) := by decide +kernel
theorem dX13_hollows_30 : decode cX13_hollows 30 = .ok (.getfield 35, 3) := by decide +kernel
theorem dX13_hollows_33 : decode cX13_hollows 33 = .ok (.iload_n 2, 1) := by decide +kernel
theorem dX13_hollows_34 : decode cX13_hollows 34 = .ok (.iconst 0, 1) := by decide +kernel
theorem dX13_hollows_35 : decode cX13_hollows 35 = .ok (.bastore, 1) := by decide +kernel
theorem dX13_hollows_36 : decode cX13_hollows 36 = .ok (.iinc 2 1, 3) := by decide +kernel
theorem dX13_hollows_39 : decode cX13_hollows 39 = .ok (.goto (-17), 3) := by decide +kernel
theorem dX13_hollows_42 : decode cX13_hollows 42 = .ok (.iconst 0, 1) := by decide +kernel
theorem dX13_hollows_43 : decode cX13_hollows 43 = .ok (.istore_n 2, 1) := by decide +kernel
theorem dX13_hollows_44 : decode cX13_hollows 44 = .ok (.iload_n 2, 1) := by decide +kernel
theorem dX13_hollows_45 : decode cX13_hollows 45 = .ok (.aload_n 0, 1) := by decide +kernel
theorem dX13_hollows_46 : decode cX13_hollows 46 = .ok (.invokevirtual 251, 3) := by decide +kernel
theorem dX13_hollows_49 : decode cX13_hollows 49 = .ok (.if_icmp .ge 52, 3) := by decide +kernel
theorem dX13_hollows_52 : decode cX13_hollows 52 = .ok (.aload_n 0, 1) := by decide +kernel
theorem dX13_hollows_53 : decode cX13_hollows 53 = .ok (.iload_n 2, 1) := by decide +kernel
theorem dX13_hollows_54 : decode cX13_hollows 54 = .ok (.invokevirtual 255, 3) := by decide +kernel
theorem dX13_hollows_57 : decode cX13_hollows 57 = .ok (.istore_n 3, 1) := by decide +kernel
theorem dX13_hollows_58 : decode cX13_hollows 58 = .ok (.aload_n 0, 1) := by decide +kernel
theorem dX13_hollows_59 : decode cX13_hollows 59 = .ok (.getfield 29, 3) := by decide +kernel
theorem dX13_hollows_62 : decode cX13_hollows 62 = .ok (.iload_n 3, 1) := by decide +kernel
theorem dX13_hollows_63 : decode cX13_hollows 63 = .ok (.iaload, 1) := by decide +kernel
theorem dX13_hollows_64 : decode cX13_hollows 64 = .ok (.iload_n 1, 1) := by decide +kernel
theorem dX13_hollows_65 : decode cX13_hollows 65 = .ok (.if_icmp .ge 30, 3) := by decide +kernel
theorem dX13_hollows_68 : decode cX13_hollows 68 = .ok (.aload_n 0, 1) := by decide +kernel
theorem dX13_hollows_69 : decode cX13_hollows 69 = .ok (.iload_n 3, 1) := by decide +kernel
theorem dX13_hollows_70 : decode cX13_hollows 70 = .ok (.bipush 16, 2) := by decide +kernel
theorem dX13_hollows_72 : decode cX13_hollows 72 = .ok (.irem, 1) := by decide +kernel
theorem dX13_hollows_73 : decode cX13_hollows 73 = .ok (.iload_n 3, 1) := by decide +kernel
theorem dX13_hollows_74 : decode cX13_hollows 74 = .ok (.bipush 16, 2) := by decide +kernel
theorem dX13_hollows_76 : decode cX13_hollows 76 = .ok (.idiv, 1) := by decide +kernel
theorem dX13_hollows_77 : decode cX13_hollows 77 = .ok (.invokevirtual 362, 3) := by decide +kernel
theorem dX13_hollows_80 : decode cX13_hollows 80 = .ok (.ifCond .eq 15, 3) := by decide +kernel
theorem dX13_hollows_83 : decode cX13_hollows 83 = .ok (.aload_n 0, 1) := by decide +kernel
theorem dX13_hollows_84 : decode cX13_hollows 84 = .ok (.getfield 35, 3) := by decide +kernel
theorem dX13_hollows_87 : decode cX13_hollows 87 = .ok (.aload_n 0, 1) := by decide +kernel
theorem dX13_hollows_88 : decode cX13_hollows 88 = .ok (.getfield 45, 3) := by decide +kernel
theorem dX13_hollows_91 : decode cX13_hollows 91 = .ok (.iload_n 3, 1) := by decide +kernel
theorem dX13_hollows_92 : decode cX13_hollows 92 = .ok (.iaload, 1) := by decide +kernel
theorem dX13_hollows_93 : decode cX13_hollows 93 = .ok (.iconst 1, 1) := by decide +kernel
theorem dX13_hollows_94 : decode cX13_hollows 94 = .ok (.bastore, 1) := by decide +kernel
theorem dX13_hollows_95 : decode cX13_hollows 95 = .ok (.iinc 2 1, 3) := by decide +kernel
theorem dX13_hollows_98 : decode cX13_hollows 98 = .ok (.goto (-54), 3) := by decide +kernel
theorem dX13_hollows_101 : decode cX13_hollows 101 = .ok (.iconst 0, 1) := by decide +kernel
theorem dX13_hollows_102 : decode cX13_hollows 102 = .ok (.istore_n 2, 1) := by decide +kernel
theorem dX13_hollows_103 : decode cX13_hollows 103 = .ok (.iconst 0, 1) := by decide +kernel
theorem dX13_hollows_104 : decode cX13_hollows 104 = .ok (.istore_n 3, 1) := by decide +kernel
theorem dX13_hollows_105 : decode cX13_hollows 105 = .ok (.iload_n 3, 1) := by decide +kernel
theorem dX13_hollows_106 : decode cX13_hollows 106 = .ok (.aload_n 0, 1) := by decide +kernel
theorem dX13_hollows_107 : decode cX13_hollows 107 = .ok (.invokevirtual 251, 3) := by decide +kernel
theorem dX13_hollows_110 : decode cX13_hollows 110 = .ok (.if_icmp .ge 65, 3) := by decide +kernel
theorem dX13_hollows_113 : decode cX13_hollows 113 = .ok (.iload_n 2, 1) := by decide +kernel
theorem dX13_hollows_114 : decode cX13_hollows 114 = .ok (.aload_n 0, 1) := by decide +kernel
theorem dX13_hollows_115 : decode cX13_hollows 115 = .ok (.getfield 29, 3) := by decide +kernel
theorem dX13_hollows_118 : decode cX13_hollows 118 = .ok (.aload_n 0, 1) := by decide +kernel
theorem dX13_hollows_119 : decode cX13_hollows 119 = .ok (.iload_n 3, 1) := by decide +kernel
theorem dX13_hollows_120 : decode cX13_hollows 120 = .ok (.invokevirtual 255, 3) := by decide +kernel
theorem dX13_hollows_123 : decode cX13_hollows 123 = .ok (.iaload, 1) := by decide +kernel
theorem dX13_hollows_124 : decode cX13_hollows 124 = .ok (.iload_n 1, 1) := by decide +kernel
theorem dX13_hollows_125 : decode cX13_hollows 125 = .ok (.if_icmp .ge 38, 3) := by decide +kernel
theorem dX13_hollows_128 : decode cX13_hollows 128 = .ok (.aload_n 0, 1) := by decide +kernel
theorem dX13_hollows_129 : decode cX13_hollows 129 = .ok (.getfield 45, 3) := by decide +kernel
theorem dX13_hollows_132 : decode cX13_hollows 132 = .ok (.aload_n 0, 1) := by decide +kernel
theorem dX13_hollows_133 : decode cX13_hollows 133 = .ok (.iload_n 3, 1) := by decide +kernel
theorem dX13_hollows_134 : decode cX13_hollows 134 = .ok (.invokevirtual 255, 3) := by decide +kernel
theorem dX13_hollows_137 : decode cX13_hollows 137 = .ok (.iaload, 1) := by decide +kernel
theorem dX13_hollows_138 : decode cX13_hollows 138 = .ok (.aload_n 0, 1) := by decide +kernel
theorem dX13_hollows_139 : decode cX13_hollows 139 = .ok (.iload_n 3, 1) := by decide +kernel
theorem dX13_hollows_140 : decode cX13_hollows 140 = .ok (.invokevirtual 255, 3) := by decide +kernel
theorem dX13_hollows_143 : decode cX13_hollows 143 = .ok (.if_icmp .ne 20, 3) := by decide +kernel
theorem dX13_hollows_146 : decode cX13_hollows 146 = .ok (.aload_n 0, 1) := by decide +kernel
theorem dX13_hollows_147 : decode cX13_hollows 147 = .ok (.getfield 35, 3) := by decide +kernel
theorem dX13_hollows_150 : decode cX13_hollows 150 = .ok (.aload_n 0, 1) := by decide +kernel
theorem dX13_hollows_151 : decode cX13_hollows 151 = .ok (.iload_n 3, 1) := by decide +kernel
theorem dX13_hollows_152 : decode cX13_hollows 152 = .ok (.invokevirtual 255, 3) := by decide +kernel
theorem dX13_hollows_155 : decode cX13_hollows 155 = .ok (.baload, 1) := by decide +kernel
theorem dX13_hollows_156 : decode cX13_hollows 156 = .ok (.ifCond .ne 7, 3) := by decide +kernel
theorem dX13_hollows_159 : decode cX13_hollows 159 = .ok (.iconst 1, 1) := by decide +kernel
theorem dX13_hollows_160 : decode cX13_hollows 160 = .ok (.goto 4, 3) := by decide +kernel
theorem dX13_hollows_163 : decode cX13_hollows 163 = .ok (.iconst 0, 1) := by decide +kernel
theorem dX13_hollows_164 : decode cX13_hollows 164 = .ok (.invokestatic 96, 3) := by decide +kernel
theorem dX13_hollows_167 : decode cX13_hollows 167 = .ok (.iadd, 1) := by decide +kernel
theorem dX13_hollows_168 : decode cX13_hollows 168 = .ok (.istore_n 2, 1) := by decide +kernel
theorem dX13_hollows_169 : decode cX13_hollows 169 = .ok (.iinc 3 1, 3) := by decide +kernel
theorem dX13_hollows_172 : decode cX13_hollows 172 = .ok (.goto (-67), 3) := by decide +kernel
theorem dX13_hollows_175 : decode cX13_hollows 175 = .ok (.iload_n 2, 1) := by decide +kernel
theorem dX13_hollows_176 : decode cX13_hollows 176 = .ok (.ireturn, 1) := by decide +kernel
set_option maxRecDepth 20000 in
theorem ggX13_keeps_X13_truth : GoodIn wsX13_keeps wsX13_truth := goodIn_r _ [10] (by decide +kernel) (by decide +kernel)
set_option maxRecDepth 20000 in
theorem gX13_keeps_X13_truth : GoodIn wsX13_keeps (va_wsS RX13 96 yX13_truth wsX13_truth) := goodIn_app (goodIn_of _ (by decide +kernel)) ggX13_keeps_X13_truth
theorem dX13_keeps_0 : decode cX13_keeps 0 = .ok (.iconst 0, 1) := by decide +kernel
theorem dX13_keeps_1 : decode cX13_keeps 1 = .ok (.istore_n 1, 1) := by decide +kernel
theorem dX13_keeps_2 : decode cX13_keeps 2 = .ok (.iconst 0, 1) := by decide +kernel
theorem dX13_keeps_3 : decode cX13_keeps 3 = .ok (.istore_n 2, 1) := by decide +kernel
theorem dX13_keeps_4 : decode cX13_keeps 4 = .ok (.iconst 0, 1) := by decide +kernel
theorem dX13_keeps_5 : decode cX13_keeps 5 = .ok (.istore_n 3, 1) := by decide +kernel
theorem dX13_keeps_6 : decode cX13_keeps 6 = .ok (.iload_n 3, 1) := by decide +kernel
theorem dX13_keeps_7 : decode cX13_keeps 7 = .ok (.sipush 192, 3) := by decide +kernel
theorem dX13_keeps_10 : decode cX13_keeps 10 = .ok (.if_icmp .ge 61, 3) := by decide +kernel
theorem dX13_keeps_13 : decode cX13_keeps 13 = .ok (.iload_n 1, 1) := by decide +kernel
theorem dX13_keeps_14 : decode cX13_keeps 14 = .ok (.aload_n 0, 1) := by decide +kernel
theorem dX13_keeps_15 : decode cX13_keeps 15 = .ok (.getfield 29, 3) := by decide +kernel
theorem dX13_keeps_18 : decode cX13_keeps 18 = .ok (.iload_n 3, 1) := by decide +kernel
theorem dX13_keeps_19 : decode cX13_keeps 19 = .ok (.iaload, 1) := by decide +kernel
theorem dX13_keeps_20 : decode cX13_keeps 20 = .ok (.aload_n 0, 1) := by decide +kernel
theorem dX13_keeps_21 : decode cX13_keeps 21 = .ok (.getfield 39, 3) := by decide +kernel
theorem dX13_keeps_24 : decode cX13_keeps 24 = .ok (.iload_n 3, 1) := by decide +kernel
theorem dX13_keeps_25 : decode cX13_keeps 25 = .ok (.iaload, 1) := by decide +kernel
theorem dX13_keeps_26 : decode cX13_keeps 26 = .ok (.if_icmp .eq 7, 3) := by decide +kernel
theorem dX13_keeps_29 : decode cX13_keeps 29 = .ok (.iconst 1, 1) := by decide +kernel
theorem dX13_keeps_30 : decode cX13_keeps 30 = .ok (.goto 4, 3) := by decide +kernel
theorem dX13_keeps_33 : decode cX13_keeps 33 = .ok (.iconst 0, 1) := by decide +kernel
theorem dX13_keeps_34 : decode cX13_keeps 34 = .ok (.invokestatic 96, 3) := by decide +kernel
theorem dX13_keeps_37 : decode cX13_keeps 37 = .ok (.iadd, 1) := by decide +kernel
theorem dX13_keeps_38 : decode cX13_keeps 38 = .ok (.istore_n 1, 1) := by decide +kernel
theorem dX13_keeps_39 : decode cX13_keeps 39 = .ok (.iload_n 2, 1) := by decide +kernel
theorem dX13_keeps_40 : decode cX13_keeps 40 = .ok (.aload_n 0, 1) := by decide +kernel
theorem dX13_keeps_41 : decode cX13_keeps 41 = .ok (.getfield 26, 3) := by decide +kernel
theorem dX13_keeps_44 : decode cX13_keeps 44 = .ok (.iload_n 3, 1) := by decide +kernel
theorem dX13_keeps_45 : decode cX13_keeps 45 = .ok (.iaload, 1) := by decide +kernel
theorem dX13_keeps_46 : decode cX13_keeps 46 = .ok (.aload_n 0, 1) := by decide +kernel
theorem dX13_keeps_47 : decode cX13_keeps 47 = .ok (.getfield 42, 3) := by decide +kernel
theorem dX13_keeps_50 : decode cX13_keeps 50 = .ok (.iload_n 3, 1) := by decide +kernel
theorem dX13_keeps_51 : decode cX13_keeps 51 = .ok (.iaload, 1) := by decide +kernel
theorem dX13_keeps_52 : decode cX13_keeps 52 = .ok (.if_icmp .eq 7, 3) := by decide +kernel
theorem dX13_keeps_55 : decode cX13_keeps 55 = .ok (.iconst 1, 1) := by decide +kernel
theorem dX13_keeps_56 : decode cX13_keeps 56 = .ok (.goto 4, 3) := by decide +kernel
theorem dX13_keeps_59 : decode cX13_keeps 59 = .ok (.iconst 0, 1) := by decide +kernel
theorem dX13_keeps_60 : decode cX13_keeps 60 = .ok (.invokestatic 96, 3) := by decide +kernel
theorem dX13_keeps_63 : decode cX13_keeps 63 = .ok (.iadd, 1) := by decide +kernel
theorem dX13_keeps_64 : decode cX13_keeps 64 = .ok (.istore_n 2, 1) := by decide +kernel
theorem dX13_keeps_65 : decode cX13_keeps 65 = .ok (.iinc 3 1, 3) := by decide +kernel
theorem dX13_keeps_68 : decode cX13_keeps 68 = .ok (.goto (-62), 3) := by decide +kernel
theorem dX13_keeps_71 : decode cX13_keeps 71 = .ok (.iload_n 1, 1) := by decide +kernel
theorem dX13_keeps_72 : decode cX13_keeps 72 = .ok (.iload_n 2, 1) := by decide +kernel
theorem dX13_keeps_73 : decode cX13_keeps 73 = .ok (.iadd, 1) := by decide +kernel
theorem dX13_keeps_74 : decode cX13_keeps 74 = .ok (.ifCond .ne 5, 3) := by decide +kernel
theorem dX13_keeps_77 : decode cX13_keeps 77 = .ok (.iconst 0, 1) := by decide +kernel
theorem dX13_keeps_78 : decode cX13_keeps 78 = .ok (.ireturn, 1) := by decide +kernel
theorem dX13_keeps_79 : decode cX13_keeps 79 = .ok (.aload_n 0, 1) := by decide +kernel
theorem dX13_keeps_80 : decode cX13_keeps 80 = .ok (.getfield 207, 3) := by decide +kernel
theorem dX13_keeps_83 : decode cX13_keeps 83 = .ok (.bipush 6, 2) := by decide +kernel
theorem dX13_keeps_85 : decode cX13_keeps 85 = .ok (.if_icmp .ne 49, 3) := by decide +kernel
theorem dX13_keeps_88 : decode cX13_keeps 88 = .ok (.aload_n 0, 1) := by decide +kernel
theorem dX13_keeps_89 : decode cX13_keeps 89 = .ok (.dup, 1) := by decide +kernel
theorem dX13_keeps_90 : decode cX13_keeps 90 = .ok (.getfield 207, 3) := by decide +kernel
theorem dX13_keeps_93 : decode cX13_keeps 93 = .ok (.iconst 1, 1) := by decide +kernel
theorem dX13_keeps_94 : decode cX13_keeps 94 = .ok (.isub, 1) := by decide +kernel
theorem dX13_keeps_95 : decode cX13_keeps 95 = .ok (.putfield 207, 3) := by decide +kernel
theorem dX13_keeps_98 : decode cX13_keeps 98 = .ok (.iconst 0, 1) := by decide +kernel
theorem dX13_keeps_99 : decode cX13_keeps 99 = .ok (.istore_n 3, 1) := by decide +kernel
theorem dX13_keeps_100 : decode cX13_keeps 100 = .ok (.iload_n 3, 1) := by decide +kernel
theorem dX13_keeps_101 : decode cX13_keeps 101 = .ok (.sipush 384, 3) := by decide +kernel
theorem dX13_keeps_104 : decode cX13_keeps 104 = .ok (.aload_n 0, 1) := by decide +kernel
theorem dX13_keeps_105 : decode cX13_keeps 105 = .ok (.getfield 207, 3) := by decide +kernel
theorem dX13_keeps_108 : decode cX13_keeps 108 = .ok (.imul, 1) := by decide +kernel
theorem dX13_keeps_109 : decode cX13_keeps 109 = .ok (.if_icmp .ge 25, 3) := by decide +kernel
theorem dX13_keeps_112 : decode cX13_keeps 112 = .ok (.aload_n 0, 1) := by decide +kernel
theorem dX13_keeps_113 : decode cX13_keeps 113 = .ok (.getfield 48, 3) := by decide +kernel
theorem dX13_keeps_116 : decode cX13_keeps 116 = .ok (.iload_n 3, 1) := by decide +kernel
theorem dX13_keeps_117 : decode cX13_keeps 117 = .ok (.aload_n 0, 1) := by decide +kernel
theorem dX13_keeps_118 : decode cX13_keeps 118 = .ok (.getfield 48, 3) := by decide +kernel
theorem dX13_keeps_121 : decode cX13_keeps 121 = .ok (.iload_n 3, 1) := by decide +kernel
theorem dX13_keeps_122 : decode cX13_keeps 122 = .ok (.sipush 384, 3) := by decide +kernel
theorem dX13_keeps_125 : decode cX13_keeps 125 = .ok (.iadd, 1) := by decide +kernel
theorem dX13_keeps_126 : decode cX13_keeps 126 = .ok (.iaload, 1) := by decide +kernel
theorem dX13_keeps_127 : decode cX13_keeps 127 = .ok (.iastore, 1) := by decide +kernel
theorem dX13_keeps_128 : decode cX13_keeps 128 = .ok (.iinc 3 1, 3) := by decide +kernel
theorem dX13_keeps_131 : decode cX13_keeps 131 = .ok (.goto (-31), 3) := by decide +kernel
theorem dX13_keeps_134 : decode cX13_keeps 134 = .ok (.iconst 0, 1) := by decide +kernel
theorem dX13_keeps_135 : decode cX13_keeps 135 = .ok (.istore_n 3, 1) := by decide +kernel
theorem dX13_keeps_136 : decode cX13_keeps 136 = .ok (.iload_n 3, 1) := by decide +kernel
theorem dX13_keeps_137 : decode cX13_keeps 137 = .ok (.sipush 192, 3) := by decide +kernel
theorem dX13_keeps_140 : decode cX13_keeps 140 = .ok (.if_icmp .ge 55, 3) := by decide +kernel
theorem dX13_keeps_143 : decode cX13_keeps 143 = .ok (.aload_n 0, 1) := by decide +kernel
theorem dX13_keeps_144 : decode cX13_keeps 144 = .ok (.getfield 48, 3) := by decide +kernel
theorem dX13_keeps_147 : decode cX13_keeps 147 = .ok (.sipush 384, 3) := by decide +kernel
theorem dX13_keeps_150 : decode cX13_keeps 150 = .ok (.aload_n 0, 1) := by decide +kernel
theorem dX13_keeps_151 : decode cX13_keeps 151 = .ok (.getfield 207, 3) := by decide +kernel
theorem dX13_keeps_154 : decode cX13_keeps 154 = .ok (.imul, 1) := by decide +kernel
theorem dX13_keeps_155 : decode cX13_keeps 155 = .ok (.iload_n 3, 1) := by decide +kernel
theorem dX13_keeps_156 : decode cX13_keeps 156 = .ok (.iadd, 1) := by decide +kernel
theorem dX13_keeps_157 : decode cX13_keeps 157 = .ok (.aload_n 0, 1) := by decide +kernel
theorem dX13_keeps_158 : decode cX13_keeps 158 = .ok (.getfield 39, 3) := by decide +kernel
theorem dX13_keeps_161 : decode cX13_keeps 161 = .ok (.iload_n 3, 1) := by decide +kernel
theorem dX13_keeps_162 : decode cX13_keeps 162 = .ok (.iaload, 1) := by decide +kernel
theorem dX13_keeps_163 : decode cX13_keeps 163 = .ok (.iastore, 1) := by decide +kernel
theorem dX13_keeps_164 : decode cX13_keeps 164 = .ok (.aload_n 0, 1) := by decide +kernel
theorem dX13_keeps_165 : decode cX13_keeps 165 = .ok (.getfield 48, 3) := by decide +kernel
theorem dX13_keeps_168 : decode cX13_keeps 168 = .ok (.sipush 384, 3) := by decide +kernel
theorem dX13_keeps_171 : decode cX13_keeps 171 = .ok (.aload_n 0, 1) := by decide +kernel
theorem dX13_keeps_172 : decode cX13_keeps 172 = .ok (.getfield 207, 3) := by decide +kernel
theorem dX13_keeps_175 : decode cX13_keeps 175 = .ok (.imul, 1) := by decide +kernel
theorem dX13_keeps_176 : decode cX13_keeps 176 = .ok (.sipush 192, 3) := by decide +kernel
theorem dX13_keeps_179 : decode cX13_keeps 179 = .ok (.iadd, 1) := by decide +kernel
theorem dX13_keeps_180 : decode cX13_keeps 180 = .ok (.iload_n 3, 1) := by decide +kernel
theorem dX13_keeps_181 : decode cX13_keeps 181 = .ok (.iadd, 1) := by decide +kernel
theorem dX13_keeps_182 : decode cX13_keeps 182 = .ok (.aload_n 0, 1) := by decide +kernel
theorem dX13_keeps_183 : decode cX13_keeps 183 = .ok (.getfield 42, 3) := by decide +kernel
theorem dX13_keeps_186 : decode cX13_keeps 186 = .ok (.iload_n 3, 1) := by decide +kernel
theorem dX13_keeps_187 : decode cX13_keeps 187 = .ok (.iaload, 1) := by decide +kernel
theorem dX13_keeps_188 : decode cX13_keeps 188 = .ok (.iastore, 1) := by decide +kernel
theorem dX13_keeps_189 : decode cX13_keeps 189 = .ok (.iinc 3 1, 3) := by decide +kernel
theorem dX13_keeps_192 : decode cX13_keeps 192 = .ok (.goto (-56), 3) := by decide +kernel
theorem dX13_keeps_195 : decode cX13_keeps 195 = .ok (.aload_n 0, 1) := by decide +kernel
theorem dX13_keeps_196 : decode cX13_keeps 196 = .ok (.dup, 1) := by decide +kernel
theorem dX13_keeps_197 : decode cX13_keeps 197 = .ok (.getfield 207, 3) := by decide +kernel
theorem dX13_keeps_200 : decode cX13_keeps 200 = .ok (.iconst 1, 1) := by decide +kernel
theorem dX13_keeps_201 : decode cX13_keeps 201 = .ok (.iadd, 1) := by decide +kernel
theorem dX13_keeps_202 : decode cX13_keeps 202 = .ok (.putfield 207, 3) := by decide +kernel
theorem dX13_keeps_205 : decode cX13_keeps 205 = .ok (.iload_n 1, 1) := by decide +kernel
theorem dX13_keeps_206 : decode cX13_keeps 206 = .ok (.ireturn, 1) := by decide +kernel
theorem dX13_undo_0 : decode cX13_undo 0 = .ok (.aload_n 0, 1) := by decide +kernel
theorem dX13_undo_1 : decode cX13_undo 1 = .ok (.iconst 0, 1) := by decide +kernel
theorem dX13_undo_2 : decode cX13_undo 2 = .ok (.putfield 93, 3) := by decide +kernel
theorem dX13_undo_5 : decode cX13_undo 5 = .ok (.aload_n 0, 1) := by decide +kernel
theorem dX13_undo_6 : decode cX13_undo 6 = .ok (.getfield 207, 3) := by decide +kernel
theorem dX13_undo_9 : decode cX13_undo 9 = .ok (.ifCond .ne 5, 3) := by decide +kernel
theorem dX13_undo_12 : decode cX13_undo 12 = .ok (.iconst (-1), 1) := by decide +kernel
theorem dX13_undo_13 : decode cX13_undo 13 = .ok (.ireturn, 1) := by decide +kernel
theorem dX13_undo_14 : decode cX13_undo 14 = .ok (.aload_n 0, 1) := by decide +kernel
theorem dX13_undo_15 : decode cX13_undo 15 = .ok (.dup, 1) := by decide +kernel
theorem dX13_undo_16 : decode cX13_undo 16 = .ok (.getfield 207, 3) := by decide +kernel
theorem dX13_undo_19 : decode cX13_undo 19 = .ok (.iconst 1, 1) := by decide +kernel
theorem dX13_undo_20 : decode cX13_undo 20 = .ok (.isub, 1) := by decide +kernel
theorem dX13_undo_21 : decode cX13_undo 21 = .ok (.putfield 207, 3) := by decide +kernel
theorem dX13_undo_24 : decode cX13_undo 24 = .ok (.iconst 0, 1) := by decide +kernel
theorem dX13_undo_25 : decode cX13_undo 25 = .ok (.istore_n 1, 1) := by decide +kernel
theorem dX13_undo_26 : decode cX13_undo 26 = .ok (.iload_n 1, 1) := by decide +kernel
theorem dX13_undo_27 : decode cX13_undo 27 = .ok (.sipush 192, 3) := by decide +kernel
theorem dX13_undo_30 : decode cX13_undo 30 = .ok (.if_icmp .ge 55, 3) := by decide +kernel
theorem dX13_undo_33 : decode cX13_undo 33 = .ok (.aload_n 0, 1) := by decide +kernel
theorem dX13_undo_34 : decode cX13_undo 34 = .ok (.getfield 29, 3) := by decide +kernel
theorem dX13_undo_37 : decode cX13_undo 37 = .ok (.iload_n 1, 1) := by decide +kernel
theorem dX13_undo_38 : decode cX13_undo 38 = .ok (.aload_n 0, 1) := by decide +kernel
theorem dX13_undo_39 : decode cX13_undo 39 = .ok (.getfield 48, 3) := by decide +kernel
theorem dX13_undo_42 : decode cX13_undo 42 = .ok (.sipush 384, 3) := by decide +kernel
theorem dX13_undo_45 : decode cX13_undo 45 = .ok (.aload_n 0, 1) := by decide +kernel
theorem dX13_undo_46 : decode cX13_undo 46 = .ok (.getfield 207, 3) := by decide +kernel
theorem dX13_undo_49 : decode cX13_undo 49 = .ok (.imul, 1) := by decide +kernel
theorem dX13_undo_50 : decode cX13_undo 50 = .ok (.iload_n 1, 1) := by decide +kernel
theorem dX13_undo_51 : decode cX13_undo 51 = .ok (.iadd, 1) := by decide +kernel
theorem dX13_undo_52 : decode cX13_undo 52 = .ok (.iaload, 1) := by decide +kernel
theorem dX13_undo_53 : decode cX13_undo 53 = .ok (.iastore, 1) := by decide +kernel
theorem dX13_undo_54 : decode cX13_undo 54 = .ok (.aload_n 0, 1) := by decide +kernel
theorem dX13_undo_55 : decode cX13_undo 55 = .ok (.getfield 26, 3) := by decide +kernel
theorem dX13_undo_58 : decode cX13_undo 58 = .ok (.iload_n 1, 1) := by decide +kernel
theorem dX13_undo_59 : decode cX13_undo 59 = .ok (.aload_n 0, 1) := by decide +kernel
theorem dX13_undo_60 : decode cX13_undo 60 = .ok (.getfield 48, 3) := by decide +kernel
theorem dX13_undo_63 : decode cX13_undo 63 = .ok (.sipush 384, 3) := by decide +kernel
theorem dX13_undo_66 : decode cX13_undo 66 = .ok (.aload_n 0, 1) := by decide +kernel
theorem dX13_undo_67 : decode cX13_undo 67 = .ok (.getfield 207, 3) := by decide +kernel
theorem dX13_undo_70 : decode cX13_undo 70 = .ok (.imul, 1) := by decide +kernel
theorem dX13_undo_71 : decode cX13_undo 71 = .ok (.sipush 192, 3) := by decide +kernel
theorem dX13_undo_74 : decode cX13_undo 74 = .ok (.iadd, 1) := by decide +kernel
theorem dX13_undo_75 : decode cX13_undo 75 = .ok (.iload_n 1, 1) := by decide +kernel
theorem dX13_undo_76 : decode cX13_undo 76 = .ok (.iadd, 1) := by decide +kernel
theorem dX13_undo_77 : decode cX13_undo 77 = .ok (.iaload, 1) := by decide +kernel
theorem dX13_undo_78 : decode cX13_undo 78 = .ok (.iastore, 1) := by decide +kernel
theorem dX13_undo_79 : decode cX13_undo 79 = .ok (.iinc 1 1, 3) := by decide +kernel
theorem dX13_undo_82 : decode cX13_undo 82 = .ok (.goto (-56), 3) := by decide +kernel
theorem dX13_undo_85 : decode cX13_undo 85 = .ok (.aload_n 0, 1) := by decide +kernel
theorem dX13_undo_86 : decode cX13_undo 86 = .ok (.getfield 207, 3) := by decide +kernel
theorem dX13_undo_89 : decode cX13_undo 89 = .ok (.ireturn, 1) := by decide +kernel
set_option maxRecDepth 20000 in
theorem ggX13_tones_X13_wantedBy : GoodIn wsX13_tones wsX13_wantedBy := goodIn_r _ [6, 7] (by decide +kernel) (by decide +kernel)
set_option maxRecDepth 20000 in
theorem gX13_tones_X13_wantedBy : GoodIn wsX13_tones (va_wsS RX13 199 yX13_wantedBy wsX13_wantedBy) := goodIn_app (goodIn_of _ (by decide +kernel)) ggX13_tones_X13_wantedBy
set_option maxRecDepth 20000 in
theorem ggX13_tones_X13_heightBy : GoodIn wsX13_tones wsX13_heightBy := goodIn_r _ [11, 12, 13, 14, 15, 5, 16, 17, 18, 19, 20, 21, 22, 23, 24, 25, 26, 27, 28, 29, 30, 31, 32, 33, 34, 35, 36, 37, 38, 39, 40, 41, 42, 43, 44, 45, 46, 47, 48, 49, 50, 51, 52, 53, 54, 55, 56, 57, 58, 59, 60, 61, 62, 63, 64, 65, 66, 67, 68] (by decide +kernel) (by decide +kernel)
set_option maxRecDepth 20000 in
theorem gX13_tones_X13_heightBy : GoodIn wsX13_tones (wsV RX13 203 RX13 yX13_heightBy wsX13_heightBy) := goodIn_app (goodIn_of _ (by decide +kernel)) ggX13_tones_X13_heightBy
theorem dX13_tones_0 : decode cX13_tones 0 = .ok (.aload_n 0, 1) := by decide +kernel
theorem dX13_tones_1 : decode cX13_tones 1 = .ok (.getfield 26, 3) := by decide +kernel
theorem dX13_tones_4 : decode cX13_tones 4 = .ok (.bipush 16, 2) := by decide +kernel
theorem dX13_tones_6 : decode cX13_tones 6 = .ok (.iload_n 2, 1) := by decide +kernel
theorem dX13_tones_7 : decode cX13_tones 7 = .ok (.imul, 1) := by decide +kernel
theorem dX13_tones_8 : decode cX13_tones 8 = .ok (.iload_n 1, 1) := by decide +kernel
theorem dX13_tones_9 : decode cX13_tones 9 = .ok (.iadd, 1) := by decide +kernel
theorem dX13_tones_10 : decode cX13_tones 10 = .ok (.iload_n 3, 1) := by decide +kernel
theorem dX13_tones_11 : decode cX13_tones 11 = .ok (.iastore, 1) := by decide +kernel
theorem dX13_tones_12 : decode cX13_tones 12 = .ok (.aload_n 0, 1) := by decide +kernel
theorem dX13_tones_13 : decode cX13_tones 13 = .ok (.getfield 29, 3) := by decide +kernel
theorem dX13_tones_16 : decode cX13_tones 16 = .ok (.bipush 16, 2) := by decide +kernel
theorem dX13_tones_18 : decode cX13_tones 18 = .ok (.iload_n 2, 1) := by decide +kernel
theorem dX13_tones_19 : decode cX13_tones 19 = .ok (.imul, 1) := by decide +kernel
theorem dX13_tones_20 : decode cX13_tones 20 = .ok (.iload_n 1, 1) := by decide +kernel
theorem dX13_tones_21 : decode cX13_tones 21 = .ok (.iadd, 1) := by decide +kernel
theorem dX13_tones_22 : decode cX13_tones 22 = .ok (.aload_n 0, 1) := by decide +kernel
theorem dX13_tones_23 : decode cX13_tones 23 = .ok (.iload_n 3, 1) := by decide +kernel
theorem dX13_tones_24 : decode cX13_tones 24 = .ok (.invokestatic 199, 3) := by decide +kernel
theorem dX13_tones_27 : decode cX13_tones 27 = .ok (.invokevirtual 203, 3) := by decide +kernel
theorem dX13_tones_30 : decode cX13_tones 30 = .ok (.iastore, 1) := by decide +kernel
theorem dX13_tones_31 : decode cX13_tones 31 = .ok (.return_, 1) := by decide +kernel
set_option maxRecDepth 20000 in
theorem ggX13_setTone_X13_isCell : GoodIn wsX13_setTone wsX13_isCell := goodIn_r _ [8, 9, 10, 11, 7, 12, 49, 50, 51, 52, 53, 54, 55, 56, 57, 58, 59, 60, 61, 62, 63, 64, 65, 66, 67, 68, 69, 70, 71, 72, 73, 74, 75, 76, 77, 78, 79, 80, 81, 82, 83, 84, 85, 86, 87, 88, 89, 90, 91, 92, 93, 94, 95, 96] (by decide +kernel) (by decide +kernel)
set_option maxRecDepth 20000 in
theorem gX13_setTone_X13_isCell : GoodIn wsX13_setTone (wsV RX13 195 RX13 yX13_isCell wsX13_isCell) := goodIn_app (goodIn_of _ (by decide +kernel)) ggX13_setTone_X13_isCell
set_option maxRecDepth 20000 in
theorem ggX13_setTone_X13_isIn : GoodIn wsX13_setTone wsX13_isIn := goodIn_r _ [12] (by decide +kernel) (by decide +kernel)
set_option maxRecDepth 20000 in
theorem gX13_setTone_X13_isIn : GoodIn wsX13_setTone (va_wsS RX13 111 yX13_isIn wsX13_isIn) := goodIn_app (goodIn_of _ (by decide +kernel)) ggX13_setTone_X13_isIn
set_option maxRecDepth 20000 in
theorem ggX13_setTone_X13_truth : GoodIn wsX13_setTone wsX13_truth := goodIn_r _ [15] (by decide +kernel) (by decide +kernel)
set_option maxRecDepth 20000 in
theorem gX13_setTone_X13_truth : GoodIn wsX13_setTone (va_wsS RX13 96 yX13_truth wsX13_truth) := goodIn_app (goodIn_of _ (by decide +kernel)) ggX13_setTone_X13_truth
set_option maxRecDepth 20000 in
theorem ggX13_setTone_X13_laysAside : GoodIn wsX13_setTone wsX13_laysAside := goodIn_r _ [19, 20, 3, 21, 22, 49, 50, 51, 52, 53, 54, 55, 56, 57, 58, 59, 60, 61, 62, 63, 64, 65, 66, 67, 68, 69, 70, 71, 72, 73, 74, 75, 76, 77, 78, 79, 80, 81, 82, 83, 84, 85, 86, 87, 88, 89, 90, 91, 92, 93, 94, 95, 96] (by decide +kernel) (by decide +kernel)
set_option maxRecDepth 20000 in
theorem gX13_setTone_X13_laysAside : GoodIn wsX13_setTone (wsV RX13 314 RX13 yX13_laysAside wsX13_laysAside) := goodIn_app (goodIn_of _ (by decide +kernel)) ggX13_setTone_X13_laysAside
set_option maxRecDepth 20000 in
theorem ggX13_setTone_X13_tones : GoodIn wsX13_setTone wsX13_tones := goodIn_r _ [26, 22, 3, 27, 28, 7, 29, 30, 31, 32, 33, 34, 9, 35, 36, 37, 38, 39, 40, 41, 42, 49, 50, 51, 52, 53, 54, 55, 56, 57, 58, 59, 60, 61, 62, 63, 64, 65, 66, 67, 68, 69, 70, 71, 72, 73, 74, 75, 76, 77, 78, 79, 80, 81, 82, 83, 84, 85, 86, 87, 88, 89, 90, 91, 92, 93, 94, 95, 96] (by decide +kernel) (by decide +kernel)
set_option maxRecDepth 20000 in
theorem gX13_setTone_X13_tones : GoodIn wsX13_setTone (wsV RX13 365 RX13 yX13_tones wsX13_tones) := goodIn_app (goodIn_of _ (by decide +kernel)) ggX13_setTone_X13_tones
set_option maxRecDepth 20000 in
theorem ggX13_setTone_X13_keeps : GoodIn wsX13_setTone wsX13_keeps := goodIn_r _ [46, 3, 20, 22, 21, 47, 48, 13, 14, 7, 15, 49, 50, 51, 52, 53, 54, 55, 56, 57, 58, 59, 60, 61, 62, 63, 64, 65, 66, 67, 68, 69, 70, 71, 72, 73, 74, 75, 76, 77, 78, 79, 80, 81, 82, 83, 84, 85, 86, 87, 88, 89, 90, 91, 92, 93, 94, 95, 96] (by decide +kernel) (by decide +kernel)
set_option maxRecDepth 20000 in
theorem gX13_setTone_X13_keeps : GoodIn wsX13_setTone (wsV RX13 368 RX13 yX13_keeps wsX13_keeps) := goodIn_app (goodIn_of _ (by decide +kernel)) ggX13_setTone_X13_keeps
theorem dX13_setTone_0 : decode cX13_setTone 0 = .ok (.aload_n 0, 1) := by decide +kernel
theorem dX13_setTone_1 : decode cX13_setTone 1 = .ok (.aload_n 0, 1) := by decide +kernel
theorem dX13_setTone_2 : decode cX13_setTone 2 = .ok (.iload_n 1, 1) := by decide +kernel
theorem dX13_setTone_3 : decode cX13_setTone 3 = .ok (.iload_n 2, 1) := by decide +kernel
theorem dX13_setTone_4 : decode cX13_setTone 4 = .ok (.invokevirtual 195, 3) := by decide +kernel
theorem dX13_setTone_7 : decode cX13_setTone 7 = .ok (.ifCond .ne 7, 3) := by decide +kernel
theorem dX13_setTone_10 : decode cX13_setTone 10 = .ok (.iconst 1, 1) := by decide +kernel
theorem dX13_setTone_11 : decode cX13_setTone 11 = .ok (.goto 25, 3) := by decide +kernel
theorem dX13_setTone_14 : decode cX13_setTone 14 = .ok (.iload_n 3, 1) := by decide +kernel
theorem dX13_setTone_15 : decode cX13_setTone 15 = .ok (.i2l, 1) := by decide +kernel
theorem dX13_setTone_16 : decode cX13_setTone 16 = .ok (.lconst 0, 1) := by decide +kernel
theorem dX13_setTone_17 : decode cX13_setTone 17 = .ok (.ldc2_w 276, 3) := by decide +kernel
theorem dX13_setTone_20 : decode cX13_setTone 20 = .ok (.invokestatic 111, 3) := by decide +kernel
theorem dX13_setTone_23 : decode cX13_setTone 23 = .ok (.ifCond .ne 7, 3) := by decide +kernel
theorem dX13_setTone_26 : decode cX13_setTone 26 = .ok (.iconst 1, 1) := by decide +kernel
theorem dX13_setTone_27 : decode cX13_setTone 27 = .ok (.goto 4, 3) := by decide +kernel
theorem dX13_setTone_30 : decode cX13_setTone 30 = .ok (.iconst 0, 1) := by decide +kernel
theorem dX13_setTone_31 : decode cX13_setTone 31 = .ok (.invokestatic 96, 3) := by decide +kernel
theorem dX13_setTone_34 : decode cX13_setTone 34 = .ok (.iconst 2, 1) := by decide +kernel
theorem dX13_setTone_35 : decode cX13_setTone 35 = .ok (.imul, 1) := by decide +kernel
theorem dX13_setTone_36 : decode cX13_setTone 36 = .ok (.putfield 93, 3) := by decide +kernel
theorem dX13_setTone_39 : decode cX13_setTone 39 = .ok (.aload_n 0, 1) := by decide +kernel
theorem dX13_setTone_40 : decode cX13_setTone 40 = .ok (.getfield 93, 3) := by decide +kernel
theorem dX13_setTone_43 : decode cX13_setTone 43 = .ok (.ifCond .le 5, 3) := by decide +kernel
theorem dX13_setTone_46 : decode cX13_setTone 46 = .ok (.iconst 0, 1) := by decide +kernel
theorem dX13_setTone_47 : decode cX13_setTone 47 = .ok (.ireturn, 1) := by decide +kernel
theorem dX13_setTone_48 : decode cX13_setTone 48 = .ok (.aload_n 0, 1) := by decide +kernel
theorem dX13_setTone_49 : decode cX13_setTone 49 = .ok (.invokevirtual 314, 3) := by decide +kernel
theorem dX13_setTone_52 : decode cX13_setTone 52 = .ok (.aload_n 0, 1) := by decide +kernel
theorem dX13_setTone_53 : decode cX13_setTone 53 = .ok (.iload_n 1, 1) := by decide +kernel
theorem dX13_setTone_54 : decode cX13_setTone 54 = .ok (.iload_n 2, 1) := by decide +kernel
theorem dX13_setTone_55 : decode cX13_setTone 55 = .ok (.iload_n 3, 1) := by decide +kernel
theorem dX13_setTone_56 : decode cX13_setTone 56 = .ok (.invokevirtual 365, 3) := by decide +kernel
theorem dX13_setTone_59 : decode cX13_setTone 59 = .ok (.aload_n 0, 1) := by decide +kernel
theorem dX13_setTone_60 : decode cX13_setTone 60 = .ok (.invokevirtual 368, 3) := by decide +kernel
theorem dX13_setTone_63 : decode cX13_setTone 63 = .ok (.istore 4, 2) := by decide +kernel
theorem dX13_setTone_65 : decode cX13_setTone 65 = .ok (.aload_n 0, 1) := by decide +kernel
theorem dX13_setTone_66 : decode cX13_setTone 66 = .ok (.getfield 29, 3) := by decide +kernel
theorem dX13_setTone_69 : decode cX13_setTone 69 = .ok (.bipush 16, 2) := by decide +kernel
theorem dX13_setTone_71 : decode cX13_setTone 71 = .ok (.iload_n 2, 1) := by decide +kernel
theorem dX13_setTone_72 : decode cX13_setTone 72 = .ok (.imul, 1) := by decide +kernel
theorem dX13_setTone_73 : decode cX13_setTone 73 = .ok (.iload_n 1, 1) := by decide +kernel
theorem dX13_setTone_74 : decode cX13_setTone 74 = .ok (.iadd, 1) := by decide +kernel
theorem dX13_setTone_75 : decode cX13_setTone 75 = .ok (.iaload, 1) := by decide +kernel
theorem dX13_setTone_76 : decode cX13_setTone 76 = .ok (.ireturn, 1) := by decide +kernel
set_option maxRecDepth 20000 in
theorem ggX13_isHeight_X13_isIn : GoodIn wsX13_isHeight wsX13_isIn := goodIn_r _ [5] (by decide +kernel) (by decide +kernel)
set_option maxRecDepth 20000 in
theorem gX13_isHeight_X13_isIn : GoodIn wsX13_isHeight (va_wsS RX13 111 yX13_isIn wsX13_isIn) := goodIn_app (goodIn_of _ (by decide +kernel)) ggX13_isHeight_X13_isIn
theorem dX13_isHeight_0 : decode cX13_isHeight 0 = .ok (.iload_n 1, 1) := by decide +kernel
theorem dX13_isHeight_1 : decode cX13_isHeight 1 = .ok (.i2l, 1) := by decide +kernel
theorem dX13_isHeight_2 : decode cX13_isHeight 2 = .ok (.aload_n 0, 1) := by decide +kernel
theorem dX13_isHeight_3 : decode cX13_isHeight 3 = .ok (.getfield 20, 3) := by decide +kernel
theorem dX13_isHeight_6 : decode cX13_isHeight 6 = .ok (.iconst 4, 1) := by decide +kernel
theorem dX13_isHeight_7 : decode cX13_isHeight 7 = .ok (.iaload, 1) := by decide +kernel
theorem dX13_isHeight_8 : decode cX13_isHeight 8 = .ok (.i2l, 1) := by decide +kernel
theorem dX13_isHeight_9 : decode cX13_isHeight 9 = .ok (.aload_n 0, 1) := by decide +kernel
theorem dX13_isHeight_10 : decode cX13_isHeight 10 = .ok (.getfield 20, 3) := by decide +kernel
theorem dX13_isHeight_13 : decode cX13_isHeight 13 = .ok (.iconst 2, 1) := by decide +kernel
theorem dX13_isHeight_14 : decode cX13_isHeight 14 = .ok (.iaload, 1) := by decide +kernel
theorem dX13_isHeight_15 : decode cX13_isHeight 15 = .ok (.i2l, 1) := by decide +kernel
theorem dX13_isHeight_16 : decode cX13_isHeight 16 = .ok (.invokestatic 111, 3) := by decide +kernel
theorem dX13_isHeight_19 : decode cX13_isHeight 19 = .ok (.ireturn, 1) := by decide +kernel
set_option maxRecDepth 20000 in
theorem ggX13_setHeight_X13_isCell : GoodIn wsX13_setHeight wsX13_isCell := goodIn_r _ [8, 9, 10, 11, 7, 12, 32, 33, 34, 35, 36, 37, 38, 39, 40, 41, 42, 43, 44, 45, 46, 47, 48, 49, 50, 51, 52, 53, 54, 55, 56, 57, 58, 59, 60, 61, 62, 63, 64, 65, 66, 67, 68, 69, 70, 71, 72, 73, 74, 75, 76, 77, 78, 79] (by decide +kernel) (by decide +kernel)
set_option maxRecDepth 20000 in
theorem gX13_setHeight_X13_isCell : GoodIn wsX13_setHeight (wsV RX13 195 RX13 yX13_isCell wsX13_isCell) := goodIn_app (goodIn_of _ (by decide +kernel)) ggX13_setHeight_X13_isCell
set_option maxRecDepth 20000 in
theorem ggX13_setHeight_X13_isHeight : GoodIn wsX13_setHeight wsX13_isHeight := goodIn_r _ [16, 9, 10, 11, 7, 12, 32, 33, 34, 35, 36, 37, 38, 39, 40, 41, 42, 43, 44, 45, 46, 47, 48, 49, 50, 51, 52, 53, 54, 55, 56, 57, 58, 59, 60, 61, 62, 63, 64, 65, 66, 67, 68, 69, 70, 71, 72, 73, 74, 75, 76, 77, 78, 79] (by decide +kernel) (by decide +kernel)
set_option maxRecDepth 20000 in
theorem gX13_setHeight_X13_isHeight : GoodIn wsX13_setHeight (wsV RX13 371 RX13 yX13_isHeight wsX13_isHeight) := goodIn_app (goodIn_of _ (by decide +kernel)) ggX13_setHeight_X13_isHeight
set_option maxRecDepth 20000 in
theorem ggX13_setHeight_X13_truth : GoodIn wsX13_setHeight wsX13_truth := goodIn_r _ [19] (by decide +kernel) (by decide +kernel)
set_option maxRecDepth 20000 in
theorem gX13_setHeight_X13_truth : GoodIn wsX13_setHeight (va_wsS RX13 96 yX13_truth wsX13_truth) := goodIn_app (goodIn_of _ (by decide +kernel)) ggX13_setHeight_X13_truth
set_option maxRecDepth 20000 in
theorem ggX13_setHeight_X13_laysAside : GoodIn wsX13_setHeight wsX13_laysAside := goodIn_r _ [23, 3, 2, 24, 25, 32, 33, 34, 35, 36, 37, 38, 39, 40, 41, 42, 43, 44, 45, 46, 47, 48, 49, 50, 51, 52, 53, 54, 55, 56, 57, 58, 59, 60, 61, 62, 63, 64, 65, 66, 67, 68, 69, 70, 71, 72, 73, 74, 75, 76, 77, 78, 79] (by decide +kernel) (by decide +kernel)
set_option maxRecDepth 20000 in
theorem gX13_setHeight_X13_laysAside : GoodIn wsX13_setHeight (wsV RX13 314 RX13 yX13_laysAside wsX13_laysAside) := goodIn_app (goodIn_of _ (by decide +kernel)) ggX13_setHeight_X13_laysAside
set_option maxRecDepth 20000 in
theorem ggX13_setHeight_X13_keeps : GoodIn wsX13_setHeight wsX13_keeps := goodIn_r _ [29, 2, 3, 25, 24, 30, 31, 17, 18, 7, 19, 32, 33, 34, 35, 36, 37, 38, 39, 40, 41, 42, 43, 44, 45, 46, 47, 48, 49, 50, 51, 52, 53, 54, 55, 56, 57, 58, 59, 60, 61, 62, 63, 64, 65, 66, 67, 68, 69, 70, 71, 72, 73, 74, 75, 76, 77, 78, 79] (by decide +kernel) (by decide +kernel)
set_option maxRecDepth 20000 in
theorem gX13_setHeight_X13_keeps : GoodIn wsX13_setHeight (wsV RX13 368 RX13 yX13_keeps wsX13_keeps) := goodIn_app (goodIn_of _ (by decide +kernel)) ggX13_setHeight_X13_keeps
theorem dX13_setHeight_0 : decode cX13_setHeight 0 = .ok (.aload_n 0, 1) := by decide +kernel
theorem dX13_setHeight_1 : decode cX13_setHeight 1 = .ok (.aload_n 0, 1) := by decide +kernel
theorem dX13_setHeight_2 : decode cX13_setHeight 2 = .ok (.iload_n 1, 1) := by decide +kernel
theorem dX13_setHeight_3 : decode cX13_setHeight 3 = .ok (.iload_n 2, 1) := by decide +kernel
theorem dX13_setHeight_4 : decode cX13_setHeight 4 = .ok (.invokevirtual 195, 3) := by decide +kernel
theorem dX13_setHeight_7 : decode cX13_setHeight 7 = .ok (.ifCond .ne 7, 3) := by decide +kernel
theorem dX13_setHeight_10 : decode cX13_setHeight 10 = .ok (.iconst 1, 1) := by decide +kernel
theorem dX13_setHeight_11 : decode cX13_setHeight 11 = .ok (.goto 21, 3) := by decide +kernel
theorem dX13_setHeight_14 : decode cX13_setHeight 14 = .ok (.aload_n 0, 1) := by decide +kernel
theorem dX13_setHeight_15 : decode cX13_setHeight 15 = .ok (.iload_n 3, 1) := by decide +kernel
theorem dX13_setHeight_16 : decode cX13_setHeight 16 = .ok (.invokevirtual 371, 3) := by decide +kernel
theorem dX13_setHeight_19 : decode cX13_setHeight 19 = .ok (.ifCond .ne 7, 3) := by decide +kernel
theorem dX13_setHeight_22 : decode cX13_setHeight 22 = .ok (.iconst 1, 1) := by decide +kernel
theorem dX13_setHeight_23 : decode cX13_setHeight 23 = .ok (.goto 4, 3) := by decide +kernel
theorem dX13_setHeight_26 : decode cX13_setHeight 26 = .ok (.iconst 0, 1) := by decide +kernel
theorem dX13_setHeight_27 : decode cX13_setHeight 27 = .ok (.invokestatic 96, 3) := by decide +kernel
theorem dX13_setHeight_30 : decode cX13_setHeight 30 = .ok (.iconst 2, 1) := by decide +kernel
theorem dX13_setHeight_31 : decode cX13_setHeight 31 = .ok (.imul, 1) := by decide +kernel
theorem dX13_setHeight_32 : decode cX13_setHeight 32 = .ok (.putfield 93, 3) := by decide +kernel
theorem dX13_setHeight_35 : decode cX13_setHeight 35 = .ok (.aload_n 0, 1) := by decide +kernel
theorem dX13_setHeight_36 : decode cX13_setHeight 36 = .ok (.getfield 93, 3) := by decide +kernel
theorem dX13_setHeight_39 : decode cX13_setHeight 39 = .ok (.ifCond .le 5, 3) := by decide +kernel
theorem dX13_setHeight_42 : decode cX13_setHeight 42 = .ok (.iconst 0, 1) := by decide +kernel
theorem dX13_setHeight_43 : decode cX13_setHeight 43 = .ok (.ireturn, 1) := by decide +kernel
theorem dX13_setHeight_44 : decode cX13_setHeight 44 = .ok (.aload_n 0, 1) := by decide +kernel
theorem dX13_setHeight_45 : decode cX13_setHeight 45 = .ok (.invokevirtual 314, 3) := by decide +kernel
theorem dX13_setHeight_48 : decode cX13_setHeight 48 = .ok (.aload_n 0, 1) := by decide +kernel
theorem dX13_setHeight_49 : decode cX13_setHeight 49 = .ok (.getfield 29, 3) := by decide +kernel
theorem dX13_setHeight_52 : decode cX13_setHeight 52 = .ok (.bipush 16, 2) := by decide +kernel
theorem dX13_setHeight_54 : decode cX13_setHeight 54 = .ok (.iload_n 2, 1) := by decide +kernel
theorem dX13_setHeight_55 : decode cX13_setHeight 55 = .ok (.imul, 1) := by decide +kernel
theorem dX13_setHeight_56 : decode cX13_setHeight 56 = .ok (.iload_n 1, 1) := by decide +kernel
theorem dX13_setHeight_57 : decode cX13_setHeight 57 = .ok (.iadd, 1) := by decide +kernel
theorem dX13_setHeight_58 : decode cX13_setHeight 58 = .ok (.iload_n 3, 1) := by decide +kernel
theorem dX13_setHeight_59 : decode cX13_setHeight 59 = .ok (.iastore, 1) := by decide +kernel
theorem dX13_setHeight_60 : decode cX13_setHeight 60 = .ok (.aload_n 0, 1) := by decide +kernel
theorem dX13_setHeight_61 : decode cX13_setHeight 61 = .ok (.invokevirtual 368, 3) := by decide +kernel
theorem dX13_setHeight_64 : decode cX13_setHeight 64 = .ok (.istore 4, 2) := by decide +kernel
theorem dX13_setHeight_66 : decode cX13_setHeight 66 = .ok (.aload_n 0, 1) := by decide +kernel
theorem dX13_setHeight_67 : decode cX13_setHeight 67 = .ok (.getfield 39, 3) := by decide +kernel
theorem dX13_setHeight_70 : decode cX13_setHeight 70 = .ok (.bipush 16, 2) := by decide +kernel
theorem dX13_setHeight_72 : decode cX13_setHeight 72 = .ok (.iload_n 2, 1) := by decide +kernel
theorem dX13_setHeight_73 : decode cX13_setHeight 73 = .ok (.imul, 1) := by decide +kernel
theorem dX13_setHeight_74 : decode cX13_setHeight 74 = .ok (.iload_n 1, 1) := by decide +kernel
theorem dX13_setHeight_75 : decode cX13_setHeight 75 = .ok (.iadd, 1) := by decide +kernel
theorem dX13_setHeight_76 : decode cX13_setHeight 76 = .ok (.iaload, 1) := by decide +kernel
theorem dX13_setHeight_77 : decode cX13_setHeight 77 = .ok (.ireturn, 1) := by decide +kernel
set_option maxRecDepth 20000 in
theorem ggX13_fits_X13_isIn : GoodIn wsX13_fits wsX13_isIn := goodIn_r _ [5] (by decide +kernel) (by decide +kernel)
set_option maxRecDepth 20000 in
theorem gX13_fits_X13_isIn : GoodIn wsX13_fits (va_wsS RX13 111 yX13_isIn wsX13_isIn) := goodIn_app (goodIn_of _ (by decide +kernel)) ggX13_fits_X13_isIn
set_option maxRecDepth 20000 in
theorem ggX13_fits_X13_isHeight : GoodIn wsX13_fits wsX13_isHeight := goodIn_r _ [9, 1, 2, 3, 4, 5, 10, 11, 12, 13, 14, 15, 16, 17, 18, 19, 20, 21, 22, 23, 24, 25, 26, 27, 28, 29, 30, 31, 32, 33, 34, 35, 36, 37, 38, 39, 40, 41, 42, 43, 44, 45, 46, 47, 48, 49, 50, 51, 52, 53, 54, 55, 56, 57] (by decide +kernel) (by decide +kernel)
set_option maxRecDepth 20000 in
theorem gX13_fits_X13_isHeight : GoodIn wsX13_fits (wsV RX13 371 RX13 yX13_isHeight wsX13_isHeight) := goodIn_app (goodIn_of _ (by decide +kernel)) ggX13_fits_X13_isHeight
theorem dX13_fits_0 : decode cX13_fits 0 = .ok (.iload_n 3, 1) := by decide +kernel
theorem dX13_fits_1 : decode cX13_fits 1 = .ok (.i2l, 1) := by decide +kernel
theorem dX13_fits_2 : decode cX13_fits 2 = .ok (.lconst 1, 1) := by decide +kernel
theorem dX13_fits_3 : decode cX13_fits 3 = .ok (.aload_n 0, 1) := by decide +kernel
theorem dX13_fits_4 : decode cX13_fits 4 = .ok (.getfield 20, 3) := by decide +kernel
theorem dX13_fits_7 : decode cX13_fits 7 = .ok (.iconst 0, 1) := by decide +kernel
theorem dX13_fits_8 : decode cX13_fits 8 = .ok (.iaload, 1) := by decide +kernel
theorem dX13_fits_9 : decode cX13_fits 9 = .ok (.iload_n 1, 1) := by decide +kernel
theorem dX13_fits_10 : decode cX13_fits 10 = .ok (.isub, 1) := by decide +kernel
theorem dX13_fits_11 : decode cX13_fits 11 = .ok (.i2l, 1) := by decide +kernel
theorem dX13_fits_12 : decode cX13_fits 12 = .ok (.invokestatic 111, 3) := by decide +kernel
theorem dX13_fits_15 : decode cX13_fits 15 = .ok (.ifCond .eq 35, 3) := by decide +kernel
theorem dX13_fits_18 : decode cX13_fits 18 = .ok (.iload 4, 2) := by decide +kernel
theorem dX13_fits_20 : decode cX13_fits 20 = .ok (.i2l, 1) := by decide +kernel
theorem dX13_fits_21 : decode cX13_fits 21 = .ok (.lconst 1, 1) := by decide +kernel
theorem dX13_fits_22 : decode cX13_fits 22 = .ok (.aload_n 0, 1) := by decide +kernel
theorem dX13_fits_23 : decode cX13_fits 23 = .ok (.getfield 20, 3) := by decide +kernel
theorem dX13_fits_26 : decode cX13_fits 26 = .ok (.iconst 1, 1) := by decide +kernel
theorem dX13_fits_27 : decode cX13_fits 27 = .ok (.iaload, 1) := by decide +kernel
theorem dX13_fits_28 : decode cX13_fits 28 = .ok (.iload_n 2, 1) := by decide +kernel
theorem dX13_fits_29 : decode cX13_fits 29 = .ok (.isub, 1) := by decide +kernel
theorem dX13_fits_30 : decode cX13_fits 30 = .ok (.i2l, 1) := by decide +kernel
theorem dX13_fits_31 : decode cX13_fits 31 = .ok (.invokestatic 111, 3) := by decide +kernel
theorem dX13_fits_34 : decode cX13_fits 34 = .ok (.ifCond .eq 16, 3) := by decide +kernel
theorem dX13_fits_37 : decode cX13_fits 37 = .ok (.aload_n 0, 1) := by decide +kernel
theorem dX13_fits_38 : decode cX13_fits 38 = .ok (.iload 5, 2) := by decide +kernel
theorem dX13_fits_40 : decode cX13_fits 40 = .ok (.invokevirtual 371, 3) := by decide +kernel
theorem dX13_fits_43 : decode cX13_fits 43 = .ok (.ifCond .eq 7, 3) := by decide +kernel
theorem dX13_fits_46 : decode cX13_fits 46 = .ok (.iconst 1, 1) := by decide +kernel
theorem dX13_fits_47 : decode cX13_fits 47 = .ok (.goto 4, 3) := by decide +kernel
theorem dX13_fits_50 : decode cX13_fits 50 = .ok (.iconst 0, 1) := by decide +kernel
theorem dX13_fits_51 : decode cX13_fits 51 = .ok (.ireturn, 1) := by decide +kernel
theorem dX13_fills_0 : decode cX13_fills 0 = .ok (.iload_n 2, 1) := by decide +kernel
theorem dX13_fills_1 : decode cX13_fills 1 = .ok (.istore 6, 2) := by decide +kernel
theorem dX13_fills_3 : decode cX13_fills 3 = .ok (.iload 6, 2) := by decide +kernel
theorem dX13_fills_5 : decode cX13_fills 5 = .ok (.iload_n 2, 1) := by decide +kernel
theorem dX13_fills_6 : decode cX13_fills 6 = .ok (.iload 4, 2) := by decide +kernel
theorem dX13_fills_8 : decode cX13_fills 8 = .ok (.iadd, 1) := by decide +kernel
theorem dX13_fills_9 : decode cX13_fills 9 = .ok (.if_icmp .ge 41, 3) := by decide +kernel
theorem dX13_fills_12 : decode cX13_fills 12 = .ok (.iload_n 1, 1) := by decide +kernel
theorem dX13_fills_13 : decode cX13_fills 13 = .ok (.istore 7, 2) := by decide +kernel
theorem dX13_fills_15 : decode cX13_fills 15 = .ok (.iload 7, 2) := by decide +kernel
theorem dX13_fills_17 : decode cX13_fills 17 = .ok (.iload_n 1, 1) := by decide +kernel
theorem dX13_fills_18 : decode cX13_fills 18 = .ok (.iload_n 3, 1) := by decide +kernel
theorem dX13_fills_19 : decode cX13_fills 19 = .ok (.iadd, 1) := by decide +kernel
theorem dX13_fills_20 : decode cX13_fills 20 = .ok (.if_icmp .ge 24, 3) := by decide +kernel
theorem dX13_fills_23 : decode cX13_fills 23 = .ok (.aload_n 0, 1) := by decide +kernel
theorem dX13_fills_24 : decode cX13_fills 24 = .ok (.getfield 29, 3) := by decide +kernel
theorem dX13_fills_27 : decode cX13_fills 27 = .ok (.bipush 16, 2) := by decide +kernel
theorem dX13_fills_29 : decode cX13_fills 29 = .ok (.iload 6, 2) := by decide +kernel
theorem dX13_fills_31 : decode cX13_fills 31 = .ok (.imul, 1) := by decide +kernel
theorem dX13_fills_32 : decode cX13_fills 32 = .ok (.iload 7, 2) := by decide +kernel
theorem dX13_fills_34 : decode cX13_fills 34 = .ok (.iadd, 1) := by decide +kernel
theorem dX13_fills_35 : decode cX13_fills 35 = .ok (.iload 5, 2) := by decide +kernel
theorem dX13_fills_37 : decode cX13_fills 37 = .ok (.iastore, 1) := by decide +kernel
theorem dX13_fills_38 : decode cX13_fills 38 = .ok (.iinc 7 1, 3) := by decide +kernel
theorem dX13_fills_41 : decode cX13_fills 41 = .ok (.goto (-26), 3) := by decide +kernel
theorem dX13_fills_44 : decode cX13_fills 44 = .ok (.iinc 6 1, 3) := by decide +kernel
theorem dX13_fills_47 : decode cX13_fills 47 = .ok (.goto (-44), 3) := by decide +kernel
theorem dX13_fills_50 : decode cX13_fills 50 = .ok (.return_, 1) := by decide +kernel
set_option maxRecDepth 20000 in
theorem ggX13_fill_X13_isCell : GoodIn wsX13_fill wsX13_isCell := goodIn_r _ [6, 7, 8, 9, 5, 10, 40, 41, 42, 43, 44, 45, 46, 47, 48, 49, 50, 51, 52, 53, 54, 55, 56, 57, 58, 59, 60, 61, 62, 63, 64, 65, 66, 67, 68, 69, 70, 71, 72, 73, 74, 75, 76, 77, 78, 79, 80, 81, 82, 83, 84, 85, 86, 87] (by decide +kernel) (by decide +kernel)
set_option maxRecDepth 20000 in
theorem gX13_fill_X13_isCell : GoodIn wsX13_fill (wsV RX13 195 RX13 yX13_isCell wsX13_isCell) := goodIn_app (goodIn_of _ (by decide +kernel)) ggX13_fill_X13_isCell
set_option maxRecDepth 20000 in
theorem ggX13_fill_X13_fits : GoodIn wsX13_fill wsX13_fits := goodIn_r _ [14, 7, 8, 9, 5, 10, 15, 16, 17, 18, 40, 41, 42, 43, 44, 45, 46, 47, 48, 49, 50, 51, 52, 53, 54, 55, 56, 57, 58, 59, 60, 61, 62, 63, 64, 65, 66, 67, 68, 69, 70, 71, 72, 73, 74, 75, 76, 77, 78, 79, 80, 81, 82, 83, 84, 85, 86, 87] (by decide +kernel) (by decide +kernel)
set_option maxRecDepth 20000 in
theorem gX13_fill_X13_fits : GoodIn wsX13_fill (wsV RX13 374 RX13 yX13_fits wsX13_fits) := goodIn_app (goodIn_of _ (by decide +kernel)) ggX13_fill_X13_fits
set_option maxRecDepth 20000 in
theorem ggX13_fill_X13_truth : GoodIn wsX13_fill wsX13_truth := goodIn_r _ [21] (by decide +kernel) (by decide +kernel)
set_option maxRecDepth 20000 in
theorem gX13_fill_X13_truth : GoodIn wsX13_fill (va_wsS RX13 96 yX13_truth wsX13_truth) := goodIn_app (goodIn_of _ (by decide +kernel)) ggX13_fill_X13_truth
set_option maxRecDepth 20000 in
theorem ggX13_fill_X13_laysAside : GoodIn wsX13_fill wsX13_laysAside := goodIn_r _ [25, 26, 27, 28, 29, 40, 41, 42, 43, 44, 45, 46, 47, 48, 49, 50, 51, 52, 53, 54, 55, 56, 57, 58, 59, 60, 61, 62, 63, 64, 65, 66, 67, 68, 69, 70, 71, 72, 73, 74, 75, 76, 77, 78, 79, 80, 81, 82, 83, 84, 85, 86, 87] (by decide +kernel) (by decide +kernel)
set_option maxRecDepth 20000 in
theorem gX13_fill_X13_laysAside : GoodIn wsX13_fill (wsV RX13 314 RX13 yX13_laysAside wsX13_laysAside) := goodIn_app (goodIn_of _ (by decide +kernel)) ggX13_fill_X13_laysAside
set_option maxRecDepth 20000 in
theorem ggX13_fill_X13_fills : GoodIn wsX13_fill wsX13_fills := goodIn_r _ [33, 27, 40, 41, 42, 43, 44, 45, 46, 47, 48, 49, 50, 51, 52, 53, 54, 55, 56, 57, 58, 59, 60, 61, 62, 63, 64, 65, 66, 67, 68, 69, 70, 71, 72, 73, 74, 75, 76, 77, 78, 79, 80, 81, 82, 83, 84, 85, 86, 87] (by decide +kernel) (by decide +kernel)
set_option maxRecDepth 20000 in
theorem gX13_fill_X13_fills : GoodIn wsX13_fill (wsV RX13 378 RX13 yX13_fills wsX13_fills) := goodIn_app (goodIn_of _ (by decide +kernel)) ggX13_fill_X13_fills
set_option maxRecDepth 20000 in
theorem ggX13_fill_X13_keeps : GoodIn wsX13_fill wsX13_keeps := goodIn_r _ [37, 27, 26, 29, 28, 38, 39, 19, 20, 5, 21, 40, 41, 42, 43, 44, 45, 46, 47, 48, 49, 50, 51, 52, 53, 54, 55, 56, 57, 58, 59, 60, 61, 62, 63, 64, 65, 66, 67, 68, 69, 70, 71, 72, 73, 74, 75, 76, 77, 78, 79, 80, 81, 82, 83, 84, 85, 86, 87] (by decide +kernel) (by decide +kernel)
set_option maxRecDepth 20000 in
theorem gX13_fill_X13_keeps : GoodIn wsX13_fill (wsV RX13 368 RX13 yX13_keeps wsX13_keeps) := goodIn_app (goodIn_of _ (by decide +kernel)) ggX13_fill_X13_keeps
theorem dX13_fill_0 : decode cX13_fill 0 = .ok (.aload_n 0, 1) := by decide +kernel
theorem dX13_fill_1 : decode cX13_fill 1 = .ok (.aload_n 0, 1) := by decide +kernel
theorem dX13_fill_2 : decode cX13_fill 2 = .ok (.iload_n 1, 1) := by decide +kernel
theorem dX13_fill_3 : decode cX13_fill 3 = .ok (.iload_n 2, 1) := by decide +kernel
theorem dX13_fill_4 : decode cX13_fill 4 = .ok (.invokevirtual 195, 3) := by decide +kernel
theorem dX13_fill_7 : decode cX13_fill 7 = .ok (.ifCond .ne 7, 3) := by decide +kernel
theorem dX13_fill_10 : decode cX13_fill 10 = .ok (.iconst 1, 1) := by decide +kernel
theorem dX13_fill_11 : decode cX13_fill 11 = .ok (.goto 27, 3) := by decide +kernel
theorem dX13_fill_14 : decode cX13_fill 14 = .ok (.aload_n 0, 1) := by decide +kernel
theorem dX13_fill_15 : decode cX13_fill 15 = .ok (.iload_n 1, 1) := by decide +kernel
theorem dX13_fill_16 : decode cX13_fill 16 = .ok (.iload_n 2, 1) := by decide +kernel
theorem dX13_fill_17 : decode cX13_fill 17 = .ok (.iload_n 3, 1) := by decide +kernel
theorem dX13_fill_18 : decode cX13_fill 18 = .ok (.iload 4, 2) := by decide +kernel
theorem dX13_fill_20 : decode cX13_fill 20 = .ok (.iload 5, 2) := by decide +kernel
theorem dX13_fill_22 : decode cX13_fill 22 = .ok (.invokevirtual 374, 3) := by decide +kernel
theorem dX13_fill_25 : decode cX13_fill 25 = .ok (.ifCond .ne 7, 3) := by decide +kernel
theorem dX13_fill_28 : decode cX13_fill 28 = .ok (.iconst 1, 1) := by decide +kernel
theorem dX13_fill_29 : decode cX13_fill 29 = .ok (.goto 4, 3) := by decide +kernel
theorem dX13_fill_32 : decode cX13_fill 32 = .ok (.iconst 0, 1) := by decide +kernel
theorem dX13_fill_33 : decode cX13_fill 33 = .ok (.invokestatic 96, 3) := by decide +kernel
theorem dX13_fill_36 : decode cX13_fill 36 = .ok (.iconst 2, 1) := by decide +kernel
theorem dX13_fill_37 : decode cX13_fill 37 = .ok (.imul, 1) := by decide +kernel
theorem dX13_fill_38 : decode cX13_fill 38 = .ok (.putfield 93, 3) := by decide +kernel
theorem dX13_fill_41 : decode cX13_fill 41 = .ok (.aload_n 0, 1) := by decide +kernel
theorem dX13_fill_42 : decode cX13_fill 42 = .ok (.getfield 93, 3) := by decide +kernel
theorem dX13_fill_45 : decode cX13_fill 45 = .ok (.ifCond .le 5, 3) := by decide +kernel
theorem dX13_fill_48 : decode cX13_fill 48 = .ok (.iconst 0, 1) := by decide +kernel
theorem dX13_fill_49 : decode cX13_fill 49 = .ok (.ireturn, 1) := by decide +kernel
theorem dX13_fill_50 : decode cX13_fill 50 = .ok (.aload_n 0, 1) := by decide +kernel
theorem dX13_fill_51 : decode cX13_fill 51 = .ok (.invokevirtual 314, 3) := by decide +kernel
theorem dX13_fill_54 : decode cX13_fill 54 = .ok (.aload_n 0, 1) := by decide +kernel
theorem dX13_fill_55 : decode cX13_fill 55 = .ok (.iload_n 1, 1) := by decide +kernel
theorem dX13_fill_56 : decode cX13_fill 56 = .ok (.iload_n 2, 1) := by decide +kernel
theorem dX13_fill_57 : decode cX13_fill 57 = .ok (.iload_n 3, 1) := by decide +kernel
theorem dX13_fill_58 : decode cX13_fill 58 = .ok (.iload 4, 2) := by decide +kernel
theorem dX13_fill_60 : decode cX13_fill 60 = .ok (.iload 5, 2) := by decide +kernel
theorem dX13_fill_62 : decode cX13_fill 62 = .ok (.invokevirtual 378, 3) := by decide +kernel
theorem dX13_fill_65 : decode cX13_fill 65 = .ok (.aload_n 0, 1) := by decide +kernel
theorem dX13_fill_66 : decode cX13_fill 66 = .ok (.invokevirtual 368, 3) := by decide +kernel
theorem dX13_fill_69 : decode cX13_fill 69 = .ok (.ireturn, 1) := by decide +kernel
set_option maxRecDepth 20000 in
theorem ggX13_repair_X13_laysAside : GoodIn wsX13_repair wsX13_laysAside := goodIn_r _ [6, 7, 8, 9, 10, 57, 58, 59, 60, 61, 62, 63, 64, 65, 66, 67, 68, 69, 70, 71, 72, 73, 74, 75, 76, 77, 78, 79, 80, 81, 82, 83, 84, 85, 86, 87, 88, 89, 90, 91, 92, 93, 94, 95, 96, 97, 98, 99, 100, 101, 102, 103, 104] (by decide +kernel) (by decide +kernel)
set_option maxRecDepth 20000 in
theorem gX13_repair_X13_laysAside : GoodIn wsX13_repair (wsV RX13 314 RX13 yX13_laysAside wsX13_laysAside) := goodIn_app (goodIn_of _ (by decide +kernel)) ggX13_repair_X13_laysAside
set_option maxRecDepth 20000 in
theorem ggX13_repair_X13_repairs : GoodIn wsX13_repair wsX13_repairs := goodIn_r _ [14, 8, 15, 16, 17, 18, 5, 19, 20, 21, 22, 23, 24, 25, 26, 27, 28, 29, 30, 31, 32, 33, 34, 35, 36, 37, 38, 39, 40, 41, 42, 43, 44, 45, 46, 47, 48, 49, 50, 57, 58, 59, 60, 61, 62, 63, 64, 65, 66, 67, 68, 69, 70, 71, 72, 73, 74, 75, 76, 77, 78, 79, 80, 81, 82, 83, 84, 85, 86, 87, 88, 89, 90, 91, 92, 93, 94, 95, 96, 97, 98, 99, 100, 101, 102, 103, 104] (by decide +kernel) (by decide +kernel)
set_option maxRecDepth 20000 in
theorem gX13_repair_X13_repairs : GoodIn wsX13_repair (wsV RX13 317 RX13 yX13_repairs wsX13_repairs) := goodIn_app (goodIn_of _ (by decide +kernel)) ggX13_repair_X13_repairs
set_option maxRecDepth 20000 in
theorem ggX13_repair_X13_keeps : GoodIn wsX13_repair wsX13_keeps := goodIn_r _ [54, 8, 7, 10, 9, 55, 56, 48, 49, 5, 50, 57, 58, 59, 60, 61, 62, 63, 64, 65, 66, 67, 68, 69, 70, 71, 72, 73, 74, 75, 76, 77, 78, 79, 80, 81, 82, 83, 84, 85, 86, 87, 88, 89, 90, 91, 92, 93, 94, 95, 96, 97, 98, 99, 100, 101, 102, 103, 104] (by decide +kernel) (by decide +kernel)
set_option maxRecDepth 20000 in
theorem gX13_repair_X13_keeps : GoodIn wsX13_repair (wsV RX13 368 RX13 yX13_keeps wsX13_keeps) := goodIn_app (goodIn_of _ (by decide +kernel)) ggX13_repair_X13_keeps
theorem dX13_repair_0 : decode cX13_repair 0 = .ok (.aload_n 0, 1) := by decide +kernel
theorem dX13_repair_1 : decode cX13_repair 1 = .ok (.iconst 0, 1) := by decide +kernel
theorem dX13_repair_2 : decode cX13_repair 2 = .ok (.putfield 93, 3) := by decide +kernel
theorem dX13_repair_5 : decode cX13_repair 5 = .ok (.aload_n 0, 1) := by decide +kernel
theorem dX13_repair_6 : decode cX13_repair 6 = .ok (.invokevirtual 314, 3) := by decide +kernel
theorem dX13_repair_9 : decode cX13_repair 9 = .ok (.aload_n 0, 1) := by decide +kernel
theorem dX13_repair_10 : decode cX13_repair 10 = .ok (.invokevirtual 317, 3) := by decide +kernel
theorem dX13_repair_13 : decode cX13_repair 13 = .ok (.istore_n 1, 1) := by decide +kernel
theorem dX13_repair_14 : decode cX13_repair 14 = .ok (.aload_n 0, 1) := by decide +kernel
theorem dX13_repair_15 : decode cX13_repair 15 = .ok (.invokevirtual 368, 3) := by decide +kernel
theorem dX13_repair_18 : decode cX13_repair 18 = .ok (.istore_n 2, 1) := by decide +kernel
theorem dX13_repair_19 : decode cX13_repair 19 = .ok (.iload_n 1, 1) := by decide +kernel
theorem dX13_repair_20 : decode cX13_repair 20 = .ok (.ireturn, 1) := by decide +kernel
set_option maxRecDepth 20000 in
theorem ggX13_flatAt_X13_cellMany : GoodIn wsX13_flatAt wsX13_cellMany := goodIn_r _ [7, 2, 18, 19, 20, 21, 22, 23, 24, 25, 26, 27, 28, 29, 30, 31, 32, 33, 34, 35, 36, 37, 38, 39, 40, 41, 42, 43, 44, 45, 46, 47, 48, 49, 50, 51, 52, 53, 54, 55, 56, 57, 58, 59, 60, 61, 62, 63, 64, 65] (by decide +kernel) (by decide +kernel)
set_option maxRecDepth 20000 in
theorem gX13_flatAt_X13_cellMany : GoodIn wsX13_flatAt (wsV RX13 251 RX13 yX13_cellMany wsX13_cellMany) := goodIn_app (goodIn_of _ (by decide +kernel)) ggX13_flatAt_X13_cellMany
set_option maxRecDepth 20000 in
theorem ggX13_flatAt_X13_cellAt : GoodIn wsX13_flatAt wsX13_cellAt := goodIn_r _ [11, 2, 18, 19, 20, 21, 22, 23, 24, 25, 26, 27, 28, 29, 30, 31, 32, 33, 34, 35, 36, 37, 38, 39, 40, 41, 42, 43, 44, 45, 46, 47, 48, 49, 50, 51, 52, 53, 54, 55, 56, 57, 58, 59, 60, 61, 62, 63, 64, 65] (by decide +kernel) (by decide +kernel)
set_option maxRecDepth 20000 in
theorem gX13_flatAt_X13_cellAt : GoodIn wsX13_flatAt (wsV RX13 255 RX13 yX13_cellAt wsX13_cellAt) := goodIn_app (goodIn_of _ (by decide +kernel)) ggX13_flatAt_X13_cellAt
set_option maxRecDepth 20000 in
theorem ggX13_flatAt_X13_far : GoodIn wsX13_flatAt wsX13_far := goodIn_r _ [14] (by decide +kernel) (by decide +kernel)
set_option maxRecDepth 20000 in
theorem gX13_flatAt_X13_far : GoodIn wsX13_flatAt (va_wsS RX13 261 yX13_far wsX13_far) := goodIn_app (goodIn_of _ (by decide +kernel)) ggX13_flatAt_X13_far
set_option maxRecDepth 20000 in
theorem ggX13_flatAt_X13_more : GoodIn wsX13_flatAt wsX13_more := goodIn_r _ [17] (by decide +kernel) (by decide +kernel)
set_option maxRecDepth 20000 in
theorem gX13_flatAt_X13_more : GoodIn wsX13_flatAt (va_wsS RX13 264 yX13_more wsX13_more) := goodIn_app (goodIn_of _ (by decide +kernel)) ggX13_flatAt_X13_more
theorem dX13_flatAt_0 : decode cX13_flatAt 0 = .ok (.aload_n 0, 1) := by decide +kernel
theorem dX13_flatAt_1 : decode cX13_flatAt 1 = .ok (.getfield 29, 3) := by decide +kernel
theorem dX13_flatAt_4 : decode cX13_flatAt 4 = .ok (.bipush 16, 2) := by decide +kernel
theorem dX13_flatAt_6 : decode cX13_flatAt 6 = .ok (.iload_n 2, 1) := by decide +kernel
theorem dX13_flatAt_7 : decode cX13_flatAt 7 = .ok (.imul, 1) := by decide +kernel
theorem dX13_flatAt_8 : decode cX13_flatAt 8 = .ok (.iload_n 1, 1) := by decide +kernel
theorem dX13_flatAt_9 : decode cX13_flatAt 9 = .ok (.iadd, 1) := by decide +kernel
theorem dX13_flatAt_10 : decode cX13_flatAt 10 = .ok (.iaload, 1) := by decide +kernel
theorem dX13_flatAt_11 : decode cX13_flatAt 11 = .ok (.istore 4, 2) := by decide +kernel
theorem dX13_flatAt_13 : decode cX13_flatAt 13 = .ok (.iconst 0, 1) := by decide +kernel
theorem dX13_flatAt_14 : decode cX13_flatAt 14 = .ok (.istore 5, 2) := by decide +kernel
theorem dX13_flatAt_16 : decode cX13_flatAt 16 = .ok (.iload 5, 2) := by decide +kernel
theorem dX13_flatAt_18 : decode cX13_flatAt 18 = .ok (.aload_n 0, 1) := by decide +kernel
theorem dX13_flatAt_19 : decode cX13_flatAt 19 = .ok (.invokevirtual 251, 3) := by decide +kernel
theorem dX13_flatAt_22 : decode cX13_flatAt 22 = .ok (.if_icmp .ge 59, 3) := by decide +kernel
theorem dX13_flatAt_25 : decode cX13_flatAt 25 = .ok (.iload 4, 2) := by decide +kernel
theorem dX13_flatAt_27 : decode cX13_flatAt 27 = .ok (.aload_n 0, 1) := by decide +kernel
theorem dX13_flatAt_28 : decode cX13_flatAt 28 = .ok (.getfield 29, 3) := by decide +kernel
theorem dX13_flatAt_31 : decode cX13_flatAt 31 = .ok (.aload_n 0, 1) := by decide +kernel
theorem dX13_flatAt_32 : decode cX13_flatAt 32 = .ok (.iload 5, 2) := by decide +kernel
theorem dX13_flatAt_34 : decode cX13_flatAt 34 = .ok (.invokevirtual 255, 3) := by decide +kernel
theorem dX13_flatAt_37 : decode cX13_flatAt 37 = .ok (.iaload, 1) := by decide +kernel
theorem dX13_flatAt_38 : decode cX13_flatAt 38 = .ok (.iload_n 3, 1) := by decide +kernel
theorem dX13_flatAt_39 : decode cX13_flatAt 39 = .ok (.iload 5, 2) := by decide +kernel
theorem dX13_flatAt_41 : decode cX13_flatAt 41 = .ok (.aload_n 0, 1) := by decide +kernel
theorem dX13_flatAt_42 : decode cX13_flatAt 42 = .ok (.getfield 20, 3) := by decide +kernel
theorem dX13_flatAt_45 : decode cX13_flatAt 45 = .ok (.iconst 0, 1) := by decide +kernel
theorem dX13_flatAt_46 : decode cX13_flatAt 46 = .ok (.iaload, 1) := by decide +kernel
theorem dX13_flatAt_47 : decode cX13_flatAt 47 = .ok (.irem, 1) := by decide +kernel
theorem dX13_flatAt_48 : decode cX13_flatAt 48 = .ok (.iload_n 1, 1) := by decide +kernel
theorem dX13_flatAt_49 : decode cX13_flatAt 49 = .ok (.isub, 1) := by decide +kernel
theorem dX13_flatAt_50 : decode cX13_flatAt 50 = .ok (.invokestatic 261, 3) := by decide +kernel
theorem dX13_flatAt_53 : decode cX13_flatAt 53 = .ok (.iload 5, 2) := by decide +kernel
theorem dX13_flatAt_55 : decode cX13_flatAt 55 = .ok (.aload_n 0, 1) := by decide +kernel
theorem dX13_flatAt_56 : decode cX13_flatAt 56 = .ok (.getfield 20, 3) := by decide +kernel
theorem dX13_flatAt_59 : decode cX13_flatAt 59 = .ok (.iconst 0, 1) := by decide +kernel
theorem dX13_flatAt_60 : decode cX13_flatAt 60 = .ok (.iaload, 1) := by decide +kernel
theorem dX13_flatAt_61 : decode cX13_flatAt 61 = .ok (.idiv, 1) := by decide +kernel
theorem dX13_flatAt_62 : decode cX13_flatAt 62 = .ok (.iload_n 2, 1) := by decide +kernel
theorem dX13_flatAt_63 : decode cX13_flatAt 63 = .ok (.isub, 1) := by decide +kernel
theorem dX13_flatAt_64 : decode cX13_flatAt 64 = .ok (.invokestatic 261, 3) := by decide +kernel
theorem dX13_flatAt_67 : decode cX13_flatAt 67 = .ok (.iadd, 1) := by decide +kernel
theorem dX13_flatAt_68 : decode cX13_flatAt 68 = .ok (.imul, 1) := by decide +kernel
theorem dX13_flatAt_69 : decode cX13_flatAt 69 = .ok (.isub, 1) := by decide +kernel
theorem dX13_flatAt_70 : decode cX13_flatAt 70 = .ok (.invokestatic 264, 3) := by decide +kernel
theorem dX13_flatAt_73 : decode cX13_flatAt 73 = .ok (.istore 4, 2) := by decide +kernel
theorem dX13_flatAt_75 : decode cX13_flatAt 75 = .ok (.iinc 5 1, 3) := by decide +kernel
theorem dX13_flatAt_78 : decode cX13_flatAt 78 = .ok (.goto (-62), 3) := by decide +kernel
theorem dX13_flatAt_81 : decode cX13_flatAt 81 = .ok (.iload 4, 2) := by decide +kernel
theorem dX13_flatAt_83 : decode cX13_flatAt 83 = .ok (.ireturn, 1) := by decide +kernel
set_option maxRecDepth 20000 in
theorem ggX13_smooths_X13_cellMany : GoodIn wsX13_smooths wsX13_cellMany := goodIn_r _ [8, 2, 23, 24, 25, 26, 27, 28, 29, 30, 31, 32, 33, 34, 35, 36, 37, 38, 39, 40, 41, 42, 43, 44, 45, 46, 47, 48, 49, 50, 51, 52, 53, 54, 55, 56, 57, 58, 59, 60, 61, 62, 63, 64, 65, 66, 67, 68, 69, 70] (by decide +kernel) (by decide +kernel)
set_option maxRecDepth 20000 in
theorem gX13_smooths_X13_cellMany : GoodIn wsX13_smooths (wsV RX13 251 RX13 yX13_cellMany wsX13_cellMany) := goodIn_app (goodIn_of _ (by decide +kernel)) ggX13_smooths_X13_cellMany
set_option maxRecDepth 20000 in
theorem ggX13_smooths_X13_cellAt : GoodIn wsX13_smooths wsX13_cellAt := goodIn_r _ [12, 2, 23, 24, 25, 26, 27, 28, 29, 30, 31, 32, 33, 34, 35, 36, 37, 38, 39, 40, 41, 42, 43, 44, 45, 46, 47, 48, 49, 50, 51, 52, 53, 54, 55, 56, 57, 58, 59, 60, 61, 62, 63, 64, 65, 66, 67, 68, 69, 70] (by decide +kernel) (by decide +kernel)
set_option maxRecDepth 20000 in
theorem gX13_smooths_X13_cellAt : GoodIn wsX13_smooths (wsV RX13 255 RX13 yX13_cellAt wsX13_cellAt) := goodIn_app (goodIn_of _ (by decide +kernel)) ggX13_smooths_X13_cellAt
set_option maxRecDepth 20000 in
theorem ggX13_smooths_X13_flatAt : GoodIn wsX13_smooths wsX13_flatAt := goodIn_r _ [16, 3, 2, 4, 5, 6, 7, 8, 9, 10, 11, 12, 17, 18, 19, 20, 21, 22, 23, 24, 25, 26, 27, 28, 29, 30, 31, 32, 33, 34, 35, 36, 37, 38, 39, 40, 41, 42, 43, 44, 45, 46, 47, 48, 49, 50, 51, 52, 53, 54, 55, 56, 57, 58, 59, 60, 61, 62, 63, 64, 65, 66, 67, 68, 69, 70] (by decide +kernel) (by decide +kernel)
set_option maxRecDepth 20000 in
theorem gX13_smooths_X13_flatAt : GoodIn wsX13_smooths (wsV RX13 382 RX13 yX13_flatAt wsX13_flatAt) := goodIn_app (goodIn_of _ (by decide +kernel)) ggX13_smooths_X13_flatAt
theorem dX13_smooths_0 : decode cX13_smooths 0 = .ok (.iconst 0, 1) := by decide +kernel
theorem dX13_smooths_1 : decode cX13_smooths 1 = .ok (.istore_n 2, 1) := by decide +kernel
theorem dX13_smooths_2 : decode cX13_smooths 2 = .ok (.iload_n 2, 1) := by decide +kernel
theorem dX13_smooths_3 : decode cX13_smooths 3 = .ok (.aload_n 0, 1) := by decide +kernel
theorem dX13_smooths_4 : decode cX13_smooths 4 = .ok (.invokevirtual 251, 3) := by decide +kernel
theorem dX13_smooths_7 : decode cX13_smooths 7 = .ok (.if_icmp .ge 40, 3) := by decide +kernel
theorem dX13_smooths_10 : decode cX13_smooths 10 = .ok (.aload_n 0, 1) := by decide +kernel
theorem dX13_smooths_11 : decode cX13_smooths 11 = .ok (.getfield 51, 3) := by decide +kernel
theorem dX13_smooths_14 : decode cX13_smooths 14 = .ok (.aload_n 0, 1) := by decide +kernel
theorem dX13_smooths_15 : decode cX13_smooths 15 = .ok (.iload_n 2, 1) := by decide +kernel
theorem dX13_smooths_16 : decode cX13_smooths 16 = .ok (.invokevirtual 255, 3) := by decide +kernel
theorem dX13_smooths_19 : decode cX13_smooths 19 = .ok (.aload_n 0, 1) := by decide +kernel
theorem dX13_smooths_20 : decode cX13_smooths 20 = .ok (.iload_n 2, 1) := by decide +kernel
theorem dX13_smooths_21 : decode cX13_smooths 21 = .ok (.aload_n 0, 1) := by decide +kernel
theorem dX13_smooths_22 : decode cX13_smooths 22 = .ok (.getfield 20, 3) := by decide +kernel
theorem dX13_smooths_25 : decode cX13_smooths 25 = .ok (.iconst 0, 1) := by decide +kernel
theorem dX13_smooths_26 : decode cX13_smooths 26 = .ok (.iaload, 1) := by decide +kernel
theorem dX13_smooths_27 : decode cX13_smooths 27 = .ok (.irem, 1) := by decide +kernel
theorem dX13_smooths_28 : decode cX13_smooths 28 = .ok (.iload_n 2, 1) := by decide +kernel
theorem dX13_smooths_29 : decode cX13_smooths 29 = .ok (.aload_n 0, 1) := by decide +kernel
theorem dX13_smooths_30 : decode cX13_smooths 30 = .ok (.getfield 20, 3) := by decide +kernel
theorem dX13_smooths_33 : decode cX13_smooths 33 = .ok (.iconst 0, 1) := by decide +kernel
theorem dX13_smooths_34 : decode cX13_smooths 34 = .ok (.iaload, 1) := by decide +kernel
theorem dX13_smooths_35 : decode cX13_smooths 35 = .ok (.idiv, 1) := by decide +kernel
theorem dX13_smooths_36 : decode cX13_smooths 36 = .ok (.iload_n 1, 1) := by decide +kernel
theorem dX13_smooths_37 : decode cX13_smooths 37 = .ok (.invokevirtual 382, 3) := by decide +kernel
theorem dX13_smooths_40 : decode cX13_smooths 40 = .ok (.iastore, 1) := by decide +kernel
theorem dX13_smooths_41 : decode cX13_smooths 41 = .ok (.iinc 2 1, 3) := by decide +kernel
theorem dX13_smooths_44 : decode cX13_smooths 44 = .ok (.goto (-42), 3) := by decide +kernel
theorem dX13_smooths_47 : decode cX13_smooths 47 = .ok (.iconst 0, 1) := by decide +kernel
theorem dX13_smooths_48 : decode cX13_smooths 48 = .ok (.istore_n 2, 1) := by decide +kernel
theorem dX13_smooths_49 : decode cX13_smooths 49 = .ok (.iload_n 2, 1) := by decide +kernel
theorem dX13_smooths_50 : decode cX13_smooths 50 = .ok (.aload_n 0, 1) := by decide +kernel
theorem dX13_smooths_51 : decode cX13_smooths 51 = .ok (.invokevirtual 251, 3) := by decide +kernel
theorem dX13_smooths_54 : decode cX13_smooths 54 = .ok (.if_icmp .ge 29, 3) := by decide +kernel
theorem dX13_smooths_57 : decode cX13_smooths 57 = .ok (.aload_n 0, 1) := by decide +kernel
theorem dX13_smooths_58 : decode cX13_smooths 58 = .ok (.getfield 29, 3) := by decide +kernel
theorem dX13_smooths_61 : decode cX13_smooths 61 = .ok (.aload_n 0, 1) := by decide +kernel
theorem dX13_smooths_62 : decode cX13_smooths 62 = .ok (.iload_n 2, 1) := by decide +kernel
theorem dX13_smooths_63 : decode cX13_smooths 63 = .ok (.invokevirtual 255, 3) := by decide +kernel
theorem dX13_smooths_66 : decode cX13_smooths 66 = .ok (.aload_n 0, 1) := by decide +kernel
theorem dX13_smooths_67 : decode cX13_smooths 67 = .ok (.getfield 51, 3) := by decide +kernel
theorem dX13_smooths_70 : decode cX13_smooths 70 = .ok (.aload_n 0, 1) := by decide +kernel
theorem dX13_smooths_71 : decode cX13_smooths 71 = .ok (.iload_n 2, 1) := by decide +kernel
theorem dX13_smooths_72 : decode cX13_smooths 72 = .ok (.invokevirtual 255, 3) := by decide +kernel
theorem dX13_smooths_75 : decode cX13_smooths 75 = .ok (.iaload, 1) := by decide +kernel
theorem dX13_smooths_76 : decode cX13_smooths 76 = .ok (.iastore, 1) := by decide +kernel
theorem dX13_smooths_77 : decode cX13_smooths 77 = .ok (.iinc 2 1, 3) := by decide +kernel
theorem dX13_smooths_80 : decode cX13_smooths 80 = .ok (.goto (-31), 3) := by decide +kernel
theorem dX13_smooths_83 : decode cX13_smooths 83 = .ok (.return_, 1) := by decide +kernel
set_option maxRecDepth 20000 in
theorem ggX13_smooth_X13_isIn : GoodIn wsX13_smooth wsX13_isIn := goodIn_r _ [5] (by decide +kernel) (by decide +kernel)
set_option maxRecDepth 20000 in
theorem gX13_smooth_X13_isIn : GoodIn wsX13_smooth (va_wsS RX13 111 yX13_isIn wsX13_isIn) := goodIn_app (goodIn_of _ (by decide +kernel)) ggX13_smooth_X13_isIn
set_option maxRecDepth 20000 in
theorem ggX13_smooth_X13_goes : GoodIn wsX13_smooth wsX13_goes := goodIn_r _ [9, 10, 11, 12, 4, 13, 52, 53, 54, 55, 56, 57, 58, 59, 60, 61, 62, 63, 64, 65, 66, 67, 68, 69, 70, 71, 72, 73, 74, 75, 76, 77, 78, 79, 80, 81, 82, 83, 84, 85, 86, 87, 88, 89, 90, 91, 92, 93, 94, 95, 96, 97, 98, 99] (by decide +kernel) (by decide +kernel)
set_option maxRecDepth 20000 in
theorem gX13_smooth_X13_goes : GoodIn wsX13_smooth (wsV RX13 103 RX13 yX13_goes wsX13_goes) := goodIn_app (goodIn_of _ (by decide +kernel)) ggX13_smooth_X13_goes
set_option maxRecDepth 20000 in
theorem ggX13_smooth_X13_laysAside : GoodIn wsX13_smooth wsX13_laysAside := goodIn_r _ [17, 18, 19, 20, 21, 52, 53, 54, 55, 56, 57, 58, 59, 60, 61, 62, 63, 64, 65, 66, 67, 68, 69, 70, 71, 72, 73, 74, 75, 76, 77, 78, 79, 80, 81, 82, 83, 84, 85, 86, 87, 88, 89, 90, 91, 92, 93, 94, 95, 96, 97, 98, 99] (by decide +kernel) (by decide +kernel)
set_option maxRecDepth 20000 in
theorem gX13_smooth_X13_laysAside : GoodIn wsX13_smooth (wsV RX13 314 RX13 yX13_laysAside wsX13_laysAside) := goodIn_app (goodIn_of _ (by decide +kernel)) ggX13_smooth_X13_laysAside
set_option maxRecDepth 20000 in
theorem ggX13_smooth_X13_smooths : GoodIn wsX13_smooth wsX13_smooths := goodIn_r _ [25, 26, 27, 19, 28, 29, 30, 4, 31, 32, 33, 34, 35, 36, 37, 38, 39, 40, 41, 42, 43, 44, 45, 52, 53, 54, 55, 56, 57, 58, 59, 60, 61, 62, 63, 64, 65, 66, 67, 68, 69, 70, 71, 72, 73, 74, 75, 76, 77, 78, 79, 80, 81, 82, 83, 84, 85, 86, 87, 88, 89, 90, 91, 92, 93, 94, 95, 96, 97, 98, 99] (by decide +kernel) (by decide +kernel)
set_option maxRecDepth 20000 in
theorem gX13_smooth_X13_smooths : GoodIn wsX13_smooth (wsV RX13 387 RX13 yX13_smooths wsX13_smooths) := goodIn_app (goodIn_of _ (by decide +kernel)) ggX13_smooth_X13_smooths
set_option maxRecDepth 20000 in
theorem ggX13_smooth_X13_keeps : GoodIn wsX13_smooth wsX13_keeps := goodIn_r _ [49, 19, 18, 21, 20, 50, 51, 11, 12, 4, 13, 52, 53, 54, 55, 56, 57, 58, 59, 60, 61, 62, 63, 64, 65, 66, 67, 68, 69, 70, 71, 72, 73, 74, 75, 76, 77, 78, 79, 80, 81, 82, 83, 84, 85, 86, 87, 88, 89, 90, 91, 92, 93, 94, 95, 96, 97, 98, 99] (by decide +kernel) (by decide +kernel)
set_option maxRecDepth 20000 in
theorem gX13_smooth_X13_keeps : GoodIn wsX13_smooth (wsV RX13 368 RX13 yX13_keeps wsX13_keeps) := goodIn_app (goodIn_of _ (by decide +kernel)) ggX13_smooth_X13_keeps
theorem dX13_smooth_0 : decode cX13_smooth 0 = .ok (.aload_n 0, 1) := by decide +kernel
theorem dX13_smooth_1 : decode cX13_smooth 1 = .ok (.iload_n 1, 1) := by decide +kernel
theorem dX13_smooth_2 : decode cX13_smooth 2 = .ok (.i2l, 1) := by decide +kernel
theorem dX13_smooth_3 : decode cX13_smooth 3 = .ok (.lconst 1, 1) := by decide +kernel
theorem dX13_smooth_4 : decode cX13_smooth 4 = .ok (.ldc2_w 385, 3) := by decide +kernel
theorem dX13_smooth_7 : decode cX13_smooth 7 = .ok (.invokestatic 111, 3) := by decide +kernel
theorem dX13_smooth_10 : decode cX13_smooth 10 = .ok (.invokevirtual 103, 3) := by decide +kernel
theorem dX13_smooth_13 : decode cX13_smooth 13 = .ok (.ifCond .ne 5, 3) := by decide +kernel
theorem dX13_smooth_16 : decode cX13_smooth 16 = .ok (.iconst 0, 1) := by decide +kernel
theorem dX13_smooth_17 : decode cX13_smooth 17 = .ok (.ireturn, 1) := by decide +kernel
theorem dX13_smooth_18 : decode cX13_smooth 18 = .ok (.aload_n 0, 1) := by decide +kernel
theorem dX13_smooth_19 : decode cX13_smooth 19 = .ok (.invokevirtual 314, 3) := by decide +kernel
theorem dX13_smooth_22 : decode cX13_smooth 22 = .ok (.aload_n 0, 1) := by decide +kernel
theorem dX13_smooth_23 : decode cX13_smooth 23 = .ok (.iload_n 1, 1) := by decide +kernel
theorem dX13_smooth_24 : decode cX13_smooth 24 = .ok (.invokevirtual 387, 3) := by decide +kernel
theorem dX13_smooth_27 : decode cX13_smooth 27 = .ok (.aload_n 0, 1) := by decide +kernel
theorem dX13_smooth_28 : decode cX13_smooth 28 = .ok (.invokevirtual 368, 3) := by decide +kernel
theorem dX13_smooth_31 : decode cX13_smooth 31 = .ok (.ireturn, 1) := by decide +kernel
set_option maxRecDepth 20000 in
theorem ggX13_eases_X13_standsOut : GoodIn wsX13_eases wsX13_standsOut := goodIn_r _ [7, 2, 1, 8, 9, 6, 10, 11, 12, 13, 14, 15, 16, 17, 18, 19, 20, 21, 22, 23, 24, 25, 26, 27, 28, 29, 30, 31, 32, 33, 34, 35, 36, 37, 38, 39, 40, 41, 42, 43, 44, 45, 46, 47, 48, 49, 50, 51, 52, 53, 54, 55, 56, 57, 58] (by decide +kernel) (by decide +kernel)
set_option maxRecDepth 20000 in
theorem gX13_eases_X13_standsOut : GoodIn wsX13_eases (wsV RX13 320 RX13 yX13_standsOut wsX13_standsOut) := goodIn_app (goodIn_of _ (by decide +kernel)) ggX13_eases_X13_standsOut
theorem dX13_eases_0 : decode cX13_eases 0 = .ok (.iconst 1, 1) := by decide +kernel
theorem dX13_eases_1 : decode cX13_eases 1 = .ok (.istore_n 1, 1) := by decide +kernel
theorem dX13_eases_2 : decode cX13_eases 2 = .ok (.iload_n 1, 1) := by decide +kernel
theorem dX13_eases_3 : decode cX13_eases 3 = .ok (.aload_n 0, 1) := by decide +kernel
theorem dX13_eases_4 : decode cX13_eases 4 = .ok (.getfield 20, 3) := by decide +kernel
theorem dX13_eases_7 : decode cX13_eases 7 = .ok (.iconst 1, 1) := by decide +kernel
theorem dX13_eases_8 : decode cX13_eases 8 = .ok (.iaload, 1) := by decide +kernel
theorem dX13_eases_9 : decode cX13_eases 9 = .ok (.if_icmp .ge 69, 3) := by decide +kernel
theorem dX13_eases_12 : decode cX13_eases 12 = .ok (.iconst 0, 1) := by decide +kernel
theorem dX13_eases_13 : decode cX13_eases 13 = .ok (.istore_n 2, 1) := by decide +kernel
theorem dX13_eases_14 : decode cX13_eases 14 = .ok (.iload_n 2, 1) := by decide +kernel
theorem dX13_eases_15 : decode cX13_eases 15 = .ok (.aload_n 0, 1) := by decide +kernel
theorem dX13_eases_16 : decode cX13_eases 16 = .ok (.getfield 20, 3) := by decide +kernel
theorem dX13_eases_19 : decode cX13_eases 19 = .ok (.iconst 0, 1) := by decide +kernel
theorem dX13_eases_20 : decode cX13_eases 20 = .ok (.iaload, 1) := by decide +kernel
theorem dX13_eases_21 : decode cX13_eases 21 = .ok (.if_icmp .ge 51, 3) := by decide +kernel
theorem dX13_eases_24 : decode cX13_eases 24 = .ok (.aload_n 0, 1) := by decide +kernel
theorem dX13_eases_25 : decode cX13_eases 25 = .ok (.iload_n 2, 1) := by decide +kernel
theorem dX13_eases_26 : decode cX13_eases 26 = .ok (.iload_n 1, 1) := by decide +kernel
theorem dX13_eases_27 : decode cX13_eases 27 = .ok (.invokevirtual 320, 3) := by decide +kernel
theorem dX13_eases_30 : decode cX13_eases 30 = .ok (.ifCond .le 36, 3) := by decide +kernel
theorem dX13_eases_33 : decode cX13_eases 33 = .ok (.aload_n 0, 1) := by decide +kernel
theorem dX13_eases_34 : decode cX13_eases 34 = .ok (.getfield 29, 3) := by decide +kernel
theorem dX13_eases_37 : decode cX13_eases 37 = .ok (.bipush 16, 2) := by decide +kernel
theorem dX13_eases_39 : decode cX13_eases 39 = .ok (.iload_n 1, 1) := by decide +kernel
theorem dX13_eases_40 : decode cX13_eases 40 = .ok (.imul, 1) := by decide +kernel
theorem dX13_eases_41 : decode cX13_eases 41 = .ok (.iload_n 2, 1) := by decide +kernel
theorem dX13_eases_42 : decode cX13_eases 42 = .ok (.iadd, 1) := by decide +kernel
theorem dX13_eases_43 : decode cX13_eases 43 = .ok (.aload_n 0, 1) := by decide +kernel
theorem dX13_eases_44 : decode cX13_eases 44 = .ok (.getfield 29, 3) := by decide +kernel
theorem dX13_eases_47 : decode cX13_eases 47 = .ok (.bipush 16, 2) := by decide +kernel
theorem dX13_eases_49 : decode cX13_eases 49 = .ok (.iload_n 1, 1) := by decide +kernel
theorem dX13_eases_50 : decode cX13_eases 50 = .ok (.imul, 1) := by decide +kernel
theorem dX13_eases_51 : decode cX13_eases 51 = .ok (.bipush 16, 2) := by decide +kernel
theorem dX13_eases_53 : decode cX13_eases 53 = .ok (.isub, 1) := by decide +kernel
theorem dX13_eases_54 : decode cX13_eases 54 = .ok (.iload_n 2, 1) := by decide +kernel
theorem dX13_eases_55 : decode cX13_eases 55 = .ok (.iadd, 1) := by decide +kernel
theorem dX13_eases_56 : decode cX13_eases 56 = .ok (.iaload, 1) := by decide +kernel
theorem dX13_eases_57 : decode cX13_eases 57 = .ok (.aload_n 0, 1) := by decide +kernel
theorem dX13_eases_58 : decode cX13_eases 58 = .ok (.getfield 20, 3) := by decide +kernel
theorem dX13_eases_61 : decode cX13_eases 61 = .ok (.bipush 6, 2) := by decide +kernel
theorem dX13_eases_63 : decode cX13_eases 63 = .ok (.iaload, 1) := by decide +kernel
theorem dX13_eases_64 : decode cX13_eases 64 = .ok (.iadd, 1) := by decide +kernel
theorem dX13_eases_65 : decode cX13_eases 65 = .ok (.iastore, 1) := by decide +kernel
theorem dX13_eases_66 : decode cX13_eases 66 = .ok (.iinc 2 1, 3) := by decide +kernel
theorem dX13_eases_69 : decode cX13_eases 69 = .ok (.goto (-55), 3) := by decide +kernel
theorem dX13_eases_72 : decode cX13_eases 72 = .ok (.iinc 1 1, 3) := by decide +kernel
theorem dX13_eases_75 : decode cX13_eases 75 = .ok (.goto (-73), 3) := by decide +kernel
theorem dX13_eases_78 : decode cX13_eases 78 = .ok (.return_, 1) := by decide +kernel
set_option maxRecDepth 20000 in
theorem ggX13_ease_X13_laysAside : GoodIn wsX13_ease wsX13_laysAside := goodIn_r _ [6, 7, 8, 9, 10, 32, 33, 34, 35, 36, 37, 38, 39, 40, 41, 42, 43, 44, 45, 46, 47, 48, 49, 50, 51, 52, 53, 54, 55, 56, 57, 58, 59, 60, 61, 62, 63, 64, 65, 66, 67, 68, 69, 70, 71, 72, 73, 74, 75, 76, 77, 78, 79] (by decide +kernel) (by decide +kernel)
set_option maxRecDepth 20000 in
theorem gX13_ease_X13_laysAside : GoodIn wsX13_ease (wsV RX13 314 RX13 yX13_laysAside wsX13_laysAside) := goodIn_app (goodIn_of _ (by decide +kernel)) ggX13_ease_X13_laysAside
set_option maxRecDepth 20000 in
theorem ggX13_ease_X13_eases : GoodIn wsX13_ease wsX13_eases := goodIn_r _ [14, 15, 8, 16, 17, 18, 5, 19, 20, 21, 22, 32, 33, 34, 35, 36, 37, 38, 39, 40, 41, 42, 43, 44, 45, 46, 47, 48, 49, 50, 51, 52, 53, 54, 55, 56, 57, 58, 59, 60, 61, 62, 63, 64, 65, 66, 67, 68, 69, 70, 71, 72, 73, 74, 75, 76, 77, 78, 79] (by decide +kernel) (by decide +kernel)
set_option maxRecDepth 20000 in
theorem gX13_ease_X13_eases : GoodIn wsX13_ease (wsV RX13 390 RX13 yX13_eases wsX13_eases) := goodIn_app (goodIn_of _ (by decide +kernel)) ggX13_ease_X13_eases
set_option maxRecDepth 20000 in
theorem ggX13_ease_X13_keeps : GoodIn wsX13_ease wsX13_keeps := goodIn_r _ [26, 8, 7, 10, 9, 27, 28, 29, 30, 5, 31, 32, 33, 34, 35, 36, 37, 38, 39, 40, 41, 42, 43, 44, 45, 46, 47, 48, 49, 50, 51, 52, 53, 54, 55, 56, 57, 58, 59, 60, 61, 62, 63, 64, 65, 66, 67, 68, 69, 70, 71, 72, 73, 74, 75, 76, 77, 78, 79] (by decide +kernel) (by decide +kernel)
set_option maxRecDepth 20000 in
theorem gX13_ease_X13_keeps : GoodIn wsX13_ease (wsV RX13 368 RX13 yX13_keeps wsX13_keeps) := goodIn_app (goodIn_of _ (by decide +kernel)) ggX13_ease_X13_keeps
theorem dX13_ease_0 : decode cX13_ease 0 = .ok (.aload_n 0, 1) := by decide +kernel
theorem dX13_ease_1 : decode cX13_ease 1 = .ok (.iconst 0, 1) := by decide +kernel
theorem dX13_ease_2 : decode cX13_ease 2 = .ok (.putfield 93, 3) := by decide +kernel
theorem dX13_ease_5 : decode cX13_ease 5 = .ok (.aload_n 0, 1) := by decide +kernel
theorem dX13_ease_6 : decode cX13_ease 6 = .ok (.invokevirtual 314, 3) := by decide +kernel
theorem dX13_ease_9 : decode cX13_ease 9 = .ok (.aload_n 0, 1) := by decide +kernel
theorem dX13_ease_10 : decode cX13_ease 10 = .ok (.invokevirtual 390, 3) := by decide +kernel
theorem dX13_ease_13 : decode cX13_ease 13 = .ok (.aload_n 0, 1) := by decide +kernel
theorem dX13_ease_14 : decode cX13_ease 14 = .ok (.invokevirtual 368, 3) := by decide +kernel
theorem dX13_ease_17 : decode cX13_ease 17 = .ok (.ireturn, 1) := by decide +kernel
set_option maxRecDepth 20000 in
theorem ggX13_dithers_X13_wantedBy : GoodIn wsX13_dithers wsX13_wantedBy := goodIn_r _ [7, 8] (by decide +kernel) (by decide +kernel)
set_option maxRecDepth 20000 in
theorem gX13_dithers_X13_wantedBy : GoodIn wsX13_dithers (va_wsS RX13 199 yX13_wantedBy wsX13_wantedBy) := goodIn_app (goodIn_of _ (by decide +kernel)) ggX13_dithers_X13_wantedBy
set_option maxRecDepth 20000 in
theorem ggX13_dithers_X13_heightBy : GoodIn wsX13_dithers wsX13_heightBy := goodIn_r _ [12, 1, 13, 14, 15, 6, 16, 17, 18, 19, 20, 21, 22, 23, 24, 25, 26, 27, 28, 29, 30, 31, 32, 33, 34, 35, 36, 37, 38, 39, 40, 41, 42, 43, 44, 45, 46, 47, 48, 49, 50, 51, 52, 53, 54, 55, 56, 57, 58, 59, 60, 61, 62, 63, 64, 65, 66, 67, 68] (by decide +kernel) (by decide +kernel)
set_option maxRecDepth 20000 in
theorem gX13_dithers_X13_heightBy : GoodIn wsX13_dithers (wsV RX13 203 RX13 yX13_heightBy wsX13_heightBy) := goodIn_app (goodIn_of _ (by decide +kernel)) ggX13_dithers_X13_heightBy
set_option maxRecDepth 20000 in
theorem ggX13_dithers_X13_lightOf : GoodIn wsX13_dithers wsX13_lightOf := goodIn_r _ [16, 1, 17, 21, 22, 23, 24, 25, 26, 27, 28, 29, 30, 31, 32, 33, 34, 35, 36, 37, 38, 39, 40, 41, 42, 43, 44, 45, 46, 47, 48, 49, 50, 51, 52, 53, 54, 55, 56, 57, 58, 59, 60, 61, 62, 63, 64, 65, 66, 67, 68] (by decide +kernel) (by decide +kernel)
set_option maxRecDepth 20000 in
theorem gX13_dithers_X13_lightOf : GoodIn wsX13_dithers (wsV RX13 269 RX13 yX13_lightOf wsX13_lightOf) := goodIn_app (goodIn_of _ (by decide +kernel)) ggX13_dithers_X13_lightOf
theorem dX13_dithers_0 : decode cX13_dithers 0 = .ok (.iconst 0, 1) := by decide +kernel
theorem dX13_dithers_1 : decode cX13_dithers 1 = .ok (.istore_n 1, 1) := by decide +kernel
theorem dX13_dithers_2 : decode cX13_dithers 2 = .ok (.iload_n 1, 1) := by decide +kernel
theorem dX13_dithers_3 : decode cX13_dithers 3 = .ok (.aload_n 0, 1) := by decide +kernel
theorem dX13_dithers_4 : decode cX13_dithers 4 = .ok (.getfield 20, 3) := by decide +kernel
theorem dX13_dithers_7 : decode cX13_dithers 7 = .ok (.iconst 1, 1) := by decide +kernel
theorem dX13_dithers_8 : decode cX13_dithers 8 = .ok (.iaload, 1) := by decide +kernel
theorem dX13_dithers_9 : decode cX13_dithers 9 = .ok (.if_icmp .ge 83, 3) := by decide +kernel
theorem dX13_dithers_12 : decode cX13_dithers 12 = .ok (.fconst 0, 1) := by decide +kernel
theorem dX13_dithers_13 : decode cX13_dithers 13 = .ok (.fstore_n 2, 1) := by decide +kernel
theorem dX13_dithers_14 : decode cX13_dithers 14 = .ok (.iconst 0, 1) := by decide +kernel
theorem dX13_dithers_15 : decode cX13_dithers 15 = .ok (.istore_n 3, 1) := by decide +kernel
theorem dX13_dithers_16 : decode cX13_dithers 16 = .ok (.iload_n 3, 1) := by decide +kernel
theorem dX13_dithers_17 : decode cX13_dithers 17 = .ok (.aload_n 0, 1) := by decide +kernel
theorem dX13_dithers_18 : decode cX13_dithers 18 = .ok (.getfield 20, 3) := by decide +kernel
theorem dX13_dithers_21 : decode cX13_dithers 21 = .ok (.iconst 0, 1) := by decide +kernel
theorem dX13_dithers_22 : decode cX13_dithers 22 = .ok (.iaload, 1) := by decide +kernel
theorem dX13_dithers_23 : decode cX13_dithers 23 = .ok (.if_icmp .ge 63, 3) := by decide +kernel
theorem dX13_dithers_26 : decode cX13_dithers 26 = .ok (.aload_n 0, 1) := by decide +kernel
theorem dX13_dithers_27 : decode cX13_dithers 27 = .ok (.getfield 26, 3) := by decide +kernel
theorem dX13_dithers_30 : decode cX13_dithers 30 = .ok (.bipush 16, 2) := by decide +kernel
theorem dX13_dithers_32 : decode cX13_dithers 32 = .ok (.iload_n 1, 1) := by decide +kernel
theorem dX13_dithers_33 : decode cX13_dithers 33 = .ok (.imul, 1) := by decide +kernel
theorem dX13_dithers_34 : decode cX13_dithers 34 = .ok (.iload_n 3, 1) := by decide +kernel
theorem dX13_dithers_35 : decode cX13_dithers 35 = .ok (.iadd, 1) := by decide +kernel
theorem dX13_dithers_36 : decode cX13_dithers 36 = .ok (.iaload, 1) := by decide +kernel
theorem dX13_dithers_37 : decode cX13_dithers 37 = .ok (.invokestatic 199, 3) := by decide +kernel
theorem dX13_dithers_40 : decode cX13_dithers 40 = .ok (.fload_n 2, 1) := by decide +kernel
theorem dX13_dithers_41 : decode cX13_dithers 41 = .ok (.fadd, 1) := by decide +kernel
theorem dX13_dithers_42 : decode cX13_dithers 42 = .ok (.fstore 4, 2) := by decide +kernel
theorem dX13_dithers_44 : decode cX13_dithers 44 = .ok (.aload_n 0, 1) := by decide +kernel
theorem dX13_dithers_45 : decode cX13_dithers 45 = .ok (.getfield 29, 3) := by decide +kernel
theorem dX13_dithers_48 : decode cX13_dithers 48 = .ok (.bipush 16, 2) := by decide +kernel
theorem dX13_dithers_50 : decode cX13_dithers 50 = .ok (.iload_n 1, 1) := by decide +kernel
theorem dX13_dithers_51 : decode cX13_dithers 51 = .ok (.imul, 1) := by decide +kernel
theorem dX13_dithers_52 : decode cX13_dithers 52 = .ok (.iload_n 3, 1) := by decide +kernel
theorem dX13_dithers_53 : decode cX13_dithers 53 = .ok (.iadd, 1) := by decide +kernel
theorem dX13_dithers_54 : decode cX13_dithers 54 = .ok (.aload_n 0, 1) := by decide +kernel
theorem dX13_dithers_55 : decode cX13_dithers 55 = .ok (.fload 4, 2) := by decide +kernel
theorem dX13_dithers_57 : decode cX13_dithers 57 = .ok (.invokevirtual 203, 3) := by decide +kernel
theorem dX13_dithers_60 : decode cX13_dithers 60 = .ok (.iastore, 1) := by decide +kernel
theorem dX13_dithers_61 : decode cX13_dithers 61 = .ok (.fload 4, 2) := by decide +kernel
theorem dX13_dithers_63 : decode cX13_dithers 63 = .ok (.aload_n 0, 1) := by decide +kernel
theorem dX13_dithers_64 : decode cX13_dithers 64 = .ok (.aload_n 0, 1) := by decide +kernel
theorem dX13_dithers_65 : decode cX13_dithers 65 = .ok (.getfield 29, 3) := by decide +kernel
theorem dX13_dithers_68 : decode cX13_dithers 68 = .ok (.bipush 16, 2) := by decide +kernel
theorem dX13_dithers_70 : decode cX13_dithers 70 = .ok (.iload_n 1, 1) := by decide +kernel
theorem dX13_dithers_71 : decode cX13_dithers 71 = .ok (.imul, 1) := by decide +kernel
theorem dX13_dithers_72 : decode cX13_dithers 72 = .ok (.iload_n 3, 1) := by decide +kernel
theorem dX13_dithers_73 : decode cX13_dithers 73 = .ok (.iadd, 1) := by decide +kernel
theorem dX13_dithers_74 : decode cX13_dithers 74 = .ok (.iaload, 1) := by decide +kernel
theorem dX13_dithers_75 : decode cX13_dithers 75 = .ok (.invokevirtual 269, 3) := by decide +kernel
theorem dX13_dithers_78 : decode cX13_dithers 78 = .ok (.fsub, 1) := by decide +kernel
theorem dX13_dithers_79 : decode cX13_dithers 79 = .ok (.fstore_n 2, 1) := by decide +kernel
theorem dX13_dithers_80 : decode cX13_dithers 80 = .ok (.iinc 3 1, 3) := by decide +kernel
theorem dX13_dithers_83 : decode cX13_dithers 83 = .ok (.goto (-67), 3) := by decide +kernel
theorem dX13_dithers_86 : decode cX13_dithers 86 = .ok (.iinc 1 1, 3) := by decide +kernel
theorem dX13_dithers_89 : decode cX13_dithers 89 = .ok (.goto (-87), 3) := by decide +kernel
theorem dX13_dithers_92 : decode cX13_dithers 92 = .ok (.return_, 1) := by decide +kernel
set_option maxRecDepth 20000 in
theorem ggX13_dither_X13_laysAside : GoodIn wsX13_dither wsX13_laysAside := goodIn_r _ [6, 7, 8, 9, 10, 41, 42, 43, 44, 45, 46, 47, 48, 49, 50, 51, 52, 53, 54, 55, 56, 57, 58, 59, 60, 61, 62, 63, 64, 65, 66, 67, 68, 69, 70, 71, 72, 73, 74, 75, 76, 77, 78, 79, 80, 81, 82, 83, 84, 85, 86, 87, 88] (by decide +kernel) (by decide +kernel)
set_option maxRecDepth 20000 in
theorem gX13_dither_X13_laysAside : GoodIn wsX13_dither (wsV RX13 314 RX13 yX13_laysAside wsX13_laysAside) := goodIn_app (goodIn_of _ (by decide +kernel)) ggX13_dither_X13_laysAside
set_option maxRecDepth 20000 in
theorem ggX13_dither_X13_dithers : GoodIn wsX13_dither wsX13_dithers := goodIn_r _ [14, 15, 10, 8, 16, 17, 5, 18, 19, 20, 21, 22, 23, 24, 25, 26, 27, 28, 29, 30, 31, 41, 42, 43, 44, 45, 46, 47, 48, 49, 50, 51, 52, 53, 54, 55, 56, 57, 58, 59, 60, 61, 62, 63, 64, 65, 66, 67, 68, 69, 70, 71, 72, 73, 74, 75, 76, 77, 78, 79, 80, 81, 82, 83, 84, 85, 86, 87, 88] (by decide +kernel) (by decide +kernel)
set_option maxRecDepth 20000 in
theorem gX13_dither_X13_dithers : GoodIn wsX13_dither (wsV RX13 393 RX13 yX13_dithers wsX13_dithers) := goodIn_app (goodIn_of _ (by decide +kernel)) ggX13_dither_X13_dithers
set_option maxRecDepth 20000 in
theorem ggX13_dither_X13_keeps : GoodIn wsX13_dither wsX13_keeps := goodIn_r _ [35, 8, 7, 10, 9, 36, 37, 38, 39, 5, 40, 41, 42, 43, 44, 45, 46, 47, 48, 49, 50, 51, 52, 53, 54, 55, 56, 57, 58, 59, 60, 61, 62, 63, 64, 65, 66, 67, 68, 69, 70, 71, 72, 73, 74, 75, 76, 77, 78, 79, 80, 81, 82, 83, 84, 85, 86, 87, 88] (by decide +kernel) (by decide +kernel)
set_option maxRecDepth 20000 in
theorem gX13_dither_X13_keeps : GoodIn wsX13_dither (wsV RX13 368 RX13 yX13_keeps wsX13_keeps) := goodIn_app (goodIn_of _ (by decide +kernel)) ggX13_dither_X13_keeps
theorem dX13_dither_0 : decode cX13_dither 0 = .ok (.aload_n 0, 1) := by decide +kernel
theorem dX13_dither_1 : decode cX13_dither 1 = .ok (.iconst 0, 1) := by decide +kernel
theorem dX13_dither_2 : decode cX13_dither 2 = .ok (.putfield 93, 3) := by decide +kernel
theorem dX13_dither_5 : decode cX13_dither 5 = .ok (.aload_n 0, 1) := by decide +kernel
theorem dX13_dither_6 : decode cX13_dither 6 = .ok (.invokevirtual 314, 3) := by decide +kernel
theorem dX13_dither_9 : decode cX13_dither 9 = .ok (.aload_n 0, 1) := by decide +kernel
theorem dX13_dither_10 : decode cX13_dither 10 = .ok (.invokevirtual 393, 3) := by decide +kernel
theorem dX13_dither_13 : decode cX13_dither 13 = .ok (.aload_n 0, 1) := by decide +kernel
theorem dX13_dither_14 : decode cX13_dither 14 = .ok (.invokevirtual 368, 3) := by decide +kernel
theorem dX13_dither_17 : decode cX13_dither 17 = .ok (.ireturn, 1) := by decide +kernel
set_option maxRecDepth 20000 in
theorem ggX13_errorOf_X13_isCell : GoodIn wsX13_errorOf wsX13_isCell := goodIn_r _ [5, 6, 7, 8, 4, 9, 38, 39, 40, 41, 42, 43, 44, 45, 46, 47, 48, 49, 50, 51, 52, 53, 54, 55, 56, 57, 58, 59, 60, 61, 62, 63, 64, 65, 66, 67, 68, 69, 70, 71, 72, 73, 74, 75, 76, 77, 78, 79, 80, 81, 82, 83, 84, 85] (by decide +kernel) (by decide +kernel)
set_option maxRecDepth 20000 in
theorem gX13_errorOf_X13_isCell : GoodIn wsX13_errorOf (wsV RX13 195 RX13 yX13_isCell wsX13_isCell) := goodIn_app (goodIn_of _ (by decide +kernel)) ggX13_errorOf_X13_isCell
set_option maxRecDepth 20000 in
theorem ggX13_errorOf_X13_errorAt : GoodIn wsX13_errorOf wsX13_errorAt := goodIn_r _ [13, 14, 15, 16, 17, 4, 18, 19, 20, 21, 22, 23, 24, 25, 6, 26, 27, 28, 29, 30, 1, 2, 3, 5, 7, 8, 9, 31, 32, 33, 34, 38, 39, 40, 41, 42, 43, 44, 45, 46, 47, 48, 49, 50, 51, 52, 53, 54, 55, 56, 57, 58, 59, 60, 61, 62, 63, 64, 65, 66, 67, 68, 69, 70, 71, 72, 73, 74, 75, 76, 77, 78, 79, 80, 81, 82, 83, 84, 85] (by decide +kernel) (by decide +kernel)
set_option maxRecDepth 20000 in
theorem gX13_errorOf_X13_errorAt : GoodIn wsX13_errorOf (wsV RX13 288 RX13 yX13_errorAt wsX13_errorAt) := goodIn_app (goodIn_of _ (by decide +kernel)) ggX13_errorOf_X13_errorAt
set_option maxRecDepth 20000 in
theorem ggX13_errorOf_X13_apart : GoodIn wsX13_errorOf wsX13_apart := goodIn_r _ [37] (by decide +kernel) (by decide +kernel)
set_option maxRecDepth 20000 in
theorem gX13_errorOf_X13_apart : GoodIn wsX13_errorOf (va_wsS RX13 272 yX13_apart wsX13_apart) := goodIn_app (goodIn_of _ (by decide +kernel)) ggX13_errorOf_X13_apart
theorem dX13_errorOf_0 : decode cX13_errorOf 0 = .ok (.aload_n 0, 1) := by decide +kernel
theorem dX13_errorOf_1 : decode cX13_errorOf 1 = .ok (.iload_n 1, 1) := by decide +kernel
theorem dX13_errorOf_2 : decode cX13_errorOf 2 = .ok (.iload_n 2, 1) := by decide +kernel
theorem dX13_errorOf_3 : decode cX13_errorOf 3 = .ok (.invokevirtual 195, 3) := by decide +kernel
theorem dX13_errorOf_6 : decode cX13_errorOf 6 = .ok (.ifCond .eq 15, 3) := by decide +kernel
theorem dX13_errorOf_9 : decode cX13_errorOf 9 = .ok (.aload_n 0, 1) := by decide +kernel
theorem dX13_errorOf_10 : decode cX13_errorOf 10 = .ok (.iload_n 1, 1) := by decide +kernel
theorem dX13_errorOf_11 : decode cX13_errorOf 11 = .ok (.iload_n 2, 1) := by decide +kernel
theorem dX13_errorOf_12 : decode cX13_errorOf 12 = .ok (.invokevirtual 288, 3) := by decide +kernel
theorem dX13_errorOf_15 : decode cX13_errorOf 15 = .ok (.invokestatic 272, 3) := by decide +kernel
theorem dX13_errorOf_18 : decode cX13_errorOf 18 = .ok (.goto 4, 3) := by decide +kernel
theorem dX13_errorOf_21 : decode cX13_errorOf 21 = .ok (.fconst 0, 1) := by decide +kernel
theorem dX13_errorOf_22 : decode cX13_errorOf 22 = .ok (.freturn, 1) := by decide +kernel
set_option maxRecDepth 20000 in
theorem ggX13_errorsAround_X13_errorOf : GoodIn wsX13_errorsAround wsX13_errorOf := goodIn_r _ [6, 7, 8, 9, 5, 10, 1, 11, 12, 13, 14, 15, 16, 17, 18, 19, 20, 21, 22, 23, 24, 25, 26, 27, 28, 29, 30, 31, 32, 33, 34, 35, 36, 37, 38, 39, 40, 41, 42, 43, 44, 45, 46, 47, 48, 49, 50, 51, 52, 53, 54, 55, 56, 57, 58, 59, 60, 61, 62, 63, 64, 65, 66, 67, 68, 69, 70, 71, 72, 73, 74, 75, 76, 77, 78, 79, 80, 81, 82, 83, 84, 85, 86, 87, 88, 89] (by decide +kernel) (by decide +kernel)
set_option maxRecDepth 20000 in
theorem gX13_errorsAround_X13_errorOf : GoodIn wsX13_errorsAround (wsV RX13 396 RX13 yX13_errorOf wsX13_errorOf) := goodIn_app (goodIn_of _ (by decide +kernel)) ggX13_errorsAround_X13_errorOf
theorem dX13_errorsAround_0 : decode cX13_errorsAround 0 = .ok (.fconst 0, 1) := by decide +kernel
theorem dX13_errorsAround_1 : decode cX13_errorsAround 1 = .ok (.aload_n 0, 1) := by decide +kernel
theorem dX13_errorsAround_2 : decode cX13_errorsAround 2 = .ok (.iload_n 1, 1) := by decide +kernel
theorem dX13_errorsAround_3 : decode cX13_errorsAround 3 = .ok (.iload_n 2, 1) := by decide +kernel
theorem dX13_errorsAround_4 : decode cX13_errorsAround 4 = .ok (.invokevirtual 396, 3) := by decide +kernel
theorem dX13_errorsAround_7 : decode cX13_errorsAround 7 = .ok (.fadd, 1) := by decide +kernel
theorem dX13_errorsAround_8 : decode cX13_errorsAround 8 = .ok (.fstore_n 3, 1) := by decide +kernel
theorem dX13_errorsAround_9 : decode cX13_errorsAround 9 = .ok (.iload_n 1, 1) := by decide +kernel
theorem dX13_errorsAround_10 : decode cX13_errorsAround 10 = .ok (.ifCond .le 14, 3) := by decide +kernel
theorem dX13_errorsAround_13 : decode cX13_errorsAround 13 = .ok (.fload_n 3, 1) := by decide +kernel
theorem dX13_errorsAround_14 : decode cX13_errorsAround 14 = .ok (.aload_n 0, 1) := by decide +kernel
theorem dX13_errorsAround_15 : decode cX13_errorsAround 15 = .ok (.iload_n 1, 1) := by decide +kernel
theorem dX13_errorsAround_16 : decode cX13_errorsAround 16 = .ok (.iconst 1, 1) := by decide +kernel
theorem dX13_errorsAround_17 : decode cX13_errorsAround 17 = .ok (.isub, 1) := by decide +kernel
theorem dX13_errorsAround_18 : decode cX13_errorsAround 18 = .ok (.iload_n 2, 1) := by decide +kernel
theorem dX13_errorsAround_19 : decode cX13_errorsAround 19 = .ok (.invokevirtual 396, 3) := by decide +kernel
theorem dX13_errorsAround_22 : decode cX13_errorsAround 22 = .ok (.fadd, 1) := by decide +kernel
theorem dX13_errorsAround_23 : decode cX13_errorsAround 23 = .ok (.fstore_n 3, 1) := by decide +kernel
theorem dX13_errorsAround_24 : decode cX13_errorsAround 24 = .ok (.iload_n 1, 1) := by decide +kernel
theorem dX13_errorsAround_25 : decode cX13_errorsAround 25 = .ok (.iconst 1, 1) := by decide +kernel
theorem dX13_errorsAround_26 : decode cX13_errorsAround 26 = .ok (.iadd, 1) := by decide +kernel
theorem dX13_errorsAround_27 : decode cX13_errorsAround 27 = .ok (.aload_n 0, 1) := by decide +kernel
theorem dX13_errorsAround_28 : decode cX13_errorsAround 28 = .ok (.getfield 20, 3) := by decide +kernel
theorem dX13_errorsAround_31 : decode cX13_errorsAround 31 = .ok (.iconst 0, 1) := by decide +kernel
theorem dX13_errorsAround_32 : decode cX13_errorsAround 32 = .ok (.iaload, 1) := by decide +kernel
theorem dX13_errorsAround_33 : decode cX13_errorsAround 33 = .ok (.if_icmp .ge 14, 3) := by decide +kernel
theorem dX13_errorsAround_36 : decode cX13_errorsAround 36 = .ok (.fload_n 3, 1) := by decide +kernel
theorem dX13_errorsAround_37 : decode cX13_errorsAround 37 = .ok (.aload_n 0, 1) := by decide +kernel
theorem dX13_errorsAround_38 : decode cX13_errorsAround 38 = .ok (.iload_n 1, 1) := by decide +kernel
theorem dX13_errorsAround_39 : decode cX13_errorsAround 39 = .ok (.iconst 1, 1) := by decide +kernel
theorem dX13_errorsAround_40 : decode cX13_errorsAround 40 = .ok (.iadd, 1) := by decide +kernel
theorem dX13_errorsAround_41 : decode cX13_errorsAround 41 = .ok (.iload_n 2, 1) := by decide +kernel
theorem dX13_errorsAround_42 : decode cX13_errorsAround 42 = .ok (.invokevirtual 396, 3) := by decide +kernel
theorem dX13_errorsAround_45 : decode cX13_errorsAround 45 = .ok (.fadd, 1) := by decide +kernel
theorem dX13_errorsAround_46 : decode cX13_errorsAround 46 = .ok (.fstore_n 3, 1) := by decide +kernel
theorem dX13_errorsAround_47 : decode cX13_errorsAround 47 = .ok (.iload_n 2, 1) := by decide +kernel
theorem dX13_errorsAround_48 : decode cX13_errorsAround 48 = .ok (.ifCond .le 14, 3) := by decide +kernel
theorem dX13_errorsAround_51 : decode cX13_errorsAround 51 = .ok (.fload_n 3, 1) := by decide +kernel
theorem dX13_errorsAround_52 : decode cX13_errorsAround 52 = .ok (.aload_n 0, 1) := by decide +kernel
theorem dX13_errorsAround_53 : decode cX13_errorsAround 53 = .ok (.iload_n 1, 1) := by decide +kernel
theorem dX13_errorsAround_54 : decode cX13_errorsAround 54 = .ok (.iload_n 2, 1) := by decide +kernel
theorem dX13_errorsAround_55 : decode cX13_errorsAround 55 = .ok (.iconst 1, 1) := by decide +kernel
theorem dX13_errorsAround_56 : decode cX13_errorsAround 56 = .ok (.isub, 1) := by decide +kernel
theorem dX13_errorsAround_57 : decode cX13_errorsAround 57 = .ok (.invokevirtual 396, 3) := by decide +kernel
theorem dX13_errorsAround_60 : decode cX13_errorsAround 60 = .ok (.fadd, 1) := by decide +kernel
theorem dX13_errorsAround_61 : decode cX13_errorsAround 61 = .ok (.fstore_n 3, 1) := by decide +kernel
theorem dX13_errorsAround_62 : decode cX13_errorsAround 62 = .ok (.iload_n 2, 1) := by decide +kernel
theorem dX13_errorsAround_63 : decode cX13_errorsAround 63 = .ok (.iconst 1, 1) := by decide +kernel
theorem dX13_errorsAround_64 : decode cX13_errorsAround 64 = .ok (.iadd, 1) := by decide +kernel
theorem dX13_errorsAround_65 : decode cX13_errorsAround 65 = .ok (.aload_n 0, 1) := by decide +kernel
theorem dX13_errorsAround_66 : decode cX13_errorsAround 66 = .ok (.getfield 20, 3) := by decide +kernel
theorem dX13_errorsAround_69 : decode cX13_errorsAround 69 = .ok (.iconst 1, 1) := by decide +kernel
theorem dX13_errorsAround_70 : decode cX13_errorsAround 70 = .ok (.iaload, 1) := by decide +kernel
theorem dX13_errorsAround_71 : decode cX13_errorsAround 71 = .ok (.if_icmp .ge 14, 3) := by decide +kernel
theorem dX13_errorsAround_74 : decode cX13_errorsAround 74 = .ok (.fload_n 3, 1) := by decide +kernel
theorem dX13_errorsAround_75 : decode cX13_errorsAround 75 = .ok (.aload_n 0, 1) := by decide +kernel
theorem dX13_errorsAround_76 : decode cX13_errorsAround 76 = .ok (.iload_n 1, 1) := by decide +kernel
theorem dX13_errorsAround_77 : decode cX13_errorsAround 77 = .ok (.iload_n 2, 1) := by decide +kernel
theorem dX13_errorsAround_78 : decode cX13_errorsAround 78 = .ok (.iconst 1, 1) := by decide +kernel
theorem dX13_errorsAround_79 : decode cX13_errorsAround 79 = .ok (.iadd, 1) := by decide +kernel
theorem dX13_errorsAround_80 : decode cX13_errorsAround 80 = .ok (.invokevirtual 396, 3) := by decide +kernel
theorem dX13_errorsAround_83 : decode cX13_errorsAround 83 = .ok (.fadd, 1) := by decide +kernel
theorem dX13_errorsAround_84 : decode cX13_errorsAround 84 = .ok (.fstore_n 3, 1) := by decide +kernel
theorem dX13_errorsAround_85 : decode cX13_errorsAround 85 = .ok (.fload_n 3, 1) := by decide +kernel
theorem dX13_errorsAround_86 : decode cX13_errorsAround 86 = .ok (.freturn, 1) := by decide +kernel
set_option maxRecDepth 20000 in
theorem ggX13_polishes_X13_more : GoodIn wsX13_polishes wsX13_more := goodIn_r _ [6] (by decide +kernel) (by decide +kernel)
set_option maxRecDepth 20000 in
theorem gX13_polishes_X13_more : GoodIn wsX13_polishes (va_wsS RX13 264 yX13_more wsX13_more) := goodIn_app (goodIn_of _ (by decide +kernel)) ggX13_polishes_X13_more
set_option maxRecDepth 20000 in
theorem ggX13_polishes_X13_less : GoodIn wsX13_polishes wsX13_less := goodIn_r _ [9] (by decide +kernel) (by decide +kernel)
set_option maxRecDepth 20000 in
theorem gX13_polishes_X13_less : GoodIn wsX13_polishes (va_wsS RX13 210 yX13_less wsX13_less) := goodIn_app (goodIn_of _ (by decide +kernel)) ggX13_polishes_X13_less
set_option maxRecDepth 20000 in
theorem ggX13_polishes_X13_errorsAround : GoodIn wsX13_polishes wsX13_errorsAround := goodIn_r _ [13, 2, 14, 15, 16, 5, 17, 18, 19, 20, 21, 22, 23, 24, 25, 26, 27, 28, 29, 30, 31, 32, 33, 1, 34, 35, 36, 37, 38, 39, 40, 41, 42, 43, 44, 45, 46, 47, 48, 49, 50, 51, 52, 53, 54, 55, 56, 57, 58, 59, 60, 61, 62, 63, 64, 65, 66, 67, 68, 69, 70, 71, 72, 73, 74, 75, 76, 77, 78, 79, 80, 81, 82, 83, 84, 85, 86, 87, 88, 89, 90, 91, 92, 93, 94, 95, 96, 97, 98, 99] (by decide +kernel) (by decide +kernel)
set_option maxRecDepth 20000 in
theorem gX13_polishes_X13_errorsAround : GoodIn wsX13_polishes (wsV RX13 399 RX13 yX13_errorsAround wsX13_errorsAround) := goodIn_app (goodIn_of _ (by decide +kernel)) ggX13_polishes_X13_errorsAround
theorem dX13_polishes_0 : decode cX13_polishes 0 = .ok (.aload_n 0, 1) := by decide +kernel
theorem dX13_polishes_1 : decode cX13_polishes 1 = .ok (.getfield 29, 3) := by decide +kernel
theorem dX13_polishes_4 : decode cX13_polishes 4 = .ok (.bipush 16, 2) := by decide +kernel
theorem dX13_polishes_6 : decode cX13_polishes 6 = .ok (.iload_n 2, 1) := by decide +kernel
theorem dX13_polishes_7 : decode cX13_polishes 7 = .ok (.imul, 1) := by decide +kernel
theorem dX13_polishes_8 : decode cX13_polishes 8 = .ok (.iload_n 1, 1) := by decide +kernel
theorem dX13_polishes_9 : decode cX13_polishes 9 = .ok (.iadd, 1) := by decide +kernel
theorem dX13_polishes_10 : decode cX13_polishes 10 = .ok (.iaload, 1) := by decide +kernel
theorem dX13_polishes_11 : decode cX13_polishes 11 = .ok (.istore_n 3, 1) := by decide +kernel
theorem dX13_polishes_12 : decode cX13_polishes 12 = .ok (.iconst (-1), 1) := by decide +kernel
theorem dX13_polishes_13 : decode cX13_polishes 13 = .ok (.istore 4, 2) := by decide +kernel
theorem dX13_polishes_15 : decode cX13_polishes 15 = .ok (.fconst 0, 1) := by decide +kernel
theorem dX13_polishes_16 : decode cX13_polishes 16 = .ok (.fstore 5, 2) := by decide +kernel
theorem dX13_polishes_18 : decode cX13_polishes 18 = .ok (.aload_n 0, 1) := by decide +kernel
theorem dX13_polishes_19 : decode cX13_polishes 19 = .ok (.getfield 20, 3) := by decide +kernel
theorem dX13_polishes_22 : decode cX13_polishes 22 = .ok (.iconst 4, 1) := by decide +kernel
theorem dX13_polishes_23 : decode cX13_polishes 23 = .ok (.iaload, 1) := by decide +kernel
theorem dX13_polishes_24 : decode cX13_polishes 24 = .ok (.iload_n 3, 1) := by decide +kernel
theorem dX13_polishes_25 : decode cX13_polishes 25 = .ok (.iconst 1, 1) := by decide +kernel
theorem dX13_polishes_26 : decode cX13_polishes 26 = .ok (.isub, 1) := by decide +kernel
theorem dX13_polishes_27 : decode cX13_polishes 27 = .ok (.invokestatic 264, 3) := by decide +kernel
theorem dX13_polishes_30 : decode cX13_polishes 30 = .ok (.istore 6, 2) := by decide +kernel
theorem dX13_polishes_32 : decode cX13_polishes 32 = .ok (.iload 6, 2) := by decide +kernel
theorem dX13_polishes_34 : decode cX13_polishes 34 = .ok (.aload_n 0, 1) := by decide +kernel
theorem dX13_polishes_35 : decode cX13_polishes 35 = .ok (.getfield 20, 3) := by decide +kernel
theorem dX13_polishes_38 : decode cX13_polishes 38 = .ok (.iconst 2, 1) := by decide +kernel
theorem dX13_polishes_39 : decode cX13_polishes 39 = .ok (.iaload, 1) := by decide +kernel
theorem dX13_polishes_40 : decode cX13_polishes 40 = .ok (.iload_n 3, 1) := by decide +kernel
theorem dX13_polishes_41 : decode cX13_polishes 41 = .ok (.iconst 1, 1) := by decide +kernel
theorem dX13_polishes_42 : decode cX13_polishes 42 = .ok (.iadd, 1) := by decide +kernel
theorem dX13_polishes_43 : decode cX13_polishes 43 = .ok (.invokestatic 210, 3) := by decide +kernel
theorem dX13_polishes_46 : decode cX13_polishes 46 = .ok (.if_icmp .gt 55, 3) := by decide +kernel
theorem dX13_polishes_49 : decode cX13_polishes 49 = .ok (.aload_n 0, 1) := by decide +kernel
theorem dX13_polishes_50 : decode cX13_polishes 50 = .ok (.getfield 29, 3) := by decide +kernel
theorem dX13_polishes_53 : decode cX13_polishes 53 = .ok (.bipush 16, 2) := by decide +kernel
theorem dX13_polishes_55 : decode cX13_polishes 55 = .ok (.iload_n 2, 1) := by decide +kernel
theorem dX13_polishes_56 : decode cX13_polishes 56 = .ok (.imul, 1) := by decide +kernel
theorem dX13_polishes_57 : decode cX13_polishes 57 = .ok (.iload_n 1, 1) := by decide +kernel
theorem dX13_polishes_58 : decode cX13_polishes 58 = .ok (.iadd, 1) := by decide +kernel
theorem dX13_polishes_59 : decode cX13_polishes 59 = .ok (.iload 6, 2) := by decide +kernel
theorem dX13_polishes_61 : decode cX13_polishes 61 = .ok (.iastore, 1) := by decide +kernel
theorem dX13_polishes_62 : decode cX13_polishes 62 = .ok (.aload_n 0, 1) := by decide +kernel
theorem dX13_polishes_63 : decode cX13_polishes 63 = .ok (.iload_n 1, 1) := by decide +kernel
theorem dX13_polishes_64 : decode cX13_polishes 64 = .ok (.iload_n 2, 1) := by decide +kernel
theorem dX13_polishes_65 : decode cX13_polishes 65 = .ok (.invokevirtual 399, 3) := by decide +kernel
theorem dX13_polishes_68 : decode cX13_polishes 68 = .ok (.fstore 7, 2) := by decide +kernel
theorem dX13_polishes_70 : decode cX13_polishes 70 = .ok (.iload 4, 2) := by decide +kernel
theorem dX13_polishes_72 : decode cX13_polishes 72 = .ok (.iconst (-1), 1) := by decide +kernel
theorem dX13_polishes_73 : decode cX13_polishes 73 = .ok (.if_icmp .eq 14, 3) := by decide +kernel
theorem dX13_polishes_76 : decode cX13_polishes 76 = .ok (.fload 7, 2) := by decide +kernel
theorem dX13_polishes_78 : decode cX13_polishes 78 = .ok (.fload 5, 2) := by decide +kernel
theorem dX13_polishes_80 : decode cX13_polishes 80 = .ok (.fcmp .l, 1) := by decide +kernel
theorem dX13_polishes_81 : decode cX13_polishes 81 = .ok (.ifCond .lt 6, 3) := by decide +kernel
theorem dX13_polishes_84 : decode cX13_polishes 84 = .ok (.goto 11, 3) := by decide +kernel
theorem dX13_polishes_87 : decode cX13_polishes 87 = .ok (.iload 6, 2) := by decide +kernel
theorem dX13_polishes_89 : decode cX13_polishes 89 = .ok (.istore 4, 2) := by decide +kernel
theorem dX13_polishes_91 : decode cX13_polishes 91 = .ok (.fload 7, 2) := by decide +kernel
theorem dX13_polishes_93 : decode cX13_polishes 93 = .ok (.fstore 5, 2) := by decide +kernel
theorem dX13_polishes_95 : decode cX13_polishes 95 = .ok (.iinc 6 1, 3) := by decide +kernel
theorem dX13_polishes_98 : decode cX13_polishes 98 = .ok (.goto (-66), 3) := by decide +kernel
theorem dX13_polishes_101 : decode cX13_polishes 101 = .ok (.aload_n 0, 1) := by decide +kernel
theorem dX13_polishes_102 : decode cX13_polishes 102 = .ok (.getfield 29, 3) := by decide +kernel
theorem dX13_polishes_105 : decode cX13_polishes 105 = .ok (.bipush 16, 2) := by decide +kernel
theorem dX13_polishes_107 : decode cX13_polishes 107 = .ok (.iload_n 2, 1) := by decide +kernel
theorem dX13_polishes_108 : decode cX13_polishes 108 = .ok (.imul, 1) := by decide +kernel
theorem dX13_polishes_109 : decode cX13_polishes 109 = .ok (.iload_n 1, 1) := by decide +kernel
theorem dX13_polishes_110 : decode cX13_polishes 110 = .ok (.iadd, 1) := by decide +kernel
theorem dX13_polishes_111 : decode cX13_polishes 111 = .ok (.iload 4, 2) := by decide +kernel
theorem dX13_polishes_113 : decode cX13_polishes 113 = .ok (.iastore, 1) := by decide +kernel
theorem dX13_polishes_114 : decode cX13_polishes 114 = .ok (.return_, 1) := by decide +kernel
set_option maxRecDepth 20000 in
theorem ggX13_polishesAll_X13_cellMany : GoodIn wsX13_polishesAll wsX13_cellMany := goodIn_r _ [6, 1, 60, 61, 62, 63, 64, 65, 66, 67, 68, 69, 70, 71, 72, 73, 74, 75, 76, 77, 78, 79, 80, 81, 82, 83, 84, 85, 86, 87, 88, 89, 90, 91, 92, 93, 94, 95, 96, 97, 98, 99, 100, 101, 102, 103, 104, 105, 106, 107] (by decide +kernel) (by decide +kernel)
set_option maxRecDepth 20000 in
theorem gX13_polishesAll_X13_cellMany : GoodIn wsX13_polishesAll (wsV RX13 251 RX13 yX13_cellMany wsX13_cellMany) := goodIn_app (goodIn_of _ (by decide +kernel)) ggX13_polishesAll_X13_cellMany
set_option maxRecDepth 20000 in
theorem ggX13_polishesAll_X13_polishes : GoodIn wsX13_polishesAll wsX13_polishes := goodIn_r _ [10, 11, 1, 12, 13, 5, 14, 15, 16, 17, 18, 19, 20, 21, 22, 23, 24, 25, 26, 27, 28, 29, 30, 31, 32, 33, 34, 35, 36, 37, 38, 39, 40, 41, 42, 43, 44, 45, 46, 47, 48, 49, 50, 51, 52, 53, 54, 55, 56, 57, 58, 59, 60, 61, 62, 63, 64, 65, 66, 67, 68, 69, 70, 71, 72, 73, 74, 75, 76, 77, 78, 79, 80, 81, 82, 83, 84, 85, 86, 87, 88, 89, 90, 91, 92, 93, 94, 95, 96, 97, 98, 99, 100, 101, 102, 103, 104, 105, 106, 107] (by decide +kernel) (by decide +kernel)
set_option maxRecDepth 20000 in
theorem gX13_polishesAll_X13_polishes : GoodIn wsX13_polishesAll (wsV RX13 402 RX13 yX13_polishes wsX13_polishes) := goodIn_app (goodIn_of _ (by decide +kernel)) ggX13_polishesAll_X13_polishes
theorem dX13_polishesAll_0 : decode cX13_polishesAll 0 = .ok (.iconst 0, 1) := by decide +kernel
theorem dX13_polishesAll_1 : decode cX13_polishesAll 1 = .ok (.istore_n 1, 1) := by decide +kernel
theorem dX13_polishesAll_2 : decode cX13_polishesAll 2 = .ok (.iload_n 1, 1) := by decide +kernel
theorem dX13_polishesAll_3 : decode cX13_polishesAll 3 = .ok (.aload_n 0, 1) := by decide +kernel
theorem dX13_polishesAll_4 : decode cX13_polishesAll 4 = .ok (.invokevirtual 251, 3) := by decide +kernel
theorem dX13_polishesAll_7 : decode cX13_polishesAll 7 = .ok (.if_icmp .ge 29, 3) := by decide +kernel
theorem dX13_polishesAll_10 : decode cX13_polishesAll 10 = .ok (.aload_n 0, 1) := by decide +kernel
theorem dX13_polishesAll_11 : decode cX13_polishesAll 11 = .ok (.iload_n 1, 1) := by decide +kernel
theorem dX13_polishesAll_12 : decode cX13_polishesAll 12 = .ok (.aload_n 0, 1) := by decide +kernel
theorem dX13_polishesAll_13 : decode cX13_polishesAll 13 = .ok (.getfield 20, 3) := by decide +kernel
theorem dX13_polishesAll_16 : decode cX13_polishesAll 16 = .ok (.iconst 0, 1) := by decide +kernel
theorem dX13_polishesAll_17 : decode cX13_polishesAll 17 = .ok (.iaload, 1) := by decide +kernel
theorem dX13_polishesAll_18 : decode cX13_polishesAll 18 = .ok (.irem, 1) := by decide +kernel
theorem dX13_polishesAll_19 : decode cX13_polishesAll 19 = .ok (.iload_n 1, 1) := by decide +kernel
theorem dX13_polishesAll_20 : decode cX13_polishesAll 20 = .ok (.aload_n 0, 1) := by decide +kernel
theorem dX13_polishesAll_21 : decode cX13_polishesAll 21 = .ok (.getfield 20, 3) := by decide +kernel
theorem dX13_polishesAll_24 : decode cX13_polishesAll 24 = .ok (.iconst 0, 1) := by decide +kernel
theorem dX13_polishesAll_25 : decode cX13_polishesAll 25 = .ok (.iaload, 1) := by decide +kernel
theorem dX13_polishesAll_26 : decode cX13_polishesAll 26 = .ok (.idiv, 1) := by decide +kernel
theorem dX13_polishesAll_27 : decode cX13_polishesAll 27 = .ok (.invokevirtual 402, 3) := by decide +kernel
theorem dX13_polishesAll_30 : decode cX13_polishesAll 30 = .ok (.iinc 1 1, 3) := by decide +kernel
theorem dX13_polishesAll_33 : decode cX13_polishesAll 33 = .ok (.goto (-31), 3) := by decide +kernel
theorem dX13_polishesAll_36 : decode cX13_polishesAll 36 = .ok (.return_, 1) := by decide +kernel
set_option maxRecDepth 20000 in
theorem ggX13_polish_X13_laysAside : GoodIn wsX13_polish wsX13_laysAside := goodIn_r _ [6, 7, 8, 9, 10, 80, 81, 82, 83, 84, 85, 86, 87, 88, 89, 90, 91, 92, 93, 94, 95, 96, 97, 98, 99, 100, 101, 102, 103, 104, 105, 106, 107, 108, 109, 110, 111, 112, 113, 114, 115, 116, 117, 118, 119, 120, 121, 122, 123, 124, 125, 126, 127] (by decide +kernel) (by decide +kernel)
set_option maxRecDepth 20000 in
theorem gX13_polish_X13_laysAside : GoodIn wsX13_polish (wsV RX13 314 RX13 yX13_laysAside wsX13_laysAside) := goodIn_app (goodIn_of _ (by decide +kernel)) ggX13_polish_X13_laysAside
set_option maxRecDepth 20000 in
theorem ggX13_polish_X13_polishesAll : GoodIn wsX13_polish wsX13_polishesAll := goodIn_r _ [14, 15, 16, 17, 18, 5, 19, 20, 21, 22, 23, 8, 24, 25, 26, 27, 28, 29, 30, 31, 32, 33, 34, 35, 36, 37, 38, 39, 40, 41, 42, 43, 44, 45, 46, 47, 48, 10, 49, 50, 51, 52, 53, 54, 55, 56, 57, 58, 59, 60, 61, 62, 63, 64, 65, 66, 67, 68, 69, 70, 80, 81, 82, 83, 84, 85, 86, 87, 88, 89, 90, 91, 92, 93, 94, 95, 96, 97, 98, 99, 100, 101, 102, 103, 104, 105, 106, 107, 108, 109, 110, 111, 112, 113, 114, 115, 116, 117, 118, 119, 120, 121, 122, 123, 124, 125, 126, 127] (by decide +kernel) (by decide +kernel)
set_option maxRecDepth 20000 in
theorem gX13_polish_X13_polishesAll : GoodIn wsX13_polish (wsV RX13 406 RX13 yX13_polishesAll wsX13_polishesAll) := goodIn_app (goodIn_of _ (by decide +kernel)) ggX13_polish_X13_polishesAll
set_option maxRecDepth 20000 in
theorem ggX13_polish_X13_keeps : GoodIn wsX13_polish wsX13_keeps := goodIn_r _ [74, 8, 7, 10, 9, 75, 76, 77, 78, 5, 79, 80, 81, 82, 83, 84, 85, 86, 87, 88, 89, 90, 91, 92, 93, 94, 95, 96, 97, 98, 99, 100, 101, 102, 103, 104, 105, 106, 107, 108, 109, 110, 111, 112, 113, 114, 115, 116, 117, 118, 119, 120, 121, 122, 123, 124, 125, 126, 127] (by decide +kernel) (by decide +kernel)
set_option maxRecDepth 20000 in
theorem gX13_polish_X13_keeps : GoodIn wsX13_polish (wsV RX13 368 RX13 yX13_keeps wsX13_keeps) := goodIn_app (goodIn_of _ (by decide +kernel)) ggX13_polish_X13_keeps
theorem dX13_polish_0 : decode cX13_polish 0 = .ok (.aload_n 0, 1) := by decide +kernel
theorem dX13_polish_1 : decode cX13_polish 1 = .ok (.iconst 0, 1) := by decide +kernel
theorem dX13_polish_2 : decode cX13_polish 2 = .ok (.putfield 93, 3) := by decide +kernel
theorem dX13_polish_5 : decode cX13_polish 5 = .ok (.aload_n 0, 1) := by decide +kernel
theorem dX13_polish_6 : decode cX13_polish 6 = .ok (.invokevirtual 314, 3) := by decide +kernel
theorem dX13_polish_9 : decode cX13_polish 9 = .ok (.aload_n 0, 1) := by decide +kernel
theorem dX13_polish_10 : decode cX13_polish 10 = .ok (.invokevirtual 406, 3) := by decide +kernel
theorem dX13_polish_13 : decode cX13_polish 13 = .ok (.aload_n 0, 1) := by decide +kernel
theorem dX13_polish_14 : decode cX13_polish 14 = .ok (.invokevirtual 368, 3) := by decide +kernel
theorem dX13_polish_17 : decode cX13_polish 17 = .ok (.ireturn, 1) := by decide +kernel
set_option maxRecDepth 20000 in
theorem ggX13_retones_X13_cellMany : GoodIn wsX13_retones wsX13_cellMany := goodIn_r _ [6, 7, 33, 34, 35, 36, 37, 38, 39, 40, 41, 42, 43, 44, 45, 46, 47, 48, 49, 50, 51, 52, 53, 54, 55, 56, 57, 58, 59, 60, 61, 62, 63, 64, 65, 66, 67, 68, 69, 70, 71, 72, 73, 74, 75, 76, 77, 78, 79, 80] (by decide +kernel) (by decide +kernel)
set_option maxRecDepth 20000 in
theorem gX13_retones_X13_cellMany : GoodIn wsX13_retones (wsV RX13 251 RX13 yX13_cellMany wsX13_cellMany) := goodIn_app (goodIn_of _ (by decide +kernel)) ggX13_retones_X13_cellMany
set_option maxRecDepth 20000 in
theorem ggX13_retones_X13_cellAt : GoodIn wsX13_retones wsX13_cellAt := goodIn_r _ [11, 7, 33, 34, 35, 36, 37, 38, 39, 40, 41, 42, 43, 44, 45, 46, 47, 48, 49, 50, 51, 52, 53, 54, 55, 56, 57, 58, 59, 60, 61, 62, 63, 64, 65, 66, 67, 68, 69, 70, 71, 72, 73, 74, 75, 76, 77, 78, 79, 80] (by decide +kernel) (by decide +kernel)
set_option maxRecDepth 20000 in
theorem gX13_retones_X13_cellAt : GoodIn wsX13_retones (wsV RX13 255 RX13 yX13_cellAt wsX13_cellAt) := goodIn_app (goodIn_of _ (by decide +kernel)) ggX13_retones_X13_cellAt
set_option maxRecDepth 20000 in
theorem ggX13_retones_X13_tones : GoodIn wsX13_retones wsX13_tones := goodIn_r _ [15, 1, 16, 17, 18, 5, 19, 20, 21, 22, 23, 24, 7, 25, 26, 27, 28, 29, 30, 31, 32, 33, 34, 35, 36, 37, 38, 39, 40, 41, 42, 43, 44, 45, 46, 47, 48, 49, 50, 51, 52, 53, 54, 55, 56, 57, 58, 59, 60, 61, 62, 63, 64, 65, 66, 67, 68, 69, 70, 71, 72, 73, 74, 75, 76, 77, 78, 79, 80] (by decide +kernel) (by decide +kernel)
set_option maxRecDepth 20000 in
theorem gX13_retones_X13_tones : GoodIn wsX13_retones (wsV RX13 365 RX13 yX13_tones wsX13_tones) := goodIn_app (goodIn_of _ (by decide +kernel)) ggX13_retones_X13_tones
theorem dX13_retones_0 : decode cX13_retones 0 = .ok (.iconst 0, 1) := by decide +kernel
theorem dX13_retones_1 : decode cX13_retones 1 = .ok (.istore_n 3, 1) := by decide +kernel
theorem dX13_retones_2 : decode cX13_retones 2 = .ok (.iload_n 3, 1) := by decide +kernel
theorem dX13_retones_3 : decode cX13_retones 3 = .ok (.aload_n 0, 1) := by decide +kernel
theorem dX13_retones_4 : decode cX13_retones 4 = .ok (.invokevirtual 251, 3) := by decide +kernel
theorem dX13_retones_7 : decode cX13_retones 7 = .ok (.if_icmp .ge 68, 3) := by decide +kernel
theorem dX13_retones_10 : decode cX13_retones 10 = .ok (.aload_n 0, 1) := by decide +kernel
theorem dX13_retones_11 : decode cX13_retones 11 = .ok (.iload_n 3, 1) := by decide +kernel
theorem dX13_retones_12 : decode cX13_retones 12 = .ok (.invokevirtual 255, 3) := by decide +kernel
theorem dX13_retones_15 : decode cX13_retones 15 = .ok (.istore 4, 2) := by decide +kernel
theorem dX13_retones_17 : decode cX13_retones 17 = .ok (.iload_n 1, 1) := by decide +kernel
theorem dX13_retones_18 : decode cX13_retones 18 = .ok (.aload_n 0, 1) := by decide +kernel
theorem dX13_retones_19 : decode cX13_retones 19 = .ok (.getfield 26, 3) := by decide +kernel
theorem dX13_retones_22 : decode cX13_retones 22 = .ok (.iload 4, 2) := by decide +kernel
theorem dX13_retones_24 : decode cX13_retones 24 = .ok (.iaload, 1) := by decide +kernel
theorem dX13_retones_25 : decode cX13_retones 25 = .ok (.imul, 1) := by decide +kernel
theorem dX13_retones_26 : decode cX13_retones 26 = .ok (.iload_n 2, 1) := by decide +kernel
theorem dX13_retones_27 : decode cX13_retones 27 = .ok (.iadd, 1) := by decide +kernel
theorem dX13_retones_28 : decode cX13_retones 28 = .ok (.istore 5, 2) := by decide +kernel
theorem dX13_retones_30 : decode cX13_retones 30 = .ok (.aload_n 0, 1) := by decide +kernel
theorem dX13_retones_31 : decode cX13_retones 31 = .ok (.iload 4, 2) := by decide +kernel
theorem dX13_retones_33 : decode cX13_retones 33 = .ok (.bipush 16, 2) := by decide +kernel
theorem dX13_retones_35 : decode cX13_retones 35 = .ok (.irem, 1) := by decide +kernel
theorem dX13_retones_36 : decode cX13_retones 36 = .ok (.iload 4, 2) := by decide +kernel
theorem dX13_retones_38 : decode cX13_retones 38 = .ok (.bipush 16, 2) := by decide +kernel
theorem dX13_retones_40 : decode cX13_retones 40 = .ok (.idiv, 1) := by decide +kernel
theorem dX13_retones_41 : decode cX13_retones 41 = .ok (.iload 5, 2) := by decide +kernel
theorem dX13_retones_43 : decode cX13_retones 43 = .ok (.ifCond .ge 7, 3) := by decide +kernel
theorem dX13_retones_46 : decode cX13_retones 46 = .ok (.iconst 0, 1) := by decide +kernel
theorem dX13_retones_47 : decode cX13_retones 47 = .ok (.goto 19, 3) := by decide +kernel
theorem dX13_retones_50 : decode cX13_retones 50 = .ok (.iload 5, 2) := by decide +kernel
theorem dX13_retones_52 : decode cX13_retones 52 = .ok (.sipush 255, 3) := by decide +kernel
theorem dX13_retones_55 : decode cX13_retones 55 = .ok (.if_icmp .le 9, 3) := by decide +kernel
theorem dX13_retones_58 : decode cX13_retones 58 = .ok (.sipush 255, 3) := by decide +kernel
theorem dX13_retones_61 : decode cX13_retones 61 = .ok (.goto 5, 3) := by decide +kernel
theorem dX13_retones_64 : decode cX13_retones 64 = .ok (.iload 5, 2) := by decide +kernel
theorem dX13_retones_66 : decode cX13_retones 66 = .ok (.invokevirtual 365, 3) := by decide +kernel
theorem dX13_retones_69 : decode cX13_retones 69 = .ok (.iinc 3 1, 3) := by decide +kernel
theorem dX13_retones_72 : decode cX13_retones 72 = .ok (.goto (-70), 3) := by decide +kernel
theorem dX13_retones_75 : decode cX13_retones 75 = .ok (.return_, 1) := by decide +kernel
set_option maxRecDepth 20000 in
theorem ggX13_invert_X13_laysAside : GoodIn wsX13_invert wsX13_laysAside := goodIn_r _ [6, 7, 8, 9, 10, 53, 54, 55, 56, 57, 58, 59, 60, 61, 62, 63, 64, 65, 66, 67, 68, 69, 70, 71, 72, 73, 74, 75, 76, 77, 78, 79, 80, 81, 82, 83, 84, 85, 86, 87, 88, 89, 90, 91, 92, 93, 94, 95, 96, 97, 98, 99, 100] (by decide +kernel) (by decide +kernel)
set_option maxRecDepth 20000 in
theorem gX13_invert_X13_laysAside : GoodIn wsX13_invert (wsV RX13 314 RX13 yX13_laysAside wsX13_laysAside) := goodIn_app (goodIn_of _ (by decide +kernel)) ggX13_invert_X13_laysAside
set_option maxRecDepth 20000 in
theorem ggX13_invert_X13_retones : GoodIn wsX13_invert wsX13_retones := goodIn_r _ [14, 10, 15, 16, 17, 5, 18, 19, 20, 21, 22, 23, 24, 25, 26, 27, 8, 28, 29, 30, 31, 32, 33, 34, 35, 36, 37, 38, 39, 40, 41, 42, 43, 53, 54, 55, 56, 57, 58, 59, 60, 61, 62, 63, 64, 65, 66, 67, 68, 69, 70, 71, 72, 73, 74, 75, 76, 77, 78, 79, 80, 81, 82, 83, 84, 85, 86, 87, 88, 89, 90, 91, 92, 93, 94, 95, 96, 97, 98, 99, 100] (by decide +kernel) (by decide +kernel)
set_option maxRecDepth 20000 in
theorem gX13_invert_X13_retones : GoodIn wsX13_invert (wsV RX13 409 RX13 yX13_retones wsX13_retones) := goodIn_app (goodIn_of _ (by decide +kernel)) ggX13_invert_X13_retones
set_option maxRecDepth 20000 in
theorem ggX13_invert_X13_keeps : GoodIn wsX13_invert wsX13_keeps := goodIn_r _ [47, 8, 7, 10, 9, 48, 49, 50, 51, 5, 52, 53, 54, 55, 56, 57, 58, 59, 60, 61, 62, 63, 64, 65, 66, 67, 68, 69, 70, 71, 72, 73, 74, 75, 76, 77, 78, 79, 80, 81, 82, 83, 84, 85, 86, 87, 88, 89, 90, 91, 92, 93, 94, 95, 96, 97, 98, 99, 100] (by decide +kernel) (by decide +kernel)
set_option maxRecDepth 20000 in
theorem gX13_invert_X13_keeps : GoodIn wsX13_invert (wsV RX13 368 RX13 yX13_keeps wsX13_keeps) := goodIn_app (goodIn_of _ (by decide +kernel)) ggX13_invert_X13_keeps
theorem dX13_invert_0 : decode cX13_invert 0 = .ok (.aload_n 0, 1) := by decide +kernel
theorem dX13_invert_1 : decode cX13_invert 1 = .ok (.iconst 0, 1) := by decide +kernel
theorem dX13_invert_2 : decode cX13_invert 2 = .ok (.putfield 93, 3) := by decide +kernel
theorem dX13_invert_5 : decode cX13_invert 5 = .ok (.aload_n 0, 1) := by decide +kernel
theorem dX13_invert_6 : decode cX13_invert 6 = .ok (.invokevirtual 314, 3) := by decide +kernel
theorem dX13_invert_9 : decode cX13_invert 9 = .ok (.aload_n 0, 1) := by decide +kernel
theorem dX13_invert_10 : decode cX13_invert 10 = .ok (.iconst (-1), 1) := by decide +kernel
theorem dX13_invert_11 : decode cX13_invert 11 = .ok (.sipush 255, 3) := by decide +kernel
theorem dX13_invert_14 : decode cX13_invert 14 = .ok (.invokevirtual 409, 3) := by decide +kernel
theorem dX13_invert_17 : decode cX13_invert 17 = .ok (.aload_n 0, 1) := by decide +kernel
theorem dX13_invert_18 : decode cX13_invert 18 = .ok (.invokevirtual 368, 3) := by decide +kernel
theorem dX13_invert_21 : decode cX13_invert 21 = .ok (.ireturn, 1) := by decide +kernel
set_option maxRecDepth 20000 in
theorem ggX13_lighten_X13_isIn : GoodIn wsX13_lighten wsX13_isIn := goodIn_r _ [6] (by decide +kernel) (by decide +kernel)
set_option maxRecDepth 20000 in
theorem gX13_lighten_X13_isIn : GoodIn wsX13_lighten (va_wsS RX13 111 yX13_isIn wsX13_isIn) := goodIn_app (goodIn_of _ (by decide +kernel)) ggX13_lighten_X13_isIn
set_option maxRecDepth 20000 in
theorem ggX13_lighten_X13_goes : GoodIn wsX13_lighten wsX13_goes := goodIn_r _ [10, 11, 12, 13, 5, 14, 62, 63, 64, 65, 66, 67, 68, 69, 70, 71, 72, 73, 74, 75, 76, 77, 78, 79, 80, 81, 82, 83, 84, 85, 86, 87, 88, 89, 90, 91, 92, 93, 94, 95, 96, 97, 98, 99, 100, 101, 102, 103, 104, 105, 106, 107, 108, 109] (by decide +kernel) (by decide +kernel)
set_option maxRecDepth 20000 in
theorem gX13_lighten_X13_goes : GoodIn wsX13_lighten (wsV RX13 103 RX13 yX13_goes wsX13_goes) := goodIn_app (goodIn_of _ (by decide +kernel)) ggX13_lighten_X13_goes
set_option maxRecDepth 20000 in
theorem ggX13_lighten_X13_laysAside : GoodIn wsX13_lighten wsX13_laysAside := goodIn_r _ [18, 19, 20, 21, 22, 62, 63, 64, 65, 66, 67, 68, 69, 70, 71, 72, 73, 74, 75, 76, 77, 78, 79, 80, 81, 82, 83, 84, 85, 86, 87, 88, 89, 90, 91, 92, 93, 94, 95, 96, 97, 98, 99, 100, 101, 102, 103, 104, 105, 106, 107, 108, 109] (by decide +kernel) (by decide +kernel)
set_option maxRecDepth 20000 in
theorem gX13_lighten_X13_laysAside : GoodIn wsX13_lighten (wsV RX13 314 RX13 yX13_laysAside wsX13_laysAside) := goodIn_app (goodIn_of _ (by decide +kernel)) ggX13_lighten_X13_laysAside
set_option maxRecDepth 20000 in
theorem ggX13_lighten_X13_retones : GoodIn wsX13_lighten wsX13_retones := goodIn_r _ [26, 22, 27, 28, 29, 5, 30, 31, 32, 33, 34, 35, 36, 37, 38, 39, 20, 40, 41, 42, 43, 44, 45, 46, 47, 48, 49, 50, 51, 52, 53, 54, 55, 62, 63, 64, 65, 66, 67, 68, 69, 70, 71, 72, 73, 74, 75, 76, 77, 78, 79, 80, 81, 82, 83, 84, 85, 86, 87, 88, 89, 90, 91, 92, 93, 94, 95, 96, 97, 98, 99, 100, 101, 102, 103, 104, 105, 106, 107, 108, 109] (by decide +kernel) (by decide +kernel)
set_option maxRecDepth 20000 in
theorem gX13_lighten_X13_retones : GoodIn wsX13_lighten (wsV RX13 409 RX13 yX13_retones wsX13_retones) := goodIn_app (goodIn_of _ (by decide +kernel)) ggX13_lighten_X13_retones
set_option maxRecDepth 20000 in
theorem ggX13_lighten_X13_keeps : GoodIn wsX13_lighten wsX13_keeps := goodIn_r _ [59, 20, 19, 22, 21, 60, 61, 12, 13, 5, 14, 62, 63, 64, 65, 66, 67, 68, 69, 70, 71, 72, 73, 74, 75, 76, 77, 78, 79, 80, 81, 82, 83, 84, 85, 86, 87, 88, 89, 90, 91, 92, 93, 94, 95, 96, 97, 98, 99, 100, 101, 102, 103, 104, 105, 106, 107, 108, 109] (by decide +kernel) (by decide +kernel)
set_option maxRecDepth 20000 in
theorem gX13_lighten_X13_keeps : GoodIn wsX13_lighten (wsV RX13 368 RX13 yX13_keeps wsX13_keeps) := goodIn_app (goodIn_of _ (by decide +kernel)) ggX13_lighten_X13_keeps
theorem dX13_lighten_0 : decode cX13_lighten 0 = .ok (.aload_n 0, 1) := by decide +kernel
theorem dX13_lighten_1 : decode cX13_lighten 1 = .ok (.iload_n 1, 1) := by decide +kernel
theorem dX13_lighten_2 : decode cX13_lighten 2 = .ok (.i2l, 1) := by decide +kernel
theorem dX13_lighten_3 : decode cX13_lighten 3 = .ok (.ldc2_w 412, 3) := by decide +kernel
theorem dX13_lighten_6 : decode cX13_lighten 6 = .ok (.ldc2_w 276, 3) := by decide +kernel
theorem dX13_lighten_9 : decode cX13_lighten 9 = .ok (.invokestatic 111, 3) := by decide +kernel
theorem dX13_lighten_12 : decode cX13_lighten 12 = .ok (.invokevirtual 103, 3) := by decide +kernel
theorem dX13_lighten_15 : decode cX13_lighten 15 = .ok (.ifCond .ne 5, 3) := by decide +kernel
theorem dX13_lighten_18 : decode cX13_lighten 18 = .ok (.iconst 0, 1) := by decide +kernel
theorem dX13_lighten_19 : decode cX13_lighten 19 = .ok (.ireturn, 1) := by decide +kernel
theorem dX13_lighten_20 : decode cX13_lighten 20 = .ok (.aload_n 0, 1) := by decide +kernel
theorem dX13_lighten_21 : decode cX13_lighten 21 = .ok (.invokevirtual 314, 3) := by decide +kernel
theorem dX13_lighten_24 : decode cX13_lighten 24 = .ok (.aload_n 0, 1) := by decide +kernel
theorem dX13_lighten_25 : decode cX13_lighten 25 = .ok (.iconst 1, 1) := by decide +kernel
theorem dX13_lighten_26 : decode cX13_lighten 26 = .ok (.iload_n 1, 1) := by decide +kernel
theorem dX13_lighten_27 : decode cX13_lighten 27 = .ok (.invokevirtual 409, 3) := by decide +kernel
theorem dX13_lighten_30 : decode cX13_lighten 30 = .ok (.aload_n 0, 1) := by decide +kernel
theorem dX13_lighten_31 : decode cX13_lighten 31 = .ok (.invokevirtual 368, 3) := by decide +kernel
theorem dX13_lighten_34 : decode cX13_lighten 34 = .ok (.ireturn, 1) := by decide +kernel
theorem dX13_mirrors_0 : decode cX13_mirrors 0 = .ok (.iconst 0, 1) := by decide +kernel
theorem dX13_mirrors_1 : decode cX13_mirrors 1 = .ok (.istore_n 1, 1) := by decide +kernel
theorem dX13_mirrors_2 : decode cX13_mirrors 2 = .ok (.iload_n 1, 1) := by decide +kernel
theorem dX13_mirrors_3 : decode cX13_mirrors 3 = .ok (.aload_n 0, 1) := by decide +kernel
theorem dX13_mirrors_4 : decode cX13_mirrors 4 = .ok (.getfield 20, 3) := by decide +kernel
theorem dX13_mirrors_7 : decode cX13_mirrors 7 = .ok (.iconst 1, 1) := by decide +kernel
theorem dX13_mirrors_8 : decode cX13_mirrors 8 = .ok (.iaload, 1) := by decide +kernel
theorem dX13_mirrors_9 : decode cX13_mirrors 9 = .ok (.if_icmp .ge 113, 3) := by decide +kernel
theorem dX13_mirrors_12 : decode cX13_mirrors 12 = .ok (.iconst 0, 1) := by decide +kernel
theorem dX13_mirrors_13 : decode cX13_mirrors 13 = .ok (.istore_n 2, 1) := by decide +kernel
theorem dX13_mirrors_14 : decode cX13_mirrors 14 = .ok (.iconst 2, 1) := by decide +kernel
theorem dX13_mirrors_15 : decode cX13_mirrors 15 = .ok (.iload_n 2, 1) := by decide +kernel
theorem dX13_mirrors_16 : decode cX13_mirrors 16 = .ok (.imul, 1) := by decide +kernel
theorem dX13_mirrors_17 : decode cX13_mirrors 17 = .ok (.aload_n 0, 1) := by decide +kernel
theorem dX13_mirrors_18 : decode cX13_mirrors 18 = .ok (.getfield 20, 3) := by decide +kernel
theorem dX13_mirrors_21 : decode cX13_mirrors 21 = .ok (.iconst 0, 1) := by decide +kernel
theorem dX13_mirrors_22 : decode cX13_mirrors 22 = .ok (.iaload, 1) := by decide +kernel
theorem dX13_mirrors_23 : decode cX13_mirrors 23 = .ok (.if_icmp .ge 93, 3) := by decide +kernel
theorem dX13_mirrors_26 : decode cX13_mirrors 26 = .ok (.bipush 16, 2) := by decide +kernel
theorem dX13_mirrors_28 : decode cX13_mirrors 28 = .ok (.iload_n 1, 1) := by decide +kernel
theorem dX13_mirrors_29 : decode cX13_mirrors 29 = .ok (.imul, 1) := by decide +kernel
theorem dX13_mirrors_30 : decode cX13_mirrors 30 = .ok (.iload_n 2, 1) := by decide +kernel
theorem dX13_mirrors_31 : decode cX13_mirrors 31 = .ok (.iadd, 1) := by decide +kernel
theorem dX13_mirrors_32 : decode cX13_mirrors 32 = .ok (.istore_n 3, 1) := by decide +kernel
theorem dX13_mirrors_33 : decode cX13_mirrors 33 = .ok (.bipush 16, 2) := by decide +kernel
theorem dX13_mirrors_35 : decode cX13_mirrors 35 = .ok (.iload_n 1, 1) := by decide +kernel
theorem dX13_mirrors_36 : decode cX13_mirrors 36 = .ok (.imul, 1) := by decide +kernel
theorem dX13_mirrors_37 : decode cX13_mirrors 37 = .ok (.aload_n 0, 1) := by decide +kernel
theorem dX13_mirrors_38 : decode cX13_mirrors 38 = .ok (.getfield 20, 3) := by decide +kernel
theorem dX13_mirrors_41 : decode cX13_mirrors 41 = .ok (.iconst 0, 1) := by decide +kernel
theorem dX13_mirrors_42 : decode cX13_mirrors 42 = .ok (.iaload, 1) := by decide +kernel
theorem dX13_mirrors_43 : decode cX13_mirrors 43 = .ok (.iadd, 1) := by decide +kernel
theorem dX13_mirrors_44 : decode cX13_mirrors 44 = .ok (.iconst 1, 1) := by decide +kernel
theorem dX13_mirrors_45 : decode cX13_mirrors 45 = .ok (.isub, 1) := by decide +kernel
theorem dX13_mirrors_46 : decode cX13_mirrors 46 = .ok (.iload_n 2, 1) := by decide +kernel
theorem dX13_mirrors_47 : decode cX13_mirrors 47 = .ok (.isub, 1) := by decide +kernel
theorem dX13_mirrors_48 : decode cX13_mirrors 48 = .ok (.istore 4, 2) := by decide +kernel
theorem dX13_mirrors_50 : decode cX13_mirrors 50 = .ok (.aload_n 0, 1) := by decide +kernel
theorem dX13_mirrors_51 : decode cX13_mirrors 51 = .ok (.getfield 29, 3) := by decide +kernel
theorem dX13_mirrors_54 : decode cX13_mirrors 54 = .ok (.iload_n 3, 1) := by decide +kernel
theorem dX13_mirrors_55 : decode cX13_mirrors 55 = .ok (.iaload, 1) := by decide +kernel
theorem dX13_mirrors_56 : decode cX13_mirrors 56 = .ok (.istore 5, 2) := by decide +kernel
theorem dX13_mirrors_58 : decode cX13_mirrors 58 = .ok (.aload_n 0, 1) := by decide +kernel
theorem dX13_mirrors_59 : decode cX13_mirrors 59 = .ok (.getfield 26, 3) := by decide +kernel
theorem dX13_mirrors_62 : decode cX13_mirrors 62 = .ok (.iload_n 3, 1) := by decide +kernel
theorem dX13_mirrors_63 : decode cX13_mirrors 63 = .ok (.iaload, 1) := by decide +kernel
theorem dX13_mirrors_64 : decode cX13_mirrors 64 = .ok (.istore 6, 2) := by decide +kernel
theorem dX13_mirrors_66 : decode cX13_mirrors 66 = .ok (.aload_n 0, 1) := by decide +kernel
theorem dX13_mirrors_67 : decode cX13_mirrors 67 = .ok (.getfield 29, 3) := by decide +kernel
theorem dX13_mirrors_70 : decode cX13_mirrors 70 = .ok (.iload_n 3, 1) := by decide +kernel
theorem dX13_mirrors_71 : decode cX13_mirrors 71 = .ok (.aload_n 0, 1) := by decide +kernel
theorem dX13_mirrors_72 : decode cX13_mirrors 72 = .ok (.getfield 29, 3) := by decide +kernel
theorem dX13_mirrors_75 : decode cX13_mirrors 75 = .ok (.iload 4, 2) := by decide +kernel
theorem dX13_mirrors_77 : decode cX13_mirrors 77 = .ok (.iaload, 1) := by decide +kernel
theorem dX13_mirrors_78 : decode cX13_mirrors 78 = .ok (.iastore, 1) := by decide +kernel
theorem dX13_mirrors_79 : decode cX13_mirrors 79 = .ok (.aload_n 0, 1) := by decide +kernel
theorem dX13_mirrors_80 : decode cX13_mirrors 80 = .ok (.getfield 26, 3) := by decide +kernel
theorem dX13_mirrors_83 : decode cX13_mirrors 83 = .ok (.iload_n 3, 1) := by decide +kernel
theorem dX13_mirrors_84 : decode cX13_mirrors 84 = .ok (.aload_n 0, 1) := by decide +kernel
theorem dX13_mirrors_85 : decode cX13_mirrors 85 = .ok (.getfield 26, 3) := by decide +kernel
theorem dX13_mirrors_88 : decode cX13_mirrors 88 = .ok (.iload 4, 2) := by decide +kernel
theorem dX13_mirrors_90 : decode cX13_mirrors 90 = .ok (.iaload, 1) := by decide +kernel
theorem dX13_mirrors_91 : decode cX13_mirrors 91 = .ok (.iastore, 1) := by decide +kernel
theorem dX13_mirrors_92 : decode cX13_mirrors 92 = .ok (.aload_n 0, 1) := by decide +kernel
theorem dX13_mirrors_93 : decode cX13_mirrors 93 = .ok (.getfield 29, 3) := by decide +kernel
theorem dX13_mirrors_96 : decode cX13_mirrors 96 = .ok (.iload 4, 2) := by decide +kernel
theorem dX13_mirrors_98 : decode cX13_mirrors 98 = .ok (.iload 5, 2) := by decide +kernel
theorem dX13_mirrors_100 : decode cX13_mirrors 100 = .ok (.iastore, 1) := by decide +kernel
theorem dX13_mirrors_101 : decode cX13_mirrors 101 = .ok (.aload_n 0, 1) := by decide +kernel
theorem dX13_mirrors_102 : decode cX13_mirrors 102 = .ok (.getfield 26, 3) := by decide +kernel
theorem dX13_mirrors_105 : decode cX13_mirrors 105 = .ok (.iload 4, 2) := by decide +kernel
theorem dX13_mirrors_107 : decode cX13_mirrors 107 = .ok (.iload 6, 2) := by decide +kernel
theorem dX13_mirrors_109 : decode cX13_mirrors 109 = .ok (.iastore, 1) := by decide +kernel
theorem dX13_mirrors_110 : decode cX13_mirrors 110 = .ok (.iinc 2 1, 3) := by decide +kernel
theorem dX13_mirrors_113 : decode cX13_mirrors 113 = .ok (.goto (-99), 3) := by decide +kernel
theorem dX13_mirrors_116 : decode cX13_mirrors 116 = .ok (.iinc 1 1, 3) := by decide +kernel
theorem dX13_mirrors_119 : decode cX13_mirrors 119 = .ok (.goto (-117), 3) := by decide +kernel
theorem dX13_mirrors_122 : decode cX13_mirrors 122 = .ok (.return_, 1) := by decide +kernel
set_option maxRecDepth 20000 in
theorem ggX13_mirror_X13_laysAside : GoodIn wsX13_mirror wsX13_laysAside := goodIn_r _ [6, 7, 8, 9, 10, 25, 26, 27, 28, 29, 30, 31, 32, 33, 34, 35, 36, 37, 38, 39, 40, 41, 42, 43, 44, 45, 46, 47, 48, 49, 50, 51, 52, 53, 54, 55, 56, 57, 58, 59, 60, 61, 62, 63, 64, 65, 66, 67, 68, 69, 70, 71, 72] (by decide +kernel) (by decide +kernel)
set_option maxRecDepth 20000 in
theorem gX13_mirror_X13_laysAside : GoodIn wsX13_mirror (wsV RX13 314 RX13 yX13_laysAside wsX13_laysAside) := goodIn_app (goodIn_of _ (by decide +kernel)) ggX13_mirror_X13_laysAside
set_option maxRecDepth 20000 in
theorem ggX13_mirror_X13_mirrors : GoodIn wsX13_mirror wsX13_mirrors := goodIn_r _ [14, 15, 8, 10, 25, 26, 27, 28, 29, 30, 31, 32, 33, 34, 35, 36, 37, 38, 39, 40, 41, 42, 43, 44, 45, 46, 47, 48, 49, 50, 51, 52, 53, 54, 55, 56, 57, 58, 59, 60, 61, 62, 63, 64, 65, 66, 67, 68, 69, 70, 71, 72] (by decide +kernel) (by decide +kernel)
set_option maxRecDepth 20000 in
theorem gX13_mirror_X13_mirrors : GoodIn wsX13_mirror (wsV RX13 414 RX13 yX13_mirrors wsX13_mirrors) := goodIn_app (goodIn_of _ (by decide +kernel)) ggX13_mirror_X13_mirrors
set_option maxRecDepth 20000 in
theorem ggX13_mirror_X13_keeps : GoodIn wsX13_mirror wsX13_keeps := goodIn_r _ [19, 8, 7, 10, 9, 20, 21, 22, 23, 5, 24, 25, 26, 27, 28, 29, 30, 31, 32, 33, 34, 35, 36, 37, 38, 39, 40, 41, 42, 43, 44, 45, 46, 47, 48, 49, 50, 51, 52, 53, 54, 55, 56, 57, 58, 59, 60, 61, 62, 63, 64, 65, 66, 67, 68, 69, 70, 71, 72] (by decide +kernel) (by decide +kernel)
set_option maxRecDepth 20000 in
theorem gX13_mirror_X13_keeps : GoodIn wsX13_mirror (wsV RX13 368 RX13 yX13_keeps wsX13_keeps) := goodIn_app (goodIn_of _ (by decide +kernel)) ggX13_mirror_X13_keeps
theorem dX13_mirror_0 : decode cX13_mirror 0 = .ok (.aload_n 0, 1) := by decide +kernel
theorem dX13_mirror_1 : decode cX13_mirror 1 = .ok (.iconst 0, 1) := by decide +kernel
theorem dX13_mirror_2 : decode cX13_mirror 2 = .ok (.putfield 93, 3) := by decide +kernel
theorem dX13_mirror_5 : decode cX13_mirror 5 = .ok (.aload_n 0, 1) := by decide +kernel
theorem dX13_mirror_6 : decode cX13_mirror 6 = .ok (.invokevirtual 314, 3) := by decide +kernel
theorem dX13_mirror_9 : decode cX13_mirror 9 = .ok (.aload_n 0, 1) := by decide +kernel
theorem dX13_mirror_10 : decode cX13_mirror 10 = .ok (.invokevirtual 414, 3) := by decide +kernel
theorem dX13_mirror_13 : decode cX13_mirror 13 = .ok (.aload_n 0, 1) := by decide +kernel
theorem dX13_mirror_14 : decode cX13_mirror 14 = .ok (.invokevirtual 368, 3) := by decide +kernel
theorem dX13_mirror_17 : decode cX13_mirror 17 = .ok (.ireturn, 1) := by decide +kernel
set_option maxRecDepth 20000 in
theorem ggX13_isPlace_X13_isIn : GoodIn wsX13_isPlace wsX13_isIn := goodIn_r _ [6] (by decide +kernel) (by decide +kernel)
set_option maxRecDepth 20000 in
theorem gX13_isPlace_X13_isIn : GoodIn wsX13_isPlace (va_wsS RX13 111 yX13_isIn wsX13_isIn) := goodIn_app (goodIn_of _ (by decide +kernel)) ggX13_isPlace_X13_isIn
theorem dX13_isPlace_0 : decode cX13_isPlace 0 = .ok (.iload_n 0, 1) := by decide +kernel
theorem dX13_isPlace_1 : decode cX13_isPlace 1 = .ok (.i2l, 1) := by decide +kernel
theorem dX13_isPlace_2 : decode cX13_isPlace 2 = .ok (.lconst 0, 1) := by decide +kernel
theorem dX13_isPlace_3 : decode cX13_isPlace 3 = .ok (.ldc2_w 417, 3) := by decide +kernel
theorem dX13_isPlace_6 : decode cX13_isPlace 6 = .ok (.invokestatic 111, 3) := by decide +kernel
theorem dX13_isPlace_9 : decode cX13_isPlace 9 = .ok (.ifCond .eq 19, 3) := by decide +kernel
theorem dX13_isPlace_12 : decode cX13_isPlace 12 = .ok (.iload_n 1, 1) := by decide +kernel
theorem dX13_isPlace_13 : decode cX13_isPlace 13 = .ok (.i2l, 1) := by decide +kernel
theorem dX13_isPlace_14 : decode cX13_isPlace 14 = .ok (.lconst 0, 1) := by decide +kernel
theorem dX13_isPlace_15 : decode cX13_isPlace 15 = .ok (.ldc2_w 349, 3) := by decide +kernel
theorem dX13_isPlace_18 : decode cX13_isPlace 18 = .ok (.invokestatic 111, 3) := by decide +kernel
theorem dX13_isPlace_21 : decode cX13_isPlace 21 = .ok (.ifCond .eq 7, 3) := by decide +kernel
theorem dX13_isPlace_24 : decode cX13_isPlace 24 = .ok (.iconst 1, 1) := by decide +kernel
theorem dX13_isPlace_25 : decode cX13_isPlace 25 = .ok (.goto 4, 3) := by decide +kernel
theorem dX13_isPlace_28 : decode cX13_isPlace 28 = .ok (.iconst 0, 1) := by decide +kernel
theorem dX13_isPlace_29 : decode cX13_isPlace 29 = .ok (.ireturn, 1) := by decide +kernel
theorem dX13_takes_0 : decode cX13_takes 0 = .ok (.iload_n 0, 1) := by decide +kernel
theorem dX13_takes_1 : decode cX13_takes 1 = .ok (.iconst 2, 1) := by decide +kernel
theorem dX13_takes_2 : decode cX13_takes 2 = .ok (.if_icmp .eq 8, 3) := by decide +kernel
theorem dX13_takes_5 : decode cX13_takes 5 = .ok (.iload_n 0, 1) := by decide +kernel
theorem dX13_takes_6 : decode cX13_takes 6 = .ok (.iload_n 1, 1) := by decide +kernel
theorem dX13_takes_7 : decode cX13_takes 7 = .ok (.if_icmp .ne 7, 3) := by decide +kernel
theorem dX13_takes_10 : decode cX13_takes 10 = .ok (.iconst 1, 1) := by decide +kernel
theorem dX13_takes_11 : decode cX13_takes 11 = .ok (.goto 4, 3) := by decide +kernel
theorem dX13_takes_14 : decode cX13_takes 14 = .ok (.iconst 0, 1) := by decide +kernel
theorem dX13_takes_15 : decode cX13_takes 15 = .ok (.ireturn, 1) := by decide +kernel
set_option maxRecDepth 20000 in
theorem ggX13_putStamp_X13_isPlace : GoodIn wsX13_putStamp wsX13_isPlace := goodIn_r _ [8, 9, 10, 11, 12, 7, 13] (by decide +kernel) (by decide +kernel)
set_option maxRecDepth 20000 in
theorem gX13_putStamp_X13_isPlace : GoodIn wsX13_putStamp (va_wsS RX13 419 yX13_isPlace wsX13_isPlace) := goodIn_app (goodIn_of _ (by decide +kernel)) ggX13_putStamp_X13_isPlace
set_option maxRecDepth 20000 in
theorem ggX13_putStamp_X13_isIn : GoodIn wsX13_putStamp wsX13_isIn := goodIn_r _ [13] (by decide +kernel) (by decide +kernel)
set_option maxRecDepth 20000 in
theorem gX13_putStamp_X13_isIn : GoodIn wsX13_putStamp (va_wsS RX13 111 yX13_isIn wsX13_isIn) := goodIn_app (goodIn_of _ (by decide +kernel)) ggX13_putStamp_X13_isIn
set_option maxRecDepth 20000 in
theorem ggX13_putStamp_X13_truth : GoodIn wsX13_putStamp wsX13_truth := goodIn_r _ [16] (by decide +kernel) (by decide +kernel)
set_option maxRecDepth 20000 in
theorem gX13_putStamp_X13_truth : GoodIn wsX13_putStamp (va_wsS RX13 96 yX13_truth wsX13_truth) := goodIn_app (goodIn_of _ (by decide +kernel)) ggX13_putStamp_X13_truth
set_option maxRecDepth 20000 in
theorem ggX13_putStamp_X13_takes : GoodIn wsX13_putStamp wsX13_takes := goodIn_r _ [19] (by decide +kernel) (by decide +kernel)
set_option maxRecDepth 20000 in
theorem gX13_putStamp_X13_takes : GoodIn wsX13_putStamp (va_wsS RX13 422 yX13_takes wsX13_takes) := goodIn_app (goodIn_of _ (by decide +kernel)) ggX13_putStamp_X13_takes
theorem dX13_putStamp_0 : decode cX13_putStamp 0 = .ok (.aload_n 0, 1) := by decide +kernel
theorem dX13_putStamp_1 : decode cX13_putStamp 1 = .ok (.iload_n 1, 1) := by decide +kernel
theorem dX13_putStamp_2 : decode cX13_putStamp 2 = .ok (.iload_n 2, 1) := by decide +kernel
theorem dX13_putStamp_3 : decode cX13_putStamp 3 = .ok (.invokestatic 419, 3) := by decide +kernel
theorem dX13_putStamp_6 : decode cX13_putStamp 6 = .ok (.ifCond .ne 7, 3) := by decide +kernel
theorem dX13_putStamp_9 : decode cX13_putStamp 9 = .ok (.iconst 1, 1) := by decide +kernel
theorem dX13_putStamp_10 : decode cX13_putStamp 10 = .ok (.goto 49, 3) := by decide +kernel
theorem dX13_putStamp_13 : decode cX13_putStamp 13 = .ok (.iload_n 3, 1) := by decide +kernel
theorem dX13_putStamp_14 : decode cX13_putStamp 14 = .ok (.i2l, 1) := by decide +kernel
theorem dX13_putStamp_15 : decode cX13_putStamp 15 = .ok (.lconst 0, 1) := by decide +kernel
theorem dX13_putStamp_16 : decode cX13_putStamp 16 = .ok (.lconst 1, 1) := by decide +kernel
theorem dX13_putStamp_17 : decode cX13_putStamp 17 = .ok (.invokestatic 111, 3) := by decide +kernel
theorem dX13_putStamp_20 : decode cX13_putStamp 20 = .ok (.ifCond .eq 29, 3) := by decide +kernel
theorem dX13_putStamp_23 : decode cX13_putStamp 23 = .ok (.iload 4, 2) := by decide +kernel
theorem dX13_putStamp_25 : decode cX13_putStamp 25 = .ok (.i2l, 1) := by decide +kernel
theorem dX13_putStamp_26 : decode cX13_putStamp 26 = .ok (.lconst 1, 1) := by decide +kernel
theorem dX13_putStamp_27 : decode cX13_putStamp 27 = .ok (.ldc2_w 249, 3) := by decide +kernel
theorem dX13_putStamp_30 : decode cX13_putStamp 30 = .ok (.invokestatic 111, 3) := by decide +kernel
theorem dX13_putStamp_33 : decode cX13_putStamp 33 = .ok (.ifCond .eq 16, 3) := by decide +kernel
theorem dX13_putStamp_36 : decode cX13_putStamp 36 = .ok (.iload 5, 2) := by decide +kernel
theorem dX13_putStamp_38 : decode cX13_putStamp 38 = .ok (.i2l, 1) := by decide +kernel
theorem dX13_putStamp_39 : decode cX13_putStamp 39 = .ok (.lconst 1, 1) := by decide +kernel
theorem dX13_putStamp_40 : decode cX13_putStamp 40 = .ok (.ldc2_w 385, 3) := by decide +kernel
theorem dX13_putStamp_43 : decode cX13_putStamp 43 = .ok (.invokestatic 111, 3) := by decide +kernel
theorem dX13_putStamp_46 : decode cX13_putStamp 46 = .ok (.ifCond .ne 7, 3) := by decide +kernel
theorem dX13_putStamp_49 : decode cX13_putStamp 49 = .ok (.iconst 1, 1) := by decide +kernel
theorem dX13_putStamp_50 : decode cX13_putStamp 50 = .ok (.goto 4, 3) := by decide +kernel
theorem dX13_putStamp_53 : decode cX13_putStamp 53 = .ok (.iconst 0, 1) := by decide +kernel
theorem dX13_putStamp_54 : decode cX13_putStamp 54 = .ok (.invokestatic 96, 3) := by decide +kernel
theorem dX13_putStamp_57 : decode cX13_putStamp 57 = .ok (.iconst 2, 1) := by decide +kernel
theorem dX13_putStamp_58 : decode cX13_putStamp 58 = .ok (.imul, 1) := by decide +kernel
theorem dX13_putStamp_59 : decode cX13_putStamp 59 = .ok (.putfield 93, 3) := by decide +kernel
theorem dX13_putStamp_62 : decode cX13_putStamp 62 = .ok (.aload_n 0, 1) := by decide +kernel
theorem dX13_putStamp_63 : decode cX13_putStamp 63 = .ok (.getfield 93, 3) := by decide +kernel
theorem dX13_putStamp_66 : decode cX13_putStamp 66 = .ok (.ifCond .gt 11, 3) := by decide +kernel
theorem dX13_putStamp_69 : decode cX13_putStamp 69 = .ok (.iload_n 1, 1) := by decide +kernel
theorem dX13_putStamp_70 : decode cX13_putStamp 70 = .ok (.iload_n 3, 1) := by decide +kernel
theorem dX13_putStamp_71 : decode cX13_putStamp 71 = .ok (.invokestatic 422, 3) := by decide +kernel
theorem dX13_putStamp_74 : decode cX13_putStamp 74 = .ok (.ifCond .ne 5, 3) := by decide +kernel
theorem dX13_putStamp_77 : decode cX13_putStamp 77 = .ok (.iconst 0, 1) := by decide +kernel
theorem dX13_putStamp_78 : decode cX13_putStamp 78 = .ok (.ireturn, 1) := by decide +kernel
theorem dX13_putStamp_79 : decode cX13_putStamp 79 = .ok (.aload_n 0, 1) := by decide +kernel
theorem dX13_putStamp_80 : decode cX13_putStamp 80 = .ok (.getfield 54, 3) := by decide +kernel
theorem dX13_putStamp_83 : decode cX13_putStamp 83 = .ok (.iconst 4, 1) := by decide +kernel
theorem dX13_putStamp_84 : decode cX13_putStamp 84 = .ok (.iload_n 1, 1) := by decide +kernel
theorem dX13_putStamp_85 : decode cX13_putStamp 85 = .ok (.imul, 1) := by decide +kernel
theorem dX13_putStamp_86 : decode cX13_putStamp 86 = .ok (.iload_n 2, 1) := by decide +kernel
theorem dX13_putStamp_87 : decode cX13_putStamp 87 = .ok (.iadd, 1) := by decide +kernel
theorem dX13_putStamp_88 : decode cX13_putStamp 88 = .ok (.sipush 1000, 3) := by decide +kernel
theorem dX13_putStamp_91 : decode cX13_putStamp 91 = .ok (.iload_n 3, 1) := by decide +kernel
theorem dX13_putStamp_92 : decode cX13_putStamp 92 = .ok (.imul, 1) := by decide +kernel
theorem dX13_putStamp_93 : decode cX13_putStamp 93 = .ok (.bipush 100, 2) := by decide +kernel
theorem dX13_putStamp_95 : decode cX13_putStamp 95 = .ok (.iload 4, 2) := by decide +kernel
theorem dX13_putStamp_97 : decode cX13_putStamp 97 = .ok (.imul, 1) := by decide +kernel
theorem dX13_putStamp_98 : decode cX13_putStamp 98 = .ok (.iadd, 1) := by decide +kernel
theorem dX13_putStamp_99 : decode cX13_putStamp 99 = .ok (.iload 5, 2) := by decide +kernel
theorem dX13_putStamp_101 : decode cX13_putStamp 101 = .ok (.iadd, 1) := by decide +kernel
theorem dX13_putStamp_102 : decode cX13_putStamp 102 = .ok (.iastore, 1) := by decide +kernel
theorem dX13_putStamp_103 : decode cX13_putStamp 103 = .ok (.iconst 1, 1) := by decide +kernel
theorem dX13_putStamp_104 : decode cX13_putStamp 104 = .ok (.ireturn, 1) := by decide +kernel
set_option maxRecDepth 20000 in
theorem ggX13_takeStamp_X13_isPlace : GoodIn wsX13_takeStamp wsX13_isPlace := goodIn_r _ [5, 6, 7, 8, 9, 4, 10] (by decide +kernel) (by decide +kernel)
set_option maxRecDepth 20000 in
theorem gX13_takeStamp_X13_isPlace : GoodIn wsX13_takeStamp (va_wsS RX13 419 yX13_isPlace wsX13_isPlace) := goodIn_app (goodIn_of _ (by decide +kernel)) ggX13_takeStamp_X13_isPlace
set_option maxRecDepth 20000 in
theorem ggX13_takeStamp_X13_goes : GoodIn wsX13_takeStamp wsX13_goes := goodIn_r _ [14, 15, 16, 17, 4, 18, 19, 20, 21, 22, 23, 24, 25, 26, 27, 28, 29, 30, 31, 32, 33, 34, 35, 36, 37, 38, 39, 40, 41, 42, 43, 44, 45, 46, 47, 48, 49, 50, 51, 52, 53, 54, 55, 56, 57, 58, 59, 60, 61, 62, 63, 64, 65, 66] (by decide +kernel) (by decide +kernel)
set_option maxRecDepth 20000 in
theorem gX13_takeStamp_X13_goes : GoodIn wsX13_takeStamp (wsV RX13 103 RX13 yX13_goes wsX13_goes) := goodIn_app (goodIn_of _ (by decide +kernel)) ggX13_takeStamp_X13_goes
theorem dX13_takeStamp_0 : decode cX13_takeStamp 0 = .ok (.aload_n 0, 1) := by decide +kernel
theorem dX13_takeStamp_1 : decode cX13_takeStamp 1 = .ok (.iload_n 1, 1) := by decide +kernel
theorem dX13_takeStamp_2 : decode cX13_takeStamp 2 = .ok (.iload_n 2, 1) := by decide +kernel
theorem dX13_takeStamp_3 : decode cX13_takeStamp 3 = .ok (.invokestatic 419, 3) := by decide +kernel
theorem dX13_takeStamp_6 : decode cX13_takeStamp 6 = .ok (.invokevirtual 103, 3) := by decide +kernel
theorem dX13_takeStamp_9 : decode cX13_takeStamp 9 = .ok (.ifCond .ne 5, 3) := by decide +kernel
theorem dX13_takeStamp_12 : decode cX13_takeStamp 12 = .ok (.iconst 0, 1) := by decide +kernel
theorem dX13_takeStamp_13 : decode cX13_takeStamp 13 = .ok (.ireturn, 1) := by decide +kernel
theorem dX13_takeStamp_14 : decode cX13_takeStamp 14 = .ok (.aload_n 0, 1) := by decide +kernel
theorem dX13_takeStamp_15 : decode cX13_takeStamp 15 = .ok (.getfield 54, 3) := by decide +kernel
theorem dX13_takeStamp_18 : decode cX13_takeStamp 18 = .ok (.iconst 4, 1) := by decide +kernel
theorem dX13_takeStamp_19 : decode cX13_takeStamp 19 = .ok (.iload_n 1, 1) := by decide +kernel
theorem dX13_takeStamp_20 : decode cX13_takeStamp 20 = .ok (.imul, 1) := by decide +kernel
theorem dX13_takeStamp_21 : decode cX13_takeStamp 21 = .ok (.iload_n 2, 1) := by decide +kernel
theorem dX13_takeStamp_22 : decode cX13_takeStamp 22 = .ok (.iadd, 1) := by decide +kernel
theorem dX13_takeStamp_23 : decode cX13_takeStamp 23 = .ok (.iaload, 1) := by decide +kernel
theorem dX13_takeStamp_24 : decode cX13_takeStamp 24 = .ok (.iconst (-1), 1) := by decide +kernel
theorem dX13_takeStamp_25 : decode cX13_takeStamp 25 = .ok (.if_icmp .eq 7, 3) := by decide +kernel
theorem dX13_takeStamp_28 : decode cX13_takeStamp 28 = .ok (.iconst 1, 1) := by decide +kernel
theorem dX13_takeStamp_29 : decode cX13_takeStamp 29 = .ok (.goto 4, 3) := by decide +kernel
theorem dX13_takeStamp_32 : decode cX13_takeStamp 32 = .ok (.iconst 0, 1) := by decide +kernel
theorem dX13_takeStamp_33 : decode cX13_takeStamp 33 = .ok (.istore_n 3, 1) := by decide +kernel
theorem dX13_takeStamp_34 : decode cX13_takeStamp 34 = .ok (.aload_n 0, 1) := by decide +kernel
theorem dX13_takeStamp_35 : decode cX13_takeStamp 35 = .ok (.getfield 54, 3) := by decide +kernel
theorem dX13_takeStamp_38 : decode cX13_takeStamp 38 = .ok (.iconst 4, 1) := by decide +kernel
theorem dX13_takeStamp_39 : decode cX13_takeStamp 39 = .ok (.iload_n 1, 1) := by decide +kernel
theorem dX13_takeStamp_40 : decode cX13_takeStamp 40 = .ok (.imul, 1) := by decide +kernel
theorem dX13_takeStamp_41 : decode cX13_takeStamp 41 = .ok (.iload_n 2, 1) := by decide +kernel
theorem dX13_takeStamp_42 : decode cX13_takeStamp 42 = .ok (.iadd, 1) := by decide +kernel
theorem dX13_takeStamp_43 : decode cX13_takeStamp 43 = .ok (.iconst (-1), 1) := by decide +kernel
theorem dX13_takeStamp_44 : decode cX13_takeStamp 44 = .ok (.iastore, 1) := by decide +kernel
theorem dX13_takeStamp_45 : decode cX13_takeStamp 45 = .ok (.iload_n 3, 1) := by decide +kernel
theorem dX13_takeStamp_46 : decode cX13_takeStamp 46 = .ok (.ireturn, 1) := by decide +kernel
set_option maxRecDepth 20000 in
theorem ggX13_stampAt_X13_isPlace : GoodIn wsX13_stampAt wsX13_isPlace := goodIn_r _ [5, 6, 7, 8, 9, 4, 10] (by decide +kernel) (by decide +kernel)
set_option maxRecDepth 20000 in
theorem gX13_stampAt_X13_isPlace : GoodIn wsX13_stampAt (va_wsS RX13 419 yX13_isPlace wsX13_isPlace) := goodIn_app (goodIn_of _ (by decide +kernel)) ggX13_stampAt_X13_isPlace
set_option maxRecDepth 20000 in
theorem ggX13_stampAt_X13_goes : GoodIn wsX13_stampAt wsX13_goes := goodIn_r _ [14, 15, 16, 17, 4, 18, 19, 20, 21, 22, 23, 24, 25, 26, 27, 28, 29, 30, 31, 32, 33, 34, 35, 36, 37, 38, 39, 40, 41, 42, 43, 44, 45, 46, 47, 48, 49, 50, 51, 52, 53, 54, 55, 56, 57, 58, 59, 60, 61, 62, 63, 64, 65, 66] (by decide +kernel) (by decide +kernel)
set_option maxRecDepth 20000 in
theorem gX13_stampAt_X13_goes : GoodIn wsX13_stampAt (wsV RX13 103 RX13 yX13_goes wsX13_goes) := goodIn_app (goodIn_of _ (by decide +kernel)) ggX13_stampAt_X13_goes
theorem dX13_stampAt_0 : decode cX13_stampAt 0 = .ok (.aload_n 0, 1) := by decide +kernel
theorem dX13_stampAt_1 : decode cX13_stampAt 1 = .ok (.iload_n 1, 1) := by decide +kernel
theorem dX13_stampAt_2 : decode cX13_stampAt 2 = .ok (.iload_n 2, 1) := by decide +kernel
theorem dX13_stampAt_3 : decode cX13_stampAt 3 = .ok (.invokestatic 419, 3) := by decide +kernel
theorem dX13_stampAt_6 : decode cX13_stampAt 6 = .ok (.invokevirtual 103, 3) := by decide +kernel
theorem dX13_stampAt_9 : decode cX13_stampAt 9 = .ok (.ifCond .eq 16, 3) := by decide +kernel
theorem dX13_stampAt_12 : decode cX13_stampAt 12 = .ok (.aload_n 0, 1) := by decide +kernel
theorem dX13_stampAt_13 : decode cX13_stampAt 13 = .ok (.getfield 54, 3) := by decide +kernel
theorem dX13_stampAt_16 : decode cX13_stampAt 16 = .ok (.iconst 4, 1) := by decide +kernel
theorem dX13_stampAt_17 : decode cX13_stampAt 17 = .ok (.iload_n 1, 1) := by decide +kernel
theorem dX13_stampAt_18 : decode cX13_stampAt 18 = .ok (.imul, 1) := by decide +kernel
theorem dX13_stampAt_19 : decode cX13_stampAt 19 = .ok (.iload_n 2, 1) := by decide +kernel
theorem dX13_stampAt_20 : decode cX13_stampAt 20 = .ok (.iadd, 1) := by decide +kernel
theorem dX13_stampAt_21 : decode cX13_stampAt 21 = .ok (.iaload, 1) := by decide +kernel
theorem dX13_stampAt_22 : decode cX13_stampAt 22 = .ok (.goto 4, 3) := by decide +kernel
theorem dX13_stampAt_25 : decode cX13_stampAt 25 = .ok (.iconst 0, 1) := by decide +kernel
theorem dX13_stampAt_26 : decode cX13_stampAt 26 = .ok (.ireturn, 1) := by decide +kernel
set_option maxRecDepth 20000 in
theorem ggX13_moveStamp_X13_isPlace : GoodIn wsX13_moveStamp wsX13_isPlace := goodIn_r _ [6, 7, 8, 9, 10, 5, 11] (by decide +kernel) (by decide +kernel)
set_option maxRecDepth 20000 in
theorem gX13_moveStamp_X13_isPlace : GoodIn wsX13_moveStamp (va_wsS RX13 419 yX13_isPlace wsX13_isPlace) := goodIn_app (goodIn_of _ (by decide +kernel)) ggX13_moveStamp_X13_isPlace
set_option maxRecDepth 20000 in
theorem ggX13_moveStamp_X13_truth : GoodIn wsX13_moveStamp wsX13_truth := goodIn_r _ [14] (by decide +kernel) (by decide +kernel)
set_option maxRecDepth 20000 in
theorem gX13_moveStamp_X13_truth : GoodIn wsX13_moveStamp (va_wsS RX13 96 yX13_truth wsX13_truth) := goodIn_app (goodIn_of _ (by decide +kernel)) ggX13_moveStamp_X13_truth
set_option maxRecDepth 20000 in
theorem ggX13_moveStamp_X13_takes : GoodIn wsX13_moveStamp wsX13_takes := goodIn_r _ [17] (by decide +kernel) (by decide +kernel)
set_option maxRecDepth 20000 in
theorem gX13_moveStamp_X13_takes : GoodIn wsX13_moveStamp (va_wsS RX13 422 yX13_takes wsX13_takes) := goodIn_app (goodIn_of _ (by decide +kernel)) ggX13_moveStamp_X13_takes
theorem dX13_moveStamp_0 : decode cX13_moveStamp 0 = .ok (.iload_n 1, 1) := by decide +kernel
theorem dX13_moveStamp_1 : decode cX13_moveStamp 1 = .ok (.iload_n 2, 1) := by decide +kernel
theorem dX13_moveStamp_2 : decode cX13_moveStamp 2 = .ok (.invokestatic 419, 3) := by decide +kernel
theorem dX13_moveStamp_5 : decode cX13_moveStamp 5 = .ok (.ifCond .eq 16, 3) := by decide +kernel
theorem dX13_moveStamp_8 : decode cX13_moveStamp 8 = .ok (.iload_n 3, 1) := by decide +kernel
theorem dX13_moveStamp_9 : decode cX13_moveStamp 9 = .ok (.iload 4, 2) := by decide +kernel
theorem dX13_moveStamp_11 : decode cX13_moveStamp 11 = .ok (.invokestatic 419, 3) := by decide +kernel
theorem dX13_moveStamp_14 : decode cX13_moveStamp 14 = .ok (.ifCond .eq 7, 3) := by decide +kernel
theorem dX13_moveStamp_17 : decode cX13_moveStamp 17 = .ok (.iconst 1, 1) := by decide +kernel
theorem dX13_moveStamp_18 : decode cX13_moveStamp 18 = .ok (.goto 4, 3) := by decide +kernel
theorem dX13_moveStamp_21 : decode cX13_moveStamp 21 = .ok (.iconst 0, 1) := by decide +kernel
theorem dX13_moveStamp_22 : decode cX13_moveStamp 22 = .ok (.istore 5, 2) := by decide +kernel
theorem dX13_moveStamp_24 : decode cX13_moveStamp 24 = .ok (.aload_n 0, 1) := by decide +kernel
theorem dX13_moveStamp_25 : decode cX13_moveStamp 25 = .ok (.iload 5, 2) := by decide +kernel
theorem dX13_moveStamp_27 : decode cX13_moveStamp 27 = .ok (.ifCond .ne 7, 3) := by decide +kernel
theorem dX13_moveStamp_30 : decode cX13_moveStamp 30 = .ok (.iconst 1, 1) := by decide +kernel
theorem dX13_moveStamp_31 : decode cX13_moveStamp 31 = .ok (.goto 27, 3) := by decide +kernel
theorem dX13_moveStamp_34 : decode cX13_moveStamp 34 = .ok (.aload_n 0, 1) := by decide +kernel
theorem dX13_moveStamp_35 : decode cX13_moveStamp 35 = .ok (.getfield 54, 3) := by decide +kernel
theorem dX13_moveStamp_38 : decode cX13_moveStamp 38 = .ok (.iconst 4, 1) := by decide +kernel
theorem dX13_moveStamp_39 : decode cX13_moveStamp 39 = .ok (.iload_n 1, 1) := by decide +kernel
theorem dX13_moveStamp_40 : decode cX13_moveStamp 40 = .ok (.imul, 1) := by decide +kernel
theorem dX13_moveStamp_41 : decode cX13_moveStamp 41 = .ok (.iload_n 2, 1) := by decide +kernel
theorem dX13_moveStamp_42 : decode cX13_moveStamp 42 = .ok (.iadd, 1) := by decide +kernel
theorem dX13_moveStamp_43 : decode cX13_moveStamp 43 = .ok (.iaload, 1) := by decide +kernel
theorem dX13_moveStamp_44 : decode cX13_moveStamp 44 = .ok (.iconst (-1), 1) := by decide +kernel
theorem dX13_moveStamp_45 : decode cX13_moveStamp 45 = .ok (.if_icmp .ne 7, 3) := by decide +kernel
theorem dX13_moveStamp_48 : decode cX13_moveStamp 48 = .ok (.iconst 1, 1) := by decide +kernel
theorem dX13_moveStamp_49 : decode cX13_moveStamp 49 = .ok (.goto 4, 3) := by decide +kernel
theorem dX13_moveStamp_52 : decode cX13_moveStamp 52 = .ok (.iconst 0, 1) := by decide +kernel
theorem dX13_moveStamp_53 : decode cX13_moveStamp 53 = .ok (.invokestatic 96, 3) := by decide +kernel
theorem dX13_moveStamp_56 : decode cX13_moveStamp 56 = .ok (.iconst 2, 1) := by decide +kernel
theorem dX13_moveStamp_57 : decode cX13_moveStamp 57 = .ok (.imul, 1) := by decide +kernel
theorem dX13_moveStamp_58 : decode cX13_moveStamp 58 = .ok (.putfield 93, 3) := by decide +kernel
theorem dX13_moveStamp_61 : decode cX13_moveStamp 61 = .ok (.aload_n 0, 1) := by decide +kernel
theorem dX13_moveStamp_62 : decode cX13_moveStamp 62 = .ok (.getfield 93, 3) := by decide +kernel
theorem dX13_moveStamp_65 : decode cX13_moveStamp 65 = .ok (.ifCond .le 5, 3) := by decide +kernel
theorem dX13_moveStamp_68 : decode cX13_moveStamp 68 = .ok (.iconst 0, 1) := by decide +kernel
theorem dX13_moveStamp_69 : decode cX13_moveStamp 69 = .ok (.ireturn, 1) := by decide +kernel
theorem dX13_moveStamp_70 : decode cX13_moveStamp 70 = .ok (.aload_n 0, 1) := by decide +kernel
theorem dX13_moveStamp_71 : decode cX13_moveStamp 71 = .ok (.getfield 54, 3) := by decide +kernel
theorem dX13_moveStamp_74 : decode cX13_moveStamp 74 = .ok (.iconst 4, 1) := by decide +kernel
theorem dX13_moveStamp_75 : decode cX13_moveStamp 75 = .ok (.iload_n 1, 1) := by decide +kernel
theorem dX13_moveStamp_76 : decode cX13_moveStamp 76 = .ok (.imul, 1) := by decide +kernel
theorem dX13_moveStamp_77 : decode cX13_moveStamp 77 = .ok (.iload_n 2, 1) := by decide +kernel
theorem dX13_moveStamp_78 : decode cX13_moveStamp 78 = .ok (.iadd, 1) := by decide +kernel
theorem dX13_moveStamp_79 : decode cX13_moveStamp 79 = .ok (.iaload, 1) := by decide +kernel
theorem dX13_moveStamp_80 : decode cX13_moveStamp 80 = .ok (.istore 6, 2) := by decide +kernel
theorem dX13_moveStamp_82 : decode cX13_moveStamp 82 = .ok (.iload_n 3, 1) := by decide +kernel
theorem dX13_moveStamp_83 : decode cX13_moveStamp 83 = .ok (.iload 6, 2) := by decide +kernel
theorem dX13_moveStamp_85 : decode cX13_moveStamp 85 = .ok (.sipush 1000, 3) := by decide +kernel
theorem dX13_moveStamp_88 : decode cX13_moveStamp 88 = .ok (.idiv, 1) := by decide +kernel
theorem dX13_moveStamp_89 : decode cX13_moveStamp 89 = .ok (.invokestatic 422, 3) := by decide +kernel
theorem dX13_moveStamp_92 : decode cX13_moveStamp 92 = .ok (.ifCond .ne 5, 3) := by decide +kernel
theorem dX13_moveStamp_95 : decode cX13_moveStamp 95 = .ok (.iconst 0, 1) := by decide +kernel
theorem dX13_moveStamp_96 : decode cX13_moveStamp 96 = .ok (.ireturn, 1) := by decide +kernel
theorem dX13_moveStamp_97 : decode cX13_moveStamp 97 = .ok (.aload_n 0, 1) := by decide +kernel
theorem dX13_moveStamp_98 : decode cX13_moveStamp 98 = .ok (.getfield 54, 3) := by decide +kernel
theorem dX13_moveStamp_101 : decode cX13_moveStamp 101 = .ok (.iconst 4, 1) := by decide +kernel
theorem dX13_moveStamp_102 : decode cX13_moveStamp 102 = .ok (.iload_n 1, 1) := by decide +kernel
theorem dX13_moveStamp_103 : decode cX13_moveStamp 103 = .ok (.imul, 1) := by decide +kernel
theorem dX13_moveStamp_104 : decode cX13_moveStamp 104 = .ok (.iload_n 2, 1) := by decide +kernel
theorem dX13_moveStamp_105 : decode cX13_moveStamp 105 = .ok (.iadd, 1) := by decide +kernel
theorem dX13_moveStamp_106 : decode cX13_moveStamp 106 = .ok (.iconst (-1), 1) := by decide +kernel
theorem dX13_moveStamp_107 : decode cX13_moveStamp 107 = .ok (.iastore, 1) := by decide +kernel
theorem dX13_moveStamp_108 : decode cX13_moveStamp 108 = .ok (.aload_n 0, 1) := by decide +kernel
theorem dX13_moveStamp_109 : decode cX13_moveStamp 109 = .ok (.getfield 54, 3) := by decide +kernel
theorem dX13_moveStamp_112 : decode cX13_moveStamp 112 = .ok (.iconst 4, 1) := by decide +kernel
theorem dX13_moveStamp_113 : decode cX13_moveStamp 113 = .ok (.iload_n 3, 1) := by decide +kernel
theorem dX13_moveStamp_114 : decode cX13_moveStamp 114 = .ok (.imul, 1) := by decide +kernel
theorem dX13_moveStamp_115 : decode cX13_moveStamp 115 = .ok (.iload 4, 2) := by decide +kernel
theorem dX13_moveStamp_117 : decode cX13_moveStamp 117 = .ok (.iadd, 1) := by decide +kernel
theorem dX13_moveStamp_118 : decode cX13_moveStamp 118 = .ok (.iload 6, 2) := by decide +kernel
theorem dX13_moveStamp_120 : decode cX13_moveStamp 120 = .ok (.iastore, 1) := by decide +kernel
theorem dX13_moveStamp_121 : decode cX13_moveStamp 121 = .ok (.iconst 1, 1) := by decide +kernel
theorem dX13_moveStamp_122 : decode cX13_moveStamp 122 = .ok (.ireturn, 1) := by decide +kernel
set_option maxRecDepth 20000 in
theorem ggX13_presses_X13_isCell : GoodIn wsX13_presses wsX13_isCell := goodIn_r _ [7, 2, 8, 9, 6, 10, 17, 18, 19, 20, 21, 22, 23, 24, 25, 26, 27, 28, 29, 30, 31, 32, 33, 34, 35, 36, 37, 38, 39, 40, 41, 42, 43, 44, 45, 46, 47, 48, 49, 50, 51, 52, 53, 54, 55, 56, 57, 58, 59, 60, 61, 62, 63, 64] (by decide +kernel) (by decide +kernel)
set_option maxRecDepth 20000 in
theorem gX13_presses_X13_isCell : GoodIn wsX13_presses (wsV RX13 195 RX13 yX13_isCell wsX13_isCell) := goodIn_app (goodIn_of _ (by decide +kernel)) ggX13_presses_X13_isCell
set_option maxRecDepth 20000 in
theorem ggX13_presses_X13_more : GoodIn wsX13_presses wsX13_more := goodIn_r _ [13] (by decide +kernel) (by decide +kernel)
set_option maxRecDepth 20000 in
theorem gX13_presses_X13_more : GoodIn wsX13_presses (va_wsS RX13 264 yX13_more wsX13_more) := goodIn_app (goodIn_of _ (by decide +kernel)) ggX13_presses_X13_more
set_option maxRecDepth 20000 in
theorem ggX13_presses_X13_less : GoodIn wsX13_presses wsX13_less := goodIn_r _ [16] (by decide +kernel) (by decide +kernel)
set_option maxRecDepth 20000 in
theorem gX13_presses_X13_less : GoodIn wsX13_presses (va_wsS RX13 210 yX13_less wsX13_less) := goodIn_app (goodIn_of _ (by decide +kernel)) ggX13_presses_X13_less
theorem dX13_presses_0 : decode cX13_presses 0 = .ok (.iload_n 1, 1) := by decide +kernel
theorem dX13_presses_1 : decode cX13_presses 1 = .ok (.bipush 100, 2) := by decide +kernel
theorem dX13_presses_3 : decode cX13_presses 3 = .ok (.idiv, 1) := by decide +kernel
theorem dX13_presses_4 : decode cX13_presses 4 = .ok (.bipush 10, 2) := by decide +kernel
theorem dX13_presses_6 : decode cX13_presses 6 = .ok (.irem, 1) := by decide +kernel
theorem dX13_presses_7 : decode cX13_presses 7 = .ok (.istore 4, 2) := by decide +kernel
theorem dX13_presses_9 : decode cX13_presses 9 = .ok (.iload_n 1, 1) := by decide +kernel
theorem dX13_presses_10 : decode cX13_presses 10 = .ok (.bipush 100, 2) := by decide +kernel
theorem dX13_presses_12 : decode cX13_presses 12 = .ok (.irem, 1) := by decide +kernel
theorem dX13_presses_13 : decode cX13_presses 13 = .ok (.istore 5, 2) := by decide +kernel
theorem dX13_presses_15 : decode cX13_presses 15 = .ok (.iload_n 3, 1) := by decide +kernel
theorem dX13_presses_16 : decode cX13_presses 16 = .ok (.istore 6, 2) := by decide +kernel
theorem dX13_presses_18 : decode cX13_presses 18 = .ok (.iload 6, 2) := by decide +kernel
theorem dX13_presses_20 : decode cX13_presses 20 = .ok (.iload_n 3, 1) := by decide +kernel
theorem dX13_presses_21 : decode cX13_presses 21 = .ok (.iload 4, 2) := by decide +kernel
theorem dX13_presses_23 : decode cX13_presses 23 = .ok (.iadd, 1) := by decide +kernel
theorem dX13_presses_24 : decode cX13_presses 24 = .ok (.if_icmp .ge 107, 3) := by decide +kernel
theorem dX13_presses_27 : decode cX13_presses 27 = .ok (.iload_n 2, 1) := by decide +kernel
theorem dX13_presses_28 : decode cX13_presses 28 = .ok (.istore 7, 2) := by decide +kernel
theorem dX13_presses_30 : decode cX13_presses 30 = .ok (.iload 7, 2) := by decide +kernel
theorem dX13_presses_32 : decode cX13_presses 32 = .ok (.iload_n 2, 1) := by decide +kernel
theorem dX13_presses_33 : decode cX13_presses 33 = .ok (.iload 4, 2) := by decide +kernel
theorem dX13_presses_35 : decode cX13_presses 35 = .ok (.iadd, 1) := by decide +kernel
theorem dX13_presses_36 : decode cX13_presses 36 = .ok (.if_icmp .ge 89, 3) := by decide +kernel
theorem dX13_presses_39 : decode cX13_presses 39 = .ok (.aload_n 0, 1) := by decide +kernel
theorem dX13_presses_40 : decode cX13_presses 40 = .ok (.iload 7, 2) := by decide +kernel
theorem dX13_presses_42 : decode cX13_presses 42 = .ok (.iload 6, 2) := by decide +kernel
theorem dX13_presses_44 : decode cX13_presses 44 = .ok (.invokevirtual 195, 3) := by decide +kernel
theorem dX13_presses_47 : decode cX13_presses 47 = .ok (.ifCond .ne 6, 3) := by decide +kernel
theorem dX13_presses_50 : decode cX13_presses 50 = .ok (.goto 69, 3) := by decide +kernel
theorem dX13_presses_53 : decode cX13_presses 53 = .ok (.aload_n 0, 1) := by decide +kernel
theorem dX13_presses_54 : decode cX13_presses 54 = .ok (.getfield 29, 3) := by decide +kernel
theorem dX13_presses_57 : decode cX13_presses 57 = .ok (.bipush 16, 2) := by decide +kernel
theorem dX13_presses_59 : decode cX13_presses 59 = .ok (.iload 6, 2) := by decide +kernel
theorem dX13_presses_61 : decode cX13_presses 61 = .ok (.imul, 1) := by decide +kernel
theorem dX13_presses_62 : decode cX13_presses 62 = .ok (.iload 7, 2) := by decide +kernel
theorem dX13_presses_64 : decode cX13_presses 64 = .ok (.iadd, 1) := by decide +kernel
theorem dX13_presses_65 : decode cX13_presses 65 = .ok (.iaload, 1) := by decide +kernel
theorem dX13_presses_66 : decode cX13_presses 66 = .ok (.istore 8, 2) := by decide +kernel
theorem dX13_presses_68 : decode cX13_presses 68 = .ok (.aload_n 0, 1) := by decide +kernel
theorem dX13_presses_69 : decode cX13_presses 69 = .ok (.getfield 29, 3) := by decide +kernel
theorem dX13_presses_72 : decode cX13_presses 72 = .ok (.bipush 16, 2) := by decide +kernel
theorem dX13_presses_74 : decode cX13_presses 74 = .ok (.iload 6, 2) := by decide +kernel
theorem dX13_presses_76 : decode cX13_presses 76 = .ok (.imul, 1) := by decide +kernel
theorem dX13_presses_77 : decode cX13_presses 77 = .ok (.iload 7, 2) := by decide +kernel
theorem dX13_presses_79 : decode cX13_presses 79 = .ok (.iadd, 1) := by decide +kernel
theorem dX13_presses_80 : decode cX13_presses 80 = .ok (.iload_n 1, 1) := by decide +kernel
theorem dX13_presses_81 : decode cX13_presses 81 = .ok (.sipush 1000, 3) := by decide +kernel
theorem dX13_presses_84 : decode cX13_presses 84 = .ok (.if_icmp .ge 20, 3) := by decide +kernel
theorem dX13_presses_87 : decode cX13_presses 87 = .ok (.aload_n 0, 1) := by decide +kernel
theorem dX13_presses_88 : decode cX13_presses 88 = .ok (.getfield 20, 3) := by decide +kernel
theorem dX13_presses_91 : decode cX13_presses 91 = .ok (.iconst 4, 1) := by decide +kernel
theorem dX13_presses_92 : decode cX13_presses 92 = .ok (.iaload, 1) := by decide +kernel
theorem dX13_presses_93 : decode cX13_presses 93 = .ok (.iload 8, 2) := by decide +kernel
theorem dX13_presses_95 : decode cX13_presses 95 = .ok (.iload 5, 2) := by decide +kernel
theorem dX13_presses_97 : decode cX13_presses 97 = .ok (.isub, 1) := by decide +kernel
theorem dX13_presses_98 : decode cX13_presses 98 = .ok (.invokestatic 264, 3) := by decide +kernel
theorem dX13_presses_101 : decode cX13_presses 101 = .ok (.goto 17, 3) := by decide +kernel
theorem dX13_presses_104 : decode cX13_presses 104 = .ok (.aload_n 0, 1) := by decide +kernel
theorem dX13_presses_105 : decode cX13_presses 105 = .ok (.getfield 20, 3) := by decide +kernel
theorem dX13_presses_108 : decode cX13_presses 108 = .ok (.iconst 2, 1) := by decide +kernel
theorem dX13_presses_109 : decode cX13_presses 109 = .ok (.iaload, 1) := by decide +kernel
theorem dX13_presses_110 : decode cX13_presses 110 = .ok (.iload 8, 2) := by decide +kernel
theorem dX13_presses_112 : decode cX13_presses 112 = .ok (.iload 5, 2) := by decide +kernel
theorem dX13_presses_114 : decode cX13_presses 114 = .ok (.iadd, 1) := by decide +kernel
theorem dX13_presses_115 : decode cX13_presses 115 = .ok (.invokestatic 210, 3) := by decide +kernel
theorem dX13_presses_118 : decode cX13_presses 118 = .ok (.iastore, 1) := by decide +kernel
theorem dX13_presses_119 : decode cX13_presses 119 = .ok (.iinc 7 1, 3) := by decide +kernel
theorem dX13_presses_122 : decode cX13_presses 122 = .ok (.goto (-92), 3) := by decide +kernel
theorem dX13_presses_125 : decode cX13_presses 125 = .ok (.iinc 6 1, 3) := by decide +kernel
theorem dX13_presses_128 : decode cX13_presses 128 = .ok (.goto (-110), 3) := by decide +kernel
theorem dX13_presses_131 : decode cX13_presses 131 = .ok (.return_, 1) := by decide +kernel
set_option maxRecDepth 20000 in
theorem ggX13_stamp_X13_isPlace : GoodIn wsX13_stamp wsX13_isPlace := goodIn_r _ [6, 7, 8, 9, 10, 5, 11] (by decide +kernel) (by decide +kernel)
set_option maxRecDepth 20000 in
theorem gX13_stamp_X13_isPlace : GoodIn wsX13_stamp (va_wsS RX13 419 yX13_isPlace wsX13_isPlace) := goodIn_app (goodIn_of _ (by decide +kernel)) ggX13_stamp_X13_isPlace
set_option maxRecDepth 20000 in
theorem ggX13_stamp_X13_isCell : GoodIn wsX13_stamp wsX13_isCell := goodIn_r _ [15, 16, 9, 10, 5, 11, 44, 45, 46, 47, 48, 49, 50, 51, 52, 53, 54, 55, 56, 57, 58, 59, 60, 61, 62, 63, 64, 65, 66, 67, 68, 69, 70, 71, 72, 73, 74, 75, 76, 77, 78, 79, 80, 81, 82, 83, 84, 85, 86, 87, 88, 89, 90, 91] (by decide +kernel) (by decide +kernel)
set_option maxRecDepth 20000 in
theorem gX13_stamp_X13_isCell : GoodIn wsX13_stamp (wsV RX13 195 RX13 yX13_isCell wsX13_isCell) := goodIn_app (goodIn_of _ (by decide +kernel)) ggX13_stamp_X13_isCell
set_option maxRecDepth 20000 in
theorem ggX13_stamp_X13_truth : GoodIn wsX13_stamp wsX13_truth := goodIn_r _ [19] (by decide +kernel) (by decide +kernel)
set_option maxRecDepth 20000 in
theorem gX13_stamp_X13_truth : GoodIn wsX13_stamp (va_wsS RX13 96 yX13_truth wsX13_truth) := goodIn_app (goodIn_of _ (by decide +kernel)) ggX13_stamp_X13_truth
set_option maxRecDepth 20000 in
theorem ggX13_stamp_X13_laysAside : GoodIn wsX13_stamp wsX13_laysAside := goodIn_r _ [23, 24, 25, 26, 27, 44, 45, 46, 47, 48, 49, 50, 51, 52, 53, 54, 55, 56, 57, 58, 59, 60, 61, 62, 63, 64, 65, 66, 67, 68, 69, 70, 71, 72, 73, 74, 75, 76, 77, 78, 79, 80, 81, 82, 83, 84, 85, 86, 87, 88, 89, 90, 91] (by decide +kernel) (by decide +kernel)
set_option maxRecDepth 20000 in
theorem gX13_stamp_X13_laysAside : GoodIn wsX13_stamp (wsV RX13 314 RX13 yX13_laysAside wsX13_laysAside) := goodIn_app (goodIn_of _ (by decide +kernel)) ggX13_stamp_X13_laysAside
set_option maxRecDepth 20000 in
theorem ggX13_stamp_X13_presses : GoodIn wsX13_stamp wsX13_presses := goodIn_r _ [31, 25, 16, 12, 13, 14, 5, 15, 9, 10, 11, 32, 33, 34, 35, 36, 37, 44, 45, 46, 47, 48, 49, 50, 51, 52, 53, 54, 55, 56, 57, 58, 59, 60, 61, 62, 63, 64, 65, 66, 67, 68, 69, 70, 71, 72, 73, 74, 75, 76, 77, 78, 79, 80, 81, 82, 83, 84, 85, 86, 87, 88, 89, 90, 91] (by decide +kernel) (by decide +kernel)
set_option maxRecDepth 20000 in
theorem gX13_stamp_X13_presses : GoodIn wsX13_stamp (wsV RX13 425 RX13 yX13_presses wsX13_presses) := goodIn_app (goodIn_of _ (by decide +kernel)) ggX13_stamp_X13_presses
set_option maxRecDepth 20000 in
theorem ggX13_stamp_X13_keeps : GoodIn wsX13_stamp wsX13_keeps := goodIn_r _ [41, 25, 24, 27, 26, 42, 43, 17, 18, 5, 19, 44, 45, 46, 47, 48, 49, 50, 51, 52, 53, 54, 55, 56, 57, 58, 59, 60, 61, 62, 63, 64, 65, 66, 67, 68, 69, 70, 71, 72, 73, 74, 75, 76, 77, 78, 79, 80, 81, 82, 83, 84, 85, 86, 87, 88, 89, 90, 91] (by decide +kernel) (by decide +kernel)
set_option maxRecDepth 20000 in
theorem gX13_stamp_X13_keeps : GoodIn wsX13_stamp (wsV RX13 368 RX13 yX13_keeps wsX13_keeps) := goodIn_app (goodIn_of _ (by decide +kernel)) ggX13_stamp_X13_keeps
theorem dX13_stamp_0 : decode cX13_stamp 0 = .ok (.iload_n 1, 1) := by decide +kernel
theorem dX13_stamp_1 : decode cX13_stamp 1 = .ok (.iload_n 2, 1) := by decide +kernel
theorem dX13_stamp_2 : decode cX13_stamp 2 = .ok (.invokestatic 419, 3) := by decide +kernel
theorem dX13_stamp_5 : decode cX13_stamp 5 = .ok (.ifCond .eq 17, 3) := by decide +kernel
theorem dX13_stamp_8 : decode cX13_stamp 8 = .ok (.aload_n 0, 1) := by decide +kernel
theorem dX13_stamp_9 : decode cX13_stamp 9 = .ok (.iload_n 3, 1) := by decide +kernel
theorem dX13_stamp_10 : decode cX13_stamp 10 = .ok (.iload 4, 2) := by decide +kernel
theorem dX13_stamp_12 : decode cX13_stamp 12 = .ok (.invokevirtual 195, 3) := by decide +kernel
theorem dX13_stamp_15 : decode cX13_stamp 15 = .ok (.ifCond .eq 7, 3) := by decide +kernel
theorem dX13_stamp_18 : decode cX13_stamp 18 = .ok (.iconst 1, 1) := by decide +kernel
theorem dX13_stamp_19 : decode cX13_stamp 19 = .ok (.goto 4, 3) := by decide +kernel
theorem dX13_stamp_22 : decode cX13_stamp 22 = .ok (.iconst 0, 1) := by decide +kernel
theorem dX13_stamp_23 : decode cX13_stamp 23 = .ok (.istore 5, 2) := by decide +kernel
theorem dX13_stamp_25 : decode cX13_stamp 25 = .ok (.aload_n 0, 1) := by decide +kernel
theorem dX13_stamp_26 : decode cX13_stamp 26 = .ok (.iload 5, 2) := by decide +kernel
theorem dX13_stamp_28 : decode cX13_stamp 28 = .ok (.ifCond .ne 7, 3) := by decide +kernel
theorem dX13_stamp_31 : decode cX13_stamp 31 = .ok (.iconst 1, 1) := by decide +kernel
theorem dX13_stamp_32 : decode cX13_stamp 32 = .ok (.goto 27, 3) := by decide +kernel
theorem dX13_stamp_35 : decode cX13_stamp 35 = .ok (.aload_n 0, 1) := by decide +kernel
theorem dX13_stamp_36 : decode cX13_stamp 36 = .ok (.getfield 54, 3) := by decide +kernel
theorem dX13_stamp_39 : decode cX13_stamp 39 = .ok (.iconst 4, 1) := by decide +kernel
theorem dX13_stamp_40 : decode cX13_stamp 40 = .ok (.iload_n 1, 1) := by decide +kernel
theorem dX13_stamp_41 : decode cX13_stamp 41 = .ok (.imul, 1) := by decide +kernel
theorem dX13_stamp_42 : decode cX13_stamp 42 = .ok (.iload_n 2, 1) := by decide +kernel
theorem dX13_stamp_43 : decode cX13_stamp 43 = .ok (.iadd, 1) := by decide +kernel
theorem dX13_stamp_44 : decode cX13_stamp 44 = .ok (.iaload, 1) := by decide +kernel
theorem dX13_stamp_45 : decode cX13_stamp 45 = .ok (.iconst (-1), 1) := by decide +kernel
theorem dX13_stamp_46 : decode cX13_stamp 46 = .ok (.if_icmp .ne 7, 3) := by decide +kernel
theorem dX13_stamp_49 : decode cX13_stamp 49 = .ok (.iconst 1, 1) := by decide +kernel
theorem dX13_stamp_50 : decode cX13_stamp 50 = .ok (.goto 4, 3) := by decide +kernel
theorem dX13_stamp_53 : decode cX13_stamp 53 = .ok (.iconst 0, 1) := by decide +kernel
theorem dX13_stamp_54 : decode cX13_stamp 54 = .ok (.invokestatic 96, 3) := by decide +kernel
theorem dX13_stamp_57 : decode cX13_stamp 57 = .ok (.iconst 2, 1) := by decide +kernel
theorem dX13_stamp_58 : decode cX13_stamp 58 = .ok (.imul, 1) := by decide +kernel
theorem dX13_stamp_59 : decode cX13_stamp 59 = .ok (.putfield 93, 3) := by decide +kernel
theorem dX13_stamp_62 : decode cX13_stamp 62 = .ok (.aload_n 0, 1) := by decide +kernel
theorem dX13_stamp_63 : decode cX13_stamp 63 = .ok (.getfield 93, 3) := by decide +kernel
theorem dX13_stamp_66 : decode cX13_stamp 66 = .ok (.ifCond .le 5, 3) := by decide +kernel
theorem dX13_stamp_69 : decode cX13_stamp 69 = .ok (.iconst 0, 1) := by decide +kernel
theorem dX13_stamp_70 : decode cX13_stamp 70 = .ok (.ireturn, 1) := by decide +kernel
theorem dX13_stamp_71 : decode cX13_stamp 71 = .ok (.aload_n 0, 1) := by decide +kernel
theorem dX13_stamp_72 : decode cX13_stamp 72 = .ok (.invokevirtual 314, 3) := by decide +kernel
theorem dX13_stamp_75 : decode cX13_stamp 75 = .ok (.aload_n 0, 1) := by decide +kernel
theorem dX13_stamp_76 : decode cX13_stamp 76 = .ok (.aload_n 0, 1) := by decide +kernel
theorem dX13_stamp_77 : decode cX13_stamp 77 = .ok (.getfield 54, 3) := by decide +kernel
theorem dX13_stamp_80 : decode cX13_stamp 80 = .ok (.iconst 4, 1) := by decide +kernel
theorem dX13_stamp_81 : decode cX13_stamp 81 = .ok (.iload_n 1, 1) := by decide +kernel
theorem dX13_stamp_82 : decode cX13_stamp 82 = .ok (.imul, 1) := by decide +kernel
theorem dX13_stamp_83 : decode cX13_stamp 83 = .ok (.iload_n 2, 1) := by decide +kernel
theorem dX13_stamp_84 : decode cX13_stamp 84 = .ok (.iadd, 1) := by decide +kernel
theorem dX13_stamp_85 : decode cX13_stamp 85 = .ok (.iaload, 1) := by decide +kernel
theorem dX13_stamp_86 : decode cX13_stamp 86 = .ok (.iload_n 3, 1) := by decide +kernel
theorem dX13_stamp_87 : decode cX13_stamp 87 = .ok (.iload 4, 2) := by decide +kernel
theorem dX13_stamp_89 : decode cX13_stamp 89 = .ok (.invokevirtual 425, 3) := by decide +kernel
theorem dX13_stamp_92 : decode cX13_stamp 92 = .ok (.aload_n 0, 1) := by decide +kernel
theorem dX13_stamp_93 : decode cX13_stamp 93 = .ok (.invokevirtual 368, 3) := by decide +kernel
theorem dX13_stamp_96 : decode cX13_stamp 96 = .ok (.ireturn, 1) := by decide +kernel
set_option maxRecDepth 20000 in
theorem ggX13_stampGain_X13_isPlace : GoodIn wsX13_stampGain wsX13_isPlace := goodIn_r _ [8, 9, 10, 11, 12, 7, 13] (by decide +kernel) (by decide +kernel)
set_option maxRecDepth 20000 in
theorem gX13_stampGain_X13_isPlace : GoodIn wsX13_stampGain (va_wsS RX13 419 yX13_isPlace wsX13_isPlace) := goodIn_app (goodIn_of _ (by decide +kernel)) ggX13_stampGain_X13_isPlace
set_option maxRecDepth 20000 in
theorem ggX13_stampGain_X13_isCell : GoodIn wsX13_stampGain wsX13_isCell := goodIn_r _ [17, 18, 11, 12, 7, 13, 50, 51, 52, 53, 54, 55, 56, 57, 58, 59, 60, 61, 62, 63, 64, 65, 66, 67, 68, 69, 70, 71, 72, 73, 74, 75, 76, 77, 78, 79, 80, 81, 82, 83, 84, 85, 86, 87, 88, 89, 90, 91, 92, 93, 94, 95, 96, 97] (by decide +kernel) (by decide +kernel)
set_option maxRecDepth 20000 in
theorem gX13_stampGain_X13_isCell : GoodIn wsX13_stampGain (wsV RX13 195 RX13 yX13_isCell wsX13_isCell) := goodIn_app (goodIn_of _ (by decide +kernel)) ggX13_stampGain_X13_isCell
set_option maxRecDepth 20000 in
theorem ggX13_stampGain_X13_truth : GoodIn wsX13_stampGain wsX13_truth := goodIn_r _ [21] (by decide +kernel) (by decide +kernel)
set_option maxRecDepth 20000 in
theorem gX13_stampGain_X13_truth : GoodIn wsX13_stampGain (va_wsS RX13 96 yX13_truth wsX13_truth) := goodIn_app (goodIn_of _ (by decide +kernel)) ggX13_stampGain_X13_truth
set_option maxRecDepth 20000 in
theorem ggX13_stampGain_X13_laysAside : GoodIn wsX13_stampGain wsX13_laysAside := goodIn_r _ [25, 4, 3, 26, 27, 50, 51, 52, 53, 54, 55, 56, 57, 58, 59, 60, 61, 62, 63, 64, 65, 66, 67, 68, 69, 70, 71, 72, 73, 74, 75, 76, 77, 78, 79, 80, 81, 82, 83, 84, 85, 86, 87, 88, 89, 90, 91, 92, 93, 94, 95, 96, 97] (by decide +kernel) (by decide +kernel)
set_option maxRecDepth 20000 in
theorem gX13_stampGain_X13_laysAside : GoodIn wsX13_stampGain (wsV RX13 314 RX13 yX13_laysAside wsX13_laysAside) := goodIn_app (goodIn_of _ (by decide +kernel)) ggX13_stampGain_X13_laysAside
set_option maxRecDepth 20000 in
theorem ggX13_stampGain_X13_volumeNow : GoodIn wsX13_stampGain wsX13_volumeNow := goodIn_r _ [31, 3, 32, 33, 34, 7, 35, 18, 36, 37, 38, 39, 50, 51, 52, 53, 54, 55, 56, 57, 58, 59, 60, 61, 62, 63, 64, 65, 66, 67, 68, 69, 70, 71, 72, 73, 74, 75, 76, 77, 78, 79, 80, 81, 82, 83, 84, 85, 86, 87, 88, 89, 90, 91, 92, 93, 94, 95, 96, 97] (by decide +kernel) (by decide +kernel)
set_option maxRecDepth 20000 in
theorem gX13_stampGain_X13_volumeNow : GoodIn wsX13_stampGain (wsV RX13 258 RX13 yX13_volumeNow wsX13_volumeNow) := goodIn_app (goodIn_of _ (by decide +kernel)) ggX13_stampGain_X13_volumeNow
set_option maxRecDepth 20000 in
theorem ggX13_stampGain_X13_presses : GoodIn wsX13_stampGain wsX13_presses := goodIn_r _ [43, 3, 18, 14, 15, 16, 7, 17, 11, 12, 13, 44, 45, 46, 47, 48, 49, 50, 51, 52, 53, 54, 55, 56, 57, 58, 59, 60, 61, 62, 63, 64, 65, 66, 67, 68, 69, 70, 71, 72, 73, 74, 75, 76, 77, 78, 79, 80, 81, 82, 83, 84, 85, 86, 87, 88, 89, 90, 91, 92, 93, 94, 95, 96, 97] (by decide +kernel) (by decide +kernel)
set_option maxRecDepth 20000 in
theorem gX13_stampGain_X13_presses : GoodIn wsX13_stampGain (wsV RX13 425 RX13 yX13_presses wsX13_presses) := goodIn_app (goodIn_of _ (by decide +kernel)) ggX13_stampGain_X13_presses
theorem dX13_stampGain_0 : decode cX13_stampGain 0 = .ok (.iload_n 1, 1) := by decide +kernel
theorem dX13_stampGain_1 : decode cX13_stampGain 1 = .ok (.iload_n 2, 1) := by decide +kernel
theorem dX13_stampGain_2 : decode cX13_stampGain 2 = .ok (.invokestatic 419, 3) := by decide +kernel
theorem dX13_stampGain_5 : decode cX13_stampGain 5 = .ok (.ifCond .eq 17, 3) := by decide +kernel
theorem dX13_stampGain_8 : decode cX13_stampGain 8 = .ok (.aload_n 0, 1) := by decide +kernel
theorem dX13_stampGain_9 : decode cX13_stampGain 9 = .ok (.iload_n 3, 1) := by decide +kernel
theorem dX13_stampGain_10 : decode cX13_stampGain 10 = .ok (.iload 4, 2) := by decide +kernel
theorem dX13_stampGain_12 : decode cX13_stampGain 12 = .ok (.invokevirtual 195, 3) := by decide +kernel
theorem dX13_stampGain_15 : decode cX13_stampGain 15 = .ok (.ifCond .eq 7, 3) := by decide +kernel
theorem dX13_stampGain_18 : decode cX13_stampGain 18 = .ok (.iconst 1, 1) := by decide +kernel
theorem dX13_stampGain_19 : decode cX13_stampGain 19 = .ok (.goto 4, 3) := by decide +kernel
theorem dX13_stampGain_22 : decode cX13_stampGain 22 = .ok (.iconst 0, 1) := by decide +kernel
theorem dX13_stampGain_23 : decode cX13_stampGain 23 = .ok (.istore 5, 2) := by decide +kernel
theorem dX13_stampGain_25 : decode cX13_stampGain 25 = .ok (.aload_n 0, 1) := by decide +kernel
theorem dX13_stampGain_26 : decode cX13_stampGain 26 = .ok (.iload 5, 2) := by decide +kernel
theorem dX13_stampGain_28 : decode cX13_stampGain 28 = .ok (.ifCond .ne 7, 3) := by decide +kernel
theorem dX13_stampGain_31 : decode cX13_stampGain 31 = .ok (.iconst 1, 1) := by decide +kernel
theorem dX13_stampGain_32 : decode cX13_stampGain 32 = .ok (.goto 27, 3) := by decide +kernel
theorem dX13_stampGain_35 : decode cX13_stampGain 35 = .ok (.aload_n 0, 1) := by decide +kernel
theorem dX13_stampGain_36 : decode cX13_stampGain 36 = .ok (.getfield 54, 3) := by decide +kernel
theorem dX13_stampGain_39 : decode cX13_stampGain 39 = .ok (.iconst 4, 1) := by decide +kernel
theorem dX13_stampGain_40 : decode cX13_stampGain 40 = .ok (.iload_n 1, 1) := by decide +kernel
theorem dX13_stampGain_41 : decode cX13_stampGain 41 = .ok (.imul, 1) := by decide +kernel
theorem dX13_stampGain_42 : decode cX13_stampGain 42 = .ok (.iload_n 2, 1) := by decide +kernel
theorem dX13_stampGain_43 : decode cX13_stampGain 43 = .ok (.iadd, 1) := by decide +kernel
theorem dX13_stampGain_44 : decode cX13_stampGain 44 = .ok (.iaload, 1) := by decide +kernel
theorem dX13_stampGain_45 : decode cX13_stampGain 45 = .ok (.iconst (-1), 1) := by decide +kernel
theorem dX13_stampGain_46 : decode cX13_stampGain 46 = .ok (.if_icmp .ne 7, 3) := by decide +kernel
theorem dX13_stampGain_49 : decode cX13_stampGain 49 = .ok (.iconst 1, 1) := by decide +kernel
theorem dX13_stampGain_50 : decode cX13_stampGain 50 = .ok (.goto 4, 3) := by decide +kernel
theorem dX13_stampGain_53 : decode cX13_stampGain 53 = .ok (.iconst 0, 1) := by decide +kernel
theorem dX13_stampGain_54 : decode cX13_stampGain 54 = .ok (.invokestatic 96, 3) := by decide +kernel
theorem dX13_stampGain_57 : decode cX13_stampGain 57 = .ok (.iconst 2, 1) := by decide +kernel
theorem dX13_stampGain_58 : decode cX13_stampGain 58 = .ok (.imul, 1) := by decide +kernel
theorem dX13_stampGain_59 : decode cX13_stampGain 59 = .ok (.putfield 93, 3) := by decide +kernel
theorem dX13_stampGain_62 : decode cX13_stampGain 62 = .ok (.aload_n 0, 1) := by decide +kernel
theorem dX13_stampGain_63 : decode cX13_stampGain 63 = .ok (.getfield 93, 3) := by decide +kernel
theorem dX13_stampGain_66 : decode cX13_stampGain 66 = .ok (.ifCond .le 5, 3) := by decide +kernel
theorem dX13_stampGain_69 : decode cX13_stampGain 69 = .ok (.iconst 0, 1) := by decide +kernel
theorem dX13_stampGain_70 : decode cX13_stampGain 70 = .ok (.ireturn, 1) := by decide +kernel
theorem dX13_stampGain_71 : decode cX13_stampGain 71 = .ok (.aload_n 0, 1) := by decide +kernel
theorem dX13_stampGain_72 : decode cX13_stampGain 72 = .ok (.invokevirtual 314, 3) := by decide +kernel
theorem dX13_stampGain_75 : decode cX13_stampGain 75 = .ok (.aload_n 0, 1) := by decide +kernel
theorem dX13_stampGain_76 : decode cX13_stampGain 76 = .ok (.invokevirtual 258, 3) := by decide +kernel
theorem dX13_stampGain_79 : decode cX13_stampGain 79 = .ok (.istore 6, 2) := by decide +kernel
theorem dX13_stampGain_81 : decode cX13_stampGain 81 = .ok (.aload_n 0, 1) := by decide +kernel
theorem dX13_stampGain_82 : decode cX13_stampGain 82 = .ok (.aload_n 0, 1) := by decide +kernel
theorem dX13_stampGain_83 : decode cX13_stampGain 83 = .ok (.getfield 54, 3) := by decide +kernel
theorem dX13_stampGain_86 : decode cX13_stampGain 86 = .ok (.iconst 4, 1) := by decide +kernel
theorem dX13_stampGain_87 : decode cX13_stampGain 87 = .ok (.iload_n 1, 1) := by decide +kernel
theorem dX13_stampGain_88 : decode cX13_stampGain 88 = .ok (.imul, 1) := by decide +kernel
theorem dX13_stampGain_89 : decode cX13_stampGain 89 = .ok (.iload_n 2, 1) := by decide +kernel
theorem dX13_stampGain_90 : decode cX13_stampGain 90 = .ok (.iadd, 1) := by decide +kernel
theorem dX13_stampGain_91 : decode cX13_stampGain 91 = .ok (.iaload, 1) := by decide +kernel
theorem dX13_stampGain_92 : decode cX13_stampGain 92 = .ok (.iload_n 3, 1) := by decide +kernel
theorem dX13_stampGain_93 : decode cX13_stampGain 93 = .ok (.iload 4, 2) := by decide +kernel
theorem dX13_stampGain_95 : decode cX13_stampGain 95 = .ok (.invokevirtual 425, 3) := by decide +kernel
theorem dX13_stampGain_98 : decode cX13_stampGain 98 = .ok (.aload_n 0, 1) := by decide +kernel
theorem dX13_stampGain_99 : decode cX13_stampGain 99 = .ok (.invokevirtual 258, 3) := by decide +kernel
theorem dX13_stampGain_102 : decode cX13_stampGain 102 = .ok (.iload 6, 2) := by decide +kernel
theorem dX13_stampGain_104 : decode cX13_stampGain 104 = .ok (.isub, 1) := by decide +kernel
theorem dX13_stampGain_105 : decode cX13_stampGain 105 = .ok (.istore 7, 2) := by decide +kernel
theorem dX13_stampGain_107 : decode cX13_stampGain 107 = .ok (.iconst 0, 1) := by decide +kernel
theorem dX13_stampGain_108 : decode cX13_stampGain 108 = .ok (.istore 8, 2) := by decide +kernel
theorem dX13_stampGain_110 : decode cX13_stampGain 110 = .ok (.iload 8, 2) := by decide +kernel
theorem dX13_stampGain_112 : decode cX13_stampGain 112 = .ok (.sipush 192, 3) := by decide +kernel
theorem dX13_stampGain_115 : decode cX13_stampGain 115 = .ok (.if_icmp .ge 23, 3) := by decide +kernel
theorem dX13_stampGain_118 : decode cX13_stampGain 118 = .ok (.aload_n 0, 1) := by decide +kernel
theorem dX13_stampGain_119 : decode cX13_stampGain 119 = .ok (.getfield 29, 3) := by decide +kernel
theorem dX13_stampGain_122 : decode cX13_stampGain 122 = .ok (.iload 8, 2) := by decide +kernel
theorem dX13_stampGain_124 : decode cX13_stampGain 124 = .ok (.aload_n 0, 1) := by decide +kernel
theorem dX13_stampGain_125 : decode cX13_stampGain 125 = .ok (.getfield 39, 3) := by decide +kernel
theorem dX13_stampGain_128 : decode cX13_stampGain 128 = .ok (.iload 8, 2) := by decide +kernel
theorem dX13_stampGain_130 : decode cX13_stampGain 130 = .ok (.iaload, 1) := by decide +kernel
theorem dX13_stampGain_131 : decode cX13_stampGain 131 = .ok (.iastore, 1) := by decide +kernel
theorem dX13_stampGain_132 : decode cX13_stampGain 132 = .ok (.iinc 8 1, 3) := by decide +kernel
theorem dX13_stampGain_135 : decode cX13_stampGain 135 = .ok (.goto (-25), 3) := by decide +kernel
theorem dX13_stampGain_138 : decode cX13_stampGain 138 = .ok (.iload 7, 2) := by decide +kernel
theorem dX13_stampGain_140 : decode cX13_stampGain 140 = .ok (.ireturn, 1) := by decide +kernel
set_option maxRecDepth 20000 in
theorem ggX13_commandHere_X13_isWord : GoodIn wsX13_commandHere wsX13_isWord := goodIn_r _ [17, 18, 19, 20, 21, 22, 23, 24, 25, 26, 27, 28, 29, 30, 31, 32, 33, 34, 35, 36, 37, 38, 39, 40, 41, 42, 43, 44, 45, 46, 47, 48, 49, 50, 51, 52, 53, 54, 55, 56, 57, 58, 59, 60, 61, 62, 63, 64, 65, 66, 67, 68] (by decide +kernel) (by decide +kernel)
set_option maxRecDepth 20000 in
theorem gX13_commandHere_X13_isWord : GoodIn wsX13_commandHere (wsV RX13 152 RX13 yX13_isWord wsX13_isWord) := goodIn_app (goodIn_of _ (by decide +kernel)) ggX13_commandHere_X13_isWord
theorem dX13_commandHere_0 : decode cX13_commandHere 0 = .ok (.aload_n 0, 1) := by decide +kernel
theorem dX13_commandHere_1 : decode cX13_commandHere 1 = .ok (.ldc2_w 428, 3) := by decide +kernel
theorem dX13_commandHere_4 : decode cX13_commandHere 4 = .ok (.invokevirtual 152, 3) := by decide +kernel
theorem dX13_commandHere_7 : decode cX13_commandHere 7 = .ok (.ifCond .eq 5, 3) := by decide +kernel
theorem dX13_commandHere_10 : decode cX13_commandHere 10 = .ok (.iconst 0, 1) := by decide +kernel
theorem dX13_commandHere_11 : decode cX13_commandHere 11 = .ok (.ireturn, 1) := by decide +kernel
theorem dX13_commandHere_12 : decode cX13_commandHere 12 = .ok (.aload_n 0, 1) := by decide +kernel
theorem dX13_commandHere_13 : decode cX13_commandHere 13 = .ok (.ldc2_w 430, 3) := by decide +kernel
theorem dX13_commandHere_16 : decode cX13_commandHere 16 = .ok (.invokevirtual 152, 3) := by decide +kernel
theorem dX13_commandHere_19 : decode cX13_commandHere 19 = .ok (.ifCond .eq 5, 3) := by decide +kernel
theorem dX13_commandHere_22 : decode cX13_commandHere 22 = .ok (.iconst 1, 1) := by decide +kernel
theorem dX13_commandHere_23 : decode cX13_commandHere 23 = .ok (.ireturn, 1) := by decide +kernel
theorem dX13_commandHere_24 : decode cX13_commandHere 24 = .ok (.aload_n 0, 1) := by decide +kernel
theorem dX13_commandHere_25 : decode cX13_commandHere 25 = .ok (.ldc2_w 432, 3) := by decide +kernel
theorem dX13_commandHere_28 : decode cX13_commandHere 28 = .ok (.invokevirtual 152, 3) := by decide +kernel
theorem dX13_commandHere_31 : decode cX13_commandHere 31 = .ok (.ifCond .eq 5, 3) := by decide +kernel
theorem dX13_commandHere_34 : decode cX13_commandHere 34 = .ok (.iconst 2, 1) := by decide +kernel
theorem dX13_commandHere_35 : decode cX13_commandHere 35 = .ok (.ireturn, 1) := by decide +kernel
theorem dX13_commandHere_36 : decode cX13_commandHere 36 = .ok (.aload_n 0, 1) := by decide +kernel
theorem dX13_commandHere_37 : decode cX13_commandHere 37 = .ok (.ldc2_w 434, 3) := by decide +kernel
theorem dX13_commandHere_40 : decode cX13_commandHere 40 = .ok (.invokevirtual 152, 3) := by decide +kernel
theorem dX13_commandHere_43 : decode cX13_commandHere 43 = .ok (.ifCond .eq 5, 3) := by decide +kernel
theorem dX13_commandHere_46 : decode cX13_commandHere 46 = .ok (.iconst 3, 1) := by decide +kernel
theorem dX13_commandHere_47 : decode cX13_commandHere 47 = .ok (.ireturn, 1) := by decide +kernel
theorem dX13_commandHere_48 : decode cX13_commandHere 48 = .ok (.aload_n 0, 1) := by decide +kernel
theorem dX13_commandHere_49 : decode cX13_commandHere 49 = .ok (.ldc2_w 436, 3) := by decide +kernel
theorem dX13_commandHere_52 : decode cX13_commandHere 52 = .ok (.invokevirtual 152, 3) := by decide +kernel
theorem dX13_commandHere_55 : decode cX13_commandHere 55 = .ok (.ifCond .eq 5, 3) := by decide +kernel
theorem dX13_commandHere_58 : decode cX13_commandHere 58 = .ok (.iconst 4, 1) := by decide +kernel
theorem dX13_commandHere_59 : decode cX13_commandHere 59 = .ok (.ireturn, 1) := by decide +kernel
theorem dX13_commandHere_60 : decode cX13_commandHere 60 = .ok (.aload_n 0, 1) := by decide +kernel
theorem dX13_commandHere_61 : decode cX13_commandHere 61 = .ok (.ldc2_w 438, 3) := by decide +kernel
theorem dX13_commandHere_64 : decode cX13_commandHere 64 = .ok (.invokevirtual 152, 3) := by decide +kernel
theorem dX13_commandHere_67 : decode cX13_commandHere 67 = .ok (.ifCond .eq 6, 3) := by decide +kernel
theorem dX13_commandHere_70 : decode cX13_commandHere 70 = .ok (.bipush 6, 2) := by decide +kernel
theorem dX13_commandHere_72 : decode cX13_commandHere 72 = .ok (.ireturn, 1) := by decide +kernel
theorem dX13_commandHere_73 : decode cX13_commandHere 73 = .ok (.aload_n 0, 1) := by decide +kernel
theorem dX13_commandHere_74 : decode cX13_commandHere 74 = .ok (.ldc2_w 440, 3) := by decide +kernel
theorem dX13_commandHere_77 : decode cX13_commandHere 77 = .ok (.invokevirtual 152, 3) := by decide +kernel
theorem dX13_commandHere_80 : decode cX13_commandHere 80 = .ok (.ifCond .eq 5, 3) := by decide +kernel
theorem dX13_commandHere_83 : decode cX13_commandHere 83 = .ok (.iconst 5, 1) := by decide +kernel
theorem dX13_commandHere_84 : decode cX13_commandHere 84 = .ok (.ireturn, 1) := by decide +kernel
theorem dX13_commandHere_85 : decode cX13_commandHere 85 = .ok (.aload_n 0, 1) := by decide +kernel
theorem dX13_commandHere_86 : decode cX13_commandHere 86 = .ok (.ldc2_w 442, 3) := by decide +kernel
theorem dX13_commandHere_89 : decode cX13_commandHere 89 = .ok (.invokevirtual 152, 3) := by decide +kernel
theorem dX13_commandHere_92 : decode cX13_commandHere 92 = .ok (.ifCond .eq 6, 3) := by decide +kernel
theorem dX13_commandHere_95 : decode cX13_commandHere 95 = .ok (.bipush 7, 2) := by decide +kernel
theorem dX13_commandHere_97 : decode cX13_commandHere 97 = .ok (.ireturn, 1) := by decide +kernel
theorem dX13_commandHere_98 : decode cX13_commandHere 98 = .ok (.aload_n 0, 1) := by decide +kernel
theorem dX13_commandHere_99 : decode cX13_commandHere 99 = .ok (.ldc2_w 444, 3) := by decide +kernel
theorem dX13_commandHere_102 : decode cX13_commandHere 102 = .ok (.invokevirtual 152, 3) := by decide +kernel
theorem dX13_commandHere_105 : decode cX13_commandHere 105 = .ok (.ifCond .eq 6, 3) := by decide +kernel
theorem dX13_commandHere_108 : decode cX13_commandHere 108 = .ok (.bipush 8, 2) := by decide +kernel
theorem dX13_commandHere_110 : decode cX13_commandHere 110 = .ok (.ireturn, 1) := by decide +kernel
theorem dX13_commandHere_111 : decode cX13_commandHere 111 = .ok (.aload_n 0, 1) := by decide +kernel
theorem dX13_commandHere_112 : decode cX13_commandHere 112 = .ok (.ldc2_w 446, 3) := by decide +kernel
theorem dX13_commandHere_115 : decode cX13_commandHere 115 = .ok (.invokevirtual 152, 3) := by decide +kernel
theorem dX13_commandHere_118 : decode cX13_commandHere 118 = .ok (.ifCond .eq 6, 3) := by decide +kernel
theorem dX13_commandHere_121 : decode cX13_commandHere 121 = .ok (.bipush 9, 2) := by decide +kernel
theorem dX13_commandHere_123 : decode cX13_commandHere 123 = .ok (.ireturn, 1) := by decide +kernel
theorem dX13_commandHere_124 : decode cX13_commandHere 124 = .ok (.aload_n 0, 1) := by decide +kernel
theorem dX13_commandHere_125 : decode cX13_commandHere 125 = .ok (.ldc2_w 448, 3) := by decide +kernel
theorem dX13_commandHere_128 : decode cX13_commandHere 128 = .ok (.invokevirtual 152, 3) := by decide +kernel
theorem dX13_commandHere_131 : decode cX13_commandHere 131 = .ok (.ifCond .eq 6, 3) := by decide +kernel
theorem dX13_commandHere_134 : decode cX13_commandHere 134 = .ok (.bipush 10, 2) := by decide +kernel
theorem dX13_commandHere_136 : decode cX13_commandHere 136 = .ok (.ireturn, 1) := by decide +kernel
theorem dX13_commandHere_137 : decode cX13_commandHere 137 = .ok (.aload_n 0, 1) := by decide +kernel
theorem dX13_commandHere_138 : decode cX13_commandHere 138 = .ok (.ldc2_w 450, 3) := by decide +kernel
theorem dX13_commandHere_141 : decode cX13_commandHere 141 = .ok (.invokevirtual 152, 3) := by decide +kernel
theorem dX13_commandHere_144 : decode cX13_commandHere 144 = .ok (.ifCond .eq 8, 3) := by decide +kernel
theorem dX13_commandHere_147 : decode cX13_commandHere 147 = .ok (.bipush 11, 2) := by decide +kernel
theorem dX13_commandHere_149 : decode cX13_commandHere 149 = .ok (.goto 4, 3) := by decide +kernel
theorem dX13_commandHere_152 : decode cX13_commandHere 152 = .ok (.iconst (-1), 1) := by decide +kernel
theorem dX13_commandHere_153 : decode cX13_commandHere 153 = .ok (.ireturn, 1) := by decide +kernel
theorem dX13_numbersOf_0 : decode cX13_numbersOf 0 = .ok (.iload_n 0, 1) := by decide +kernel
theorem dX13_numbersOf_1 : decode cX13_numbersOf 1 = .ok (.ifCond .eq 8, 3) := by decide +kernel
theorem dX13_numbersOf_4 : decode cX13_numbersOf 4 = .ok (.iload_n 0, 1) := by decide +kernel
theorem dX13_numbersOf_5 : decode cX13_numbersOf 5 = .ok (.iconst 1, 1) := by decide +kernel
theorem dX13_numbersOf_6 : decode cX13_numbersOf 6 = .ok (.if_icmp .ne 7, 3) := by decide +kernel
theorem dX13_numbersOf_9 : decode cX13_numbersOf 9 = .ok (.iconst 3, 1) := by decide +kernel
theorem dX13_numbersOf_10 : decode cX13_numbersOf 10 = .ok (.goto 37, 3) := by decide +kernel
theorem dX13_numbersOf_13 : decode cX13_numbersOf 13 = .ok (.iload_n 0, 1) := by decide +kernel
theorem dX13_numbersOf_14 : decode cX13_numbersOf 14 = .ok (.iconst 2, 1) := by decide +kernel
theorem dX13_numbersOf_15 : decode cX13_numbersOf 15 = .ok (.if_icmp .ne 7, 3) := by decide +kernel
theorem dX13_numbersOf_18 : decode cX13_numbersOf 18 = .ok (.iconst 5, 1) := by decide +kernel
theorem dX13_numbersOf_19 : decode cX13_numbersOf 19 = .ok (.goto 28, 3) := by decide +kernel
theorem dX13_numbersOf_22 : decode cX13_numbersOf 22 = .ok (.iload_n 0, 1) := by decide +kernel
theorem dX13_numbersOf_23 : decode cX13_numbersOf 23 = .ok (.iconst 3, 1) := by decide +kernel
theorem dX13_numbersOf_24 : decode cX13_numbersOf 24 = .ok (.if_icmp .ne 7, 3) := by decide +kernel
theorem dX13_numbersOf_27 : decode cX13_numbersOf 27 = .ok (.iconst 4, 1) := by decide +kernel
theorem dX13_numbersOf_28 : decode cX13_numbersOf 28 = .ok (.goto 19, 3) := by decide +kernel
theorem dX13_numbersOf_31 : decode cX13_numbersOf 31 = .ok (.iload_n 0, 1) := by decide +kernel
theorem dX13_numbersOf_32 : decode cX13_numbersOf 32 = .ok (.bipush 11, 2) := by decide +kernel
theorem dX13_numbersOf_34 : decode cX13_numbersOf 34 = .ok (.if_icmp .eq 8, 3) := by decide +kernel
theorem dX13_numbersOf_37 : decode cX13_numbersOf 37 = .ok (.iload_n 0, 1) := by decide +kernel
theorem dX13_numbersOf_38 : decode cX13_numbersOf 38 = .ok (.iconst 4, 1) := by decide +kernel
theorem dX13_numbersOf_39 : decode cX13_numbersOf 39 = .ok (.if_icmp .ne 7, 3) := by decide +kernel
theorem dX13_numbersOf_42 : decode cX13_numbersOf 42 = .ok (.iconst 1, 1) := by decide +kernel
theorem dX13_numbersOf_43 : decode cX13_numbersOf 43 = .ok (.goto 4, 3) := by decide +kernel
theorem dX13_numbersOf_46 : decode cX13_numbersOf 46 = .ok (.iconst 0, 1) := by decide +kernel
theorem dX13_numbersOf_47 : decode cX13_numbersOf 47 = .ok (.ireturn, 1) := by decide +kernel
set_option maxRecDepth 20000 in
theorem ggX13_command_X13_commandHere : GoodIn wsX13_command wsX13_commandHere := goodIn_r _ [10, 11, 12, 13, 14, 15, 16, 17, 18, 19, 20, 21, 22, 23, 24, 25, 9, 26, 27, 28, 29, 79, 80, 81, 82, 83, 84, 85, 86, 87, 88, 89, 90, 91, 92, 93, 94, 95, 96, 97, 98, 99, 100, 101, 102, 103, 104, 105, 106, 107, 108, 109, 110, 111, 112, 113, 114, 115, 116, 117, 118, 119, 120, 121, 122, 123, 124, 125, 126] (by decide +kernel) (by decide +kernel)
set_option maxRecDepth 20000 in
theorem gX13_command_X13_commandHere : GoodIn wsX13_command (wsV RX13 452 RX13 yX13_commandHere wsX13_commandHere) := goodIn_app (goodIn_of _ (by decide +kernel)) ggX13_command_X13_commandHere
set_option maxRecDepth 20000 in
theorem ggX13_command_X13_wrong : GoodIn wsX13_command wsX13_wrong := goodIn_r _ [33, 27, 28, 34, 35, 79, 80, 81, 82, 83, 84, 85, 86, 87, 88, 89, 90, 91, 92, 93, 94, 95, 96, 97, 98, 99, 100, 101, 102, 103, 104, 105, 106, 107, 108, 109, 110, 111, 112, 113, 114, 115, 116, 117, 118, 119, 120, 121, 122, 123, 124, 125, 126] (by decide +kernel) (by decide +kernel)
set_option maxRecDepth 20000 in
theorem gX13_command_X13_wrong : GoodIn wsX13_command (wsV RX13 156 RX13 yX13_wrong wsX13_wrong) := goodIn_app (goodIn_of _ (by decide +kernel)) ggX13_command_X13_wrong
set_option maxRecDepth 20000 in
theorem ggX13_command_X13_isGood : GoodIn wsX13_command wsX13_isGood := goodIn_r _ [39, 27, 79, 80, 81, 82, 83, 84, 85, 86, 87, 88, 89, 90, 91, 92, 93, 94, 95, 96, 97, 98, 99, 100, 101, 102, 103, 104, 105, 106, 107, 108, 109, 110, 111, 112, 113, 114, 115, 116, 117, 118, 119, 120, 121, 122, 123, 124, 125, 126] (by decide +kernel) (by decide +kernel)
set_option maxRecDepth 20000 in
theorem gX13_command_X13_isGood : GoodIn wsX13_command (wsV RX13 148 RX13 yX13_isGood wsX13_isGood) := goodIn_app (goodIn_of _ (by decide +kernel)) ggX13_command_X13_isGood
set_option maxRecDepth 20000 in
theorem ggX13_command_X13_goOn : GoodIn wsX13_command wsX13_goOn := goodIn_r _ [43, 44, 34, 29, 45, 28, 46, 47, 48, 9, 49, 50, 51, 52, 53, 54, 55, 56, 57, 79, 80, 81, 82, 83, 84, 85, 86, 87, 88, 89, 90, 91, 92, 93, 94, 95, 96, 97, 98, 99, 100, 101, 102, 103, 104, 105, 106, 107, 108, 109, 110, 111, 112, 113, 114, 115, 116, 117, 118, 119, 120, 121, 122, 123, 124, 125, 126] (by decide +kernel) (by decide +kernel)
set_option maxRecDepth 20000 in
theorem gX13_command_X13_goOn : GoodIn wsX13_command (wsV RX13 159 RX13 yX13_goOn wsX13_goOn) := goodIn_app (goodIn_of _ (by decide +kernel)) ggX13_command_X13_goOn
set_option maxRecDepth 20000 in
theorem ggX13_command_X13_numbersOf : GoodIn wsX13_command wsX13_numbersOf := goodIn_r _ [60] (by decide +kernel) (by decide +kernel)
set_option maxRecDepth 20000 in
theorem gX13_command_X13_numbersOf : GoodIn wsX13_command (va_wsS RX13 461 yX13_numbersOf wsX13_numbersOf) := goodIn_app (goodIn_of _ (by decide +kernel)) ggX13_command_X13_numbersOf
set_option maxRecDepth 20000 in
theorem ggX13_command_X13_number : GoodIn wsX13_command wsX13_number := goodIn_r _ [64, 28, 45, 36, 37, 38, 9, 39, 27, 30, 31, 32, 33, 34, 35, 65, 66, 67, 40, 41, 42, 43, 44, 29, 46, 47, 48, 49, 50, 51, 52, 53, 54, 55, 56, 57, 79, 80, 81, 82, 83, 84, 85, 86, 87, 88, 89, 90, 91, 92, 93, 94, 95, 96, 97, 98, 99, 100, 101, 102, 103, 104, 105, 106, 107, 108, 109, 110, 111, 112, 113, 114, 115, 116, 117, 118, 119, 120, 121, 122, 123, 124, 125, 126] (by decide +kernel) (by decide +kernel)
set_option maxRecDepth 20000 in
theorem gX13_command_X13_number : GoodIn wsX13_command (wsV RX13 169 RX13 yX13_number wsX13_number) := goodIn_app (goodIn_of _ (by decide +kernel)) ggX13_command_X13_number
set_option maxRecDepth 20000 in
theorem ggX13_command_X13_mustSign : GoodIn wsX13_command wsX13_mustSign := goodIn_r _ [71, 36, 37, 38, 9, 39, 27, 72, 73, 74, 75, 28, 45, 30, 31, 32, 33, 34, 35, 40, 41, 42, 43, 44, 29, 46, 47, 48, 49, 50, 51, 52, 53, 54, 55, 56, 57, 79, 80, 81, 82, 83, 84, 85, 86, 87, 88, 89, 90, 91, 92, 93, 94, 95, 96, 97, 98, 99, 100, 101, 102, 103, 104, 105, 106, 107, 108, 109, 110, 111, 112, 113, 114, 115, 116, 117, 118, 119, 120, 121, 122, 123, 124, 125, 126] (by decide +kernel) (by decide +kernel)
set_option maxRecDepth 20000 in
theorem gX13_command_X13_mustSign : GoodIn wsX13_command (wsV RX13 243 RX13 yX13_mustSign wsX13_mustSign) := goodIn_app (goodIn_of _ (by decide +kernel)) ggX13_command_X13_mustSign
set_option maxRecDepth 20000 in
theorem ggX13_command_X13_truth : GoodIn wsX13_command wsX13_truth := goodIn_r _ [78] (by decide +kernel) (by decide +kernel)
set_option maxRecDepth 20000 in
theorem gX13_command_X13_truth : GoodIn wsX13_command (va_wsS RX13 96 yX13_truth wsX13_truth) := goodIn_app (goodIn_of _ (by decide +kernel)) ggX13_command_X13_truth
theorem dX13_command_0 : decode cX13_command 0 = .ok (.aload_n 0, 1) := by decide +kernel
theorem dX13_command_1 : decode cX13_command 1 = .ok (.invokevirtual 452, 3) := by decide +kernel
theorem dX13_command_4 : decode cX13_command 4 = .ok (.istore_n 1, 1) := by decide +kernel
theorem dX13_command_5 : decode cX13_command 5 = .ok (.iload_n 1, 1) := by decide +kernel
theorem dX13_command_6 : decode cX13_command 6 = .ok (.iconst (-1), 1) := by decide +kernel
theorem dX13_command_7 : decode cX13_command 7 = .ok (.if_icmp .ne 8, 3) := by decide +kernel
theorem dX13_command_10 : decode cX13_command 10 = .ok (.aload_n 0, 1) := by decide +kernel
theorem dX13_command_11 : decode cX13_command 11 = .ok (.iconst 1, 1) := by decide +kernel
theorem dX13_command_12 : decode cX13_command 12 = .ok (.invokevirtual 156, 3) := by decide +kernel
theorem dX13_command_15 : decode cX13_command 15 = .ok (.iload_n 1, 1) := by decide +kernel
theorem dX13_command_16 : decode cX13_command 16 = .ok (.bipush 11, 2) := by decide +kernel
theorem dX13_command_18 : decode cX13_command 18 = .ok (.if_icmp .ne 16, 3) := by decide +kernel
theorem dX13_command_21 : decode cX13_command 21 = .ok (.aload_n 0, 1) := by decide +kernel
theorem dX13_command_22 : decode cX13_command 22 = .ok (.getfield 455, 3) := by decide +kernel
theorem dX13_command_25 : decode cX13_command 25 = .ok (.iconst 2, 1) := by decide +kernel
theorem dX13_command_26 : decode cX13_command 26 = .ok (.if_icmp .ne 8, 3) := by decide +kernel
theorem dX13_command_29 : decode cX13_command 29 = .ok (.aload_n 0, 1) := by decide +kernel
theorem dX13_command_30 : decode cX13_command 30 = .ok (.iconst 3, 1) := by decide +kernel
theorem dX13_command_31 : decode cX13_command 31 = .ok (.invokevirtual 156, 3) := by decide +kernel
theorem dX13_command_34 : decode cX13_command 34 = .ok (.aload_n 0, 1) := by decide +kernel
theorem dX13_command_35 : decode cX13_command 35 = .ok (.getfield 458, 3) := by decide +kernel
theorem dX13_command_38 : decode cX13_command 38 = .ok (.bipush 30, 2) := by decide +kernel
theorem dX13_command_40 : decode cX13_command 40 = .ok (.if_icmp .ne 8, 3) := by decide +kernel
theorem dX13_command_43 : decode cX13_command 43 = .ok (.aload_n 0, 1) := by decide +kernel
theorem dX13_command_44 : decode cX13_command 44 = .ok (.iconst 5, 1) := by decide +kernel
theorem dX13_command_45 : decode cX13_command 45 = .ok (.invokevirtual 156, 3) := by decide +kernel
theorem dX13_command_48 : decode cX13_command 48 = .ok (.aload_n 0, 1) := by decide +kernel
theorem dX13_command_49 : decode cX13_command 49 = .ok (.invokevirtual 148, 3) := by decide +kernel
theorem dX13_command_52 : decode cX13_command 52 = .ok (.ifCond .ne 4, 3) := by decide +kernel
theorem dX13_command_55 : decode cX13_command 55 = .ok (.return_, 1) := by decide +kernel
theorem dX13_command_56 : decode cX13_command 56 = .ok (.aload_n 0, 1) := by decide +kernel
theorem dX13_command_57 : decode cX13_command 57 = .ok (.dup, 1) := by decide +kernel
theorem dX13_command_58 : decode cX13_command 58 = .ok (.getfield 458, 3) := by decide +kernel
theorem dX13_command_61 : decode cX13_command 61 = .ok (.iconst 1, 1) := by decide +kernel
theorem dX13_command_62 : decode cX13_command 62 = .ok (.iadd, 1) := by decide +kernel
theorem dX13_command_63 : decode cX13_command 63 = .ok (.putfield 458, 3) := by decide +kernel
theorem dX13_command_66 : decode cX13_command 66 = .ok (.aload_n 0, 1) := by decide +kernel
theorem dX13_command_67 : decode cX13_command 67 = .ok (.invokevirtual 159, 3) := by decide +kernel
theorem dX13_command_70 : decode cX13_command 70 = .ok (.iconst 0, 1) := by decide +kernel
theorem dX13_command_71 : decode cX13_command 71 = .ok (.istore_n 2, 1) := by decide +kernel
theorem dX13_command_72 : decode cX13_command 72 = .ok (.iload_n 2, 1) := by decide +kernel
theorem dX13_command_73 : decode cX13_command 73 = .ok (.iload_n 1, 1) := by decide +kernel
theorem dX13_command_74 : decode cX13_command 74 = .ok (.invokestatic 461, 3) := by decide +kernel
theorem dX13_command_77 : decode cX13_command 77 = .ok (.if_icmp .ge 54, 3) := by decide +kernel
theorem dX13_command_80 : decode cX13_command 80 = .ok (.aload_n 0, 1) := by decide +kernel
theorem dX13_command_81 : decode cX13_command 81 = .ok (.getfield 60, 3) := by decide +kernel
theorem dX13_command_84 : decode cX13_command 84 = .ok (.iconst 5, 1) := by decide +kernel
theorem dX13_command_85 : decode cX13_command 85 = .ok (.aload_n 0, 1) := by decide +kernel
theorem dX13_command_86 : decode cX13_command 86 = .ok (.getfield 464, 3) := by decide +kernel
theorem dX13_command_89 : decode cX13_command 89 = .ok (.imul, 1) := by decide +kernel
theorem dX13_command_90 : decode cX13_command 90 = .ok (.iload_n 2, 1) := by decide +kernel
theorem dX13_command_91 : decode cX13_command 91 = .ok (.iadd, 1) := by decide +kernel
theorem dX13_command_92 : decode cX13_command 92 = .ok (.aload_n 0, 1) := by decide +kernel
theorem dX13_command_93 : decode cX13_command 93 = .ok (.iload_n 1, 1) := by decide +kernel
theorem dX13_command_94 : decode cX13_command 94 = .ok (.bipush 11, 2) := by decide +kernel
theorem dX13_command_96 : decode cX13_command 96 = .ok (.if_icmp .ne 7, 3) := by decide +kernel
theorem dX13_command_99 : decode cX13_command 99 = .ok (.iconst 1, 1) := by decide +kernel
theorem dX13_command_100 : decode cX13_command 100 = .ok (.goto 4, 3) := by decide +kernel
theorem dX13_command_103 : decode cX13_command 103 = .ok (.iconst 0, 1) := by decide +kernel
theorem dX13_command_104 : decode cX13_command 104 = .ok (.iload_n 1, 1) := by decide +kernel
theorem dX13_command_105 : decode cX13_command 105 = .ok (.ifCond .ne 14, 3) := by decide +kernel
theorem dX13_command_108 : decode cX13_command 108 = .ok (.iload_n 2, 1) := by decide +kernel
theorem dX13_command_109 : decode cX13_command 109 = .ok (.iconst 2, 1) := by decide +kernel
theorem dX13_command_110 : decode cX13_command 110 = .ok (.if_icmp .ne 9, 3) := by decide +kernel
theorem dX13_command_113 : decode cX13_command 113 = .ok (.sipush 255, 3) := by decide +kernel
theorem dX13_command_116 : decode cX13_command 116 = .ok (.goto 5, 3) := by decide +kernel
theorem dX13_command_119 : decode cX13_command 119 = .ok (.bipush 20, 2) := by decide +kernel
theorem dX13_command_121 : decode cX13_command 121 = .ok (.invokevirtual 169, 3) := by decide +kernel
theorem dX13_command_124 : decode cX13_command 124 = .ok (.iastore, 1) := by decide +kernel
theorem dX13_command_125 : decode cX13_command 125 = .ok (.iinc 2 1, 3) := by decide +kernel
theorem dX13_command_128 : decode cX13_command 128 = .ok (.goto (-56), 3) := by decide +kernel
theorem dX13_command_131 : decode cX13_command 131 = .ok (.iload_n 1, 1) := by decide +kernel
theorem dX13_command_132 : decode cX13_command 132 = .ok (.bipush 11, 2) := by decide +kernel
theorem dX13_command_134 : decode cX13_command 134 = .ok (.if_icmp .ne 9, 3) := by decide +kernel
theorem dX13_command_137 : decode cX13_command 137 = .ok (.aload_n 0, 1) := by decide +kernel
theorem dX13_command_138 : decode cX13_command 138 = .ok (.bipush 40, 2) := by decide +kernel
theorem dX13_command_140 : decode cX13_command 140 = .ok (.invokevirtual 243, 3) := by decide +kernel
theorem dX13_command_143 : decode cX13_command 143 = .ok (.aload_n 0, 1) := by decide +kernel
theorem dX13_command_144 : decode cX13_command 144 = .ok (.invokevirtual 148, 3) := by decide +kernel
theorem dX13_command_147 : decode cX13_command 147 = .ok (.ifCond .ne 4, 3) := by decide +kernel
theorem dX13_command_150 : decode cX13_command 150 = .ok (.return_, 1) := by decide +kernel
theorem dX13_command_151 : decode cX13_command 151 = .ok (.aload_n 0, 1) := by decide +kernel
theorem dX13_command_152 : decode cX13_command 152 = .ok (.getfield 57, 3) := by decide +kernel
theorem dX13_command_155 : decode cX13_command 155 = .ok (.aload_n 0, 1) := by decide +kernel
theorem dX13_command_156 : decode cX13_command 156 = .ok (.getfield 464, 3) := by decide +kernel
theorem dX13_command_159 : decode cX13_command 159 = .ok (.iload_n 1, 1) := by decide +kernel
theorem dX13_command_160 : decode cX13_command 160 = .ok (.iastore, 1) := by decide +kernel
theorem dX13_command_161 : decode cX13_command 161 = .ok (.aload_n 0, 1) := by decide +kernel
theorem dX13_command_162 : decode cX13_command 162 = .ok (.dup, 1) := by decide +kernel
theorem dX13_command_163 : decode cX13_command 163 = .ok (.getfield 464, 3) := by decide +kernel
theorem dX13_command_166 : decode cX13_command 166 = .ok (.iconst 1, 1) := by decide +kernel
theorem dX13_command_167 : decode cX13_command 167 = .ok (.iadd, 1) := by decide +kernel
theorem dX13_command_168 : decode cX13_command 168 = .ok (.putfield 464, 3) := by decide +kernel
theorem dX13_command_171 : decode cX13_command 171 = .ok (.aload_n 0, 1) := by decide +kernel
theorem dX13_command_172 : decode cX13_command 172 = .ok (.dup, 1) := by decide +kernel
theorem dX13_command_173 : decode cX13_command 173 = .ok (.getfield 455, 3) := by decide +kernel
theorem dX13_command_176 : decode cX13_command 176 = .ok (.iload_n 1, 1) := by decide +kernel
theorem dX13_command_177 : decode cX13_command 177 = .ok (.bipush 11, 2) := by decide +kernel
theorem dX13_command_179 : decode cX13_command 179 = .ok (.if_icmp .ne 7, 3) := by decide +kernel
theorem dX13_command_182 : decode cX13_command 182 = .ok (.iconst 1, 1) := by decide +kernel
theorem dX13_command_183 : decode cX13_command 183 = .ok (.goto 4, 3) := by decide +kernel
theorem dX13_command_186 : decode cX13_command 186 = .ok (.iconst 0, 1) := by decide +kernel
theorem dX13_command_187 : decode cX13_command 187 = .ok (.invokestatic 96, 3) := by decide +kernel
theorem dX13_command_190 : decode cX13_command 190 = .ok (.iadd, 1) := by decide +kernel
theorem dX13_command_191 : decode cX13_command 191 = .ok (.putfield 455, 3) := by decide +kernel
theorem dX13_command_194 : decode cX13_command 194 = .ok (.return_, 1) := by decide +kernel
set_option maxRecDepth 20000 in
theorem ggX13_closes_X13_isSign : GoodIn wsX13_closes wsX13_isSign := goodIn_r _ [8, 9, 10, 11, 44, 45, 46, 47, 48, 49, 50, 51, 52, 53, 54, 55, 56, 57, 58, 59, 60, 61, 62, 63, 64, 65, 66, 67, 68, 69, 70, 71, 72, 73, 74, 75, 76, 77, 78, 79, 80, 81, 82, 83, 84, 85, 86, 87, 88, 89, 90, 91] (by decide +kernel) (by decide +kernel)
set_option maxRecDepth 20000 in
theorem gX13_closes_X13_isSign : GoodIn wsX13_closes (wsV RX13 162 RX13 yX13_isSign wsX13_isSign) := goodIn_app (goodIn_of _ (by decide +kernel)) ggX13_closes_X13_isSign
set_option maxRecDepth 20000 in
theorem ggX13_closes_X13_goOn : GoodIn wsX13_closes wsX13_goOn := goodIn_r _ [15, 16, 17, 18, 11, 10, 19, 20, 21, 7, 22, 23, 24, 25, 26, 27, 28, 29, 30, 44, 45, 46, 47, 48, 49, 50, 51, 52, 53, 54, 55, 56, 57, 58, 59, 60, 61, 62, 63, 64, 65, 66, 67, 68, 69, 70, 71, 72, 73, 74, 75, 76, 77, 78, 79, 80, 81, 82, 83, 84, 85, 86, 87, 88, 89, 90, 91] (by decide +kernel) (by decide +kernel)
set_option maxRecDepth 20000 in
theorem gX13_closes_X13_goOn : GoodIn wsX13_closes (wsV RX13 159 RX13 yX13_goOn wsX13_goOn) := goodIn_app (goodIn_of _ (by decide +kernel)) ggX13_closes_X13_goOn
set_option maxRecDepth 20000 in
theorem ggX13_closes_X13_mustSign : GoodIn wsX13_closes wsX13_mustSign := goodIn_r _ [34, 35, 36, 37, 7, 38, 9, 4, 5, 6, 8, 10, 11, 39, 40, 41, 42, 17, 43, 12, 13, 14, 15, 16, 18, 19, 20, 21, 22, 23, 24, 25, 26, 27, 28, 29, 30, 44, 45, 46, 47, 48, 49, 50, 51, 52, 53, 54, 55, 56, 57, 58, 59, 60, 61, 62, 63, 64, 65, 66, 67, 68, 69, 70, 71, 72, 73, 74, 75, 76, 77, 78, 79, 80, 81, 82, 83, 84, 85, 86, 87, 88, 89, 90, 91] (by decide +kernel) (by decide +kernel)
set_option maxRecDepth 20000 in
theorem gX13_closes_X13_mustSign : GoodIn wsX13_closes (wsV RX13 243 RX13 yX13_mustSign wsX13_mustSign) := goodIn_app (goodIn_of _ (by decide +kernel)) ggX13_closes_X13_mustSign
theorem dX13_closes_0 : decode cX13_closes 0 = .ok (.aload_n 0, 1) := by decide +kernel
theorem dX13_closes_1 : decode cX13_closes 1 = .ok (.getfield 455, 3) := by decide +kernel
theorem dX13_closes_4 : decode cX13_closes 4 = .ok (.ifCond .le 56, 3) := by decide +kernel
theorem dX13_closes_7 : decode cX13_closes 7 = .ok (.aload_n 0, 1) := by decide +kernel
theorem dX13_closes_8 : decode cX13_closes 8 = .ok (.bipush 41, 2) := by decide +kernel
theorem dX13_closes_10 : decode cX13_closes 10 = .ok (.invokevirtual 162, 3) := by decide +kernel
theorem dX13_closes_13 : decode cX13_closes 13 = .ok (.ifCond .eq 47, 3) := by decide +kernel
theorem dX13_closes_16 : decode cX13_closes 16 = .ok (.aload_n 0, 1) := by decide +kernel
theorem dX13_closes_17 : decode cX13_closes 17 = .ok (.dup, 1) := by decide +kernel
theorem dX13_closes_18 : decode cX13_closes 18 = .ok (.getfield 455, 3) := by decide +kernel
theorem dX13_closes_21 : decode cX13_closes 21 = .ok (.iconst 1, 1) := by decide +kernel
theorem dX13_closes_22 : decode cX13_closes 22 = .ok (.isub, 1) := by decide +kernel
theorem dX13_closes_23 : decode cX13_closes 23 = .ok (.putfield 455, 3) := by decide +kernel
theorem dX13_closes_26 : decode cX13_closes 26 = .ok (.aload_n 0, 1) := by decide +kernel
theorem dX13_closes_27 : decode cX13_closes 27 = .ok (.getfield 57, 3) := by decide +kernel
theorem dX13_closes_30 : decode cX13_closes 30 = .ok (.aload_n 0, 1) := by decide +kernel
theorem dX13_closes_31 : decode cX13_closes 31 = .ok (.getfield 464, 3) := by decide +kernel
theorem dX13_closes_34 : decode cX13_closes 34 = .ok (.bipush 12, 2) := by decide +kernel
theorem dX13_closes_36 : decode cX13_closes 36 = .ok (.iastore, 1) := by decide +kernel
theorem dX13_closes_37 : decode cX13_closes 37 = .ok (.aload_n 0, 1) := by decide +kernel
theorem dX13_closes_38 : decode cX13_closes 38 = .ok (.dup, 1) := by decide +kernel
theorem dX13_closes_39 : decode cX13_closes 39 = .ok (.getfield 464, 3) := by decide +kernel
theorem dX13_closes_42 : decode cX13_closes 42 = .ok (.iconst 1, 1) := by decide +kernel
theorem dX13_closes_43 : decode cX13_closes 43 = .ok (.iadd, 1) := by decide +kernel
theorem dX13_closes_44 : decode cX13_closes 44 = .ok (.putfield 464, 3) := by decide +kernel
theorem dX13_closes_47 : decode cX13_closes 47 = .ok (.aload_n 0, 1) := by decide +kernel
theorem dX13_closes_48 : decode cX13_closes 48 = .ok (.invokevirtual 159, 3) := by decide +kernel
theorem dX13_closes_51 : decode cX13_closes 51 = .ok (.aload_n 0, 1) := by decide +kernel
theorem dX13_closes_52 : decode cX13_closes 52 = .ok (.bipush 59, 2) := by decide +kernel
theorem dX13_closes_54 : decode cX13_closes 54 = .ok (.invokevirtual 243, 3) := by decide +kernel
theorem dX13_closes_57 : decode cX13_closes 57 = .ok (.goto (-57), 3) := by decide +kernel
theorem dX13_closes_60 : decode cX13_closes 60 = .ok (.return_, 1) := by decide +kernel
set_option maxRecDepth 20000 in
theorem ggX13_does_X13_isCell : GoodIn wsX13_does wsX13_isCell := goodIn_r _ [9, 10, 11, 12, 8, 13, 156, 157, 158, 159, 160, 161, 162, 163, 164, 165, 166, 167, 168, 169, 170, 171, 172, 173, 174, 175, 176, 177, 178, 179, 180, 181, 182, 183, 184, 185, 186, 187, 188, 189, 190, 191, 192, 193, 194, 195, 196, 197, 198, 199, 200, 201, 202, 203] (by decide +kernel) (by decide +kernel)
set_option maxRecDepth 20000 in
theorem gX13_does_X13_isCell : GoodIn wsX13_does (wsV RX13 195 RX13 yX13_isCell wsX13_isCell) := goodIn_app (goodIn_of _ (by decide +kernel)) ggX13_does_X13_isCell
set_option maxRecDepth 20000 in
theorem ggX13_does_X13_isHeight : GoodIn wsX13_does wsX13_isHeight := goodIn_r _ [17, 10, 11, 12, 8, 13, 156, 157, 158, 159, 160, 161, 162, 163, 164, 165, 166, 167, 168, 169, 170, 171, 172, 173, 174, 175, 176, 177, 178, 179, 180, 181, 182, 183, 184, 185, 186, 187, 188, 189, 190, 191, 192, 193, 194, 195, 196, 197, 198, 199, 200, 201, 202, 203] (by decide +kernel) (by decide +kernel)
set_option maxRecDepth 20000 in
theorem gX13_does_X13_isHeight : GoodIn wsX13_does (wsV RX13 371 RX13 yX13_isHeight wsX13_isHeight) := goodIn_app (goodIn_of _ (by decide +kernel)) ggX13_does_X13_isHeight
set_option maxRecDepth 20000 in
theorem ggX13_does_X13_fits : GoodIn wsX13_does wsX13_fits := goodIn_r _ [21, 10, 11, 12, 8, 13, 14, 15, 16, 17, 156, 157, 158, 159, 160, 161, 162, 163, 164, 165, 166, 167, 168, 169, 170, 171, 172, 173, 174, 175, 176, 177, 178, 179, 180, 181, 182, 183, 184, 185, 186, 187, 188, 189, 190, 191, 192, 193, 194, 195, 196, 197, 198, 199, 200, 201, 202, 203] (by decide +kernel) (by decide +kernel)
set_option maxRecDepth 20000 in
theorem gX13_does_X13_fits : GoodIn wsX13_does (wsV RX13 374 RX13 yX13_fits wsX13_fits) := goodIn_app (goodIn_of _ (by decide +kernel)) ggX13_does_X13_fits
set_option maxRecDepth 20000 in
theorem ggX13_does_X13_isPlace : GoodIn wsX13_does wsX13_isPlace := goodIn_r _ [24, 25, 26, 11, 12, 8, 13] (by decide +kernel) (by decide +kernel)
set_option maxRecDepth 20000 in
theorem gX13_does_X13_isPlace : GoodIn wsX13_does (va_wsS RX13 419 yX13_isPlace wsX13_isPlace) := goodIn_app (goodIn_of _ (by decide +kernel)) ggX13_does_X13_isPlace
set_option maxRecDepth 20000 in
theorem ggX13_does_X13_tones : GoodIn wsX13_does wsX13_tones := goodIn_r _ [30, 31, 3, 32, 33, 8, 34, 35, 36, 37, 38, 39, 10, 40, 41, 42, 43, 44, 45, 46, 47, 156, 157, 158, 159, 160, 161, 162, 163, 164, 165, 166, 167, 168, 169, 170, 171, 172, 173, 174, 175, 176, 177, 178, 179, 180, 181, 182, 183, 184, 185, 186, 187, 188, 189, 190, 191, 192, 193, 194, 195, 196, 197, 198, 199, 200, 201, 202, 203] (by decide +kernel) (by decide +kernel)
set_option maxRecDepth 20000 in
theorem gX13_does_X13_tones : GoodIn wsX13_does (wsV RX13 365 RX13 yX13_tones wsX13_tones) := goodIn_app (goodIn_of _ (by decide +kernel)) ggX13_does_X13_tones
set_option maxRecDepth 20000 in
theorem ggX13_does_X13_fills : GoodIn wsX13_does wsX13_fills := goodIn_r _ [51, 3, 156, 157, 158, 159, 160, 161, 162, 163, 164, 165, 166, 167, 168, 169, 170, 171, 172, 173, 174, 175, 176, 177, 178, 179, 180, 181, 182, 183, 184, 185, 186, 187, 188, 189, 190, 191, 192, 193, 194, 195, 196, 197, 198, 199, 200, 201, 202, 203] (by decide +kernel) (by decide +kernel)
set_option maxRecDepth 20000 in
theorem gX13_does_X13_fills : GoodIn wsX13_does (wsV RX13 378 RX13 yX13_fills wsX13_fills) := goodIn_app (goodIn_of _ (by decide +kernel)) ggX13_does_X13_fills
set_option maxRecDepth 20000 in
theorem ggX13_does_X13_presses : GoodIn wsX13_does wsX13_presses := goodIn_r _ [55, 3, 10, 5, 6, 7, 8, 9, 11, 12, 13, 56, 57, 58, 59, 60, 61, 156, 157, 158, 159, 160, 161, 162, 163, 164, 165, 166, 167, 168, 169, 170, 171, 172, 173, 174, 175, 176, 177, 178, 179, 180, 181, 182, 183, 184, 185, 186, 187, 188, 189, 190, 191, 192, 193, 194, 195, 196, 197, 198, 199, 200, 201, 202, 203] (by decide +kernel) (by decide +kernel)
set_option maxRecDepth 20000 in
theorem gX13_does_X13_presses : GoodIn wsX13_does (wsV RX13 425 RX13 yX13_presses wsX13_presses) := goodIn_app (goodIn_of _ (by decide +kernel)) ggX13_does_X13_presses
set_option maxRecDepth 20000 in
theorem ggX13_does_X13_smooths : GoodIn wsX13_does wsX13_smooths := goodIn_r _ [65, 66, 10, 3, 67, 68, 69, 8, 70, 71, 72, 73, 74, 75, 76, 77, 78, 79, 80, 81, 56, 57, 58, 156, 157, 158, 159, 160, 161, 162, 163, 164, 165, 166, 167, 168, 169, 170, 171, 172, 173, 174, 175, 176, 177, 178, 179, 180, 181, 182, 183, 184, 185, 186, 187, 188, 189, 190, 191, 192, 193, 194, 195, 196, 197, 198, 199, 200, 201, 202, 203] (by decide +kernel) (by decide +kernel)
set_option maxRecDepth 20000 in
theorem gX13_does_X13_smooths : GoodIn wsX13_does (wsV RX13 387 RX13 yX13_smooths wsX13_smooths) := goodIn_app (goodIn_of _ (by decide +kernel)) ggX13_does_X13_smooths
set_option maxRecDepth 20000 in
theorem ggX13_does_X13_eases : GoodIn wsX13_does wsX13_eases := goodIn_r _ [85, 10, 3, 86, 87, 88, 8, 89, 56, 57, 58, 156, 157, 158, 159, 160, 161, 162, 163, 164, 165, 166, 167, 168, 169, 170, 171, 172, 173, 174, 175, 176, 177, 178, 179, 180, 181, 182, 183, 184, 185, 186, 187, 188, 189, 190, 191, 192, 193, 194, 195, 196, 197, 198, 199, 200, 201, 202, 203] (by decide +kernel) (by decide +kernel)
set_option maxRecDepth 20000 in
theorem gX13_does_X13_eases : GoodIn wsX13_does (wsV RX13 390 RX13 yX13_eases wsX13_eases) := goodIn_app (goodIn_of _ (by decide +kernel)) ggX13_does_X13_eases
set_option maxRecDepth 20000 in
theorem ggX13_does_X13_repairs : GoodIn wsX13_does wsX13_repairs := goodIn_r _ [93, 3, 94, 95, 96, 97, 8, 98, 67, 68, 69, 70, 10, 71, 72, 73, 74, 99, 100, 101, 102, 103, 104, 105, 106, 107, 108, 109, 110, 5, 6, 7, 9, 11, 12, 13, 111, 112, 113, 156, 157, 158, 159, 160, 161, 162, 163, 164, 165, 166, 167, 168, 169, 170, 171, 172, 173, 174, 175, 176, 177, 178, 179, 180, 181, 182, 183, 184, 185, 186, 187, 188, 189, 190, 191, 192, 193, 194, 195, 196, 197, 198, 199, 200, 201, 202, 203] (by decide +kernel) (by decide +kernel)
set_option maxRecDepth 20000 in
theorem gX13_does_X13_repairs : GoodIn wsX13_does (wsV RX13 317 RX13 yX13_repairs wsX13_repairs) := goodIn_app (goodIn_of _ (by decide +kernel)) ggX13_does_X13_repairs
set_option maxRecDepth 20000 in
theorem ggX13_does_X13_dithers : GoodIn wsX13_does wsX13_dithers := goodIn_r _ [117, 10, 31, 3, 32, 33, 8, 34, 35, 36, 37, 38, 39, 40, 41, 42, 43, 44, 45, 46, 47, 156, 157, 158, 159, 160, 161, 162, 163, 164, 165, 166, 167, 168, 169, 170, 171, 172, 173, 174, 175, 176, 177, 178, 179, 180, 181, 182, 183, 184, 185, 186, 187, 188, 189, 190, 191, 192, 193, 194, 195, 196, 197, 198, 199, 200, 201, 202, 203] (by decide +kernel) (by decide +kernel)
set_option maxRecDepth 20000 in
theorem gX13_does_X13_dithers : GoodIn wsX13_does (wsV RX13 393 RX13 yX13_dithers wsX13_dithers) := goodIn_app (goodIn_of _ (by decide +kernel)) ggX13_does_X13_dithers
set_option maxRecDepth 20000 in
theorem ggX13_does_X13_polishesAll : GoodIn wsX13_does wsX13_polishesAll := goodIn_r _ [121, 10, 67, 68, 69, 8, 70, 122, 123, 124, 125, 3, 56, 57, 58, 59, 60, 61, 126, 127, 128, 129, 130, 131, 132, 133, 5, 6, 7, 9, 11, 12, 13, 134, 135, 136, 137, 31, 138, 139, 140, 141, 142, 143, 40, 41, 42, 43, 44, 144, 145, 146, 147, 32, 33, 34, 35, 45, 46, 47, 156, 157, 158, 159, 160, 161, 162, 163, 164, 165, 166, 167, 168, 169, 170, 171, 172, 173, 174, 175, 176, 177, 178, 179, 180, 181, 182, 183, 184, 185, 186, 187, 188, 189, 190, 191, 192, 193, 194, 195, 196, 197, 198, 199, 200, 201, 202, 203] (by decide +kernel) (by decide +kernel)
set_option maxRecDepth 20000 in
theorem gX13_does_X13_polishesAll : GoodIn wsX13_does (wsV RX13 406 RX13 yX13_polishesAll wsX13_polishesAll) := goodIn_app (goodIn_of _ (by decide +kernel)) ggX13_does_X13_polishesAll
set_option maxRecDepth 20000 in
theorem ggX13_does_X13_retones : GoodIn wsX13_does wsX13_retones := goodIn_r _ [151, 31, 67, 68, 69, 8, 70, 10, 71, 72, 73, 74, 27, 28, 29, 30, 3, 32, 33, 34, 35, 36, 37, 38, 39, 40, 41, 42, 43, 44, 45, 46, 47, 156, 157, 158, 159, 160, 161, 162, 163, 164, 165, 166, 167, 168, 169, 170, 171, 172, 173, 174, 175, 176, 177, 178, 179, 180, 181, 182, 183, 184, 185, 186, 187, 188, 189, 190, 191, 192, 193, 194, 195, 196, 197, 198, 199, 200, 201, 202, 203] (by decide +kernel) (by decide +kernel)
set_option maxRecDepth 20000 in
theorem gX13_does_X13_retones : GoodIn wsX13_does (wsV RX13 409 RX13 yX13_retones wsX13_retones) := goodIn_app (goodIn_of _ (by decide +kernel)) ggX13_does_X13_retones
set_option maxRecDepth 20000 in
theorem ggX13_does_X13_mirrors : GoodIn wsX13_does wsX13_mirrors := goodIn_r _ [155, 10, 3, 31, 156, 157, 158, 159, 160, 161, 162, 163, 164, 165, 166, 167, 168, 169, 170, 171, 172, 173, 174, 175, 176, 177, 178, 179, 180, 181, 182, 183, 184, 185, 186, 187, 188, 189, 190, 191, 192, 193, 194, 195, 196, 197, 198, 199, 200, 201, 202, 203] (by decide +kernel) (by decide +kernel)
set_option maxRecDepth 20000 in
theorem gX13_does_X13_mirrors : GoodIn wsX13_does (wsV RX13 414 RX13 yX13_mirrors wsX13_mirrors) := goodIn_app (goodIn_of _ (by decide +kernel)) ggX13_does_X13_mirrors
theorem dX13_does_0 : decode cX13_does 0 = .ok (.aload_n 0, 1) := by decide +kernel
theorem dX13_does_1 : decode cX13_does 1 = .ok (.getfield 60, 3) := by decide +kernel
theorem dX13_does_4 : decode cX13_does 4 = .ok (.iload_n 2, 1) := by decide +kernel
theorem dX13_does_5 : decode cX13_does 5 = .ok (.iaload, 1) := by decide +kernel
theorem dX13_does_6 : decode cX13_does 6 = .ok (.istore_n 3, 1) := by decide +kernel
theorem dX13_does_7 : decode cX13_does 7 = .ok (.aload_n 0, 1) := by decide +kernel
theorem dX13_does_8 : decode cX13_does 8 = .ok (.getfield 60, 3) := by decide +kernel
theorem dX13_does_11 : decode cX13_does 11 = .ok (.iload_n 2, 1) := by decide +kernel
theorem dX13_does_12 : decode cX13_does 12 = .ok (.iconst 1, 1) := by decide +kernel
theorem dX13_does_13 : decode cX13_does 13 = .ok (.iadd, 1) := by decide +kernel
theorem dX13_does_14 : decode cX13_does 14 = .ok (.iaload, 1) := by decide +kernel
theorem dX13_does_15 : decode cX13_does 15 = .ok (.istore 4, 2) := by decide +kernel
theorem dX13_does_17 : decode cX13_does 17 = .ok (.iload_n 1, 1) := by decide +kernel
theorem dX13_does_18 : decode cX13_does 18 = .ok (.iconst 3, 1) := by decide +kernel
theorem dX13_does_19 : decode cX13_does 19 = .ok (.if_icmp .gt 45, 3) := by decide +kernel
theorem dX13_does_22 : decode cX13_does 22 = .ok (.aload_n 0, 1) := by decide +kernel
theorem dX13_does_23 : decode cX13_does 23 = .ok (.iload_n 1, 1) := by decide +kernel
theorem dX13_does_24 : decode cX13_does 24 = .ok (.iconst 3, 1) := by decide +kernel
theorem dX13_does_25 : decode cX13_does 25 = .ok (.if_icmp .ne 14, 3) := by decide +kernel
theorem dX13_does_28 : decode cX13_does 28 = .ok (.aload_n 0, 1) := by decide +kernel
theorem dX13_does_29 : decode cX13_does 29 = .ok (.getfield 60, 3) := by decide +kernel
theorem dX13_does_32 : decode cX13_does 32 = .ok (.iload_n 2, 1) := by decide +kernel
theorem dX13_does_33 : decode cX13_does 33 = .ok (.iconst 2, 1) := by decide +kernel
theorem dX13_does_34 : decode cX13_does 34 = .ok (.iadd, 1) := by decide +kernel
theorem dX13_does_35 : decode cX13_does 35 = .ok (.iaload, 1) := by decide +kernel
theorem dX13_does_36 : decode cX13_does 36 = .ok (.goto 4, 3) := by decide +kernel
theorem dX13_does_39 : decode cX13_does 39 = .ok (.iload_n 3, 1) := by decide +kernel
theorem dX13_does_40 : decode cX13_does 40 = .ok (.iload_n 1, 1) := by decide +kernel
theorem dX13_does_41 : decode cX13_does 41 = .ok (.iconst 3, 1) := by decide +kernel
theorem dX13_does_42 : decode cX13_does 42 = .ok (.if_icmp .ne 14, 3) := by decide +kernel
theorem dX13_does_45 : decode cX13_does 45 = .ok (.aload_n 0, 1) := by decide +kernel
theorem dX13_does_46 : decode cX13_does 46 = .ok (.getfield 60, 3) := by decide +kernel
theorem dX13_does_49 : decode cX13_does 49 = .ok (.iload_n 2, 1) := by decide +kernel
theorem dX13_does_50 : decode cX13_does 50 = .ok (.iconst 3, 1) := by decide +kernel
theorem dX13_does_51 : decode cX13_does 51 = .ok (.iadd, 1) := by decide +kernel
theorem dX13_does_52 : decode cX13_does 52 = .ok (.iaload, 1) := by decide +kernel
theorem dX13_does_53 : decode cX13_does 53 = .ok (.goto 5, 3) := by decide +kernel
theorem dX13_does_56 : decode cX13_does 56 = .ok (.iload 4, 2) := by decide +kernel
theorem dX13_does_58 : decode cX13_does 58 = .ok (.invokevirtual 195, 3) := by decide +kernel
theorem dX13_does_61 : decode cX13_does 61 = .ok (.ifCond .eq 7, 3) := by decide +kernel
theorem dX13_does_64 : decode cX13_does 64 = .ok (.iconst 1, 1) := by decide +kernel
theorem dX13_does_65 : decode cX13_does 65 = .ok (.goto 4, 3) := by decide +kernel
theorem dX13_does_68 : decode cX13_does 68 = .ok (.iconst 0, 1) := by decide +kernel
theorem dX13_does_69 : decode cX13_does 69 = .ok (.istore 5, 2) := by decide +kernel
theorem dX13_does_71 : decode cX13_does 71 = .ok (.iload_n 1, 1) := by decide +kernel
theorem dX13_does_72 : decode cX13_does 72 = .ok (.iconst 4, 1) := by decide +kernel
theorem dX13_does_73 : decode cX13_does 73 = .ok (.if_icmp .ne 14, 3) := by decide +kernel
theorem dX13_does_76 : decode cX13_does 76 = .ok (.iload_n 3, 1) := by decide +kernel
theorem dX13_does_77 : decode cX13_does 77 = .ok (.ifCond .le 7, 3) := by decide +kernel
theorem dX13_does_80 : decode cX13_does 80 = .ok (.iconst 1, 1) := by decide +kernel
theorem dX13_does_81 : decode cX13_does 81 = .ok (.goto 4, 3) := by decide +kernel
theorem dX13_does_84 : decode cX13_does 84 = .ok (.iconst 0, 1) := by decide +kernel
theorem dX13_does_85 : decode cX13_does 85 = .ok (.istore 5, 2) := by decide +kernel
theorem dX13_does_87 : decode cX13_does 87 = .ok (.iload_n 1, 1) := by decide +kernel
theorem dX13_does_88 : decode cX13_does 88 = .ok (.iconst 1, 1) := by decide +kernel
theorem dX13_does_89 : decode cX13_does 89 = .ok (.if_icmp .ne 30, 3) := by decide +kernel
theorem dX13_does_92 : decode cX13_does 92 = .ok (.iload 5, 2) := by decide +kernel
theorem dX13_does_94 : decode cX13_does 94 = .ok (.ifCond .eq 22, 3) := by decide +kernel
theorem dX13_does_97 : decode cX13_does 97 = .ok (.aload_n 0, 1) := by decide +kernel
theorem dX13_does_98 : decode cX13_does 98 = .ok (.aload_n 0, 1) := by decide +kernel
theorem dX13_does_99 : decode cX13_does 99 = .ok (.getfield 60, 3) := by decide +kernel
theorem dX13_does_102 : decode cX13_does 102 = .ok (.iload_n 2, 1) := by decide +kernel
theorem dX13_does_103 : decode cX13_does 103 = .ok (.iconst 2, 1) := by decide +kernel
theorem dX13_does_104 : decode cX13_does 104 = .ok (.iadd, 1) := by decide +kernel
theorem dX13_does_105 : decode cX13_does 105 = .ok (.iaload, 1) := by decide +kernel
theorem dX13_does_106 : decode cX13_does 106 = .ok (.invokevirtual 371, 3) := by decide +kernel
theorem dX13_does_109 : decode cX13_does 109 = .ok (.ifCond .eq 7, 3) := by decide +kernel
theorem dX13_does_112 : decode cX13_does 112 = .ok (.iconst 1, 1) := by decide +kernel
theorem dX13_does_113 : decode cX13_does 113 = .ok (.goto 4, 3) := by decide +kernel
theorem dX13_does_116 : decode cX13_does 116 = .ok (.iconst 0, 1) := by decide +kernel
theorem dX13_does_117 : decode cX13_does 117 = .ok (.istore 5, 2) := by decide +kernel
theorem dX13_does_119 : decode cX13_does 119 = .ok (.iload_n 1, 1) := by decide +kernel
theorem dX13_does_120 : decode cX13_does 120 = .ok (.iconst 2, 1) := by decide +kernel
theorem dX13_does_121 : decode cX13_does 121 = .ok (.if_icmp .ne 49, 3) := by decide +kernel
theorem dX13_does_124 : decode cX13_does 124 = .ok (.iload 5, 2) := by decide +kernel
theorem dX13_does_126 : decode cX13_does 126 = .ok (.ifCond .eq 41, 3) := by decide +kernel
theorem dX13_does_129 : decode cX13_does 129 = .ok (.aload_n 0, 1) := by decide +kernel
theorem dX13_does_130 : decode cX13_does 130 = .ok (.iload_n 3, 1) := by decide +kernel
theorem dX13_does_131 : decode cX13_does 131 = .ok (.iload 4, 2) := by decide +kernel
theorem dX13_does_133 : decode cX13_does 133 = .ok (.aload_n 0, 1) := by decide +kernel
theorem dX13_does_134 : decode cX13_does 134 = .ok (.getfield 60, 3) := by decide +kernel
theorem dX13_does_137 : decode cX13_does 137 = .ok (.iload_n 2, 1) := by decide +kernel
theorem dX13_does_138 : decode cX13_does 138 = .ok (.iconst 2, 1) := by decide +kernel
theorem dX13_does_139 : decode cX13_does 139 = .ok (.iadd, 1) := by decide +kernel
theorem dX13_does_140 : decode cX13_does 140 = .ok (.iaload, 1) := by decide +kernel
theorem dX13_does_141 : decode cX13_does 141 = .ok (.aload_n 0, 1) := by decide +kernel
theorem dX13_does_142 : decode cX13_does 142 = .ok (.getfield 60, 3) := by decide +kernel
theorem dX13_does_145 : decode cX13_does 145 = .ok (.iload_n 2, 1) := by decide +kernel
theorem dX13_does_146 : decode cX13_does 146 = .ok (.iconst 3, 1) := by decide +kernel
theorem dX13_does_147 : decode cX13_does 147 = .ok (.iadd, 1) := by decide +kernel
theorem dX13_does_148 : decode cX13_does 148 = .ok (.iaload, 1) := by decide +kernel
theorem dX13_does_149 : decode cX13_does 149 = .ok (.aload_n 0, 1) := by decide +kernel
theorem dX13_does_150 : decode cX13_does 150 = .ok (.getfield 60, 3) := by decide +kernel
theorem dX13_does_153 : decode cX13_does 153 = .ok (.iload_n 2, 1) := by decide +kernel
theorem dX13_does_154 : decode cX13_does 154 = .ok (.iconst 4, 1) := by decide +kernel
theorem dX13_does_155 : decode cX13_does 155 = .ok (.iadd, 1) := by decide +kernel
theorem dX13_does_156 : decode cX13_does 156 = .ok (.iaload, 1) := by decide +kernel
theorem dX13_does_157 : decode cX13_does 157 = .ok (.invokevirtual 374, 3) := by decide +kernel
theorem dX13_does_160 : decode cX13_does 160 = .ok (.ifCond .eq 7, 3) := by decide +kernel
theorem dX13_does_163 : decode cX13_does 163 = .ok (.iconst 1, 1) := by decide +kernel
theorem dX13_does_164 : decode cX13_does 164 = .ok (.goto 4, 3) := by decide +kernel
theorem dX13_does_167 : decode cX13_does 167 = .ok (.iconst 0, 1) := by decide +kernel
theorem dX13_does_168 : decode cX13_does 168 = .ok (.istore 5, 2) := by decide +kernel
theorem dX13_does_170 : decode cX13_does 170 = .ok (.iload_n 1, 1) := by decide +kernel
theorem dX13_does_171 : decode cX13_does 171 = .ok (.iconst 3, 1) := by decide +kernel
theorem dX13_does_172 : decode cX13_does 172 = .ok (.if_icmp .ne 39, 3) := by decide +kernel
theorem dX13_does_175 : decode cX13_does 175 = .ok (.iload 5, 2) := by decide +kernel
theorem dX13_does_177 : decode cX13_does 177 = .ok (.ifCond .eq 31, 3) := by decide +kernel
theorem dX13_does_180 : decode cX13_does 180 = .ok (.iload_n 3, 1) := by decide +kernel
theorem dX13_does_181 : decode cX13_does 181 = .ok (.iload 4, 2) := by decide +kernel
theorem dX13_does_183 : decode cX13_does 183 = .ok (.invokestatic 419, 3) := by decide +kernel
theorem dX13_does_186 : decode cX13_does 186 = .ok (.ifCond .eq 22, 3) := by decide +kernel
theorem dX13_does_189 : decode cX13_does 189 = .ok (.aload_n 0, 1) := by decide +kernel
theorem dX13_does_190 : decode cX13_does 190 = .ok (.getfield 54, 3) := by decide +kernel
theorem dX13_does_193 : decode cX13_does 193 = .ok (.iconst 4, 1) := by decide +kernel
theorem dX13_does_194 : decode cX13_does 194 = .ok (.iload_n 3, 1) := by decide +kernel
theorem dX13_does_195 : decode cX13_does 195 = .ok (.imul, 1) := by decide +kernel
theorem dX13_does_196 : decode cX13_does 196 = .ok (.iload 4, 2) := by decide +kernel
theorem dX13_does_198 : decode cX13_does 198 = .ok (.iadd, 1) := by decide +kernel
theorem dX13_does_199 : decode cX13_does 199 = .ok (.iaload, 1) := by decide +kernel
theorem dX13_does_200 : decode cX13_does 200 = .ok (.iconst (-1), 1) := by decide +kernel
theorem dX13_does_201 : decode cX13_does 201 = .ok (.if_icmp .eq 7, 3) := by decide +kernel
theorem dX13_does_204 : decode cX13_does 204 = .ok (.iconst 1, 1) := by decide +kernel
theorem dX13_does_205 : decode cX13_does 205 = .ok (.goto 4, 3) := by decide +kernel
theorem dX13_does_208 : decode cX13_does 208 = .ok (.iconst 0, 1) := by decide +kernel
theorem dX13_does_209 : decode cX13_does 209 = .ok (.istore 5, 2) := by decide +kernel
theorem dX13_does_211 : decode cX13_does 211 = .ok (.iload 5, 2) := by decide +kernel
theorem dX13_does_213 : decode cX13_does 213 = .ok (.ifCond .ne 5, 3) := by decide +kernel
theorem dX13_does_216 : decode cX13_does 216 = .ok (.iconst 0, 1) := by decide +kernel
theorem dX13_does_217 : decode cX13_does 217 = .ok (.ireturn, 1) := by decide +kernel
theorem dX13_does_218 : decode cX13_does 218 = .ok (.iload_n 1, 1) := by decide +kernel
theorem dX13_does_219 : decode cX13_does 219 = .ok (.ifCond .ne 18, 3) := by decide +kernel
theorem dX13_does_222 : decode cX13_does 222 = .ok (.aload_n 0, 1) := by decide +kernel
theorem dX13_does_223 : decode cX13_does 223 = .ok (.iload_n 3, 1) := by decide +kernel
theorem dX13_does_224 : decode cX13_does 224 = .ok (.iload 4, 2) := by decide +kernel
theorem dX13_does_226 : decode cX13_does 226 = .ok (.aload_n 0, 1) := by decide +kernel
theorem dX13_does_227 : decode cX13_does 227 = .ok (.getfield 60, 3) := by decide +kernel
theorem dX13_does_230 : decode cX13_does 230 = .ok (.iload_n 2, 1) := by decide +kernel
theorem dX13_does_231 : decode cX13_does 231 = .ok (.iconst 2, 1) := by decide +kernel
theorem dX13_does_232 : decode cX13_does 232 = .ok (.iadd, 1) := by decide +kernel
theorem dX13_does_233 : decode cX13_does 233 = .ok (.iaload, 1) := by decide +kernel
theorem dX13_does_234 : decode cX13_does 234 = .ok (.invokevirtual 365, 3) := by decide +kernel
theorem dX13_does_237 : decode cX13_does 237 = .ok (.iload_n 1, 1) := by decide +kernel
theorem dX13_does_238 : decode cX13_does 238 = .ok (.iconst 1, 1) := by decide +kernel
theorem dX13_does_239 : decode cX13_does 239 = .ok (.if_icmp .ne 23, 3) := by decide +kernel
theorem dX13_does_242 : decode cX13_does 242 = .ok (.aload_n 0, 1) := by decide +kernel
theorem dX13_does_243 : decode cX13_does 243 = .ok (.getfield 29, 3) := by decide +kernel
theorem dX13_does_246 : decode cX13_does 246 = .ok (.bipush 16, 2) := by decide +kernel
theorem dX13_does_248 : decode cX13_does 248 = .ok (.iload 4, 2) := by decide +kernel
theorem dX13_does_250 : decode cX13_does 250 = .ok (.imul, 1) := by decide +kernel
theorem dX13_does_251 : decode cX13_does 251 = .ok (.iload_n 3, 1) := by decide +kernel
theorem dX13_does_252 : decode cX13_does 252 = .ok (.iadd, 1) := by decide +kernel
theorem dX13_does_253 : decode cX13_does 253 = .ok (.aload_n 0, 1) := by decide +kernel
theorem dX13_does_254 : decode cX13_does 254 = .ok (.getfield 60, 3) := by decide +kernel
theorem dX13_does_257 : decode cX13_does 257 = .ok (.iload_n 2, 1) := by decide +kernel
theorem dX13_does_258 : decode cX13_does 258 = .ok (.iconst 2, 1) := by decide +kernel
theorem dX13_does_259 : decode cX13_does 259 = .ok (.iadd, 1) := by decide +kernel
theorem dX13_does_260 : decode cX13_does 260 = .ok (.iaload, 1) := by decide +kernel
theorem dX13_does_261 : decode cX13_does 261 = .ok (.iastore, 1) := by decide +kernel
theorem dX13_does_262 : decode cX13_does 262 = .ok (.iload_n 1, 1) := by decide +kernel
theorem dX13_does_263 : decode cX13_does 263 = .ok (.iconst 2, 1) := by decide +kernel
theorem dX13_does_264 : decode cX13_does 264 = .ok (.if_icmp .ne 34, 3) := by decide +kernel
theorem dX13_does_267 : decode cX13_does 267 = .ok (.aload_n 0, 1) := by decide +kernel
theorem dX13_does_268 : decode cX13_does 268 = .ok (.iload_n 3, 1) := by decide +kernel
theorem dX13_does_269 : decode cX13_does 269 = .ok (.iload 4, 2) := by decide +kernel
theorem dX13_does_271 : decode cX13_does 271 = .ok (.aload_n 0, 1) := by decide +kernel
theorem dX13_does_272 : decode cX13_does 272 = .ok (.getfield 60, 3) := by decide +kernel
theorem dX13_does_275 : decode cX13_does 275 = .ok (.iload_n 2, 1) := by decide +kernel
theorem dX13_does_276 : decode cX13_does 276 = .ok (.iconst 2, 1) := by decide +kernel
theorem dX13_does_277 : decode cX13_does 277 = .ok (.iadd, 1) := by decide +kernel
theorem dX13_does_278 : decode cX13_does 278 = .ok (.iaload, 1) := by decide +kernel
theorem dX13_does_279 : decode cX13_does 279 = .ok (.aload_n 0, 1) := by decide +kernel
theorem dX13_does_280 : decode cX13_does 280 = .ok (.getfield 60, 3) := by decide +kernel
theorem dX13_does_283 : decode cX13_does 283 = .ok (.iload_n 2, 1) := by decide +kernel
theorem dX13_does_284 : decode cX13_does 284 = .ok (.iconst 3, 1) := by decide +kernel
theorem dX13_does_285 : decode cX13_does 285 = .ok (.iadd, 1) := by decide +kernel
theorem dX13_does_286 : decode cX13_does 286 = .ok (.iaload, 1) := by decide +kernel
theorem dX13_does_287 : decode cX13_does 287 = .ok (.aload_n 0, 1) := by decide +kernel
theorem dX13_does_288 : decode cX13_does 288 = .ok (.getfield 60, 3) := by decide +kernel
theorem dX13_does_291 : decode cX13_does 291 = .ok (.iload_n 2, 1) := by decide +kernel
theorem dX13_does_292 : decode cX13_does 292 = .ok (.iconst 4, 1) := by decide +kernel
theorem dX13_does_293 : decode cX13_does 293 = .ok (.iadd, 1) := by decide +kernel
theorem dX13_does_294 : decode cX13_does 294 = .ok (.iaload, 1) := by decide +kernel
theorem dX13_does_295 : decode cX13_does 295 = .ok (.invokevirtual 378, 3) := by decide +kernel
theorem dX13_does_298 : decode cX13_does 298 = .ok (.iload_n 1, 1) := by decide +kernel
theorem dX13_does_299 : decode cX13_does 299 = .ok (.iconst 3, 1) := by decide +kernel
theorem dX13_does_300 : decode cX13_does 300 = .ok (.if_icmp .ne 34, 3) := by decide +kernel
theorem dX13_does_303 : decode cX13_does 303 = .ok (.aload_n 0, 1) := by decide +kernel
theorem dX13_does_304 : decode cX13_does 304 = .ok (.aload_n 0, 1) := by decide +kernel
theorem dX13_does_305 : decode cX13_does 305 = .ok (.getfield 54, 3) := by decide +kernel
theorem dX13_does_308 : decode cX13_does 308 = .ok (.iconst 4, 1) := by decide +kernel
theorem dX13_does_309 : decode cX13_does 309 = .ok (.iload_n 3, 1) := by decide +kernel
theorem dX13_does_310 : decode cX13_does 310 = .ok (.imul, 1) := by decide +kernel
theorem dX13_does_311 : decode cX13_does 311 = .ok (.iload 4, 2) := by decide +kernel
theorem dX13_does_313 : decode cX13_does 313 = .ok (.iadd, 1) := by decide +kernel
theorem dX13_does_314 : decode cX13_does 314 = .ok (.iaload, 1) := by decide +kernel
theorem dX13_does_315 : decode cX13_does 315 = .ok (.aload_n 0, 1) := by decide +kernel
theorem dX13_does_316 : decode cX13_does 316 = .ok (.getfield 60, 3) := by decide +kernel
theorem dX13_does_319 : decode cX13_does 319 = .ok (.iload_n 2, 1) := by decide +kernel
theorem dX13_does_320 : decode cX13_does 320 = .ok (.iconst 2, 1) := by decide +kernel
theorem dX13_does_321 : decode cX13_does 321 = .ok (.iadd, 1) := by decide +kernel
theorem dX13_does_322 : decode cX13_does 322 = .ok (.iaload, 1) := by decide +kernel
theorem dX13_does_323 : decode cX13_does 323 = .ok (.aload_n 0, 1) := by decide +kernel
theorem dX13_does_324 : decode cX13_does 324 = .ok (.getfield 60, 3) := by decide +kernel
theorem dX13_does_327 : decode cX13_does 327 = .ok (.iload_n 2, 1) := by decide +kernel
theorem dX13_does_328 : decode cX13_does 328 = .ok (.iconst 3, 1) := by decide +kernel
theorem dX13_does_329 : decode cX13_does 329 = .ok (.iadd, 1) := by decide +kernel
theorem dX13_does_330 : decode cX13_does 330 = .ok (.iaload, 1) := by decide +kernel
theorem dX13_does_331 : decode cX13_does 331 = .ok (.invokevirtual 425, 3) := by decide +kernel
theorem dX13_does_334 : decode cX13_does 334 = .ok (.iload_n 1, 1) := by decide +kernel
theorem dX13_does_335 : decode cX13_does 335 = .ok (.iconst 4, 1) := by decide +kernel
theorem dX13_does_336 : decode cX13_does 336 = .ok (.if_icmp .ne 8, 3) := by decide +kernel
theorem dX13_does_339 : decode cX13_does 339 = .ok (.aload_n 0, 1) := by decide +kernel
theorem dX13_does_340 : decode cX13_does 340 = .ok (.iload_n 3, 1) := by decide +kernel
theorem dX13_does_341 : decode cX13_does 341 = .ok (.invokevirtual 387, 3) := by decide +kernel
theorem dX13_does_344 : decode cX13_does 344 = .ok (.iload_n 1, 1) := by decide +kernel
theorem dX13_does_345 : decode cX13_does 345 = .ok (.bipush 6, 2) := by decide +kernel
theorem dX13_does_347 : decode cX13_does 347 = .ok (.if_icmp .ne 7, 3) := by decide +kernel
theorem dX13_does_350 : decode cX13_does 350 = .ok (.aload_n 0, 1) := by decide +kernel
theorem dX13_does_351 : decode cX13_does 351 = .ok (.invokevirtual 390, 3) := by decide +kernel
theorem dX13_does_354 : decode cX13_does 354 = .ok (.iload_n 1, 1) := by decide +kernel
theorem dX13_does_355 : decode cX13_does 355 = .ok (.iconst 5, 1) := by decide +kernel
theorem dX13_does_356 : decode cX13_does 356 = .ok (.if_icmp .ne 11, 3) := by decide +kernel
theorem dX13_does_359 : decode cX13_does 359 = .ok (.aload_n 0, 1) := by decide +kernel
theorem dX13_does_360 : decode cX13_does 360 = .ok (.aload_n 0, 1) := by decide +kernel
theorem dX13_does_361 : decode cX13_does 361 = .ok (.invokevirtual 317, 3) := by decide +kernel
theorem dX13_does_364 : decode cX13_does 364 = .ok (.putfield 467, 3) := by decide +kernel
theorem dX13_does_367 : decode cX13_does 367 = .ok (.iload_n 1, 1) := by decide +kernel
theorem dX13_does_368 : decode cX13_does 368 = .ok (.bipush 7, 2) := by decide +kernel
theorem dX13_does_370 : decode cX13_does 370 = .ok (.if_icmp .ne 7, 3) := by decide +kernel
theorem dX13_does_373 : decode cX13_does 373 = .ok (.aload_n 0, 1) := by decide +kernel
theorem dX13_does_374 : decode cX13_does 374 = .ok (.invokevirtual 393, 3) := by decide +kernel
theorem dX13_does_377 : decode cX13_does 377 = .ok (.iload_n 1, 1) := by decide +kernel
theorem dX13_does_378 : decode cX13_does 378 = .ok (.bipush 8, 2) := by decide +kernel
theorem dX13_does_380 : decode cX13_does 380 = .ok (.if_icmp .ne 7, 3) := by decide +kernel
theorem dX13_does_383 : decode cX13_does 383 = .ok (.aload_n 0, 1) := by decide +kernel
theorem dX13_does_384 : decode cX13_does 384 = .ok (.invokevirtual 406, 3) := by decide +kernel
theorem dX13_does_387 : decode cX13_does 387 = .ok (.iload_n 1, 1) := by decide +kernel
theorem dX13_does_388 : decode cX13_does 388 = .ok (.bipush 9, 2) := by decide +kernel
theorem dX13_does_390 : decode cX13_does 390 = .ok (.if_icmp .ne 11, 3) := by decide +kernel
theorem dX13_does_393 : decode cX13_does 393 = .ok (.aload_n 0, 1) := by decide +kernel
theorem dX13_does_394 : decode cX13_does 394 = .ok (.iconst (-1), 1) := by decide +kernel
theorem dX13_does_395 : decode cX13_does 395 = .ok (.sipush 255, 3) := by decide +kernel
theorem dX13_does_398 : decode cX13_does 398 = .ok (.invokevirtual 409, 3) := by decide +kernel
theorem dX13_does_401 : decode cX13_does 401 = .ok (.iload_n 1, 1) := by decide +kernel
theorem dX13_does_402 : decode cX13_does 402 = .ok (.bipush 10, 2) := by decide +kernel
theorem dX13_does_404 : decode cX13_does 404 = .ok (.if_icmp .ne 7, 3) := by decide +kernel
theorem dX13_does_407 : decode cX13_does 407 = .ok (.aload_n 0, 1) := by decide +kernel
theorem dX13_does_408 : decode cX13_does 408 = .ok (.invokevirtual 414, 3) := by decide +kernel
theorem dX13_does_411 : decode cX13_does 411 = .ok (.iconst 1, 1) := by decide +kernel
theorem dX13_does_412 : decode cX13_does 412 = .ok (.ireturn, 1) := by decide +kernel
set_option maxRecDepth 20000 in
theorem ggX13_runScript_X13_beginsText : GoodIn wsX13_runScript wsX13_beginsText := goodIn_r _ [10, 11, 12, 13, 14, 15, 16, 17, 18, 9, 19, 20, 21, 22, 4, 23, 24, 25, 26, 27, 28, 29, 30, 31, 32, 33, 272, 273, 274, 275, 276, 277, 278, 279, 280, 281, 282, 283, 284, 285, 286, 287, 288, 289, 290, 291, 292, 293, 294, 295, 296, 297, 298, 299, 300, 301, 302, 303, 304, 305, 306, 307, 308, 309, 310, 311, 312, 313, 314, 315, 316, 317, 318, 319] (by decide +kernel) (by decide +kernel)
set_option maxRecDepth 20000 in
theorem gX13_runScript_X13_beginsText : GoodIn wsX13_runScript (wsV RX13 237 RX13 yX13_beginsText wsX13_beginsText) := goodIn_app (goodIn_of _ (by decide +kernel)) ggX13_runScript_X13_beginsText
set_option maxRecDepth 20000 in
theorem ggX13_runScript_X13_isGood : GoodIn wsX13_runScript wsX13_isGood := goodIn_r _ [37, 14, 272, 273, 274, 275, 276, 277, 278, 279, 280, 281, 282, 283, 284, 285, 286, 287, 288, 289, 290, 291, 292, 293, 294, 295, 296, 297, 298, 299, 300, 301, 302, 303, 304, 305, 306, 307, 308, 309, 310, 311, 312, 313, 314, 315, 316, 317, 318, 319] (by decide +kernel) (by decide +kernel)
set_option maxRecDepth 20000 in
theorem gX13_runScript_X13_isGood : GoodIn wsX13_runScript (wsV RX13 148 RX13 yX13_isGood wsX13_isGood) := goodIn_app (goodIn_of _ (by decide +kernel)) ggX13_runScript_X13_isGood
set_option maxRecDepth 20000 in
theorem ggX13_runScript_X13_command : GoodIn wsX13_runScript wsX13_command := goodIn_r _ [41, 3, 2, 42, 1, 43, 44, 45, 46, 9, 47, 48, 49, 50, 51, 52, 53, 54, 55, 56, 57, 58, 59, 60, 61, 62, 63, 14, 4, 21, 64, 65, 66, 67, 20, 15, 34, 35, 36, 37, 16, 17, 18, 19, 13, 22, 23, 24, 25, 26, 12, 27, 28, 29, 30, 31, 32, 33, 68, 69, 70, 71, 72, 73, 74, 75, 76, 77, 78, 79, 80, 81, 82, 83, 84, 85, 86, 87, 88, 272, 273, 274, 275, 276, 277, 278, 279, 280, 281, 282, 283, 284, 285, 286, 287, 288, 289, 290, 291, 292, 293, 294, 295, 296, 297, 298, 299, 300, 301, 302, 303, 304, 305, 306, 307, 308, 309, 310, 311, 312, 313, 314, 315, 316, 317, 318, 319] (by decide +kernel) (by decide +kernel)
set_option maxRecDepth 20000 in
theorem gX13_runScript_X13_command : GoodIn wsX13_runScript (wsV RX13 470 RX13 yX13_command wsX13_command) := goodIn_app (goodIn_of _ (by decide +kernel)) ggX13_runScript_X13_command
set_option maxRecDepth 20000 in
theorem ggX13_runScript_X13_mustSign : GoodIn wsX13_runScript wsX13_mustSign := goodIn_r _ [81, 34, 35, 36, 9, 37, 14, 82, 83, 84, 85, 4, 22, 64, 65, 66, 67, 20, 15, 16, 17, 18, 19, 13, 21, 23, 24, 25, 26, 12, 27, 28, 29, 30, 31, 32, 33, 272, 273, 274, 275, 276, 277, 278, 279, 280, 281, 282, 283, 284, 285, 286, 287, 288, 289, 290, 291, 292, 293, 294, 295, 296, 297, 298, 299, 300, 301, 302, 303, 304, 305, 306, 307, 308, 309, 310, 311, 312, 313, 314, 315, 316, 317, 318, 319] (by decide +kernel) (by decide +kernel)
set_option maxRecDepth 20000 in
theorem gX13_runScript_X13_mustSign : GoodIn wsX13_runScript (wsV RX13 243 RX13 yX13_mustSign wsX13_mustSign) := goodIn_app (goodIn_of _ (by decide +kernel)) ggX13_runScript_X13_mustSign
set_option maxRecDepth 20000 in
theorem ggX13_runScript_X13_closes : GoodIn wsX13_runScript wsX13_closes := goodIn_r _ [92, 3, 43, 1, 82, 83, 84, 9, 85, 14, 4, 22, 16, 17, 18, 19, 13, 20, 21, 23, 24, 25, 26, 12, 27, 28, 29, 30, 31, 32, 33, 78, 79, 80, 81, 34, 35, 36, 37, 64, 65, 66, 67, 15, 272, 273, 274, 275, 276, 277, 278, 279, 280, 281, 282, 283, 284, 285, 286, 287, 288, 289, 290, 291, 292, 293, 294, 295, 296, 297, 298, 299, 300, 301, 302, 303, 304, 305, 306, 307, 308, 309, 310, 311, 312, 313, 314, 315, 316, 317, 318, 319] (by decide +kernel) (by decide +kernel)
set_option maxRecDepth 20000 in
theorem gX13_runScript_X13_closes : GoodIn wsX13_runScript (wsV RX13 473 RX13 yX13_closes wsX13_closes) := goodIn_app (goodIn_of _ (by decide +kernel)) ggX13_runScript_X13_closes
set_option maxRecDepth 20000 in
theorem ggX13_runScript_X13_wrong : GoodIn wsX13_runScript wsX13_wrong := goodIn_r _ [67, 14, 4, 20, 15, 272, 273, 274, 275, 276, 277, 278, 279, 280, 281, 282, 283, 284, 285, 286, 287, 288, 289, 290, 291, 292, 293, 294, 295, 296, 297, 298, 299, 300, 301, 302, 303, 304, 305, 306, 307, 308, 309, 310, 311, 312, 313, 314, 315, 316, 317, 318, 319] (by decide +kernel) (by decide +kernel)
set_option maxRecDepth 20000 in
theorem gX13_runScript_X13_wrong : GoodIn wsX13_runScript (wsV RX13 156 RX13 yX13_wrong wsX13_wrong) := goodIn_app (goodIn_of _ (by decide +kernel)) ggX13_runScript_X13_wrong
set_option maxRecDepth 20000 in
theorem ggX13_runScript_X13_endsText : GoodIn wsX13_runScript wsX13_endsText := goodIn_r _ [96, 14, 97, 15, 98, 99, 100, 101, 9, 102, 103, 86, 87, 88, 272, 273, 274, 275, 276, 277, 278, 279, 280, 281, 282, 283, 284, 285, 286, 287, 288, 289, 290, 291, 292, 293, 294, 295, 296, 297, 298, 299, 300, 301, 302, 303, 304, 305, 306, 307, 308, 309, 310, 311, 312, 313, 314, 315, 316, 317, 318, 319] (by decide +kernel) (by decide +kernel)
set_option maxRecDepth 20000 in
theorem gX13_runScript_X13_endsText : GoodIn wsX13_runScript (wsV RX13 246 RX13 yX13_endsText wsX13_endsText) := goodIn_app (goodIn_of _ (by decide +kernel)) ggX13_runScript_X13_endsText
set_option maxRecDepth 20000 in
theorem ggX13_runScript_X13_laysAside : GoodIn wsX13_runScript wsX13_laysAside := goodIn_r _ [107, 108, 109, 110, 111, 272, 273, 274, 275, 276, 277, 278, 279, 280, 281, 282, 283, 284, 285, 286, 287, 288, 289, 290, 291, 292, 293, 294, 295, 296, 297, 298, 299, 300, 301, 302, 303, 304, 305, 306, 307, 308, 309, 310, 311, 312, 313, 314, 315, 316, 317, 318, 319] (by decide +kernel) (by decide +kernel)
set_option maxRecDepth 20000 in
theorem gX13_runScript_X13_laysAside : GoodIn wsX13_runScript (wsV RX13 314 RX13 yX13_laysAside wsX13_laysAside) := goodIn_app (goodIn_of _ (by decide +kernel)) ggX13_runScript_X13_laysAside
set_option maxRecDepth 20000 in
theorem ggX13_runScript_X13_runs0 : GoodIn wsX13_runScript wsX13_runs0 := goodIn_r _ [115, 1, 43, 116, 117, 42, 86, 87, 9, 88, 118, 119, 120, 121, 122, 109, 5, 123, 124, 125, 126, 127, 75, 76, 77, 128, 129, 130, 131, 132, 133, 134, 135, 136, 137, 138, 139, 140, 141, 142, 143, 144, 111, 145, 146, 147, 148, 149, 150, 151, 152, 153, 154, 155, 156, 157, 158, 159, 160, 161, 162, 163, 164, 165, 166, 167, 168, 169, 170, 171, 172, 173, 174, 175, 176, 177, 178, 179, 180, 181, 182, 183, 184, 185, 186, 187, 188, 189, 190, 191, 192, 193, 194, 195, 196, 197, 198, 199, 200, 201, 202, 203, 204, 205, 206, 207, 208, 209, 210, 211, 212, 213, 214, 215, 216, 217, 218, 219, 220, 221, 222, 223, 224, 225, 226, 227, 228, 229, 230, 231, 232, 233, 234, 235, 236, 237, 238, 239, 240, 241, 242, 243, 244, 245, 246, 247, 248, 249, 250, 251, 252, 253, 254, 255, 256, 257, 258, 259, 260, 261, 262, 263, 264, 265, 272, 273, 274, 275, 276, 277, 278, 279, 280, 281, 282, 283, 284, 285, 286, 287, 288, 289, 290, 291, 292, 293, 294, 295, 296, 297, 298, 299, 300, 301, 302, 303, 304, 305, 306, 307, 308, 309, 310, 311, 312, 313, 314, 315, 316, 317, 318, 319] (by decide +kernel) (by decide +kernel)
set_option maxRecDepth 20000 in
theorem gX13_runScript_X13_runs0 : GoodIn wsX13_runScript (wsV RX13 476 RX13 yX13_runs0 wsX13_runs0) := goodIn_app (goodIn_of _ (by decide +kernel)) ggX13_runScript_X13_runs0
set_option maxRecDepth 20000 in
theorem ggX13_runScript_X13_keeps : GoodIn wsX13_runScript wsX13_keeps := goodIn_r _ [269, 109, 108, 111, 110, 270, 271, 86, 87, 9, 88, 272, 273, 274, 275, 276, 277, 278, 279, 280, 281, 282, 283, 284, 285, 286, 287, 288, 289, 290, 291, 292, 293, 294, 295, 296, 297, 298, 299, 300, 301, 302, 303, 304, 305, 306, 307, 308, 309, 310, 311, 312, 313, 314, 315, 316, 317, 318, 319] (by decide +kernel) (by decide +kernel)
set_option maxRecDepth 20000 in
theorem gX13_runScript_X13_keeps : GoodIn wsX13_runScript (wsV RX13 368 RX13 yX13_keeps wsX13_keeps) := goodIn_app (goodIn_of _ (by decide +kernel)) ggX13_runScript_X13_keeps
theorem dX13_runScript_0 : decode cX13_runScript 0 = .ok (.aload_n 0, 1) := by decide +kernel
theorem dX13_runScript_1 : decode cX13_runScript 1 = .ok (.invokevirtual 237, 3) := by decide +kernel
theorem dX13_runScript_4 : decode cX13_runScript 4 = .ok (.aload_n 0, 1) := by decide +kernel
theorem dX13_runScript_5 : decode cX13_runScript 5 = .ok (.iconst 0, 1) := by decide +kernel
theorem dX13_runScript_6 : decode cX13_runScript 6 = .ok (.putfield 464, 3) := by decide +kernel
theorem dX13_runScript_9 : decode cX13_runScript 9 = .ok (.aload_n 0, 1) := by decide +kernel
theorem dX13_runScript_10 : decode cX13_runScript 10 = .ok (.iconst 0, 1) := by decide +kernel
theorem dX13_runScript_11 : decode cX13_runScript 11 = .ok (.putfield 458, 3) := by decide +kernel
theorem dX13_runScript_14 : decode cX13_runScript 14 = .ok (.aload_n 0, 1) := by decide +kernel
theorem dX13_runScript_15 : decode cX13_runScript 15 = .ok (.iconst 0, 1) := by decide +kernel
theorem dX13_runScript_16 : decode cX13_runScript 16 = .ok (.putfield 455, 3) := by decide +kernel
theorem dX13_runScript_19 : decode cX13_runScript 19 = .ok (.aload_n 0, 1) := by decide +kernel
theorem dX13_runScript_20 : decode cX13_runScript 20 = .ok (.invokevirtual 148, 3) := by decide +kernel
theorem dX13_runScript_23 : decode cX13_runScript 23 = .ok (.ifCond .eq 40, 3) := by decide +kernel
theorem dX13_runScript_26 : decode cX13_runScript 26 = .ok (.aload_n 0, 1) := by decide +kernel
theorem dX13_runScript_27 : decode cX13_runScript 27 = .ok (.getfield 135, 3) := by decide +kernel
theorem dX13_runScript_30 : decode cX13_runScript 30 = .ok (.ifCond .eq 33, 3) := by decide +kernel
theorem dX13_runScript_33 : decode cX13_runScript 33 = .ok (.aload_n 0, 1) := by decide +kernel
theorem dX13_runScript_34 : decode cX13_runScript 34 = .ok (.getfield 455, 3) := by decide +kernel
theorem dX13_runScript_37 : decode cX13_runScript 37 = .ok (.istore_n 1, 1) := by decide +kernel
theorem dX13_runScript_38 : decode cX13_runScript 38 = .ok (.aload_n 0, 1) := by decide +kernel
theorem dX13_runScript_39 : decode cX13_runScript 39 = .ok (.invokevirtual 470, 3) := by decide +kernel
theorem dX13_runScript_42 : decode cX13_runScript 42 = .ok (.aload_n 0, 1) := by decide +kernel
theorem dX13_runScript_43 : decode cX13_runScript 43 = .ok (.getfield 455, 3) := by decide +kernel
theorem dX13_runScript_46 : decode cX13_runScript 46 = .ok (.iload_n 1, 1) := by decide +kernel
theorem dX13_runScript_47 : decode cX13_runScript 47 = .ok (.if_icmp .ne 9, 3) := by decide +kernel
theorem dX13_runScript_50 : decode cX13_runScript 50 = .ok (.aload_n 0, 1) := by decide +kernel
theorem dX13_runScript_51 : decode cX13_runScript 51 = .ok (.bipush 59, 2) := by decide +kernel
theorem dX13_runScript_53 : decode cX13_runScript 53 = .ok (.invokevirtual 243, 3) := by decide +kernel
theorem dX13_runScript_56 : decode cX13_runScript 56 = .ok (.aload_n 0, 1) := by decide +kernel
theorem dX13_runScript_57 : decode cX13_runScript 57 = .ok (.invokevirtual 473, 3) := by decide +kernel
theorem dX13_runScript_60 : decode cX13_runScript 60 = .ok (.goto (-41), 3) := by decide +kernel
theorem dX13_runScript_63 : decode cX13_runScript 63 = .ok (.aload_n 0, 1) := by decide +kernel
theorem dX13_runScript_64 : decode cX13_runScript 64 = .ok (.invokevirtual 148, 3) := by decide +kernel
theorem dX13_runScript_67 : decode cX13_runScript 67 = .ok (.ifCond .eq 15, 3) := by decide +kernel
theorem dX13_runScript_70 : decode cX13_runScript 70 = .ok (.aload_n 0, 1) := by decide +kernel
theorem dX13_runScript_71 : decode cX13_runScript 71 = .ok (.getfield 455, 3) := by decide +kernel
theorem dX13_runScript_74 : decode cX13_runScript 74 = .ok (.ifCond .le 8, 3) := by decide +kernel
theorem dX13_runScript_77 : decode cX13_runScript 77 = .ok (.aload_n 0, 1) := by decide +kernel
theorem dX13_runScript_78 : decode cX13_runScript 78 = .ok (.iconst 1, 1) := by decide +kernel
theorem dX13_runScript_79 : decode cX13_runScript 79 = .ok (.invokevirtual 156, 3) := by decide +kernel
theorem dX13_runScript_82 : decode cX13_runScript 82 = .ok (.aload_n 0, 1) := by decide +kernel
theorem dX13_runScript_83 : decode cX13_runScript 83 = .ok (.invokevirtual 246, 3) := by decide +kernel
theorem dX13_runScript_86 : decode cX13_runScript 86 = .ok (.ifCond .ne 5, 3) := by decide +kernel
theorem dX13_runScript_89 : decode cX13_runScript 89 = .ok (.iconst 0, 1) := by decide +kernel
theorem dX13_runScript_90 : decode cX13_runScript 90 = .ok (.ireturn, 1) := by decide +kernel
theorem dX13_runScript_91 : decode cX13_runScript 91 = .ok (.aload_n 0, 1) := by decide +kernel
theorem dX13_runScript_92 : decode cX13_runScript 92 = .ok (.invokevirtual 314, 3) := by decide +kernel
theorem dX13_runScript_95 : decode cX13_runScript 95 = .ok (.aload_n 0, 1) := by decide +kernel
theorem dX13_runScript_96 : decode cX13_runScript 96 = .ok (.invokevirtual 476, 3) := by decide +kernel
theorem dX13_runScript_99 : decode cX13_runScript 99 = .ok (.istore_n 1, 1) := by decide +kernel
theorem dX13_runScript_100 : decode cX13_runScript 100 = .ok (.aload_n 0, 1) := by decide +kernel
theorem dX13_runScript_101 : decode cX13_runScript 101 = .ok (.aload_n 0, 1) := by decide +kernel
theorem dX13_runScript_102 : decode cX13_runScript 102 = .ok (.invokevirtual 368, 3) := by decide +kernel
theorem dX13_runScript_105 : decode cX13_runScript 105 = .ok (.putfield 467, 3) := by decide +kernel
theorem dX13_runScript_108 : decode cX13_runScript 108 = .ok (.iload_n 1, 1) := by decide +kernel
theorem dX13_runScript_109 : decode cX13_runScript 109 = .ok (.ireturn, 1) := by decide +kernel
set_option maxRecDepth 20000 in
theorem ggX13_runs0_X13_truth : GoodIn wsX13_runs0 wsX13_truth := goodIn_r _ [9] (by decide +kernel) (by decide +kernel)
set_option maxRecDepth 20000 in
theorem gX13_runs0_X13_truth : GoodIn wsX13_runs0 (va_wsS RX13 96 yX13_truth wsX13_truth) := goodIn_app (goodIn_of _ (by decide +kernel)) ggX13_runs0_X13_truth
set_option maxRecDepth 20000 in
theorem ggX13_runs0_X13_does : GoodIn wsX13_runs0 wsX13_does := goodIn_r _ [13, 5, 14, 15, 16, 17, 18, 19, 8, 20, 21, 22, 23, 24, 25, 26, 27, 28, 29, 30, 31, 32, 33, 34, 35, 36, 37, 38, 39, 40, 41, 42, 43, 44, 45, 46, 47, 48, 49, 50, 51, 52, 53, 54, 55, 56, 57, 58, 59, 60, 61, 62, 63, 64, 65, 66, 67, 68, 69, 70, 71, 72, 73, 74, 75, 76, 77, 78, 79, 80, 81, 82, 83, 84, 85, 86, 87, 88, 89, 90, 91, 92, 93, 94, 95, 96, 97, 98, 99, 100, 101, 102, 103, 104, 105, 106, 107, 108, 109, 110, 111, 112, 113, 114, 115, 116, 117, 118, 119, 120, 121, 6, 7, 9, 122, 123, 124, 125, 126, 127, 128, 129, 130, 131, 132, 133, 134, 135, 136, 137, 138, 139, 140, 141, 142, 143, 144, 145, 146, 147, 148, 149, 150, 151, 152, 153, 154, 155, 156, 157, 158, 159, 160, 161, 162, 163, 164, 165, 166, 167, 168, 169, 170, 171, 172, 173, 174, 175, 176, 177, 178, 179, 180, 181, 182, 183, 184, 185, 186, 187, 188, 189, 190, 191, 192, 193, 194, 195, 196, 197, 198, 199, 200, 201, 202, 203, 204, 205, 206, 207, 208, 209, 210, 211] (by decide +kernel) (by decide +kernel)
set_option maxRecDepth 20000 in
theorem gX13_runs0_X13_does : GoodIn wsX13_runs0 (wsV RX13 479 RX13 yX13_does wsX13_does) := goodIn_app (goodIn_of _ (by decide +kernel)) ggX13_runs0_X13_does
theorem dX13_runs0_0 : decode cX13_runs0 0 = .ok (.iconst 0, 1) := by decide +kernel
theorem dX13_runs0_1 : decode cX13_runs0 1 = .ok (.istore_n 1, 1) := by decide +kernel
theorem dX13_runs0_2 : decode cX13_runs0 2 = .ok (.iconst 0, 1) := by decide +kernel
theorem dX13_runs0_3 : decode cX13_runs0 3 = .ok (.istore_n 2, 1) := by decide +kernel
theorem dX13_runs0_4 : decode cX13_runs0 4 = .ok (.iconst 0, 1) := by decide +kernel
theorem dX13_runs0_5 : decode cX13_runs0 5 = .ok (.istore_n 3, 1) := by decide +kernel
theorem dX13_runs0_6 : decode cX13_runs0 6 = .ok (.iconst 1, 1) := by decide +kernel
theorem dX13_runs0_7 : decode cX13_runs0 7 = .ok (.istore 4, 2) := by decide +kernel
theorem dX13_runs0_9 : decode cX13_runs0 9 = .ok (.iload 4, 2) := by decide +kernel
theorem dX13_runs0_11 : decode cX13_runs0 11 = .ok (.ifCond .eq 169, 3) := by decide +kernel
theorem dX13_runs0_14 : decode cX13_runs0 14 = .ok (.iload_n 3, 1) := by decide +kernel
theorem dX13_runs0_15 : decode cX13_runs0 15 = .ok (.aload_n 0, 1) := by decide +kernel
theorem dX13_runs0_16 : decode cX13_runs0 16 = .ok (.getfield 464, 3) := by decide +kernel
theorem dX13_runs0_19 : decode cX13_runs0 19 = .ok (.if_icmp .ge 161, 3) := by decide +kernel
theorem dX13_runs0_22 : decode cX13_runs0 22 = .ok (.iload_n 1, 1) := by decide +kernel
theorem dX13_runs0_23 : decode cX13_runs0 23 = .ok (.bipush 60, 2) := by decide +kernel
theorem dX13_runs0_25 : decode cX13_runs0 25 = .ok (.if_icmp .ge 155, 3) := by decide +kernel
theorem dX13_runs0_28 : decode cX13_runs0 28 = .ok (.aload_n 0, 1) := by decide +kernel
theorem dX13_runs0_29 : decode cX13_runs0 29 = .ok (.getfield 57, 3) := by decide +kernel
theorem dX13_runs0_32 : decode cX13_runs0 32 = .ok (.iload_n 3, 1) := by decide +kernel
theorem dX13_runs0_33 : decode cX13_runs0 33 = .ok (.iaload, 1) := by decide +kernel
theorem dX13_runs0_34 : decode cX13_runs0 34 = .ok (.bipush 11, 2) := by decide +kernel
theorem dX13_runs0_36 : decode cX13_runs0 36 = .ok (.if_icmp .ne 33, 3) := by decide +kernel
theorem dX13_runs0_39 : decode cX13_runs0 39 = .ok (.aload_n 0, 1) := by decide +kernel
theorem dX13_runs0_40 : decode cX13_runs0 40 = .ok (.getfield 63, 3) := by decide +kernel
theorem dX13_runs0_43 : decode cX13_runs0 43 = .ok (.iload_n 2, 1) := by decide +kernel
theorem dX13_runs0_44 : decode cX13_runs0 44 = .ok (.iload_n 3, 1) := by decide +kernel
theorem dX13_runs0_45 : decode cX13_runs0 45 = .ok (.iastore, 1) := by decide +kernel
theorem dX13_runs0_46 : decode cX13_runs0 46 = .ok (.aload_n 0, 1) := by decide +kernel
theorem dX13_runs0_47 : decode cX13_runs0 47 = .ok (.getfield 66, 3) := by decide +kernel
theorem dX13_runs0_50 : decode cX13_runs0 50 = .ok (.iload_n 2, 1) := by decide +kernel
theorem dX13_runs0_51 : decode cX13_runs0 51 = .ok (.aload_n 0, 1) := by decide +kernel
theorem dX13_runs0_52 : decode cX13_runs0 52 = .ok (.getfield 60, 3) := by decide +kernel
theorem dX13_runs0_55 : decode cX13_runs0 55 = .ok (.iconst 5, 1) := by decide +kernel
theorem dX13_runs0_56 : decode cX13_runs0 56 = .ok (.iload_n 3, 1) := by decide +kernel
theorem dX13_runs0_57 : decode cX13_runs0 57 = .ok (.imul, 1) := by decide +kernel
theorem dX13_runs0_58 : decode cX13_runs0 58 = .ok (.iaload, 1) := by decide +kernel
theorem dX13_runs0_59 : decode cX13_runs0 59 = .ok (.iastore, 1) := by decide +kernel
theorem dX13_runs0_60 : decode cX13_runs0 60 = .ok (.iinc 2 1, 3) := by decide +kernel
theorem dX13_runs0_63 : decode cX13_runs0 63 = .ok (.iinc 3 1, 3) := by decide +kernel
theorem dX13_runs0_66 : decode cX13_runs0 66 = .ok (.goto (-57), 3) := by decide +kernel
theorem dX13_runs0_69 : decode cX13_runs0 69 = .ok (.aload_n 0, 1) := by decide +kernel
theorem dX13_runs0_70 : decode cX13_runs0 70 = .ok (.getfield 57, 3) := by decide +kernel
theorem dX13_runs0_73 : decode cX13_runs0 73 = .ok (.iload_n 3, 1) := by decide +kernel
theorem dX13_runs0_74 : decode cX13_runs0 74 = .ok (.iaload, 1) := by decide +kernel
theorem dX13_runs0_75 : decode cX13_runs0 75 = .ok (.bipush 12, 2) := by decide +kernel
theorem dX13_runs0_77 : decode cX13_runs0 77 = .ok (.if_icmp .ne 74, 3) := by decide +kernel
theorem dX13_runs0_80 : decode cX13_runs0 80 = .ok (.aload_n 0, 1) := by decide +kernel
theorem dX13_runs0_81 : decode cX13_runs0 81 = .ok (.getfield 66, 3) := by decide +kernel
theorem dX13_runs0_84 : decode cX13_runs0 84 = .ok (.iload_n 2, 1) := by decide +kernel
theorem dX13_runs0_85 : decode cX13_runs0 85 = .ok (.iconst 1, 1) := by decide +kernel
theorem dX13_runs0_86 : decode cX13_runs0 86 = .ok (.isub, 1) := by decide +kernel
theorem dX13_runs0_87 : decode cX13_runs0 87 = .ok (.dup2, 1) := by decide +kernel
theorem dX13_runs0_88 : decode cX13_runs0 88 = .ok (.iaload, 1) := by decide +kernel
theorem dX13_runs0_89 : decode cX13_runs0 89 = .ok (.iconst 1, 1) := by decide +kernel
theorem dX13_runs0_90 : decode cX13_runs0 90 = .ok (.isub, 1) := by decide +kernel
theorem dX13_runs0_91 : decode cX13_runs0 91 = .ok (.iastore, 1) := by decide +kernel
theorem dX13_runs0_92 : decode cX13_runs0 92 = .ok (.aload_n 0, 1) := by decide +kernel
theorem dX13_runs0_93 : decode cX13_runs0 93 = .ok (.getfield 66, 3) := by decide +kernel
theorem dX13_runs0_96 : decode cX13_runs0 96 = .ok (.iload_n 2, 1) := by decide +kernel
theorem dX13_runs0_97 : decode cX13_runs0 97 = .ok (.iconst 1, 1) := by decide +kernel
theorem dX13_runs0_98 : decode cX13_runs0 98 = .ok (.isub, 1) := by decide +kernel
theorem dX13_runs0_99 : decode cX13_runs0 99 = .ok (.iaload, 1) := by decide +kernel
theorem dX13_runs0_100 : decode cX13_runs0 100 = .ok (.ifCond .le 7, 3) := by decide +kernel
theorem dX13_runs0_103 : decode cX13_runs0 103 = .ok (.iconst 1, 1) := by decide +kernel
theorem dX13_runs0_104 : decode cX13_runs0 104 = .ok (.goto 4, 3) := by decide +kernel
theorem dX13_runs0_107 : decode cX13_runs0 107 = .ok (.iconst 0, 1) := by decide +kernel
theorem dX13_runs0_108 : decode cX13_runs0 108 = .ok (.istore 5, 2) := by decide +kernel
theorem dX13_runs0_110 : decode cX13_runs0 110 = .ok (.iload 5, 2) := by decide +kernel
theorem dX13_runs0_112 : decode cX13_runs0 112 = .ok (.ifCond .eq 16, 3) := by decide +kernel
theorem dX13_runs0_115 : decode cX13_runs0 115 = .ok (.aload_n 0, 1) := by decide +kernel
theorem dX13_runs0_116 : decode cX13_runs0 116 = .ok (.getfield 63, 3) := by decide +kernel
theorem dX13_runs0_119 : decode cX13_runs0 119 = .ok (.iload_n 2, 1) := by decide +kernel
theorem dX13_runs0_120 : decode cX13_runs0 120 = .ok (.iconst 1, 1) := by decide +kernel
theorem dX13_runs0_121 : decode cX13_runs0 121 = .ok (.isub, 1) := by decide +kernel
theorem dX13_runs0_122 : decode cX13_runs0 122 = .ok (.iaload, 1) := by decide +kernel
theorem dX13_runs0_123 : decode cX13_runs0 123 = .ok (.iconst 1, 1) := by decide +kernel
theorem dX13_runs0_124 : decode cX13_runs0 124 = .ok (.iadd, 1) := by decide +kernel
theorem dX13_runs0_125 : decode cX13_runs0 125 = .ok (.goto 6, 3) := by decide +kernel
theorem dX13_runs0_128 : decode cX13_runs0 128 = .ok (.iload_n 3, 1) := by decide +kernel
theorem dX13_runs0_129 : decode cX13_runs0 129 = .ok (.iconst 1, 1) := by decide +kernel
theorem dX13_runs0_130 : decode cX13_runs0 130 = .ok (.iadd, 1) := by decide +kernel
theorem dX13_runs0_131 : decode cX13_runs0 131 = .ok (.istore_n 3, 1) := by decide +kernel
theorem dX13_runs0_132 : decode cX13_runs0 132 = .ok (.iload_n 2, 1) := by decide +kernel
theorem dX13_runs0_133 : decode cX13_runs0 133 = .ok (.iload 5, 2) := by decide +kernel
theorem dX13_runs0_135 : decode cX13_runs0 135 = .ok (.ifCond .ne 7, 3) := by decide +kernel
theorem dX13_runs0_138 : decode cX13_runs0 138 = .ok (.iconst 1, 1) := by decide +kernel
theorem dX13_runs0_139 : decode cX13_runs0 139 = .ok (.goto 4, 3) := by decide +kernel
theorem dX13_runs0_142 : decode cX13_runs0 142 = .ok (.iconst 0, 1) := by decide +kernel
theorem dX13_runs0_143 : decode cX13_runs0 143 = .ok (.invokestatic 96, 3) := by decide +kernel
theorem dX13_runs0_146 : decode cX13_runs0 146 = .ok (.isub, 1) := by decide +kernel
theorem dX13_runs0_147 : decode cX13_runs0 147 = .ok (.istore_n 2, 1) := by decide +kernel
theorem dX13_runs0_148 : decode cX13_runs0 148 = .ok (.goto (-139), 3) := by decide +kernel
theorem dX13_runs0_151 : decode cX13_runs0 151 = .ok (.aload_n 0, 1) := by decide +kernel
theorem dX13_runs0_152 : decode cX13_runs0 152 = .ok (.aload_n 0, 1) := by decide +kernel
theorem dX13_runs0_153 : decode cX13_runs0 153 = .ok (.getfield 57, 3) := by decide +kernel
theorem dX13_runs0_156 : decode cX13_runs0 156 = .ok (.iload_n 3, 1) := by decide +kernel
theorem dX13_runs0_157 : decode cX13_runs0 157 = .ok (.iaload, 1) := by decide +kernel
theorem dX13_runs0_158 : decode cX13_runs0 158 = .ok (.iconst 5, 1) := by decide +kernel
theorem dX13_runs0_159 : decode cX13_runs0 159 = .ok (.iload_n 3, 1) := by decide +kernel
theorem dX13_runs0_160 : decode cX13_runs0 160 = .ok (.imul, 1) := by decide +kernel
theorem dX13_runs0_161 : decode cX13_runs0 161 = .ok (.invokevirtual 479, 3) := by decide +kernel
theorem dX13_runs0_164 : decode cX13_runs0 164 = .ok (.istore 4, 2) := by decide +kernel
theorem dX13_runs0_166 : decode cX13_runs0 166 = .ok (.iload_n 1, 1) := by decide +kernel
theorem dX13_runs0_167 : decode cX13_runs0 167 = .ok (.iload 4, 2) := by decide +kernel
theorem dX13_runs0_169 : decode cX13_runs0 169 = .ok (.invokestatic 96, 3) := by decide +kernel
theorem dX13_runs0_172 : decode cX13_runs0 172 = .ok (.iadd, 1) := by decide +kernel
theorem dX13_runs0_173 : decode cX13_runs0 173 = .ok (.istore_n 1, 1) := by decide +kernel
theorem dX13_runs0_174 : decode cX13_runs0 174 = .ok (.iinc 3 1, 3) := by decide +kernel
theorem dX13_runs0_177 : decode cX13_runs0 177 = .ok (.goto (-168), 3) := by decide +kernel
theorem dX13_runs0_180 : decode cX13_runs0 180 = .ok (.iload_n 1, 1) := by decide +kernel
theorem dX13_runs0_181 : decode cX13_runs0 181 = .ok (.ireturn, 1) := by decide +kernel
theorem dX13_tell_0 : decode cX13_tell 0 = .ok (.aload_n 0, 1) := by decide +kernel
theorem dX13_tell_1 : decode cX13_tell 1 = .ok (.getfield 75, 3) := by decide +kernel
theorem dX13_tell_4 : decode cX13_tell 4 = .ok (.aload_n 0, 1) := by decide +kernel
theorem dX13_tell_5 : decode cX13_tell 5 = .ok (.getfield 482, 3) := by decide +kernel
theorem dX13_tell_8 : decode cX13_tell 8 = .ok (.iload_n 1, 1) := by decide +kernel
theorem dX13_tell_9 : decode cX13_tell 9 = .ok (.iastore, 1) := by decide +kernel
theorem dX13_tell_10 : decode cX13_tell 10 = .ok (.aload_n 0, 1) := by decide +kernel
theorem dX13_tell_11 : decode cX13_tell 11 = .ok (.dup, 1) := by decide +kernel
theorem dX13_tell_12 : decode cX13_tell 12 = .ok (.getfield 482, 3) := by decide +kernel
theorem dX13_tell_15 : decode cX13_tell 15 = .ok (.iconst 1, 1) := by decide +kernel
theorem dX13_tell_16 : decode cX13_tell 16 = .ok (.iadd, 1) := by decide +kernel
theorem dX13_tell_17 : decode cX13_tell 17 = .ok (.putfield 482, 3) := by decide +kernel
theorem dX13_tell_20 : decode cX13_tell 20 = .ok (.return_, 1) := by decide +kernel
set_option maxRecDepth 20000 in
theorem ggX13_report_X13_tell : GoodIn wsX13_report wsX13_tell := goodIn_r _ [10, 11, 2, 12, 13, 14, 15, 16, 17, 18, 19, 20, 21, 22, 23, 24, 25, 26, 27, 28, 29, 30, 31, 32, 33, 34, 35, 36, 37, 38, 39, 40, 41, 42, 43, 44, 45, 46, 47, 48, 49, 50, 51, 52, 53, 54, 55, 56, 57, 58, 59] (by decide +kernel) (by decide +kernel)
set_option maxRecDepth 20000 in
theorem gX13_report_X13_tell : GoodIn wsX13_report (wsV RX13 488 RX13 yX13_tell wsX13_tell) := goodIn_app (goodIn_of _ (by decide +kernel)) ggX13_report_X13_tell
theorem dX13_report_0 : decode cX13_report 0 = .ok (.aload_n 0, 1) := by decide +kernel
theorem dX13_report_1 : decode cX13_report 1 = .ok (.iconst 0, 1) := by decide +kernel
theorem dX13_report_2 : decode cX13_report 2 = .ok (.putfield 93, 3) := by decide +kernel
theorem dX13_report_5 : decode cX13_report 5 = .ok (.aload_n 0, 1) := by decide +kernel
theorem dX13_report_6 : decode cX13_report 6 = .ok (.iconst 0, 1) := by decide +kernel
theorem dX13_report_7 : decode cX13_report 7 = .ok (.putfield 482, 3) := by decide +kernel
theorem dX13_report_10 : decode cX13_report 10 = .ok (.aload_n 0, 1) := by decide +kernel
theorem dX13_report_11 : decode cX13_report 11 = .ok (.iconst 1, 1) := by decide +kernel
theorem dX13_report_12 : decode cX13_report 12 = .ok (.putfield 485, 3) := by decide +kernel
theorem dX13_report_15 : decode cX13_report 15 = .ok (.aload_n 0, 1) := by decide +kernel
theorem dX13_report_16 : decode cX13_report 16 = .ok (.getfield 20, 3) := by decide +kernel
theorem dX13_report_19 : decode cX13_report 19 = .ok (.iconst 1, 1) := by decide +kernel
theorem dX13_report_20 : decode cX13_report 20 = .ok (.iaload, 1) := by decide +kernel
theorem dX13_report_21 : decode cX13_report 21 = .ok (.iconst 1, 1) := by decide +kernel
theorem dX13_report_22 : decode cX13_report 22 = .ok (.isub, 1) := by decide +kernel
theorem dX13_report_23 : decode cX13_report 23 = .ok (.istore_n 1, 1) := by decide +kernel
theorem dX13_report_24 : decode cX13_report 24 = .ok (.iload_n 1, 1) := by decide +kernel
theorem dX13_report_25 : decode cX13_report 25 = .ok (.ifCond .lt 83, 3) := by decide +kernel
theorem dX13_report_28 : decode cX13_report 28 = .ok (.iconst 0, 1) := by decide +kernel
theorem dX13_report_29 : decode cX13_report 29 = .ok (.istore_n 2, 1) := by decide +kernel
theorem dX13_report_30 : decode cX13_report 30 = .ok (.iload_n 2, 1) := by decide +kernel
theorem dX13_report_31 : decode cX13_report 31 = .ok (.aload_n 0, 1) := by decide +kernel
theorem dX13_report_32 : decode cX13_report 32 = .ok (.getfield 20, 3) := by decide +kernel
theorem dX13_report_35 : decode cX13_report 35 = .ok (.iconst 0, 1) := by decide +kernel
theorem dX13_report_36 : decode cX13_report 36 = .ok (.iaload, 1) := by decide +kernel
theorem dX13_report_37 : decode cX13_report 37 = .ok (.if_icmp .ge 59, 3) := by decide +kernel
theorem dX13_report_40 : decode cX13_report 40 = .ok (.aload_n 0, 1) := by decide +kernel
theorem dX13_report_41 : decode cX13_report 41 = .ok (.getfield 29, 3) := by decide +kernel
theorem dX13_report_44 : decode cX13_report 44 = .ok (.bipush 16, 2) := by decide +kernel
theorem dX13_report_46 : decode cX13_report 46 = .ok (.iload_n 1, 1) := by decide +kernel
theorem dX13_report_47 : decode cX13_report 47 = .ok (.imul, 1) := by decide +kernel
theorem dX13_report_48 : decode cX13_report 48 = .ok (.iload_n 2, 1) := by decide +kernel
theorem dX13_report_49 : decode cX13_report 49 = .ok (.iadd, 1) := by decide +kernel
theorem dX13_report_50 : decode cX13_report 50 = .ok (.iaload, 1) := by decide +kernel
theorem dX13_report_51 : decode cX13_report 51 = .ok (.istore_n 3, 1) := by decide +kernel
theorem dX13_report_52 : decode cX13_report 52 = .ok (.iload_n 2, 1) := by decide +kernel
theorem dX13_report_53 : decode cX13_report 53 = .ok (.ifCond .le 9, 3) := by decide +kernel
theorem dX13_report_56 : decode cX13_report 56 = .ok (.aload_n 0, 1) := by decide +kernel
theorem dX13_report_57 : decode cX13_report 57 = .ok (.bipush 32, 2) := by decide +kernel
theorem dX13_report_59 : decode cX13_report 59 = .ok (.invokevirtual 488, 3) := by decide +kernel
theorem dX13_report_62 : decode cX13_report 62 = .ok (.iload_n 3, 1) := by decide +kernel
theorem dX13_report_63 : decode cX13_report 63 = .ok (.bipush 9, 2) := by decide +kernel
theorem dX13_report_65 : decode cX13_report 65 = .ok (.if_icmp .le 14, 3) := by decide +kernel
theorem dX13_report_68 : decode cX13_report 68 = .ok (.aload_n 0, 1) := by decide +kernel
theorem dX13_report_69 : decode cX13_report 69 = .ok (.bipush 48, 2) := by decide +kernel
theorem dX13_report_71 : decode cX13_report 71 = .ok (.iload_n 3, 1) := by decide +kernel
theorem dX13_report_72 : decode cX13_report 72 = .ok (.bipush 10, 2) := by decide +kernel
theorem dX13_report_74 : decode cX13_report 74 = .ok (.idiv, 1) := by decide +kernel
theorem dX13_report_75 : decode cX13_report 75 = .ok (.iadd, 1) := by decide +kernel
theorem dX13_report_76 : decode cX13_report 76 = .ok (.invokevirtual 488, 3) := by decide +kernel
theorem dX13_report_79 : decode cX13_report 79 = .ok (.aload_n 0, 1) := by decide +kernel
theorem dX13_report_80 : decode cX13_report 80 = .ok (.bipush 48, 2) := by decide +kernel
theorem dX13_report_82 : decode cX13_report 82 = .ok (.iload_n 3, 1) := by decide +kernel
theorem dX13_report_83 : decode cX13_report 83 = .ok (.bipush 10, 2) := by decide +kernel
theorem dX13_report_85 : decode cX13_report 85 = .ok (.irem, 1) := by decide +kernel
theorem dX13_report_86 : decode cX13_report 86 = .ok (.iadd, 1) := by decide +kernel
theorem dX13_report_87 : decode cX13_report 87 = .ok (.invokevirtual 488, 3) := by decide +kernel
theorem dX13_report_90 : decode cX13_report 90 = .ok (.iinc 2 1, 3) := by decide +kernel
theorem dX13_report_93 : decode cX13_report 93 = .ok (.goto (-63), 3) := by decide +kernel
theorem dX13_report_96 : decode cX13_report 96 = .ok (.aload_n 0, 1) := by decide +kernel
theorem dX13_report_97 : decode cX13_report 97 = .ok (.bipush 10, 2) := by decide +kernel
theorem dX13_report_99 : decode cX13_report 99 = .ok (.invokevirtual 488, 3) := by decide +kernel
theorem dX13_report_102 : decode cX13_report 102 = .ok (.iinc 1 (-1), 3) := by decide +kernel
theorem dX13_report_105 : decode cX13_report 105 = .ok (.goto (-81), 3) := by decide +kernel
theorem dX13_report_108 : decode cX13_report 108 = .ok (.aload_n 0, 1) := by decide +kernel
theorem dX13_report_109 : decode cX13_report 109 = .ok (.getfield 482, 3) := by decide +kernel
theorem dX13_report_112 : decode cX13_report 112 = .ok (.ireturn, 1) := by decide +kernel
set_option maxRecDepth 20000 in
theorem ggX13_reportByte_X13_isIn : GoodIn wsX13_reportByte wsX13_isIn := goodIn_r _ [7] (by decide +kernel) (by decide +kernel)
set_option maxRecDepth 20000 in
theorem gX13_reportByte_X13_isIn : GoodIn wsX13_reportByte (va_wsS RX13 111 yX13_isIn wsX13_isIn) := goodIn_app (goodIn_of _ (by decide +kernel)) ggX13_reportByte_X13_isIn
set_option maxRecDepth 20000 in
theorem ggX13_reportByte_X13_goes : GoodIn wsX13_reportByte wsX13_goes := goodIn_r _ [11, 12, 13, 14, 6, 15, 16, 17, 18, 19, 20, 21, 22, 23, 24, 25, 26, 27, 28, 29, 30, 31, 32, 33, 34, 35, 36, 37, 38, 39, 40, 41, 42, 43, 44, 45, 46, 47, 48, 49, 50, 51, 52, 53, 54, 55, 56, 57, 58, 59, 60, 61, 62, 63] (by decide +kernel) (by decide +kernel)
set_option maxRecDepth 20000 in
theorem gX13_reportByte_X13_goes : GoodIn wsX13_reportByte (wsV RX13 103 RX13 yX13_goes wsX13_goes) := goodIn_app (goodIn_of _ (by decide +kernel)) ggX13_reportByte_X13_goes
theorem dX13_reportByte_0 : decode cX13_reportByte 0 = .ok (.aload_n 0, 1) := by decide +kernel
theorem dX13_reportByte_1 : decode cX13_reportByte 1 = .ok (.aload_n 0, 1) := by decide +kernel
theorem dX13_reportByte_2 : decode cX13_reportByte 2 = .ok (.getfield 485, 3) := by decide +kernel
theorem dX13_reportByte_5 : decode cX13_reportByte 5 = .ok (.ifCond .eq 23, 3) := by decide +kernel
theorem dX13_reportByte_8 : decode cX13_reportByte 8 = .ok (.iload_n 1, 1) := by decide +kernel
theorem dX13_reportByte_9 : decode cX13_reportByte 9 = .ok (.i2l, 1) := by decide +kernel
theorem dX13_reportByte_10 : decode cX13_reportByte 10 = .ok (.lconst 0, 1) := by decide +kernel
theorem dX13_reportByte_11 : decode cX13_reportByte 11 = .ok (.aload_n 0, 1) := by decide +kernel
theorem dX13_reportByte_12 : decode cX13_reportByte 12 = .ok (.getfield 482, 3) := by decide +kernel
theorem dX13_reportByte_15 : decode cX13_reportByte 15 = .ok (.iconst 1, 1) := by decide +kernel
theorem dX13_reportByte_16 : decode cX13_reportByte 16 = .ok (.isub, 1) := by decide +kernel
theorem dX13_reportByte_17 : decode cX13_reportByte 17 = .ok (.i2l, 1) := by decide +kernel
theorem dX13_reportByte_18 : decode cX13_reportByte 18 = .ok (.invokestatic 111, 3) := by decide +kernel
theorem dX13_reportByte_21 : decode cX13_reportByte 21 = .ok (.ifCond .eq 7, 3) := by decide +kernel
theorem dX13_reportByte_24 : decode cX13_reportByte 24 = .ok (.iconst 1, 1) := by decide +kernel
theorem dX13_reportByte_25 : decode cX13_reportByte 25 = .ok (.goto 4, 3) := by decide +kernel
theorem dX13_reportByte_28 : decode cX13_reportByte 28 = .ok (.iconst 0, 1) := by decide +kernel
theorem dX13_reportByte_29 : decode cX13_reportByte 29 = .ok (.invokevirtual 103, 3) := by decide +kernel
theorem dX13_reportByte_32 : decode cX13_reportByte 32 = .ok (.ifCond .eq 12, 3) := by decide +kernel
theorem dX13_reportByte_35 : decode cX13_reportByte 35 = .ok (.aload_n 0, 1) := by decide +kernel
theorem dX13_reportByte_36 : decode cX13_reportByte 36 = .ok (.getfield 75, 3) := by decide +kernel
theorem dX13_reportByte_39 : decode cX13_reportByte 39 = .ok (.iload_n 1, 1) := by decide +kernel
theorem dX13_reportByte_40 : decode cX13_reportByte 40 = .ok (.iaload, 1) := by decide +kernel
theorem dX13_reportByte_41 : decode cX13_reportByte 41 = .ok (.goto 4, 3) := by decide +kernel
theorem dX13_reportByte_44 : decode cX13_reportByte 44 = .ok (.iconst 0, 1) := by decide +kernel
theorem dX13_reportByte_45 : decode cX13_reportByte 45 = .ok (.ireturn, 1) := by decide +kernel
set_option maxRecDepth 20000 in
theorem ggX13_save_X13_isIn : GoodIn wsX13_save wsX13_isIn := goodIn_r _ [9] (by decide +kernel) (by decide +kernel)
set_option maxRecDepth 20000 in
theorem gX13_save_X13_isIn : GoodIn wsX13_save (va_wsS RX13 111 yX13_isIn wsX13_isIn) := goodIn_app (goodIn_of _ (by decide +kernel)) ggX13_save_X13_isIn
set_option maxRecDepth 20000 in
theorem ggX13_save_X13_goes : GoodIn wsX13_save wsX13_goes := goodIn_r _ [13, 14, 15, 16, 8, 17, 30, 31, 32, 33, 34, 35, 36, 37, 38, 39, 40, 41, 42, 43, 44, 45, 46, 47, 48, 49, 50, 51, 52, 53, 54, 55, 56, 57, 58, 59, 60, 61, 62, 63, 64, 65, 66, 67, 68, 69, 70, 71, 72, 73, 74, 75, 76, 77] (by decide +kernel) (by decide +kernel)
set_option maxRecDepth 20000 in
theorem gX13_save_X13_goes : GoodIn wsX13_save (wsV RX13 103 RX13 yX13_goes wsX13_goes) := goodIn_app (goodIn_of _ (by decide +kernel)) ggX13_save_X13_goes
set_option maxRecDepth 20000 in
theorem ggX13_save_X13_volumeNow : GoodIn wsX13_save wsX13_volumeNow := goodIn_r _ [21, 2, 22, 23, 24, 8, 25, 4, 26, 27, 28, 29, 30, 31, 32, 33, 34, 35, 36, 37, 38, 39, 40, 41, 42, 43, 44, 45, 46, 47, 48, 49, 50, 51, 52, 53, 54, 55, 56, 57, 58, 59, 60, 61, 62, 63, 64, 65, 66, 67, 68, 69, 70, 71, 72, 73, 74, 75, 76, 77] (by decide +kernel) (by decide +kernel)
set_option maxRecDepth 20000 in
theorem gX13_save_X13_volumeNow : GoodIn wsX13_save (wsV RX13 258 RX13 yX13_volumeNow wsX13_volumeNow) := goodIn_app (goodIn_of _ (by decide +kernel)) ggX13_save_X13_volumeNow
theorem dX13_save_0 : decode cX13_save 0 = .ok (.aload_n 0, 1) := by decide +kernel
theorem dX13_save_1 : decode cX13_save 1 = .ok (.iload_n 1, 1) := by decide +kernel
theorem dX13_save_2 : decode cX13_save 2 = .ok (.i2l, 1) := by decide +kernel
theorem dX13_save_3 : decode cX13_save 3 = .ok (.lconst 0, 1) := by decide +kernel
theorem dX13_save_4 : decode cX13_save 4 = .ok (.lconst 1, 1) := by decide +kernel
theorem dX13_save_5 : decode cX13_save 5 = .ok (.invokestatic 111, 3) := by decide +kernel
theorem dX13_save_8 : decode cX13_save 8 = .ok (.invokevirtual 103, 3) := by decide +kernel
theorem dX13_save_11 : decode cX13_save 11 = .ok (.ifCond .ne 5, 3) := by decide +kernel
theorem dX13_save_14 : decode cX13_save 14 = .ok (.iconst 0, 1) := by decide +kernel
theorem dX13_save_15 : decode cX13_save 15 = .ok (.ireturn, 1) := by decide +kernel
theorem dX13_save_16 : decode cX13_save 16 = .ok (.iconst 0, 1) := by decide +kernel
theorem dX13_save_17 : decode cX13_save 17 = .ok (.istore_n 2, 1) := by decide +kernel
theorem dX13_save_18 : decode cX13_save 18 = .ok (.iload_n 2, 1) := by decide +kernel
theorem dX13_save_19 : decode cX13_save 19 = .ok (.sipush 192, 3) := by decide +kernel
theorem dX13_save_22 : decode cX13_save 22 = .ok (.if_icmp .ge 27, 3) := by decide +kernel
theorem dX13_save_25 : decode cX13_save 25 = .ok (.aload_n 0, 1) := by decide +kernel
theorem dX13_save_26 : decode cX13_save 26 = .ok (.getfield 78, 3) := by decide +kernel
theorem dX13_save_29 : decode cX13_save 29 = .ok (.sipush 192, 3) := by decide +kernel
theorem dX13_save_32 : decode cX13_save 32 = .ok (.iload_n 1, 1) := by decide +kernel
theorem dX13_save_33 : decode cX13_save 33 = .ok (.imul, 1) := by decide +kernel
theorem dX13_save_34 : decode cX13_save 34 = .ok (.iload_n 2, 1) := by decide +kernel
theorem dX13_save_35 : decode cX13_save 35 = .ok (.iadd, 1) := by decide +kernel
theorem dX13_save_36 : decode cX13_save 36 = .ok (.aload_n 0, 1) := by decide +kernel
theorem dX13_save_37 : decode cX13_save 37 = .ok (.getfield 29, 3) := by decide +kernel
theorem dX13_save_40 : decode cX13_save 40 = .ok (.iload_n 2, 1) := by decide +kernel
theorem dX13_save_41 : decode cX13_save 41 = .ok (.iaload, 1) := by decide +kernel
theorem dX13_save_42 : decode cX13_save 42 = .ok (.iastore, 1) := by decide +kernel
theorem dX13_save_43 : decode cX13_save 43 = .ok (.iinc 2 1, 3) := by decide +kernel
theorem dX13_save_46 : decode cX13_save 46 = .ok (.goto (-28), 3) := by decide +kernel
theorem dX13_save_49 : decode cX13_save 49 = .ok (.aload_n 0, 1) := by decide +kernel
theorem dX13_save_50 : decode cX13_save 50 = .ok (.getfield 81, 3) := by decide +kernel
theorem dX13_save_53 : decode cX13_save 53 = .ok (.iconst 4, 1) := by decide +kernel
theorem dX13_save_54 : decode cX13_save 54 = .ok (.iload_n 1, 1) := by decide +kernel
theorem dX13_save_55 : decode cX13_save 55 = .ok (.imul, 1) := by decide +kernel
theorem dX13_save_56 : decode cX13_save 56 = .ok (.aload_n 0, 1) := by decide +kernel
theorem dX13_save_57 : decode cX13_save 57 = .ok (.getfield 20, 3) := by decide +kernel
theorem dX13_save_60 : decode cX13_save 60 = .ok (.iconst 0, 1) := by decide +kernel
theorem dX13_save_61 : decode cX13_save 61 = .ok (.iaload, 1) := by decide +kernel
theorem dX13_save_62 : decode cX13_save 62 = .ok (.iastore, 1) := by decide +kernel
theorem dX13_save_63 : decode cX13_save 63 = .ok (.aload_n 0, 1) := by decide +kernel
theorem dX13_save_64 : decode cX13_save 64 = .ok (.getfield 81, 3) := by decide +kernel
theorem dX13_save_67 : decode cX13_save 67 = .ok (.iconst 4, 1) := by decide +kernel
theorem dX13_save_68 : decode cX13_save 68 = .ok (.iload_n 1, 1) := by decide +kernel
theorem dX13_save_69 : decode cX13_save 69 = .ok (.imul, 1) := by decide +kernel
theorem dX13_save_70 : decode cX13_save 70 = .ok (.iconst 1, 1) := by decide +kernel
theorem dX13_save_71 : decode cX13_save 71 = .ok (.iadd, 1) := by decide +kernel
theorem dX13_save_72 : decode cX13_save 72 = .ok (.aload_n 0, 1) := by decide +kernel
theorem dX13_save_73 : decode cX13_save 73 = .ok (.getfield 20, 3) := by decide +kernel
theorem dX13_save_76 : decode cX13_save 76 = .ok (.iconst 1, 1) := by decide +kernel
theorem dX13_save_77 : decode cX13_save 77 = .ok (.iaload, 1) := by decide +kernel
theorem dX13_save_78 : decode cX13_save 78 = .ok (.iastore, 1) := by decide +kernel
theorem dX13_save_79 : decode cX13_save 79 = .ok (.aload_n 0, 1) := by decide +kernel
theorem dX13_save_80 : decode cX13_save 80 = .ok (.getfield 81, 3) := by decide +kernel
theorem dX13_save_83 : decode cX13_save 83 = .ok (.iconst 4, 1) := by decide +kernel
theorem dX13_save_84 : decode cX13_save 84 = .ok (.iload_n 1, 1) := by decide +kernel
theorem dX13_save_85 : decode cX13_save 85 = .ok (.imul, 1) := by decide +kernel
theorem dX13_save_86 : decode cX13_save 86 = .ok (.iconst 2, 1) := by decide +kernel
theorem dX13_save_87 : decode cX13_save 87 = .ok (.iadd, 1) := by decide +kernel
theorem dX13_save_88 : decode cX13_save 88 = .ok (.aload_n 0, 1) := by decide +kernel
theorem dX13_save_89 : decode cX13_save 89 = .ok (.getfield 20, 3) := by decide +kernel
theorem dX13_save_92 : decode cX13_save 92 = .ok (.iconst 2, 1) := by decide +kernel
theorem dX13_save_93 : decode cX13_save 93 = .ok (.iaload, 1) := by decide +kernel
theorem dX13_save_94 : decode cX13_save 94 = .ok (.iastore, 1) := by decide +kernel
theorem dX13_save_95 : decode cX13_save 95 = .ok (.aload_n 0, 1) := by decide +kernel
theorem dX13_save_96 : decode cX13_save 96 = .ok (.getfield 81, 3) := by decide +kernel
theorem dX13_save_99 : decode cX13_save 99 = .ok (.iconst 4, 1) := by decide +kernel
theorem dX13_save_100 : decode cX13_save 100 = .ok (.iload_n 1, 1) := by decide +kernel
theorem dX13_save_101 : decode cX13_save 101 = .ok (.imul, 1) := by decide +kernel
theorem dX13_save_102 : decode cX13_save 102 = .ok (.iconst 3, 1) := by decide +kernel
theorem dX13_save_103 : decode cX13_save 103 = .ok (.iadd, 1) := by decide +kernel
theorem dX13_save_104 : decode cX13_save 104 = .ok (.aload_n 0, 1) := by decide +kernel
theorem dX13_save_105 : decode cX13_save 105 = .ok (.getfield 20, 3) := by decide +kernel
theorem dX13_save_108 : decode cX13_save 108 = .ok (.iconst 4, 1) := by decide +kernel
theorem dX13_save_109 : decode cX13_save 109 = .ok (.iaload, 1) := by decide +kernel
theorem dX13_save_110 : decode cX13_save 110 = .ok (.iastore, 1) := by decide +kernel
theorem dX13_save_111 : decode cX13_save 111 = .ok (.aload_n 0, 1) := by decide +kernel
theorem dX13_save_112 : decode cX13_save 112 = .ok (.getfield 84, 3) := by decide +kernel
theorem dX13_save_115 : decode cX13_save 115 = .ok (.iload_n 1, 1) := by decide +kernel
theorem dX13_save_116 : decode cX13_save 116 = .ok (.iconst 1, 1) := by decide +kernel
theorem dX13_save_117 : decode cX13_save 117 = .ok (.bastore, 1) := by decide +kernel
theorem dX13_save_118 : decode cX13_save 118 = .ok (.aload_n 0, 1) := by decide +kernel
theorem dX13_save_119 : decode cX13_save 119 = .ok (.invokevirtual 258, 3) := by decide +kernel
theorem dX13_save_122 : decode cX13_save 122 = .ok (.ireturn, 1) := by decide +kernel
theorem dX13_canRestore_0 : decode cX13_canRestore 0 = .ok (.aload_n 0, 1) := by decide +kernel
theorem dX13_canRestore_1 : decode cX13_canRestore 1 = .ok (.getfield 84, 3) := by decide +kernel
theorem dX13_canRestore_4 : decode cX13_canRestore 4 = .ok (.iload_n 1, 1) := by decide +kernel
theorem dX13_canRestore_5 : decode cX13_canRestore 5 = .ok (.baload, 1) := by decide +kernel
theorem dX13_canRestore_6 : decode cX13_canRestore 6 = .ok (.ifCond .eq 81, 3) := by decide +kernel
theorem dX13_canRestore_9 : decode cX13_canRestore 9 = .ok (.aload_n 0, 1) := by decide +kernel
theorem dX13_canRestore_10 : decode cX13_canRestore 10 = .ok (.getfield 81, 3) := by decide +kernel
theorem dX13_canRestore_13 : decode cX13_canRestore 13 = .ok (.iconst 4, 1) := by decide +kernel
theorem dX13_canRestore_14 : decode cX13_canRestore 14 = .ok (.iload_n 1, 1) := by decide +kernel
theorem dX13_canRestore_15 : decode cX13_canRestore 15 = .ok (.imul, 1) := by decide +kernel
theorem dX13_canRestore_16 : decode cX13_canRestore 16 = .ok (.iaload, 1) := by decide +kernel
theorem dX13_canRestore_17 : decode cX13_canRestore 17 = .ok (.aload_n 0, 1) := by decide +kernel
theorem dX13_canRestore_18 : decode cX13_canRestore 18 = .ok (.getfield 20, 3) := by decide +kernel
theorem dX13_canRestore_21 : decode cX13_canRestore 21 = .ok (.iconst 0, 1) := by decide +kernel
theorem dX13_canRestore_22 : decode cX13_canRestore 22 = .ok (.iaload, 1) := by decide +kernel
theorem dX13_canRestore_23 : decode cX13_canRestore 23 = .ok (.if_icmp .ne 64, 3) := by decide +kernel
theorem dX13_canRestore_26 : decode cX13_canRestore 26 = .ok (.aload_n 0, 1) := by decide +kernel
theorem dX13_canRestore_27 : decode cX13_canRestore 27 = .ok (.getfield 81, 3) := by decide +kernel
theorem dX13_canRestore_30 : decode cX13_canRestore 30 = .ok (.iconst 4, 1) := by decide +kernel
theorem dX13_canRestore_31 : decode cX13_canRestore 31 = .ok (.iload_n 1, 1) := by decide +kernel
theorem dX13_canRestore_32 : decode cX13_canRestore 32 = .ok (.imul, 1) := by decide +kernel
theorem dX13_canRestore_33 : decode cX13_canRestore 33 = .ok (.iconst 1, 1) := by decide +kernel
theorem dX13_canRestore_34 : decode cX13_canRestore 34 = .ok (.iadd, 1) := by decide +kernel
theorem dX13_canRestore_35 : decode cX13_canRestore 35 = .ok (.iaload, 1) := by decide +kernel
theorem dX13_canRestore_36 : decode cX13_canRestore 36 = .ok (.aload_n 0, 1) := by decide +kernel
theorem dX13_canRestore_37 : decode cX13_canRestore 37 = .ok (.getfield 20, 3) := by decide +kernel
theorem dX13_canRestore_40 : decode cX13_canRestore 40 = .ok (.iconst 1, 1) := by decide +kernel
theorem dX13_canRestore_41 : decode cX13_canRestore 41 = .ok (.iaload, 1) := by decide +kernel
theorem dX13_canRestore_42 : decode cX13_canRestore 42 = .ok (.if_icmp .ne 45, 3) := by decide +kernel
theorem dX13_canRestore_45 : decode cX13_canRestore 45 = .ok (.aload_n 0, 1) := by decide +kernel
theorem dX13_canRestore_46 : decode cX13_canRestore 46 = .ok (.getfield 81, 3) := by decide +kernel
theorem dX13_canRestore_49 : decode cX13_canRestore 49 = .ok (.iconst 4, 1) := by decide +kernel
theorem dX13_canRestore_50 : decode cX13_canRestore 50 = .ok (.iload_n 1, 1) := by decide +kernel
theorem dX13_canRestore_51 : decode cX13_canRestore 51 = .ok (.imul, 1) := by decide +kernel
theorem dX13_canRestore_52 : decode cX13_canRestore 52 = .ok (.iconst 2, 1) := by decide +kernel
theorem dX13_canRestore_53 : decode cX13_canRestore 53 = .ok (.iadd, 1) := by decide +kernel
theorem dX13_canRestore_54 : decode cX13_canRestore 54 = .ok (.iaload, 1) := by decide +kernel
theorem dX13_canRestore_55 : decode cX13_canRestore 55 = .ok (.aload_n 0, 1) := by decide +kernel
theorem dX13_canRestore_56 : decode cX13_canRestore 56 = .ok (.getfield 20, 3) := by decide +kernel
theorem dX13_canRestore_59 : decode cX13_canRestore 59 = .ok (.iconst 2, 1) := by decide +kernel
theorem dX13_canRestore_60 : decode cX13_canRestore 60 = .ok (.iaload, 1) := by decide +kernel
theorem dX13_canRestore_61 : decode cX13_canRestore 61 = .ok (.if_icmp .ne 26, 3) := by decide +kernel
theorem dX13_canRestore_64 : decode cX13_canRestore 64 = .ok (.aload_n 0, 1) := by decide +kernel
theorem dX13_canRestore_65 : decode cX13_canRestore 65 = .ok (.getfield 81, 3) := by decide +kernel
theorem dX13_canRestore_68 : decode cX13_canRestore 68 = .ok (.iconst 4, 1) := by decide +kernel
theorem dX13_canRestore_69 : decode cX13_canRestore 69 = .ok (.iload_n 1, 1) := by decide +kernel
theorem dX13_canRestore_70 : decode cX13_canRestore 70 = .ok (.imul, 1) := by decide +kernel
theorem dX13_canRestore_71 : decode cX13_canRestore 71 = .ok (.iconst 3, 1) := by decide +kernel
theorem dX13_canRestore_72 : decode cX13_canRestore 72 = .ok (.iadd, 1) := by decide +kernel
theorem dX13_canRestore_73 : decode cX13_canRestore 73 = .ok (.iaload, 1) := by decide +kernel
theorem dX13_canRestore_74 : decode cX13_canRestore 74 = .ok (.aload_n 0, 1) := by decide +kernel
theorem dX13_canRestore_75 : decode cX13_canRestore 75 = .ok (.getfield 20, 3) := by decide +kernel
theorem dX13_canRestore_78 : decode cX13_canRestore 78 = .ok (.iconst 4, 1) := by decide +kernel
theorem dX13_canRestore_79 : decode cX13_canRestore 79 = .ok (.iaload, 1) := by decide +kernel
theorem dX13_canRestore_80 : decode cX13_canRestore 80 = .ok (.if_icmp .ne 7, 3) := by decide +kernel
theorem dX13_canRestore_83 : decode cX13_canRestore 83 = .ok (.iconst 1, 1) := by decide +kernel
theorem dX13_canRestore_84 : decode cX13_canRestore 84 = .ok (.goto 4, 3) := by decide +kernel
theorem dX13_canRestore_87 : decode cX13_canRestore 87 = .ok (.iconst 0, 1) := by decide +kernel
theorem dX13_canRestore_88 : decode cX13_canRestore 88 = .ok (.ireturn, 1) := by decide +kernel
set_option maxRecDepth 20000 in
theorem ggX13_restore_X13_isIn : GoodIn wsX13_restore wsX13_isIn := goodIn_r _ [8] (by decide +kernel) (by decide +kernel)
set_option maxRecDepth 20000 in
theorem gX13_restore_X13_isIn : GoodIn wsX13_restore (va_wsS RX13 111 yX13_isIn wsX13_isIn) := goodIn_app (goodIn_of _ (by decide +kernel)) ggX13_restore_X13_isIn
set_option maxRecDepth 20000 in
theorem ggX13_restore_X13_canRestore : GoodIn wsX13_restore wsX13_canRestore := goodIn_r _ [12, 13, 14, 15, 19, 20, 21, 22, 23, 24, 25, 26, 27, 28, 29, 30, 31, 32, 33, 34, 35, 36, 37, 38, 39, 40, 41, 42, 43, 44, 45, 46, 47, 48, 49, 50, 51, 52, 53, 54, 55, 56, 57, 58, 59, 60, 61, 62, 63, 64, 65, 66] (by decide +kernel) (by decide +kernel)
set_option maxRecDepth 20000 in
theorem gX13_restore_X13_canRestore : GoodIn wsX13_restore (wsV RX13 491 RX13 yX13_canRestore wsX13_canRestore) := goodIn_app (goodIn_of _ (by decide +kernel)) ggX13_restore_X13_canRestore
set_option maxRecDepth 20000 in
theorem ggX13_restore_X13_truth : GoodIn wsX13_restore wsX13_truth := goodIn_r _ [18] (by decide +kernel) (by decide +kernel)
set_option maxRecDepth 20000 in
theorem gX13_restore_X13_truth : GoodIn wsX13_restore (va_wsS RX13 96 yX13_truth wsX13_truth) := goodIn_app (goodIn_of _ (by decide +kernel)) ggX13_restore_X13_truth
theorem dX13_restore_0 : decode cX13_restore 0 = .ok (.iload_n 1, 1) := by decide +kernel
theorem dX13_restore_1 : decode cX13_restore 1 = .ok (.i2l, 1) := by decide +kernel
theorem dX13_restore_2 : decode cX13_restore 2 = .ok (.lconst 0, 1) := by decide +kernel
theorem dX13_restore_3 : decode cX13_restore 3 = .ok (.lconst 1, 1) := by decide +kernel
theorem dX13_restore_4 : decode cX13_restore 4 = .ok (.invokestatic 111, 3) := by decide +kernel
theorem dX13_restore_7 : decode cX13_restore 7 = .ok (.istore_n 2, 1) := by decide +kernel
theorem dX13_restore_8 : decode cX13_restore 8 = .ok (.aload_n 0, 1) := by decide +kernel
theorem dX13_restore_9 : decode cX13_restore 9 = .ok (.iload_n 2, 1) := by decide +kernel
theorem dX13_restore_10 : decode cX13_restore 10 = .ok (.ifCond .ne 7, 3) := by decide +kernel
theorem dX13_restore_13 : decode cX13_restore 13 = .ok (.iconst 1, 1) := by decide +kernel
theorem dX13_restore_14 : decode cX13_restore 14 = .ok (.goto 21, 3) := by decide +kernel
theorem dX13_restore_17 : decode cX13_restore 17 = .ok (.aload_n 0, 1) := by decide +kernel
theorem dX13_restore_18 : decode cX13_restore 18 = .ok (.iload_n 1, 1) := by decide +kernel
theorem dX13_restore_19 : decode cX13_restore 19 = .ok (.invokevirtual 491, 3) := by decide +kernel
theorem dX13_restore_22 : decode cX13_restore 22 = .ok (.ifCond .ne 7, 3) := by decide +kernel
theorem dX13_restore_25 : decode cX13_restore 25 = .ok (.iconst 1, 1) := by decide +kernel
theorem dX13_restore_26 : decode cX13_restore 26 = .ok (.goto 4, 3) := by decide +kernel
theorem dX13_restore_29 : decode cX13_restore 29 = .ok (.iconst 0, 1) := by decide +kernel
theorem dX13_restore_30 : decode cX13_restore 30 = .ok (.invokestatic 96, 3) := by decide +kernel
theorem dX13_restore_33 : decode cX13_restore 33 = .ok (.iconst 2, 1) := by decide +kernel
theorem dX13_restore_34 : decode cX13_restore 34 = .ok (.imul, 1) := by decide +kernel
theorem dX13_restore_35 : decode cX13_restore 35 = .ok (.putfield 93, 3) := by decide +kernel
theorem dX13_restore_38 : decode cX13_restore 38 = .ok (.aload_n 0, 1) := by decide +kernel
theorem dX13_restore_39 : decode cX13_restore 39 = .ok (.getfield 93, 3) := by decide +kernel
theorem dX13_restore_42 : decode cX13_restore 42 = .ok (.ifCond .le 5, 3) := by decide +kernel
theorem dX13_restore_45 : decode cX13_restore 45 = .ok (.iconst 0, 1) := by decide +kernel
theorem dX13_restore_46 : decode cX13_restore 46 = .ok (.ireturn, 1) := by decide +kernel
theorem dX13_restore_47 : decode cX13_restore 47 = .ok (.iconst 0, 1) := by decide +kernel
theorem dX13_restore_48 : decode cX13_restore 48 = .ok (.istore_n 3, 1) := by decide +kernel
theorem dX13_restore_49 : decode cX13_restore 49 = .ok (.iconst 0, 1) := by decide +kernel
theorem dX13_restore_50 : decode cX13_restore 50 = .ok (.istore 4, 2) := by decide +kernel
theorem dX13_restore_52 : decode cX13_restore 52 = .ok (.iload 4, 2) := by decide +kernel
theorem dX13_restore_54 : decode cX13_restore 54 = .ok (.sipush 192, 3) := by decide +kernel
theorem dX13_restore_57 : decode cX13_restore 57 = .ok (.if_icmp .ge 63, 3) := by decide +kernel
theorem dX13_restore_60 : decode cX13_restore 60 = .ok (.iload_n 3, 1) := by decide +kernel
theorem dX13_restore_61 : decode cX13_restore 61 = .ok (.aload_n 0, 1) := by decide +kernel
theorem dX13_restore_62 : decode cX13_restore 62 = .ok (.getfield 29, 3) := by decide +kernel
theorem dX13_restore_65 : decode cX13_restore 65 = .ok (.iload 4, 2) := by decide +kernel
theorem dX13_restore_67 : decode cX13_restore 67 = .ok (.iaload, 1) := by decide +kernel
theorem dX13_restore_68 : decode cX13_restore 68 = .ok (.aload_n 0, 1) := by decide +kernel
theorem dX13_restore_69 : decode cX13_restore 69 = .ok (.getfield 78, 3) := by decide +kernel
theorem dX13_restore_72 : decode cX13_restore 72 = .ok (.sipush 192, 3) := by decide +kernel
theorem dX13_restore_75 : decode cX13_restore 75 = .ok (.iload_n 1, 1) := by decide +kernel
theorem dX13_restore_76 : decode cX13_restore 76 = .ok (.imul, 1) := by decide +kernel
theorem dX13_restore_77 : decode cX13_restore 77 = .ok (.iload 4, 2) := by decide +kernel
theorem dX13_restore_79 : decode cX13_restore 79 = .ok (.iadd, 1) := by decide +kernel
theorem dX13_restore_80 : decode cX13_restore 80 = .ok (.iaload, 1) := by decide +kernel
theorem dX13_restore_81 : decode cX13_restore 81 = .ok (.if_icmp .eq 7, 3) := by decide +kernel
theorem dX13_restore_84 : decode cX13_restore 84 = .ok (.iconst 1, 1) := by decide +kernel
theorem dX13_restore_85 : decode cX13_restore 85 = .ok (.goto 4, 3) := by decide +kernel
theorem dX13_restore_88 : decode cX13_restore 88 = .ok (.iconst 0, 1) := by decide +kernel
theorem dX13_restore_89 : decode cX13_restore 89 = .ok (.invokestatic 96, 3) := by decide +kernel
theorem dX13_restore_92 : decode cX13_restore 92 = .ok (.iadd, 1) := by decide +kernel
theorem dX13_restore_93 : decode cX13_restore 93 = .ok (.istore_n 3, 1) := by decide +kernel
theorem dX13_restore_94 : decode cX13_restore 94 = .ok (.aload_n 0, 1) := by decide +kernel
theorem dX13_restore_95 : decode cX13_restore 95 = .ok (.getfield 29, 3) := by decide +kernel
theorem dX13_restore_98 : decode cX13_restore 98 = .ok (.iload 4, 2) := by decide +kernel
theorem dX13_restore_100 : decode cX13_restore 100 = .ok (.aload_n 0, 1) := by decide +kernel
theorem dX13_restore_101 : decode cX13_restore 101 = .ok (.getfield 78, 3) := by decide +kernel
theorem dX13_restore_104 : decode cX13_restore 104 = .ok (.sipush 192, 3) := by decide +kernel
theorem dX13_restore_107 : decode cX13_restore 107 = .ok (.iload_n 1, 1) := by decide +kernel
theorem dX13_restore_108 : decode cX13_restore 108 = .ok (.imul, 1) := by decide +kernel
theorem dX13_restore_109 : decode cX13_restore 109 = .ok (.iload 4, 2) := by decide +kernel
theorem dX13_restore_111 : decode cX13_restore 111 = .ok (.iadd, 1) := by decide +kernel
theorem dX13_restore_112 : decode cX13_restore 112 = .ok (.iaload, 1) := by decide +kernel
theorem dX13_restore_113 : decode cX13_restore 113 = .ok (.iastore, 1) := by decide +kernel
theorem dX13_restore_114 : decode cX13_restore 114 = .ok (.iinc 4 1, 3) := by decide +kernel
theorem dX13_restore_117 : decode cX13_restore 117 = .ok (.goto (-65), 3) := by decide +kernel
theorem dX13_restore_120 : decode cX13_restore 120 = .ok (.aload_n 0, 1) := by decide +kernel
theorem dX13_restore_121 : decode cX13_restore 121 = .ok (.iconst 0, 1) := by decide +kernel
theorem dX13_restore_122 : decode cX13_restore 122 = .ok (.putfield 207, 3) := by decide +kernel
theorem dX13_restore_125 : decode cX13_restore 125 = .ok (.iload_n 3, 1) := by decide +kernel
theorem dX13_restore_126 : decode cX13_restore 126 = .ok (.ireturn, 1) := by decide +kernel
