set_option maxRecDepth 20000 in
theorem ggX12_init_X5_init : GoodIn wsX12_init wsX5_init := goodIn_r _ [45, 46, 2, 3, 47, 48, 49, 50, 51, 52, 53, 54, 6, 55, 56, 57, 58, 59, 60, 61, 62, 63, 64, 65, 66, 67, 68, 69, 70, 71, 72, 73, 74, 75, 76, 77, 78, 79, 80, 81, 82, 83, 84, 85, 86, 87, 88, 89, 90, 91, 92, 93, 94, 95, 96, 97, 98, 99, 100, 101, 102, 103, 104, 105, 106, 154, 155, 156, 157, 158, 159, 160, 161, 162, 163] (by decide +kernel) (by decide +kernel)
set_option maxRecDepth 20000 in
theorem gX12_init_X5_init : GoodIn wsX12_init (wsX5_init) := ggX12_init_X5_init
set_option maxRecDepth 20000 in
theorem ggX12_init_X3_init : GoodIn wsX12_init wsX3_init := goodIn_r _ [109, 110, 2, 3, 111, 112, 5, 6, 113, 44, 45, 46, 47, 48, 49, 50, 51, 52, 53, 54, 55, 56, 57, 58, 59, 60, 61, 62, 63, 64, 65, 66, 67, 68, 69, 70, 71, 72, 73, 74, 75, 76, 77, 78, 79, 80, 81, 82, 83, 84, 85, 86, 87, 88, 89, 90, 91, 92, 93, 94, 95, 96, 97, 98, 99, 100, 101, 102, 103, 104, 105, 106, 179, 180, 181, 154, 155, 156, 157, 158, 159, 160, 161, 162, 163] (by decide +kernel) (by decide +kernel)
set_option maxRecDepth 20000 in
theorem gX12_init_X3_init : GoodIn wsX12_init (wsX3_init) := ggX12_init_X3_init
set_option maxRecDepth 20000 in
theorem ggX12_init_X11_init : GoodIn wsX12_init wsX11_init := goodIn_r _ [115, 116, 2, 3, 10, 117, 182] (by decide +kernel) (by decide +kernel)
set_option maxRecDepth 20000 in
theorem gX12_init_X11_init_n36 : GoodIn wsX12_init (wsX11_init) := ggX12_init_X11_init
set_option maxRecDepth 20000 in
theorem ggX12_init_X4_init : GoodIn wsX12_init wsX4_init := goodIn_r _ [120, 121, 2, 3, 47, 122, 10, 123, 124, 183, 184, 185, 186] (by decide +kernel) (by decide +kernel)
set_option maxRecDepth 20000 in
theorem gX12_init_X4_init : GoodIn wsX12_init (wsX4_init) := ggX12_init_X4_init
set_option maxRecDepth 20000 in
theorem ggX12_init_X6_init : GoodIn wsX12_init wsX6_init := goodIn_r _ [127, 128, 2, 3, 47, 129, 130, 64, 65, 66, 187] (by decide +kernel) (by decide +kernel)
set_option maxRecDepth 20000 in
theorem gX12_init_X6_init : GoodIn wsX12_init (wsX6_init) := ggX12_init_X6_init
set_option maxRecDepth 20000 in
theorem ggX12_init_X10_init : GoodIn wsX12_init wsX10_init := goodIn_r _ [132, 133, 2, 3, 40, 134, 47, 135, 136, 137, 188, 189, 190, 191, 192, 193, 194, 195, 196, 197, 198] (by decide +kernel) (by decide +kernel)
set_option maxRecDepth 20000 in
theorem gX12_init_X10_init_n59 : GoodIn wsX12_init (wsX10_init) := ggX12_init_X10_init
set_option maxRecDepth 20000 in
theorem ggX12_init_X7_init : GoodIn wsX12_init wsX7_init := goodIn_r _ [140, 141, 2, 3, 142, 143, 199, 200, 201, 202, 203, 204, 205, 206] (by decide +kernel) (by decide +kernel)
set_option maxRecDepth 20000 in
theorem gX12_init_X7_init : GoodIn wsX12_init (wsX7_init) := ggX12_init_X7_init
set_option maxRecDepth 20000 in
theorem ggX12_init_X8_init : GoodIn wsX12_init wsX8_init := goodIn_r _ [146, 147, 2, 3, 148, 149, 47, 150, 151, 152, 153, 207, 208, 209, 210, 211, 212, 213] (by decide +kernel) (by decide +kernel)
set_option maxRecDepth 20000 in
theorem gX12_init_X8_init : GoodIn wsX12_init (wsX8_init) := ggX12_init_X8_init
theorem dX12_init_0 : decode cX12_init 0 = .ok (.aload_n 0, 1) := by decide +kernel
theorem dX12_init_1 : decode cX12_init 1 = .ok (.invokespecial 3, 3) := by decide +kernel
theorem dX12_init_4 : decode cX12_init 4 = .ok (.aload_n 0, 1) := by decide +kernel
theorem dX12_init_5 : decode cX12_init 5 = .ok (.new 9, 3) := by decide +kernel
theorem dX12_init_8 : decode cX12_init 8 = .ok (.dup, 1) := by decide +kernel
theorem dX12_init_9 : decode cX12_init 9 = .ok (.invokespecial 11, 3) := by decide +kernel
theorem dX12_init_12 : decode cX12_init 12 = .ok (.putfield 12, 3) := by decide +kernel
theorem dX12_init_15 : decode cX12_init 15 = .ok (.aload_n 0, 1) := by decide +kernel
theorem dX12_init_16 : decode cX12_init 16 = .ok (.new 9, 3) := by decide +kernel
theorem dX12_init_19 : decode cX12_init 19 = .ok (.dup, 1) := by decide +kernel
theorem dX12_init_20 : decode cX12_init 20 = .ok (.invokespecial 11, 3) := by decide +kernel
theorem dX12_init_23 : decode cX12_init 23 = .ok (.putfield 16, 3) := by decide +kernel
theorem dX12_init_26 : decode cX12_init 26 = .ok (.aload_n 0, 1) := by decide +kernel
theorem dX12_init_27 : decode cX12_init 27 = .ok (.iconst 2, 1) := by decide +kernel
theorem dX12_init_28 : decode cX12_init 28 = .ok (.anewarray 9, 3) := by decide +kernel
theorem dX12_init_31 : decode cX12_init 31 = .ok (.putfield 19, 3) := by decide +kernel
theorem dX12_init_34 : decode cX12_init 34 = .ok (.iconst 0, 1) := by decide +kernel
theorem dX12_init_35 : decode cX12_init 35 = .ok (.istore_n 1, 1) := by decide +kernel
theorem dX12_init_36 : decode cX12_init 36 = .ok (.iload_n 1, 1) := by decide +kernel
theorem dX12_init_37 : decode cX12_init 37 = .ok (.iconst 2, 1) := by decide +kernel
theorem dX12_init_38 : decode cX12_init 38 = .ok (.if_icmp .ge 22, 3) := by decide +kernel
theorem dX12_init_41 : decode cX12_init 41 = .ok (.aload_n 0, 1) := by decide +kernel
theorem dX12_init_42 : decode cX12_init 42 = .ok (.getfield 19, 3) := by decide +kernel
theorem dX12_init_45 : decode cX12_init 45 = .ok (.iload_n 1, 1) := by decide +kernel
theorem dX12_init_46 : decode cX12_init 46 = .ok (.new 9, 3) := by decide +kernel
theorem dX12_init_49 : decode cX12_init 49 = .ok (.dup, 1) := by decide +kernel
theorem dX12_init_50 : decode cX12_init 50 = .ok (.invokespecial 11, 3) := by decide +kernel
theorem dX12_init_53 : decode cX12_init 53 = .ok (.aastore, 1) := by decide +kernel
theorem dX12_init_54 : decode cX12_init 54 = .ok (.iinc 1 1, 3) := by decide +kernel
theorem dX12_init_57 : decode cX12_init 57 = .ok (.goto (-21), 3) := by decide +kernel
theorem dX12_init_60 : decode cX12_init 60 = .ok (.aload_n 0, 1) := by decide +kernel
theorem dX12_init_61 : decode cX12_init 61 = .ok (.iconst 2, 1) := by decide +kernel
theorem dX12_init_62 : decode cX12_init 62 = .ok (.newarray .boolean, 2) := by decide +kernel
theorem dX12_init_64 : decode cX12_init 64 = .ok (.putfield 23, 3) := by decide +kernel
theorem dX12_init_67 : decode cX12_init 67 = .ok (.aload_n 0, 1) := by decide +kernel
theorem dX12_init_68 : decode cX12_init 68 = .ok (.new 27, 3) := by decide +kernel
theorem dX12_init_71 : decode cX12_init 71 = .ok (.dup, 1) := by decide +kernel
theorem dX12_init_72 : decode cX12_init 72 = .ok (.invokespecial 29, 3) := by decide +kernel
theorem dX12_init_75 : decode cX12_init 75 = .ok (.putfield 30, 3) := by decide +kernel
theorem dX12_init_78 : decode cX12_init 78 = .ok (.aload_n 0, 1) := by decide +kernel
theorem dX12_init_79 : decode cX12_init 79 = .ok (.new 34, 3) := by decide +kernel
theorem dX12_init_82 : decode cX12_init 82 = .ok (.dup, 1) := by decide +kernel
theorem dX12_init_83 : decode cX12_init 83 = .ok (.invokespecial 36, 3) := by decide +kernel
theorem dX12_init_86 : decode cX12_init 86 = .ok (.putfield 37, 3) := by decide +kernel
theorem dX12_init_89 : decode cX12_init 89 = .ok (.aload_n 0, 1) := by decide +kernel
theorem dX12_init_90 : decode cX12_init 90 = .ok (.new 41, 3) := by decide +kernel
theorem dX12_init_93 : decode cX12_init 93 = .ok (.dup, 1) := by decide +kernel
theorem dX12_init_94 : decode cX12_init 94 = .ok (.aload_n 0, 1) := by decide +kernel
theorem dX12_init_95 : decode cX12_init 95 = .ok (.getfield 12, 3) := by decide +kernel
theorem dX12_init_98 : decode cX12_init 98 = .ok (.invokespecial 43, 3) := by decide +kernel
theorem dX12_init_101 : decode cX12_init 101 = .ok (.putfield 46, 3) := by decide +kernel
theorem dX12_init_104 : decode cX12_init 104 = .ok (.aload_n 0, 1) := by decide +kernel
theorem dX12_init_105 : decode cX12_init 105 = .ok (.new 50, 3) := by decide +kernel
theorem dX12_init_108 : decode cX12_init 108 = .ok (.dup, 1) := by decide +kernel
theorem dX12_init_109 : decode cX12_init 109 = .ok (.invokespecial 52, 3) := by decide +kernel
theorem dX12_init_112 : decode cX12_init 112 = .ok (.putfield 53, 3) := by decide +kernel
theorem dX12_init_115 : decode cX12_init 115 = .ok (.aload_n 0, 1) := by decide +kernel
theorem dX12_init_116 : decode cX12_init 116 = .ok (.new 57, 3) := by decide +kernel
theorem dX12_init_119 : decode cX12_init 119 = .ok (.dup, 1) := by decide +kernel
theorem dX12_init_120 : decode cX12_init 120 = .ok (.invokespecial 59, 3) := by decide +kernel
theorem dX12_init_123 : decode cX12_init 123 = .ok (.putfield 60, 3) := by decide +kernel
theorem dX12_init_126 : decode cX12_init 126 = .ok (.aload_n 0, 1) := by decide +kernel
theorem dX12_init_127 : decode cX12_init 127 = .ok (.new 64, 3) := by decide +kernel
theorem dX12_init_130 : decode cX12_init 130 = .ok (.dup, 1) := by decide +kernel
theorem dX12_init_131 : decode cX12_init 131 = .ok (.aload_n 0, 1) := by decide +kernel
theorem dX12_init_132 : decode cX12_init 132 = .ok (.getfield 60, 3) := by decide +kernel
theorem dX12_init_135 : decode cX12_init 135 = .ok (.aload_n 0, 1) := by decide +kernel
theorem dX12_init_136 : decode cX12_init 136 = .ok (.getfield 16, 3) := by decide +kernel
theorem dX12_init_139 : decode cX12_init 139 = .ok (.invokespecial 66, 3) := by decide +kernel
theorem dX12_init_142 : decode cX12_init 142 = .ok (.putfield 69, 3) := by decide +kernel
theorem dX12_init_145 : decode cX12_init 145 = .ok (.aload_n 0, 1) := by decide +kernel
theorem dX12_init_146 : decode cX12_init 146 = .ok (.new 73, 3) := by decide +kernel
theorem dX12_init_149 : decode cX12_init 149 = .ok (.dup, 1) := by decide +kernel
theorem dX12_init_150 : decode cX12_init 150 = .ok (.aload_n 0, 1) := by decide +kernel
theorem dX12_init_151 : decode cX12_init 151 = .ok (.getfield 60, 3) := by decide +kernel
theorem dX12_init_154 : decode cX12_init 154 = .ok (.invokespecial 75, 3) := by decide +kernel
theorem dX12_init_157 : decode cX12_init 157 = .ok (.putfield 78, 3) := by decide +kernel
theorem dX12_init_160 : decode cX12_init 160 = .ok (.aload_n 0, 1) := by decide +kernel
theorem dX12_init_161 : decode cX12_init 161 = .ok (.sipush 576, 3) := by decide +kernel
theorem dX12_init_164 : decode cX12_init 164 = .ok (.newarray .byte, 2) := by decide +kernel
theorem dX12_init_166 : decode cX12_init 166 = .ok (.putfield 82, 3) := by decide +kernel
theorem dX12_init_169 : decode cX12_init 169 = .ok (.aload_n 0, 1) := by decide +kernel
theorem dX12_init_170 : decode cX12_init 170 = .ok (.iconst (-1), 1) := by decide +kernel
theorem dX12_init_171 : decode cX12_init 171 = .ok (.putfield 86, 3) := by decide +kernel
theorem dX12_init_174 : decode cX12_init 174 = .ok (.return_, 1) := by decide +kernel
set_option maxRecDepth 20000 in
theorem ggX12_feed_X10_hasRoomFor : GoodIn wsX12_feed wsX10_hasRoomFor := goodIn_r _ [9, 10, 35, 36, 37, 38, 39, 40, 41, 42, 43, 44, 45] (by decide +kernel) (by decide +kernel)
set_option maxRecDepth 20000 in
theorem gX12_feed_X10_hasRoomFor : GoodIn wsX12_feed (wsV RX12 90 RX10 yX10_hasRoomFor wsX10_hasRoomFor) := goodIn_app (goodIn_of _ (by decide +kernel)) ggX12_feed_X10_hasRoomFor
set_option maxRecDepth 20000 in
theorem ggX12_feed_X10_append : GoodIn wsX12_feed wsX10_append := goodIn_r _ [14, 15, 16, 17, 8, 18, 10, 19, 35, 36, 37, 38, 39, 40, 41, 42, 43, 44, 45] (by decide +kernel) (by decide +kernel)
set_option maxRecDepth 20000 in
theorem gX12_feed_X10_append : GoodIn wsX12_feed (wsV RX12 97 RX10 yX10_append wsX10_append) := goodIn_app (goodIn_of _ (by decide +kernel)) ggX12_feed_X10_append
theorem dX12_feed_0 : decode cX12_feed 0 = .ok (.aload_n 0, 1) := by decide +kernel
theorem dX12_feed_1 : decode cX12_feed 1 = .ok (.getfield 60, 3) := by decide +kernel
theorem dX12_feed_4 : decode cX12_feed 4 = .ok (.bipush 20, 2) := by decide +kernel
theorem dX12_feed_6 : decode cX12_feed 6 = .ok (.invokevirtual 90, 3) := by decide +kernel
theorem dX12_feed_9 : decode cX12_feed 9 = .ok (.ifCond .ne 11, 3) := by decide +kernel
theorem dX12_feed_12 : decode cX12_feed 12 = .ok (.new 94, 3) := by decide +kernel
theorem dX12_feed_15 : decode cX12_feed 15 = .ok (.dup, 1) := by decide +kernel
theorem dX12_feed_16 : decode cX12_feed 16 = .ok (.invokespecial 96, 3) := by decide +kernel
theorem dX12_feed_19 : decode cX12_feed 19 = .ok (.athrow, 1) := by decide +kernel
theorem dX12_feed_20 : decode cX12_feed 20 = .ok (.aload_n 0, 1) := by decide +kernel
theorem dX12_feed_21 : decode cX12_feed 21 = .ok (.getfield 60, 3) := by decide +kernel
theorem dX12_feed_24 : decode cX12_feed 24 = .ok (.iload_n 1, 1) := by decide +kernel
theorem dX12_feed_25 : decode cX12_feed 25 = .ok (.invokevirtual 97, 3) := by decide +kernel
theorem dX12_feed_28 : decode cX12_feed 28 = .ok (.aload_n 0, 1) := by decide +kernel
theorem dX12_feed_29 : decode cX12_feed 29 = .ok (.getfield 60, 3) := by decide +kernel
theorem dX12_feed_32 : decode cX12_feed 32 = .ok (.iload_n 2, 1) := by decide +kernel
theorem dX12_feed_33 : decode cX12_feed 33 = .ok (.invokevirtual 97, 3) := by decide +kernel
theorem dX12_feed_36 : decode cX12_feed 36 = .ok (.aload_n 0, 1) := by decide +kernel
theorem dX12_feed_37 : decode cX12_feed 37 = .ok (.getfield 60, 3) := by decide +kernel
theorem dX12_feed_40 : decode cX12_feed 40 = .ok (.iload_n 3, 1) := by decide +kernel
theorem dX12_feed_41 : decode cX12_feed 41 = .ok (.invokevirtual 97, 3) := by decide +kernel
theorem dX12_feed_44 : decode cX12_feed 44 = .ok (.aload_n 0, 1) := by decide +kernel
theorem dX12_feed_45 : decode cX12_feed 45 = .ok (.getfield 60, 3) := by decide +kernel
theorem dX12_feed_48 : decode cX12_feed 48 = .ok (.iload 4, 2) := by decide +kernel
theorem dX12_feed_50 : decode cX12_feed 50 = .ok (.invokevirtual 97, 3) := by decide +kernel
theorem dX12_feed_53 : decode cX12_feed 53 = .ok (.aload_n 0, 1) := by decide +kernel
theorem dX12_feed_54 : decode cX12_feed 54 = .ok (.getfield 60, 3) := by decide +kernel
theorem dX12_feed_57 : decode cX12_feed 57 = .ok (.iload 5, 2) := by decide +kernel
theorem dX12_feed_59 : decode cX12_feed 59 = .ok (.invokevirtual 97, 3) := by decide +kernel
theorem dX12_feed_62 : decode cX12_feed 62 = .ok (.aload_n 0, 1) := by decide +kernel
theorem dX12_feed_63 : decode cX12_feed 63 = .ok (.getfield 60, 3) := by decide +kernel
theorem dX12_feed_66 : decode cX12_feed 66 = .ok (.getfield 101, 3) := by decide +kernel
theorem dX12_feed_69 : decode cX12_feed 69 = .ok (.ireturn, 1) := by decide +kernel
theorem dX12_truncate_0 : decode cX12_truncate 0 = .ok (.iload_n 1, 1) := by decide +kernel
theorem dX12_truncate_1 : decode cX12_truncate 1 = .ok (.ifCond .lt 14, 3) := by decide +kernel
theorem dX12_truncate_4 : decode cX12_truncate 4 = .ok (.iload_n 1, 1) := by decide +kernel
theorem dX12_truncate_5 : decode cX12_truncate 5 = .ok (.aload_n 0, 1) := by decide +kernel
theorem dX12_truncate_6 : decode cX12_truncate 6 = .ok (.getfield 60, 3) := by decide +kernel
theorem dX12_truncate_9 : decode cX12_truncate 9 = .ok (.getfield 101, 3) := by decide +kernel
theorem dX12_truncate_12 : decode cX12_truncate 12 = .ok (.if_icmp .le 11, 3) := by decide +kernel
theorem dX12_truncate_15 : decode cX12_truncate 15 = .ok (.new 104, 3) := by decide +kernel
theorem dX12_truncate_18 : decode cX12_truncate 18 = .ok (.dup, 1) := by decide +kernel
theorem dX12_truncate_19 : decode cX12_truncate 19 = .ok (.invokespecial 106, 3) := by decide +kernel
theorem dX12_truncate_22 : decode cX12_truncate 22 = .ok (.athrow, 1) := by decide +kernel
theorem dX12_truncate_23 : decode cX12_truncate 23 = .ok (.aload_n 0, 1) := by decide +kernel
theorem dX12_truncate_24 : decode cX12_truncate 24 = .ok (.getfield 60, 3) := by decide +kernel
theorem dX12_truncate_27 : decode cX12_truncate 27 = .ok (.iload_n 1, 1) := by decide +kernel
theorem dX12_truncate_28 : decode cX12_truncate 28 = .ok (.putfield 101, 3) := by decide +kernel
theorem dX12_truncate_31 : decode cX12_truncate 31 = .ok (.iload_n 1, 1) := by decide +kernel
theorem dX12_truncate_32 : decode cX12_truncate 32 = .ok (.ireturn, 1) := by decide +kernel
set_option maxRecDepth 20000 in
theorem ggX12_readText_X7_readDraft : GoodIn wsX12_readText wsX7_readDraft := goodIn_r _ [12, 13, 14, 15, 16, 17, 18, 19, 20, 21, 22, 23, 24, 25, 26, 27, 28, 29, 30, 31, 32, 33, 34, 35, 36, 37, 38, 39, 40, 41, 42, 43, 44, 45, 46, 47, 48, 49, 50, 51, 52, 53, 54, 55, 56, 57, 58, 59, 60, 61, 62, 63, 64, 65, 66, 67, 68, 69, 70, 71, 72, 73, 74, 75, 76, 77, 78, 79, 11, 80, 81, 82, 83, 84, 85, 86, 87, 88, 89, 90, 91, 92, 93, 94, 95, 96, 97, 98, 99, 100, 101, 102, 103, 104, 105, 106, 107, 108, 109, 110, 111, 112, 113, 114, 115, 116, 117, 118, 119, 120, 121, 122, 123, 124, 125, 126, 127, 128, 129, 130, 131, 132, 133, 134, 135, 136, 137, 138, 139, 140, 141, 142, 143, 144, 145, 146, 147, 148, 149, 150, 151, 152, 153, 154, 155, 156, 157, 158, 159, 160, 161, 162, 163, 164, 165, 166, 167, 168, 169, 170, 171, 172, 173, 174, 175, 176, 177, 178, 179, 180, 181, 182, 183, 184, 185, 186, 187, 188, 189, 190, 191, 192, 193, 194, 195, 196, 197, 198, 199, 200, 201, 202, 203, 204, 205, 206, 207, 208, 209, 210, 211, 212, 213, 214, 215, 216, 217, 218, 219, 220, 221, 222, 223, 224, 225, 226, 227, 228, 229, 274, 275, 276, 277, 278, 279, 280, 281, 282, 283, 284, 285, 286, 287, 288, 289, 290, 291, 292, 293, 294, 295, 296, 297, 298, 299, 300, 301, 302] (by decide +kernel) (by decide +kernel)
set_option maxRecDepth 20000 in
theorem gX12_readText_X7_readDraft : GoodIn wsX12_readText (wsV RX12 107 RX7 yX7_readDraft wsX7_readDraft) := goodIn_app (goodIn_of _ (by decide +kernel)) ggX12_readText_X7_readDraft
set_option maxRecDepth 20000 in
theorem ggX12_readText_X12_endText : GoodIn wsX12_readText wsX12_endText := goodIn_r _ [234, 235, 236, 237, 238, 239, 240, 259, 260, 261, 262, 263, 264, 265, 266, 267, 268, 269, 270, 271, 272, 273, 292, 293, 294, 295, 296, 297, 298, 299, 300, 301, 302] (by decide +kernel) (by decide +kernel)
set_option maxRecDepth 20000 in
theorem gX12_readText_X12_endText : GoodIn wsX12_readText (wsV RX12 111 RX12 yX12_endText wsX12_endText) := goodIn_app (goodIn_of _ (by decide +kernel)) ggX12_readText_X12_endText
set_option maxRecDepth 20000 in
theorem ggX12_readText_X5_copyFrom : GoodIn wsX12_readText wsX5_copyFrom := goodIn_r _ [244, 26, 27, 28, 29, 30, 31, 32, 33, 245, 246, 247, 248, 197, 249, 250, 251, 24, 252, 229, 282, 283, 284, 285, 286, 287, 288, 289, 290, 291] (by decide +kernel) (by decide +kernel)
set_option maxRecDepth 20000 in
theorem gX12_readText_X5_copyFrom : GoodIn wsX12_readText (wsV RX12 114 RX5 yX5_copyFrom wsX5_copyFrom) := goodIn_app (goodIn_of _ (by decide +kernel)) ggX12_readText_X5_copyFrom
set_option maxRecDepth 20000 in
theorem ggX12_readText_X3_forget : GoodIn wsX12_readText wsX3_forget := goodIn_r _ [257, 258, 303, 304, 305] (by decide +kernel) (by decide +kernel)
set_option maxRecDepth 20000 in
theorem gX12_readText_X3_forget : GoodIn wsX12_readText (wsV RX12 117 RX3 yX3_forget wsX3_forget) := goodIn_app (goodIn_of _ (by decide +kernel)) ggX12_readText_X3_forget
theorem dX12_readText_0 : decode cX12_readText 0 = .ok (.aload_n 0, 1) := by decide +kernel
theorem dX12_readText_1 : decode cX12_readText 1 = .ok (.getfield 69, 3) := by decide +kernel
theorem dX12_readText_4 : decode cX12_readText 4 = .ok (.invokevirtual 107, 3) := by decide +kernel
theorem dX12_readText_7 : decode cX12_readText 7 = .ok (.istore_n 1, 1) := by decide +kernel
theorem dX12_readText_8 : decode cX12_readText 8 = .ok (.aload_n 0, 1) := by decide +kernel
theorem dX12_readText_9 : decode cX12_readText 9 = .ok (.invokevirtual 111, 3) := by decide +kernel
theorem dX12_readText_12 : decode cX12_readText 12 = .ok (.iload_n 1, 1) := by decide +kernel
theorem dX12_readText_13 : decode cX12_readText 13 = .ok (.ifCond .ne 11, 3) := by decide +kernel
theorem dX12_readText_16 : decode cX12_readText 16 = .ok (.new 104, 3) := by decide +kernel
theorem dX12_readText_19 : decode cX12_readText 19 = .ok (.dup, 1) := by decide +kernel
theorem dX12_readText_20 : decode cX12_readText 20 = .ok (.invokespecial 106, 3) := by decide +kernel
theorem dX12_readText_23 : decode cX12_readText 23 = .ok (.athrow, 1) := by decide +kernel
theorem dX12_readText_24 : decode cX12_readText 24 = .ok (.aload_n 0, 1) := by decide +kernel
theorem dX12_readText_25 : decode cX12_readText 25 = .ok (.getfield 12, 3) := by decide +kernel
theorem dX12_readText_28 : decode cX12_readText 28 = .ok (.aload_n 0, 1) := by decide +kernel
theorem dX12_readText_29 : decode cX12_readText 29 = .ok (.getfield 16, 3) := by decide +kernel
theorem dX12_readText_32 : decode cX12_readText 32 = .ok (.invokevirtual 114, 3) := by decide +kernel
theorem dX12_readText_35 : decode cX12_readText 35 = .ok (.aload_n 0, 1) := by decide +kernel
theorem dX12_readText_36 : decode cX12_readText 36 = .ok (.getfield 30, 3) := by decide +kernel
theorem dX12_readText_39 : decode cX12_readText 39 = .ok (.invokevirtual 117, 3) := by decide +kernel
theorem dX12_readText_42 : decode cX12_readText 42 = .ok (.aload_n 0, 1) := by decide +kernel
theorem dX12_readText_43 : decode cX12_readText 43 = .ok (.getfield 69, 3) := by decide +kernel
theorem dX12_readText_46 : decode cX12_readText 46 = .ok (.getfield 120, 3) := by decide +kernel
theorem dX12_readText_49 : decode cX12_readText 49 = .ok (.ireturn, 1) := by decide +kernel
set_option maxRecDepth 20000 in
theorem ggX12_runScript_X8_readAll : GoodIn wsX12_runScript wsX8_readAll := goodIn_r _ [11, 12, 13, 14, 15, 16, 17, 18, 19, 20, 21, 22, 23, 24, 25, 26, 27, 28, 29, 30, 31, 32, 33, 34, 35, 36, 37, 38, 39, 40, 41, 42, 43, 44, 45, 46, 47, 48, 49, 50, 51, 52, 10, 53, 54, 55, 56, 57, 58, 59, 60, 61, 62, 63, 64, 65, 66, 67, 68, 69, 70, 71, 72, 73, 74, 75, 76, 77, 78, 79, 80, 81, 82, 83, 84, 85, 86, 87, 88, 89, 90, 91, 92, 93, 94, 95, 96, 97, 98, 99, 100, 101, 102, 103, 104, 105, 106, 107, 108, 109, 110, 111, 112, 113, 114, 115, 116, 117, 118, 119, 120, 121, 122, 123, 124, 125, 126, 127, 128, 129, 130, 131, 132, 133, 134, 135, 136, 137, 138, 139, 140, 141, 142, 143, 144, 145, 146, 147, 148, 149, 150, 151, 152, 153, 154, 155, 156, 157, 158, 159, 160, 161, 162, 163, 164, 165, 475, 476, 477, 478, 479, 480, 481, 482, 483, 484, 485, 486, 487, 488, 489, 490, 491, 492] (by decide +kernel) (by decide +kernel)
set_option maxRecDepth 20000 in
theorem gX12_runScript_X8_readAll : GoodIn wsX12_runScript (wsV RX12 123 RX8 yX8_readAll wsX8_readAll) := goodIn_app (goodIn_of _ (by decide +kernel)) ggX12_runScript_X8_readAll
set_option maxRecDepth 20000 in
theorem ggX12_runScript_X12_endText : GoodIn wsX12_runScript wsX12_endText := goodIn_r _ [170, 171, 172, 173, 174, 175, 176, 460, 461, 462, 463, 464, 465, 466, 467, 468, 469, 470, 471, 472, 473, 474, 482, 483, 484, 485, 486, 487, 488, 489, 490, 491, 492] (by decide +kernel) (by decide +kernel)
set_option maxRecDepth 20000 in
theorem gX12_runScript_X12_endText : GoodIn wsX12_runScript (wsV RX12 111 RX12 yX12_endText wsX12_endText) := goodIn_app (goodIn_of _ (by decide +kernel)) ggX12_runScript_X12_endText
set_option maxRecDepth 20000 in
theorem ggX12_runScript_X3_open : GoodIn wsX12_runScript wsX3_open := goodIn_r _ [181, 182, 183, 184, 185, 186, 187, 188, 189, 190, 191, 192, 193, 194, 195, 196, 197, 198, 199, 200, 201, 202, 203, 204, 205, 206, 493, 494, 495, 496, 497, 498, 499, 500, 501, 502, 503, 504, 505] (by decide +kernel) (by decide +kernel)
set_option maxRecDepth 20000 in
theorem gX12_runScript_X3_open : GoodIn wsX12_runScript (wsV RX12 126 RX3 yX3_open wsX3_open) := goodIn_app (goodIn_of _ (by decide +kernel)) ggX12_runScript_X3_open
set_option maxRecDepth 20000 in
theorem ggX12_runScript_X8_plannedAt : GoodIn wsX12_runScript wsX8_plannedAt := goodIn_r _ [210, 13, 157, 475, 476, 477, 478, 479, 480, 481] (by decide +kernel) (by decide +kernel)
set_option maxRecDepth 20000 in
theorem gX12_runScript_X8_plannedAt : GoodIn wsX12_runScript (wsV RX12 132 RX8 yX8_plannedAt wsX8_plannedAt) := goodIn_app (goodIn_of _ (by decide +kernel)) ggX12_runScript_X8_plannedAt
set_option maxRecDepth 20000 in
theorem ggX12_runScript_X12_tryCommand : GoodIn wsX12_runScript wsX12_tryCommand := goodIn_r _ [214, 3, 215, 216, 5, 217, 218, 219, 10, 220, 71, 132, 133, 134, 221, 163, 164, 165, 142, 222, 223, 224, 225, 226, 227, 228, 229, 230, 231, 169, 232, 233, 234, 235, 187, 236, 189, 190, 237, 238, 239, 240, 241, 242, 243, 244, 245, 246, 247, 196, 248, 249, 250, 251, 252, 253, 254, 255, 256, 193, 191, 257, 258, 259, 260, 201, 261, 262, 263, 264, 265, 266, 267, 206, 268, 269, 270, 271, 272, 273, 274, 275, 276, 277, 278, 279, 280, 281, 282, 283, 284, 285, 286, 287, 288, 289, 290, 291, 292, 293, 294, 295, 296, 297, 298, 299, 300, 301, 302, 303, 304, 305, 306, 307, 308, 309, 310, 311, 312, 313, 314, 315, 316, 317, 318, 319, 320, 321, 322, 323, 324, 325, 326, 327, 328, 329, 330, 331, 332, 333, 185, 186, 188, 192, 194, 195, 197, 198, 199, 200, 202, 203, 204, 205, 334, 335, 336, 337, 338, 339, 340, 341, 342, 343, 344, 345, 346, 347, 348, 349, 350, 351, 352, 353, 354, 355, 356, 357, 358, 359, 360, 361, 362, 363, 364, 365, 366, 367, 368, 369, 370, 371, 372, 373, 374, 375, 376, 377, 378, 379, 380, 381, 382, 383, 384, 385, 386, 387, 388, 389, 390, 391, 392, 393, 394, 395, 396, 397, 398, 399, 400, 401, 402, 403, 404, 405, 406, 407, 408, 409, 410, 411, 412, 413, 414, 415, 416, 417, 418, 419, 420, 421, 422, 423, 424, 425, 426, 427, 428, 429, 430, 431, 432, 433, 434, 435, 436, 437, 438, 439, 440, 441, 442, 443, 444, 445, 446, 447, 448, 449, 460, 461, 462, 463, 464, 465, 466, 467, 468, 469, 470, 471, 472, 473, 474, 475, 476, 477, 478, 479, 480, 481, 496, 497, 498, 499, 500, 501, 502, 503, 504, 505, 506, 507] (by decide +kernel) (by decide +kernel)
set_option maxRecDepth 20000 in
theorem gX12_runScript_X12_tryCommand : GoodIn wsX12_runScript (wsV RX12 136 RX12 yX12_tryCommand wsX12_tryCommand) := goodIn_app (goodIn_of _ (by decide +kernel)) ggX12_runScript_X12_tryCommand
set_option maxRecDepth 20000 in
theorem ggX12_runScript_X3_close : GoodIn wsX12_runScript wsX3_close := goodIn_r _ [453, 182, 183, 454, 455, 305, 306, 307, 456, 457, 458, 187, 459, 190, 189, 345, 315, 316, 317, 206, 402, 403, 404, 405, 196, 493, 494, 495, 496, 497, 498, 499, 500, 501, 502, 503, 504, 505] (by decide +kernel) (by decide +kernel)
set_option maxRecDepth 20000 in
theorem gX12_runScript_X3_close : GoodIn wsX12_runScript (wsV RX12 139 RX3 yX3_close wsX3_close) := goodIn_app (goodIn_of _ (by decide +kernel)) ggX12_runScript_X3_close
theorem dX12_runScript_0 : decode cX12_runScript 0 = .ok (.aload_n 0, 1) := by decide +kernel
theorem dX12_runScript_1 : decode cX12_runScript 1 = .ok (.getfield 78, 3) := by decide +kernel
theorem dX12_runScript_4 : decode cX12_runScript 4 = .ok (.invokevirtual 123, 3) := by decide +kernel
theorem dX12_runScript_7 : decode cX12_runScript 7 = .ok (.istore_n 1, 1) := by decide +kernel
theorem dX12_runScript_8 : decode cX12_runScript 8 = .ok (.aload_n 0, 1) := by decide +kernel
theorem dX12_runScript_9 : decode cX12_runScript 9 = .ok (.invokevirtual 111, 3) := by decide +kernel
theorem dX12_runScript_12 : decode cX12_runScript 12 = .ok (.iload_n 1, 1) := by decide +kernel
theorem dX12_runScript_13 : decode cX12_runScript 13 = .ok (.ifCond .ne 11, 3) := by decide +kernel
theorem dX12_runScript_16 : decode cX12_runScript 16 = .ok (.new 104, 3) := by decide +kernel
theorem dX12_runScript_19 : decode cX12_runScript 19 = .ok (.dup, 1) := by decide +kernel
theorem dX12_runScript_20 : decode cX12_runScript 20 = .ok (.invokespecial 106, 3) := by decide +kernel
theorem dX12_runScript_23 : decode cX12_runScript 23 = .ok (.athrow, 1) := by decide +kernel
theorem dX12_runScript_24 : decode cX12_runScript 24 = .ok (.aload_n 0, 1) := by decide +kernel
theorem dX12_runScript_25 : decode cX12_runScript 25 = .ok (.getfield 30, 3) := by decide +kernel
theorem dX12_runScript_28 : decode cX12_runScript 28 = .ok (.aload_n 0, 1) := by decide +kernel
theorem dX12_runScript_29 : decode cX12_runScript 29 = .ok (.getfield 12, 3) := by decide +kernel
theorem dX12_runScript_32 : decode cX12_runScript 32 = .ok (.invokevirtual 126, 3) := by decide +kernel
theorem dX12_runScript_35 : decode cX12_runScript 35 = .ok (.iconst 0, 1) := by decide +kernel
theorem dX12_runScript_36 : decode cX12_runScript 36 = .ok (.istore_n 2, 1) := by decide +kernel
theorem dX12_runScript_37 : decode cX12_runScript 37 = .ok (.iconst 0, 1) := by decide +kernel
theorem dX12_runScript_38 : decode cX12_runScript 38 = .ok (.istore_n 3, 1) := by decide +kernel
theorem dX12_runScript_39 : decode cX12_runScript 39 = .ok (.iload_n 3, 1) := by decide +kernel
theorem dX12_runScript_40 : decode cX12_runScript 40 = .ok (.aload_n 0, 1) := by decide +kernel
theorem dX12_runScript_41 : decode cX12_runScript 41 = .ok (.getfield 78, 3) := by decide +kernel
theorem dX12_runScript_44 : decode cX12_runScript 44 = .ok (.getfield 129, 3) := by decide +kernel
theorem dX12_runScript_47 : decode cX12_runScript 47 = .ok (.if_icmp .ge 27, 3) := by decide +kernel
theorem dX12_runScript_50 : decode cX12_runScript 50 = .ok (.aload_n 0, 1) := by decide +kernel
theorem dX12_runScript_51 : decode cX12_runScript 51 = .ok (.aload_n 0, 1) := by decide +kernel
theorem dX12_runScript_52 : decode cX12_runScript 52 = .ok (.getfield 78, 3) := by decide +kernel
theorem dX12_runScript_55 : decode cX12_runScript 55 = .ok (.iload_n 3, 1) := by decide +kernel
theorem dX12_runScript_56 : decode cX12_runScript 56 = .ok (.invokevirtual 132, 3) := by decide +kernel
theorem dX12_runScript_59 : decode cX12_runScript 59 = .ok (.invokevirtual 136, 3) := by decide +kernel
theorem dX12_runScript_62 : decode cX12_runScript 62 = .ok (.ifCond .eq 12, 3) := by decide +kernel
theorem dX12_runScript_65 : decode cX12_runScript 65 = .ok (.iinc 2 1, 3) := by decide +kernel
theorem dX12_runScript_68 : decode cX12_runScript 68 = .ok (.iinc 3 1, 3) := by decide +kernel
theorem dX12_runScript_71 : decode cX12_runScript 71 = .ok (.goto (-32), 3) := by decide +kernel
theorem dX12_runScript_74 : decode cX12_runScript 74 = .ok (.aload_n 0, 1) := by decide +kernel
theorem dX12_runScript_75 : decode cX12_runScript 75 = .ok (.getfield 30, 3) := by decide +kernel
theorem dX12_runScript_78 : decode cX12_runScript 78 = .ok (.aload_n 0, 1) := by decide +kernel
theorem dX12_runScript_79 : decode cX12_runScript 79 = .ok (.getfield 12, 3) := by decide +kernel
theorem dX12_runScript_82 : decode cX12_runScript 82 = .ok (.invokevirtual 139, 3) := by decide +kernel
theorem dX12_runScript_85 : decode cX12_runScript 85 = .ok (.iload_n 2, 1) := by decide +kernel
theorem dX12_runScript_86 : decode cX12_runScript 86 = .ok (.ireturn, 1) := by decide +kernel
theorem dX12_endText_0 : decode cX12_endText 0 = .ok (.aload_n 0, 1) := by decide +kernel
theorem dX12_endText_1 : decode cX12_endText 1 = .ok (.aload_n 0, 1) := by decide +kernel
theorem dX12_endText_2 : decode cX12_endText 2 = .ok (.getfield 60, 3) := by decide +kernel
theorem dX12_endText_5 : decode cX12_endText 5 = .ok (.getfield 142, 3) := by decide +kernel
theorem dX12_endText_8 : decode cX12_endText 8 = .ok (.putfield 145, 3) := by decide +kernel
theorem dX12_endText_11 : decode cX12_endText 11 = .ok (.aload_n 0, 1) := by decide +kernel
theorem dX12_endText_12 : decode cX12_endText 12 = .ok (.aload_n 0, 1) := by decide +kernel
theorem dX12_endText_13 : decode cX12_endText 13 = .ok (.getfield 60, 3) := by decide +kernel
theorem dX12_endText_16 : decode cX12_endText 16 = .ok (.getfield 142, 3) := by decide +kernel
theorem dX12_endText_19 : decode cX12_endText 19 = .ok (.ifCond .ne 7, 3) := by decide +kernel
theorem dX12_endText_22 : decode cX12_endText 22 = .ok (.iconst (-1), 1) := by decide +kernel
theorem dX12_endText_23 : decode cX12_endText 23 = .ok (.goto 10, 3) := by decide +kernel
theorem dX12_endText_26 : decode cX12_endText 26 = .ok (.aload_n 0, 1) := by decide +kernel
theorem dX12_endText_27 : decode cX12_endText 27 = .ok (.getfield 60, 3) := by decide +kernel
theorem dX12_endText_30 : decode cX12_endText 30 = .ok (.getfield 148, 3) := by decide +kernel
theorem dX12_endText_33 : decode cX12_endText 33 = .ok (.putfield 86, 3) := by decide +kernel
theorem dX12_endText_36 : decode cX12_endText 36 = .ok (.aload_n 0, 1) := by decide +kernel
theorem dX12_endText_37 : decode cX12_endText 37 = .ok (.getfield 60, 3) := by decide +kernel
theorem dX12_endText_40 : decode cX12_endText 40 = .ok (.iconst 0, 1) := by decide +kernel
theorem dX12_endText_41 : decode cX12_endText 41 = .ok (.putfield 101, 3) := by decide +kernel
theorem dX12_endText_44 : decode cX12_endText 44 = .ok (.return_, 1) := by decide +kernel
theorem dX12_errorCode_0 : decode cX12_errorCode 0 = .ok (.aload_n 0, 1) := by decide +kernel
theorem dX12_errorCode_1 : decode cX12_errorCode 1 = .ok (.getfield 145, 3) := by decide +kernel
theorem dX12_errorCode_4 : decode cX12_errorCode 4 = .ok (.ireturn, 1) := by decide +kernel
theorem dX12_errorPosition_0 : decode cX12_errorPosition 0 = .ok (.aload_n 0, 1) := by decide +kernel
theorem dX12_errorPosition_1 : decode cX12_errorPosition 1 = .ok (.getfield 86, 3) := by decide +kernel
theorem dX12_errorPosition_4 : decode cX12_errorPosition 4 = .ok (.ireturn, 1) := by decide +kernel
set_option maxRecDepth 20000 in
theorem ggX12_tryCommand_X8_commandAt : GoodIn wsX12_tryCommand wsX8_commandAt := goodIn_r _ [9, 10, 11, 12, 8, 13, 285, 286, 287, 288, 289, 290, 291] (by decide +kernel) (by decide +kernel)
set_option maxRecDepth 20000 in
theorem gX12_tryCommand_X8_commandAt : GoodIn wsX12_tryCommand (wsV RX12 151 RX8 yX8_commandAt wsX8_commandAt) := goodIn_app (goodIn_of _ (by decide +kernel)) ggX12_tryCommand_X8_commandAt
set_option maxRecDepth 20000 in
theorem ggX12_tryCommand_X8_numberOf : GoodIn wsX12_tryCommand wsX8_numberOf := goodIn_r _ [17, 18, 11, 12, 8, 13, 285, 286, 287, 288, 289, 290, 291] (by decide +kernel) (by decide +kernel)
set_option maxRecDepth 20000 in
theorem gX12_tryCommand_X8_numberOf : GoodIn wsX12_tryCommand (wsV RX12 155 RX8 yX8_numberOf wsX8_numberOf) := goodIn_app (goodIn_of _ (by decide +kernel)) ggX12_tryCommand_X8_numberOf
set_option maxRecDepth 20000 in
theorem ggX12_tryCommand_Jx29ce0_ordinal_8abf5 : GoodIn wsX12_tryCommand wsJx29ce0_ordinal_8abf5 := goodIn_r _ [24, 25] (by decide +kernel) (by decide +kernel)
set_option maxRecDepth 20000 in
theorem gX12_tryCommand_Jx29ce0_ordinal_8abf5_u165X1 : GoodIn wsX12_tryCommand (va_wsU RX12 165 RX1 "java/lang/Enum" ⟨"ReliefBuilder$Command", "ordinal", "()I"⟩ yJx29ce0_ordinal_8abf5 wsJx29ce0_ordinal_8abf5) := goodIn_app (goodIn_of _ (by decide +kernel)) ggX12_tryCommand_Jx29ce0_ordinal_8abf5
set_option maxRecDepth 20000 in
theorem ggX12_tryCommand_X12_tryTone : GoodIn wsX12_tryCommand wsX12_tryTone := goodIn_r _ [30, 4, 31, 32, 33, 34, 35, 36, 37, 38, 39, 40, 41, 42, 43, 44, 45, 46, 47, 48, 49, 50, 51, 52, 53, 54, 55, 56, 57, 58, 59, 60, 61, 62, 63, 64, 65, 66, 67, 68, 69, 70, 71, 72, 73, 270, 271, 272, 273, 274, 275, 276, 277, 278, 279, 280, 281, 282, 283, 284, 292, 293, 294, 295, 296, 297, 298, 299, 300, 301] (by decide +kernel) (by decide +kernel)
set_option maxRecDepth 20000 in
theorem gX12_tryCommand_X12_tryTone : GoodIn wsX12_tryCommand (wsV RX12 171 RX12 yX12_tryTone wsX12_tryTone) := goodIn_app (goodIn_of _ (by decide +kernel)) ggX12_tryCommand_X12_tryTone
set_option maxRecDepth 20000 in
theorem ggX12_tryCommand_X12_tryFill : GoodIn wsX12_tryCommand wsX12_tryFill := goodIn_r _ [77, 4, 31, 32, 33, 34, 35, 36, 37, 78, 79, 80, 81, 82, 83, 84, 85, 59, 60, 86, 87, 88, 89, 69, 70, 71, 72, 73, 50, 270, 271, 272, 273, 274, 275, 276, 277, 278, 279, 280, 281, 282, 283, 284, 292, 293, 294, 295, 296, 297, 298, 299, 300, 301] (by decide +kernel) (by decide +kernel)
set_option maxRecDepth 20000 in
theorem gX12_tryCommand_X12_tryFill : GoodIn wsX12_tryCommand (wsV RX12 175 RX12 yX12_tryFill wsX12_tryFill) := goodIn_app (goodIn_of _ (by decide +kernel)) ggX12_tryCommand_X12_tryFill
set_option maxRecDepth 20000 in
theorem ggX12_tryCommand_X12_tryStamp : GoodIn wsX12_tryCommand wsX12_tryStamp := goodIn_r _ [93, 4, 94, 95, 96, 97, 98, 31, 32, 33, 34, 35, 36, 37, 99, 100, 101, 102, 103, 104, 105, 106, 107, 108, 109, 110, 111, 112, 113, 114, 115, 116, 117, 118, 119, 120, 121, 122, 123, 73, 124, 70, 71, 72, 50, 270, 271, 272, 273, 274, 275, 276, 277, 278, 279, 280, 281, 282, 283, 284, 292, 293, 294, 295, 296, 297, 298, 299, 300, 301, 302] (by decide +kernel) (by decide +kernel)
set_option maxRecDepth 20000 in
theorem gX12_tryCommand_X12_tryStamp : GoodIn wsX12_tryCommand (wsV RX12 179 RX12 yX12_tryStamp wsX12_tryStamp) := goodIn_app (goodIn_of _ (by decide +kernel)) ggX12_tryCommand_X12_tryStamp
set_option maxRecDepth 20000 in
theorem ggX12_tryCommand_X12_trySmooth : GoodIn wsX12_tryCommand wsX12_trySmooth := goodIn_r _ [128, 4, 129, 130, 131, 132, 133, 134, 135, 136, 137, 138, 139, 140, 141, 34, 142, 36, 37, 60, 143, 59, 144, 145, 49, 146, 147, 148, 149, 65, 150, 151, 152, 153, 73, 154, 155, 156, 157, 115, 112, 116, 158, 32, 33, 35, 159, 121, 122, 123, 160, 70, 71, 72, 50, 161, 162, 163, 164, 165, 270, 271, 272, 273, 274, 275, 276, 277, 278, 279, 280, 281, 282, 283, 284, 292, 293, 294, 295, 296, 297, 298, 299, 300, 301] (by decide +kernel) (by decide +kernel)
set_option maxRecDepth 20000 in
theorem gX12_tryCommand_X12_trySmooth : GoodIn wsX12_tryCommand (wsV RX12 183 RX12 yX12_trySmooth wsX12_trySmooth) := goodIn_app (goodIn_of _ (by decide +kernel)) ggX12_tryCommand_X12_trySmooth
set_option maxRecDepth 20000 in
theorem ggX12_tryCommand_X11_takeDown : GoodIn wsX12_tryCommand wsX11_takeDown := goodIn_r _ [169, 170, 171, 172, 132, 173, 137, 138, 174, 175, 176, 177, 178, 159, 121, 122, 34, 123, 36, 37, 73, 179, 180, 181, 182, 183, 184, 185, 186, 187, 188, 189, 190, 191, 192, 193, 194, 195, 196, 197, 198, 160, 70, 71, 72, 50, 32, 33, 35, 292, 293, 294, 295, 296, 297, 298, 299, 300, 301, 303] (by decide +kernel) (by decide +kernel)
set_option maxRecDepth 20000 in
theorem gX12_tryCommand_X11_takeDown : GoodIn wsX12_tryCommand (wsV RX12 186 RX11 yX11_takeDown wsX11_takeDown) := goodIn_app (goodIn_of _ (by decide +kernel)) ggX12_tryCommand_X11_takeDown
set_option maxRecDepth 20000 in
theorem ggX12_tryCommand_X9_settle : GoodIn wsX12_tryCommand wsX9_settle := goodIn_r _ [202, 203, 204, 205, 121, 122, 34, 123, 36, 37, 73, 206, 207, 201, 208, 209, 210, 115, 112, 116, 211, 70, 71, 72, 50, 32, 33, 35, 292, 293, 294, 295, 296, 297, 298, 299, 300, 301] (by decide +kernel) (by decide +kernel)
set_option maxRecDepth 20000 in
theorem gX12_tryCommand_X9_settle : GoodIn wsX12_tryCommand (va_wsS RX12 190 yX9_settle wsX9_settle) := goodIn_app (goodIn_of _ (by decide +kernel)) ggX12_tryCommand_X9_settle
set_option maxRecDepth 20000 in
theorem ggX12_tryCommand_X2_spread : GoodIn wsX12_tryCommand wsX2_spread := goodIn_r _ [215, 216, 217, 218, 219, 220, 34, 221, 222, 223, 224, 225, 36, 37, 49, 51, 52, 53, 54, 226, 56, 57, 58, 59, 60, 61, 62, 63, 64, 65, 66, 67, 68, 227, 70, 71, 72, 73, 50, 32, 33, 35, 228, 292, 293, 294, 295, 296, 297, 298, 299, 300, 301] (by decide +kernel) (by decide +kernel)
set_option maxRecDepth 20000 in
theorem gX12_tryCommand_X2_spread : GoodIn wsX12_tryCommand (va_wsS RX12 195 yX2_spread wsX2_spread) := goodIn_app (goodIn_of _ (by decide +kernel)) ggX12_tryCommand_X2_spread
set_option maxRecDepth 20000 in
theorem ggX12_tryCommand_X2_refine : GoodIn wsX12_tryCommand wsX2_refine := goodIn_r _ [231, 216, 217, 232, 233, 214, 234, 235, 236, 115, 112, 116, 237, 238, 111, 113, 239, 121, 122, 34, 123, 36, 37, 73, 227, 70, 71, 72, 50, 32, 33, 35, 240, 241, 242, 243, 244, 245, 246, 247, 248, 249, 250, 251, 252, 65, 218, 219, 220, 221, 222, 223, 224, 225, 49, 51, 52, 53, 54, 292, 293, 294, 295, 296, 297, 298, 299, 300, 301] (by decide +kernel) (by decide +kernel)
set_option maxRecDepth 20000 in
theorem gX12_tryCommand_X2_refine : GoodIn wsX12_tryCommand (va_wsS RX12 200 yX2_refine wsX2_refine) := goodIn_app (goodIn_of _ (by decide +kernel)) ggX12_tryCommand_X2_refine
set_option maxRecDepth 20000 in
theorem ggX12_tryCommand_X5_negate : GoodIn wsX12_tryCommand wsX5_negate := goodIn_r _ [256, 37, 36, 222, 223, 224, 34, 225, 49, 45, 46, 47, 48, 50, 32, 33, 35, 257, 258, 259, 260, 261, 219, 220, 221, 51, 52, 53, 54, 55, 56, 57, 58, 59, 60, 61, 62, 63, 64, 65, 66, 67, 68, 69, 70, 71, 72, 73, 292, 293, 294, 295, 296, 297, 298, 299, 300, 301] (by decide +kernel) (by decide +kernel)
set_option maxRecDepth 20000 in
theorem gX12_tryCommand_X5_negate : GoodIn wsX12_tryCommand (wsV RX12 203 RX5 yX5_negate wsX5_negate) := goodIn_app (goodIn_of _ (by decide +kernel)) ggX12_tryCommand_X5_negate
set_option maxRecDepth 20000 in
theorem ggX12_tryCommand_X5_turn : GoodIn wsX12_tryCommand wsX5_turn := goodIn_r _ [265, 37, 36, 266, 267, 268, 34, 269, 222, 223, 224, 225, 49, 165, 121, 122, 123, 73, 45, 46, 47, 48, 50, 32, 33, 35, 69, 70, 71, 72, 292, 293, 294, 295, 296, 297, 298, 299, 300, 301] (by decide +kernel) (by decide +kernel)
set_option maxRecDepth 20000 in
theorem gX12_tryCommand_X5_turn : GoodIn wsX12_tryCommand (wsV RX12 206 RX5 yX5_turn wsX5_turn) := goodIn_app (goodIn_of _ (by decide +kernel)) ggX12_tryCommand_X5_turn
theorem dX12_tryCommand_0 : decode cX12_tryCommand 0 = .ok (.aload_n 0, 1) := by decide +kernel
theorem dX12_tryCommand_1 : decode cX12_tryCommand 1 = .ok (.getfield 78, 3) := by decide +kernel
theorem dX12_tryCommand_4 : decode cX12_tryCommand 4 = .ok (.iload_n 1, 1) := by decide +kernel
theorem dX12_tryCommand_5 : decode cX12_tryCommand 5 = .ok (.invokevirtual 151, 3) := by decide +kernel
theorem dX12_tryCommand_8 : decode cX12_tryCommand 8 = .ok (.astore_n 2, 1) := by decide +kernel
theorem dX12_tryCommand_9 : decode cX12_tryCommand 9 = .ok (.aload_n 2, 1) := by decide +kernel
theorem dX12_tryCommand_10 : decode cX12_tryCommand 10 = .ok (.ifnonnull 5, 3) := by decide +kernel
theorem dX12_tryCommand_13 : decode cX12_tryCommand 13 = .ok (.iconst 0, 1) := by decide +kernel
theorem dX12_tryCommand_14 : decode cX12_tryCommand 14 = .ok (.ireturn, 1) := by decide +kernel
theorem dX12_tryCommand_15 : decode cX12_tryCommand 15 = .ok (.aload_n 0, 1) := by decide +kernel
theorem dX12_tryCommand_16 : decode cX12_tryCommand 16 = .ok (.getfield 78, 3) := by decide +kernel
theorem dX12_tryCommand_19 : decode cX12_tryCommand 19 = .ok (.iload_n 1, 1) := by decide +kernel
theorem dX12_tryCommand_20 : decode cX12_tryCommand 20 = .ok (.iconst 0, 1) := by decide +kernel
theorem dX12_tryCommand_21 : decode cX12_tryCommand 21 = .ok (.invokevirtual 155, 3) := by decide +kernel
theorem dX12_tryCommand_24 : decode cX12_tryCommand 24 = .ok (.istore_n 3, 1) := by decide +kernel
theorem dX12_tryCommand_25 : decode cX12_tryCommand 25 = .ok (.aload_n 0, 1) := by decide +kernel
theorem dX12_tryCommand_26 : decode cX12_tryCommand 26 = .ok (.getfield 78, 3) := by decide +kernel
theorem dX12_tryCommand_29 : decode cX12_tryCommand 29 = .ok (.iload_n 1, 1) := by decide +kernel
theorem dX12_tryCommand_30 : decode cX12_tryCommand 30 = .ok (.iconst 1, 1) := by decide +kernel
theorem dX12_tryCommand_31 : decode cX12_tryCommand 31 = .ok (.invokevirtual 155, 3) := by decide +kernel
theorem dX12_tryCommand_34 : decode cX12_tryCommand 34 = .ok (.istore 4, 2) := by decide +kernel
theorem dX12_tryCommand_36 : decode cX12_tryCommand 36 = .ok (.aload_n 0, 1) := by decide +kernel
theorem dX12_tryCommand_37 : decode cX12_tryCommand 37 = .ok (.getfield 78, 3) := by decide +kernel
theorem dX12_tryCommand_40 : decode cX12_tryCommand 40 = .ok (.iload_n 1, 1) := by decide +kernel
theorem dX12_tryCommand_41 : decode cX12_tryCommand 41 = .ok (.iconst 2, 1) := by decide +kernel
theorem dX12_tryCommand_42 : decode cX12_tryCommand 42 = .ok (.invokevirtual 155, 3) := by decide +kernel
theorem dX12_tryCommand_45 : decode cX12_tryCommand 45 = .ok (.istore 5, 2) := by decide +kernel
theorem dX12_tryCommand_47 : decode cX12_tryCommand 47 = .ok (.aload_n 0, 1) := by decide +kernel
theorem dX12_tryCommand_48 : decode cX12_tryCommand 48 = .ok (.getfield 78, 3) := by decide +kernel
theorem dX12_tryCommand_51 : decode cX12_tryCommand 51 = .ok (.iload_n 1, 1) := by decide +kernel
theorem dX12_tryCommand_52 : decode cX12_tryCommand 52 = .ok (.iconst 3, 1) := by decide +kernel
theorem dX12_tryCommand_53 : decode cX12_tryCommand 53 = .ok (.invokevirtual 155, 3) := by decide +kernel
theorem dX12_tryCommand_56 : decode cX12_tryCommand 56 = .ok (.istore 6, 2) := by decide +kernel
theorem dX12_tryCommand_58 : decode cX12_tryCommand 58 = .ok (.getstatic 159, 3) := by decide +kernel
theorem dX12_tryCommand_61 : decode cX12_tryCommand 61 = .ok (.aload_n 2, 1) := by decide +kernel
theorem dX12_tryCommand_62 : decode cX12_tryCommand 62 = .ok (.invokevirtual 165, 3) := by decide +kernel
theorem dX12_tryCommand_65 : decode cX12_tryCommand 65 = .ok (.iaload, 1) := by decide +kernel
theorem dX12_tryCommand_66 : decode cX12_tryCommand 66 = .ok (.tableswitch 183 1 11 #[58, 68, 80, 101, 113, 119, 133, 143, 153, 163, 173], 58) := by decide +kernel
theorem dX12_tryCommand_124 : decode cX12_tryCommand 124 = .ok (.aload_n 0, 1) := by decide +kernel
theorem dX12_tryCommand_125 : decode cX12_tryCommand 125 = .ok (.iload_n 3, 1) := by decide +kernel
theorem dX12_tryCommand_126 : decode cX12_tryCommand 126 = .ok (.iload 4, 2) := by decide +kernel
theorem dX12_tryCommand_128 : decode cX12_tryCommand 128 = .ok (.iload 5, 2) := by decide +kernel
theorem dX12_tryCommand_130 : decode cX12_tryCommand 130 = .ok (.invokevirtual 171, 3) := by decide +kernel
theorem dX12_tryCommand_133 : decode cX12_tryCommand 133 = .ok (.ireturn, 1) := by decide +kernel
theorem dX12_tryCommand_134 : decode cX12_tryCommand 134 = .ok (.aload_n 0, 1) := by decide +kernel
theorem dX12_tryCommand_135 : decode cX12_tryCommand 135 = .ok (.iload_n 3, 1) := by decide +kernel
theorem dX12_tryCommand_136 : decode cX12_tryCommand 136 = .ok (.iload 4, 2) := by decide +kernel
theorem dX12_tryCommand_138 : decode cX12_tryCommand 138 = .ok (.iconst 1, 1) := by decide +kernel
theorem dX12_tryCommand_139 : decode cX12_tryCommand 139 = .ok (.iconst 1, 1) := by decide +kernel
theorem dX12_tryCommand_140 : decode cX12_tryCommand 140 = .ok (.iload 5, 2) := by decide +kernel
theorem dX12_tryCommand_142 : decode cX12_tryCommand 142 = .ok (.invokevirtual 175, 3) := by decide +kernel
theorem dX12_tryCommand_145 : decode cX12_tryCommand 145 = .ok (.ireturn, 1) := by decide +kernel
theorem dX12_tryCommand_146 : decode cX12_tryCommand 146 = .ok (.aload_n 0, 1) := by decide +kernel
theorem dX12_tryCommand_147 : decode cX12_tryCommand 147 = .ok (.iload_n 3, 1) := by decide +kernel
theorem dX12_tryCommand_148 : decode cX12_tryCommand 148 = .ok (.iload 4, 2) := by decide +kernel
theorem dX12_tryCommand_150 : decode cX12_tryCommand 150 = .ok (.iload 5, 2) := by decide +kernel
theorem dX12_tryCommand_152 : decode cX12_tryCommand 152 = .ok (.iload 6, 2) := by decide +kernel
theorem dX12_tryCommand_154 : decode cX12_tryCommand 154 = .ok (.aload_n 0, 1) := by decide +kernel
theorem dX12_tryCommand_155 : decode cX12_tryCommand 155 = .ok (.getfield 78, 3) := by decide +kernel
theorem dX12_tryCommand_158 : decode cX12_tryCommand 158 = .ok (.iload_n 1, 1) := by decide +kernel
theorem dX12_tryCommand_159 : decode cX12_tryCommand 159 = .ok (.iconst 4, 1) := by decide +kernel
theorem dX12_tryCommand_160 : decode cX12_tryCommand 160 = .ok (.invokevirtual 155, 3) := by decide +kernel
theorem dX12_tryCommand_163 : decode cX12_tryCommand 163 = .ok (.invokevirtual 175, 3) := by decide +kernel
theorem dX12_tryCommand_166 : decode cX12_tryCommand 166 = .ok (.ireturn, 1) := by decide +kernel
theorem dX12_tryCommand_167 : decode cX12_tryCommand 167 = .ok (.aload_n 0, 1) := by decide +kernel
theorem dX12_tryCommand_168 : decode cX12_tryCommand 168 = .ok (.iload_n 3, 1) := by decide +kernel
theorem dX12_tryCommand_169 : decode cX12_tryCommand 169 = .ok (.iload 4, 2) := by decide +kernel
theorem dX12_tryCommand_171 : decode cX12_tryCommand 171 = .ok (.iload 5, 2) := by decide +kernel
theorem dX12_tryCommand_173 : decode cX12_tryCommand 173 = .ok (.iload 6, 2) := by decide +kernel
theorem dX12_tryCommand_175 : decode cX12_tryCommand 175 = .ok (.invokevirtual 179, 3) := by decide +kernel
theorem dX12_tryCommand_178 : decode cX12_tryCommand 178 = .ok (.ireturn, 1) := by decide +kernel
theorem dX12_tryCommand_179 : decode cX12_tryCommand 179 = .ok (.aload_n 0, 1) := by decide +kernel
theorem dX12_tryCommand_180 : decode cX12_tryCommand 180 = .ok (.iload_n 3, 1) := by decide +kernel
theorem dX12_tryCommand_181 : decode cX12_tryCommand 181 = .ok (.invokevirtual 183, 3) := by decide +kernel
theorem dX12_tryCommand_184 : decode cX12_tryCommand 184 = .ok (.ireturn, 1) := by decide +kernel
theorem dX12_tryCommand_185 : decode cX12_tryCommand 185 = .ok (.aload_n 0, 1) := by decide +kernel
theorem dX12_tryCommand_186 : decode cX12_tryCommand 186 = .ok (.getfield 37, 3) := by decide +kernel
theorem dX12_tryCommand_189 : decode cX12_tryCommand 189 = .ok (.aload_n 0, 1) := by decide +kernel
theorem dX12_tryCommand_190 : decode cX12_tryCommand 190 = .ok (.getfield 12, 3) := by decide +kernel
theorem dX12_tryCommand_193 : decode cX12_tryCommand 193 = .ok (.invokevirtual 186, 3) := by decide +kernel
theorem dX12_tryCommand_196 : decode cX12_tryCommand 196 = .ok (.pop, 1) := by decide +kernel
theorem dX12_tryCommand_197 : decode cX12_tryCommand 197 = .ok (.iconst 1, 1) := by decide +kernel
theorem dX12_tryCommand_198 : decode cX12_tryCommand 198 = .ok (.ireturn, 1) := by decide +kernel
theorem dX12_tryCommand_199 : decode cX12_tryCommand 199 = .ok (.aload_n 0, 1) := by decide +kernel
theorem dX12_tryCommand_200 : decode cX12_tryCommand 200 = .ok (.getfield 12, 3) := by decide +kernel
theorem dX12_tryCommand_203 : decode cX12_tryCommand 203 = .ok (.invokestatic 190, 3) := by decide +kernel
theorem dX12_tryCommand_206 : decode cX12_tryCommand 206 = .ok (.pop, 1) := by decide +kernel
theorem dX12_tryCommand_207 : decode cX12_tryCommand 207 = .ok (.iconst 1, 1) := by decide +kernel
theorem dX12_tryCommand_208 : decode cX12_tryCommand 208 = .ok (.ireturn, 1) := by decide +kernel
theorem dX12_tryCommand_209 : decode cX12_tryCommand 209 = .ok (.aload_n 0, 1) := by decide +kernel
theorem dX12_tryCommand_210 : decode cX12_tryCommand 210 = .ok (.getfield 12, 3) := by decide +kernel
theorem dX12_tryCommand_213 : decode cX12_tryCommand 213 = .ok (.invokestatic 195, 3) := by decide +kernel
theorem dX12_tryCommand_216 : decode cX12_tryCommand 216 = .ok (.pop, 1) := by decide +kernel
theorem dX12_tryCommand_217 : decode cX12_tryCommand 217 = .ok (.iconst 1, 1) := by decide +kernel
theorem dX12_tryCommand_218 : decode cX12_tryCommand 218 = .ok (.ireturn, 1) := by decide +kernel
theorem dX12_tryCommand_219 : decode cX12_tryCommand 219 = .ok (.aload_n 0, 1) := by decide +kernel
theorem dX12_tryCommand_220 : decode cX12_tryCommand 220 = .ok (.getfield 12, 3) := by decide +kernel
theorem dX12_tryCommand_223 : decode cX12_tryCommand 223 = .ok (.invokestatic 200, 3) := by decide +kernel
theorem dX12_tryCommand_226 : decode cX12_tryCommand 226 = .ok (.pop, 1) := by decide +kernel
theorem dX12_tryCommand_227 : decode cX12_tryCommand 227 = .ok (.iconst 1, 1) := by decide +kernel
theorem dX12_tryCommand_228 : decode cX12_tryCommand 228 = .ok (.ireturn, 1) := by decide +kernel
theorem dX12_tryCommand_229 : decode cX12_tryCommand 229 = .ok (.aload_n 0, 1) := by decide +kernel
theorem dX12_tryCommand_230 : decode cX12_tryCommand 230 = .ok (.getfield 12, 3) := by decide +kernel
theorem dX12_tryCommand_233 : decode cX12_tryCommand 233 = .ok (.invokevirtual 203, 3) := by decide +kernel
theorem dX12_tryCommand_236 : decode cX12_tryCommand 236 = .ok (.pop, 1) := by decide +kernel
theorem dX12_tryCommand_237 : decode cX12_tryCommand 237 = .ok (.iconst 1, 1) := by decide +kernel
theorem dX12_tryCommand_238 : decode cX12_tryCommand 238 = .ok (.ireturn, 1) := by decide +kernel
theorem dX12_tryCommand_239 : decode cX12_tryCommand 239 = .ok (.aload_n 0, 1) := by decide +kernel
theorem dX12_tryCommand_240 : decode cX12_tryCommand 240 = .ok (.getfield 12, 3) := by decide +kernel
theorem dX12_tryCommand_243 : decode cX12_tryCommand 243 = .ok (.invokevirtual 206, 3) := by decide +kernel
theorem dX12_tryCommand_246 : decode cX12_tryCommand 246 = .ok (.pop, 1) := by decide +kernel
theorem dX12_tryCommand_247 : decode cX12_tryCommand 247 = .ok (.iconst 1, 1) := by decide +kernel
theorem dX12_tryCommand_248 : decode cX12_tryCommand 248 = .ok (.ireturn, 1) := by decide +kernel
theorem dX12_tryCommand_249 : decode cX12_tryCommand 249 = .ok (.iconst 0, 1) := by decide +kernel
theorem dX12_tryCommand_250 : decode cX12_tryCommand 250 = .ok (.ireturn, 1) := by decide +kernel
set_option maxRecDepth 20000 in
theorem ggX12_tryTone_X5_has : GoodIn wsX12_tryTone wsX5_has := goodIn_r _ [6, 7, 8, 60, 61, 62, 63, 64, 65, 66, 67, 68, 69] (by decide +kernel) (by decide +kernel)
set_option maxRecDepth 20000 in
theorem gX12_tryTone_X5_has : GoodIn wsX12_tryTone (wsV RX12 209 RX5 yX5_has wsX5_has) := goodIn_app (goodIn_of _ (by decide +kernel)) ggX12_tryTone_X5_has
set_option maxRecDepth 20000 in
theorem ggX12_tryTone_X5_isTone : GoodIn wsX12_tryTone wsX5_isTone := goodIn_r _ [11] (by decide +kernel) (by decide +kernel)
set_option maxRecDepth 20000 in
theorem gX12_tryTone_X5_isTone : GoodIn wsX12_tryTone (va_wsS RX12 213 yX5_isTone wsX5_isTone) := goodIn_app (goodIn_of _ (by decide +kernel)) ggX12_tryTone_X5_isTone
set_option maxRecDepth 20000 in
theorem ggX12_tryTone_X5_paint : GoodIn wsX12_tryTone wsX5_paint := goodIn_r _ [15, 16, 17, 18, 5, 19, 20, 21, 3, 4, 6, 7, 8, 22, 23, 24, 25, 26, 27, 28, 29, 30, 31, 32, 33, 34, 35, 36, 37, 38, 39, 40, 41, 42, 43, 44, 60, 61, 62, 63, 64, 65, 66, 67, 68, 69] (by decide +kernel) (by decide +kernel)
set_option maxRecDepth 20000 in
theorem gX12_tryTone_X5_paint : GoodIn wsX12_tryTone (wsV RX12 216 RX5 yX5_paint wsX5_paint) := goodIn_app (goodIn_of _ (by decide +kernel)) ggX12_tryTone_X5_paint
theorem dX12_tryTone_0 : decode cX12_tryTone 0 = .ok (.aload_n 0, 1) := by decide +kernel
theorem dX12_tryTone_1 : decode cX12_tryTone 1 = .ok (.getfield 12, 3) := by decide +kernel
theorem dX12_tryTone_4 : decode cX12_tryTone 4 = .ok (.iload_n 1, 1) := by decide +kernel
theorem dX12_tryTone_5 : decode cX12_tryTone 5 = .ok (.iload_n 2, 1) := by decide +kernel
theorem dX12_tryTone_6 : decode cX12_tryTone 6 = .ok (.invokevirtual 209, 3) := by decide +kernel
theorem dX12_tryTone_9 : decode cX12_tryTone 9 = .ok (.ifCond .eq 10, 3) := by decide +kernel
theorem dX12_tryTone_12 : decode cX12_tryTone 12 = .ok (.iload_n 3, 1) := by decide +kernel
theorem dX12_tryTone_13 : decode cX12_tryTone 13 = .ok (.invokestatic 213, 3) := by decide +kernel
theorem dX12_tryTone_16 : decode cX12_tryTone 16 = .ok (.ifCond .ne 5, 3) := by decide +kernel
theorem dX12_tryTone_19 : decode cX12_tryTone 19 = .ok (.iconst 0, 1) := by decide +kernel
theorem dX12_tryTone_20 : decode cX12_tryTone 20 = .ok (.ireturn, 1) := by decide +kernel
theorem dX12_tryTone_21 : decode cX12_tryTone 21 = .ok (.aload_n 0, 1) := by decide +kernel
theorem dX12_tryTone_22 : decode cX12_tryTone 22 = .ok (.getfield 12, 3) := by decide +kernel
theorem dX12_tryTone_25 : decode cX12_tryTone 25 = .ok (.iload_n 1, 1) := by decide +kernel
theorem dX12_tryTone_26 : decode cX12_tryTone 26 = .ok (.iload_n 2, 1) := by decide +kernel
theorem dX12_tryTone_27 : decode cX12_tryTone 27 = .ok (.iload_n 3, 1) := by decide +kernel
theorem dX12_tryTone_28 : decode cX12_tryTone 28 = .ok (.invokevirtual 216, 3) := by decide +kernel
theorem dX12_tryTone_31 : decode cX12_tryTone 31 = .ok (.iconst 1, 1) := by decide +kernel
theorem dX12_tryTone_32 : decode cX12_tryTone 32 = .ok (.ireturn, 1) := by decide +kernel
set_option maxRecDepth 20000 in
theorem ggX12_tryFill_X5_has : GoodIn wsX12_tryFill wsX5_has := goodIn_r _ [6, 7, 8, 44, 45, 46, 47, 48, 49, 50, 51, 52, 53] (by decide +kernel) (by decide +kernel)
set_option maxRecDepth 20000 in
theorem gX12_tryFill_X5_has : GoodIn wsX12_tryFill (wsV RX12 209 RX5 yX5_has wsX5_has) := goodIn_app (goodIn_of _ (by decide +kernel)) ggX12_tryFill_X5_has
set_option maxRecDepth 20000 in
theorem ggX12_tryFill_X5_fits : GoodIn wsX12_tryFill wsX5_fits := goodIn_r _ [12, 7, 8, 44, 45, 46, 47, 48, 49, 50, 51, 52, 53] (by decide +kernel) (by decide +kernel)
set_option maxRecDepth 20000 in
theorem gX12_tryFill_X5_fits : GoodIn wsX12_tryFill (wsV RX12 220 RX5 yX5_fits wsX5_fits) := goodIn_app (goodIn_of _ (by decide +kernel)) ggX12_tryFill_X5_fits
set_option maxRecDepth 20000 in
theorem ggX12_tryFill_X5_allows : GoodIn wsX12_tryFill wsX5_allows := goodIn_r _ [16, 17, 18, 44, 45, 46, 47, 48, 49, 50, 51, 52, 53] (by decide +kernel) (by decide +kernel)
set_option maxRecDepth 20000 in
theorem gX12_tryFill_X5_allows : GoodIn wsX12_tryFill (wsV RX12 223 RX5 yX5_allows wsX5_allows) := goodIn_app (goodIn_of _ (by decide +kernel)) ggX12_tryFill_X5_allows
set_option maxRecDepth 20000 in
theorem ggX12_tryFill_X5_cover : GoodIn wsX12_tryFill wsX5_cover := goodIn_r _ [22, 23, 24, 25, 5, 26, 27, 28, 3, 4, 6, 7, 8, 44, 45, 46, 47, 48, 49, 50, 51, 52, 53] (by decide +kernel) (by decide +kernel)
set_option maxRecDepth 20000 in
theorem gX12_tryFill_X5_cover : GoodIn wsX12_tryFill (wsV RX12 226 RX5 yX5_cover wsX5_cover) := goodIn_app (goodIn_of _ (by decide +kernel)) ggX12_tryFill_X5_cover
theorem dX12_tryFill_0 : decode cX12_tryFill 0 = .ok (.aload_n 0, 1) := by decide +kernel
theorem dX12_tryFill_1 : decode cX12_tryFill 1 = .ok (.getfield 12, 3) := by decide +kernel
theorem dX12_tryFill_4 : decode cX12_tryFill 4 = .ok (.iload_n 1, 1) := by decide +kernel
theorem dX12_tryFill_5 : decode cX12_tryFill 5 = .ok (.iload_n 2, 1) := by decide +kernel
theorem dX12_tryFill_6 : decode cX12_tryFill 6 = .ok (.invokevirtual 209, 3) := by decide +kernel
theorem dX12_tryFill_9 : decode cX12_tryFill 9 = .ok (.ifCond .eq 30, 3) := by decide +kernel
theorem dX12_tryFill_12 : decode cX12_tryFill 12 = .ok (.aload_n 0, 1) := by decide +kernel
theorem dX12_tryFill_13 : decode cX12_tryFill 13 = .ok (.getfield 12, 3) := by decide +kernel
theorem dX12_tryFill_16 : decode cX12_tryFill 16 = .ok (.iload_n 1, 1) := by decide +kernel
theorem dX12_tryFill_17 : decode cX12_tryFill 17 = .ok (.iload_n 2, 1) := by decide +kernel
theorem dX12_tryFill_18 : decode cX12_tryFill 18 = .ok (.iload_n 3, 1) := by decide +kernel
theorem dX12_tryFill_19 : decode cX12_tryFill 19 = .ok (.iload 4, 2) := by decide +kernel
theorem dX12_tryFill_21 : decode cX12_tryFill 21 = .ok (.invokevirtual 220, 3) := by decide +kernel
theorem dX12_tryFill_24 : decode cX12_tryFill 24 = .ok (.ifCond .eq 15, 3) := by decide +kernel
theorem dX12_tryFill_27 : decode cX12_tryFill 27 = .ok (.aload_n 0, 1) := by decide +kernel
theorem dX12_tryFill_28 : decode cX12_tryFill 28 = .ok (.getfield 12, 3) := by decide +kernel
theorem dX12_tryFill_31 : decode cX12_tryFill 31 = .ok (.iload 5, 2) := by decide +kernel
theorem dX12_tryFill_33 : decode cX12_tryFill 33 = .ok (.invokevirtual 223, 3) := by decide +kernel
theorem dX12_tryFill_36 : decode cX12_tryFill 36 = .ok (.ifCond .ne 5, 3) := by decide +kernel
theorem dX12_tryFill_39 : decode cX12_tryFill 39 = .ok (.iconst 0, 1) := by decide +kernel
theorem dX12_tryFill_40 : decode cX12_tryFill 40 = .ok (.ireturn, 1) := by decide +kernel
theorem dX12_tryFill_41 : decode cX12_tryFill 41 = .ok (.aload_n 0, 1) := by decide +kernel
theorem dX12_tryFill_42 : decode cX12_tryFill 42 = .ok (.getfield 12, 3) := by decide +kernel
theorem dX12_tryFill_45 : decode cX12_tryFill 45 = .ok (.iload_n 1, 1) := by decide +kernel
theorem dX12_tryFill_46 : decode cX12_tryFill 46 = .ok (.iload_n 2, 1) := by decide +kernel
theorem dX12_tryFill_47 : decode cX12_tryFill 47 = .ok (.iload_n 3, 1) := by decide +kernel
theorem dX12_tryFill_48 : decode cX12_tryFill 48 = .ok (.iload 4, 2) := by decide +kernel
theorem dX12_tryFill_50 : decode cX12_tryFill 50 = .ok (.iload 5, 2) := by decide +kernel
theorem dX12_tryFill_52 : decode cX12_tryFill 52 = .ok (.invokevirtual 226, 3) := by decide +kernel
theorem dX12_tryFill_55 : decode cX12_tryFill 55 = .ok (.pop, 1) := by decide +kernel
theorem dX12_tryFill_56 : decode cX12_tryFill 56 = .ok (.iconst 1, 1) := by decide +kernel
theorem dX12_tryFill_57 : decode cX12_tryFill 57 = .ok (.ireturn, 1) := by decide +kernel
set_option maxRecDepth 20000 in
theorem ggX12_tryStamp_X6_hasPlace : GoodIn wsX12_tryStamp wsX6_hasPlace := goodIn_r _ [6] (by decide +kernel) (by decide +kernel)
set_option maxRecDepth 20000 in
theorem gX12_tryStamp_X6_hasPlace : GoodIn wsX12_tryStamp (va_wsS RX12 230 yX6_hasPlace wsX6_hasPlace) := goodIn_app (goodIn_of _ (by decide +kernel)) ggX12_tryStamp_X6_hasPlace
set_option maxRecDepth 20000 in
theorem ggX12_tryStamp_X5_has : GoodIn wsX12_tryStamp wsX5_has := goodIn_r _ [11, 12, 13, 60, 61, 62, 63, 64, 65, 66, 67, 68, 69] (by decide +kernel) (by decide +kernel)
set_option maxRecDepth 20000 in
theorem gX12_tryStamp_X5_has : GoodIn wsX12_tryStamp (wsV RX12 209 RX5 yX5_has wsX5_has) := goodIn_app (goodIn_of _ (by decide +kernel)) ggX12_tryStamp_X5_has
set_option maxRecDepth 20000 in
theorem ggX12_tryStamp_X6_at : GoodIn wsX12_tryStamp wsX6_at := goodIn_r _ [17, 18, 19, 4, 5, 6, 70] (by decide +kernel) (by decide +kernel)
set_option maxRecDepth 20000 in
theorem gX12_tryStamp_X6_at : GoodIn wsX12_tryStamp (wsV RX12 233 RX6 yX6_at wsX6_at) := goodIn_app (goodIn_of _ (by decide +kernel)) ggX12_tryStamp_X6_at
set_option maxRecDepth 20000 in
theorem ggX12_tryStamp_X6_press : GoodIn wsX12_tryStamp wsX6_press := goodIn_r _ [22, 23, 24, 25, 26, 27, 28, 29, 30, 31, 32, 33, 5, 34, 35, 36, 37, 10, 38, 12, 13, 39, 40, 41, 42, 43, 44, 8, 9, 11, 60, 61, 62, 63, 64, 65, 66, 67, 68, 69] (by decide +kernel) (by decide +kernel)
set_option maxRecDepth 20000 in
theorem gX12_tryStamp_X6_press : GoodIn wsX12_tryStamp (va_wsS RX12 236 yX6_press wsX6_press) := goodIn_app (goodIn_of _ (by decide +kernel)) ggX12_tryStamp_X6_press
theorem dX12_tryStamp_0 : decode cX12_tryStamp 0 = .ok (.iload_n 1, 1) := by decide +kernel
theorem dX12_tryStamp_1 : decode cX12_tryStamp 1 = .ok (.iload_n 2, 1) := by decide +kernel
theorem dX12_tryStamp_2 : decode cX12_tryStamp 2 = .ok (.invokestatic 230, 3) := by decide +kernel
theorem dX12_tryStamp_5 : decode cX12_tryStamp 5 = .ok (.ifCond .eq 29, 3) := by decide +kernel
theorem dX12_tryStamp_8 : decode cX12_tryStamp 8 = .ok (.aload_n 0, 1) := by decide +kernel
theorem dX12_tryStamp_9 : decode cX12_tryStamp 9 = .ok (.getfield 12, 3) := by decide +kernel
theorem dX12_tryStamp_12 : decode cX12_tryStamp 12 = .ok (.iload_n 3, 1) := by decide +kernel
theorem dX12_tryStamp_13 : decode cX12_tryStamp 13 = .ok (.iload 4, 2) := by decide +kernel
theorem dX12_tryStamp_15 : decode cX12_tryStamp 15 = .ok (.invokevirtual 209, 3) := by decide +kernel
theorem dX12_tryStamp_18 : decode cX12_tryStamp 18 = .ok (.ifCond .eq 16, 3) := by decide +kernel
theorem dX12_tryStamp_21 : decode cX12_tryStamp 21 = .ok (.aload_n 0, 1) := by decide +kernel
theorem dX12_tryStamp_22 : decode cX12_tryStamp 22 = .ok (.getfield 53, 3) := by decide +kernel
theorem dX12_tryStamp_25 : decode cX12_tryStamp 25 = .ok (.iload_n 1, 1) := by decide +kernel
theorem dX12_tryStamp_26 : decode cX12_tryStamp 26 = .ok (.iload_n 2, 1) := by decide +kernel
theorem dX12_tryStamp_27 : decode cX12_tryStamp 27 = .ok (.invokevirtual 233, 3) := by decide +kernel
theorem dX12_tryStamp_30 : decode cX12_tryStamp 30 = .ok (.iconst (-1), 1) := by decide +kernel
theorem dX12_tryStamp_31 : decode cX12_tryStamp 31 = .ok (.if_icmp .ne 5, 3) := by decide +kernel
theorem dX12_tryStamp_34 : decode cX12_tryStamp 34 = .ok (.iconst 0, 1) := by decide +kernel
theorem dX12_tryStamp_35 : decode cX12_tryStamp 35 = .ok (.ireturn, 1) := by decide +kernel
theorem dX12_tryStamp_36 : decode cX12_tryStamp 36 = .ok (.aload_n 0, 1) := by decide +kernel
theorem dX12_tryStamp_37 : decode cX12_tryStamp 37 = .ok (.getfield 12, 3) := by decide +kernel
theorem dX12_tryStamp_40 : decode cX12_tryStamp 40 = .ok (.aload_n 0, 1) := by decide +kernel
theorem dX12_tryStamp_41 : decode cX12_tryStamp 41 = .ok (.getfield 53, 3) := by decide +kernel
theorem dX12_tryStamp_44 : decode cX12_tryStamp 44 = .ok (.iload_n 1, 1) := by decide +kernel
theorem dX12_tryStamp_45 : decode cX12_tryStamp 45 = .ok (.iload_n 2, 1) := by decide +kernel
theorem dX12_tryStamp_46 : decode cX12_tryStamp 46 = .ok (.invokevirtual 233, 3) := by decide +kernel
theorem dX12_tryStamp_49 : decode cX12_tryStamp 49 = .ok (.iload_n 3, 1) := by decide +kernel
theorem dX12_tryStamp_50 : decode cX12_tryStamp 50 = .ok (.iload 4, 2) := by decide +kernel
theorem dX12_tryStamp_52 : decode cX12_tryStamp 52 = .ok (.invokestatic 236, 3) := by decide +kernel
theorem dX12_tryStamp_55 : decode cX12_tryStamp 55 = .ok (.pop, 1) := by decide +kernel
theorem dX12_tryStamp_56 : decode cX12_tryStamp 56 = .ok (.iconst 1, 1) := by decide +kernel
theorem dX12_tryStamp_57 : decode cX12_tryStamp 57 = .ok (.ireturn, 1) := by decide +kernel
set_option maxRecDepth 20000 in
theorem ggX12_trySmooth_X11_isLimit : GoodIn wsX12_trySmooth wsX11_isLimit := goodIn_r _ [6] (by decide +kernel) (by decide +kernel)
set_option maxRecDepth 20000 in
theorem gX12_trySmooth_X11_isLimit : GoodIn wsX12_trySmooth (va_wsS RX12 240 yX11_isLimit wsX11_isLimit) := goodIn_app (goodIn_of _ (by decide +kernel)) ggX12_trySmooth_X11_isLimit
set_option maxRecDepth 20000 in
theorem ggX12_trySmooth_X11_flatten : GoodIn wsX12_trySmooth wsX11_flatten := goodIn_r _ [9, 10, 11, 12, 13, 14, 15, 16, 17, 18, 19, 20, 21, 22, 23, 24, 25, 26, 27, 28, 29, 30, 31, 32, 33, 34, 35, 36, 5, 37, 38, 39, 40, 41, 42, 43, 44, 45, 46, 47, 48, 49, 50, 51, 52, 53, 54, 55, 56, 57, 58, 59, 75, 76, 77, 78, 79, 80, 81, 82, 83, 84] (by decide +kernel) (by decide +kernel)
set_option maxRecDepth 20000 in
theorem gX12_trySmooth_X11_flatten : GoodIn wsX12_trySmooth (va_wsS RX12 243 yX11_flatten wsX11_flatten) := goodIn_app (goodIn_of _ (by decide +kernel)) ggX12_trySmooth_X11_flatten
theorem dX12_trySmooth_0 : decode cX12_trySmooth 0 = .ok (.iload_n 1, 1) := by decide +kernel
theorem dX12_trySmooth_1 : decode cX12_trySmooth 1 = .ok (.invokestatic 240, 3) := by decide +kernel
theorem dX12_trySmooth_4 : decode cX12_trySmooth 4 = .ok (.ifCond .ne 5, 3) := by decide +kernel
theorem dX12_trySmooth_7 : decode cX12_trySmooth 7 = .ok (.iconst 0, 1) := by decide +kernel
theorem dX12_trySmooth_8 : decode cX12_trySmooth 8 = .ok (.ireturn, 1) := by decide +kernel
theorem dX12_trySmooth_9 : decode cX12_trySmooth 9 = .ok (.aload_n 0, 1) := by decide +kernel
theorem dX12_trySmooth_10 : decode cX12_trySmooth 10 = .ok (.getfield 12, 3) := by decide +kernel
theorem dX12_trySmooth_13 : decode cX12_trySmooth 13 = .ok (.aload_n 0, 1) := by decide +kernel
theorem dX12_trySmooth_14 : decode cX12_trySmooth 14 = .ok (.getfield 16, 3) := by decide +kernel
theorem dX12_trySmooth_17 : decode cX12_trySmooth 17 = .ok (.iload_n 1, 1) := by decide +kernel
theorem dX12_trySmooth_18 : decode cX12_trySmooth 18 = .ok (.invokestatic 243, 3) := by decide +kernel
theorem dX12_trySmooth_21 : decode cX12_trySmooth 21 = .ok (.pop, 1) := by decide +kernel
theorem dX12_trySmooth_22 : decode cX12_trySmooth 22 = .ok (.iconst 1, 1) := by decide +kernel
theorem dX12_trySmooth_23 : decode cX12_trySmooth 23 = .ok (.ireturn, 1) := by decide +kernel
theorem dX12_setting_0 : decode cX12_setting 0 = .ok (.iload_n 1, 1) := by decide +kernel
theorem dX12_setting_1 : decode cX12_setting 1 = .ok (.tableswitch 99 0 6 #[43, 51, 59, 67, 75, 83, 91], 43) := by decide +kernel
theorem dX12_setting_44 : decode cX12_setting 44 = .ok (.aload_n 0, 1) := by decide +kernel
theorem dX12_setting_45 : decode cX12_setting 45 = .ok (.getfield 12, 3) := by decide +kernel
theorem dX12_setting_48 : decode cX12_setting 48 = .ok (.getfield 247, 3) := by decide +kernel
theorem dX12_setting_51 : decode cX12_setting 51 = .ok (.ireturn, 1) := by decide +kernel
theorem dX12_setting_52 : decode cX12_setting 52 = .ok (.aload_n 0, 1) := by decide +kernel
theorem dX12_setting_53 : decode cX12_setting 53 = .ok (.getfield 12, 3) := by decide +kernel
theorem dX12_setting_56 : decode cX12_setting 56 = .ok (.getfield 250, 3) := by decide +kernel
theorem dX12_setting_59 : decode cX12_setting 59 = .ok (.ireturn, 1) := by decide +kernel
theorem dX12_setting_60 : decode cX12_setting 60 = .ok (.aload_n 0, 1) := by decide +kernel
theorem dX12_setting_61 : decode cX12_setting 61 = .ok (.getfield 12, 3) := by decide +kernel
theorem dX12_setting_64 : decode cX12_setting 64 = .ok (.getfield 253, 3) := by decide +kernel
theorem dX12_setting_67 : decode cX12_setting 67 = .ok (.ireturn, 1) := by decide +kernel
theorem dX12_setting_68 : decode cX12_setting 68 = .ok (.aload_n 0, 1) := by decide +kernel
theorem dX12_setting_69 : decode cX12_setting 69 = .ok (.getfield 12, 3) := by decide +kernel
theorem dX12_setting_72 : decode cX12_setting 72 = .ok (.getfield 256, 3) := by decide +kernel
theorem dX12_setting_75 : decode cX12_setting 75 = .ok (.ireturn, 1) := by decide +kernel
theorem dX12_setting_76 : decode cX12_setting 76 = .ok (.aload_n 0, 1) := by decide +kernel
theorem dX12_setting_77 : decode cX12_setting 77 = .ok (.getfield 12, 3) := by decide +kernel
theorem dX12_setting_80 : decode cX12_setting 80 = .ok (.getfield 259, 3) := by decide +kernel
theorem dX12_setting_83 : decode cX12_setting 83 = .ok (.ireturn, 1) := by decide +kernel
theorem dX12_setting_84 : decode cX12_setting 84 = .ok (.aload_n 0, 1) := by decide +kernel
theorem dX12_setting_85 : decode cX12_setting 85 = .ok (.getfield 12, 3) := by decide +kernel
theorem dX12_setting_88 : decode cX12_setting 88 = .ok (.getfield 262, 3) := by decide +kernel
theorem dX12_setting_91 : decode cX12_setting 91 = .ok (.ireturn, 1) := by decide +kernel
theorem dX12_setting_92 : decode cX12_setting 92 = .ok (.aload_n 0, 1) := by decide +kernel
theorem dX12_setting_93 : decode cX12_setting 93 = .ok (.getfield 12, 3) := by decide +kernel
theorem dX12_setting_96 : decode cX12_setting 96 = .ok (.getfield 265, 3) := by decide +kernel
theorem dX12_setting_99 : decode cX12_setting 99 = .ok (.ireturn, 1) := by decide +kernel
theorem dX12_setting_100 : decode cX12_setting 100 = .ok (.new 104, 3) := by decide +kernel
theorem dX12_setting_103 : decode cX12_setting 103 = .ok (.dup, 1) := by decide +kernel
theorem dX12_setting_104 : decode cX12_setting 104 = .ok (.invokespecial 106, 3) := by decide +kernel
theorem dX12_setting_107 : decode cX12_setting 107 = .ok (.athrow, 1) := by decide +kernel
set_option maxRecDepth 20000 in
theorem ggX12_tone_X12_checkCell : GoodIn wsX12_tone wsX12_checkCell := goodIn_ca (goodIn_r _ [6, 7, 8, 1, 9, 10, 11, 12, 13, 14, 15, 21, 22, 23, 24, 25, 26, 27, 28, 29, 30, 31, 32, 33, 34, 35, 36, 37, 38, 39, 40, 41, 42, 43, 44, 45] (by decide +kernel) (by decide +kernel)) (goodIn_sub (fun _ h => List.mem_cons_of_mem _ (List.mem_append_right _ h)) (by decide +kernel))
set_option maxRecDepth 20000 in
theorem gX12_tone_X12_checkCell : GoodIn wsX12_tone (wsV RX12 268 RX12 yX12_checkCell wsX12_checkCell) := goodIn_app (goodIn_of _ (by decide +kernel)) ggX12_tone_X12_checkCell
set_option maxRecDepth 20000 in
theorem ggX12_tone_X5_toneAt : GoodIn wsX12_tone wsX5_toneAt := goodIn_r _ [19, 14, 15, 20, 36, 37, 38, 39, 40, 41, 42, 43, 44, 45] (by decide +kernel) (by decide +kernel)
set_option maxRecDepth 20000 in
theorem gX12_tone_X5_toneAt : GoodIn wsX12_tone (wsV RX12 272 RX5 yX5_toneAt wsX5_toneAt) := goodIn_app (goodIn_of _ (by decide +kernel)) ggX12_tone_X5_toneAt
theorem dX12_tone_0 : decode cX12_tone 0 = .ok (.aload_n 0, 1) := by decide +kernel
theorem dX12_tone_1 : decode cX12_tone 1 = .ok (.iload_n 1, 1) := by decide +kernel
theorem dX12_tone_2 : decode cX12_tone 2 = .ok (.iload_n 2, 1) := by decide +kernel
theorem dX12_tone_3 : decode cX12_tone 3 = .ok (.invokevirtual 268, 3) := by decide +kernel
theorem dX12_tone_6 : decode cX12_tone 6 = .ok (.aload_n 0, 1) := by decide +kernel
theorem dX12_tone_7 : decode cX12_tone 7 = .ok (.getfield 12, 3) := by decide +kernel
theorem dX12_tone_10 : decode cX12_tone 10 = .ok (.iload_n 1, 1) := by decide +kernel
theorem dX12_tone_11 : decode cX12_tone 11 = .ok (.iload_n 2, 1) := by decide +kernel
theorem dX12_tone_12 : decode cX12_tone 12 = .ok (.invokevirtual 272, 3) := by decide +kernel
theorem dX12_tone_15 : decode cX12_tone 15 = .ok (.ireturn, 1) := by decide +kernel
set_option maxRecDepth 20000 in
theorem ggX12_height_X12_checkCell : GoodIn wsX12_height wsX12_checkCell := goodIn_ca (goodIn_r _ [6, 7, 8, 1, 9, 10, 11, 12, 13, 14, 15, 21, 22, 23, 24, 25, 26, 27, 28, 29, 30, 31, 32, 33, 34, 35, 36, 37, 38, 39, 40, 41, 42, 43, 44, 45] (by decide +kernel) (by decide +kernel)) (goodIn_sub (fun _ h => List.mem_cons_of_mem _ (List.mem_append_right _ h)) (by decide +kernel))
set_option maxRecDepth 20000 in
theorem gX12_height_X12_checkCell : GoodIn wsX12_height (wsV RX12 268 RX12 yX12_checkCell wsX12_checkCell) := goodIn_app (goodIn_of _ (by decide +kernel)) ggX12_height_X12_checkCell
set_option maxRecDepth 20000 in
theorem ggX12_height_X5_heightAt : GoodIn wsX12_height wsX5_heightAt := goodIn_r _ [19, 14, 15, 20, 36, 37, 38, 39, 40, 41, 42, 43, 44, 45] (by decide +kernel) (by decide +kernel)
set_option maxRecDepth 20000 in
theorem gX12_height_X5_heightAt : GoodIn wsX12_height (wsV RX12 275 RX5 yX5_heightAt wsX5_heightAt) := goodIn_app (goodIn_of _ (by decide +kernel)) ggX12_height_X5_heightAt
theorem dX12_height_0 : decode cX12_height 0 = .ok (.aload_n 0, 1) := by decide +kernel
theorem dX12_height_1 : decode cX12_height 1 = .ok (.iload_n 1, 1) := by decide +kernel
theorem dX12_height_2 : decode cX12_height 2 = .ok (.iload_n 2, 1) := by decide +kernel
theorem dX12_height_3 : decode cX12_height 3 = .ok (.invokevirtual 268, 3) := by decide +kernel
theorem dX12_height_6 : decode cX12_height 6 = .ok (.aload_n 0, 1) := by decide +kernel
theorem dX12_height_7 : decode cX12_height 7 = .ok (.getfield 12, 3) := by decide +kernel
theorem dX12_height_10 : decode cX12_height 10 = .ok (.iload_n 1, 1) := by decide +kernel
theorem dX12_height_11 : decode cX12_height 11 = .ok (.iload_n 2, 1) := by decide +kernel
theorem dX12_height_12 : decode cX12_height 12 = .ok (.invokevirtual 275, 3) := by decide +kernel
theorem dX12_height_15 : decode cX12_height 15 = .ok (.ireturn, 1) := by decide +kernel
set_option maxRecDepth 20000 in
theorem ggX12_volume_X5_sumOfHeights : GoodIn wsX12_volume wsX5_sumOfHeights := goodIn_r _ [6, 7, 8, 9, 10, 11, 5, 12, 13, 29, 30, 31, 32, 33, 34, 35, 36, 37, 38] (by decide +kernel) (by decide +kernel)
set_option maxRecDepth 20000 in
theorem gX12_volume_X5_sumOfHeights : GoodIn wsX12_volume (wsV RX12 278 RX5 yX5_sumOfHeights wsX5_sumOfHeights) := goodIn_app (goodIn_of _ (by decide +kernel)) ggX12_volume_X5_sumOfHeights
theorem dX12_volume_0 : decode cX12_volume 0 = .ok (.aload_n 0, 1) := by decide +kernel
theorem dX12_volume_1 : decode cX12_volume 1 = .ok (.getfield 12, 3) := by decide +kernel
theorem dX12_volume_4 : decode cX12_volume 4 = .ok (.invokevirtual 278, 3) := by decide +kernel
theorem dX12_volume_7 : decode cX12_volume 7 = .ok (.ireturn, 1) := by decide +kernel
set_option maxRecDepth 20000 in
theorem ggX12_cellsOf_X12_checkStep : GoodIn wsX12_cellsOf wsX12_checkStep := goodIn_ca (goodIn_r _ [6, 7, 8, 1, 9, 22, 23, 24, 25, 26, 27, 28, 29, 30, 31, 32, 33, 34, 35, 36, 37, 38, 39, 40, 41, 42, 43, 44, 45, 46] (by decide +kernel) (by decide +kernel)) (goodIn_sub (fun _ h => List.mem_cons_of_mem _ (List.mem_append_right _ h)) (by decide +kernel))
set_option maxRecDepth 20000 in
theorem gX12_cellsOf_X12_checkStep : GoodIn wsX12_cellsOf (wsV RX12 281 RX12 yX12_checkStep wsX12_checkStep) := goodIn_app (goodIn_of _ (by decide +kernel)) ggX12_cellsOf_X12_checkStep
set_option maxRecDepth 20000 in
theorem ggX12_cellsOf_X5_countOf : GoodIn wsX12_cellsOf wsX5_countOf := goodIn_r _ [14, 15, 16, 17, 18, 19, 13, 20, 21, 37, 38, 39, 40, 41, 42, 43, 44, 45, 46] (by decide +kernel) (by decide +kernel)
set_option maxRecDepth 20000 in
theorem gX12_cellsOf_X5_countOf : GoodIn wsX12_cellsOf (wsV RX12 284 RX5 yX5_countOf wsX5_countOf) := goodIn_app (goodIn_of _ (by decide +kernel)) ggX12_cellsOf_X5_countOf
theorem dX12_cellsOf_0 : decode cX12_cellsOf 0 = .ok (.aload_n 0, 1) := by decide +kernel
theorem dX12_cellsOf_1 : decode cX12_cellsOf 1 = .ok (.iload_n 1, 1) := by decide +kernel
theorem dX12_cellsOf_2 : decode cX12_cellsOf 2 = .ok (.invokevirtual 281, 3) := by decide +kernel
theorem dX12_cellsOf_5 : decode cX12_cellsOf 5 = .ok (.aload_n 0, 1) := by decide +kernel
theorem dX12_cellsOf_6 : decode cX12_cellsOf 6 = .ok (.getfield 12, 3) := by decide +kernel
theorem dX12_cellsOf_9 : decode cX12_cellsOf 9 = .ok (.iload_n 1, 1) := by decide +kernel
theorem dX12_cellsOf_10 : decode cX12_cellsOf 10 = .ok (.invokevirtual 284, 3) := by decide +kernel
theorem dX12_cellsOf_13 : decode cX12_cellsOf 13 = .ok (.ireturn, 1) := by decide +kernel
set_option maxRecDepth 20000 in
theorem ggX12_steepest_X5_greatestStep : GoodIn wsX12_steepest wsX5_greatestStep := goodIn_r _ [6, 7, 8, 9, 10, 11, 12, 13, 14, 15, 16, 17, 18, 5, 19, 20, 21, 22, 23, 24, 40, 41, 42, 43, 44, 45, 46, 47, 48, 49] (by decide +kernel) (by decide +kernel)
set_option maxRecDepth 20000 in
theorem gX12_steepest_X5_greatestStep : GoodIn wsX12_steepest (wsV RX12 287 RX5 yX5_greatestStep wsX5_greatestStep) := goodIn_app (goodIn_of _ (by decide +kernel)) ggX12_steepest_X5_greatestStep
theorem dX12_steepest_0 : decode cX12_steepest 0 = .ok (.aload_n 0, 1) := by decide +kernel
theorem dX12_steepest_1 : decode cX12_steepest 1 = .ok (.getfield 12, 3) := by decide +kernel
theorem dX12_steepest_4 : decode cX12_steepest 4 = .ok (.invokevirtual 287, 3) := by decide +kernel
theorem dX12_steepest_7 : decode cX12_steepest 7 = .ok (.ireturn, 1) := by decide +kernel
set_option maxRecDepth 20000 in
theorem ggX12_checkCell_X5_has : GoodIn wsX12_checkCell wsX5_has := goodIn_r _ [8, 9, 10, 26, 27, 28, 29, 30, 31, 32, 33, 34, 35] (by decide +kernel) (by decide +kernel)
set_option maxRecDepth 20000 in
theorem gX12_checkCell_X5_has : GoodIn wsX12_checkCell (wsV RX12 209 RX5 yX5_has wsX5_has) := goodIn_app (goodIn_of _ (by decide +kernel)) ggX12_checkCell_X5_has
theorem dX12_checkCell_0 : decode cX12_checkCell 0 = .ok (.aload_n 0, 1) := by decide +kernel
theorem dX12_checkCell_1 : decode cX12_checkCell 1 = .ok (.getfield 12, 3) := by decide +kernel
theorem dX12_checkCell_4 : decode cX12_checkCell 4 = .ok (.iload_n 1, 1) := by decide +kernel
theorem dX12_checkCell_5 : decode cX12_checkCell 5 = .ok (.iload_n 2, 1) := by decide +kernel
theorem dX12_checkCell_6 : decode cX12_checkCell 6 = .ok (.invokevirtual 209, 3) := by decide +kernel
theorem dX12_checkCell_9 : decode cX12_checkCell 9 = .ok (.ifCond .ne 11, 3) := by decide +kernel
theorem dX12_checkCell_12 : decode cX12_checkCell 12 = .ok (.new 290, 3) := by decide +kernel
theorem dX12_checkCell_15 : decode cX12_checkCell 15 = .ok (.dup, 1) := by decide +kernel
theorem dX12_checkCell_16 : decode cX12_checkCell 16 = .ok (.invokespecial 292, 3) := by decide +kernel
theorem dX12_checkCell_19 : decode cX12_checkCell 19 = .ok (.athrow, 1) := by decide +kernel
theorem dX12_checkCell_20 : decode cX12_checkCell 20 = .ok (.return_, 1) := by decide +kernel
theorem dX12_checkStep_0 : decode cX12_checkStep 0 = .ok (.iload_n 1, 1) := by decide +kernel
theorem dX12_checkStep_1 : decode cX12_checkStep 1 = .ok (.ifCond .lt 14, 3) := by decide +kernel
theorem dX12_checkStep_4 : decode cX12_checkStep 4 = .ok (.iload_n 1, 1) := by decide +kernel
theorem dX12_checkStep_5 : decode cX12_checkStep 5 = .ok (.aload_n 0, 1) := by decide +kernel
theorem dX12_checkStep_6 : decode cX12_checkStep 6 = .ok (.getfield 12, 3) := by decide +kernel
theorem dX12_checkStep_9 : decode cX12_checkStep 9 = .ok (.getfield 253, 3) := by decide +kernel
theorem dX12_checkStep_12 : decode cX12_checkStep 12 = .ok (.if_icmp .le 11, 3) := by decide +kernel
theorem dX12_checkStep_15 : decode cX12_checkStep 15 = .ok (.new 104, 3) := by decide +kernel
theorem dX12_checkStep_18 : decode cX12_checkStep 18 = .ok (.dup, 1) := by decide +kernel
theorem dX12_checkStep_19 : decode cX12_checkStep 19 = .ok (.invokespecial 106, 3) := by decide +kernel
theorem dX12_checkStep_22 : decode cX12_checkStep 22 = .ok (.athrow, 1) := by decide +kernel
theorem dX12_checkStep_23 : decode cX12_checkStep 23 = .ok (.return_, 1) := by decide +kernel
set_option maxRecDepth 20000 in
theorem ggX12_checkTone_X5_isTone : GoodIn wsX12_checkTone wsX5_isTone := goodIn_r _ [6] (by decide +kernel) (by decide +kernel)
set_option maxRecDepth 20000 in
theorem gX12_checkTone_X5_isTone : GoodIn wsX12_checkTone (va_wsS RX12 213 yX5_isTone wsX5_isTone) := goodIn_app (goodIn_of _ (by decide +kernel)) ggX12_checkTone_X5_isTone
theorem dX12_checkTone_0 : decode cX12_checkTone 0 = .ok (.iload_n 1, 1) := by decide +kernel
theorem dX12_checkTone_1 : decode cX12_checkTone 1 = .ok (.invokestatic 213, 3) := by decide +kernel
theorem dX12_checkTone_4 : decode cX12_checkTone 4 = .ok (.ifCond .ne 11, 3) := by decide +kernel
theorem dX12_checkTone_7 : decode cX12_checkTone 7 = .ok (.new 104, 3) := by decide +kernel
theorem dX12_checkTone_10 : decode cX12_checkTone 10 = .ok (.dup, 1) := by decide +kernel
theorem dX12_checkTone_11 : decode cX12_checkTone 11 = .ok (.invokespecial 106, 3) := by decide +kernel
theorem dX12_checkTone_14 : decode cX12_checkTone 14 = .ok (.athrow, 1) := by decide +kernel
theorem dX12_checkTone_15 : decode cX12_checkTone 15 = .ok (.return_, 1) := by decide +kernel
theorem dX12_checkLayer_0 : decode cX12_checkLayer 0 = .ok (.iload_n 1, 1) := by decide +kernel
theorem dX12_checkLayer_1 : decode cX12_checkLayer 1 = .ok (.iconst 1, 1) := by decide +kernel
theorem dX12_checkLayer_2 : decode cX12_checkLayer 2 = .ok (.if_icmp .lt 14, 3) := by decide +kernel
theorem dX12_checkLayer_5 : decode cX12_checkLayer 5 = .ok (.iload_n 1, 1) := by decide +kernel
theorem dX12_checkLayer_6 : decode cX12_checkLayer 6 = .ok (.aload_n 0, 1) := by decide +kernel
theorem dX12_checkLayer_7 : decode cX12_checkLayer 7 = .ok (.getfield 12, 3) := by decide +kernel
theorem dX12_checkLayer_10 : decode cX12_checkLayer 10 = .ok (.getfield 253, 3) := by decide +kernel
theorem dX12_checkLayer_13 : decode cX12_checkLayer 13 = .ok (.if_icmp .le 11, 3) := by decide +kernel
theorem dX12_checkLayer_16 : decode cX12_checkLayer 16 = .ok (.new 104, 3) := by decide +kernel
theorem dX12_checkLayer_19 : decode cX12_checkLayer 19 = .ok (.dup, 1) := by decide +kernel
theorem dX12_checkLayer_20 : decode cX12_checkLayer 20 = .ok (.invokespecial 106, 3) := by decide +kernel
theorem dX12_checkLayer_23 : decode cX12_checkLayer 23 = .ok (.athrow, 1) := by decide +kernel
theorem dX12_checkLayer_24 : decode cX12_checkLayer 24 = .ok (.return_, 1) := by decide +kernel
set_option maxRecDepth 20000 in
theorem ggX12_light_X12_checkStep : GoodIn wsX12_light wsX12_checkStep := goodIn_ca (goodIn_r _ [6, 7, 8, 1, 9, 16, 17, 18, 19, 20, 21, 22, 23, 24, 25, 26, 27, 28, 29, 30, 31, 32, 33, 34, 35, 36, 37, 38, 39, 40] (by decide +kernel) (by decide +kernel)) (goodIn_sub (fun _ h => List.mem_cons_of_mem _ (List.mem_append_right _ h)) (by decide +kernel))
set_option maxRecDepth 20000 in
theorem gX12_light_X12_checkStep : GoodIn wsX12_light (wsV RX12 281 RX12 yX12_checkStep wsX12_checkStep) := goodIn_app (goodIn_of _ (by decide +kernel)) ggX12_light_X12_checkStep
set_option maxRecDepth 20000 in
theorem ggX12_light_X5_lightOf : GoodIn wsX12_light wsX5_lightOf := goodIn_r _ [14, 15, 31, 32, 33, 34, 35, 36, 37, 38, 39, 40] (by decide +kernel) (by decide +kernel)
set_option maxRecDepth 20000 in
theorem gX12_light_X5_lightOf : GoodIn wsX12_light (wsV RX12 293 RX5 yX5_lightOf wsX5_lightOf) := goodIn_app (goodIn_of _ (by decide +kernel)) ggX12_light_X5_lightOf
theorem dX12_light_0 : decode cX12_light 0 = .ok (.aload_n 0, 1) := by decide +kernel
theorem dX12_light_1 : decode cX12_light 1 = .ok (.iload_n 1, 1) := by decide +kernel
theorem dX12_light_2 : decode cX12_light 2 = .ok (.invokevirtual 281, 3) := by decide +kernel
theorem dX12_light_5 : decode cX12_light 5 = .ok (.aload_n 0, 1) := by decide +kernel
theorem dX12_light_6 : decode cX12_light 6 = .ok (.getfield 12, 3) := by decide +kernel
theorem dX12_light_9 : decode cX12_light 9 = .ok (.iload_n 1, 1) := by decide +kernel
theorem dX12_light_10 : decode cX12_light 10 = .ok (.invokevirtual 293, 3) := by decide +kernel
theorem dX12_light_13 : decode cX12_light 13 = .ok (.freturn, 1) := by decide +kernel
set_option maxRecDepth 20000 in
theorem ggX12_heightFor_X12_checkTone : GoodIn wsX12_heightFor wsX12_checkTone := goodIn_ca (goodIn_r _ [6, 7, 8, 9, 10, 11, 12] (by decide +kernel) (by decide +kernel)) (goodIn_sub (fun _ h => List.mem_cons_of_mem _ (List.mem_append_right _ h)) (by decide +kernel))
set_option maxRecDepth 20000 in
theorem gX12_heightFor_X12_checkTone : GoodIn wsX12_heightFor (wsV RX12 297 RX12 yX12_checkTone wsX12_checkTone) := goodIn_app (goodIn_of _ (by decide +kernel)) ggX12_heightFor_X12_checkTone
set_option maxRecDepth 20000 in
theorem ggX12_heightFor_X5_wish : GoodIn wsX12_heightFor wsX5_wish := goodIn_r _ [15, 16] (by decide +kernel) (by decide +kernel)
set_option maxRecDepth 20000 in
theorem gX12_heightFor_X5_wish : GoodIn wsX12_heightFor (va_wsS RX12 300 yX5_wish wsX5_wish) := goodIn_app (goodIn_of _ (by decide +kernel)) ggX12_heightFor_X5_wish
set_option maxRecDepth 20000 in
theorem ggX12_heightFor_X5_stepFor : GoodIn wsX12_heightFor wsX5_stepFor := goodIn_r _ [20, 21, 22, 23, 24, 25, 11, 26, 27, 28, 29, 30, 46, 47, 48, 49, 50, 51, 52, 53, 54, 55] (by decide +kernel) (by decide +kernel)
set_option maxRecDepth 20000 in
theorem gX12_heightFor_X5_stepFor : GoodIn wsX12_heightFor (wsV RX12 303 RX5 yX5_stepFor wsX5_stepFor) := goodIn_app (goodIn_of _ (by decide +kernel)) ggX12_heightFor_X5_stepFor
theorem dX12_heightFor_0 : decode cX12_heightFor 0 = .ok (.aload_n 0, 1) := by decide +kernel
theorem dX12_heightFor_1 : decode cX12_heightFor 1 = .ok (.iload_n 1, 1) := by decide +kernel
theorem dX12_heightFor_2 : decode cX12_heightFor 2 = .ok (.invokevirtual 297, 3) := by decide +kernel
theorem dX12_heightFor_5 : decode cX12_heightFor 5 = .ok (.aload_n 0, 1) := by decide +kernel
theorem dX12_heightFor_6 : decode cX12_heightFor 6 = .ok (.getfield 12, 3) := by decide +kernel
theorem dX12_heightFor_9 : decode cX12_heightFor 9 = .ok (.iload_n 1, 1) := by decide +kernel
theorem dX12_heightFor_10 : decode cX12_heightFor 10 = .ok (.invokestatic 300, 3) := by decide +kernel
theorem dX12_heightFor_13 : decode cX12_heightFor 13 = .ok (.invokevirtual 303, 3) := by decide +kernel
theorem dX12_heightFor_16 : decode cX12_heightFor 16 = .ok (.ireturn, 1) := by decide +kernel
set_option maxRecDepth 20000 in
theorem ggX12_wanted_X12_checkCell : GoodIn wsX12_wanted wsX12_checkCell := goodIn_ca (goodIn_r _ [6, 7, 8, 1, 9, 10, 11, 12, 13, 14, 15, 29, 30, 31, 32, 33, 34, 35, 36, 37, 38, 39, 40, 41, 42, 43, 44, 45, 46, 47, 48, 49, 50, 51, 52, 53] (by decide +kernel) (by decide +kernel)) (goodIn_sub (fun _ h => List.mem_cons_of_mem _ (List.mem_append_right _ h)) (by decide +kernel))
set_option maxRecDepth 20000 in
theorem gX12_wanted_X12_checkCell : GoodIn wsX12_wanted (wsV RX12 268 RX12 yX12_checkCell wsX12_checkCell) := goodIn_app (goodIn_of _ (by decide +kernel)) ggX12_wanted_X12_checkCell
set_option maxRecDepth 20000 in
theorem ggX12_wanted_X5_wishAt : GoodIn wsX12_wanted wsX5_wishAt := goodIn_r _ [19, 20, 21, 22, 12, 23, 14, 15, 24, 25, 26, 27, 28, 44, 45, 46, 47, 48, 49, 50, 51, 52, 53] (by decide +kernel) (by decide +kernel)
set_option maxRecDepth 20000 in
theorem gX12_wanted_X5_wishAt : GoodIn wsX12_wanted (wsV RX12 307 RX5 yX5_wishAt wsX5_wishAt) := goodIn_app (goodIn_of _ (by decide +kernel)) ggX12_wanted_X5_wishAt
theorem dX12_wanted_0 : decode cX12_wanted 0 = .ok (.aload_n 0, 1) := by decide +kernel
theorem dX12_wanted_1 : decode cX12_wanted 1 = .ok (.iload_n 1, 1) := by decide +kernel
theorem dX12_wanted_2 : decode cX12_wanted 2 = .ok (.iload_n 2, 1) := by decide +kernel
theorem dX12_wanted_3 : decode cX12_wanted 3 = .ok (.invokevirtual 268, 3) := by decide +kernel
theorem dX12_wanted_6 : decode cX12_wanted 6 = .ok (.aload_n 0, 1) := by decide +kernel
theorem dX12_wanted_7 : decode cX12_wanted 7 = .ok (.getfield 12, 3) := by decide +kernel
theorem dX12_wanted_10 : decode cX12_wanted 10 = .ok (.iload_n 1, 1) := by decide +kernel
theorem dX12_wanted_11 : decode cX12_wanted 11 = .ok (.iload_n 2, 1) := by decide +kernel
theorem dX12_wanted_12 : decode cX12_wanted 12 = .ok (.invokevirtual 307, 3) := by decide +kernel
theorem dX12_wanted_15 : decode cX12_wanted 15 = .ok (.freturn, 1) := by decide +kernel
set_option maxRecDepth 20000 in
theorem ggX12_estimate_X12_checkCell : GoodIn wsX12_estimate wsX12_checkCell := goodIn_ca (goodIn_r _ [6, 7, 8, 1, 9, 10, 11, 12, 13, 14, 15, 28, 29, 30, 31, 32, 33, 34, 35, 36, 37, 38, 39, 40, 41, 42, 43, 44, 45, 46, 47, 48, 49, 50, 51, 52] (by decide +kernel) (by decide +kernel)) (goodIn_sub (fun _ h => List.mem_cons_of_mem _ (List.mem_append_right _ h)) (by decide +kernel))
set_option maxRecDepth 20000 in
theorem gX12_estimate_X12_checkCell : GoodIn wsX12_estimate (wsV RX12 268 RX12 yX12_checkCell wsX12_checkCell) := goodIn_app (goodIn_of _ (by decide +kernel)) ggX12_estimate_X12_checkCell
set_option maxRecDepth 20000 in
theorem ggX12_estimate_X2_glowAt : GoodIn wsX12_estimate wsX2_glowAt := goodIn_r _ [19, 20, 21, 22, 23, 24, 12, 25, 14, 15, 26, 27, 43, 44, 45, 46, 47, 48, 49, 50, 51, 52] (by decide +kernel) (by decide +kernel)
set_option maxRecDepth 20000 in
theorem gX12_estimate_X2_glowAt : GoodIn wsX12_estimate (va_wsS RX12 311 yX2_glowAt wsX2_glowAt) := goodIn_app (goodIn_of _ (by decide +kernel)) ggX12_estimate_X2_glowAt
theorem dX12_estimate_0 : decode cX12_estimate 0 = .ok (.aload_n 0, 1) := by decide +kernel
theorem dX12_estimate_1 : decode cX12_estimate 1 = .ok (.iload_n 1, 1) := by decide +kernel
theorem dX12_estimate_2 : decode cX12_estimate 2 = .ok (.iload_n 2, 1) := by decide +kernel
theorem dX12_estimate_3 : decode cX12_estimate 3 = .ok (.invokevirtual 268, 3) := by decide +kernel
theorem dX12_estimate_6 : decode cX12_estimate 6 = .ok (.aload_n 0, 1) := by decide +kernel
theorem dX12_estimate_7 : decode cX12_estimate 7 = .ok (.getfield 12, 3) := by decide +kernel
theorem dX12_estimate_10 : decode cX12_estimate 10 = .ok (.iload_n 1, 1) := by decide +kernel
theorem dX12_estimate_11 : decode cX12_estimate 11 = .ok (.iload_n 2, 1) := by decide +kernel
theorem dX12_estimate_12 : decode cX12_estimate 12 = .ok (.invokestatic 311, 3) := by decide +kernel
theorem dX12_estimate_15 : decode cX12_estimate 15 = .ok (.freturn, 1) := by decide +kernel
set_option maxRecDepth 20000 in
theorem ggX12_error_X12_checkCell : GoodIn wsX12_error wsX12_checkCell := goodIn_ca (goodIn_r _ [6, 7, 8, 1, 9, 10, 11, 12, 13, 14, 15, 44, 45, 46, 47, 48, 49, 50, 51, 52, 53, 54, 55, 56, 57, 58, 59, 60, 61, 62, 63, 64, 65, 66, 67, 68] (by decide +kernel) (by decide +kernel)) (goodIn_sub (fun _ h => List.mem_cons_of_mem _ (List.mem_append_right _ h)) (by decide +kernel))
set_option maxRecDepth 20000 in
theorem gX12_error_X12_checkCell : GoodIn wsX12_error (wsV RX12 268 RX12 yX12_checkCell wsX12_checkCell) := goodIn_app (goodIn_of _ (by decide +kernel)) ggX12_error_X12_checkCell
set_option maxRecDepth 20000 in
theorem ggX12_error_X2_missAt : GoodIn wsX12_error wsX2_missAt := goodIn_r _ [19, 20, 21, 18, 22, 23, 24, 25, 26, 27, 12, 28, 14, 15, 29, 30, 31, 32, 33, 34, 35, 36, 37, 38, 39, 40, 41, 42, 43, 59, 60, 61, 62, 63, 64, 65, 66, 67, 68] (by decide +kernel) (by decide +kernel)
set_option maxRecDepth 20000 in
theorem gX12_error_X2_missAt : GoodIn wsX12_error (va_wsS RX12 315 yX2_missAt wsX2_missAt) := goodIn_app (goodIn_of _ (by decide +kernel)) ggX12_error_X2_missAt
theorem dX12_error_0 : decode cX12_error 0 = .ok (.aload_n 0, 1) := by decide +kernel
theorem dX12_error_1 : decode cX12_error 1 = .ok (.iload_n 1, 1) := by decide +kernel
theorem dX12_error_2 : decode cX12_error 2 = .ok (.iload_n 2, 1) := by decide +kernel
theorem dX12_error_3 : decode cX12_error 3 = .ok (.invokevirtual 268, 3) := by decide +kernel
theorem dX12_error_6 : decode cX12_error 6 = .ok (.aload_n 0, 1) := by decide +kernel
theorem dX12_error_7 : decode cX12_error 7 = .ok (.getfield 12, 3) := by decide +kernel
theorem dX12_error_10 : decode cX12_error 10 = .ok (.iload_n 1, 1) := by decide +kernel
theorem dX12_error_11 : decode cX12_error 11 = .ok (.iload_n 2, 1) := by decide +kernel
theorem dX12_error_12 : decode cX12_error 12 = .ok (.invokestatic 315, 3) := by decide +kernel
theorem dX12_error_15 : decode cX12_error 15 = .ok (.freturn, 1) := by decide +kernel
set_option maxRecDepth 20000 in
theorem ggX12_meanError_X2_meanMiss : GoodIn wsX12_meanError wsX2_meanMiss := goodIn_r _ [5, 6, 7, 8, 9, 4, 10, 11, 12, 13, 14, 15, 16, 17, 18, 19, 20, 21, 22, 23, 24, 25, 26, 27, 28, 29, 30, 31, 32, 33, 34, 35, 36, 37, 38, 39, 40, 41, 57, 58, 59, 60, 61, 62, 63, 64, 65, 66] (by decide +kernel) (by decide +kernel)
set_option maxRecDepth 20000 in
theorem gX12_meanError_X2_meanMiss : GoodIn wsX12_meanError (va_wsS RX12 318 yX2_meanMiss wsX2_meanMiss) := goodIn_app (goodIn_of _ (by decide +kernel)) ggX12_meanError_X2_meanMiss
theorem dX12_meanError_0 : decode cX12_meanError 0 = .ok (.aload_n 0, 1) := by decide +kernel
theorem dX12_meanError_1 : decode cX12_meanError 1 = .ok (.getfield 12, 3) := by decide +kernel
theorem dX12_meanError_4 : decode cX12_meanError 4 = .ok (.invokestatic 318, 3) := by decide +kernel
theorem dX12_meanError_7 : decode cX12_meanError 7 = .ok (.freturn, 1) := by decide +kernel
set_option maxRecDepth 20000 in
theorem ggX12_worstCell_X2_worst : GoodIn wsX12_worstCell wsX2_worst := goodIn_r _ [5, 6, 7, 8, 9, 4, 10, 11, 12, 13, 14, 15, 16, 17, 18, 19, 20, 21, 22, 23, 24, 25, 26, 27, 28, 29, 30, 31, 32, 33, 34, 35, 36, 37, 38, 39, 40, 41, 57, 58, 59, 60, 61, 62, 63, 64, 65, 66] (by decide +kernel) (by decide +kernel)
set_option maxRecDepth 20000 in
theorem gX12_worstCell_X2_worst : GoodIn wsX12_worstCell (va_wsS RX12 322 yX2_worst wsX2_worst) := goodIn_app (goodIn_of _ (by decide +kernel)) ggX12_worstCell_X2_worst
theorem dX12_worstCell_0 : decode cX12_worstCell 0 = .ok (.aload_n 0, 1) := by decide +kernel
theorem dX12_worstCell_1 : decode cX12_worstCell 1 = .ok (.getfield 12, 3) := by decide +kernel
theorem dX12_worstCell_4 : decode cX12_worstCell 4 = .ok (.invokestatic 322, 3) := by decide +kernel
theorem dX12_worstCell_7 : decode cX12_worstCell 7 = .ok (.ireturn, 1) := by decide +kernel
set_option maxRecDepth 20000 in
theorem ggX12_fingerprint_X2_hash : GoodIn wsX12_fingerprint wsX2_hash := goodIn_r _ [5, 6, 7, 8, 9, 4, 10, 11, 12, 13, 14, 15, 16, 17, 18, 19, 20, 21, 22, 23, 24, 25, 41, 42, 43, 44, 45, 46, 47, 48, 49, 50] (by decide +kernel) (by decide +kernel)
set_option maxRecDepth 20000 in
theorem gX12_fingerprint_X2_hash : GoodIn wsX12_fingerprint (va_wsS RX12 325 yX2_hash wsX2_hash) := goodIn_app (goodIn_of _ (by decide +kernel)) ggX12_fingerprint_X2_hash
theorem dX12_fingerprint_0 : decode cX12_fingerprint 0 = .ok (.aload_n 0, 1) := by decide +kernel
theorem dX12_fingerprint_1 : decode cX12_fingerprint 1 = .ok (.getfield 12, 3) := by decide +kernel
theorem dX12_fingerprint_4 : decode cX12_fingerprint 4 = .ok (.invokestatic 325, 3) := by decide +kernel
theorem dX12_fingerprint_7 : decode cX12_fingerprint 7 = .ok (.ireturn, 1) := by decide +kernel
set_option maxRecDepth 20000 in
theorem ggX12_brightest_X2_lightest : GoodIn wsX12_brightest wsX2_lightest := goodIn_r _ [5, 6, 7, 8, 9, 4, 10, 11, 12, 13, 14, 15, 16, 17, 18, 19, 20, 21, 37, 38, 39, 40, 41, 42, 43, 44, 45, 46] (by decide +kernel) (by decide +kernel)
set_option maxRecDepth 20000 in
theorem gX12_brightest_X2_lightest : GoodIn wsX12_brightest (va_wsS RX12 328 yX2_lightest wsX2_lightest) := goodIn_app (goodIn_of _ (by decide +kernel)) ggX12_brightest_X2_lightest
theorem dX12_brightest_0 : decode cX12_brightest 0 = .ok (.aload_n 0, 1) := by decide +kernel
theorem dX12_brightest_1 : decode cX12_brightest 1 = .ok (.getfield 12, 3) := by decide +kernel
theorem dX12_brightest_4 : decode cX12_brightest 4 = .ok (.invokestatic 328, 3) := by decide +kernel
theorem dX12_brightest_7 : decode cX12_brightest 7 = .ok (.ireturn, 1) := by decide +kernel
set_option maxRecDepth 20000 in
theorem ggX12_darkestRow_X2_dimmestRow : GoodIn wsX12_darkestRow wsX2_dimmestRow := goodIn_r _ [5, 6, 7, 8, 4, 9, 10, 11, 12, 13, 14, 15, 16, 17, 18, 19, 20, 21, 22, 23, 24, 40, 41, 42, 43, 44, 45, 46, 47, 48, 49] (by decide +kernel) (by decide +kernel)
set_option maxRecDepth 20000 in
theorem gX12_darkestRow_X2_dimmestRow : GoodIn wsX12_darkestRow (va_wsS RX12 331 yX2_dimmestRow wsX2_dimmestRow) := goodIn_app (goodIn_of _ (by decide +kernel)) ggX12_darkestRow_X2_dimmestRow
theorem dX12_darkestRow_0 : decode cX12_darkestRow 0 = .ok (.aload_n 0, 1) := by decide +kernel
theorem dX12_darkestRow_1 : decode cX12_darkestRow 1 = .ok (.getfield 12, 3) := by decide +kernel
theorem dX12_darkestRow_4 : decode cX12_darkestRow 4 = .ok (.invokestatic 331, 3) := by decide +kernel
theorem dX12_darkestRow_7 : decode cX12_darkestRow 7 = .ok (.ireturn, 1) := by decide +kernel
set_option maxRecDepth 20000 in
theorem ggX12_contrast_X2_span : GoodIn wsX12_contrast wsX2_span := goodIn_r _ [5, 6, 7, 8, 9, 4, 10, 11, 12, 13, 14, 15, 16, 17, 18, 19, 20, 21, 37, 38, 39, 40, 41, 42, 43, 44, 45, 46] (by decide +kernel) (by decide +kernel)
set_option maxRecDepth 20000 in
theorem gX12_contrast_X2_span : GoodIn wsX12_contrast (va_wsS RX12 334 yX2_span wsX2_span) := goodIn_app (goodIn_of _ (by decide +kernel)) ggX12_contrast_X2_span
theorem dX12_contrast_0 : decode cX12_contrast 0 = .ok (.aload_n 0, 1) := by decide +kernel
theorem dX12_contrast_1 : decode cX12_contrast 1 = .ok (.getfield 12, 3) := by decide +kernel
theorem dX12_contrast_4 : decode cX12_contrast 4 = .ok (.invokestatic 334, 3) := by decide +kernel
theorem dX12_contrast_7 : decode cX12_contrast 7 = .ok (.freturn, 1) := by decide +kernel
set_option maxRecDepth 20000 in
theorem ggX12_isThin_X12_checkCell : GoodIn wsX12_isThin wsX12_checkCell := goodIn_ca (goodIn_r _ [6, 7, 8, 1, 9, 10, 11, 12, 13, 14, 15, 34, 35, 36, 37, 38, 39, 40, 41, 42, 43, 44, 45, 46, 47, 48, 49, 50, 51, 52, 53, 54, 55, 56, 57, 58] (by decide +kernel) (by decide +kernel)) (goodIn_sub (fun _ h => List.mem_cons_of_mem _ (List.mem_append_right _ h)) (by decide +kernel))
set_option maxRecDepth 20000 in
theorem gX12_isThin_X12_checkCell : GoodIn wsX12_isThin (wsV RX12 268 RX12 yX12_checkCell wsX12_checkCell) := goodIn_app (goodIn_of _ (by decide +kernel)) ggX12_isThin_X12_checkCell
set_option maxRecDepth 20000 in
theorem ggX12_isThin_X11_isNarrow : GoodIn wsX12_isThin wsX11_isNarrow := goodIn_r _ [19, 20, 21, 22, 23, 24, 12, 25, 14, 15, 26, 27, 28, 18, 29, 30, 31, 32, 33, 49, 50, 51, 52, 53, 54, 55, 56, 57, 58] (by decide +kernel) (by decide +kernel)
set_option maxRecDepth 20000 in
theorem gX12_isThin_X11_isNarrow : GoodIn wsX12_isThin (va_wsS RX12 337 yX11_isNarrow wsX11_isNarrow) := goodIn_app (goodIn_of _ (by decide +kernel)) ggX12_isThin_X11_isNarrow
theorem dX12_isThin_0 : decode cX12_isThin 0 = .ok (.aload_n 0, 1) := by decide +kernel
theorem dX12_isThin_1 : decode cX12_isThin 1 = .ok (.iload_n 1, 1) := by decide +kernel
theorem dX12_isThin_2 : decode cX12_isThin 2 = .ok (.iload_n 2, 1) := by decide +kernel
theorem dX12_isThin_3 : decode cX12_isThin 3 = .ok (.invokevirtual 268, 3) := by decide +kernel
theorem dX12_isThin_6 : decode cX12_isThin 6 = .ok (.aload_n 0, 1) := by decide +kernel
theorem dX12_isThin_7 : decode cX12_isThin 7 = .ok (.getfield 12, 3) := by decide +kernel
theorem dX12_isThin_10 : decode cX12_isThin 10 = .ok (.iload_n 1, 1) := by decide +kernel
theorem dX12_isThin_11 : decode cX12_isThin 11 = .ok (.iload_n 2, 1) := by decide +kernel
theorem dX12_isThin_12 : decode cX12_isThin 12 = .ok (.invokestatic 337, 3) := by decide +kernel
theorem dX12_isThin_15 : decode cX12_isThin 15 = .ok (.ireturn, 1) := by decide +kernel
set_option maxRecDepth 20000 in
theorem ggX12_thinCells_X11_mark : GoodIn wsX12_thinCells wsX11_mark := goodIn_r _ [7, 8, 9, 10, 11, 6, 12, 13, 14, 15, 16, 17, 18, 19, 20, 21, 22, 23, 24, 25, 26, 27, 28, 29, 30, 31, 32, 33, 34, 50, 51, 52, 53, 54, 55, 56, 57, 58, 59, 60] (by decide +kernel) (by decide +kernel)
set_option maxRecDepth 20000 in
theorem gX12_thinCells_X11_mark : GoodIn wsX12_thinCells (wsV RX12 341 RX11 yX11_mark wsX11_mark) := goodIn_app (goodIn_of _ (by decide +kernel)) ggX12_thinCells_X11_mark
theorem dX12_thinCells_0 : decode cX12_thinCells 0 = .ok (.aload_n 0, 1) := by decide +kernel
theorem dX12_thinCells_1 : decode cX12_thinCells 1 = .ok (.getfield 37, 3) := by decide +kernel
theorem dX12_thinCells_4 : decode cX12_thinCells 4 = .ok (.aload_n 0, 1) := by decide +kernel
theorem dX12_thinCells_5 : decode cX12_thinCells 5 = .ok (.getfield 12, 3) := by decide +kernel
theorem dX12_thinCells_8 : decode cX12_thinCells 8 = .ok (.invokevirtual 341, 3) := by decide +kernel
theorem dX12_thinCells_11 : decode cX12_thinCells 11 = .ok (.ireturn, 1) := by decide +kernel
set_option maxRecDepth 20000 in
theorem ggX12_repair_X3_open : GoodIn wsX12_repair wsX3_open := goodIn_r _ [8, 9, 10, 11, 12, 13, 14, 15, 16, 17, 18, 19, 20, 21, 22, 23, 24, 25, 26, 27, 28, 29, 30, 31, 32, 33, 115, 116, 117, 118, 119, 120, 121, 122, 123, 124, 125, 126, 127] (by decide +kernel) (by decide +kernel)
set_option maxRecDepth 20000 in
theorem gX12_repair_X3_open : GoodIn wsX12_repair (wsV RX12 126 RX3 yX3_open wsX3_open) := goodIn_app (goodIn_of _ (by decide +kernel)) ggX12_repair_X3_open
set_option maxRecDepth 20000 in
theorem ggX12_repair_X11_takeDown : GoodIn wsX12_repair wsX11_takeDown := goodIn_r _ [38, 39, 40, 41, 37, 42, 43, 44, 45, 46, 47, 48, 49, 50, 51, 52, 14, 53, 16, 17, 33, 54, 55, 56, 57, 58, 59, 60, 61, 62, 63, 64, 65, 66, 67, 68, 69, 70, 71, 72, 73, 74, 75, 76, 77, 78, 79, 80, 81, 118, 119, 120, 121, 122, 123, 124, 125, 126, 127, 128] (by decide +kernel) (by decide +kernel)
set_option maxRecDepth 20000 in
theorem gX12_repair_X11_takeDown : GoodIn wsX12_repair (wsV RX12 186 RX11 yX11_takeDown wsX11_takeDown) := goodIn_app (goodIn_of _ (by decide +kernel)) ggX12_repair_X11_takeDown
set_option maxRecDepth 20000 in
theorem ggX12_repair_X3_close : GoodIn wsX12_repair wsX3_close := goodIn_r _ [85, 9, 10, 86, 87, 88, 89, 90, 91, 92, 93, 14, 94, 17, 16, 95, 51, 52, 53, 33, 96, 97, 98, 99, 23, 115, 116, 117, 118, 119, 120, 121, 122, 123, 124, 125, 126, 127] (by decide +kernel) (by decide +kernel)
set_option maxRecDepth 20000 in
theorem gX12_repair_X3_close : GoodIn wsX12_repair (wsV RX12 139 RX3 yX3_close wsX3_close) := goodIn_app (goodIn_of _ (by decide +kernel)) ggX12_repair_X3_close
theorem dX12_repair_0 : decode cX12_repair 0 = .ok (.aload_n 0, 1) := by decide +kernel
theorem dX12_repair_1 : decode cX12_repair 1 = .ok (.getfield 30, 3) := by decide +kernel
theorem dX12_repair_4 : decode cX12_repair 4 = .ok (.aload_n 0, 1) := by decide +kernel
theorem dX12_repair_5 : decode cX12_repair 5 = .ok (.getfield 12, 3) := by decide +kernel
theorem dX12_repair_8 : decode cX12_repair 8 = .ok (.invokevirtual 126, 3) := by decide +kernel
theorem dX12_repair_11 : decode cX12_repair 11 = .ok (.aload_n 0, 1) := by decide +kernel
theorem dX12_repair_12 : decode cX12_repair 12 = .ok (.getfield 37, 3) := by decide +kernel
theorem dX12_repair_15 : decode cX12_repair 15 = .ok (.aload_n 0, 1) := by decide +kernel
theorem dX12_repair_16 : decode cX12_repair 16 = .ok (.getfield 12, 3) := by decide +kernel
theorem dX12_repair_19 : decode cX12_repair 19 = .ok (.invokevirtual 186, 3) := by decide +kernel
theorem dX12_repair_22 : decode cX12_repair 22 = .ok (.istore_n 1, 1) := by decide +kernel
theorem dX12_repair_23 : decode cX12_repair 23 = .ok (.aload_n 0, 1) := by decide +kernel
theorem dX12_repair_24 : decode cX12_repair 24 = .ok (.getfield 30, 3) := by decide +kernel
theorem dX12_repair_27 : decode cX12_repair 27 = .ok (.aload_n 0, 1) := by decide +kernel
theorem dX12_repair_28 : decode cX12_repair 28 = .ok (.getfield 12, 3) := by decide +kernel
theorem dX12_repair_31 : decode cX12_repair 31 = .ok (.invokevirtual 139, 3) := by decide +kernel
theorem dX12_repair_34 : decode cX12_repair 34 = .ok (.iload_n 1, 1) := by decide +kernel
theorem dX12_repair_35 : decode cX12_repair 35 = .ok (.ireturn, 1) := by decide +kernel
set_option maxRecDepth 20000 in
theorem ggX12_smooth_X11_isLimit : GoodIn wsX12_smooth wsX11_isLimit := goodIn_r _ [9] (by decide +kernel) (by decide +kernel)
set_option maxRecDepth 20000 in
theorem gX12_smooth_X11_isLimit : GoodIn wsX12_smooth (va_wsS RX12 240 yX11_isLimit wsX11_isLimit) := goodIn_app (goodIn_of _ (by decide +kernel)) ggX12_smooth_X11_isLimit
set_option maxRecDepth 20000 in
theorem ggX12_smooth_X3_open : GoodIn wsX12_smooth wsX3_open := goodIn_r _ [14, 15, 16, 17, 18, 19, 20, 21, 22, 23, 24, 25, 26, 27, 28, 29, 30, 31, 32, 33, 34, 35, 36, 37, 38, 39, 102, 103, 104, 105, 106, 107, 108, 109, 110, 111, 112, 113, 114] (by decide +kernel) (by decide +kernel)
set_option maxRecDepth 20000 in
theorem gX12_smooth_X3_open : GoodIn wsX12_smooth (wsV RX12 126 RX3 yX3_open wsX3_open) := goodIn_app (goodIn_of _ (by decide +kernel)) ggX12_smooth_X3_open
set_option maxRecDepth 20000 in
theorem ggX12_smooth_X11_flatten : GoodIn wsX12_smooth wsX11_flatten := goodIn_r _ [42, 43, 44, 45, 18, 19, 20, 21, 22, 23, 24, 25, 26, 27, 28, 29, 30, 31, 32, 33, 34, 35, 36, 37, 38, 39, 46, 47, 8, 48, 49, 50, 51, 52, 53, 54, 55, 56, 57, 58, 59, 60, 61, 62, 63, 64, 65, 66, 67, 68, 69, 70, 105, 106, 107, 108, 109, 110, 111, 112, 113, 114] (by decide +kernel) (by decide +kernel)
set_option maxRecDepth 20000 in
theorem gX12_smooth_X11_flatten : GoodIn wsX12_smooth (va_wsS RX12 243 yX11_flatten wsX11_flatten) := goodIn_app (goodIn_of _ (by decide +kernel)) ggX12_smooth_X11_flatten
set_option maxRecDepth 20000 in
theorem ggX12_smooth_X3_close : GoodIn wsX12_smooth wsX3_close := goodIn_r _ [74, 15, 16, 75, 76, 77, 51, 78, 79, 80, 81, 20, 82, 23, 22, 70, 58, 59, 60, 39, 83, 84, 85, 86, 29, 102, 103, 104, 105, 106, 107, 108, 109, 110, 111, 112, 113, 114] (by decide +kernel) (by decide +kernel)
set_option maxRecDepth 20000 in
theorem gX12_smooth_X3_close : GoodIn wsX12_smooth (wsV RX12 139 RX3 yX3_close wsX3_close) := goodIn_app (goodIn_of _ (by decide +kernel)) ggX12_smooth_X3_close
theorem dX12_smooth_0 : decode cX12_smooth 0 = .ok (.iload_n 1, 1) := by decide +kernel
theorem dX12_smooth_1 : decode cX12_smooth 1 = .ok (.invokestatic 240, 3) := by decide +kernel
theorem dX12_smooth_4 : decode cX12_smooth 4 = .ok (.ifCond .ne 11, 3) := by decide +kernel
theorem dX12_smooth_7 : decode cX12_smooth 7 = .ok (.new 104, 3) := by decide +kernel
theorem dX12_smooth_10 : decode cX12_smooth 10 = .ok (.dup, 1) := by decide +kernel
theorem dX12_smooth_11 : decode cX12_smooth 11 = .ok (.invokespecial 106, 3) := by decide +kernel
theorem dX12_smooth_14 : decode cX12_smooth 14 = .ok (.athrow, 1) := by decide +kernel
theorem dX12_smooth_15 : decode cX12_smooth 15 = .ok (.aload_n 0, 1) := by decide +kernel
theorem dX12_smooth_16 : decode cX12_smooth 16 = .ok (.getfield 30, 3) := by decide +kernel
theorem dX12_smooth_19 : decode cX12_smooth 19 = .ok (.aload_n 0, 1) := by decide +kernel
theorem dX12_smooth_20 : decode cX12_smooth 20 = .ok (.getfield 12, 3) := by decide +kernel
theorem dX12_smooth_23 : decode cX12_smooth 23 = .ok (.invokevirtual 126, 3) := by decide +kernel
theorem dX12_smooth_26 : decode cX12_smooth 26 = .ok (.aload_n 0, 1) := by decide +kernel
theorem dX12_smooth_27 : decode cX12_smooth 27 = .ok (.getfield 12, 3) := by decide +kernel
theorem dX12_smooth_30 : decode cX12_smooth 30 = .ok (.aload_n 0, 1) := by decide +kernel
theorem dX12_smooth_31 : decode cX12_smooth 31 = .ok (.getfield 16, 3) := by decide +kernel
theorem dX12_smooth_34 : decode cX12_smooth 34 = .ok (.iload_n 1, 1) := by decide +kernel
theorem dX12_smooth_35 : decode cX12_smooth 35 = .ok (.invokestatic 243, 3) := by decide +kernel
theorem dX12_smooth_38 : decode cX12_smooth 38 = .ok (.istore_n 2, 1) := by decide +kernel
theorem dX12_smooth_39 : decode cX12_smooth 39 = .ok (.aload_n 0, 1) := by decide +kernel
theorem dX12_smooth_40 : decode cX12_smooth 40 = .ok (.getfield 30, 3) := by decide +kernel
theorem dX12_smooth_43 : decode cX12_smooth 43 = .ok (.aload_n 0, 1) := by decide +kernel
theorem dX12_smooth_44 : decode cX12_smooth 44 = .ok (.getfield 12, 3) := by decide +kernel
theorem dX12_smooth_47 : decode cX12_smooth 47 = .ok (.invokevirtual 139, 3) := by decide +kernel
theorem dX12_smooth_50 : decode cX12_smooth 50 = .ok (.iload_n 2, 1) := by decide +kernel
theorem dX12_smooth_51 : decode cX12_smooth 51 = .ok (.ireturn, 1) := by decide +kernel
set_option maxRecDepth 20000 in
theorem ggX12_repairLoss_X5_copyFrom : GoodIn wsX12_repairLoss wsX5_copyFrom := goodIn_r _ [8, 9, 10, 11, 12, 13, 14, 15, 16, 17, 18, 19, 20, 21, 22, 23, 24, 7, 25, 26, 95, 96, 97, 98, 99, 100, 101, 102, 103, 104] (by decide +kernel) (by decide +kernel)
set_option maxRecDepth 20000 in
theorem gX12_repairLoss_X5_copyFrom : GoodIn wsX12_repairLoss (wsV RX12 114 RX5 yX5_copyFrom wsX5_copyFrom) := goodIn_app (goodIn_of _ (by decide +kernel)) ggX12_repairLoss_X5_copyFrom
set_option maxRecDepth 20000 in
theorem ggX12_repairLoss_X11_takeDown : GoodIn wsX12_repairLoss wsX11_takeDown := goodIn_r _ [31, 32, 33, 34, 30, 35, 36, 37, 38, 39, 40, 41, 42, 43, 44, 45, 7, 46, 9, 10, 26, 47, 48, 49, 50, 51, 52, 53, 54, 55, 56, 57, 58, 59, 60, 61, 62, 63, 64, 65, 66, 67, 68, 69, 70, 71, 72, 73, 74, 95, 96, 97, 98, 99, 100, 101, 102, 103, 104, 105] (by decide +kernel) (by decide +kernel)
set_option maxRecDepth 20000 in
theorem gX12_repairLoss_X11_takeDown : GoodIn wsX12_repairLoss (wsV RX12 186 RX11 yX11_takeDown wsX11_takeDown) := goodIn_app (goodIn_of _ (by decide +kernel)) ggX12_repairLoss_X11_takeDown
set_option maxRecDepth 20000 in
theorem ggX12_repairLoss_X5_sumOfHeights : GoodIn wsX12_repairLoss wsX5_sumOfHeights := goodIn_r _ [78, 10, 9, 79, 44, 45, 7, 46, 26, 95, 96, 97, 98, 99, 100, 101, 102, 103, 104] (by decide +kernel) (by decide +kernel)
set_option maxRecDepth 20000 in
theorem gX12_repairLoss_X5_sumOfHeights : GoodIn wsX12_repairLoss (wsV RX12 278 RX5 yX5_sumOfHeights wsX5_sumOfHeights) := goodIn_app (goodIn_of _ (by decide +kernel)) ggX12_repairLoss_X5_sumOfHeights
theorem dX12_repairLoss_0 : decode cX12_repairLoss 0 = .ok (.aload_n 0, 1) := by decide +kernel
theorem dX12_repairLoss_1 : decode cX12_repairLoss 1 = .ok (.getfield 16, 3) := by decide +kernel
theorem dX12_repairLoss_4 : decode cX12_repairLoss 4 = .ok (.aload_n 0, 1) := by decide +kernel
theorem dX12_repairLoss_5 : decode cX12_repairLoss 5 = .ok (.getfield 12, 3) := by decide +kernel
theorem dX12_repairLoss_8 : decode cX12_repairLoss 8 = .ok (.invokevirtual 114, 3) := by decide +kernel
theorem dX12_repairLoss_11 : decode cX12_repairLoss 11 = .ok (.aload_n 0, 1) := by decide +kernel
theorem dX12_repairLoss_12 : decode cX12_repairLoss 12 = .ok (.getfield 37, 3) := by decide +kernel
theorem dX12_repairLoss_15 : decode cX12_repairLoss 15 = .ok (.aload_n 0, 1) := by decide +kernel
theorem dX12_repairLoss_16 : decode cX12_repairLoss 16 = .ok (.getfield 16, 3) := by decide +kernel
theorem dX12_repairLoss_19 : decode cX12_repairLoss 19 = .ok (.invokevirtual 186, 3) := by decide +kernel
theorem dX12_repairLoss_22 : decode cX12_repairLoss 22 = .ok (.pop, 1) := by decide +kernel
theorem dX12_repairLoss_23 : decode cX12_repairLoss 23 = .ok (.aload_n 0, 1) := by decide +kernel
theorem dX12_repairLoss_24 : decode cX12_repairLoss 24 = .ok (.getfield 12, 3) := by decide +kernel
theorem dX12_repairLoss_27 : decode cX12_repairLoss 27 = .ok (.invokevirtual 278, 3) := by decide +kernel
theorem dX12_repairLoss_30 : decode cX12_repairLoss 30 = .ok (.aload_n 0, 1) := by decide +kernel
theorem dX12_repairLoss_31 : decode cX12_repairLoss 31 = .ok (.getfield 16, 3) := by decide +kernel
theorem dX12_repairLoss_34 : decode cX12_repairLoss 34 = .ok (.invokevirtual 278, 3) := by decide +kernel
theorem dX12_repairLoss_37 : decode cX12_repairLoss 37 = .ok (.isub, 1) := by decide +kernel
theorem dX12_repairLoss_38 : decode cX12_repairLoss 38 = .ok (.ireturn, 1) := by decide +kernel
set_option maxRecDepth 20000 in
theorem ggX12_overhang_X12_checkCell : GoodIn wsX12_overhang wsX12_checkCell := goodIn_ca (goodIn_r _ [6, 7, 8, 1, 9, 10, 11, 12, 13, 14, 15, 30, 31, 32, 33, 34, 35, 36, 37, 38, 39, 40, 41, 42, 43, 44, 45, 46, 47, 48, 49, 50, 51, 52, 53, 54] (by decide +kernel) (by decide +kernel)) (goodIn_sub (fun _ h => List.mem_cons_of_mem _ (List.mem_append_right _ h)) (by decide +kernel))
set_option maxRecDepth 20000 in
theorem gX12_overhang_X12_checkCell : GoodIn wsX12_overhang (wsV RX12 268 RX12 yX12_checkCell wsX12_checkCell) := goodIn_app (goodIn_of _ (by decide +kernel)) ggX12_overhang_X12_checkCell
set_option maxRecDepth 20000 in
theorem ggX12_overhang_X9_excess : GoodIn wsX12_overhang wsX9_excess := goodIn_r _ [19, 20, 21, 22, 23, 24, 25, 26, 27, 12, 28, 14, 15, 29, 45, 46, 47, 48, 49, 50, 51, 52, 53, 54] (by decide +kernel) (by decide +kernel)
set_option maxRecDepth 20000 in
theorem gX12_overhang_X9_excess : GoodIn wsX12_overhang (va_wsS RX12 344 yX9_excess wsX9_excess) := goodIn_app (goodIn_of _ (by decide +kernel)) ggX12_overhang_X9_excess
theorem dX12_overhang_0 : decode cX12_overhang 0 = .ok (.aload_n 0, 1) := by decide +kernel
theorem dX12_overhang_1 : decode cX12_overhang 1 = .ok (.iload_n 1, 1) := by decide +kernel
theorem dX12_overhang_2 : decode cX12_overhang 2 = .ok (.iload_n 2, 1) := by decide +kernel
theorem dX12_overhang_3 : decode cX12_overhang 3 = .ok (.invokevirtual 268, 3) := by decide +kernel
theorem dX12_overhang_6 : decode cX12_overhang 6 = .ok (.aload_n 0, 1) := by decide +kernel
theorem dX12_overhang_7 : decode cX12_overhang 7 = .ok (.getfield 12, 3) := by decide +kernel
theorem dX12_overhang_10 : decode cX12_overhang 10 = .ok (.iload_n 1, 1) := by decide +kernel
theorem dX12_overhang_11 : decode cX12_overhang 11 = .ok (.iload_n 2, 1) := by decide +kernel
theorem dX12_overhang_12 : decode cX12_overhang 12 = .ok (.invokestatic 344, 3) := by decide +kernel
theorem dX12_overhang_15 : decode cX12_overhang 15 = .ok (.ireturn, 1) := by decide +kernel
set_option maxRecDepth 20000 in
theorem ggX12_supportOf_X12_checkCell : GoodIn wsX12_supportOf wsX12_checkCell := goodIn_ca (goodIn_r _ [8, 9, 10, 3, 11, 12, 13, 14, 15, 16, 17, 36, 37, 38, 39, 40, 41, 42, 43, 44, 45, 46, 47, 48, 49, 50, 51, 52, 53, 54, 55, 56, 57, 58, 59, 60] (by decide +kernel) (by decide +kernel)) (goodIn_sub (fun _ h => List.mem_cons_of_mem _ (List.mem_append_right _ h)) (by decide +kernel))
set_option maxRecDepth 20000 in
theorem gX12_supportOf_X12_checkCell : GoodIn wsX12_supportOf (wsV RX12 268 RX12 yX12_checkCell wsX12_checkCell) := goodIn_app (goodIn_of _ (by decide +kernel)) ggX12_supportOf_X12_checkCell
set_option maxRecDepth 20000 in
theorem ggX12_supportOf_X5_heightAt : GoodIn wsX12_supportOf wsX5_heightAt := goodIn_r _ [21, 16, 17, 22, 51, 52, 53, 54, 55, 56, 57, 58, 59, 60] (by decide +kernel) (by decide +kernel)
set_option maxRecDepth 20000 in
theorem gX12_supportOf_X5_heightAt : GoodIn wsX12_supportOf (wsV RX12 275 RX5 yX5_heightAt wsX5_heightAt) := goodIn_app (goodIn_of _ (by decide +kernel)) ggX12_supportOf_X5_heightAt
set_option maxRecDepth 20000 in
theorem ggX12_supportOf_X9_lengthOf : GoodIn wsX12_supportOf wsX9_lengthOf := goodIn_r _ [26, 27, 19, 20, 14, 21, 16, 17, 22, 28, 29, 25, 30, 31, 32, 33, 34, 35, 51, 52, 53, 54, 55, 56, 57, 58, 59, 60] (by decide +kernel) (by decide +kernel)
set_option maxRecDepth 20000 in
theorem gX12_supportOf_X9_lengthOf : GoodIn wsX12_supportOf (va_wsS RX12 348 yX9_lengthOf wsX9_lengthOf) := goodIn_app (goodIn_of _ (by decide +kernel)) ggX12_supportOf_X9_lengthOf
theorem dX12_supportOf_0 : decode cX12_supportOf 0 = .ok (.aload_n 0, 1) := by decide +kernel
theorem dX12_supportOf_1 : decode cX12_supportOf 1 = .ok (.iload_n 1, 1) := by decide +kernel
theorem dX12_supportOf_2 : decode cX12_supportOf 2 = .ok (.iload_n 2, 1) := by decide +kernel
theorem dX12_supportOf_3 : decode cX12_supportOf 3 = .ok (.invokevirtual 268, 3) := by decide +kernel
theorem dX12_supportOf_6 : decode cX12_supportOf 6 = .ok (.iload_n 3, 1) := by decide +kernel
theorem dX12_supportOf_7 : decode cX12_supportOf 7 = .ok (.iconst 1, 1) := by decide +kernel
theorem dX12_supportOf_8 : decode cX12_supportOf 8 = .ok (.if_icmp .lt 16, 3) := by decide +kernel
theorem dX12_supportOf_11 : decode cX12_supportOf 11 = .ok (.iload_n 3, 1) := by decide +kernel
theorem dX12_supportOf_12 : decode cX12_supportOf 12 = .ok (.aload_n 0, 1) := by decide +kernel
theorem dX12_supportOf_13 : decode cX12_supportOf 13 = .ok (.getfield 12, 3) := by decide +kernel
theorem dX12_supportOf_16 : decode cX12_supportOf 16 = .ok (.iload_n 1, 1) := by decide +kernel
theorem dX12_supportOf_17 : decode cX12_supportOf 17 = .ok (.iload_n 2, 1) := by decide +kernel
theorem dX12_supportOf_18 : decode cX12_supportOf 18 = .ok (.invokevirtual 275, 3) := by decide +kernel
theorem dX12_supportOf_21 : decode cX12_supportOf 21 = .ok (.if_icmp .le 11, 3) := by decide +kernel
theorem dX12_supportOf_24 : decode cX12_supportOf 24 = .ok (.new 104, 3) := by decide +kernel
theorem dX12_supportOf_27 : decode cX12_supportOf 27 = .ok (.dup, 1) := by decide +kernel
theorem dX12_supportOf_28 : decode cX12_supportOf 28 = .ok (.invokespecial 106, 3) := by decide +kernel
theorem dX12_supportOf_31 : decode cX12_supportOf 31 = .ok (.athrow, 1) := by decide +kernel
theorem dX12_supportOf_32 : decode cX12_supportOf 32 = .ok (.aload_n 0, 1) := by decide +kernel
theorem dX12_supportOf_33 : decode cX12_supportOf 33 = .ok (.getfield 12, 3) := by decide +kernel
theorem dX12_supportOf_36 : decode cX12_supportOf 36 = .ok (.iload_n 1, 1) := by decide +kernel
theorem dX12_supportOf_37 : decode cX12_supportOf 37 = .ok (.iload_n 2, 1) := by decide +kernel
theorem dX12_supportOf_38 : decode cX12_supportOf 38 = .ok (.iload_n 3, 1) := by decide +kernel
theorem dX12_supportOf_39 : decode cX12_supportOf 39 = .ok (.invokestatic 348, 3) := by decide +kernel
theorem dX12_supportOf_42 : decode cX12_supportOf 42 = .ok (.ireturn, 1) := by decide +kernel
set_option maxRecDepth 20000 in
theorem ggX12_supportedCells_X9_countOfCells : GoodIn wsX12_supportedCells wsX9_countOfCells := goodIn_r _ [5, 6, 7, 8, 9, 4, 10, 11, 12, 13, 14, 15, 16, 17, 18, 19, 20, 21, 22, 23, 39, 40, 41, 42, 43, 44, 45, 46, 47, 48] (by decide +kernel) (by decide +kernel)
set_option maxRecDepth 20000 in
theorem gX12_supportedCells_X9_countOfCells : GoodIn wsX12_supportedCells (va_wsS RX12 351 yX9_countOfCells wsX9_countOfCells) := goodIn_app (goodIn_of _ (by decide +kernel)) ggX12_supportedCells_X9_countOfCells
theorem dX12_supportedCells_0 : decode cX12_supportedCells 0 = .ok (.aload_n 0, 1) := by decide +kernel
theorem dX12_supportedCells_1 : decode cX12_supportedCells 1 = .ok (.getfield 12, 3) := by decide +kernel
theorem dX12_supportedCells_4 : decode cX12_supportedCells 4 = .ok (.invokestatic 351, 3) := by decide +kernel
theorem dX12_supportedCells_7 : decode cX12_supportedCells 7 = .ok (.ireturn, 1) := by decide +kernel
set_option maxRecDepth 20000 in
theorem ggX12_supportVolume_X9_sumOfLengths : GoodIn wsX12_supportVolume wsX9_sumOfLengths := goodIn_r _ [5, 6, 7, 8, 9, 4, 10, 11, 12, 13, 14, 15, 16, 17, 18, 19, 20, 21, 22, 23, 24, 25, 26, 27, 28, 29, 45, 46, 47, 48, 49, 50, 51, 52, 53, 54] (by decide +kernel) (by decide +kernel)
set_option maxRecDepth 20000 in
theorem gX12_supportVolume_X9_sumOfLengths : GoodIn wsX12_supportVolume (va_wsS RX12 354 yX9_sumOfLengths wsX9_sumOfLengths) := goodIn_app (goodIn_of _ (by decide +kernel)) ggX12_supportVolume_X9_sumOfLengths
theorem dX12_supportVolume_0 : decode cX12_supportVolume 0 = .ok (.aload_n 0, 1) := by decide +kernel
theorem dX12_supportVolume_1 : decode cX12_supportVolume 1 = .ok (.getfield 12, 3) := by decide +kernel
theorem dX12_supportVolume_4 : decode cX12_supportVolume 4 = .ok (.invokestatic 354, 3) := by decide +kernel
theorem dX12_supportVolume_7 : decode cX12_supportVolume 7 = .ok (.ireturn, 1) := by decide +kernel
set_option maxRecDepth 20000 in
theorem ggX12_ease_X3_open : GoodIn wsX12_ease wsX3_open := goodIn_r _ [7, 8, 9, 10, 11, 12, 13, 14, 15, 16, 17, 18, 19, 20, 21, 22, 23, 24, 25, 26, 27, 28, 29, 30, 31, 32, 91, 92, 93, 94, 95, 96, 97, 98, 99, 100, 101, 102, 103] (by decide +kernel) (by decide +kernel)
set_option maxRecDepth 20000 in
theorem gX12_ease_X3_open : GoodIn wsX12_ease (wsV RX12 126 RX3 yX3_open wsX3_open) := goodIn_app (goodIn_of _ (by decide +kernel)) ggX12_ease_X3_open
set_option maxRecDepth 20000 in
theorem ggX12_ease_X9_settle : GoodIn wsX12_ease wsX9_settle := goodIn_r _ [36, 37, 38, 39, 40, 41, 13, 42, 15, 16, 32, 43, 44, 35, 45, 46, 47, 48, 49, 50, 51, 52, 53, 54, 55, 56, 57, 58, 94, 95, 96, 97, 98, 99, 100, 101, 102, 103] (by decide +kernel) (by decide +kernel)
set_option maxRecDepth 20000 in
theorem gX12_ease_X9_settle : GoodIn wsX12_ease (va_wsS RX12 190 yX9_settle wsX9_settle) := goodIn_app (goodIn_of _ (by decide +kernel)) ggX12_ease_X9_settle
set_option maxRecDepth 20000 in
theorem ggX12_ease_X3_close : GoodIn wsX12_ease wsX3_close := goodIn_r _ [62, 8, 9, 63, 64, 65, 49, 66, 67, 68, 69, 13, 70, 16, 15, 71, 40, 41, 42, 32, 72, 73, 74, 75, 22, 91, 92, 93, 94, 95, 96, 97, 98, 99, 100, 101, 102, 103] (by decide +kernel) (by decide +kernel)
set_option maxRecDepth 20000 in
theorem gX12_ease_X3_close : GoodIn wsX12_ease (wsV RX12 139 RX3 yX3_close wsX3_close) := goodIn_app (goodIn_of _ (by decide +kernel)) ggX12_ease_X3_close
theorem dX12_ease_0 : decode cX12_ease 0 = .ok (.aload_n 0, 1) := by decide +kernel
theorem dX12_ease_1 : decode cX12_ease 1 = .ok (.getfield 30, 3) := by decide +kernel
theorem dX12_ease_4 : decode cX12_ease 4 = .ok (.aload_n 0, 1) := by decide +kernel
theorem dX12_ease_5 : decode cX12_ease 5 = .ok (.getfield 12, 3) := by decide +kernel
theorem dX12_ease_8 : decode cX12_ease 8 = .ok (.invokevirtual 126, 3) := by decide +kernel
theorem dX12_ease_11 : decode cX12_ease 11 = .ok (.aload_n 0, 1) := by decide +kernel
theorem dX12_ease_12 : decode cX12_ease 12 = .ok (.getfield 12, 3) := by decide +kernel
theorem dX12_ease_15 : decode cX12_ease 15 = .ok (.invokestatic 190, 3) := by decide +kernel
theorem dX12_ease_18 : decode cX12_ease 18 = .ok (.istore_n 1, 1) := by decide +kernel
theorem dX12_ease_19 : decode cX12_ease 19 = .ok (.aload_n 0, 1) := by decide +kernel
theorem dX12_ease_20 : decode cX12_ease 20 = .ok (.getfield 30, 3) := by decide +kernel
theorem dX12_ease_23 : decode cX12_ease 23 = .ok (.aload_n 0, 1) := by decide +kernel
theorem dX12_ease_24 : decode cX12_ease 24 = .ok (.getfield 12, 3) := by decide +kernel
theorem dX12_ease_27 : decode cX12_ease 27 = .ok (.invokevirtual 139, 3) := by decide +kernel
theorem dX12_ease_30 : decode cX12_ease 30 = .ok (.iload_n 1, 1) := by decide +kernel
theorem dX12_ease_31 : decode cX12_ease 31 = .ok (.ireturn, 1) := by decide +kernel
set_option maxRecDepth 20000 in
theorem ggX12_safeSlope_X9_leastSlope : GoodIn wsX12_safeSlope wsX9_leastSlope := goodIn_r _ [5, 6, 7, 8, 9, 10, 11, 12, 13, 14, 15, 16, 17, 18, 19, 35, 36, 37, 38, 39, 40, 41, 42, 43, 44] (by decide +kernel) (by decide +kernel)
set_option maxRecDepth 20000 in
theorem gX12_safeSlope_X9_leastSlope : GoodIn wsX12_safeSlope (va_wsS RX12 357 yX9_leastSlope wsX9_leastSlope) := goodIn_app (goodIn_of _ (by decide +kernel)) ggX12_safeSlope_X9_leastSlope
theorem dX12_safeSlope_0 : decode cX12_safeSlope 0 = .ok (.aload_n 0, 1) := by decide +kernel
theorem dX12_safeSlope_1 : decode cX12_safeSlope 1 = .ok (.getfield 12, 3) := by decide +kernel
theorem dX12_safeSlope_4 : decode cX12_safeSlope 4 = .ok (.invokestatic 357, 3) := by decide +kernel
theorem dX12_safeSlope_7 : decode cX12_safeSlope 7 = .ok (.ireturn, 1) := by decide +kernel
set_option maxRecDepth 20000 in
theorem ggX12_layerCells_X12_checkLayer : GoodIn wsX12_layerCells wsX12_checkLayer := goodIn_ca (goodIn_r _ [6, 7, 8, 9, 10, 27, 28, 29, 30, 31, 32, 33, 34, 35, 36, 37, 38, 39, 40, 41, 42, 43, 44, 45, 46, 47, 48, 49, 50, 51] (by decide +kernel) (by decide +kernel)) (goodIn_sub (fun _ h => List.mem_cons_of_mem _ (List.mem_append_right _ h)) (by decide +kernel))
set_option maxRecDepth 20000 in
theorem gX12_layerCells_X12_checkLayer : GoodIn wsX12_layerCells (wsV RX12 360 RX12 yX12_checkLayer wsX12_checkLayer) := goodIn_app (goodIn_of _ (by decide +kernel)) ggX12_layerCells_X12_checkLayer
set_option maxRecDepth 20000 in
theorem ggX12_layerCells_X4_countOfCells : GoodIn wsX12_layerCells wsX4_countOfCells := goodIn_r _ [15, 16, 17, 18, 19, 20, 21, 22, 23, 24, 25, 26, 52, 53, 54, 55, 42, 43, 44, 45, 46, 47, 48, 49, 50, 51] (by decide +kernel) (by decide +kernel)
set_option maxRecDepth 20000 in
theorem gX12_layerCells_X4_countOfCells : GoodIn wsX12_layerCells (wsV RX12 363 RX4 yX4_countOfCells wsX4_countOfCells) := goodIn_app (goodIn_of _ (by decide +kernel)) ggX12_layerCells_X4_countOfCells
theorem dX12_layerCells_0 : decode cX12_layerCells 0 = .ok (.aload_n 0, 1) := by decide +kernel
theorem dX12_layerCells_1 : decode cX12_layerCells 1 = .ok (.iload_n 1, 1) := by decide +kernel
theorem dX12_layerCells_2 : decode cX12_layerCells 2 = .ok (.invokevirtual 360, 3) := by decide +kernel
theorem dX12_layerCells_5 : decode cX12_layerCells 5 = .ok (.aload_n 0, 1) := by decide +kernel
theorem dX12_layerCells_6 : decode cX12_layerCells 6 = .ok (.getfield 46, 3) := by decide +kernel
theorem dX12_layerCells_9 : decode cX12_layerCells 9 = .ok (.iload_n 1, 1) := by decide +kernel
theorem dX12_layerCells_10 : decode cX12_layerCells 10 = .ok (.invokevirtual 363, 3) := by decide +kernel
theorem dX12_layerCells_13 : decode cX12_layerCells 13 = .ok (.ireturn, 1) := by decide +kernel
set_option maxRecDepth 20000 in
theorem ggX12_runs_X12_checkLayer : GoodIn wsX12_runs wsX12_checkLayer := goodIn_ca (goodIn_r _ [6, 7, 8, 9, 10, 31, 32, 33, 34, 35, 36, 37, 38, 39, 40, 41, 42, 43, 44, 45, 46, 47, 48, 49, 50, 51, 52, 53, 54, 55] (by decide +kernel) (by decide +kernel)) (goodIn_sub (fun _ h => List.mem_cons_of_mem _ (List.mem_append_right _ h)) (by decide +kernel))
set_option maxRecDepth 20000 in
theorem gX12_runs_X12_checkLayer : GoodIn wsX12_runs (wsV RX12 360 RX12 yX12_checkLayer wsX12_checkLayer) := goodIn_app (goodIn_of _ (by decide +kernel)) ggX12_runs_X12_checkLayer
set_option maxRecDepth 20000 in
theorem ggX12_runs_X4_countOfRuns : GoodIn wsX12_runs wsX4_countOfRuns := goodIn_r _ [15, 16, 17, 18, 19, 20, 21, 14, 22, 23, 24, 25, 26, 27, 28, 29, 30, 56, 57, 58, 59, 46, 47, 48, 49, 50, 51, 52, 53, 54, 55] (by decide +kernel) (by decide +kernel)
set_option maxRecDepth 20000 in
theorem gX12_runs_X4_countOfRuns : GoodIn wsX12_runs (wsV RX12 365 RX4 yX4_countOfRuns wsX4_countOfRuns) := goodIn_app (goodIn_of _ (by decide +kernel)) ggX12_runs_X4_countOfRuns
theorem dX12_runs_0 : decode cX12_runs 0 = .ok (.aload_n 0, 1) := by decide +kernel
theorem dX12_runs_1 : decode cX12_runs 1 = .ok (.iload_n 1, 1) := by decide +kernel
theorem dX12_runs_2 : decode cX12_runs 2 = .ok (.invokevirtual 360, 3) := by decide +kernel
theorem dX12_runs_5 : decode cX12_runs 5 = .ok (.aload_n 0, 1) := by decide +kernel
theorem dX12_runs_6 : decode cX12_runs 6 = .ok (.getfield 46, 3) := by decide +kernel
theorem dX12_runs_9 : decode cX12_runs 9 = .ok (.iload_n 1, 1) := by decide +kernel
theorem dX12_runs_10 : decode cX12_runs 10 = .ok (.invokevirtual 365, 3) := by decide +kernel
theorem dX12_runs_13 : decode cX12_runs 13 = .ok (.ireturn, 1) := by decide +kernel
set_option maxRecDepth 20000 in
theorem ggX12_rectangles_X12_checkLayer : GoodIn wsX12_rectangles wsX12_checkLayer := goodIn_ca (goodIn_r _ [6, 7, 8, 9, 10, 47, 48, 49, 50, 51, 52, 53, 54, 55, 56, 57, 58, 59, 60, 61, 62, 63, 64, 65, 66, 67, 68, 69, 70, 71] (by decide +kernel) (by decide +kernel)) (goodIn_sub (fun _ h => List.mem_cons_of_mem _ (List.mem_append_right _ h)) (by decide +kernel))
set_option maxRecDepth 20000 in
theorem gX12_rectangles_X12_checkLayer : GoodIn wsX12_rectangles (wsV RX12 360 RX12 yX12_checkLayer wsX12_checkLayer) := goodIn_app (goodIn_of _ (by decide +kernel)) ggX12_rectangles_X12_checkLayer
set_option maxRecDepth 20000 in
theorem ggX12_rectangles_X4_countOfBlocks : GoodIn wsX12_rectangles wsX4_countOfBlocks := goodIn_r _ [15, 16, 17, 18, 19, 20, 21, 14, 22, 23, 24, 25, 26, 27, 28, 29, 30, 31, 32, 33, 34, 35, 36, 37, 38, 39, 40, 41, 42, 43, 44, 45, 46, 72, 73, 74, 75, 62, 63, 64, 65, 66, 67, 68, 69, 70, 71] (by decide +kernel) (by decide +kernel)
set_option maxRecDepth 20000 in
theorem gX12_rectangles_X4_countOfBlocks : GoodIn wsX12_rectangles (wsV RX12 368 RX4 yX4_countOfBlocks wsX4_countOfBlocks) := goodIn_app (goodIn_of _ (by decide +kernel)) ggX12_rectangles_X4_countOfBlocks
theorem dX12_rectangles_0 : decode cX12_rectangles 0 = .ok (.aload_n 0, 1) := by decide +kernel
theorem dX12_rectangles_1 : decode cX12_rectangles 1 = .ok (.iload_n 1, 1) := by decide +kernel
theorem dX12_rectangles_2 : decode cX12_rectangles 2 = .ok (.invokevirtual 360, 3) := by decide +kernel
theorem dX12_rectangles_5 : decode cX12_rectangles 5 = .ok (.aload_n 0, 1) := by decide +kernel
theorem dX12_rectangles_6 : decode cX12_rectangles 6 = .ok (.getfield 46, 3) := by decide +kernel
theorem dX12_rectangles_9 : decode cX12_rectangles 9 = .ok (.iload_n 1, 1) := by decide +kernel
theorem dX12_rectangles_10 : decode cX12_rectangles 10 = .ok (.invokevirtual 368, 3) := by decide +kernel
theorem dX12_rectangles_13 : decode cX12_rectangles 13 = .ok (.ireturn, 1) := by decide +kernel
set_option maxRecDepth 20000 in
theorem ggX12_rectangle_X12_checkLayer : GoodIn wsX12_rectangle wsX12_checkLayer := goodIn_ca (goodIn_r _ [10, 1, 2, 11, 12, 53, 54, 55, 56, 57, 58, 59, 60, 61, 62, 63, 64, 65, 66, 67, 68, 69, 70, 71, 72, 73, 74, 75, 76, 77] (by decide +kernel) (by decide +kernel)) (goodIn_sub (fun _ h => List.mem_cons_of_mem _ (List.mem_append_left _ (List.mem_append_right _ h))) (by decide +kernel))
set_option maxRecDepth 20000 in
theorem gX12_rectangle_X12_checkLayer : GoodIn wsX12_rectangle (wsV RX12 360 RX12 yX12_checkLayer wsX12_checkLayer) := goodIn_app (goodIn_of _ (by decide +kernel)) ggX12_rectangle_X12_checkLayer
set_option maxRecDepth 20000 in
theorem ggX12_rectangle_X4_cornerOf : GoodIn wsX12_rectangle wsX4_cornerOf := goodIn_r _ [17, 18, 19, 20, 21, 22, 23, 16, 24, 25, 26, 27, 28, 29, 30, 31, 32, 33, 34, 35, 36, 37, 38, 39, 40, 41, 42, 43, 44, 78, 79, 80, 81, 68, 69, 70, 71, 72, 73, 74, 75, 76, 77] (by decide +kernel) (by decide +kernel)
set_option maxRecDepth 20000 in
theorem gX12_rectangle_X4_cornerOf : GoodIn wsX12_rectangle (wsV RX12 371 RX4 yX4_cornerOf wsX4_cornerOf) := goodIn_app (goodIn_of _ (by decide +kernel)) ggX12_rectangle_X4_cornerOf
set_option maxRecDepth 20000 in
theorem ggX12_rectangle_X4_sizeOf : GoodIn wsX12_rectangle wsX4_sizeOf := goodIn_r _ [48, 37, 38, 39, 16, 40, 18, 29, 30, 31, 32, 33, 34, 35, 36, 49, 50, 51, 52, 19, 41, 42, 43, 44, 25, 26, 27, 28, 78, 79, 80, 81, 68, 69, 70, 71, 72, 73, 74, 75, 76, 77] (by decide +kernel) (by decide +kernel)
set_option maxRecDepth 20000 in
theorem gX12_rectangle_X4_sizeOf : GoodIn wsX12_rectangle (wsV RX12 374 RX4 yX4_sizeOf wsX4_sizeOf) := goodIn_app (goodIn_of _ (by decide +kernel)) ggX12_rectangle_X4_sizeOf
theorem dX12_rectangle_0 : decode cX12_rectangle 0 = .ok (.aload_n 0, 1) := by decide +kernel
theorem dX12_rectangle_1 : decode cX12_rectangle 1 = .ok (.iload_n 1, 1) := by decide +kernel
theorem dX12_rectangle_2 : decode cX12_rectangle 2 = .ok (.invokevirtual 360, 3) := by decide +kernel
theorem dX12_rectangle_5 : decode cX12_rectangle 5 = .ok (.iload_n 3, 1) := by decide +kernel
theorem dX12_rectangle_6 : decode cX12_rectangle 6 = .ok (.ifCond .lt 8, 3) := by decide +kernel
theorem dX12_rectangle_9 : decode cX12_rectangle 9 = .ok (.iload_n 3, 1) := by decide +kernel
theorem dX12_rectangle_10 : decode cX12_rectangle 10 = .ok (.iconst 3, 1) := by decide +kernel
theorem dX12_rectangle_11 : decode cX12_rectangle 11 = .ok (.if_icmp .le 11, 3) := by decide +kernel
theorem dX12_rectangle_14 : decode cX12_rectangle 14 = .ok (.new 104, 3) := by decide +kernel
theorem dX12_rectangle_17 : decode cX12_rectangle 17 = .ok (.dup, 1) := by decide +kernel
theorem dX12_rectangle_18 : decode cX12_rectangle 18 = .ok (.invokespecial 106, 3) := by decide +kernel
theorem dX12_rectangle_21 : decode cX12_rectangle 21 = .ok (.athrow, 1) := by decide +kernel
theorem dX12_rectangle_22 : decode cX12_rectangle 22 = .ok (.aload_n 0, 1) := by decide +kernel
theorem dX12_rectangle_23 : decode cX12_rectangle 23 = .ok (.getfield 46, 3) := by decide +kernel
theorem dX12_rectangle_26 : decode cX12_rectangle 26 = .ok (.iload_n 1, 1) := by decide +kernel
theorem dX12_rectangle_27 : decode cX12_rectangle 27 = .ok (.iload_n 2, 1) := by decide +kernel
theorem dX12_rectangle_28 : decode cX12_rectangle 28 = .ok (.invokevirtual 371, 3) := by decide +kernel
theorem dX12_rectangle_31 : decode cX12_rectangle 31 = .ok (.istore 4, 2) := by decide +kernel
theorem dX12_rectangle_33 : decode cX12_rectangle 33 = .ok (.iload 4, 2) := by decide +kernel
theorem dX12_rectangle_35 : decode cX12_rectangle 35 = .ok (.iconst (-1), 1) := by decide +kernel
theorem dX12_rectangle_36 : decode cX12_rectangle 36 = .ok (.if_icmp .ne 11, 3) := by decide +kernel
theorem dX12_rectangle_39 : decode cX12_rectangle 39 = .ok (.new 290, 3) := by decide +kernel
theorem dX12_rectangle_42 : decode cX12_rectangle 42 = .ok (.dup, 1) := by decide +kernel
theorem dX12_rectangle_43 : decode cX12_rectangle 43 = .ok (.invokespecial 292, 3) := by decide +kernel
theorem dX12_rectangle_46 : decode cX12_rectangle 46 = .ok (.athrow, 1) := by decide +kernel
theorem dX12_rectangle_47 : decode cX12_rectangle 47 = .ok (.aload_n 0, 1) := by decide +kernel
theorem dX12_rectangle_48 : decode cX12_rectangle 48 = .ok (.getfield 46, 3) := by decide +kernel
theorem dX12_rectangle_51 : decode cX12_rectangle 51 = .ok (.iload_n 1, 1) := by decide +kernel
theorem dX12_rectangle_52 : decode cX12_rectangle 52 = .ok (.iload 4, 2) := by decide +kernel
theorem dX12_rectangle_54 : decode cX12_rectangle 54 = .ok (.iload_n 3, 1) := by decide +kernel
theorem dX12_rectangle_55 : decode cX12_rectangle 55 = .ok (.invokevirtual 374, 3) := by decide +kernel
theorem dX12_rectangle_58 : decode cX12_rectangle 58 = .ok (.ireturn, 1) := by decide +kernel
set_option maxRecDepth 20000 in
theorem ggX12_rectangleAt_X12_checkCell : GoodIn wsX12_rectangleAt wsX12_checkCell := goodIn_ca (goodIn_r _ [6, 7, 8, 9, 10, 11, 12, 13, 14, 15, 16, 56, 57, 58, 59, 60, 61, 62, 63, 64, 65, 66, 67, 68, 69, 70, 71, 72, 73, 74, 75, 76, 77, 78, 79, 80] (by decide +kernel) (by decide +kernel)) (goodIn_sub (fun _ h => List.mem_cons_of_mem _ (List.mem_append_left _ (List.mem_append_right _ h))) (by decide +kernel))
set_option maxRecDepth 20000 in
theorem gX12_rectangleAt_X12_checkCell : GoodIn wsX12_rectangleAt (wsV RX12 268 RX12 yX12_checkCell wsX12_checkCell) := goodIn_app (goodIn_of _ (by decide +kernel)) ggX12_rectangleAt_X12_checkCell
set_option maxRecDepth 20000 in
theorem ggX12_rectangleAt_X12_checkLayer : GoodIn wsX12_rectangleAt wsX12_checkLayer := goodIn_ca (goodIn_r _ [20, 21, 22, 9, 23, 56, 57, 58, 59, 60, 61, 62, 63, 64, 65, 66, 67, 68, 69, 70, 71, 72, 73, 74, 75, 76, 77, 78, 79, 80] (by decide +kernel) (by decide +kernel)) (goodIn_sub (fun _ h => List.mem_cons_of_mem _ (List.mem_append_right _ h)) (by decide +kernel))
set_option maxRecDepth 20000 in
theorem gX12_rectangleAt_X12_checkLayer : GoodIn wsX12_rectangleAt (wsV RX12 360 RX12 yX12_checkLayer wsX12_checkLayer) := goodIn_app (goodIn_of _ (by decide +kernel)) ggX12_rectangleAt_X12_checkLayer
set_option maxRecDepth 20000 in
theorem ggX12_rectangleAt_X4_blockAt : GoodIn wsX12_rectangleAt wsX4_blockAt := goodIn_r _ [28, 29, 30, 31, 32, 13, 33, 15, 16, 34, 35, 36, 37, 27, 38, 39, 40, 41, 42, 43, 44, 45, 46, 47, 48, 49, 50, 51, 52, 53, 54, 55, 81, 82, 83, 84, 71, 72, 73, 74, 75, 76, 77, 78, 79, 80] (by decide +kernel) (by decide +kernel)
set_option maxRecDepth 20000 in
theorem gX12_rectangleAt_X4_blockAt : GoodIn wsX12_rectangleAt (wsV RX12 378 RX4 yX4_blockAt wsX4_blockAt) := goodIn_app (goodIn_of _ (by decide +kernel)) ggX12_rectangleAt_X4_blockAt
theorem dX12_rectangleAt_0 : decode cX12_rectangleAt 0 = .ok (.aload_n 0, 1) := by decide +kernel
theorem dX12_rectangleAt_1 : decode cX12_rectangleAt 1 = .ok (.iload_n 2, 1) := by decide +kernel
theorem dX12_rectangleAt_2 : decode cX12_rectangleAt 2 = .ok (.iload_n 3, 1) := by decide +kernel
theorem dX12_rectangleAt_3 : decode cX12_rectangleAt 3 = .ok (.invokevirtual 268, 3) := by decide +kernel
theorem dX12_rectangleAt_6 : decode cX12_rectangleAt 6 = .ok (.aload_n 0, 1) := by decide +kernel
theorem dX12_rectangleAt_7 : decode cX12_rectangleAt 7 = .ok (.iload_n 1, 1) := by decide +kernel
theorem dX12_rectangleAt_8 : decode cX12_rectangleAt 8 = .ok (.invokevirtual 360, 3) := by decide +kernel
theorem dX12_rectangleAt_11 : decode cX12_rectangleAt 11 = .ok (.aload_n 0, 1) := by decide +kernel
theorem dX12_rectangleAt_12 : decode cX12_rectangleAt 12 = .ok (.getfield 46, 3) := by decide +kernel
theorem dX12_rectangleAt_15 : decode cX12_rectangleAt 15 = .ok (.iload_n 1, 1) := by decide +kernel
theorem dX12_rectangleAt_16 : decode cX12_rectangleAt 16 = .ok (.iload_n 2, 1) := by decide +kernel
theorem dX12_rectangleAt_17 : decode cX12_rectangleAt 17 = .ok (.iload_n 3, 1) := by decide +kernel
theorem dX12_rectangleAt_18 : decode cX12_rectangleAt 18 = .ok (.invokevirtual 378, 3) := by decide +kernel
theorem dX12_rectangleAt_21 : decode cX12_rectangleAt 21 = .ok (.ireturn, 1) := by decide +kernel
set_option maxRecDepth 20000 in
theorem ggX12_largest_X12_checkLayer : GoodIn wsX12_largest wsX12_checkLayer := goodIn_ca (goodIn_r _ [6, 7, 8, 9, 10, 47, 48, 49, 50, 51, 52, 53, 54, 55, 56, 57, 58, 59, 60, 61, 62, 63, 64, 65, 66, 67, 68, 69, 70, 71] (by decide +kernel) (by decide +kernel)) (goodIn_sub (fun _ h => List.mem_cons_of_mem _ (List.mem_append_right _ h)) (by decide +kernel))
set_option maxRecDepth 20000 in
theorem gX12_largest_X12_checkLayer : GoodIn wsX12_largest (wsV RX12 360 RX12 yX12_checkLayer wsX12_checkLayer) := goodIn_app (goodIn_of _ (by decide +kernel)) ggX12_largest_X12_checkLayer
set_option maxRecDepth 20000 in
theorem ggX12_largest_X4_largestBlock : GoodIn wsX12_largest wsX4_largestBlock := goodIn_r _ [15, 16, 17, 18, 19, 20, 21, 14, 22, 23, 24, 25, 26, 27, 28, 29, 30, 31, 32, 33, 34, 35, 36, 37, 38, 39, 40, 41, 42, 43, 44, 45, 46, 72, 73, 74, 75, 62, 63, 64, 65, 66, 67, 68, 69, 70, 71] (by decide +kernel) (by decide +kernel)
set_option maxRecDepth 20000 in
theorem gX12_largest_X4_largestBlock : GoodIn wsX12_largest (wsV RX12 381 RX4 yX4_largestBlock wsX4_largestBlock) := goodIn_app (goodIn_of _ (by decide +kernel)) ggX12_largest_X4_largestBlock
theorem dX12_largest_0 : decode cX12_largest 0 = .ok (.aload_n 0, 1) := by decide +kernel
theorem dX12_largest_1 : decode cX12_largest 1 = .ok (.iload_n 1, 1) := by decide +kernel
theorem dX12_largest_2 : decode cX12_largest 2 = .ok (.invokevirtual 360, 3) := by decide +kernel
theorem dX12_largest_5 : decode cX12_largest 5 = .ok (.aload_n 0, 1) := by decide +kernel
theorem dX12_largest_6 : decode cX12_largest 6 = .ok (.getfield 46, 3) := by decide +kernel
theorem dX12_largest_9 : decode cX12_largest 9 = .ok (.iload_n 1, 1) := by decide +kernel
theorem dX12_largest_10 : decode cX12_largest 10 = .ok (.invokevirtual 381, 3) := by decide +kernel
theorem dX12_largest_13 : decode cX12_largest 13 = .ok (.ireturn, 1) := by decide +kernel
set_option maxRecDepth 20000 in
theorem ggX12_shortest_X12_checkLayer : GoodIn wsX12_shortest wsX12_checkLayer := goodIn_ca (goodIn_r _ [6, 7, 8, 9, 10, 39, 40, 41, 42, 43, 44, 45, 46, 47, 48, 49, 50, 51, 52, 53, 54, 55, 56, 57, 58, 59, 60, 61, 62, 63] (by decide +kernel) (by decide +kernel)) (goodIn_sub (fun _ h => List.mem_cons_of_mem _ (List.mem_append_right _ h)) (by decide +kernel))
set_option maxRecDepth 20000 in
theorem gX12_shortest_X12_checkLayer : GoodIn wsX12_shortest (wsV RX12 360 RX12 yX12_checkLayer wsX12_checkLayer) := goodIn_app (goodIn_of _ (by decide +kernel)) ggX12_shortest_X12_checkLayer
set_option maxRecDepth 20000 in
theorem ggX12_shortest_X4_shortestRun : GoodIn wsX12_shortest wsX4_shortestRun := goodIn_r _ [15, 16, 17, 18, 19, 20, 21, 22, 23, 24, 25, 14, 26, 27, 28, 29, 30, 31, 32, 33, 34, 35, 36, 37, 38, 64, 65, 66, 67, 54, 55, 56, 57, 58, 59, 60, 61, 62, 63] (by decide +kernel) (by decide +kernel)
set_option maxRecDepth 20000 in
theorem gX12_shortest_X4_shortestRun : GoodIn wsX12_shortest (wsV RX12 384 RX4 yX4_shortestRun wsX4_shortestRun) := goodIn_app (goodIn_of _ (by decide +kernel)) ggX12_shortest_X4_shortestRun
theorem dX12_shortest_0 : decode cX12_shortest 0 = .ok (.aload_n 0, 1) := by decide +kernel
theorem dX12_shortest_1 : decode cX12_shortest 1 = .ok (.iload_n 1, 1) := by decide +kernel
theorem dX12_shortest_2 : decode cX12_shortest 2 = .ok (.invokevirtual 360, 3) := by decide +kernel
theorem dX12_shortest_5 : decode cX12_shortest 5 = .ok (.aload_n 0, 1) := by decide +kernel
theorem dX12_shortest_6 : decode cX12_shortest 6 = .ok (.getfield 46, 3) := by decide +kernel
theorem dX12_shortest_9 : decode cX12_shortest 9 = .ok (.iload_n 1, 1) := by decide +kernel
theorem dX12_shortest_10 : decode cX12_shortest 10 = .ok (.invokevirtual 384, 3) := by decide +kernel
theorem dX12_shortest_13 : decode cX12_shortest 13 = .ok (.ireturn, 1) := by decide +kernel
set_option maxRecDepth 20000 in
theorem ggX12_parts_X12_checkLayer : GoodIn wsX12_parts wsX12_checkLayer := goodIn_ca (goodIn_r _ [6, 7, 8, 9, 10, 54, 55, 56, 57, 58, 59, 60, 61, 62, 63, 64, 65, 66, 67, 68, 69, 70, 71, 72, 73, 74, 75, 76, 77, 78] (by decide +kernel) (by decide +kernel)) (goodIn_sub (fun _ h => List.mem_cons_of_mem _ (List.mem_append_right _ h)) (by decide +kernel))
set_option maxRecDepth 20000 in
theorem gX12_parts_X12_checkLayer : GoodIn wsX12_parts (wsV RX12 360 RX12 yX12_checkLayer wsX12_checkLayer) := goodIn_app (goodIn_of _ (by decide +kernel)) ggX12_parts_X12_checkLayer
set_option maxRecDepth 20000 in
theorem ggX12_parts_X4_countOfParts : GoodIn wsX12_parts wsX4_countOfParts := goodIn_r _ [15, 16, 17, 18, 14, 19, 20, 21, 22, 23, 24, 25, 26, 27, 28, 29, 30, 31, 32, 33, 34, 35, 36, 37, 38, 39, 40, 41, 42, 43, 44, 45, 46, 47, 48, 49, 50, 51, 52, 53, 79, 80, 81, 82, 69, 70, 71, 72, 73, 74, 75, 76, 77, 78] (by decide +kernel) (by decide +kernel)
set_option maxRecDepth 20000 in
theorem gX12_parts_X4_countOfParts : GoodIn wsX12_parts (wsV RX12 387 RX4 yX4_countOfParts wsX4_countOfParts) := goodIn_app (goodIn_of _ (by decide +kernel)) ggX12_parts_X4_countOfParts
theorem dX12_parts_0 : decode cX12_parts 0 = .ok (.aload_n 0, 1) := by decide +kernel
theorem dX12_parts_1 : decode cX12_parts 1 = .ok (.iload_n 1, 1) := by decide +kernel
theorem dX12_parts_2 : decode cX12_parts 2 = .ok (.invokevirtual 360, 3) := by decide +kernel
theorem dX12_parts_5 : decode cX12_parts 5 = .ok (.aload_n 0, 1) := by decide +kernel
theorem dX12_parts_6 : decode cX12_parts 6 = .ok (.getfield 46, 3) := by decide +kernel
theorem dX12_parts_9 : decode cX12_parts 9 = .ok (.iload_n 1, 1) := by decide +kernel
theorem dX12_parts_10 : decode cX12_parts 10 = .ok (.invokevirtual 387, 3) := by decide +kernel
theorem dX12_parts_13 : decode cX12_parts 13 = .ok (.ireturn, 1) := by decide +kernel
set_option maxRecDepth 20000 in
theorem ggX12_outline_X12_checkLayer : GoodIn wsX12_outline wsX12_checkLayer := goodIn_ca (goodIn_r _ [6, 7, 8, 9, 10, 31, 32, 33, 34, 35, 36, 37, 38, 39, 40, 41, 42, 43, 44, 45, 46, 47, 48, 49, 50, 51, 52, 53, 54, 55] (by decide +kernel) (by decide +kernel)) (goodIn_sub (fun _ h => List.mem_cons_of_mem _ (List.mem_append_right _ h)) (by decide +kernel))
set_option maxRecDepth 20000 in
theorem gX12_outline_X12_checkLayer : GoodIn wsX12_outline (wsV RX12 360 RX12 yX12_checkLayer wsX12_checkLayer) := goodIn_app (goodIn_of _ (by decide +kernel)) ggX12_outline_X12_checkLayer
set_option maxRecDepth 20000 in
theorem ggX12_outline_X4_countOfSides : GoodIn wsX12_outline wsX4_countOfSides := goodIn_r _ [15, 16, 17, 18, 19, 20, 21, 22, 23, 24, 25, 26, 27, 28, 29, 14, 30, 56, 57, 58, 59, 46, 47, 48, 49, 50, 51, 52, 53, 54, 55] (by decide +kernel) (by decide +kernel)
set_option maxRecDepth 20000 in
theorem gX12_outline_X4_countOfSides : GoodIn wsX12_outline (wsV RX12 390 RX4 yX4_countOfSides wsX4_countOfSides) := goodIn_app (goodIn_of _ (by decide +kernel)) ggX12_outline_X4_countOfSides
theorem dX12_outline_0 : decode cX12_outline 0 = .ok (.aload_n 0, 1) := by decide +kernel
theorem dX12_outline_1 : decode cX12_outline 1 = .ok (.iload_n 1, 1) := by decide +kernel
theorem dX12_outline_2 : decode cX12_outline 2 = .ok (.invokevirtual 360, 3) := by decide +kernel
theorem dX12_outline_5 : decode cX12_outline 5 = .ok (.aload_n 0, 1) := by decide +kernel
theorem dX12_outline_6 : decode cX12_outline 6 = .ok (.getfield 46, 3) := by decide +kernel
theorem dX12_outline_9 : decode cX12_outline 9 = .ok (.iload_n 1, 1) := by decide +kernel
theorem dX12_outline_10 : decode cX12_outline 10 = .ok (.invokevirtual 390, 3) := by decide +kernel
theorem dX12_outline_13 : decode cX12_outline 13 = .ok (.ireturn, 1) := by decide +kernel
set_option maxRecDepth 20000 in
theorem ggX12_hollows_X12_checkLayer : GoodIn wsX12_hollows wsX12_checkLayer := goodIn_ca (goodIn_r _ [6, 7, 8, 9, 10, 54, 55, 56, 57, 58, 59, 60, 61, 62, 63, 64, 65, 66, 67, 68, 69, 70, 71, 72, 73, 74, 75, 76, 77, 78] (by decide +kernel) (by decide +kernel)) (goodIn_sub (fun _ h => List.mem_cons_of_mem _ (List.mem_append_right _ h)) (by decide +kernel))
set_option maxRecDepth 20000 in
theorem gX12_hollows_X12_checkLayer : GoodIn wsX12_hollows (wsV RX12 360 RX12 yX12_checkLayer wsX12_checkLayer) := goodIn_app (goodIn_of _ (by decide +kernel)) ggX12_hollows_X12_checkLayer
set_option maxRecDepth 20000 in
theorem ggX12_hollows_X4_countOfHollows : GoodIn wsX12_hollows wsX4_countOfHollows := goodIn_r _ [15, 16, 17, 18, 14, 19, 20, 21, 22, 23, 24, 25, 26, 27, 28, 29, 30, 31, 32, 33, 34, 35, 36, 37, 38, 39, 40, 41, 42, 43, 44, 45, 46, 47, 48, 49, 50, 51, 52, 53, 79, 80, 81, 82, 69, 70, 71, 72, 73, 74, 75, 76, 77, 78] (by decide +kernel) (by decide +kernel)
set_option maxRecDepth 20000 in
theorem gX12_hollows_X4_countOfHollows : GoodIn wsX12_hollows (wsV RX12 393 RX4 yX4_countOfHollows wsX4_countOfHollows) := goodIn_app (goodIn_of _ (by decide +kernel)) ggX12_hollows_X4_countOfHollows
theorem dX12_hollows_0 : decode cX12_hollows 0 = .ok (.aload_n 0, 1) := by decide +kernel
theorem dX12_hollows_1 : decode cX12_hollows 1 = .ok (.iload_n 1, 1) := by decide +kernel
theorem dX12_hollows_2 : decode cX12_hollows 2 = .ok (.invokevirtual 360, 3) := by decide +kernel
theorem dX12_hollows_5 : decode cX12_hollows 5 = .ok (.aload_n 0, 1) := by decide +kernel
theorem dX12_hollows_6 : decode cX12_hollows 6 = .ok (.getfield 46, 3) := by decide +kernel
theorem dX12_hollows_9 : decode cX12_hollows 9 = .ok (.iload_n 1, 1) := by decide +kernel
theorem dX12_hollows_10 : decode cX12_hollows 10 = .ok (.invokevirtual 393, 3) := by decide +kernel
theorem dX12_hollows_13 : decode cX12_hollows 13 = .ok (.ireturn, 1) := by decide +kernel
set_option maxRecDepth 20000 in
theorem ggX12_allRectangles_X4_countOfBlocks : GoodIn wsX12_allRectangles wsX4_countOfBlocks := goodIn_r _ [8, 9, 10, 11, 12, 13, 14, 7, 15, 16, 17, 18, 19, 20, 21, 22, 23, 24, 25, 26, 27, 28, 29, 30, 31, 32, 33, 34, 35, 36, 37, 38, 39, 65, 66, 67, 68, 55, 56, 57, 58, 59, 60, 61, 62, 63, 64] (by decide +kernel) (by decide +kernel)
set_option maxRecDepth 20000 in
theorem gX12_allRectangles_X4_countOfBlocks : GoodIn wsX12_allRectangles (wsV RX12 368 RX4 yX4_countOfBlocks wsX4_countOfBlocks) := goodIn_app (goodIn_of _ (by decide +kernel)) ggX12_allRectangles_X4_countOfBlocks
theorem dX12_allRectangles_0 : decode cX12_allRectangles 0 = .ok (.iconst 0, 1) := by decide +kernel
theorem dX12_allRectangles_1 : decode cX12_allRectangles 1 = .ok (.istore_n 1, 1) := by decide +kernel
theorem dX12_allRectangles_2 : decode cX12_allRectangles 2 = .ok (.iconst 1, 1) := by decide +kernel
theorem dX12_allRectangles_3 : decode cX12_allRectangles 3 = .ok (.istore_n 2, 1) := by decide +kernel
theorem dX12_allRectangles_4 : decode cX12_allRectangles 4 = .ok (.iload_n 2, 1) := by decide +kernel
theorem dX12_allRectangles_5 : decode cX12_allRectangles 5 = .ok (.aload_n 0, 1) := by decide +kernel
theorem dX12_allRectangles_6 : decode cX12_allRectangles 6 = .ok (.getfield 12, 3) := by decide +kernel
theorem dX12_allRectangles_9 : decode cX12_allRectangles 9 = .ok (.getfield 253, 3) := by decide +kernel
theorem dX12_allRectangles_12 : decode cX12_allRectangles 12 = .ok (.if_icmp .gt 20, 3) := by decide +kernel
theorem dX12_allRectangles_15 : decode cX12_allRectangles 15 = .ok (.iload_n 1, 1) := by decide +kernel
theorem dX12_allRectangles_16 : decode cX12_allRectangles 16 = .ok (.aload_n 0, 1) := by decide +kernel
theorem dX12_allRectangles_17 : decode cX12_allRectangles 17 = .ok (.getfield 46, 3) := by decide +kernel
theorem dX12_allRectangles_20 : decode cX12_allRectangles 20 = .ok (.iload_n 2, 1) := by decide +kernel
theorem dX12_allRectangles_21 : decode cX12_allRectangles 21 = .ok (.invokevirtual 368, 3) := by decide +kernel
theorem dX12_allRectangles_24 : decode cX12_allRectangles 24 = .ok (.iadd, 1) := by decide +kernel
theorem dX12_allRectangles_25 : decode cX12_allRectangles 25 = .ok (.istore_n 1, 1) := by decide +kernel
theorem dX12_allRectangles_26 : decode cX12_allRectangles 26 = .ok (.iinc 2 1, 3) := by decide +kernel
theorem dX12_allRectangles_29 : decode cX12_allRectangles 29 = .ok (.goto (-25), 3) := by decide +kernel
theorem dX12_allRectangles_32 : decode cX12_allRectangles 32 = .ok (.iload_n 1, 1) := by decide +kernel
theorem dX12_allRectangles_33 : decode cX12_allRectangles 33 = .ok (.ireturn, 1) := by decide +kernel
set_option maxRecDepth 20000 in
theorem ggX12_setTone_X12_checkCell : GoodIn wsX12_setTone wsX12_checkCell := goodIn_ca (goodIn_r _ [7, 8, 9, 2, 10, 11, 12, 13, 14, 15, 16, 103, 104, 105, 106, 107, 108, 109, 110, 111, 112, 113, 114, 115, 116, 117, 118, 119, 120, 121, 122, 123, 124, 125, 126, 127] (by decide +kernel) (by decide +kernel)) (goodIn_sub (fun _ h => List.mem_cons_of_mem _ (List.mem_append_left _ (List.mem_append_right _ h))) (by decide +kernel))
set_option maxRecDepth 20000 in
theorem gX12_setTone_X12_checkCell : GoodIn wsX12_setTone (wsV RX12 268 RX12 yX12_checkCell wsX12_checkCell) := goodIn_app (goodIn_of _ (by decide +kernel)) ggX12_setTone_X12_checkCell
set_option maxRecDepth 20000 in
theorem ggX12_setTone_X12_checkTone : GoodIn wsX12_setTone wsX12_checkTone := goodIn_ca (goodIn_r _ [20, 21, 22, 23, 24, 13, 25] (by decide +kernel) (by decide +kernel)) (goodIn_sub (fun _ h => List.mem_cons_of_mem _ (List.mem_append_right _ h)) (by decide +kernel))
set_option maxRecDepth 20000 in
theorem gX12_setTone_X12_checkTone : GoodIn wsX12_setTone (wsV RX12 297 RX12 yX12_checkTone wsX12_checkTone) := goodIn_app (goodIn_of _ (by decide +kernel)) ggX12_setTone_X12_checkTone
set_option maxRecDepth 20000 in
theorem ggX12_setTone_X3_open : GoodIn wsX12_setTone wsX3_open := goodIn_r _ [30, 31, 32, 33, 34, 35, 13, 36, 15, 16, 37, 38, 39, 40, 41, 42, 43, 44, 45, 46, 47, 48, 49, 50, 51, 52, 128, 129, 130, 118, 119, 120, 121, 122, 123, 124, 125, 126, 127] (by decide +kernel) (by decide +kernel)
set_option maxRecDepth 20000 in
theorem gX12_setTone_X3_open : GoodIn wsX12_setTone (wsV RX12 126 RX3 yX3_open wsX3_open) := goodIn_app (goodIn_of _ (by decide +kernel)) ggX12_setTone_X3_open
set_option maxRecDepth 20000 in
theorem ggX12_setTone_X5_paint : GoodIn wsX12_setTone wsX5_paint := goodIn_r _ [56, 57, 58, 59, 13, 60, 42, 61, 11, 12, 14, 15, 16, 62, 63, 64, 65, 66, 67, 68, 69, 39, 37, 70, 71, 72, 73, 47, 74, 75, 76, 77, 78, 79, 80, 52, 118, 119, 120, 121, 122, 123, 124, 125, 126, 127] (by decide +kernel) (by decide +kernel)
set_option maxRecDepth 20000 in
theorem gX12_setTone_X5_paint : GoodIn wsX12_setTone (wsV RX12 216 RX5 yX5_paint wsX5_paint) := goodIn_app (goodIn_of _ (by decide +kernel)) ggX12_setTone_X5_paint
set_option maxRecDepth 20000 in
theorem ggX12_setTone_X3_close : GoodIn wsX12_setTone wsX3_close := goodIn_r _ [84, 31, 32, 85, 86, 87, 88, 89, 90, 91, 92, 13, 93, 16, 15, 94, 95, 96, 97, 52, 98, 99, 100, 101, 42, 128, 129, 130, 118, 119, 120, 121, 122, 123, 124, 125, 126, 127] (by decide +kernel) (by decide +kernel)
set_option maxRecDepth 20000 in
theorem gX12_setTone_X3_close : GoodIn wsX12_setTone (wsV RX12 139 RX3 yX3_close wsX3_close) := goodIn_app (goodIn_of _ (by decide +kernel)) ggX12_setTone_X3_close
set_option maxRecDepth 20000 in
theorem ggX12_setTone_X5_heightAt : GoodIn wsX12_setTone wsX5_heightAt := goodIn_r _ [97, 15, 16, 52, 118, 119, 120, 121, 122, 123, 124, 125, 126, 127] (by decide +kernel) (by decide +kernel)
set_option maxRecDepth 20000 in
theorem gX12_setTone_X5_heightAt : GoodIn wsX12_setTone (wsV RX12 275 RX5 yX5_heightAt wsX5_heightAt) := goodIn_app (goodIn_of _ (by decide +kernel)) ggX12_setTone_X5_heightAt
theorem dX12_setTone_0 : decode cX12_setTone 0 = .ok (.aload_n 0, 1) := by decide +kernel
theorem dX12_setTone_1 : decode cX12_setTone 1 = .ok (.iload_n 1, 1) := by decide +kernel
theorem dX12_setTone_2 : decode cX12_setTone 2 = .ok (.iload_n 2, 1) := by decide +kernel
theorem dX12_setTone_3 : decode cX12_setTone 3 = .ok (.invokevirtual 268, 3) := by decide +kernel
theorem dX12_setTone_6 : decode cX12_setTone 6 = .ok (.aload_n 0, 1) := by decide +kernel
theorem dX12_setTone_7 : decode cX12_setTone 7 = .ok (.iload_n 3, 1) := by decide +kernel
theorem dX12_setTone_8 : decode cX12_setTone 8 = .ok (.invokevirtual 297, 3) := by decide +kernel
theorem dX12_setTone_11 : decode cX12_setTone 11 = .ok (.aload_n 0, 1) := by decide +kernel
theorem dX12_setTone_12 : decode cX12_setTone 12 = .ok (.getfield 30, 3) := by decide +kernel
theorem dX12_setTone_15 : decode cX12_setTone 15 = .ok (.aload_n 0, 1) := by decide +kernel
theorem dX12_setTone_16 : decode cX12_setTone 16 = .ok (.getfield 12, 3) := by decide +kernel
theorem dX12_setTone_19 : decode cX12_setTone 19 = .ok (.invokevirtual 126, 3) := by decide +kernel
theorem dX12_setTone_22 : decode cX12_setTone 22 = .ok (.aload_n 0, 1) := by decide +kernel
theorem dX12_setTone_23 : decode cX12_setTone 23 = .ok (.getfield 12, 3) := by decide +kernel
theorem dX12_setTone_26 : decode cX12_setTone 26 = .ok (.iload_n 1, 1) := by decide +kernel
theorem dX12_setTone_27 : decode cX12_setTone 27 = .ok (.iload_n 2, 1) := by decide +kernel
theorem dX12_setTone_28 : decode cX12_setTone 28 = .ok (.iload_n 3, 1) := by decide +kernel
theorem dX12_setTone_29 : decode cX12_setTone 29 = .ok (.invokevirtual 216, 3) := by decide +kernel
theorem dX12_setTone_32 : decode cX12_setTone 32 = .ok (.aload_n 0, 1) := by decide +kernel
theorem dX12_setTone_33 : decode cX12_setTone 33 = .ok (.getfield 30, 3) := by decide +kernel
theorem dX12_setTone_36 : decode cX12_setTone 36 = .ok (.aload_n 0, 1) := by decide +kernel
theorem dX12_setTone_37 : decode cX12_setTone 37 = .ok (.getfield 12, 3) := by decide +kernel
theorem dX12_setTone_40 : decode cX12_setTone 40 = .ok (.invokevirtual 139, 3) := by decide +kernel
theorem dX12_setTone_43 : decode cX12_setTone 43 = .ok (.aload_n 0, 1) := by decide +kernel
theorem dX12_setTone_44 : decode cX12_setTone 44 = .ok (.getfield 12, 3) := by decide +kernel
theorem dX12_setTone_47 : decode cX12_setTone 47 = .ok (.iload_n 1, 1) := by decide +kernel
theorem dX12_setTone_48 : decode cX12_setTone 48 = .ok (.iload_n 2, 1) := by decide +kernel
theorem dX12_setTone_49 : decode cX12_setTone 49 = .ok (.invokevirtual 275, 3) := by decide +kernel
theorem dX12_setTone_52 : decode cX12_setTone 52 = .ok (.ireturn, 1) := by decide +kernel
set_option maxRecDepth 20000 in
theorem ggX12_setHeight_X12_checkCell : GoodIn wsX12_setHeight wsX12_checkCell := goodIn_ca (goodIn_r _ [7, 8, 9, 1, 10, 11, 12, 13, 14, 15, 16, 81, 82, 83, 84, 85, 86, 87, 88, 89, 90, 91, 92, 93, 94, 95, 96, 97, 98, 99, 100, 101, 102, 103, 104, 105] (by decide +kernel) (by decide +kernel)) (goodIn_sub (fun _ h => List.mem_cons_of_mem _ (List.mem_append_left _ (List.mem_append_right _ h))) (by decide +kernel))
set_option maxRecDepth 20000 in
theorem gX12_setHeight_X12_checkCell : GoodIn wsX12_setHeight (wsV RX12 268 RX12 yX12_checkCell wsX12_checkCell) := goodIn_app (goodIn_of _ (by decide +kernel)) ggX12_setHeight_X12_checkCell
set_option maxRecDepth 20000 in
theorem ggX12_setHeight_X12_checkAllowed : GoodIn wsX12_setHeight wsX12_checkAllowed := goodIn_ca (goodIn_r _ [20, 21, 22, 1, 23, 24, 25, 13, 26, 27, 28, 81, 82, 83, 84, 85, 86, 87, 88, 89, 90, 91, 92, 93, 94, 95, 96, 97, 98, 99, 100, 101, 102, 103, 104, 105] (by decide +kernel) (by decide +kernel)) (goodIn_sub (fun _ h => List.mem_cons_of_mem _ (List.mem_append_right _ h)) (by decide +kernel))
set_option maxRecDepth 20000 in
theorem gX12_setHeight_X12_checkAllowed : GoodIn wsX12_setHeight (wsV RX12 396 RX12 yX12_checkAllowed wsX12_checkAllowed) := goodIn_app (goodIn_of _ (by decide +kernel)) ggX12_setHeight_X12_checkAllowed
set_option maxRecDepth 20000 in
theorem ggX12_setHeight_X5_heightAt : GoodIn wsX12_setHeight wsX5_heightAt := goodIn_r _ [32, 15, 16, 33, 96, 97, 98, 99, 100, 101, 102, 103, 104, 105] (by decide +kernel) (by decide +kernel)
set_option maxRecDepth 20000 in
theorem gX12_setHeight_X5_heightAt : GoodIn wsX12_setHeight (wsV RX12 275 RX5 yX5_heightAt wsX5_heightAt) := goodIn_app (goodIn_of _ (by decide +kernel)) ggX12_setHeight_X5_heightAt
set_option maxRecDepth 20000 in
theorem ggX12_setHeight_X3_open : GoodIn wsX12_setHeight wsX3_open := goodIn_r _ [38, 39, 40, 41, 42, 43, 13, 44, 15, 16, 28, 45, 27, 46, 47, 48, 49, 50, 51, 52, 53, 54, 55, 56, 57, 33, 106, 107, 108, 96, 97, 98, 99, 100, 101, 102, 103, 104, 105] (by decide +kernel) (by decide +kernel)
set_option maxRecDepth 20000 in
theorem gX12_setHeight_X3_open : GoodIn wsX12_setHeight (wsV RX12 126 RX3 yX3_open wsX3_open) := goodIn_app (goodIn_of _ (by decide +kernel)) ggX12_setHeight_X3_open
set_option maxRecDepth 20000 in
theorem ggX12_setHeight_X5_build : GoodIn wsX12_setHeight wsX5_build := goodIn_r _ [61, 33, 62, 11, 12, 13, 14, 15, 16, 96, 97, 98, 99, 100, 101, 102, 103, 104, 105] (by decide +kernel) (by decide +kernel)
set_option maxRecDepth 20000 in
theorem gX12_setHeight_X5_build : GoodIn wsX12_setHeight (wsV RX12 399 RX5 yX5_build wsX5_build) := goodIn_app (goodIn_of _ (by decide +kernel)) ggX12_setHeight_X5_build
set_option maxRecDepth 20000 in
theorem ggX12_setHeight_X3_close : GoodIn wsX12_setHeight wsX3_close := goodIn_r _ [66, 39, 40, 67, 68, 69, 70, 71, 72, 73, 74, 13, 75, 16, 15, 76, 30, 31, 32, 33, 77, 78, 79, 80, 48, 106, 107, 108, 96, 97, 98, 99, 100, 101, 102, 103, 104, 105] (by decide +kernel) (by decide +kernel)
set_option maxRecDepth 20000 in
theorem gX12_setHeight_X3_close : GoodIn wsX12_setHeight (wsV RX12 139 RX3 yX3_close wsX3_close) := goodIn_app (goodIn_of _ (by decide +kernel)) ggX12_setHeight_X3_close
theorem dX12_setHeight_0 : decode cX12_setHeight 0 = .ok (.aload_n 0, 1) := by decide +kernel
theorem dX12_setHeight_1 : decode cX12_setHeight 1 = .ok (.iload_n 1, 1) := by decide +kernel
theorem dX12_setHeight_2 : decode cX12_setHeight 2 = .ok (.iload_n 2, 1) := by decide +kernel
theorem dX12_setHeight_3 : decode cX12_setHeight 3 = .ok (.invokevirtual 268, 3) := by decide +kernel
theorem dX12_setHeight_6 : decode cX12_setHeight 6 = .ok (.aload_n 0, 1) := by decide +kernel
theorem dX12_setHeight_7 : decode cX12_setHeight 7 = .ok (.iload_n 3, 1) := by decide +kernel
theorem dX12_setHeight_8 : decode cX12_setHeight 8 = .ok (.invokevirtual 396, 3) := by decide +kernel
theorem dX12_setHeight_11 : decode cX12_setHeight 11 = .ok (.aload_n 0, 1) := by decide +kernel
theorem dX12_setHeight_12 : decode cX12_setHeight 12 = .ok (.getfield 12, 3) := by decide +kernel
theorem dX12_setHeight_15 : decode cX12_setHeight 15 = .ok (.iload_n 1, 1) := by decide +kernel
theorem dX12_setHeight_16 : decode cX12_setHeight 16 = .ok (.iload_n 2, 1) := by decide +kernel
theorem dX12_setHeight_17 : decode cX12_setHeight 17 = .ok (.invokevirtual 275, 3) := by decide +kernel
theorem dX12_setHeight_20 : decode cX12_setHeight 20 = .ok (.istore 4, 2) := by decide +kernel
theorem dX12_setHeight_22 : decode cX12_setHeight 22 = .ok (.aload_n 0, 1) := by decide +kernel
theorem dX12_setHeight_23 : decode cX12_setHeight 23 = .ok (.getfield 30, 3) := by decide +kernel
theorem dX12_setHeight_26 : decode cX12_setHeight 26 = .ok (.aload_n 0, 1) := by decide +kernel
theorem dX12_setHeight_27 : decode cX12_setHeight 27 = .ok (.getfield 12, 3) := by decide +kernel
theorem dX12_setHeight_30 : decode cX12_setHeight 30 = .ok (.invokevirtual 126, 3) := by decide +kernel
theorem dX12_setHeight_33 : decode cX12_setHeight 33 = .ok (.aload_n 0, 1) := by decide +kernel
theorem dX12_setHeight_34 : decode cX12_setHeight 34 = .ok (.getfield 12, 3) := by decide +kernel
theorem dX12_setHeight_37 : decode cX12_setHeight 37 = .ok (.iload_n 1, 1) := by decide +kernel
theorem dX12_setHeight_38 : decode cX12_setHeight 38 = .ok (.iload_n 2, 1) := by decide +kernel
theorem dX12_setHeight_39 : decode cX12_setHeight 39 = .ok (.iload_n 3, 1) := by decide +kernel
theorem dX12_setHeight_40 : decode cX12_setHeight 40 = .ok (.invokevirtual 399, 3) := by decide +kernel
theorem dX12_setHeight_43 : decode cX12_setHeight 43 = .ok (.pop, 1) := by decide +kernel
theorem dX12_setHeight_44 : decode cX12_setHeight 44 = .ok (.aload_n 0, 1) := by decide +kernel
theorem dX12_setHeight_45 : decode cX12_setHeight 45 = .ok (.getfield 30, 3) := by decide +kernel
theorem dX12_setHeight_48 : decode cX12_setHeight 48 = .ok (.aload_n 0, 1) := by decide +kernel
theorem dX12_setHeight_49 : decode cX12_setHeight 49 = .ok (.getfield 12, 3) := by decide +kernel
theorem dX12_setHeight_52 : decode cX12_setHeight 52 = .ok (.invokevirtual 139, 3) := by decide +kernel
theorem dX12_setHeight_55 : decode cX12_setHeight 55 = .ok (.iload 4, 2) := by decide +kernel
theorem dX12_setHeight_57 : decode cX12_setHeight 57 = .ok (.ireturn, 1) := by decide +kernel
set_option maxRecDepth 20000 in
theorem ggX12_fill_X12_checkCell : GoodIn wsX12_fill wsX12_checkCell := goodIn_ca (goodIn_r _ [9, 10, 11, 3, 12, 13, 14, 15, 16, 17, 18, 88, 89, 90, 91, 92, 93, 94, 95, 96, 97, 98, 99, 100, 101, 102, 103, 104, 105, 106, 107, 108, 109, 110, 111, 112] (by decide +kernel) (by decide +kernel)) (goodIn_sub (fun _ h => List.mem_cons_of_mem _ (List.mem_append_right _ h)) (by decide +kernel))
set_option maxRecDepth 20000 in
theorem gX12_fill_X12_checkCell : GoodIn wsX12_fill (wsV RX12 268 RX12 yX12_checkCell wsX12_checkCell) := goodIn_app (goodIn_of _ (by decide +kernel)) ggX12_fill_X12_checkCell
set_option maxRecDepth 20000 in
theorem ggX12_fill_X5_fits : GoodIn wsX12_fill wsX5_fits := goodIn_r _ [22, 17, 18, 103, 104, 105, 106, 107, 108, 109, 110, 111, 112] (by decide +kernel) (by decide +kernel)
set_option maxRecDepth 20000 in
theorem gX12_fill_X5_fits : GoodIn wsX12_fill (wsV RX12 220 RX5 yX5_fits wsX5_fits) := goodIn_app (goodIn_of _ (by decide +kernel)) ggX12_fill_X5_fits
set_option maxRecDepth 20000 in
theorem ggX12_fill_X12_checkAllowed : GoodIn wsX12_fill wsX12_checkAllowed := goodIn_ca (goodIn_r _ [26, 1, 2, 3, 27, 28, 29, 15, 30, 31, 32, 88, 89, 90, 91, 92, 93, 94, 95, 96, 97, 98, 99, 100, 101, 102, 103, 104, 105, 106, 107, 108, 109, 110, 111, 112] (by decide +kernel) (by decide +kernel)) (goodIn_sub (fun _ h => List.mem_cons_of_mem _ (List.mem_append_left _ (List.mem_append_right _ h))) (by decide +kernel))
set_option maxRecDepth 20000 in
theorem gX12_fill_X12_checkAllowed : GoodIn wsX12_fill (wsV RX12 396 RX12 yX12_checkAllowed wsX12_checkAllowed) := goodIn_app (goodIn_of _ (by decide +kernel)) ggX12_fill_X12_checkAllowed
set_option maxRecDepth 20000 in
theorem ggX12_fill_X3_open : GoodIn wsX12_fill wsX3_open := goodIn_r _ [37, 38, 39, 40, 41, 42, 15, 43, 17, 18, 32, 44, 31, 45, 46, 47, 48, 49, 50, 51, 52, 53, 54, 55, 56, 57, 113, 114, 115, 103, 104, 105, 106, 107, 108, 109, 110, 111, 112] (by decide +kernel) (by decide +kernel)
set_option maxRecDepth 20000 in
theorem gX12_fill_X3_open : GoodIn wsX12_fill (wsV RX12 126 RX3 yX3_open wsX3_open) := goodIn_app (goodIn_of _ (by decide +kernel)) ggX12_fill_X3_open
set_option maxRecDepth 20000 in
theorem ggX12_fill_X5_cover : GoodIn wsX12_fill wsX5_cover := goodIn_r _ [61, 62, 63, 64, 15, 65, 57, 66, 13, 14, 16, 17, 18, 103, 104, 105, 106, 107, 108, 109, 110, 111, 112] (by decide +kernel) (by decide +kernel)
set_option maxRecDepth 20000 in
theorem gX12_fill_X5_cover : GoodIn wsX12_fill (wsV RX12 226 RX5 yX5_cover wsX5_cover) := goodIn_app (goodIn_of _ (by decide +kernel)) ggX12_fill_X5_cover
set_option maxRecDepth 20000 in
theorem ggX12_fill_X3_close : GoodIn wsX12_fill wsX3_close := goodIn_r _ [70, 38, 39, 71, 72, 73, 74, 75, 76, 77, 78, 15, 79, 18, 17, 80, 81, 82, 83, 57, 84, 85, 86, 87, 47, 113, 114, 115, 103, 104, 105, 106, 107, 108, 109, 110, 111, 112] (by decide +kernel) (by decide +kernel)
set_option maxRecDepth 20000 in
theorem gX12_fill_X3_close : GoodIn wsX12_fill (wsV RX12 139 RX3 yX3_close wsX3_close) := goodIn_app (goodIn_of _ (by decide +kernel)) ggX12_fill_X3_close
theorem dX12_fill_0 : decode cX12_fill 0 = .ok (.aload_n 0, 1) := by decide +kernel
theorem dX12_fill_1 : decode cX12_fill 1 = .ok (.iload_n 1, 1) := by decide +kernel
theorem dX12_fill_2 : decode cX12_fill 2 = .ok (.iload_n 2, 1) := by decide +kernel
theorem dX12_fill_3 : decode cX12_fill 3 = .ok (.invokevirtual 268, 3) := by decide +kernel
theorem dX12_fill_6 : decode cX12_fill 6 = .ok (.aload_n 0, 1) := by decide +kernel
theorem dX12_fill_7 : decode cX12_fill 7 = .ok (.getfield 12, 3) := by decide +kernel
theorem dX12_fill_10 : decode cX12_fill 10 = .ok (.iload_n 1, 1) := by decide +kernel
theorem dX12_fill_11 : decode cX12_fill 11 = .ok (.iload_n 2, 1) := by decide +kernel
theorem dX12_fill_12 : decode cX12_fill 12 = .ok (.iload_n 3, 1) := by decide +kernel
theorem dX12_fill_13 : decode cX12_fill 13 = .ok (.iload 4, 2) := by decide +kernel
theorem dX12_fill_15 : decode cX12_fill 15 = .ok (.invokevirtual 220, 3) := by decide +kernel
theorem dX12_fill_18 : decode cX12_fill 18 = .ok (.ifCond .ne 11, 3) := by decide +kernel
theorem dX12_fill_21 : decode cX12_fill 21 = .ok (.new 104, 3) := by decide +kernel
theorem dX12_fill_24 : decode cX12_fill 24 = .ok (.dup, 1) := by decide +kernel
theorem dX12_fill_25 : decode cX12_fill 25 = .ok (.invokespecial 106, 3) := by decide +kernel
theorem dX12_fill_28 : decode cX12_fill 28 = .ok (.athrow, 1) := by decide +kernel
theorem dX12_fill_29 : decode cX12_fill 29 = .ok (.aload_n 0, 1) := by decide +kernel
theorem dX12_fill_30 : decode cX12_fill 30 = .ok (.iload 5, 2) := by decide +kernel
theorem dX12_fill_32 : decode cX12_fill 32 = .ok (.invokevirtual 396, 3) := by decide +kernel
theorem dX12_fill_35 : decode cX12_fill 35 = .ok (.aload_n 0, 1) := by decide +kernel
theorem dX12_fill_36 : decode cX12_fill 36 = .ok (.getfield 30, 3) := by decide +kernel
theorem dX12_fill_39 : decode cX12_fill 39 = .ok (.aload_n 0, 1) := by decide +kernel
theorem dX12_fill_40 : decode cX12_fill 40 = .ok (.getfield 12, 3) := by decide +kernel
theorem dX12_fill_43 : decode cX12_fill 43 = .ok (.invokevirtual 126, 3) := by decide +kernel
theorem dX12_fill_46 : decode cX12_fill 46 = .ok (.aload_n 0, 1) := by decide +kernel
theorem dX12_fill_47 : decode cX12_fill 47 = .ok (.getfield 12, 3) := by decide +kernel
theorem dX12_fill_50 : decode cX12_fill 50 = .ok (.iload_n 1, 1) := by decide +kernel
theorem dX12_fill_51 : decode cX12_fill 51 = .ok (.iload_n 2, 1) := by decide +kernel
theorem dX12_fill_52 : decode cX12_fill 52 = .ok (.iload_n 3, 1) := by decide +kernel
theorem dX12_fill_53 : decode cX12_fill 53 = .ok (.iload 4, 2) := by decide +kernel
theorem dX12_fill_55 : decode cX12_fill 55 = .ok (.iload 5, 2) := by decide +kernel
theorem dX12_fill_57 : decode cX12_fill 57 = .ok (.invokevirtual 226, 3) := by decide +kernel
theorem dX12_fill_60 : decode cX12_fill 60 = .ok (.istore 6, 2) := by decide +kernel
theorem dX12_fill_62 : decode cX12_fill 62 = .ok (.aload_n 0, 1) := by decide +kernel
theorem dX12_fill_63 : decode cX12_fill 63 = .ok (.getfield 30, 3) := by decide +kernel
theorem dX12_fill_66 : decode cX12_fill 66 = .ok (.aload_n 0, 1) := by decide +kernel
theorem dX12_fill_67 : decode cX12_fill 67 = .ok (.getfield 12, 3) := by decide +kernel
theorem dX12_fill_70 : decode cX12_fill 70 = .ok (.invokevirtual 139, 3) := by decide +kernel
theorem dX12_fill_73 : decode cX12_fill 73 = .ok (.iload 6, 2) := by decide +kernel
theorem dX12_fill_75 : decode cX12_fill 75 = .ok (.ireturn, 1) := by decide +kernel
set_option maxRecDepth 20000 in
theorem ggX12_checkAllowed_X5_allows : GoodIn wsX12_checkAllowed wsX5_allows := goodIn_r _ [8, 9, 10, 26, 27, 28, 29, 30, 31, 32, 33, 34, 35] (by decide +kernel) (by decide +kernel)
set_option maxRecDepth 20000 in
theorem gX12_checkAllowed_X5_allows : GoodIn wsX12_checkAllowed (wsV RX12 223 RX5 yX5_allows wsX5_allows) := goodIn_app (goodIn_of _ (by decide +kernel)) ggX12_checkAllowed_X5_allows
theorem dX12_checkAllowed_0 : decode cX12_checkAllowed 0 = .ok (.aload_n 0, 1) := by decide +kernel
theorem dX12_checkAllowed_1 : decode cX12_checkAllowed 1 = .ok (.getfield 12, 3) := by decide +kernel
theorem dX12_checkAllowed_4 : decode cX12_checkAllowed 4 = .ok (.iload_n 1, 1) := by decide +kernel
theorem dX12_checkAllowed_5 : decode cX12_checkAllowed 5 = .ok (.invokevirtual 223, 3) := by decide +kernel
theorem dX12_checkAllowed_8 : decode cX12_checkAllowed 8 = .ok (.ifCond .ne 11, 3) := by decide +kernel
theorem dX12_checkAllowed_11 : decode cX12_checkAllowed 11 = .ok (.new 104, 3) := by decide +kernel
theorem dX12_checkAllowed_14 : decode cX12_checkAllowed 14 = .ok (.dup, 1) := by decide +kernel
theorem dX12_checkAllowed_15 : decode cX12_checkAllowed 15 = .ok (.invokespecial 106, 3) := by decide +kernel
theorem dX12_checkAllowed_18 : decode cX12_checkAllowed 18 = .ok (.athrow, 1) := by decide +kernel
theorem dX12_checkAllowed_19 : decode cX12_checkAllowed 19 = .ok (.return_, 1) := by decide +kernel
set_option maxRecDepth 20000 in
theorem ggX12_dither_X3_open : GoodIn wsX12_dither wsX3_open := goodIn_r _ [7, 8, 9, 10, 11, 12, 13, 14, 15, 16, 17, 18, 19, 20, 21, 22, 23, 24, 25, 26, 27, 28, 29, 30, 31, 32, 103, 104, 105, 106, 107, 108, 109, 110, 111, 112, 113, 114, 115] (by decide +kernel) (by decide +kernel)
set_option maxRecDepth 20000 in
theorem gX12_dither_X3_open : GoodIn wsX12_dither (wsV RX12 126 RX3 yX3_open wsX3_open) := goodIn_app (goodIn_of _ (by decide +kernel)) ggX12_dither_X3_open
set_option maxRecDepth 20000 in
theorem ggX12_dither_X2_spread : GoodIn wsX12_dither wsX2_spread := goodIn_r _ [36, 37, 38, 39, 40, 41, 13, 42, 43, 44, 45, 46, 15, 16, 22, 47, 48, 49, 50, 51, 52, 53, 54, 19, 17, 55, 56, 57, 58, 27, 59, 60, 61, 62, 63, 64, 65, 32, 66, 67, 68, 69, 70, 106, 107, 108, 109, 110, 111, 112, 113, 114, 115] (by decide +kernel) (by decide +kernel)
set_option maxRecDepth 20000 in
theorem gX12_dither_X2_spread : GoodIn wsX12_dither (va_wsS RX12 195 yX2_spread wsX2_spread) := goodIn_app (goodIn_of _ (by decide +kernel)) ggX12_dither_X2_spread
set_option maxRecDepth 20000 in
theorem ggX12_dither_X3_close : GoodIn wsX12_dither wsX3_close := goodIn_r _ [74, 8, 9, 75, 76, 77, 78, 79, 80, 81, 82, 13, 83, 16, 15, 84, 85, 86, 87, 32, 43, 44, 45, 46, 22, 103, 104, 105, 106, 107, 108, 109, 110, 111, 112, 113, 114, 115] (by decide +kernel) (by decide +kernel)
set_option maxRecDepth 20000 in
theorem gX12_dither_X3_close : GoodIn wsX12_dither (wsV RX12 139 RX3 yX3_close wsX3_close) := goodIn_app (goodIn_of _ (by decide +kernel)) ggX12_dither_X3_close
theorem dX12_dither_0 : decode cX12_dither 0 = .ok (.aload_n 0, 1) := by decide +kernel
theorem dX12_dither_1 : decode cX12_dither 1 = .ok (.getfield 30, 3) := by decide +kernel
theorem dX12_dither_4 : decode cX12_dither 4 = .ok (.aload_n 0, 1) := by decide +kernel
theorem dX12_dither_5 : decode cX12_dither 5 = .ok (.getfield 12, 3) := by decide +kernel
theorem dX12_dither_8 : decode cX12_dither 8 = .ok (.invokevirtual 126, 3) := by decide +kernel
theorem dX12_dither_11 : decode cX12_dither 11 = .ok (.aload_n 0, 1) := by decide +kernel
theorem dX12_dither_12 : decode cX12_dither 12 = .ok (.getfield 12, 3) := by decide +kernel
theorem dX12_dither_15 : decode cX12_dither 15 = .ok (.invokestatic 195, 3) := by decide +kernel
theorem dX12_dither_18 : decode cX12_dither 18 = .ok (.istore_n 1, 1) := by decide +kernel
theorem dX12_dither_19 : decode cX12_dither 19 = .ok (.aload_n 0, 1) := by decide +kernel
theorem dX12_dither_20 : decode cX12_dither 20 = .ok (.getfield 30, 3) := by decide +kernel
theorem dX12_dither_23 : decode cX12_dither 23 = .ok (.aload_n 0, 1) := by decide +kernel
theorem dX12_dither_24 : decode cX12_dither 24 = .ok (.getfield 12, 3) := by decide +kernel
theorem dX12_dither_27 : decode cX12_dither 27 = .ok (.invokevirtual 139, 3) := by decide +kernel
theorem dX12_dither_30 : decode cX12_dither 30 = .ok (.iload_n 1, 1) := by decide +kernel
theorem dX12_dither_31 : decode cX12_dither 31 = .ok (.ireturn, 1) := by decide +kernel
set_option maxRecDepth 20000 in
theorem ggX12_polish_X3_open : GoodIn wsX12_polish wsX3_open := goodIn_r _ [7, 8, 9, 10, 11, 12, 13, 14, 15, 16, 17, 18, 19, 20, 21, 22, 23, 24, 25, 26, 27, 28, 29, 30, 31, 32, 114, 115, 116, 117, 118, 119, 120, 121, 122, 123, 124, 125, 126] (by decide +kernel) (by decide +kernel)
set_option maxRecDepth 20000 in
theorem gX12_polish_X3_open : GoodIn wsX12_polish (wsV RX12 126 RX3 yX3_open wsX3_open) := goodIn_app (goodIn_of _ (by decide +kernel)) ggX12_polish_X3_open
set_option maxRecDepth 20000 in
theorem ggX12_polish_X2_refine : GoodIn wsX12_polish wsX2_refine := goodIn_r _ [36, 37, 38, 39, 40, 35, 41, 42, 43, 44, 45, 46, 47, 48, 49, 50, 51, 52, 53, 13, 54, 15, 16, 32, 55, 56, 57, 58, 59, 60, 61, 62, 63, 64, 65, 66, 67, 68, 69, 70, 71, 72, 73, 74, 75, 27, 76, 77, 78, 79, 80, 81, 82, 83, 22, 84, 85, 86, 87, 117, 118, 119, 120, 121, 122, 123, 124, 125, 126] (by decide +kernel) (by decide +kernel)
set_option maxRecDepth 20000 in
theorem gX12_polish_X2_refine : GoodIn wsX12_polish (va_wsS RX12 200 yX2_refine wsX2_refine) := goodIn_app (goodIn_of _ (by decide +kernel)) ggX12_polish_X2_refine
set_option maxRecDepth 20000 in
theorem ggX12_polish_X3_close : GoodIn wsX12_polish wsX3_close := goodIn_r _ [91, 8, 9, 92, 93, 49, 45, 50, 94, 95, 96, 13, 97, 16, 15, 98, 52, 53, 54, 32, 80, 81, 82, 83, 22, 114, 115, 116, 117, 118, 119, 120, 121, 122, 123, 124, 125, 126] (by decide +kernel) (by decide +kernel)
set_option maxRecDepth 20000 in
theorem gX12_polish_X3_close : GoodIn wsX12_polish (wsV RX12 139 RX3 yX3_close wsX3_close) := goodIn_app (goodIn_of _ (by decide +kernel)) ggX12_polish_X3_close
theorem dX12_polish_0 : decode cX12_polish 0 = .ok (.aload_n 0, 1) := by decide +kernel
theorem dX12_polish_1 : decode cX12_polish 1 = .ok (.getfield 30, 3) := by decide +kernel
theorem dX12_polish_4 : decode cX12_polish 4 = .ok (.aload_n 0, 1) := by decide +kernel
theorem dX12_polish_5 : decode cX12_polish 5 = .ok (.getfield 12, 3) := by decide +kernel
theorem dX12_polish_8 : decode cX12_polish 8 = .ok (.invokevirtual 126, 3) := by decide +kernel
theorem dX12_polish_11 : decode cX12_polish 11 = .ok (.aload_n 0, 1) := by decide +kernel
theorem dX12_polish_12 : decode cX12_polish 12 = .ok (.getfield 12, 3) := by decide +kernel
theorem dX12_polish_15 : decode cX12_polish 15 = .ok (.invokestatic 200, 3) := by decide +kernel
theorem dX12_polish_18 : decode cX12_polish 18 = .ok (.istore_n 1, 1) := by decide +kernel
theorem dX12_polish_19 : decode cX12_polish 19 = .ok (.aload_n 0, 1) := by decide +kernel
theorem dX12_polish_20 : decode cX12_polish 20 = .ok (.getfield 30, 3) := by decide +kernel
theorem dX12_polish_23 : decode cX12_polish 23 = .ok (.aload_n 0, 1) := by decide +kernel
theorem dX12_polish_24 : decode cX12_polish 24 = .ok (.getfield 12, 3) := by decide +kernel
theorem dX12_polish_27 : decode cX12_polish 27 = .ok (.invokevirtual 139, 3) := by decide +kernel
theorem dX12_polish_30 : decode cX12_polish 30 = .ok (.iload_n 1, 1) := by decide +kernel
theorem dX12_polish_31 : decode cX12_polish 31 = .ok (.ireturn, 1) := by decide +kernel
set_option maxRecDepth 20000 in
theorem ggX12_invert_X3_open : GoodIn wsX12_invert wsX3_open := goodIn_r _ [7, 8, 9, 10, 11, 12, 13, 14, 15, 16, 17, 18, 19, 20, 21, 22, 23, 24, 25, 26, 27, 28, 29, 30, 31, 32, 108, 109, 110, 111, 112, 113, 114, 115, 116, 117, 118, 119, 120] (by decide +kernel) (by decide +kernel)
set_option maxRecDepth 20000 in
theorem gX12_invert_X3_open : GoodIn wsX12_invert (wsV RX12 126 RX3 yX3_open wsX3_open) := goodIn_app (goodIn_of _ (by decide +kernel)) ggX12_invert_X3_open
set_option maxRecDepth 20000 in
theorem ggX12_invert_X5_negate : GoodIn wsX12_invert wsX5_negate := goodIn_r _ [36, 16, 15, 37, 38, 39, 13, 40, 22, 41, 42, 43, 44, 45, 46, 47, 48, 49, 50, 51, 52, 53, 54, 55, 56, 57, 58, 59, 60, 61, 62, 63, 64, 19, 17, 65, 66, 67, 68, 27, 69, 70, 71, 72, 73, 74, 75, 32, 111, 112, 113, 114, 115, 116, 117, 118, 119, 120] (by decide +kernel) (by decide +kernel)
set_option maxRecDepth 20000 in
theorem gX12_invert_X5_negate : GoodIn wsX12_invert (wsV RX12 203 RX5 yX5_negate wsX5_negate) := goodIn_app (goodIn_of _ (by decide +kernel)) ggX12_invert_X5_negate
set_option maxRecDepth 20000 in
theorem ggX12_invert_X3_close : GoodIn wsX12_invert wsX3_close := goodIn_r _ [79, 8, 9, 80, 81, 82, 83, 84, 85, 86, 87, 13, 88, 16, 15, 89, 90, 91, 92, 32, 37, 38, 39, 40, 22, 108, 109, 110, 111, 112, 113, 114, 115, 116, 117, 118, 119, 120] (by decide +kernel) (by decide +kernel)
set_option maxRecDepth 20000 in
theorem gX12_invert_X3_close : GoodIn wsX12_invert (wsV RX12 139 RX3 yX3_close wsX3_close) := goodIn_app (goodIn_of _ (by decide +kernel)) ggX12_invert_X3_close
theorem dX12_invert_0 : decode cX12_invert 0 = .ok (.aload_n 0, 1) := by decide +kernel
theorem dX12_invert_1 : decode cX12_invert 1 = .ok (.getfield 30, 3) := by decide +kernel
theorem dX12_invert_4 : decode cX12_invert 4 = .ok (.aload_n 0, 1) := by decide +kernel
theorem dX12_invert_5 : decode cX12_invert 5 = .ok (.getfield 12, 3) := by decide +kernel
theorem dX12_invert_8 : decode cX12_invert 8 = .ok (.invokevirtual 126, 3) := by decide +kernel
theorem dX12_invert_11 : decode cX12_invert 11 = .ok (.aload_n 0, 1) := by decide +kernel
theorem dX12_invert_12 : decode cX12_invert 12 = .ok (.getfield 12, 3) := by decide +kernel
theorem dX12_invert_15 : decode cX12_invert 15 = .ok (.invokevirtual 203, 3) := by decide +kernel
theorem dX12_invert_18 : decode cX12_invert 18 = .ok (.istore_n 1, 1) := by decide +kernel
theorem dX12_invert_19 : decode cX12_invert 19 = .ok (.aload_n 0, 1) := by decide +kernel
theorem dX12_invert_20 : decode cX12_invert 20 = .ok (.getfield 30, 3) := by decide +kernel
theorem dX12_invert_23 : decode cX12_invert 23 = .ok (.aload_n 0, 1) := by decide +kernel
theorem dX12_invert_24 : decode cX12_invert 24 = .ok (.getfield 12, 3) := by decide +kernel
theorem dX12_invert_27 : decode cX12_invert 27 = .ok (.invokevirtual 139, 3) := by decide +kernel
theorem dX12_invert_30 : decode cX12_invert 30 = .ok (.iload_n 1, 1) := by decide +kernel
theorem dX12_invert_31 : decode cX12_invert 31 = .ok (.ireturn, 1) := by decide +kernel
set_option maxRecDepth 20000 in
theorem ggX12_lighten_X3_open : GoodIn wsX12_lighten wsX3_open := goodIn_r _ [9, 10, 11, 12, 13, 14, 15, 16, 17, 18, 19, 20, 21, 22, 23, 24, 25, 26, 27, 28, 29, 30, 31, 32, 33, 34, 114, 115, 116, 117, 118, 119, 120, 121, 122, 123, 124, 125, 126] (by decide +kernel) (by decide +kernel)
set_option maxRecDepth 20000 in
theorem gX12_lighten_X3_open : GoodIn wsX12_lighten (wsV RX12 126 RX3 yX3_open wsX3_open) := goodIn_app (goodIn_of _ (by decide +kernel)) ggX12_lighten_X3_open
set_option maxRecDepth 20000 in
theorem ggX12_lighten_X5_brighten : GoodIn wsX12_lighten wsX5_brighten := goodIn_r _ [38, 18, 17, 39, 40, 41, 42, 43, 44, 45, 46, 47, 48, 15, 49, 24, 50, 51, 52, 53, 54, 55, 56, 57, 58, 59, 60, 61, 62, 63, 64, 65, 66, 67, 68, 69, 70, 71, 72, 73, 21, 19, 74, 75, 76, 77, 29, 78, 79, 80, 81, 82, 83, 84, 34, 117, 118, 119, 120, 121, 122, 123, 124, 125, 126] (by decide +kernel) (by decide +kernel)
set_option maxRecDepth 20000 in
theorem gX12_lighten_X5_brighten : GoodIn wsX12_lighten (wsV RX12 402 RX5 yX5_brighten wsX5_brighten) := goodIn_app (goodIn_of _ (by decide +kernel)) ggX12_lighten_X5_brighten
set_option maxRecDepth 20000 in
theorem ggX12_lighten_X3_close : GoodIn wsX12_lighten wsX3_close := goodIn_r _ [88, 10, 11, 89, 90, 40, 41, 42, 91, 92, 93, 15, 94, 18, 17, 95, 96, 97, 98, 34, 46, 47, 48, 49, 24, 114, 115, 116, 117, 118, 119, 120, 121, 122, 123, 124, 125, 126] (by decide +kernel) (by decide +kernel)
set_option maxRecDepth 20000 in
theorem gX12_lighten_X3_close : GoodIn wsX12_lighten (wsV RX12 139 RX3 yX3_close wsX3_close) := goodIn_app (goodIn_of _ (by decide +kernel)) ggX12_lighten_X3_close
theorem dX12_lighten_0 : decode cX12_lighten 0 = .ok (.iload_n 1, 1) := by decide +kernel
theorem dX12_lighten_1 : decode cX12_lighten 1 = .ok (.sipush (-255), 3) := by decide +kernel
theorem dX12_lighten_4 : decode cX12_lighten 4 = .ok (.if_icmp .lt 10, 3) := by decide +kernel
theorem dX12_lighten_7 : decode cX12_lighten 7 = .ok (.iload_n 1, 1) := by decide +kernel
theorem dX12_lighten_8 : decode cX12_lighten 8 = .ok (.sipush 255, 3) := by decide +kernel
theorem dX12_lighten_11 : decode cX12_lighten 11 = .ok (.if_icmp .le 11, 3) := by decide +kernel
theorem dX12_lighten_14 : decode cX12_lighten 14 = .ok (.new 104, 3) := by decide +kernel
theorem dX12_lighten_17 : decode cX12_lighten 17 = .ok (.dup, 1) := by decide +kernel
theorem dX12_lighten_18 : decode cX12_lighten 18 = .ok (.invokespecial 106, 3) := by decide +kernel
theorem dX12_lighten_21 : decode cX12_lighten 21 = .ok (.athrow, 1) := by decide +kernel
theorem dX12_lighten_22 : decode cX12_lighten 22 = .ok (.aload_n 0, 1) := by decide +kernel
theorem dX12_lighten_23 : decode cX12_lighten 23 = .ok (.getfield 30, 3) := by decide +kernel
theorem dX12_lighten_26 : decode cX12_lighten 26 = .ok (.aload_n 0, 1) := by decide +kernel
theorem dX12_lighten_27 : decode cX12_lighten 27 = .ok (.getfield 12, 3) := by decide +kernel
theorem dX12_lighten_30 : decode cX12_lighten 30 = .ok (.invokevirtual 126, 3) := by decide +kernel
theorem dX12_lighten_33 : decode cX12_lighten 33 = .ok (.aload_n 0, 1) := by decide +kernel
theorem dX12_lighten_34 : decode cX12_lighten 34 = .ok (.getfield 12, 3) := by decide +kernel
theorem dX12_lighten_37 : decode cX12_lighten 37 = .ok (.iload_n 1, 1) := by decide +kernel
theorem dX12_lighten_38 : decode cX12_lighten 38 = .ok (.invokevirtual 402, 3) := by decide +kernel
theorem dX12_lighten_41 : decode cX12_lighten 41 = .ok (.istore_n 2, 1) := by decide +kernel
theorem dX12_lighten_42 : decode cX12_lighten 42 = .ok (.aload_n 0, 1) := by decide +kernel
theorem dX12_lighten_43 : decode cX12_lighten 43 = .ok (.getfield 30, 3) := by decide +kernel
theorem dX12_lighten_46 : decode cX12_lighten 46 = .ok (.aload_n 0, 1) := by decide +kernel
theorem dX12_lighten_47 : decode cX12_lighten 47 = .ok (.getfield 12, 3) := by decide +kernel
theorem dX12_lighten_50 : decode cX12_lighten 50 = .ok (.invokevirtual 139, 3) := by decide +kernel
theorem dX12_lighten_53 : decode cX12_lighten 53 = .ok (.iload_n 2, 1) := by decide +kernel
theorem dX12_lighten_54 : decode cX12_lighten 54 = .ok (.ireturn, 1) := by decide +kernel
set_option maxRecDepth 20000 in
theorem ggX12_mirror_X3_open : GoodIn wsX12_mirror wsX3_open := goodIn_r _ [7, 8, 9, 10, 11, 12, 13, 14, 15, 16, 17, 18, 19, 20, 21, 22, 23, 24, 25, 26, 27, 28, 29, 30, 31, 32, 89, 90, 91, 92, 93, 94, 95, 96, 97, 98, 99, 100, 101] (by decide +kernel) (by decide +kernel)
set_option maxRecDepth 20000 in
theorem gX12_mirror_X3_open : GoodIn wsX12_mirror (wsV RX12 126 RX3 yX3_open wsX3_open) := goodIn_app (goodIn_of _ (by decide +kernel)) ggX12_mirror_X3_open
set_option maxRecDepth 20000 in
theorem ggX12_mirror_X5_turn : GoodIn wsX12_mirror wsX5_turn := goodIn_r _ [36, 16, 15, 37, 38, 39, 13, 40, 41, 42, 43, 44, 22, 45, 46, 47, 48, 32, 49, 50, 51, 52, 53, 54, 55, 56, 57, 58, 59, 60, 92, 93, 94, 95, 96, 97, 98, 99, 100, 101] (by decide +kernel) (by decide +kernel)
set_option maxRecDepth 20000 in
theorem gX12_mirror_X5_turn : GoodIn wsX12_mirror (wsV RX12 206 RX5 yX5_turn wsX5_turn) := goodIn_app (goodIn_of _ (by decide +kernel)) ggX12_mirror_X5_turn
set_option maxRecDepth 20000 in
theorem ggX12_mirror_X3_close : GoodIn wsX12_mirror wsX3_close := goodIn_r _ [64, 8, 9, 65, 66, 67, 68, 69, 70, 71, 72, 13, 73, 16, 15, 45, 46, 47, 48, 32, 41, 42, 43, 44, 22, 89, 90, 91, 92, 93, 94, 95, 96, 97, 98, 99, 100, 101] (by decide +kernel) (by decide +kernel)
set_option maxRecDepth 20000 in
theorem gX12_mirror_X3_close : GoodIn wsX12_mirror (wsV RX12 139 RX3 yX3_close wsX3_close) := goodIn_app (goodIn_of _ (by decide +kernel)) ggX12_mirror_X3_close
theorem dX12_mirror_0 : decode cX12_mirror 0 = .ok (.aload_n 0, 1) := by decide +kernel
theorem dX12_mirror_1 : decode cX12_mirror 1 = .ok (.getfield 30, 3) := by decide +kernel
theorem dX12_mirror_4 : decode cX12_mirror 4 = .ok (.aload_n 0, 1) := by decide +kernel
theorem dX12_mirror_5 : decode cX12_mirror 5 = .ok (.getfield 12, 3) := by decide +kernel
theorem dX12_mirror_8 : decode cX12_mirror 8 = .ok (.invokevirtual 126, 3) := by decide +kernel
theorem dX12_mirror_11 : decode cX12_mirror 11 = .ok (.aload_n 0, 1) := by decide +kernel
theorem dX12_mirror_12 : decode cX12_mirror 12 = .ok (.getfield 12, 3) := by decide +kernel
theorem dX12_mirror_15 : decode cX12_mirror 15 = .ok (.invokevirtual 206, 3) := by decide +kernel
theorem dX12_mirror_18 : decode cX12_mirror 18 = .ok (.istore_n 1, 1) := by decide +kernel
theorem dX12_mirror_19 : decode cX12_mirror 19 = .ok (.aload_n 0, 1) := by decide +kernel
theorem dX12_mirror_20 : decode cX12_mirror 20 = .ok (.getfield 30, 3) := by decide +kernel
theorem dX12_mirror_23 : decode cX12_mirror 23 = .ok (.aload_n 0, 1) := by decide +kernel
theorem dX12_mirror_24 : decode cX12_mirror 24 = .ok (.getfield 12, 3) := by decide +kernel
theorem dX12_mirror_27 : decode cX12_mirror 27 = .ok (.invokevirtual 139, 3) := by decide +kernel
theorem dX12_mirror_30 : decode cX12_mirror 30 = .ok (.iload_n 1, 1) := by decide +kernel
theorem dX12_mirror_31 : decode cX12_mirror 31 = .ok (.ireturn, 1) := by decide +kernel
set_option maxRecDepth 20000 in
theorem ggX12_putStamp_X12_checkPlace : GoodIn wsX12_putStamp wsX12_checkPlace := goodIn_ca (goodIn_r _ [8, 9, 10, 11, 12, 13, 14] (by decide +kernel) (by decide +kernel)) (goodIn_sub (fun _ h => List.mem_cons_of_mem _ (List.mem_append_right _ h)) (by decide +kernel))
set_option maxRecDepth 20000 in
theorem gX12_putStamp_X12_checkPlace : GoodIn wsX12_putStamp (wsV RX12 405 RX12 yX12_checkPlace wsX12_checkPlace) := goodIn_app (goodIn_of _ (by decide +kernel)) ggX12_putStamp_X12_checkPlace
set_option maxRecDepth 20000 in
theorem ggX12_putStamp_X6_isStamp : GoodIn wsX12_putStamp wsX6_isStamp := goodIn_r _ [17] (by decide +kernel) (by decide +kernel)
set_option maxRecDepth 20000 in
theorem gX12_putStamp_X6_isStamp : GoodIn wsX12_putStamp (va_wsS RX12 408 yX6_isStamp wsX6_isStamp) := goodIn_app (goodIn_of _ (by decide +kernel)) ggX12_putStamp_X6_isStamp
set_option maxRecDepth 20000 in
theorem ggX12_putStamp_X6_takes : GoodIn wsX12_putStamp wsX6_takes := goodIn_r _ [20] (by decide +kernel) (by decide +kernel)
set_option maxRecDepth 20000 in
theorem gX12_putStamp_X6_takes : GoodIn wsX12_putStamp (va_wsS RX12 411 yX6_takes wsX6_takes) := goodIn_app (goodIn_of _ (by decide +kernel)) ggX12_putStamp_X6_takes
set_option maxRecDepth 20000 in
theorem ggX12_putStamp_X6_codeOf : GoodIn wsX12_putStamp wsX6_codeOf := goodIn_r _ [23] (by decide +kernel) (by decide +kernel)
set_option maxRecDepth 20000 in
theorem gX12_putStamp_X6_codeOf : GoodIn wsX12_putStamp (va_wsS RX12 414 yX6_codeOf wsX6_codeOf) := goodIn_app (goodIn_of _ (by decide +kernel)) ggX12_putStamp_X6_codeOf
set_option maxRecDepth 20000 in
theorem ggX12_putStamp_X6_put : GoodIn wsX12_putStamp wsX6_put := goodIn_r _ [27, 28, 29, 12, 13, 14, 45] (by decide +kernel) (by decide +kernel)
set_option maxRecDepth 20000 in
theorem gX12_putStamp_X6_put : GoodIn wsX12_putStamp (wsV RX12 417 RX6 yX6_put wsX6_put) := goodIn_app (goodIn_of _ (by decide +kernel)) ggX12_putStamp_X6_put
theorem dX12_putStamp_0 : decode cX12_putStamp 0 = .ok (.aload_n 0, 1) := by decide +kernel
theorem dX12_putStamp_1 : decode cX12_putStamp 1 = .ok (.iload_n 1, 1) := by decide +kernel
theorem dX12_putStamp_2 : decode cX12_putStamp 2 = .ok (.iload_n 2, 1) := by decide +kernel
theorem dX12_putStamp_3 : decode cX12_putStamp 3 = .ok (.invokevirtual 405, 3) := by decide +kernel
theorem dX12_putStamp_6 : decode cX12_putStamp 6 = .ok (.iload_n 3, 1) := by decide +kernel
theorem dX12_putStamp_7 : decode cX12_putStamp 7 = .ok (.iload 4, 2) := by decide +kernel
theorem dX12_putStamp_9 : decode cX12_putStamp 9 = .ok (.iload 5, 2) := by decide +kernel
theorem dX12_putStamp_11 : decode cX12_putStamp 11 = .ok (.invokestatic 408, 3) := by decide +kernel
theorem dX12_putStamp_14 : decode cX12_putStamp 14 = .ok (.ifCond .ne 11, 3) := by decide +kernel
theorem dX12_putStamp_17 : decode cX12_putStamp 17 = .ok (.new 104, 3) := by decide +kernel
theorem dX12_putStamp_20 : decode cX12_putStamp 20 = .ok (.dup, 1) := by decide +kernel
theorem dX12_putStamp_21 : decode cX12_putStamp 21 = .ok (.invokespecial 106, 3) := by decide +kernel
theorem dX12_putStamp_24 : decode cX12_putStamp 24 = .ok (.athrow, 1) := by decide +kernel
theorem dX12_putStamp_25 : decode cX12_putStamp 25 = .ok (.iload_n 1, 1) := by decide +kernel
theorem dX12_putStamp_26 : decode cX12_putStamp 26 = .ok (.iload_n 3, 1) := by decide +kernel
theorem dX12_putStamp_27 : decode cX12_putStamp 27 = .ok (.invokestatic 411, 3) := by decide +kernel
theorem dX12_putStamp_30 : decode cX12_putStamp 30 = .ok (.ifCond .ne 5, 3) := by decide +kernel
theorem dX12_putStamp_33 : decode cX12_putStamp 33 = .ok (.iconst 0, 1) := by decide +kernel
theorem dX12_putStamp_34 : decode cX12_putStamp 34 = .ok (.ireturn, 1) := by decide +kernel
theorem dX12_putStamp_35 : decode cX12_putStamp 35 = .ok (.aload_n 0, 1) := by decide +kernel
theorem dX12_putStamp_36 : decode cX12_putStamp 36 = .ok (.getfield 53, 3) := by decide +kernel
theorem dX12_putStamp_39 : decode cX12_putStamp 39 = .ok (.iload_n 1, 1) := by decide +kernel
theorem dX12_putStamp_40 : decode cX12_putStamp 40 = .ok (.iload_n 2, 1) := by decide +kernel
theorem dX12_putStamp_41 : decode cX12_putStamp 41 = .ok (.iload_n 3, 1) := by decide +kernel
theorem dX12_putStamp_42 : decode cX12_putStamp 42 = .ok (.iload 4, 2) := by decide +kernel
theorem dX12_putStamp_44 : decode cX12_putStamp 44 = .ok (.iload 5, 2) := by decide +kernel
theorem dX12_putStamp_46 : decode cX12_putStamp 46 = .ok (.invokestatic 414, 3) := by decide +kernel
theorem dX12_putStamp_49 : decode cX12_putStamp 49 = .ok (.invokevirtual 417, 3) := by decide +kernel
theorem dX12_putStamp_52 : decode cX12_putStamp 52 = .ok (.iconst 1, 1) := by decide +kernel
theorem dX12_putStamp_53 : decode cX12_putStamp 53 = .ok (.ireturn, 1) := by decide +kernel
set_option maxRecDepth 20000 in
theorem ggX12_takeStamp_X12_checkPlace : GoodIn wsX12_takeStamp wsX12_checkPlace := goodIn_ca (goodIn_r _ [6, 7, 8, 9, 10, 11, 12] (by decide +kernel) (by decide +kernel)) (goodIn_sub (fun _ h => List.mem_cons_of_mem _ (List.mem_append_right _ h)) (by decide +kernel))
set_option maxRecDepth 20000 in
theorem gX12_takeStamp_X12_checkPlace : GoodIn wsX12_takeStamp (wsV RX12 405 RX12 yX12_checkPlace wsX12_checkPlace) := goodIn_app (goodIn_of _ (by decide +kernel)) ggX12_takeStamp_X12_checkPlace
set_option maxRecDepth 20000 in
theorem ggX12_takeStamp_X6_at : GoodIn wsX12_takeStamp wsX6_at := goodIn_r _ [16, 17, 18, 10, 11, 12, 38] (by decide +kernel) (by decide +kernel)
set_option maxRecDepth 20000 in
theorem gX12_takeStamp_X6_at : GoodIn wsX12_takeStamp (wsV RX12 233 RX6 yX6_at wsX6_at) := goodIn_app (goodIn_of _ (by decide +kernel)) ggX12_takeStamp_X6_at
set_option maxRecDepth 20000 in
theorem ggX12_takeStamp_X6_put : GoodIn wsX12_takeStamp wsX6_put := goodIn_r _ [22, 17, 18, 10, 11, 12, 38] (by decide +kernel) (by decide +kernel)
set_option maxRecDepth 20000 in
theorem gX12_takeStamp_X6_put : GoodIn wsX12_takeStamp (wsV RX12 417 RX6 yX6_put wsX6_put) := goodIn_app (goodIn_of _ (by decide +kernel)) ggX12_takeStamp_X6_put
theorem dX12_takeStamp_0 : decode cX12_takeStamp 0 = .ok (.aload_n 0, 1) := by decide +kernel
theorem dX12_takeStamp_1 : decode cX12_takeStamp 1 = .ok (.iload_n 1, 1) := by decide +kernel
theorem dX12_takeStamp_2 : decode cX12_takeStamp 2 = .ok (.iload_n 2, 1) := by decide +kernel
theorem dX12_takeStamp_3 : decode cX12_takeStamp 3 = .ok (.invokevirtual 405, 3) := by decide +kernel
theorem dX12_takeStamp_6 : decode cX12_takeStamp 6 = .ok (.aload_n 0, 1) := by decide +kernel
theorem dX12_takeStamp_7 : decode cX12_takeStamp 7 = .ok (.getfield 53, 3) := by decide +kernel
theorem dX12_takeStamp_10 : decode cX12_takeStamp 10 = .ok (.iload_n 1, 1) := by decide +kernel
theorem dX12_takeStamp_11 : decode cX12_takeStamp 11 = .ok (.iload_n 2, 1) := by decide +kernel
theorem dX12_takeStamp_12 : decode cX12_takeStamp 12 = .ok (.invokevirtual 233, 3) := by decide +kernel
theorem dX12_takeStamp_15 : decode cX12_takeStamp 15 = .ok (.iconst (-1), 1) := by decide +kernel
theorem dX12_takeStamp_16 : decode cX12_takeStamp 16 = .ok (.if_icmp .eq 7, 3) := by decide +kernel
theorem dX12_takeStamp_19 : decode cX12_takeStamp 19 = .ok (.iconst 1, 1) := by decide +kernel
theorem dX12_takeStamp_20 : decode cX12_takeStamp 20 = .ok (.goto 4, 3) := by decide +kernel
theorem dX12_takeStamp_23 : decode cX12_takeStamp 23 = .ok (.iconst 0, 1) := by decide +kernel
theorem dX12_takeStamp_24 : decode cX12_takeStamp 24 = .ok (.istore_n 3, 1) := by decide +kernel
theorem dX12_takeStamp_25 : decode cX12_takeStamp 25 = .ok (.aload_n 0, 1) := by decide +kernel
theorem dX12_takeStamp_26 : decode cX12_takeStamp 26 = .ok (.getfield 53, 3) := by decide +kernel
theorem dX12_takeStamp_29 : decode cX12_takeStamp 29 = .ok (.iload_n 1, 1) := by decide +kernel
theorem dX12_takeStamp_30 : decode cX12_takeStamp 30 = .ok (.iload_n 2, 1) := by decide +kernel
theorem dX12_takeStamp_31 : decode cX12_takeStamp 31 = .ok (.iconst (-1), 1) := by decide +kernel
theorem dX12_takeStamp_32 : decode cX12_takeStamp 32 = .ok (.invokevirtual 417, 3) := by decide +kernel
theorem dX12_takeStamp_35 : decode cX12_takeStamp 35 = .ok (.iload_n 3, 1) := by decide +kernel
theorem dX12_takeStamp_36 : decode cX12_takeStamp 36 = .ok (.ireturn, 1) := by decide +kernel
set_option maxRecDepth 20000 in
theorem ggX12_stampAt_X12_checkPlace : GoodIn wsX12_stampAt wsX12_checkPlace := goodIn_ca (goodIn_r _ [6, 7, 8, 9, 10, 11, 12] (by decide +kernel) (by decide +kernel)) (goodIn_sub (fun _ h => List.mem_cons_of_mem _ (List.mem_append_right _ h)) (by decide +kernel))
set_option maxRecDepth 20000 in
theorem gX12_stampAt_X12_checkPlace : GoodIn wsX12_stampAt (wsV RX12 405 RX12 yX12_checkPlace wsX12_checkPlace) := goodIn_app (goodIn_of _ (by decide +kernel)) ggX12_stampAt_X12_checkPlace
set_option maxRecDepth 20000 in
theorem ggX12_stampAt_X6_at : GoodIn wsX12_stampAt wsX6_at := goodIn_r _ [16, 17, 18, 10, 11, 12, 34] (by decide +kernel) (by decide +kernel)
set_option maxRecDepth 20000 in
theorem gX12_stampAt_X6_at : GoodIn wsX12_stampAt (wsV RX12 233 RX6 yX6_at wsX6_at) := goodIn_app (goodIn_of _ (by decide +kernel)) ggX12_stampAt_X6_at
theorem dX12_stampAt_0 : decode cX12_stampAt 0 = .ok (.aload_n 0, 1) := by decide +kernel
theorem dX12_stampAt_1 : decode cX12_stampAt 1 = .ok (.iload_n 1, 1) := by decide +kernel
theorem dX12_stampAt_2 : decode cX12_stampAt 2 = .ok (.iload_n 2, 1) := by decide +kernel
theorem dX12_stampAt_3 : decode cX12_stampAt 3 = .ok (.invokevirtual 405, 3) := by decide +kernel
theorem dX12_stampAt_6 : decode cX12_stampAt 6 = .ok (.aload_n 0, 1) := by decide +kernel
theorem dX12_stampAt_7 : decode cX12_stampAt 7 = .ok (.getfield 53, 3) := by decide +kernel
theorem dX12_stampAt_10 : decode cX12_stampAt 10 = .ok (.iload_n 1, 1) := by decide +kernel
theorem dX12_stampAt_11 : decode cX12_stampAt 11 = .ok (.iload_n 2, 1) := by decide +kernel
theorem dX12_stampAt_12 : decode cX12_stampAt 12 = .ok (.invokevirtual 233, 3) := by decide +kernel
theorem dX12_stampAt_15 : decode cX12_stampAt 15 = .ok (.ireturn, 1) := by decide +kernel
set_option maxRecDepth 20000 in
theorem ggX12_moveStamp_X12_checkPlace : GoodIn wsX12_moveStamp wsX12_checkPlace := goodIn_ca (goodIn_r _ [6, 7, 8, 9, 10, 11, 12] (by decide +kernel) (by decide +kernel)) (goodIn_sub (fun _ h => List.mem_cons_of_mem _ (List.mem_append_left _ (List.mem_append_right _ h))) (by decide +kernel))
set_option maxRecDepth 20000 in
theorem gX12_moveStamp_X12_checkPlace : GoodIn wsX12_moveStamp (wsV RX12 405 RX12 yX12_checkPlace wsX12_checkPlace) := goodIn_app (goodIn_of _ (by decide +kernel)) ggX12_moveStamp_X12_checkPlace
set_option maxRecDepth 20000 in
theorem ggX12_moveStamp_X12_checkStamp : GoodIn wsX12_moveStamp wsX12_checkStamp := goodIn_ca (goodIn_r _ [16, 17, 18, 1, 19, 20, 21, 11, 22, 23, 24, 10, 12, 35, 36, 37, 38, 39, 40, 41, 42, 43, 44, 45, 46, 47, 48, 49, 50] (by decide +kernel) (by decide +kernel)) (goodIn_sub (fun _ h => List.mem_cons_of_mem _ (List.mem_append_right _ h)) (by decide +kernel))
set_option maxRecDepth 20000 in
theorem gX12_moveStamp_X12_checkStamp : GoodIn wsX12_moveStamp (wsV RX12 420 RX12 yX12_checkStamp wsX12_checkStamp) := goodIn_app (goodIn_of _ (by decide +kernel)) ggX12_moveStamp_X12_checkStamp
set_option maxRecDepth 20000 in
theorem ggX12_moveStamp_X6_at : GoodIn wsX12_moveStamp wsX6_at := goodIn_r _ [22, 23, 24, 10, 11, 12, 50] (by decide +kernel) (by decide +kernel)
set_option maxRecDepth 20000 in
theorem gX12_moveStamp_X6_at : GoodIn wsX12_moveStamp (wsV RX12 233 RX6 yX6_at wsX6_at) := goodIn_app (goodIn_of _ (by decide +kernel)) ggX12_moveStamp_X6_at
set_option maxRecDepth 20000 in
theorem ggX12_moveStamp_X6_kindOf : GoodIn wsX12_moveStamp wsX6_kindOf := goodIn_r _ [27] (by decide +kernel) (by decide +kernel)
set_option maxRecDepth 20000 in
theorem gX12_moveStamp_X6_kindOf : GoodIn wsX12_moveStamp (va_wsS RX12 423 yX6_kindOf wsX6_kindOf) := goodIn_app (goodIn_of _ (by decide +kernel)) ggX12_moveStamp_X6_kindOf
set_option maxRecDepth 20000 in
theorem ggX12_moveStamp_X6_takes : GoodIn wsX12_moveStamp wsX6_takes := goodIn_r _ [30] (by decide +kernel) (by decide +kernel)
set_option maxRecDepth 20000 in
theorem gX12_moveStamp_X6_takes : GoodIn wsX12_moveStamp (va_wsS RX12 411 yX6_takes wsX6_takes) := goodIn_app (goodIn_of _ (by decide +kernel)) ggX12_moveStamp_X6_takes
set_option maxRecDepth 20000 in
theorem ggX12_moveStamp_X6_put : GoodIn wsX12_moveStamp wsX6_put := goodIn_r _ [34, 23, 24, 10, 11, 12, 50] (by decide +kernel) (by decide +kernel)
set_option maxRecDepth 20000 in
theorem gX12_moveStamp_X6_put : GoodIn wsX12_moveStamp (wsV RX12 417 RX6 yX6_put wsX6_put) := goodIn_app (goodIn_of _ (by decide +kernel)) ggX12_moveStamp_X6_put
theorem dX12_moveStamp_0 : decode cX12_moveStamp 0 = .ok (.aload_n 0, 1) := by decide +kernel
theorem dX12_moveStamp_1 : decode cX12_moveStamp 1 = .ok (.iload_n 1, 1) := by decide +kernel
theorem dX12_moveStamp_2 : decode cX12_moveStamp 2 = .ok (.iload_n 2, 1) := by decide +kernel
theorem dX12_moveStamp_3 : decode cX12_moveStamp 3 = .ok (.invokevirtual 405, 3) := by decide +kernel
theorem dX12_moveStamp_6 : decode cX12_moveStamp 6 = .ok (.aload_n 0, 1) := by decide +kernel
theorem dX12_moveStamp_7 : decode cX12_moveStamp 7 = .ok (.iload_n 3, 1) := by decide +kernel
theorem dX12_moveStamp_8 : decode cX12_moveStamp 8 = .ok (.iload 4, 2) := by decide +kernel
theorem dX12_moveStamp_10 : decode cX12_moveStamp 10 = .ok (.invokevirtual 405, 3) := by decide +kernel
theorem dX12_moveStamp_13 : decode cX12_moveStamp 13 = .ok (.aload_n 0, 1) := by decide +kernel
theorem dX12_moveStamp_14 : decode cX12_moveStamp 14 = .ok (.iload_n 1, 1) := by decide +kernel
theorem dX12_moveStamp_15 : decode cX12_moveStamp 15 = .ok (.iload_n 2, 1) := by decide +kernel
theorem dX12_moveStamp_16 : decode cX12_moveStamp 16 = .ok (.invokevirtual 420, 3) := by decide +kernel
theorem dX12_moveStamp_19 : decode cX12_moveStamp 19 = .ok (.aload_n 0, 1) := by decide +kernel
theorem dX12_moveStamp_20 : decode cX12_moveStamp 20 = .ok (.getfield 53, 3) := by decide +kernel
theorem dX12_moveStamp_23 : decode cX12_moveStamp 23 = .ok (.iload_n 1, 1) := by decide +kernel
theorem dX12_moveStamp_24 : decode cX12_moveStamp 24 = .ok (.iload_n 2, 1) := by decide +kernel
theorem dX12_moveStamp_25 : decode cX12_moveStamp 25 = .ok (.invokevirtual 233, 3) := by decide +kernel
theorem dX12_moveStamp_28 : decode cX12_moveStamp 28 = .ok (.istore 5, 2) := by decide +kernel
theorem dX12_moveStamp_30 : decode cX12_moveStamp 30 = .ok (.iload_n 3, 1) := by decide +kernel
theorem dX12_moveStamp_31 : decode cX12_moveStamp 31 = .ok (.iload 5, 2) := by decide +kernel
theorem dX12_moveStamp_33 : decode cX12_moveStamp 33 = .ok (.invokestatic 423, 3) := by decide +kernel
theorem dX12_moveStamp_36 : decode cX12_moveStamp 36 = .ok (.invokestatic 411, 3) := by decide +kernel
theorem dX12_moveStamp_39 : decode cX12_moveStamp 39 = .ok (.ifCond .ne 5, 3) := by decide +kernel
theorem dX12_moveStamp_42 : decode cX12_moveStamp 42 = .ok (.iconst 0, 1) := by decide +kernel
theorem dX12_moveStamp_43 : decode cX12_moveStamp 43 = .ok (.ireturn, 1) := by decide +kernel
theorem dX12_moveStamp_44 : decode cX12_moveStamp 44 = .ok (.aload_n 0, 1) := by decide +kernel
theorem dX12_moveStamp_45 : decode cX12_moveStamp 45 = .ok (.getfield 53, 3) := by decide +kernel
theorem dX12_moveStamp_48 : decode cX12_moveStamp 48 = .ok (.iload_n 1, 1) := by decide +kernel
theorem dX12_moveStamp_49 : decode cX12_moveStamp 49 = .ok (.iload_n 2, 1) := by decide +kernel
theorem dX12_moveStamp_50 : decode cX12_moveStamp 50 = .ok (.iconst (-1), 1) := by decide +kernel
theorem dX12_moveStamp_51 : decode cX12_moveStamp 51 = .ok (.invokevirtual 417, 3) := by decide +kernel
theorem dX12_moveStamp_54 : decode cX12_moveStamp 54 = .ok (.aload_n 0, 1) := by decide +kernel
theorem dX12_moveStamp_55 : decode cX12_moveStamp 55 = .ok (.getfield 53, 3) := by decide +kernel
theorem dX12_moveStamp_58 : decode cX12_moveStamp 58 = .ok (.iload_n 3, 1) := by decide +kernel
theorem dX12_moveStamp_59 : decode cX12_moveStamp 59 = .ok (.iload 4, 2) := by decide +kernel
theorem dX12_moveStamp_61 : decode cX12_moveStamp 61 = .ok (.iload 5, 2) := by decide +kernel
theorem dX12_moveStamp_63 : decode cX12_moveStamp 63 = .ok (.invokevirtual 417, 3) := by decide +kernel
theorem dX12_moveStamp_66 : decode cX12_moveStamp 66 = .ok (.iconst 1, 1) := by decide +kernel
theorem dX12_moveStamp_67 : decode cX12_moveStamp 67 = .ok (.ireturn, 1) := by decide +kernel
set_option maxRecDepth 20000 in
theorem ggX12_stamp_X12_checkPlace : GoodIn wsX12_stamp wsX12_checkPlace := goodIn_ca (goodIn_r _ [8, 9, 10, 11, 12, 13, 14] (by decide +kernel) (by decide +kernel)) (goodIn_sub (fun _ h => List.mem_cons_of_mem _ (List.mem_append_left _ (List.mem_append_right _ h))) (by decide +kernel))
set_option maxRecDepth 20000 in
theorem gX12_stamp_X12_checkPlace : GoodIn wsX12_stamp (wsV RX12 405 RX12 yX12_checkPlace wsX12_checkPlace) := goodIn_app (goodIn_of _ (by decide +kernel)) ggX12_stamp_X12_checkPlace
set_option maxRecDepth 20000 in
theorem ggX12_stamp_X12_checkCell : GoodIn wsX12_stamp wsX12_checkCell := goodIn_ca (goodIn_r _ [18, 9, 10, 2, 19, 20, 21, 22, 23, 24, 25, 104, 105, 106, 107, 108, 109, 110, 111, 112, 113, 114, 115, 116, 117, 118, 119, 120, 121, 122, 123, 124, 125, 126, 127, 128] (by decide +kernel) (by decide +kernel)) (goodIn_sub (fun _ h => List.mem_cons_of_mem _ (List.mem_append_left _ (List.mem_append_right _ h))) (by decide +kernel))
set_option maxRecDepth 20000 in
theorem gX12_stamp_X12_checkCell : GoodIn wsX12_stamp (wsV RX12 268 RX12 yX12_checkCell wsX12_checkCell) := goodIn_app (goodIn_of _ (by decide +kernel)) ggX12_stamp_X12_checkCell
set_option maxRecDepth 20000 in
theorem ggX12_stamp_X12_checkStamp : GoodIn wsX12_stamp wsX12_checkStamp := goodIn_ca (goodIn_r _ [29, 30, 31, 3, 32, 33, 34, 13, 35, 36, 37, 12, 14, 104, 105, 106, 107, 108, 109, 110, 111, 112, 113, 114, 115, 116, 117, 118, 129] (by decide +kernel) (by decide +kernel)) (goodIn_sub (fun _ h => List.mem_cons_of_mem _ (List.mem_append_right _ h)) (by decide +kernel))
set_option maxRecDepth 20000 in
theorem gX12_stamp_X12_checkStamp : GoodIn wsX12_stamp (wsV RX12 420 RX12 yX12_checkStamp wsX12_checkStamp) := goodIn_app (goodIn_of _ (by decide +kernel)) ggX12_stamp_X12_checkStamp
set_option maxRecDepth 20000 in
theorem ggX12_stamp_X3_open : GoodIn wsX12_stamp wsX3_open := goodIn_r _ [42, 43, 44, 45, 46, 47, 22, 48, 24, 25, 49, 50, 51, 52, 53, 54, 55, 56, 57, 58, 59, 60, 61, 62, 63, 64, 130, 131, 132, 119, 120, 121, 122, 123, 124, 125, 126, 127, 128] (by decide +kernel) (by decide +kernel)
set_option maxRecDepth 20000 in
theorem gX12_stamp_X3_open : GoodIn wsX12_stamp (wsV RX12 126 RX3 yX3_open wsX3_open) := goodIn_app (goodIn_of _ (by decide +kernel)) ggX12_stamp_X3_open
set_option maxRecDepth 20000 in
theorem ggX12_stamp_X6_at : GoodIn wsX12_stamp wsX6_at := goodIn_r _ [35, 36, 37, 12, 13, 14, 129] (by decide +kernel) (by decide +kernel)
set_option maxRecDepth 20000 in
theorem gX12_stamp_X6_at : GoodIn wsX12_stamp (wsV RX12 233 RX6 yX6_at wsX6_at) := goodIn_app (goodIn_of _ (by decide +kernel)) ggX12_stamp_X6_at
set_option maxRecDepth 20000 in
theorem ggX12_stamp_X6_press : GoodIn wsX12_stamp wsX6_press := goodIn_r _ [67, 68, 69, 70, 71, 72, 73, 74, 75, 76, 77, 78, 13, 79, 80, 81, 82, 22, 83, 24, 25, 64, 84, 85, 86, 87, 88, 20, 21, 23, 119, 120, 121, 122, 123, 124, 125, 126, 127, 128] (by decide +kernel) (by decide +kernel)
set_option maxRecDepth 20000 in
theorem gX12_stamp_X6_press : GoodIn wsX12_stamp (va_wsS RX12 236 yX6_press wsX6_press) := goodIn_app (goodIn_of _ (by decide +kernel)) ggX12_stamp_X6_press
set_option maxRecDepth 20000 in
theorem ggX12_stamp_X3_close : GoodIn wsX12_stamp wsX3_close := goodIn_r _ [92, 43, 44, 93, 94, 71, 72, 73, 95, 96, 97, 22, 98, 25, 24, 99, 81, 82, 83, 64, 100, 101, 102, 103, 54, 130, 131, 132, 119, 120, 121, 122, 123, 124, 125, 126, 127, 128] (by decide +kernel) (by decide +kernel)
set_option maxRecDepth 20000 in
theorem gX12_stamp_X3_close : GoodIn wsX12_stamp (wsV RX12 139 RX3 yX3_close wsX3_close) := goodIn_app (goodIn_of _ (by decide +kernel)) ggX12_stamp_X3_close
theorem dX12_stamp_0 : decode cX12_stamp 0 = .ok (.aload_n 0, 1) := by decide +kernel
theorem dX12_stamp_1 : decode cX12_stamp 1 = .ok (.iload_n 1, 1) := by decide +kernel
theorem dX12_stamp_2 : decode cX12_stamp 2 = .ok (.iload_n 2, 1) := by decide +kernel
theorem dX12_stamp_3 : decode cX12_stamp 3 = .ok (.invokevirtual 405, 3) := by decide +kernel
theorem dX12_stamp_6 : decode cX12_stamp 6 = .ok (.aload_n 0, 1) := by decide +kernel
theorem dX12_stamp_7 : decode cX12_stamp 7 = .ok (.iload_n 3, 1) := by decide +kernel
theorem dX12_stamp_8 : decode cX12_stamp 8 = .ok (.iload 4, 2) := by decide +kernel
theorem dX12_stamp_10 : decode cX12_stamp 10 = .ok (.invokevirtual 268, 3) := by decide +kernel
theorem dX12_stamp_13 : decode cX12_stamp 13 = .ok (.aload_n 0, 1) := by decide +kernel
theorem dX12_stamp_14 : decode cX12_stamp 14 = .ok (.iload_n 1, 1) := by decide +kernel
theorem dX12_stamp_15 : decode cX12_stamp 15 = .ok (.iload_n 2, 1) := by decide +kernel
theorem dX12_stamp_16 : decode cX12_stamp 16 = .ok (.invokevirtual 420, 3) := by decide +kernel
theorem dX12_stamp_19 : decode cX12_stamp 19 = .ok (.aload_n 0, 1) := by decide +kernel
theorem dX12_stamp_20 : decode cX12_stamp 20 = .ok (.getfield 30, 3) := by decide +kernel
theorem dX12_stamp_23 : decode cX12_stamp 23 = .ok (.aload_n 0, 1) := by decide +kernel
theorem dX12_stamp_24 : decode cX12_stamp 24 = .ok (.getfield 12, 3) := by decide +kernel
theorem dX12_stamp_27 : decode cX12_stamp 27 = .ok (.invokevirtual 126, 3) := by decide +kernel
theorem dX12_stamp_30 : decode cX12_stamp 30 = .ok (.aload_n 0, 1) := by decide +kernel
theorem dX12_stamp_31 : decode cX12_stamp 31 = .ok (.getfield 12, 3) := by decide +kernel
theorem dX12_stamp_34 : decode cX12_stamp 34 = .ok (.aload_n 0, 1) := by decide +kernel
theorem dX12_stamp_35 : decode cX12_stamp 35 = .ok (.getfield 53, 3) := by decide +kernel
theorem dX12_stamp_38 : decode cX12_stamp 38 = .ok (.iload_n 1, 1) := by decide +kernel
theorem dX12_stamp_39 : decode cX12_stamp 39 = .ok (.iload_n 2, 1) := by decide +kernel
theorem dX12_stamp_40 : decode cX12_stamp 40 = .ok (.invokevirtual 233, 3) := by decide +kernel
theorem dX12_stamp_43 : decode cX12_stamp 43 = .ok (.iload_n 3, 1) := by decide +kernel
theorem dX12_stamp_44 : decode cX12_stamp 44 = .ok (.iload 4, 2) := by decide +kernel
theorem dX12_stamp_46 : decode cX12_stamp 46 = .ok (.invokestatic 236, 3) := by decide +kernel
theorem dX12_stamp_49 : decode cX12_stamp 49 = .ok (.istore 5, 2) := by decide +kernel
theorem dX12_stamp_51 : decode cX12_stamp 51 = .ok (.aload_n 0, 1) := by decide +kernel
theorem dX12_stamp_52 : decode cX12_stamp 52 = .ok (.getfield 30, 3) := by decide +kernel
theorem dX12_stamp_55 : decode cX12_stamp 55 = .ok (.aload_n 0, 1) := by decide +kernel
theorem dX12_stamp_56 : decode cX12_stamp 56 = .ok (.getfield 12, 3) := by decide +kernel
theorem dX12_stamp_59 : decode cX12_stamp 59 = .ok (.invokevirtual 139, 3) := by decide +kernel
theorem dX12_stamp_62 : decode cX12_stamp 62 = .ok (.iload 5, 2) := by decide +kernel
theorem dX12_stamp_64 : decode cX12_stamp 64 = .ok (.ireturn, 1) := by decide +kernel
set_option maxRecDepth 20000 in
theorem ggX12_stampGain_X12_checkPlace : GoodIn wsX12_stampGain wsX12_checkPlace := goodIn_ca (goodIn_r _ [8, 9, 10, 11, 12, 13, 14] (by decide +kernel) (by decide +kernel)) (goodIn_sub (fun _ h => List.mem_cons_of_mem _ (List.mem_append_left _ (List.mem_append_right _ h))) (by decide +kernel))
set_option maxRecDepth 20000 in
theorem gX12_stampGain_X12_checkPlace : GoodIn wsX12_stampGain (wsV RX12 405 RX12 yX12_checkPlace wsX12_checkPlace) := goodIn_app (goodIn_of _ (by decide +kernel)) ggX12_stampGain_X12_checkPlace
set_option maxRecDepth 20000 in
theorem ggX12_stampGain_X12_checkCell : GoodIn wsX12_stampGain wsX12_checkCell := goodIn_ca (goodIn_r _ [18, 9, 10, 2, 19, 20, 21, 22, 23, 24, 25, 87, 88, 89, 90, 91, 92, 93, 94, 95, 96, 97, 98, 99, 100, 101, 102, 103, 104, 105, 106, 107, 108, 109, 110, 111] (by decide +kernel) (by decide +kernel)) (goodIn_sub (fun _ h => List.mem_cons_of_mem _ (List.mem_append_left _ (List.mem_append_right _ h))) (by decide +kernel))
set_option maxRecDepth 20000 in
theorem gX12_stampGain_X12_checkCell : GoodIn wsX12_stampGain (wsV RX12 268 RX12 yX12_checkCell wsX12_checkCell) := goodIn_app (goodIn_of _ (by decide +kernel)) ggX12_stampGain_X12_checkCell
set_option maxRecDepth 20000 in
theorem ggX12_stampGain_X12_checkStamp : GoodIn wsX12_stampGain wsX12_checkStamp := goodIn_ca (goodIn_r _ [29, 30, 31, 3, 32, 33, 34, 13, 35, 36, 37, 12, 14, 87, 88, 89, 90, 91, 92, 93, 94, 95, 96, 97, 98, 99, 100, 101, 112] (by decide +kernel) (by decide +kernel)) (goodIn_sub (fun _ h => List.mem_cons_of_mem _ (List.mem_append_right _ h)) (by decide +kernel))
set_option maxRecDepth 20000 in
theorem gX12_stampGain_X12_checkStamp : GoodIn wsX12_stampGain (wsV RX12 420 RX12 yX12_checkStamp wsX12_checkStamp) := goodIn_app (goodIn_of _ (by decide +kernel)) ggX12_stampGain_X12_checkStamp
set_option maxRecDepth 20000 in
theorem ggX12_stampGain_X5_copyFrom : GoodIn wsX12_stampGain wsX5_copyFrom := goodIn_r _ [41, 24, 25, 42, 43, 44, 45, 46, 47, 48, 49, 50, 51, 52, 53, 54, 55, 22, 56, 57, 102, 103, 104, 105, 106, 107, 108, 109, 110, 111] (by decide +kernel) (by decide +kernel)
set_option maxRecDepth 20000 in
theorem gX12_stampGain_X5_copyFrom : GoodIn wsX12_stampGain (wsV RX12 114 RX5 yX5_copyFrom wsX5_copyFrom) := goodIn_app (goodIn_of _ (by decide +kernel)) ggX12_stampGain_X5_copyFrom
set_option maxRecDepth 20000 in
theorem ggX12_stampGain_X6_at : GoodIn wsX12_stampGain wsX6_at := goodIn_r _ [35, 36, 37, 12, 13, 14, 112] (by decide +kernel) (by decide +kernel)
set_option maxRecDepth 20000 in
theorem gX12_stampGain_X6_at : GoodIn wsX12_stampGain (wsV RX12 233 RX6 yX6_at wsX6_at) := goodIn_app (goodIn_of _ (by decide +kernel)) ggX12_stampGain_X6_at
set_option maxRecDepth 20000 in
theorem ggX12_stampGain_X6_press : GoodIn wsX12_stampGain wsX6_press := goodIn_r _ [60, 61, 62, 63, 64, 65, 66, 67, 68, 69, 70, 71, 13, 72, 73, 74, 75, 22, 76, 24, 25, 57, 77, 78, 79, 80, 81, 20, 21, 23, 102, 103, 104, 105, 106, 107, 108, 109, 110, 111] (by decide +kernel) (by decide +kernel)
set_option maxRecDepth 20000 in
theorem gX12_stampGain_X6_press : GoodIn wsX12_stampGain (va_wsS RX12 236 yX6_press wsX6_press) := goodIn_app (goodIn_of _ (by decide +kernel)) ggX12_stampGain_X6_press
set_option maxRecDepth 20000 in
theorem ggX12_stampGain_X5_sumOfHeights : GoodIn wsX12_stampGain wsX5_sumOfHeights := goodIn_r _ [85, 25, 24, 86, 74, 75, 22, 76, 57, 102, 103, 104, 105, 106, 107, 108, 109, 110, 111] (by decide +kernel) (by decide +kernel)
set_option maxRecDepth 20000 in
theorem gX12_stampGain_X5_sumOfHeights : GoodIn wsX12_stampGain (wsV RX12 278 RX5 yX5_sumOfHeights wsX5_sumOfHeights) := goodIn_app (goodIn_of _ (by decide +kernel)) ggX12_stampGain_X5_sumOfHeights
theorem dX12_stampGain_0 : decode cX12_stampGain 0 = .ok (.aload_n 0, 1) := by decide +kernel
theorem dX12_stampGain_1 : decode cX12_stampGain 1 = .ok (.iload_n 1, 1) := by decide +kernel
theorem dX12_stampGain_2 : decode cX12_stampGain 2 = .ok (.iload_n 2, 1) := by decide +kernel
theorem dX12_stampGain_3 : decode cX12_stampGain 3 = .ok (.invokevirtual 405, 3) := by decide +kernel
theorem dX12_stampGain_6 : decode cX12_stampGain 6 = .ok (.aload_n 0, 1) := by decide +kernel
theorem dX12_stampGain_7 : decode cX12_stampGain 7 = .ok (.iload_n 3, 1) := by decide +kernel
theorem dX12_stampGain_8 : decode cX12_stampGain 8 = .ok (.iload 4, 2) := by decide +kernel
theorem dX12_stampGain_10 : decode cX12_stampGain 10 = .ok (.invokevirtual 268, 3) := by decide +kernel
theorem dX12_stampGain_13 : decode cX12_stampGain 13 = .ok (.aload_n 0, 1) := by decide +kernel
theorem dX12_stampGain_14 : decode cX12_stampGain 14 = .ok (.iload_n 1, 1) := by decide +kernel
theorem dX12_stampGain_15 : decode cX12_stampGain 15 = .ok (.iload_n 2, 1) := by decide +kernel
theorem dX12_stampGain_16 : decode cX12_stampGain 16 = .ok (.invokevirtual 420, 3) := by decide +kernel
theorem dX12_stampGain_19 : decode cX12_stampGain 19 = .ok (.aload_n 0, 1) := by decide +kernel
theorem dX12_stampGain_20 : decode cX12_stampGain 20 = .ok (.getfield 16, 3) := by decide +kernel
theorem dX12_stampGain_23 : decode cX12_stampGain 23 = .ok (.aload_n 0, 1) := by decide +kernel
theorem dX12_stampGain_24 : decode cX12_stampGain 24 = .ok (.getfield 12, 3) := by decide +kernel
theorem dX12_stampGain_27 : decode cX12_stampGain 27 = .ok (.invokevirtual 114, 3) := by decide +kernel
theorem dX12_stampGain_30 : decode cX12_stampGain 30 = .ok (.aload_n 0, 1) := by decide +kernel
theorem dX12_stampGain_31 : decode cX12_stampGain 31 = .ok (.getfield 16, 3) := by decide +kernel
theorem dX12_stampGain_34 : decode cX12_stampGain 34 = .ok (.aload_n 0, 1) := by decide +kernel
theorem dX12_stampGain_35 : decode cX12_stampGain 35 = .ok (.getfield 53, 3) := by decide +kernel
theorem dX12_stampGain_38 : decode cX12_stampGain 38 = .ok (.iload_n 1, 1) := by decide +kernel
theorem dX12_stampGain_39 : decode cX12_stampGain 39 = .ok (.iload_n 2, 1) := by decide +kernel
theorem dX12_stampGain_40 : decode cX12_stampGain 40 = .ok (.invokevirtual 233, 3) := by decide +kernel
theorem dX12_stampGain_43 : decode cX12_stampGain 43 = .ok (.iload_n 3, 1) := by decide +kernel
theorem dX12_stampGain_44 : decode cX12_stampGain 44 = .ok (.iload 4, 2) := by decide +kernel
theorem dX12_stampGain_46 : decode cX12_stampGain 46 = .ok (.invokestatic 236, 3) := by decide +kernel
theorem dX12_stampGain_49 : decode cX12_stampGain 49 = .ok (.pop, 1) := by decide +kernel
theorem dX12_stampGain_50 : decode cX12_stampGain 50 = .ok (.aload_n 0, 1) := by decide +kernel
theorem dX12_stampGain_51 : decode cX12_stampGain 51 = .ok (.getfield 16, 3) := by decide +kernel
theorem dX12_stampGain_54 : decode cX12_stampGain 54 = .ok (.invokevirtual 278, 3) := by decide +kernel
theorem dX12_stampGain_57 : decode cX12_stampGain 57 = .ok (.aload_n 0, 1) := by decide +kernel
theorem dX12_stampGain_58 : decode cX12_stampGain 58 = .ok (.getfield 12, 3) := by decide +kernel
theorem dX12_stampGain_61 : decode cX12_stampGain 61 = .ok (.invokevirtual 278, 3) := by decide +kernel
theorem dX12_stampGain_64 : decode cX12_stampGain 64 = .ok (.isub, 1) := by decide +kernel
theorem dX12_stampGain_65 : decode cX12_stampGain 65 = .ok (.ireturn, 1) := by decide +kernel
set_option maxRecDepth 20000 in
theorem ggX12_checkPlace_X6_hasPlace : GoodIn wsX12_checkPlace wsX6_hasPlace := goodIn_r _ [6] (by decide +kernel) (by decide +kernel)
set_option maxRecDepth 20000 in
theorem gX12_checkPlace_X6_hasPlace : GoodIn wsX12_checkPlace (va_wsS RX12 230 yX6_hasPlace wsX6_hasPlace) := goodIn_app (goodIn_of _ (by decide +kernel)) ggX12_checkPlace_X6_hasPlace
theorem dX12_checkPlace_0 : decode cX12_checkPlace 0 = .ok (.iload_n 1, 1) := by decide +kernel
theorem dX12_checkPlace_1 : decode cX12_checkPlace 1 = .ok (.iload_n 2, 1) := by decide +kernel
theorem dX12_checkPlace_2 : decode cX12_checkPlace 2 = .ok (.invokestatic 230, 3) := by decide +kernel
theorem dX12_checkPlace_5 : decode cX12_checkPlace 5 = .ok (.ifCond .ne 11, 3) := by decide +kernel
theorem dX12_checkPlace_8 : decode cX12_checkPlace 8 = .ok (.new 290, 3) := by decide +kernel
theorem dX12_checkPlace_11 : decode cX12_checkPlace 11 = .ok (.dup, 1) := by decide +kernel
theorem dX12_checkPlace_12 : decode cX12_checkPlace 12 = .ok (.invokespecial 292, 3) := by decide +kernel
theorem dX12_checkPlace_15 : decode cX12_checkPlace 15 = .ok (.athrow, 1) := by decide +kernel
theorem dX12_checkPlace_16 : decode cX12_checkPlace 16 = .ok (.return_, 1) := by decide +kernel
set_option maxRecDepth 20000 in
theorem ggX12_checkStamp_X6_at : GoodIn wsX12_checkStamp wsX6_at := goodIn_r _ [8, 9, 10, 11, 7, 12, 28] (by decide +kernel) (by decide +kernel)
set_option maxRecDepth 20000 in
theorem gX12_checkStamp_X6_at : GoodIn wsX12_checkStamp (wsV RX12 233 RX6 yX6_at wsX6_at) := goodIn_app (goodIn_of _ (by decide +kernel)) ggX12_checkStamp_X6_at
theorem dX12_checkStamp_0 : decode cX12_checkStamp 0 = .ok (.aload_n 0, 1) := by decide +kernel
theorem dX12_checkStamp_1 : decode cX12_checkStamp 1 = .ok (.getfield 53, 3) := by decide +kernel
theorem dX12_checkStamp_4 : decode cX12_checkStamp 4 = .ok (.iload_n 1, 1) := by decide +kernel
theorem dX12_checkStamp_5 : decode cX12_checkStamp 5 = .ok (.iload_n 2, 1) := by decide +kernel
theorem dX12_checkStamp_6 : decode cX12_checkStamp 6 = .ok (.invokevirtual 233, 3) := by decide +kernel
theorem dX12_checkStamp_9 : decode cX12_checkStamp 9 = .ok (.iconst (-1), 1) := by decide +kernel
theorem dX12_checkStamp_10 : decode cX12_checkStamp 10 = .ok (.if_icmp .ne 11, 3) := by decide +kernel
theorem dX12_checkStamp_13 : decode cX12_checkStamp 13 = .ok (.new 94, 3) := by decide +kernel
theorem dX12_checkStamp_16 : decode cX12_checkStamp 16 = .ok (.dup, 1) := by decide +kernel
theorem dX12_checkStamp_17 : decode cX12_checkStamp 17 = .ok (.invokespecial 96, 3) := by decide +kernel
theorem dX12_checkStamp_20 : decode cX12_checkStamp 20 = .ok (.athrow, 1) := by decide +kernel
theorem dX12_checkStamp_21 : decode cX12_checkStamp 21 = .ok (.return_, 1) := by decide +kernel
set_option maxRecDepth 20000 in
theorem ggX12_report_X12_writeByte : GoodIn wsX12_report wsX12_writeByte := goodIn_r _ [9, 1, 10, 23, 24, 25, 26, 27, 28, 29, 30, 31, 32, 33, 34, 35, 36, 37] (by decide +kernel) (by decide +kernel)
set_option maxRecDepth 20000 in
theorem gX12_report_X12_writeByte : GoodIn wsX12_report (wsV RX12 429 RX12 yX12_writeByte wsX12_writeByte) := goodIn_app (goodIn_of _ (by decide +kernel)) ggX12_report_X12_writeByte
set_option maxRecDepth 20000 in
theorem ggX12_report_X5_heightAt : GoodIn wsX12_report wsX5_heightAt := goodIn_r _ [15, 16, 17, 18, 38, 39, 40, 41, 42, 43, 44, 45, 46, 47] (by decide +kernel) (by decide +kernel)
set_option maxRecDepth 20000 in
theorem gX12_report_X5_heightAt : GoodIn wsX12_report (wsV RX12 275 RX5 yX5_heightAt wsX5_heightAt) := goodIn_app (goodIn_of _ (by decide +kernel)) ggX12_report_X5_heightAt
set_option maxRecDepth 20000 in
theorem ggX12_report_X12_writeNumber : GoodIn wsX12_report wsX12_writeNumber := goodIn_r _ [22, 5, 6, 7, 8, 9, 1, 10, 23, 24, 25, 26, 27, 28, 29, 30, 31, 32, 33, 34, 35, 36, 37] (by decide +kernel) (by decide +kernel)
set_option maxRecDepth 20000 in
theorem gX12_report_X12_writeNumber : GoodIn wsX12_report (wsV RX12 432 RX12 yX12_writeNumber wsX12_writeNumber) := goodIn_app (goodIn_of _ (by decide +kernel)) ggX12_report_X12_writeNumber
theorem dX12_report_0 : decode cX12_report 0 = .ok (.aload_n 0, 1) := by decide +kernel
theorem dX12_report_1 : decode cX12_report 1 = .ok (.iconst 0, 1) := by decide +kernel
theorem dX12_report_2 : decode cX12_report 2 = .ok (.putfield 426, 3) := by decide +kernel
theorem dX12_report_5 : decode cX12_report 5 = .ok (.aload_n 0, 1) := by decide +kernel
theorem dX12_report_6 : decode cX12_report 6 = .ok (.getfield 12, 3) := by decide +kernel
theorem dX12_report_9 : decode cX12_report 9 = .ok (.getfield 250, 3) := by decide +kernel
theorem dX12_report_12 : decode cX12_report 12 = .ok (.iconst 1, 1) := by decide +kernel
theorem dX12_report_13 : decode cX12_report 13 = .ok (.isub, 1) := by decide +kernel
theorem dX12_report_14 : decode cX12_report 14 = .ok (.istore_n 1, 1) := by decide +kernel
theorem dX12_report_15 : decode cX12_report 15 = .ok (.iload_n 1, 1) := by decide +kernel
theorem dX12_report_16 : decode cX12_report 16 = .ok (.ifCond .lt 57, 3) := by decide +kernel
theorem dX12_report_19 : decode cX12_report 19 = .ok (.iconst 0, 1) := by decide +kernel
theorem dX12_report_20 : decode cX12_report 20 = .ok (.istore_n 2, 1) := by decide +kernel
theorem dX12_report_21 : decode cX12_report 21 = .ok (.iload_n 2, 1) := by decide +kernel
theorem dX12_report_22 : decode cX12_report 22 = .ok (.aload_n 0, 1) := by decide +kernel
theorem dX12_report_23 : decode cX12_report 23 = .ok (.getfield 12, 3) := by decide +kernel
theorem dX12_report_26 : decode cX12_report 26 = .ok (.getfield 247, 3) := by decide +kernel
theorem dX12_report_29 : decode cX12_report 29 = .ok (.if_icmp .ge 32, 3) := by decide +kernel
theorem dX12_report_32 : decode cX12_report 32 = .ok (.iload_n 2, 1) := by decide +kernel
theorem dX12_report_33 : decode cX12_report 33 = .ok (.ifCond .le 9, 3) := by decide +kernel
theorem dX12_report_36 : decode cX12_report 36 = .ok (.aload_n 0, 1) := by decide +kernel
theorem dX12_report_37 : decode cX12_report 37 = .ok (.bipush 32, 2) := by decide +kernel
theorem dX12_report_39 : decode cX12_report 39 = .ok (.invokevirtual 429, 3) := by decide +kernel
theorem dX12_report_42 : decode cX12_report 42 = .ok (.aload_n 0, 1) := by decide +kernel
theorem dX12_report_43 : decode cX12_report 43 = .ok (.aload_n 0, 1) := by decide +kernel
theorem dX12_report_44 : decode cX12_report 44 = .ok (.getfield 12, 3) := by decide +kernel
theorem dX12_report_47 : decode cX12_report 47 = .ok (.iload_n 2, 1) := by decide +kernel
theorem dX12_report_48 : decode cX12_report 48 = .ok (.iload_n 1, 1) := by decide +kernel
theorem dX12_report_49 : decode cX12_report 49 = .ok (.invokevirtual 275, 3) := by decide +kernel
theorem dX12_report_52 : decode cX12_report 52 = .ok (.invokevirtual 432, 3) := by decide +kernel
theorem dX12_report_55 : decode cX12_report 55 = .ok (.iinc 2 1, 3) := by decide +kernel
theorem dX12_report_58 : decode cX12_report 58 = .ok (.goto (-37), 3) := by decide +kernel
theorem dX12_report_61 : decode cX12_report 61 = .ok (.aload_n 0, 1) := by decide +kernel
theorem dX12_report_62 : decode cX12_report 62 = .ok (.bipush 10, 2) := by decide +kernel
theorem dX12_report_64 : decode cX12_report 64 = .ok (.invokevirtual 429, 3) := by decide +kernel
theorem dX12_report_67 : decode cX12_report 67 = .ok (.iinc 1 (-1), 3) := by decide +kernel
theorem dX12_report_70 : decode cX12_report 70 = .ok (.goto (-55), 3) := by decide +kernel
theorem dX12_report_73 : decode cX12_report 73 = .ok (.aload_n 0, 1) := by decide +kernel
theorem dX12_report_74 : decode cX12_report 74 = .ok (.getfield 426, 3) := by decide +kernel
theorem dX12_report_77 : decode cX12_report 77 = .ok (.ireturn, 1) := by decide +kernel
set_option maxRecDepth 20000 in
theorem ggX12_writeNumber_X12_writeByte : GoodIn wsX12_writeNumber wsX12_writeByte := goodIn_r _ [5, 6, 7, 8, 9, 10, 11, 12, 13, 14, 15, 16, 17, 18, 19, 20, 21, 22] (by decide +kernel) (by decide +kernel)
set_option maxRecDepth 20000 in
theorem gX12_writeNumber_X12_writeByte : GoodIn wsX12_writeNumber (wsV RX12 429 RX12 yX12_writeByte wsX12_writeByte) := goodIn_app (goodIn_of _ (by decide +kernel)) ggX12_writeNumber_X12_writeByte
theorem dX12_writeNumber_0 : decode cX12_writeNumber 0 = .ok (.iload_n 1, 1) := by decide +kernel
theorem dX12_writeNumber_1 : decode cX12_writeNumber 1 = .ok (.bipush 10, 2) := by decide +kernel
theorem dX12_writeNumber_3 : decode cX12_writeNumber 3 = .ok (.if_icmp .lt 14, 3) := by decide +kernel
theorem dX12_writeNumber_6 : decode cX12_writeNumber 6 = .ok (.aload_n 0, 1) := by decide +kernel
theorem dX12_writeNumber_7 : decode cX12_writeNumber 7 = .ok (.bipush 48, 2) := by decide +kernel
theorem dX12_writeNumber_9 : decode cX12_writeNumber 9 = .ok (.iload_n 1, 1) := by decide +kernel
theorem dX12_writeNumber_10 : decode cX12_writeNumber 10 = .ok (.bipush 10, 2) := by decide +kernel
theorem dX12_writeNumber_12 : decode cX12_writeNumber 12 = .ok (.idiv, 1) := by decide +kernel
theorem dX12_writeNumber_13 : decode cX12_writeNumber 13 = .ok (.iadd, 1) := by decide +kernel
theorem dX12_writeNumber_14 : decode cX12_writeNumber 14 = .ok (.invokevirtual 429, 3) := by decide +kernel
theorem dX12_writeNumber_17 : decode cX12_writeNumber 17 = .ok (.aload_n 0, 1) := by decide +kernel
theorem dX12_writeNumber_18 : decode cX12_writeNumber 18 = .ok (.bipush 48, 2) := by decide +kernel
theorem dX12_writeNumber_20 : decode cX12_writeNumber 20 = .ok (.iload_n 1, 1) := by decide +kernel
theorem dX12_writeNumber_21 : decode cX12_writeNumber 21 = .ok (.bipush 10, 2) := by decide +kernel
theorem dX12_writeNumber_23 : decode cX12_writeNumber 23 = .ok (.irem, 1) := by decide +kernel
theorem dX12_writeNumber_24 : decode cX12_writeNumber 24 = .ok (.iadd, 1) := by decide +kernel
theorem dX12_writeNumber_25 : decode cX12_writeNumber 25 = .ok (.invokevirtual 429, 3) := by decide +kernel
theorem dX12_writeNumber_28 : decode cX12_writeNumber 28 = .ok (.return_, 1) := by decide +kernel
theorem dX12_writeByte_0 : decode cX12_writeByte 0 = .ok (.aload_n 0, 1) := by decide +kernel
theorem dX12_writeByte_1 : decode cX12_writeByte 1 = .ok (.getfield 426, 3) := by decide +kernel
theorem dX12_writeByte_4 : decode cX12_writeByte 4 = .ok (.aload_n 0, 1) := by decide +kernel
theorem dX12_writeByte_5 : decode cX12_writeByte 5 = .ok (.getfield 82, 3) := by decide +kernel
theorem dX12_writeByte_8 : decode cX12_writeByte 8 = .ok (.arraylength, 1) := by decide +kernel
theorem dX12_writeByte_9 : decode cX12_writeByte 9 = .ok (.if_icmp .ge 24, 3) := by decide +kernel
theorem dX12_writeByte_12 : decode cX12_writeByte 12 = .ok (.aload_n 0, 1) := by decide +kernel
theorem dX12_writeByte_13 : decode cX12_writeByte 13 = .ok (.getfield 82, 3) := by decide +kernel
theorem dX12_writeByte_16 : decode cX12_writeByte 16 = .ok (.aload_n 0, 1) := by decide +kernel
theorem dX12_writeByte_17 : decode cX12_writeByte 17 = .ok (.getfield 426, 3) := by decide +kernel
theorem dX12_writeByte_20 : decode cX12_writeByte 20 = .ok (.iload_n 1, 1) := by decide +kernel
theorem dX12_writeByte_21 : decode cX12_writeByte 21 = .ok (.i2b, 1) := by decide +kernel
theorem dX12_writeByte_22 : decode cX12_writeByte 22 = .ok (.bastore, 1) := by decide +kernel
theorem dX12_writeByte_23 : decode cX12_writeByte 23 = .ok (.aload_n 0, 1) := by decide +kernel
theorem dX12_writeByte_24 : decode cX12_writeByte 24 = .ok (.dup, 1) := by decide +kernel
theorem dX12_writeByte_25 : decode cX12_writeByte 25 = .ok (.getfield 426, 3) := by decide +kernel
theorem dX12_writeByte_28 : decode cX12_writeByte 28 = .ok (.iconst 1, 1) := by decide +kernel
theorem dX12_writeByte_29 : decode cX12_writeByte 29 = .ok (.iadd, 1) := by decide +kernel
theorem dX12_writeByte_30 : decode cX12_writeByte 30 = .ok (.putfield 426, 3) := by decide +kernel
theorem dX12_writeByte_33 : decode cX12_writeByte 33 = .ok (.return_, 1) := by decide +kernel
theorem dX12_reportByte_0 : decode cX12_reportByte 0 = .ok (.iload_n 1, 1) := by decide +kernel
theorem dX12_reportByte_1 : decode cX12_reportByte 1 = .ok (.ifCond .lt 11, 3) := by decide +kernel
theorem dX12_reportByte_4 : decode cX12_reportByte 4 = .ok (.iload_n 1, 1) := by decide +kernel
theorem dX12_reportByte_5 : decode cX12_reportByte 5 = .ok (.aload_n 0, 1) := by decide +kernel
theorem dX12_reportByte_6 : decode cX12_reportByte 6 = .ok (.getfield 426, 3) := by decide +kernel
theorem dX12_reportByte_9 : decode cX12_reportByte 9 = .ok (.if_icmp .lt 11, 3) := by decide +kernel
theorem dX12_reportByte_12 : decode cX12_reportByte 12 = .ok (.new 290, 3) := by decide +kernel
theorem dX12_reportByte_15 : decode cX12_reportByte 15 = .ok (.dup, 1) := by decide +kernel
theorem dX12_reportByte_16 : decode cX12_reportByte 16 = .ok (.invokespecial 292, 3) := by decide +kernel
theorem dX12_reportByte_19 : decode cX12_reportByte 19 = .ok (.athrow, 1) := by decide +kernel
theorem dX12_reportByte_20 : decode cX12_reportByte 20 = .ok (.aload_n 0, 1) := by decide +kernel
theorem dX12_reportByte_21 : decode cX12_reportByte 21 = .ok (.getfield 82, 3) := by decide +kernel
theorem dX12_reportByte_24 : decode cX12_reportByte 24 = .ok (.iload_n 1, 1) := by decide +kernel
theorem dX12_reportByte_25 : decode cX12_reportByte 25 = .ok (.baload, 1) := by decide +kernel
theorem dX12_reportByte_26 : decode cX12_reportByte 26 = .ok (.ireturn, 1) := by decide +kernel
set_option maxRecDepth 20000 in
theorem ggX12_undo_X3_takeBack : GoodIn wsX12_undo wsX3_takeBack := goodIn_r _ [8, 9, 10, 11, 12, 13, 14, 15, 16, 17, 18, 19, 20, 21, 22, 23, 24, 25, 26, 27, 28, 29, 30, 31, 32, 33, 34, 50, 51, 52, 53, 54, 55, 56, 57, 58, 59, 60, 61, 62] (by decide +kernel) (by decide +kernel)
set_option maxRecDepth 20000 in
theorem gX12_undo_X3_takeBack : GoodIn wsX12_undo (wsV RX12 435 RX3 yX3_takeBack wsX3_takeBack) := goodIn_app (goodIn_of _ (by decide +kernel)) ggX12_undo_X3_takeBack
theorem dX12_undo_0 : decode cX12_undo 0 = .ok (.aload_n 0, 1) := by decide +kernel
theorem dX12_undo_1 : decode cX12_undo 1 = .ok (.getfield 30, 3) := by decide +kernel
theorem dX12_undo_4 : decode cX12_undo 4 = .ok (.aload_n 0, 1) := by decide +kernel
theorem dX12_undo_5 : decode cX12_undo 5 = .ok (.getfield 12, 3) := by decide +kernel
theorem dX12_undo_8 : decode cX12_undo 8 = .ok (.invokevirtual 435, 3) := by decide +kernel
theorem dX12_undo_11 : decode cX12_undo 11 = .ok (.ifCond .eq 13, 3) := by decide +kernel
theorem dX12_undo_14 : decode cX12_undo 14 = .ok (.aload_n 0, 1) := by decide +kernel
theorem dX12_undo_15 : decode cX12_undo 15 = .ok (.getfield 30, 3) := by decide +kernel
theorem dX12_undo_18 : decode cX12_undo 18 = .ok (.getfield 439, 3) := by decide +kernel
theorem dX12_undo_21 : decode cX12_undo 21 = .ok (.goto 4, 3) := by decide +kernel
theorem dX12_undo_24 : decode cX12_undo 24 = .ok (.iconst (-1), 1) := by decide +kernel
theorem dX12_undo_25 : decode cX12_undo 25 = .ok (.ireturn, 1) := by decide +kernel
set_option maxRecDepth 20000 in
theorem ggX12_save_X12_checkSlot : GoodIn wsX12_save wsX12_checkSlot := goodIn_ca (goodIn_r _ [8, 9, 10] (by decide +kernel) (by decide +kernel)) (goodIn_sub (fun _ h => List.mem_cons_of_mem _ (List.mem_append_right _ h)) (by decide +kernel))
set_option maxRecDepth 20000 in
theorem gX12_save_X12_checkSlot : GoodIn wsX12_save (wsV RX12 442 RX12 yX12_checkSlot wsX12_checkSlot) := goodIn_app (goodIn_of _ (by decide +kernel)) ggX12_save_X12_checkSlot
set_option maxRecDepth 20000 in
theorem ggX12_save_X5_copyFrom : GoodIn wsX12_save wsX5_copyFrom := goodIn_r _ [15, 16, 17, 18, 19, 20, 21, 22, 23, 24, 25, 26, 27, 28, 29, 30, 31, 14, 32, 33, 57, 58, 59, 60, 61, 62, 63, 64, 65, 66] (by decide +kernel) (by decide +kernel)
set_option maxRecDepth 20000 in
theorem gX12_save_X5_copyFrom : GoodIn wsX12_save (wsV RX12 114 RX5 yX5_copyFrom wsX5_copyFrom) := goodIn_app (goodIn_of _ (by decide +kernel)) ggX12_save_X5_copyFrom
set_option maxRecDepth 20000 in
theorem ggX12_save_X5_sumOfHeights : GoodIn wsX12_save wsX5_sumOfHeights := goodIn_r _ [37, 17, 16, 38, 39, 40, 14, 41, 33, 57, 58, 59, 60, 61, 62, 63, 64, 65, 66] (by decide +kernel) (by decide +kernel)
set_option maxRecDepth 20000 in
theorem gX12_save_X5_sumOfHeights : GoodIn wsX12_save (wsV RX12 278 RX5 yX5_sumOfHeights wsX5_sumOfHeights) := goodIn_app (goodIn_of _ (by decide +kernel)) ggX12_save_X5_sumOfHeights
theorem dX12_save_0 : decode cX12_save 0 = .ok (.aload_n 0, 1) := by decide +kernel
theorem dX12_save_1 : decode cX12_save 1 = .ok (.iload_n 1, 1) := by decide +kernel
theorem dX12_save_2 : decode cX12_save 2 = .ok (.invokevirtual 442, 3) := by decide +kernel
theorem dX12_save_5 : decode cX12_save 5 = .ok (.aload_n 0, 1) := by decide +kernel
theorem dX12_save_6 : decode cX12_save 6 = .ok (.getfield 19, 3) := by decide +kernel
theorem dX12_save_9 : decode cX12_save 9 = .ok (.iload_n 1, 1) := by decide +kernel
theorem dX12_save_10 : decode cX12_save 10 = .ok (.aaload, 1) := by decide +kernel
theorem dX12_save_11 : decode cX12_save 11 = .ok (.aload_n 0, 1) := by decide +kernel
theorem dX12_save_12 : decode cX12_save 12 = .ok (.getfield 12, 3) := by decide +kernel
theorem dX12_save_15 : decode cX12_save 15 = .ok (.invokevirtual 114, 3) := by decide +kernel
theorem dX12_save_18 : decode cX12_save 18 = .ok (.aload_n 0, 1) := by decide +kernel
theorem dX12_save_19 : decode cX12_save 19 = .ok (.getfield 23, 3) := by decide +kernel
theorem dX12_save_22 : decode cX12_save 22 = .ok (.iload_n 1, 1) := by decide +kernel
theorem dX12_save_23 : decode cX12_save 23 = .ok (.iconst 1, 1) := by decide +kernel
theorem dX12_save_24 : decode cX12_save 24 = .ok (.bastore, 1) := by decide +kernel
theorem dX12_save_25 : decode cX12_save 25 = .ok (.aload_n 0, 1) := by decide +kernel
theorem dX12_save_26 : decode cX12_save 26 = .ok (.getfield 12, 3) := by decide +kernel
theorem dX12_save_29 : decode cX12_save 29 = .ok (.invokevirtual 278, 3) := by decide +kernel
theorem dX12_save_32 : decode cX12_save 32 = .ok (.ireturn, 1) := by decide +kernel
set_option maxRecDepth 20000 in
theorem ggX12_restore_X12_checkSlot : GoodIn wsX12_restore wsX12_checkSlot := goodIn_ca (goodIn_r _ [11, 12, 13] (by decide +kernel) (by decide +kernel)) (goodIn_sub (fun _ h => List.mem_cons_of_mem _ (List.mem_append_right _ h)) (by decide +kernel))
set_option maxRecDepth 20000 in
theorem gX12_restore_X12_checkSlot : GoodIn wsX12_restore (wsV RX12 442 RX12 yX12_checkSlot wsX12_checkSlot) := goodIn_app (goodIn_of _ (by decide +kernel)) ggX12_restore_X12_checkSlot
set_option maxRecDepth 20000 in
theorem ggX12_restore_X5_hasFormOf : GoodIn wsX12_restore wsX5_hasFormOf := goodIn_r _ [18, 19, 20, 21, 22, 61, 62, 63, 64, 65, 66, 67, 68, 69, 70] (by decide +kernel) (by decide +kernel)
set_option maxRecDepth 20000 in
theorem gX12_restore_X5_hasFormOf : GoodIn wsX12_restore (wsV RX12 445 RX5 yX5_hasFormOf wsX5_hasFormOf) := goodIn_app (goodIn_of _ (by decide +kernel)) ggX12_restore_X5_hasFormOf
set_option maxRecDepth 20000 in
theorem ggX12_restore_X5_differencesTo : GoodIn wsX12_restore wsX5_differencesTo := goodIn_r _ [26, 20, 19, 27, 28, 29, 17, 30, 31, 61, 62, 63, 64, 65, 66, 67, 68, 69, 70] (by decide +kernel) (by decide +kernel)
set_option maxRecDepth 20000 in
theorem gX12_restore_X5_differencesTo : GoodIn wsX12_restore (wsV RX12 448 RX5 yX5_differencesTo wsX5_differencesTo) := goodIn_app (goodIn_of _ (by decide +kernel)) ggX12_restore_X5_differencesTo
set_option maxRecDepth 20000 in
theorem ggX12_restore_X5_copyHeightsFrom : GoodIn wsX12_restore wsX5_copyHeightsFrom := goodIn_r _ [35, 31, 36, 37, 38, 39, 61, 62, 63, 64, 65, 66, 67, 68, 69, 70] (by decide +kernel) (by decide +kernel)
set_option maxRecDepth 20000 in
theorem gX12_restore_X5_copyHeightsFrom : GoodIn wsX12_restore (wsV RX12 451 RX5 yX5_copyHeightsFrom wsX5_copyHeightsFrom) := goodIn_app (goodIn_of _ (by decide +kernel)) ggX12_restore_X5_copyHeightsFrom
set_option maxRecDepth 20000 in
theorem ggX12_restore_X3_forget : GoodIn wsX12_restore wsX3_forget := goodIn_r _ [44, 45, 71, 72, 73] (by decide +kernel) (by decide +kernel)
set_option maxRecDepth 20000 in
theorem gX12_restore_X3_forget : GoodIn wsX12_restore (wsV RX12 117 RX3 yX3_forget wsX3_forget) := goodIn_app (goodIn_of _ (by decide +kernel)) ggX12_restore_X3_forget
theorem dX12_restore_0 : decode cX12_restore 0 = .ok (.aload_n 0, 1) := by decide +kernel
theorem dX12_restore_1 : decode cX12_restore 1 = .ok (.iload_n 1, 1) := by decide +kernel
theorem dX12_restore_2 : decode cX12_restore 2 = .ok (.invokevirtual 442, 3) := by decide +kernel
theorem dX12_restore_5 : decode cX12_restore 5 = .ok (.aload_n 0, 1) := by decide +kernel
theorem dX12_restore_6 : decode cX12_restore 6 = .ok (.getfield 23, 3) := by decide +kernel
theorem dX12_restore_9 : decode cX12_restore 9 = .ok (.iload_n 1, 1) := by decide +kernel
theorem dX12_restore_10 : decode cX12_restore 10 = .ok (.baload, 1) := by decide +kernel
theorem dX12_restore_11 : decode cX12_restore 11 = .ok (.ifCond .eq 19, 3) := by decide +kernel
theorem dX12_restore_14 : decode cX12_restore 14 = .ok (.aload_n 0, 1) := by decide +kernel
theorem dX12_restore_15 : decode cX12_restore 15 = .ok (.getfield 12, 3) := by decide +kernel
theorem dX12_restore_18 : decode cX12_restore 18 = .ok (.aload_n 0, 1) := by decide +kernel
theorem dX12_restore_19 : decode cX12_restore 19 = .ok (.getfield 19, 3) := by decide +kernel
theorem dX12_restore_22 : decode cX12_restore 22 = .ok (.iload_n 1, 1) := by decide +kernel
theorem dX12_restore_23 : decode cX12_restore 23 = .ok (.aaload, 1) := by decide +kernel
theorem dX12_restore_24 : decode cX12_restore 24 = .ok (.invokevirtual 445, 3) := by decide +kernel
theorem dX12_restore_27 : decode cX12_restore 27 = .ok (.ifCond .ne 11, 3) := by decide +kernel
theorem dX12_restore_30 : decode cX12_restore 30 = .ok (.new 94, 3) := by decide +kernel
theorem dX12_restore_33 : decode cX12_restore 33 = .ok (.dup, 1) := by decide +kernel
theorem dX12_restore_34 : decode cX12_restore 34 = .ok (.invokespecial 96, 3) := by decide +kernel
theorem dX12_restore_37 : decode cX12_restore 37 = .ok (.athrow, 1) := by decide +kernel
theorem dX12_restore_38 : decode cX12_restore 38 = .ok (.aload_n 0, 1) := by decide +kernel
theorem dX12_restore_39 : decode cX12_restore 39 = .ok (.getfield 12, 3) := by decide +kernel
theorem dX12_restore_42 : decode cX12_restore 42 = .ok (.aload_n 0, 1) := by decide +kernel
theorem dX12_restore_43 : decode cX12_restore 43 = .ok (.getfield 19, 3) := by decide +kernel
theorem dX12_restore_46 : decode cX12_restore 46 = .ok (.iload_n 1, 1) := by decide +kernel
theorem dX12_restore_47 : decode cX12_restore 47 = .ok (.aaload, 1) := by decide +kernel
theorem dX12_restore_48 : decode cX12_restore 48 = .ok (.invokevirtual 448, 3) := by decide +kernel
theorem dX12_restore_51 : decode cX12_restore 51 = .ok (.istore_n 2, 1) := by decide +kernel
theorem dX12_restore_52 : decode cX12_restore 52 = .ok (.aload_n 0, 1) := by decide +kernel
theorem dX12_restore_53 : decode cX12_restore 53 = .ok (.getfield 12, 3) := by decide +kernel
theorem dX12_restore_56 : decode cX12_restore 56 = .ok (.aload_n 0, 1) := by decide +kernel
theorem dX12_restore_57 : decode cX12_restore 57 = .ok (.getfield 19, 3) := by decide +kernel
theorem dX12_restore_60 : decode cX12_restore 60 = .ok (.iload_n 1, 1) := by decide +kernel
theorem dX12_restore_61 : decode cX12_restore 61 = .ok (.aaload, 1) := by decide +kernel
theorem dX12_restore_62 : decode cX12_restore 62 = .ok (.invokevirtual 451, 3) := by decide +kernel
theorem dX12_restore_65 : decode cX12_restore 65 = .ok (.aload_n 0, 1) := by decide +kernel
theorem dX12_restore_66 : decode cX12_restore 66 = .ok (.getfield 30, 3) := by decide +kernel
theorem dX12_restore_69 : decode cX12_restore 69 = .ok (.invokevirtual 117, 3) := by decide +kernel
theorem dX12_restore_72 : decode cX12_restore 72 = .ok (.iload_n 2, 1) := by decide +kernel
theorem dX12_restore_73 : decode cX12_restore 73 = .ok (.ireturn, 1) := by decide +kernel
theorem dX12_checkSlot_0 : decode cX12_checkSlot 0 = .ok (.iload_n 1, 1) := by decide +kernel
theorem dX12_checkSlot_1 : decode cX12_checkSlot 1 = .ok (.ifCond .lt 8, 3) := by decide +kernel
theorem dX12_checkSlot_4 : decode cX12_checkSlot 4 = .ok (.iload_n 1, 1) := by decide +kernel
theorem dX12_checkSlot_5 : decode cX12_checkSlot 5 = .ok (.iconst 2, 1) := by decide +kernel
theorem dX12_checkSlot_6 : decode cX12_checkSlot 6 = .ok (.if_icmp .lt 11, 3) := by decide +kernel
theorem dX12_checkSlot_9 : decode cX12_checkSlot 9 = .ok (.new 104, 3) := by decide +kernel
theorem dX12_checkSlot_12 : decode cX12_checkSlot 12 = .ok (.dup, 1) := by decide +kernel
theorem dX12_checkSlot_13 : decode cX12_checkSlot 13 = .ok (.invokespecial 106, 3) := by decide +kernel
theorem dX12_checkSlot_16 : decode cX12_checkSlot 16 = .ok (.athrow, 1) := by decide +kernel
theorem dX12_checkSlot_17 : decode cX12_checkSlot 17 = .ok (.return_, 1) := by decide +kernel
