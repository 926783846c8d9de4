theorem dX13_smooths_48 : decode cX13_smooths 48 = .ok (.istore_n 2, 1) := by decide +kernel
theorem dX13_smooths_49 : decode cX13_smooths 49 = .ok (.iload_n 2, 1) := by decide +kernel
theorem dX13_smooths_50 : decode cX13_smooths 50 = .ok (.aload_n 0, 1) := by decide +kernel
theorem dX13_smooths_51 : decode cX13_smooths 51 = .ok (.invokevirtual 251, 3) := by decide +kernel
theorem dX13_smooths_54 : decode cX13_smooths 54 = .ok (.if_icmp .ge 29, 3) := by decide +kernel
theorem dX13_smooths_57 : decode cX13_smooths 57 = .ok (.aload_n 0, 1) := by decide +kernel
theorem dX13_smooths_58 : decode cX13_smooths 58 = .ok (.getfield 29, 3) := by decide +kernel
theorem dX13_smooths_61 : decode cX13_smooths 61 = .ok (.aload_n 0, 1) := by decide +kernel
theorem dX13_smooths_62 : decode cX13_smooths 62 = .ok (.iload_n 2, 1) := by decide +kernel
theorem dX13_smooths_63 : decode cX13_smooths 63 = .ok (.invokevirtual 255, 3) := by decide +kernel
theorem dX13_smooths_66 : decode cX13_smooths 66 = .ok (.aload_n 0, 1) := by decide +kernel
theorem dX13_smooths_67 : decode cX13_smooths 67 = .ok (.getfield 51, 3) := by decide +kernel
theorem dX13_smooths_70 : decode cX13_smooths 70 = .ok (.aload_n 0, 1) := by decide +kernel
theorem dX13_smooths_71 : decode cX13_smooths 71 = .ok (.iload_n 2, 1) := by decide +kernel
theorem dX13_smooths_72 : decode cX13_smooths 72 = .ok (.invokevirtual 255, 3) := by decide +kernel
theorem dX13_smooths_75 : decode cX13_smooths 75 = .ok (.iaload, 1) := by decide +kernel
theorem dX13_smooths_76 : decode cX13_smooths 76 = .ok (.iastore, 1) := by decide +kernel
theorem dX13_smooths_77 : decode cX13_smooths 77 = .ok (.iinc 2 1, 3) := by decide +kernel
theorem dX13_smooths_80 : decode cX13_smooths 80 = .ok (.goto (-31), 3) := by decide +kernel
theorem dX13_smooths_83 : decode cX13_smooths 83 = .ok (.return_, 1) := by decide +kernel
set_option maxRecDepth 20000 in
theorem ggX13_smooth_X13_isIn : GoodIn wsX13_smooth wsX13_isIn := goodIn_r _ [5] (by decide +kernel) (by decide +kernel)
set_option maxRecDepth 20000 in
theorem gX13_smooth_X13_isIn : GoodIn wsX13_smooth (va_wsS RX13 111 yX13_isIn wsX13_isIn) := goodIn_app (goodIn_of _ (by decide +kernel)) ggX13_smooth_X13_isIn
set_option maxRecDepth 20000 in
theorem ggX13_smooth_X13_goes : GoodIn wsX13_smooth wsX13_goes := goodIn_r _ [9, 10, 11, 12, 4, 13, 52, 53, 54, 55, 56, 57, 58, 59, 60, 61, 62, 63, 64, 65, 66, 67, 68, 69, 70, 71, 72, 73, 74, 75, 76, 77, 78, 79, 80, 81, 82, 83, 84, 85, 86, 87, 88, 89, 90, 91, 92, 93, 94, 95, 96, 97, 98, 99] (by decide +kernel) (by decide +kernel)
set_option maxRecDepth 20000 in
theorem gX13_smooth_X13_goes : GoodIn wsX13_smooth (wsV RX13 103 RX13 yX13_goes wsX13_goes) := goodIn_app (goodIn_of _ (by decide +kernel)) ggX13_smooth_X13_goes
set_option maxRecDepth 20000 in
theorem ggX13_smooth_X13_laysAside : GoodIn wsX13_smooth wsX13_laysAside := goodIn_r _ [17, 18, 19, 20, 21, 52, 53, 54, 55, 56, 57, 58, 59, 60, 61, 62, 63, 64, 65, 66, 67, 68, 69, 70, 71, 72, 73, 74, 75, 76, 77, 78, 79, 80, 81, 82, 83, 84, 85, 86, 87, 88, 89, 90, 91, 92, 93, 94, 95, 96, 97, 98, 99] (by decide +kernel) (by decide +kernel)
set_option maxRecDepth 20000 in
theorem gX13_smooth_X13_laysAside : GoodIn wsX13_smooth (wsV RX13 314 RX13 yX13_laysAside wsX13_laysAside) := goodIn_app (goodIn_of _ (by decide +kernel)) ggX13_smooth_X13_laysAside
set_option maxRecDepth 20000 in
theorem ggX13_smooth_X13_smooths : GoodIn wsX13_smooth wsX13_smooths := goodIn_r _ [25, 26, 27, 19, 28, 29, 30, 4, 31, 32, 33, 34, 35, 36, 37, 38, 39, 40, 41, 42, 43, 44, 45, 52, 53, 54, 55, 56, 57, 58, 59, 60, 61, 62, 63, 64, 65, 66, 67, 68, 69, 70, 71, 72, 73, 74, 75, 76, 77, 78, 79, 80, 81, 82, 83, 84, 85, 86, 87, 88, 89, 90, 91, 92, 93, 94, 95, 96, 97, 98, 99] (by decide +kernel) (by decide +kernel)
set_option maxRecDepth 20000 in
theorem gX13_smooth_X13_smooths : GoodIn wsX13_smooth (wsV RX13 387 RX13 yX13_smooths wsX13_smooths) := goodIn_app (goodIn_of _ (by decide +kernel)) ggX13_smooth_X13_smooths
set_option maxRecDepth 20000 in
theorem ggX13_smooth_X13_keeps : GoodIn wsX13_smooth wsX13_keeps := goodIn_r _ [49, 19, 18, 21, 20, 50, 51, 11, 12, 4, 13, 52, 53, 54, 55, 56, 57, 58, 59, 60, 61, 62, 63, 64, 65, 66, 67, 68, 69, 70, 71, 72, 73, 74, 75, 76, 77, 78, 79, 80, 81, 82, 83, 84, 85, 86, 87, 88, 89, 90, 91, 92, 93, 94, 95, 96, 97, 98, 99] (by decide +kernel) (by decide +kernel)
set_option maxRecDepth 20000 in
theorem gX13_smooth_X13_keeps : GoodIn wsX13_smooth (wsV RX13 368 RX13 yX13_keeps wsX13_keeps) := goodIn_app (goodIn_of _ (by decide +kernel)) ggX13_smooth_X13_keeps
theorem dX13_smooth_0 : decode cX13_smooth 0 = .ok (.aload_n 0, 1) := by decide +kernel
theorem dX13_smooth_1 : decode cX13_smooth 1 = .ok (.iload_n 1, 1) := by decide +kernel
theorem dX13_smooth_2 : decode cX13_smooth 2 = .ok (.i2l, 1) := by decide +kernel
theorem dX13_smooth_3 : decode cX13_smooth 3 = .ok (.lconst 1, 1) := by decide +kernel
theorem dX13_smooth_4 : decode cX13_smooth 4 = .ok (.ldc2_w 385, 3) := by decide +kernel
theorem dX13_smooth_7 : decode cX13_smooth 7 = .ok (.invokestatic 111, 3) := by decide +kernel
theorem dX13_smooth_10 : decode cX13_smooth 10 = .ok (.invokevirtual 103, 3) := by decide +kernel
theorem dX13_smooth_13 : decode cX13_smooth 13 = .ok (.ifCond .ne 5, 3) := by decide +kernel
theorem dX13_smooth_16 : decode cX13_smooth 16 = .ok (.iconst 0, 1) := by decide +kernel
theorem dX13_smooth_17 : decode cX13_smooth 17 = .ok (.ireturn, 1) := by decide +kernel
theorem dX13_smooth_18 : decode cX13_smooth 18 = .ok (.aload_n 0, 1) := by decide +kernel
theorem dX13_smooth_19 : decode cX13_smooth 19 = .ok (.invokevirtual 314, 3) := by decide +kernel
theorem dX13_smooth_22 : decode cX13_smooth 22 = .ok (.aload_n 0, 1) := by decide +kernel
theorem dX13_smooth_23 : decode cX13_smooth 23 = .ok (.iload_n 1, 1) := by decide +kernel
theorem dX13_smooth_24 : decode cX13_smooth 24 = .ok (.invokevirtual 387, 3) := by decide +kernel
theorem dX13_smooth_27 : decode cX13_smooth 27 = .ok (.aload_n 0, 1) := by decide +kernel
theorem dX13_smooth_28 : decode cX13_smooth 28 = .ok (.invokevirtual 368, 3) := by decide +kernel
theorem dX13_smooth_31 : decode cX13_smooth 31 = .ok (.ireturn, 1) := by decide +kernel
set_option maxRecDepth 20000 in
theorem ggX13_eases_X13_standsOut : GoodIn wsX13_eases wsX13_standsOut := goodIn_r _ [7, 2, 1, 8, 9, 6, 10, 11, 12, 13, 14, 15, 16, 17, 18, 19, 20, 21, 22, 23, 24, 25, 26, 27, 28, 29, 30, 31, 32, 33, 34, 35, 36, 37, 38, 39, 40, 41, 42, 43, 44, 45, 46, 47, 48, 49, 50, 51, 52, 53, 54, 55, 56, 57, 58] (by decide +kernel) (by decide +kernel)
set_option maxRecDepth 20000 in
theorem gX13_eases_X13_standsOut : GoodIn wsX13_eases (wsV RX13 320 RX13 yX13_standsOut wsX13_standsOut) := goodIn_app (goodIn_of _ (by decide +kernel)) ggX13_eases_X13_standsOut
theorem dX13_eases_0 : decode cX13_eases 0 = .ok (.iconst 1, 1) := by decide +kernel
theorem dX13_eases_1 : decode cX13_eases 1 = .ok (.istore_n 1, 1) := by decide +kernel
theorem dX13_eases_2 : decode cX13_eases 2 = .ok (.iload_n 1, 1) := by decide +kernel
theorem dX13_eases_3 : decode cX13_eases 3 = .ok (.aload_n 0, 1) := by decide +kernel
theorem dX13_eases_4 : decode cX13_eases 4 = .ok (.getfield 20, 3) := by decide +kernel
theorem dX13_eases_7 : decode cX13_eases 7 = .ok (.iconst 1, 1) := by decide +kernel
theorem dX13_eases_8 : decode cX13_eases 8 = .ok (.iaload, 1) := by decide +kernel
theorem dX13_eases_9 : decode cX13_eases 9 = .ok (.if_icmp .ge 69, 3) := by decide +kernel
theorem dX13_eases_12 : decode cX13_eases 12 = .ok (.iconst 0, 1) := by decide +kernel
theorem dX13_eases_13 : decode cX13_eases 13 = .ok (.istore_n 2, 1) := by decide +kernel
theorem dX13_eases_14 : decode cX13_eases 14 = .ok (.iload_n 2, 1) := by decide +kernel
theorem dX13_eases_15 : decode cX13_eases 15 = .ok (.aload_n 0, 1) := by decide +kernel
theorem dX13_eases_16 : decode cX13_eases 16 = .ok (.getfield 20, 3) := by decide +kernel
theorem dX13_eases_19 : decode cX13_eases 19 = .ok (.iconst 0, 1) := by decide +kernel
theorem dX13_eases_20 : decode cX13_eases 20 = .ok (.iaload, 1) := by decide +kernel
theorem dX13_eases_21 : decode cX13_eases 21 = .ok (.if_icmp .ge 51, 3) := by decide +kernel
theorem dX13_eases_24 : decode cX13_eases 24 = .ok (.aload_n 0, 1) := by decide +kernel
theorem dX13_eases_25 : decode cX13_eases 25 = .ok (.iload_n 2, 1) := by decide +kernel
theorem dX13_eases_26 : decode cX13_eases 26 = .ok (.iload_n 1, 1) := by decide +kernel
theorem dX13_eases_27 : decode cX13_eases 27 = .ok (.invokevirtual 320, 3) := by decide +kernel
theorem dX13_eases_30 : decode cX13_eases 30 = .ok (.ifCond .le 36, 3) := by decide +kernel
theorem dX13_eases_33 : decode cX13_eases 33 = .ok (.aload_n 0, 1) := by decide +kernel
theorem dX13_eases_34 : decode cX13_eases 34 = .ok (.getfield 29, 3) := by decide +kernel
theorem dX13_eases_37 : decode cX13_eases 37 = .ok (.bipush 16, 2) := by decide +kernel
theorem dX13_eases_39 : decode cX13_eases 39 = .ok (.iload_n 1, 1) := by decide +kernel
theorem dX13_eases_40 : decode cX13_eases 40 = .ok (.imul, 1) := by decide +kernel
theorem dX13_eases_41 : decode cX13_eases 41 = .ok (.iload_n 2, 1) := by decide +kernel
theorem dX13_eases_42 : decode cX13_eases 42 = .ok (.iadd, 1) := by decide +kernel
theorem dX13_eases_43 : decode cX13_eases 43 = .ok (.aload_n 0, 1) := by decide +kernel
theorem dX13_eases_44 : decode cX13_eases 44 = .ok (.getfield 29, 3) := by decide +kernel
theorem dX13_eases_47 : decode cX13_eases 47 = .ok (.bipush 16, 2) := by decide +kernel
theorem dX13_eases_49 : decode cX13_eases 49 = .ok (.iload_n 1, 1) := by decide +kernel
theorem dX13_eases_50 : decode cX13_eases 50 = .ok (.imul, 1) := by decide +kernel
theorem dX13_eases_51 : decode cX13_eases 51 = .ok (.bipush 16, 2) := by decide +kernel
theorem dX13_eases_53 : decode cX13_eases 53 = .ok (.isub, 1) := by decide +kernel
theorem dX13_eases_54 : decode cX13_eases 54 = .ok (.iload_n 2, 1) := by decide +kernel
theorem dX13_eases_55 : decode cX13_eases 55 = .ok (.iadd, 1) := by decide +kernel
theorem dX13_eases_56 : decode cX13_eases 56 = .ok (.iaload, 1) := by decide +kernel
theorem dX13_eases_57 : decode cX13_eases 57 = .ok (.aload_n 0, 1) := by decide +kernel
theorem dX13_eases_58 : decode cX13_eases 58 = .ok (.getfield 20, 3) := by decide +kernel
theorem dX13_eases_61 : decode cX13_eases 61 = .ok (.bipush 6, 2) := by decide +kernel
theorem dX13_eases_63 : decode cX13_eases 63 = .ok (.iaload, 1) := by decide +kernel
theorem dX13_eases_64 : decode cX13_eases 64 = .ok (.iadd, 1) := by decide +kernel
theorem dX13_eases_65 : decode cX13_eases 65 = .ok (.iastore, 1) := by decide +kernel
theorem dX13_eases_66 : decode cX13_eases 66 = .ok (.iinc 2 1, 3) := by decide +kernel
theorem dX13_eases_69 : decode cX13_eases 69 = .ok (.goto (-55), 3) := by decide +kernel
theorem dX13_eases_72 : decode cX13_eases 72 = .ok (.iinc 1 1, 3) := by decide +kernel
theorem dX13_eases_75 : decode cX13_eases 75 = .ok (.goto (-73), 3) := by decide +kernel
theorem dX13_eases_78 : decode cX13_eases 78 = .ok (.return_, 1) := by decide +kernel
set_option maxRecDepth 20000 in
theorem ggX13_ease_X13_laysAside : GoodIn wsX13_ease wsX13_laysAside := goodIn_r _ [6, 7, 8, 9, 10, 32, 33, 34, 35, 36, 37, 38, 39, 40, 41, 42, 43, 44, 45, 46, 47, 48, 49, 50, 51, 52, 53, 54, 55, 56, 57, 58, 59, 60, 61, 62, 63, 64, 65, 66, 67, 68, 69, 70, 71, 72, 73, 74, 75, 76, 77, 78, 79] (by decide +kernel) (by decide +kernel)
set_option maxRecDepth 20000 in
theorem gX13_ease_X13_laysAside : GoodIn wsX13_ease (wsV RX13 314 RX13 yX13_laysAside wsX13_laysAside) := goodIn_app (goodIn_of _ (by decide +kernel)) ggX13_ease_X13_laysAside
set_option maxRecDepth 20000 in
theorem ggX13_ease_X13_eases : GoodIn wsX13_ease wsX13_eases := goodIn_r _ [14, 15, 8, 16, 17, 18, 5, 19, 20, 21, 22, 32, 33, 34, 35, 36, 37, 38, 39, 40, 41, 42, 43, 44, 45, 46, 47, 48, 49, 50, 51, 52, 53, 54, 55, 56, 57, 58, 59, 60, 61, 62, 63, 64, 65, 66, 67, 68, 69, 70, 71, 72, 73, 74, 75, 76, 77, 78, 79] (by decide +kernel) (by decide +kernel)
set_option maxRecDepth 20000 in
theorem gX13_ease_X13_eases : GoodIn wsX13_ease (wsV RX13 390 RX13 yX13_eases wsX13_eases) := goodIn_app (goodIn_of _ (by decide +kernel)) ggX13_ease_X13_eases
set_option maxRecDepth 20000 in
theorem ggX13_ease_X13_keeps : GoodIn wsX13_ease wsX13_keeps := goodIn_r _ [26, 8, 7, 10, 9, 27, 28, 29, 30, 5, 31, 32, 33, 34, 35, 36, 37, 38, 39, 40, 41, 42, 43, 44, 45, 46, 47, 48, 49, 50, 51, 52, 53, 54, 55, 56, 57, 58, 59, 60, 61, 62, 63, 64, 65, 66, 67, 68, 69, 70, 71, 72, 73, 74, 75, 76, 77, 78, 79] (by decide +kernel) (by decide +kernel)
set_option maxRecDepth 20000 in
theorem gX13_ease_X13_keeps : GoodIn wsX13_ease (wsV RX13 368 RX13 yX13_keeps wsX13_keeps) := goodIn_app (goodIn_of _ (by decide +kernel)) ggX13_ease_X13_keeps
theorem dX13_ease_0 : decode cX13_ease 0 = .ok (.aload_n 0, 1) := by decide +kernel
theorem dX13_ease_1 : decode cX13_ease 1 = .ok (.iconst 0, 1) := by decide +kernel
theorem dX13_ease_2 : decode cX13_ease 2 = .ok (.putfield 93, 3) := by decide +kernel
theorem dX13_ease_5 : decode cX13_ease 5 = .ok (.aload_n 0, 1) := by decide +kernel
theorem dX13_ease_6 : decode cX13_ease 6 = .ok (.invokevirtual 314, 3) := by decide +kernel
theorem dX13_ease_9 : decode cX13_ease 9 = .ok (.aload_n 0, 1) := by decide +kernel
theorem dX13_ease_10 : decode cX13_ease 10 = .ok (.invokevirtual 390, 3) := by decide +kernel
theorem dX13_ease_13 : decode cX13_ease 13 = .ok (.aload_n 0, 1) := by decide +kernel
theorem dX13_ease_14 : decode cX13_ease 14 = .ok (.invokevirtual 368, 3) := by decide +kernel
theorem dX13_ease_17 : decode cX13_ease 17 = .ok (.ireturn, 1) := by decide +kernel
set_option maxRecDepth 20000 in
theorem ggX13_dithers_X13_wantedBy : GoodIn wsX13_dithers wsX13_wantedBy := goodIn_r _ [7, 8] (by decide +kernel) (by decide +kernel)
set_option maxRecDepth 20000 in
theorem gX13_dithers_X13_wantedBy : GoodIn wsX13_dithers (va_wsS RX13 199 yX13_wantedBy wsX13_wantedBy) := goodIn_app (goodIn_of _ (by decide +kernel)) ggX13_dithers_X13_wantedBy
set_option maxRecDepth 20000 in
theorem ggX13_dithers_X13_heightBy : GoodIn wsX13_dithers wsX13_heightBy := goodIn_r _ [12, 1, 13, 14, 15, 6, 16, 17, 18, 19, 20, 21, 22, 23, 24, 25, 26, 27, 28, 29, 30, 31, 32, 33, 34, 35, 36, 37, 38, 39, 40, 41, 42, 43, 44, 45, 46, 47, 48, 49, 50, 51, 52, 53, 54, 55, 56, 57, 58, 59, 60, 61, 62, 63, 64, 65, 66, 67, 68] (by decide +kernel) (by decide +kernel)
set_option maxRecDepth 20000 in
theorem gX13_dithers_X13_heightBy : GoodIn wsX13_dithers (wsV RX13 203 RX13 yX13_heightBy wsX13_heightBy) := goodIn_app (goodIn_of _ (by decide +kernel)) ggX13_dithers_X13_heightBy
set_option maxRecDepth 20000 in
theorem ggX13_dithers_X13_lightOf : GoodIn wsX13_dithers wsX13_lightOf := goodIn_r _ [16, 1, 17, 21, 22, 23, 24, 25, 26, 27, 28, 29, 30, 31, 32, 33, 34, 35, 36, 37, 38, 39, 40, 41, 42, 43, 44, 45, 46, 47, 48, 49, 50, 51, 52, 53, 54, 55, 56, 57, 58, 59, 60, 61, 62, 63, 64, 65, 66, 67, 68] (by decide +kernel) (by decide +kernel)
set_option maxRecDepth 20000 in
theorem gX13_dithers_X13_lightOf : GoodIn wsX13_dithers (wsV RX13 269 RX13 yX13_lightOf wsX13_lightOf) := goodIn_app (goodIn_of _ (by decide +kernel)) ggX13_dithers_X13_lightOf
theorem dX13_dithers_0 : decode cX13_dithers 0 = .ok (.iconst 0, 1) := by decide +kernel
theorem dX13_dithers_1 : decode cX13_dithers 1 = .ok (.istore_n 1, 1) := by decide +kernel
theorem dX13_dithers_2 : decode cX13_dithers 2 = .ok (.iload_n 1, 1) := by decide +kernel
theorem dX13_dithers_3 : decode cX13_dithers 3 = .ok (.aload_n 0, 1) := by decide +kernel
theorem dX13_dithers_4 : decode cX13_dithers 4 = .ok (.getfield 20, 3) := by decide +kernel
theorem dX13_dithers_7 : decode cX13_dithers 7 = .ok (.iconst 1, 1) := by decide +kernel
theorem dX13_dithers_8 : decode cX13_dithers 8 = .ok (.iaload, 1) := by decide +kernel
theorem dX13_dithers_9 : decode cX13_dithers 9 = .ok (.if_icmp .ge 83, 3) := by decide +kernel
theorem dX13_dithers_12 : decode cX13_dithers 12 = .ok (.fconst 0, 1) := by decide +kernel
theorem dX13_dithers_13 : decode cX13_dithers 13 = .ok (.fstore_n 2, 1) := by decide +kernel
theorem dX13_dithers_14 : decode cX13_dithers 14 = .ok (.iconst 0, 1) := by decide +kernel
theorem dX13_dithers_15 : decode cX13_dithers 15 = .ok (.istore_n 3, 1) := by decide +kernel
theorem dX13_dithers_16 : decode cX13_dithers 16 = .ok (.iload_n 3, 1) := by decide +kernel
theorem dX13_dithers_17 : decode cX13_dithers 17 = .ok (.aload_n 0, 1) := by decide +kernel
theorem dX13_dithers_18 : decode cX13_dithers 18 = .ok (.getfield 20, 3) := by decide +kernel
theorem dX13_dithers_21 : decode cX13_dithers 21 = .ok (.iconst 0, 1) := by decide +kernel
theorem dX13_dithers_22 : decode cX13_dithers 22 = .ok (.iaload, 1) := by decide +kernel
theorem dX13_dithers_23 : decode cX13_dithers 23 = .ok (.if_icmp .ge 63, 3) := by decide +kernel
theorem dX13_dithers_26 : decode cX13_dithers 26 = .ok (.aload_n 0, 1) := by decide +kernel
theorem dX13_dithers_27 : decode cX13_dithers 27 = .ok (.getfield 26, 3) := by decide +kernel
theorem dX13_dithers_30 : decode cX13_dithers 30 = .ok (.bipush 16, 2) := by decide +kernel
theorem dX13_dithers_32 : decode cX13_dithers 32 = .ok (.iload_n 1, 1) := by decide +kernel
theorem dX13_dithers_33 : decode cX13_dithers 33 = .ok (.imul, 1) := by decide +kernel
theorem dX13_dithers_34 : decode cX13_dithers 34 = .ok (.iload_n 3, 1) := by decide +kernel
theorem dX13_dithers_35 : decode cX13_dithers 35 = .ok (.iadd, 1) := by decide +kernel
theorem dX13_dithers_36 : decode cX13_dithers 36 = .ok (.iaload, 1) := by decide +kernel
theorem dX13_dithers_37 : decode cX13_dithers 37 = .ok (.invokestatic 199, 3) := by decide +kernel
theorem dX13_dithers_40 : decode cX13_dithers 40 = .ok (.fload_n 2, 1) := by decide +kernel
theorem dX13_dithers_41 : decode cX13_dithers 41 = .ok (.fadd, 1) := by decide +kernel
theorem dX13_dithers_42 : decode cX13_dithers 42 = .ok (.fstore 4, 2) := by decide +kernel
theorem dX13_dithers_44 : decode cX13_dithers 44 = .ok (.aload_n 0, 1) := by decide +kernel
theorem dX13_dithers_45 : decode cX13_dithers 45 = .ok (.getfield 29, 3) := by decide +kernel
theorem dX13_dithers_48 : decode cX13_dithers 48 = .ok (.bipush 16, 2) := by decide +kernel
theorem dX13_dithers_50 : decode cX13_dithers 50 = .ok (.iload_n 1, 1) := by decide +kernel
theorem dX13_dithers_51 : decode cX13_dithers 51 = .ok (.imul, 1) := by decide +kernel
theorem dX13_dithers_52 : decode cX13_dithers 52 = .ok (.iload_n 3, 1) := by decide +kernel
theorem dX13_dithers_53 : decode cX13_dithers 53 = .ok (.iadd, 1) := by decide +kernel
theorem dX13_dithers_54 : decode cX13_dithers 54 = .ok (.aload_n 0, 1) := by decide +kernel
theorem dX13_dithers_55 : decode cX13_dithers 55 = .ok (.fload 4, 2) := by decide +kernel
theorem dX13_dithers_57 : decode cX13_dithers 57 = .ok (.invokevirtual 203, 3) := by decide +kernel
theorem dX13_dithers_60 : decode cX13_dithers 60 = .ok (.iastore, 1) := by decide +kernel
theorem dX13_dithers_61 : decode cX13_dithers 61 = .ok (.fload 4, 2) := by decide +kernel
theorem dX13_dithers_63 : decode cX13_dithers 63 = .ok (.aload_n 0, 1) := by decide +kernel
theorem dX13_dithers_64 : decode cX13_dithers 64 = .ok (.aload_n 0, 1) := by decide +kernel
theorem dX13_dithers_65 : decode cX13_dithers 65 = .ok (.getfield 29, 3) := by decide +kernel
theorem dX13_dithers_68 : decode cX13_dithers 68 = .ok (.bipush 16, 2) := by decide +kernel
theorem dX13_dithers_70 : decode cX13_dithers 70 = .ok (.iload_n 1, 1) := by decide +kernel
theorem dX13_dithers_71 : decode cX13_dithers 71 = .ok (.imul, 1) := by decide +kernel
theorem dX13_dithers_72 : decode cX13_dithers 72 = .ok (.iload_n 3, 1) := by decide +kernel
theorem dX13_dithers_73 : decode cX13_dithers 73 = .ok (.iadd, 1) := by decide +kernel
theorem dX13_dithers_74 : decode cX13_dithers 74 = .ok (.iaload, 1) := by decide +kernel
theorem dX13_dithers_75 : decode cX13_dithers 75 = .ok (.invokevirtual 269, 3) := by decide +kernel
theorem dX13_dithers_78 : decode cX13_dithers 78 = .ok (.fsub, 1) := by decide +kernel
theorem dX13_dithers_79 : decode cX13_dithers 79 = .ok (.fstore_n 2, 1) := by decide +kernel
theorem dX13_dithers_80 : decode cX13_dithers 80 = .ok (.iinc 3 1, 3) := by decide +kernel
theorem dX13_dithers_83 : decode cX13_dithers 83 = .ok (.goto (-67), 3) := by decide +kernel
theorem dX13_dithers_86 : decode cX13_dithers 86 = .ok (.iinc 1 1, 3) := by decide +kernel
theorem dX13_dithers_89 : decode cX13_dithers 89 = .ok (.goto (-87), 3) := by decide +kernel
theorem dX13_dithers_92 : decode cX13_dithers 92 = .ok (.return_, 1) := by decide +kernel
set_option maxRecDepth 20000 in
theorem ggX13_dither_X13_laysAside : GoodIn wsX13_dither wsX13_laysAside := goodIn_r _ [6, 7, 8, 9, 10, 41, 42, 43, 44, 45, 46, 47, 48, 49, 50, 51, 52, 53, 54, 55, 56, 57, 58, 59, 60, 61, 62, 63, 64, 65, 66, 67, 68, 69, 70, 71, 72, 73, 74, 75, 76, 77, 78, 79, 80, 81, 82, 83, 84, 85, 86, 87, 88] (by decide +kernel) (by decide +kernel)
set_option maxRecDepth 20000 in
theorem gX13_dither_X13_laysAside : GoodIn wsX13_dither (wsV RX13 314 RX13 yX13_laysAside wsX13_laysAside) := goodIn_app (goodIn_of _ (by decide +kernel)) ggX13_dither_X13_laysAside
set_option maxRecDepth 20000 in
theorem ggX13_dither_X13_dithers : GoodIn wsX13_dither wsX13_dithers := goodIn_r _ [14, 15, 10, 8, 16, 17, 5, 18, 19, 20, 21, 22, 23, 24, 25, 26, 27, 28, 29, 30, 31, 41, 42, 43, 44, 45, 46, 47, 48, 49, 50, 51, 52, 53, 54, 55, 56, 57, 58, 59, 60, 61, 62, 63, 64, 65, 66, 67, 68, 69, 70, 71, 72, 73, 74, 75, 76, 77, 78, 79, 80, 81, 82, 83, 84, 85, 86, 87, 88] (by decide +kernel) (by decide +kernel)
set_option maxRecDepth 20000 in
theorem gX13_dither_X13_dithers : GoodIn wsX13_dither (wsV RX13 393 RX13 yX13_dithers wsX13_dithers) := goodIn_app (goodIn_of _ (by decide +kernel)) ggX13_dither_X13_dithers
set_option maxRecDepth 20000 in
theorem ggX13_dither_X13_keeps : GoodIn wsX13_dither wsX13_keeps := goodIn_r _ [35, 8, 7, 10, 9, 36, 37, 38, 39, 5, 40, 41, 42, 43, 44, 45, 46, 47, 48, 49, 50, 51, 52, 53, 54, 55, 56, 57, 58, 59, 60, 61, 62, 63, 64, 65, 66, 67, 68, 69, 70, 71, 72, 73, 74, 75, 76, 77, 78, 79, 80, 81, 82, 83, 84, 85, 86, 87, 88] (by decide +kernel) (by decide +kernel)
set_option maxRecDepth 20000 in
theorem gX13_dither_X13_keeps : GoodIn wsX13_dither (wsV RX13 368 RX13 yX13_keeps wsX13_keeps) := goodIn_app (goodIn_of _ (by decide +kernel)) ggX13_dither_X13_keeps
theorem dX13_dither_0 : decode cX13_dither 0 = .ok (.aload_n 0, 1) := by decide +kernel
theorem dX13_dither_1 : decode cX13_dither 1 = .ok (.iconst 0, 1) := by decide +kernel
theorem dX13_dither_2 : decode cX13_dither 2 = .ok (.putfield 93, 3) := by decide +kernel
theorem dX13_dither_5 : decode cX13_dither 5 = .ok (.aload_n 0, 1) := by decide +kernel
theorem dX13_dither_6 : decode cX13_dither 6 = .ok (.invokevirtual 314, 3) := by decide +kernel
theorem dX13_dither_9 : decode cX13_dither 9 = .ok (.aload_n 0, 1) := by decide +kernel
theorem dX13_dither_10 : decode cX13_dither 10 = .ok (.invokevirtual 393, 3) := by decide +kernel
theorem dX13_dither_13 : decode cX13_dither 13 = .ok (.aload_n 0, 1) := by decide +kernel
theorem dX13_dither_14 : decode cX13_dither 14 = .ok (.invokevirtual 368, 3) := by decide +kernel
theorem dX13_dither_17 : decode cX13_dither 17 = .ok (.ireturn, 1) := by decide +kernel
set_option maxRecDepth 20000 in
theorem ggX13_errorOf_X13_isCell : GoodIn wsX13_errorOf wsX13_isCell := goodIn_r _ [5, 6, 7, 8, 4, 9, 38, 39, 40, 41, 42, 43, 44, 45, 46, 47, 48, 49, 50, 51, 52, 53, 54, 55, 56, 57, 58, 59, 60, 61, 62, 63, 64, 65, 66, 67, 68, 69, 70, 71, 72, 73, 74, 75, 76, 77, 78, 79, 80, 81, 82, 83, 84, 85] (by decide +kernel) (by decide +kernel)
set_option maxRecDepth 20000 in
theorem gX13_errorOf_X13_isCell : GoodIn wsX13_errorOf (wsV RX13 195 RX13 yX13_isCell wsX13_isCell) := goodIn_app (goodIn_of _ (by decide +kernel)) ggX13_errorOf_X13_isCell
set_option maxRecDepth 20000 in
theorem ggX13_errorOf_X13_errorAt : GoodIn wsX13_errorOf wsX13_errorAt := goodIn_r _ [13, 14, 15, 16, 17, 4, 18, 19, 20, 21, 22, 23, 24, 25, 6, 26, 27, 28, 29, 30, 1, 2, 3, 5, 7, 8, 9, 31, 32, 33, 34, 38, 39, 40, 41, 42, 43, 44, 45, 46, 47, 48, 49, 50, 51, 52, 53, 54, 55, 56, 57, 58, 59, 60, 61, 62, 63, 64, 65, 66, 67, 68, 69, 70, 71, 72, 73, 74, 75, 76, 77, 78, 79, 80, 81, 82, 83, 84, 85] (by decide +kernel) (by decide +kernel)
set_option maxRecDepth 20000 in
theorem gX13_errorOf_X13_errorAt : GoodIn wsX13_errorOf (wsV RX13 288 RX13 yX13_errorAt wsX13_errorAt) := goodIn_app (goodIn_of _ (by decide +kernel)) ggX13_errorOf_X13_errorAt
set_option maxRecDepth 20000 in
theorem ggX13_errorOf_X13_apart : GoodIn wsX13_errorOf wsX13_apart := goodIn_r _ [37] (by decide +kernel) (by decide +kernel)
set_option maxRecDepth 20000 in
theorem gX13_errorOf_X13_apart : GoodIn wsX13_errorOf (va_wsS RX13 272 yX13_apart wsX13_apart) := goodIn_app (goodIn_of _ (by decide +kernel)) ggX13_errorOf_X13_apart
theorem dX13_errorOf_0 : decode cX13_errorOf 0 = .ok (.aload_n 0, 1) := by decide +kernel
theorem dX13_errorOf_1 : decode cX13_errorOf 1 = .ok (.iload_n 1, 1) := by decide +kernel
theorem dX13_errorOf_2 : decode cX13_errorOf 2 = .ok (.iload_n 2, 1) := by decide +kernel
theorem dX13_errorOf_3 : decode cX13_errorOf 3 = .ok (.invokevirtual 195, 3) := by decide +kernel
theorem dX13_errorOf_6 : decode cX13_errorOf 6 = .ok (.ifCond .eq 15, 3) := by decide +kernel
theorem dX13_errorOf_9 : decode cX13_errorOf 9 = .ok (.aload_n 0, 1) := by decide +kernel
theorem dX13_errorOf_10 : decode cX13_errorOf 10 = .ok (.iload_n 1, 1) := by decide +kernel
theorem dX13_errorOf_11 : decode cX13_errorOf 11 = .ok (.iload_n 2, 1) := by decide +kernel
theorem dX13_errorOf_12 : decode cX13_errorOf 12 = .ok (.invokevirtual 288, 3) := by decide +kernel
theorem dX13_errorOf_15 : decode cX13_errorOf 15 = .ok (.invokestatic 272, 3) := by decide +kernel
theorem dX13_errorOf_18 : decode cX13_errorOf 18 = .ok (.goto 4, 3) := by decide +kernel
theorem dX13_errorOf_21 : decode cX13_errorOf 21 = .ok (.fconst 0, 1) := by decide +kernel
theorem dX13_errorOf_22 : decode cX13_errorOf 22 = .ok (.freturn, 1) := by decide +kernel
set_option maxRecDepth 20000 in
theorem ggX13_errorsAround_X13_errorOf : GoodIn wsX13_errorsAround wsX13_errorOf := goodIn_r _ [6, 7, 8, 9, 5, 10, 1, 11, 12, 13, 14, 15, 16, 17, 18, 19, 20, 21, 22, 23, 24, 25, 26, 27, 28, 29, 30, 31, 32, 33, 34, 35, 36, 37, 38, 39, 40, 41, 42, 43, 44, 45, 46, 47, 48, 49, 50, 51, 52, 53, 54, 55, 56, 57, 58, 59, 60, 61, 62, 63, 64, 65, 66, 67, 68, 69, 70, 71, 72, 73, 74, 75, 76, 77, 78, 79, 80, 81, 82, 83, 84, 85, 86, 87, 88, 89] (by decide +kernel) (by decide +kernel)
set_option maxRecDepth 20000 in
theorem gX13_errorsAround_X13_errorOf : GoodIn wsX13_errorsAround (wsV RX13 396 RX13 yX13_errorOf wsX13_errorOf) := goodIn_app (goodIn_of _ (by decide +kernel)) ggX13_errorsAround_X13_errorOf
theorem dX13_errorsAround_0 : decode cX13_errorsAround 0 = .ok (.fconst 0, 1) := by decide +kernel
theorem dX13_errorsAround_1 : decode cX13_errorsAround 1 = .ok (.aload_n 0, 1) := by decide +kernel
theorem dX13_errorsAround_2 : decode cX13_errorsAround 2 = .ok (.iload_n 1, 1) := by decide +kernel
theorem dX13_errorsAround_3 : decode cX13_errorsAround 3 = .ok (.iload_n 2, 1) := by decide +kernel
theorem dX13_errorsAround_4 : decode cX13_errorsAround 4 = .ok (.invokevirtual 396, 3) := by decide +kernel
theorem dX13_errorsAround_7 : decode cX13_errorsAround 7 = .ok (.fadd, 1) := by decide +kernel
theorem dX13_errorsAround_8 : decode cX13_errorsAround 8 = .ok (.fstore_n 3, 1) := by decide +kernel
theorem dX13_errorsAround_9 : decode cX13_errorsAround 9 = .ok (.iload_n 1, 1) := by decide +kernel
theorem dX13_errorsAround_10 : decode cX13_errorsAround 10 = .ok (.ifCond .le 14, 3) := by decide +kernel
theorem dX13_errorsAround_13 : decode cX13_errorsAround 13 = .ok (.fload_n 3, 1) := by decide +kernel
theorem dX13_errorsAround_14 : decode cX13_errorsAround 14 = .ok (.aload_n 0, 1) := by decide +kernel
theorem dX13_errorsAround_15 : decode cX13_errorsAround 15 = .ok (.iload_n 1, 1) := by decide +kernel
theorem dX13_errorsAround_16 : decode cX13_errorsAround 16 = .ok (.iconst 1, 1) := by decide +kernel
theorem dX13_errorsAround_17 : decode cX13_errorsAround 17 = .ok (.isub, 1) := by decide +kernel
theorem dX13_errorsAround_18 : decode cX13_errorsAround 18 = .ok (.iload_n 2, 1) := by decide +kernel
theorem dX13_errorsAround_19 : decode cX13_errorsAround 19 = .ok (.invokevirtual 396, 3) := by decide +kernel
theorem dX13_errorsAround_22 : decode cX13_errorsAround 22 = .ok (.fadd, 1) := by decide +kernel
theorem dX13_errorsAround_23 : decode cX13_errorsAround 23 = .ok (.fstore_n 3, 1) := by decide +kernel
theorem dX13_errorsAround_24 : decode cX13_errorsAround 24 = .ok (.iload_n 1, 1) := by decide +kernel
theorem dX13_errorsAround_25 : decode cX13_errorsAround 25 = .ok (.iconst 1, 1) := by decide +kernel
theorem dX13_errorsAround_26 : decode cX13_errorsAround 26 = .ok (.iadd, 1) := by decide +kernel
theorem dX13_errorsAround_27 : decode cX13_errorsAround 27 = .ok (.aload_n 0, 1) := by decide +kernel
theorem dX13_errorsAround_28 : decode cX13_errorsAround 28 = .ok (.getfield 20, 3) := by decide +kernel
theorem dX13_errorsAround_31 : decode cX13_errorsAround 31 = .ok (.iconst 0, 1) := by decide +kernel
theorem dX13_errorsAround_32 : decode cX13_errorsAround 32 = .ok (.iaload, 1) := by decide +kernel
theorem dX13_errorsAround_33 : decode cX13_errorsAround 33 = .ok (.if_icmp .ge 14, 3) := by decide +kernel
theorem dX13_errorsAround_36 : decode cX13_errorsAround 36 = .ok (.fload_n 3, 1) := by decide +kernel
theorem dX13_errorsAround_37 : decode cX13_errorsAround 37 = .ok (.aload_n 0, 1) := by decide +kernel
theorem dX13_errorsAround_38 : decode cX13_errorsAround 38 = .ok (.iload_n 1, 1) := by decide +kernel
theorem dX13_errorsAround_39 : decode cX13_errorsAround 39 = .ok (.iconst 1, 1) := by decide +kernel
theorem dX13_errorsAround_40 : decode cX13_errorsAround 40 = .ok (.iadd, 1) := by decide +kernel
theorem dX13_errorsAround_41 : decode cX13_errorsAround 41 = .ok (.iload_n 2, 1) := by decide +kernel
theorem dX13_errorsAround_42 : decode cX13_errorsAround 42 = .ok (.invokevirtual 396, 3) := by decide +kernel
theorem dX13_errorsAround_45 : decode cX13_errorsAround 45 = .ok (.fadd, 1) := by decide +kernel
theorem dX13_errorsAround_46 : decode cX13_errorsAround 46 = .ok (.fstore_n 3, 1) := by decide +kernel
theorem dX13_errorsAround_47 : decode cX13_errorsAround 47 = .ok (.iload_n 2, 1) := by decide +kernel
theorem dX13_errorsAround_48 : decode cX13_errorsAround 48 = .ok (.ifCond .le 14, 3) := by decide +kernel
theorem dX13_errorsAround_51 : decode cX13_errorsAround 51 = .ok (.fload_n 3, 1) := by decide +kernel
theorem dX13_errorsAround_52 : decode cX13_errorsAround 52 = .ok (.aload_n 0, 1) := by decide +kernel
theorem dX13_errorsAround_53 : decode cX13_errorsAround 53 = .ok (.iload_n 1, 1) := by decide +kernel
theorem dX13_errorsAround_54 : decode cX13_errorsAround 54 = .ok (.iload_n 2, 1) := by decide +kernel
theorem dX13_errorsAround_55 : decode cX13_errorsAround 55 = .ok (.iconst 1, 1) := by decide +kernel
theorem dX13_errorsAround_56 : decode cX13_errorsAround 56 = .ok (.isub, 1) := by decide +kernel
theorem dX13_errorsAround_57 : decode cX13_errorsAround 57 = .ok (.invokevirtual 396, 3) := by decide +kernel
theorem dX13_errorsAround_60 : decode cX13_errorsAround 60 = .ok (.fadd, 1) := by decide +kernel
theorem dX13_errorsAround_61 : decode cX13_errorsAround 61 = .ok (.fstore_n 3, 1) := by decide +kernel
theorem dX13_errorsAround_62 : decode cX13_errorsAround 62 = .ok (.iload_n 2, 1) := by decide +kernel
theorem dX13_errorsAround_63 : decode cX13_errorsAround 63 = .ok (.iconst 1, 1) := by decide +kernel
theorem dX13_errorsAround_64 : decode cX13_errorsAround 64 = .ok (.iadd, 1) := by decide +kernel
theorem dX13_errorsAround_65 : decode cX13_errorsAround 65 = .ok (.aload_n 0, 1) := by decide +kernel
theorem dX13_errorsAround_66 : decode cX13_errorsAround 66 = .ok (.getfield 20, 3) := by decide +kernel
theorem dX13_errorsAround_69 : decode cX13_errorsAround 69 = .ok (.iconst 1, 1) := by decide +kernel
theorem dX13_errorsAround_70 : decode cX13_errorsAround 70 = .ok (.iaload, 1) := by decide +kernel
theorem dX13_errorsAround_71 : decode cX13_errorsAround 71 = .ok (.if_icmp .ge 14, 3) := by decide +kernel
theorem dX13_errorsAround_74 : decode cX13_errorsAround 74 = .ok (.fload_n 3, 1) := by decide +kernel
theorem dX13_errorsAround_75 : decode cX13_errorsAround 75 = .ok (.aload_n 0, 1) := by decide +kernel
theorem dX13_errorsAround_76 : decode cX13_errorsAround 76 = .ok (.iload_n 1, 1) := by decide +kernel
theorem dX13_errorsAround_77 : decode cX13_errorsAround 77 = .ok (.iload_n 2, 1) := by decide +kernel
theorem dX13_errorsAround_78 : decode cX13_errorsAround 78 = .ok (.iconst 1, 1) := by decide +kernel
theorem dX13_errorsAround_79 : decode cX13_errorsAround 79 = .ok (.iadd, 1) := by decide +kernel
theorem dX13_errorsAround_80 : decode cX13_errorsAround 80 = .ok (.invokevirtual 396, 3) := by decide +kernel
theorem dX13_errorsAround_83 : decode cX13_errorsAround 83 = .ok (.fadd, 1) := by decide +kernel
theorem dX13_errorsAround_84 : decode cX13_errorsAround 84 = .ok (.fstore_n 3, 1) := by decide +kernel
theorem dX13_errorsAround_85 : decode cX13_errorsAround 85 = .ok (.fload_n 3, 1) := by decide +kernel
theorem dX13_errorsAround_86 : decode cX13_errorsAround 86 = .ok (.freturn, 1) := by decide +kernel
set_option maxRecDepth 20000 in
theorem ggX13_polishes_X13_more : GoodIn wsX13_polishes wsX13_more := goodIn_r _ [6] (by decide +kernel) (by decide +kernel)
set_option maxRecDepth 20000 in
theorem gX13_polishes_X13_more : GoodIn wsX13_polishes (va_wsS RX13 264 yX13_more wsX13_more) := goodIn_app (goodIn_of _ (by decide +kernel)) ggX13_polishes_X13_more
set_option maxRecDepth 20000 in
theorem ggX13_polishes_X13_less : GoodIn wsX13_polishes wsX13_less := goodIn_r _ [9] (by decide +kernel) (by decide +kernel)
set_option maxRecDepth 20000 in
theorem gX13_polishes_X13_less : GoodIn wsX13_polishes (va_wsS RX13 210 yX13_less wsX13_less) := goodIn_app (goodIn_of _ (by decide +kernel)) ggX13_polishes_X13_less
set_option maxRecDepth 20000 in
theorem ggX13_polishes_X13_errorsAround : GoodIn wsX13_polishes wsX13_errorsAround := goodIn_r _ [13, 2, 14, 15, 16, 5, 17, 18, 19, 20, 21, 22, 23, 24, 25, 26, 27, 28, 29, 30, 31, 32, 33, 1, 34, 35, 36, 37, 38, 39, 40, 41, 42, 43, 44, 45, 46, 47, 48, 49, 50, 51, 52, 53, 54, 55, 56, 57, 58, 59, 60, 61, 62, 63, 64, 65, 66, 67, 68, 69, 70, 71, 72, 73, 74, 75, 76, 77, 78, 79, 80, 81, 82, 83, 84, 85, 86, 87, 88, 89, 90, 91, 92, 93, 94, 95, 96, 97, 98, 99] (by decide +kernel) (by decide +kernel)
set_option maxRecDepth 20000 in
theorem gX13_polishes_X13_errorsAround : GoodIn wsX13_polishes (wsV RX13 399 RX13 yX13_errorsAround wsX13_errorsAround) := goodIn_app (goodIn_of _ (by decide +kernel)) ggX13_polishes_X13_errorsAround
theorem dX13_polishes_0 : decode cX13_polishes 0 = .ok (.aload_n 0, 1) := by decide +kernel
theorem dX13_polishes_1 : decode cX13_polishes 1 = .ok (.getfield 29, 3) := by decide +kernel
theorem dX13_polishes_4 : decode cX13_polishes 4 = .ok (.bipush 16, 2) := by decide +kernel
theorem dX13_polishes_6 : decode cX13_polishes 6 = .ok (.iload_n 2, 1) := by decide +kernel
theorem dX13_polishes_7 : decode cX13_polishes 7 = .ok (.imul, 1) := by decide +kernel
theorem dX13_polishes_8 : decode cX13_polishes 8 = .ok (.iload_n 1, 1) := by decide +kernel
theorem dX13_polishes_9 : decode cX13_polishes 9 = .ok (.iadd, 1) := by decide +kernel
theorem dX13_polishes_10 : decode cX13_polishes 10 = .ok (.iaload, 1) := by decide +kernel
theorem dX13_polishes_11 : decode cX13_polishes 11 = .ok (.istore_n 3, 1) := by decide +kernel
theorem dX13_polishes_12 : decode cX13_polishes 12 = .ok (.iconst (-1), 1) := by decide +kernel
theorem dX13_polishes_13 : decode cX13_polishes 13 = .ok (.istore 4, 2) := by decide +kernel
theorem dX13_polishes_15 : decode cX13_polishes 15 = .ok (.fconst 0, 1) := by decide +kernel
theorem dX13_polishes_16 : decode cX13_polishes 16 = .ok (.fstore 5, 2) := by decide +kernel
theorem dX13_polishes_18 : decode cX13_polishes 18 = .ok (.aload_n 0, 1) := by decide +kernel
theorem dX13_polishes_19 : decode cX13_polishes 19 = .ok (.getfield 20, 3) := by decide +kernel
theorem dX13_polishes_22 : decode cX13_polishes 22 = .ok (.iconst 4, 1) := by decide +kernel
theorem dX13_polishes_23 : decode cX13_polishes 23 = .ok (.iaload, 1) := by decide +kernel
theorem dX13_polishes_24 : decode cX13_polishes 24 = .ok (.iload_n 3, 1) := by decide +kernel
theorem dX13_polishes_25 : decode cX13_polishes 25 = .ok (.iconst 1, 1) := by decide +kernel
theorem dX13_polishes_26 : decode cX13_polishes 26 = .ok (.isub, 1) := by decide +kernel
theorem dX13_polishes_27 : decode cX13_polishes 27 = .ok (.invokestatic 264, 3) := by decide +kernel
theorem dX13_polishes_30 : decode cX13_polishes 30 = .ok (.istore 6, 2) := by decide +kernel
theorem dX13_polishes_32 : decode cX13_polishes 32 = .ok (.iload 6, 2) := by decide +kernel
theorem dX13_polishes_34 : decode cX13_polishes 34 = .ok (.aload_n 0, 1) := by decide +kernel
theorem dX13_polishes_35 : decode cX13_polishes 35 = .ok (.getfield 20, 3) := by decide +kernel
theorem dX13_polishes_38 : decode cX13_polishes 38 = .ok (.iconst 2, 1) := by decide +kernel
theorem dX13_polishes_39 : decode cX13_polishes 39 = .ok (.iaload, 1) := by decide +kernel
theorem dX13_polishes_40 : decode cX13_polishes 40 = .ok (.iload_n 3, 1) := by decide +kernel
theorem dX13_polishes_41 : decode cX13_polishes 41 = .ok (.iconst 1, 1) := by decide +kernel
theorem dX13_polishes_42 : decode cX13_polishes 42 = .ok (.iadd, 1) := by decide +kernel
theorem dX13_polishes_43 : decode cX13_polishes 43 = .ok (.invokestatic 210, 3) := by decide +kernel
theorem dX13_polishes_46 : decode cX13_polishes 46 = .ok (.if_icmp .gt 55, 3) := by decide +kernel
theorem dX13_polishes_49 : decode cX13_polishes 49 = .ok (.aload_n 0, 1) := by decide +kernel
theorem dX13_polishes_50 : decode cX13_polishes 50 = .ok (.getfield 29, 3) := by decide +kernel
theorem dX13_polishes_53 : decode cX13_polishes 53 = .ok (.bipush 16, 2) := by decide +kernel
theorem dX13_polishes_55 : decode cX13_polishes 55 = .ok (.iload_n 2, 1) := by decide +kernel
theorem dX13_polishes_56 : decode cX13_polishes 56 = .ok (.imul, 1) := by decide +kernel
theorem dX13_polishes_57 : decode cX13_polishes 57 = .ok (.iload_n 1, 1) := by decide +kernel
theorem dX13_polishes_58 : decode cX13_polishes 58 = .ok (.iadd, 1) := by decide +kernel
theorem dX13_polishes_59 : decode cX13_polishes 59 = .ok (.iload 6, 2) := by decide +kernel
theorem dX13_polishes_61 : decode cX13_polishes 61 = .ok (.iastore, 1) := by decide +kernel
theorem dX13_polishes_62 : decode cX13_polishes 62 = .ok (.aload_n 0, 1) := by decide +kernel
theorem dX13_polishes_63 : decode cX13_polishes 63 = .ok (.iload_n 1, 1) := by decide +kernel
theorem dX13_polishes_64 : decode cX13_polishes 64 = .ok (.iload_n 2, 1) := by decide +kernel
theorem dX13_polishes_65 : decode cX13_polishes 65 = .ok (.invokevirtual 399, 3) := by decide +kernel
theorem dX13_polishes_68 : decode cX13_polishes 68 = .ok (.fstore 7, 2) := by decide +kernel
theorem dX13_polishes_70 : decode cX13_polishes 70 = .ok (.iload 4, 2) := by decide +kernel
theorem dX13_polishes_72 : decode cX13_polishes 72 = .ok (.iconst (-1), 1) := by decide +kernel
theorem dX13_polishes_73 : decode cX13_polishes 73 = .ok (.if_icmp .eq 14, 3) := by decide +kernel
theorem dX13_polishes_76 : decode cX13_polishes 76 = .ok (.fload 7, 2) := by decide +kernel
theorem dX13_polishes_78 : decode cX13_polishes 78 = .ok (.fload 5, 2) := by decide +kernel
theorem dX13_polishes_80 : decode cX13_polishes 80 = .ok (.fcmp .l, 1) := by decide +kernel
theorem dX13_polishes_81 : decode cX13_polishes 81 = .ok (.ifCond .lt 6, 3) := by decide +kernel
theorem dX13_polishes_84 : decode cX13_polishes 84 = .ok (.goto 11, 3) := by decide +kernel
theorem dX13_polishes_87 : decode cX13_polishes 87 = .ok (.iload 6, 2) := by decide +kernel
theorem dX13_polishes_89 : decode cX13_polishes 89 = .ok (.istore 4, 2) := by decide +kernel
theorem dX13_polishes_91 : decode cX13_polishes 91 = .ok (.fload 7, 2) := by decide +kernel
theorem dX13_polishes_93 : decode cX13_polishes 93 = .ok (.fstore 5, 2) := by decide +kernel
theorem dX13_polishes_95 : decode cX13_polishes 95 = .ok (.iinc 6 1, 3) := by decide +kernel
theorem dX13_polishes_98 : decode cX13_polishes 98 = .ok (.goto (-66), 3) := by decide +kernel
theorem dX13_polishes_101 : decode cX13_polishes 101 = .ok (.aload_n 0, 1) := by decide +kernel
theorem dX13_polishes_102 : decode cX13_polishes 102 = .ok (.getfield 29, 3) := by decide +kernel
theorem dX13_polishes_105 : decode cX13_polishes 105 = .ok (.bipush 16, 2) := by decide +kernel
theorem dX13_polishes_107 : decode cX13_polishes 107 = .ok (.iload_n 2, 1) := by decide +kernel
theorem dX13_polishes_108 : decode cX13_polishes 108 = .ok (.imul, 1) := by decide +kernel
theorem dX13_polishes_109 : decode cX13_polishes 109 = .ok (.iload_n 1, 1) := by decide +kernel
theorem dX13_polishes_110 : decode cX13_polishes 110 = .ok (.iadd, 1) := by decide +kernel
theorem dX13_polishes_111 : decode cX13_polishes 111 = .ok (.iload 4, 2) := by decide +kernel
theorem dX13_polishes_113 : decode cX13_polishes 113 = .ok (.iastore, 1) := by decide +kernel
theorem dX13_polishes_114 : decode cX13_polishes 114 = .ok (.return_, 1) := by decide +kernel
set_option maxRecDepth 20000 in
theorem ggX13_polishesAll_X13_cellMany : GoodIn wsX13_polishesAll wsX13_cellMany := goodIn_r _ [6, 1, 60, 61, 62, 63, 64, 65, 66, 67, 68, 69, 70, 71, 72, 73, 74, 75, 76, 77, 78, 79, 80, 81, 82, 83, 84, 85, 86, 87, 88, 89, 90, 91, 92, 93, 94, 95, 96, 97, 98, 99, 100, 101, 102, 103, 104, 105, 106, 107] (by decide +kernel) (by decide +kernel)
set_option maxRecDepth 20000 in
theorem gX13_polishesAll_X13_cellMany : GoodIn wsX13_polishesAll (wsV RX13 251 RX13 yX13_cellMany wsX13_cellMany) := goodIn_app (goodIn_of _ (by decide +kernel)) ggX13_polishesAll_X13_cellMany
set_option maxRecDepth 20000 in
theorem ggX13_polishesAll_X13_polishes : GoodIn wsX13_polishesAll wsX13_polishes := goodIn_r _ [10, 11, 1, 12, 13, 5, 14, 15, 16, 17, 18, 19, 20, 21, 22, 23, 24, 25, 26, 27, 28, 29, 30, 31, 32, 33, 34, 35, 36, 37, 38, 39, 40, 41, 42, 43, 44, 45, 46, 47, 48, 49, 50, 51, 52, 53, 54, 55, 56, 57, 58, 59, 60, 61, 62, 63, 64, 65, 66, 67, 68, 69, 70, 71, 72, 73, 74, 75, 76, 77, 78, 79, 80, 81, 82, 83, 84, 85, 86, 87, 88, 89, 90, 91, 92, 93, 94, 95, 96, 97, 98, 99, 100, 101, 102, 103, 104, 105, 106, 107] (by decide +kernel) (by decide +kernel)
set_option maxRecDepth 20000 in
theorem gX13_polishesAll_X13_polishes : GoodIn wsX13_polishesAll (wsV RX13 402 RX13 yX13_polishes wsX13_polishes) := goodIn_app (goodIn_of _ (by decide +kernel)) ggX13_polishesAll_X13_polishes
theorem dX13_polishesAll_0 : decode cX13_polishesAll 0 = .ok (.iconst 0, 1) := by decide +kernel
theorem dX13_polishesAll_1 : decode cX13_polishesAll 1 = .ok (.istore_n 1, 1) := by decide +kernel
theorem dX13_polishesAll_2 : decode cX13_polishesAll 2 = .ok (.iload_n 1, 1) := by decide +kernel
theorem dX13_polishesAll_3 : decode cX13_polishesAll 3 = .ok (.aload_n 0, 1) := by decide +kernel
theorem dX13_polishesAll_4 : decode cX13_polishesAll 4 = .ok (.invokevirtual 251, 3) := by decide +kernel
theorem dX13_polishesAll_7 : decode cX13_polishesAll 7 = .ok (.if_icmp .ge 29, 3) := by decide +kernel
theorem dX13_polishesAll_10 : decode cX13_polishesAll 10 = .ok (.aload_n 0, 1) := by decide +kernel
theorem dX13_polishesAll_11 : decode cX13_polishesAll 11 = .ok (.iload_n 1, 1) := by decide +kernel
theorem dX13_polishesAll_12 : decode cX13_polishesAll 12 = .ok (.aload_n 0, 1) := by decide +kernel
theorem dX13_polishesAll_13 : decode cX13_polishesAll 13 = .ok (.getfield 20, 3) := by decide +kernel
theorem dX13_polishesAll_16 : decode cX13_polishesAll 16 = .ok (.iconst 0, 1) := by decide +kernel
theorem dX13_polishesAll_17 : decode cX13_polishesAll 17 = .ok (.iaload, 1) := by decide +kernel
theorem dX13_polishesAll_18 : decode cX13_polishesAll 18 = .ok (.irem, 1) := by decide +kernel
theorem dX13_polishesAll_19 : decode cX13_polishesAll 19 = .ok (.iload_n 1, 1) := by decide +kernel
theorem dX13_polishesAll_20 : decode cX13_polishesAll 20 = .ok (.aload_n 0, 1) := by decide +kernel
theorem dX13_polishesAll_21 : decode cX13_polishesAll 21 = .ok (.getfield 20, 3) := by decide +kernel
theorem dX13_polishesAll_24 : decode cX13_polishesAll 24 = .ok (.iconst 0, 1) := by decide +kernel
theorem dX13_polishesAll_25 : decode cX13_polishesAll 25 = .ok (.iaload, 1) := by decide +kernel
theorem dX13_polishesAll_26 : decode cX13_polishesAll 26 = .ok (.idiv, 1) := by decide +kernel
theorem dX13_polishesAll_27 : decode cX13_polishesAll 27 = .ok (.invokevirtual 402, 3) := by decide +kernel
theorem dX13_polishesAll_30 : decode cX13_polishesAll 30 = .ok (.iinc 1 1, 3) := by decide +kernel
theorem dX13_polishesAll_33 : decode cX13_polishesAll 33 = .ok (.goto (-31), 3) := by decide +kernel
theorem dX13_polishesAll_36 : decode cX13_polishesAll 36 = .ok (.return_, 1) := by decide +kernel
set_option maxRecDepth 20000 in
theorem ggX13_polish_X13_laysAside : GoodIn wsX13_polish wsX13_laysAside := goodIn_r _ [6, 7, 8, 9, 10, 80, 81, 82, 83, 84, 85, 86, 87, 88, 89, 90, 91, 92, 93, 94, 95, 96, 97, 98, 99, 100, 101, 102, 103, 104, 105, 106, 107, 108, 109, 110, 111, 112, 113, 114, 115, 116, 117, 118, 119, 120, 121, 122, 123, 124, 125, 126, 127] (by decide +kernel) (by decide +kernel)
set_option maxRecDepth 20000 in
theorem gX13_polish_X13_laysAside : GoodIn wsX13_polish (wsV RX13 314 RX13 yX13_laysAside wsX13_laysAside) := goodIn_app (goodIn_of _ (by decide +kernel)) ggX13_polish_X13_laysAside
set_option maxRecDepth 20000 in
theorem ggX13_polish_X13_polishesAll : GoodIn wsX13_polish wsX13_polishesAll := goodIn_r _ [14, 15, 16, 17, 18, 5, 19, 20, 21, 22, 23, 8, 24, 25, 26, 27, 28, 29, 30, 31, 32, 33, 34, 35, 36, 37, 38, 39, 40, 41, 42, 43, 44, 45, 46, 47, 48, 10, 49, 50, 51, 52, 53, 54, 55, 56, 57, 58, 59, 60, 61, 62, 63, 64, 65, 66, 67, 68, 69, 70, 80, 81, 82, 83, 84, 85, 86, 87, 88, 89, 90, 91, 92, 93, 94, 95, 96, 97, 98, 99, 100, 101, 102, 103, 104, 105, 106, 107, 108, 109, 110, 111, 112, 113, 114, 115, 116, 117, 118, 119, 120, 121, 122, 123, 124, 125, 126, 127] (by decide +kernel) (by decide +kernel)
set_option maxRecDepth 20000 in
theorem gX13_polish_X13_polishesAll : GoodIn wsX13_polish (wsV RX13 406 RX13 yX13_polishesAll wsX13_polishesAll) := goodIn_app (goodIn_of _ (by decide +kernel)) ggX13_polish_X13_polishesAll
set_option maxRecDepth 20000 in
theorem ggX13_polish_X13_keeps : GoodIn wsX13_polish wsX13_keeps := goodIn_r _ [74, 8, 7, 10, 9, 75, 76, 77, 78, 5, 79, 80, 81, 82, 83, 84, 85, 86, 87, 88, 89, 90, 91, 92, 93, 94, 95, 96, 97, 98, 99, 100, 101, 102, 103, 104, 105, 106, 107, 108, 109, 110, 111, 112, 113, 114, 115, 116, 117, 118, 119, 120, 121, 122, 123, 124, 125, 126, 127] (by decide +kernel) (by decide +kernel)
set_option maxRecDepth 20000 in
theorem gX13_polish_X13_keeps : GoodIn wsX13_polish (wsV RX13 368 RX13 yX13_keeps wsX13_keeps) := goodIn_app (goodIn_of _ (by decide +kernel)) ggX13_polish_X13_keeps
theorem dX13_polish_0 : decode cX13_polish 0 = .ok (.aload_n 0, 1) := by decide +kernel
theorem dX13_polish_1 : decode cX13_polish 1 = .ok (.iconst 0, 1) := by decide +kernel
theorem dX13_polish_2 : decode cX13_polish 2 = .ok (.putfield 93, 3) := by decide +kernel
theorem dX13_polish_5 : decode cX13_polish 5 = .ok (.aload_n 0, 1) := by decide +kernel
theorem dX13_polish_6 : decode cX13_polish 6 = .ok (.invokevirtual 314, 3) := by decide +kernel
theorem dX13_polish_9 : decode cX13_polish 9 = .ok (.aload_n 0, 1) := by decide +kernel
theorem dX13_polish_10 : decode cX13_polish 10 = .ok (.invokevirtual 406, 3) := by decide +kernel
theorem dX13_polish_13 : decode cX13_polish 13 = .ok (.aload_n 0, 1) := by decide +kernel
theorem dX13_polish_14 : decode cX13_polish 14 = .ok (.invokevirtual 368, 3) := by decide +kernel
theorem dX13_polish_17 : decode cX13_polish 17 = .ok (.ireturn, 1) := by decide +kernel
set_option maxRecDepth 20000 in
theorem ggX13_retones_X13_cellMany : GoodIn wsX13_retones wsX13_cellMany := goodIn_r _ [6, 7, 33, 34, 35, 36, 37, 38, 39, 40, 41, 42, 43, 44, 45, 46, 47, 48, 49, 50, 51, 52, 53, 54, 55, 56, 57, 58, 59, 60, 61, 62, 63, 64, 65, 66, 67, 68, 69, 70, 71, 72, 73, 74, 75, 76, 77, 78, 79, 80] (by decide +kernel) (by decide +kernel)
set_option maxRecDepth 20000 in
theorem gX13_retones_X13_cellMany : GoodIn wsX13_retones (wsV RX13 251 RX13 yX13_cellMany wsX13_cellMany) := goodIn_app (goodIn_of _ (by decide +kernel)) ggX13_retones_X13_cellMany
set_option maxRecDepth 20000 in
theorem ggX13_retones_X13_cellAt : GoodIn wsX13_retones wsX13_cellAt := goodIn_r _ [11, 7, 33, 34, 35, 36, 37, 38, 39, 40, 41, 42, 43, 44, 45, 46, 47, 48, 49, 50, 51, 52, 53, 54, 55, 56, 57, 58, 59, 60, 61, 62, 63, 64, 65, 66, 67, 68, 69, 70, 71, 72, 73, 74, 75, 76, 77, 78, 79, 80] (by decide +kernel) (by decide +kernel)
set_option maxRecDepth 20000 in
theorem gX13_retones_X13_cellAt : GoodIn wsX13_retones (wsV RX13 255 RX13 yX13_cellAt wsX13_cellAt) := goodIn_app (goodIn_of _ (by decide +kernel)) ggX13_retones_X13_cellAt
set_option maxRecDepth 20000 in
theorem ggX13_retones_X13_tones : GoodIn wsX13_retones wsX13_tones := goodIn_r _ [15, 1, 16, 17, 18, 5, 19, 20, 21, 22, 23, 24, 7, 25, 26, 27, 28, 29, 30, 31, 32, 33, 34, 35, 36, 37, 38, 39, 40, 41, 42, 43, 44, 45, 46, 47, 48, 49, 50, 51, 52, 53, 54, 55, 56, 57, 58, 59, 60, 61, 62, 63, 64, 65, 66, 67, 68, 69, 70, 71, 72, 73, 74, 75, 76, 77, 78, 79, 80] (by decide +kernel) (by decide +kernel)
set_option maxRecDepth 20000 in
theorem gX13_retones_X13_tones : GoodIn wsX13_retones (wsV RX13 365 RX13 yX13_tones wsX13_tones) := goodIn_app (goodIn_of _ (by decide +kernel)) ggX13_retones_X13_tones
theorem dX13_retones_0 : decode cX13_retones 0 = .ok (.iconst 0, 1) := by decide +kernel
theorem dX13_retones_1 : decode cX13_retones 1 = .ok (.istore_n 3, 1) := by decide +kernel
theorem dX13_retones_2 : decode cX13_retones 2 = .ok (.iload_n 3, 1) := by decide +kernel
theorem dX13_retones_3 : decode cX13_retones 3 = .ok (.aload_n 0, 1) := by decide +kernel
theorem dX13_retones_4 : decode cX13_retones 4 = .ok (.invokevirtual 251, 3) := by decide +kernel
theorem dX13_retones_7 : decode cX13_retones 7 = .ok (.if_icmp .ge 68, 3) := by decide +kernel
theorem dX13_retones_10 : decode cX13_retones 10 = .ok (.aload_n 0, 1) := by decide +kernel
theorem dX13_retones_11 : decode cX13_retones 11 = .ok (.iload_n 3, 1) := by decide +kernel
theorem dX13_retones_12 : decode cX13_retones 12 = .ok (.invokevirtual 255, 3) := by decide +kernel
theorem dX13_retones_15 : decode cX13_retones 15 = .ok (.istore 4, 2) := by decide +kernel
theorem dX13_retones_17 : decode cX13_retones 17 = .ok (.iload_n 1, 1) := by decide +kernel
theorem dX13_retones_18 : decode cX13_retones 18 = .ok (.aload_n 0, 1) := by decide +kernel
theorem dX13_retones_19 : decode cX13_retones 19 = .ok (.getfield 26, 3) := by decide +kernel
theorem dX13_retones_22 : decode cX13_retones 22 = .ok (.iload 4, 2) := by decide +kernel
theorem dX13_retones_24 : decode cX13_retones 24 = .ok (.iaload, 1) := by decide +kernel
theorem dX13_retones_25 : decode cX13_retones 25 = .ok (.imul, 1) := by decide +kernel
theorem dX13_retones_26 : decode cX13_retones 26 = .ok (.iload_n 2, 1) := by decide +kernel
theorem dX13_retones_27 : decode cX13_retones 27 = .ok (.iadd, 1) := by decide +kernel
theorem dX13_retones_28 : decode cX13_retones 28 = .ok (.istore 5, 2) := by decide +kernel
theorem dX13_retones_30 : decode cX13_retones 30 = .ok (.aload_n 0, 1) := by decide +kernel
theorem dX13_retones_31 : decode cX13_retones 31 = .ok (.iload 4, 2) := by decide +kernel
theorem dX13_retones_33 : decode cX13_retones 33 = .ok (.bipush 16, 2) := by decide +kernel
theorem dX13_retones_35 : decode cX13_retones 35 = .ok (.irem, 1) := by decide +kernel
theorem dX13_retones_36 : decode cX13_retones 36 = .ok (.iload 4, 2) := by decide +kernel
theorem dX13_retones_38 : decode cX13_retones 38 = .ok (.bipush 16, 2) := by decide +kernel
theorem dX13_retones_40 : decode cX13_retones 40 = .ok (.idiv, 1) := by decide +kernel
theorem dX13_retones_41 : decode cX13_retones 41 = .ok (.iload 5, 2) := by decide +kernel
theorem dX13_retones_43 : decode cX13_retones 43 = .ok (.ifCond .ge 7, 3) := by decide +kernel
theorem dX13_retones_46 : decode cX13_retones 46 = .ok (.iconst 0, 1) := by decide +kernel
theorem dX13_retones_47 : decode cX13_retones 47 = .ok (.goto 19, 3) := by decide +kernel
theorem dX13_retones_50 : decode cX13_retones 50 = .ok (.iload 5, 2) := by decide +kernel
theorem dX13_retones_52 : decode cX13_retones 52 = .ok (.sipush 255, 3) := by decide +kernel
theorem dX13_retones_55 : decode cX13_retones 55 = .ok (.if_icmp .le 9, 3) := by decide +kernel
theorem dX13_retones_58 : decode cX13_retones 58 = .ok (.sipush 255, 3) := by decide +kernel
theorem dX13_retones_61 : decode cX13_retones 61 = .ok (.goto 5, 3) := by decide +kernel
theorem dX13_retones_64 : decode cX13_retones 64 = .ok (.iload 5, 2) := by decide +kernel
theorem dX13_retones_66 : decode cX13_retones 66 = .ok (.invokevirtual 365, 3) := by decide +kernel
theorem dX13_retones_69 : decode cX13_retones 69 = .ok (.iinc 3 1, 3) := by decide +kernel
theorem dX13_retones_72 : decode cX13_retones 72 = .ok (.goto (-70), 3) := by decide +kernel
theorem dX13_retones_75 : decode cX13_retones 75 = .ok (.return_, 1) := by decide +kernel
set_option maxRecDepth 20000 in
theorem ggX13_invert_X13_laysAside : GoodIn wsX13_invert wsX13_laysAside := goodIn_r _ [6, 7, 8, 9, 10, 53, 54, 55, 56, 57, 58, 59, 60, 61, 62, 63, 64, 65, 66, 67, 68, 69, 70, 71, 72, 73, 74, 75, 76, 77, 78, 79, 80, 81, 82, 83, 84, 85, 86, 87, 88, 89, 90, 91, 92, 93, 94, 95, 96, 97, 98, 99, 100] (by decide +kernel) (by decide +kernel)
set_option maxRecDepth 20000 in
theorem gX13_invert_X13_laysAside : GoodIn wsX13_invert (wsV RX13 314 RX13 yX13_laysAside wsX13_laysAside) := goodIn_app (goodIn_of _ (by decide +kernel)) ggX13_invert_X13_laysAside
set_option maxRecDepth 20000 in
theorem ggX13_invert_X13_retones : GoodIn wsX13_invert wsX13_retones := goodIn_r _ [14, 10, 15, 16, 17, 5, 18, 19, 20, 21, 22, 23, 24, 25, 26, 27, 8, 28, 29, 30, 31, 32, 33, 34, 35, 36, 37, 38, 39, 40, 41, 42, 43, 53, 54, 55, 56, 57, 58, 59, 60, 61, 62, 63, 64, 65, 66, 67, 68, 69, 70, 71, 72, 73, 74, 75, 76, 77, 78, 79, 80, 81, 82, 83, 84, 85, 86, 87, 88, 89, 90, 91, 92, 93, 94, 95, 96, 97, 98, 99, 100] (by decide +kernel) (by decide +kernel)
set_option maxRecDepth 20000 in
theorem gX13_invert_X13_retones : GoodIn wsX13_invert (wsV RX13 409 RX13 yX13_retones wsX13_retones) := goodIn_app (goodIn_of _ (by decide +kernel)) ggX13_invert_X13_retones
set_option maxRecDepth 20000 in
theorem ggX13_invert_X13_keeps : GoodIn wsX13_invert wsX13_keeps := goodIn_r _ [47, 8, 7, 10, 9, 48, 49, 50, 51, 5, 52, 53, 54, 55, 56, 57, 58, 59, 60, 61, 62, 63, 64, 65, 66, 67, 68, 69, 70, 71, 72, 73, 74, 75, 76, 77, 78, 79, 80, 81, 82, 83, 84, 85, 86, 87, 88, 89, 90, 91, 92, 93, 94, 95, 96, 97, 98, 99, 100] (by decide +kernel) (by decide +kernel)
set_option maxRecDepth 20000 in
theorem gX13_invert_X13_keeps : GoodIn wsX13_invert (wsV RX13 368 RX13 yX13_keeps wsX13_keeps) := goodIn_app (goodIn_of _ (by decide +kernel)) ggX13_invert_X13_keeps
theorem dX13_invert_0 : decode cX13_invert 0 = .ok (.aload_n 0, 1) := by decide +kernel
theorem dX13_invert_1 : decode cX13_invert 1 = .ok (.iconst 0, 1) := by decide +kernel
theorem dX13_invert_2 : decode cX13_invert 2 = .ok (.putfield 93, 3) := by decide +kernel
theorem dX13_invert_5 : decode cX13_invert 5 = .ok (.aload_n 0, 1) := by decide +kernel
theorem dX13_invert_6 : decode cX13_invert 6 = .ok (.invokevirtual 314, 3) := by decide +kernel
theorem dX13_invert_9 : decode cX13_invert 9 = .ok (.aload_n 0, 1) := by decide +kernel
theorem dX13_invert_10 : decode cX13_invert 10 = .ok (.iconst (-1), 1) := by decide +kernel
theorem dX13_invert_11 : decode cX13_invert 11 = .ok (.sipush 255, 3) := by decide +kernel
theorem dX13_invert_14 : decode cX13_invert 14 = .ok (.invokevirtual 409, 3) := by decide +kernel
theorem dX13_invert_17 : decode cX13_invert 17 = .ok (.aload_n 0, 1) := by decide +kernel
theorem dX13_invert_18 : decode cX13_invert 18 = .ok (.invokevirtual 368, 3) := by decide +kernel
theorem dX13_invert_21 : decode cX13_invert 21 = .ok (.ireturn, 1) := by decide +kernel
set_option maxRecDepth 20000 in
theorem ggX13_lighten_X13_isIn : GoodIn wsX13_lighten wsX13_isIn := goodIn_r _ [6] (by decide +kernel) (by decide +kernel)
set_option maxRecDepth 20000 in
theorem gX13_lighten_X13_isIn : GoodIn wsX13_lighten (va_wsS RX13 111 yX13_isIn wsX13_isIn) := goodIn_app (goodIn_of _ (by decide +kernel)) ggX13_lighten_X13_isIn
set_option maxRecDepth 20000 in
theorem ggX13_lighten_X13_goes : GoodIn wsX13_lighten wsX13_goes := goodIn_r _ [10, 11, 12, 13, 5, 14, 62, 63, 64, 65, 66, 67, 68, 69, 70, 71, 72, 73, 74, 75, 76, 77, 78, 79, 80, 81, 82, 83, 84, 85, 86, 87, 88, 89, 90, 91, 92, 93, 94, 95, 96, 97, 98, 99, 100, 101, 102, 103, 104, 105, 106, 107, 108, 109] (by decide +kernel) (by decide +kernel)
set_option maxRecDepth 20000 in
theorem gX13_lighten_X13_goes : GoodIn wsX13_lighten (wsV RX13 103 RX13 yX13_goes wsX13_goes) := goodIn_app (goodIn_of _ (by decide +kernel)) ggX13_lighten_X13_goes
set_option maxRecDepth 20000 in
theorem ggX13_lighten_X13_laysAside : GoodIn wsX13_lighten wsX13_laysAside := goodIn_r _ [18, 19, 20, 21, 22, 62, 63, 64, 65, 66, 67, 68, 69, 70, 71, 72, 73, 74, 75, 76, 77, 78, 79, 80, 81, 82, 83, 84, 85, 86, 87, 88, 89, 90, 91, 92, 93, 94, 95, 96, 97, 98, 99, 100, 101, 102, 103, 104, 105, 106, 107, 108, 109] (by decide +kernel) (by decide +kernel)
set_option maxRecDepth 20000 in
theorem gX13_lighten_X13_laysAside : GoodIn wsX13_lighten (wsV RX13 314 RX13 yX13_laysAside wsX13_laysAside) := goodIn_app (goodIn_of _ (by decide +kernel)) ggX13_lighten_X13_laysAside
set_option maxRecDepth 20000 in
theorem ggX13_lighten_X13_retones : GoodIn wsX13_lighten wsX13_retones := goodIn_r _ [26, 22, 27, 28, 29, 5, 30, 31, 32, 33, 34, 35, 36, 37, 38, 39, 20, 40, 41, 42, 43, 44, 45, 46, 47, 48, 49, 50, 51, 52, 53, 54, 55, 62, 63, 64, 65, 66, 67, 68, 69, 70, 71, 72, 73, 74, 75, 76, 77, 78, 79, 80, 81, 82, 83, 84, 85, 86, 87, 88, 89, 90, 91, 92, 93, 94, 95, 96, 97, 98, 99, 100, 101, 102, 103, 104, 105, 106, 107, 108, 109] (by decide +kernel) (by decide +kernel)
set_option maxRecDepth 20000 in
theorem gX13_lighten_X13_retones : GoodIn wsX13_lighten (wsV RX13 409 RX13 yX13_retones wsX13_retones) := goodIn_app (goodIn_of _ (by decide +kernel)) ggX13_lighten_X13_retones
set_option maxRecDepth 20000 in
theorem ggX13_lighten_X13_keeps : GoodIn wsX13_lighten wsX13_keeps := goodIn_r _ [59, 20, 19, 22, 21, 60, 61, 12, 13, 5, 14, 62, 63, 64, 65, 66, 67, 68, 69, 70, 71, 72, 73, 74, 75, 76, 77, 78, 79, 80, 81, 82, 83, 84, 85, 86, 87, 88, 89, 90, 91, 92, 93, 94, 95, 96, 97, 98, 99, 100, 101, 102, 103, 104, 105, 106, 107, 108, 109] (by decide +kernel) (by decide +kernel)
set_option maxRecDepth 20000 in
theorem gX13_lighten_X13_keeps : GoodIn wsX13_lighten (wsV RX13 368 RX13 yX13_keeps wsX13_keeps) := goodIn_app (goodIn_of _ (by decide +kernel)) ggX13_lighten_X13_keeps
theorem dX13_lighten_0 : decode cX13_lighten 0 = .ok (.aload_n 0, 1) := by decide +kernel
theorem dX13_lighten_1 : decode cX13_lighten 1 = .ok (.iload_n 1, 1) := by decide +kernel
theorem dX13_lighten_2 : decode cX13_lighten 2 = .ok (.i2l, 1) := by decide +kernel
theorem dX13_lighten_3 : decode cX13_lighten 3 = .ok (.ldc2_w 412, 3) := by decide +kernel
theorem dX13_lighten_6 : decode cX13_lighten 6 = .ok (.ldc2_w 276, 3) := by decide +kernel
theorem dX13_lighten_9 : decode cX13_lighten 9 = .ok (.invokestatic 111, 3) := by decide +kernel
theorem dX13_lighten_12 : decode cX13_lighten 12 = .ok (.invokevirtual 103, 3) := by decide +kernel
theorem dX13_lighten_15 : decode cX13_lighten 15 = .ok (.ifCond .ne 5, 3) := by decide +kernel
theorem dX13_lighten_18 : decode cX13_lighten 18 = .ok (.iconst 0, 1) := by decide +kernel
theorem dX13_lighten_19 : decode cX13_lighten 19 = .ok (.ireturn, 1) := by decide +kernel
theorem dX13_lighten_20 : decode cX13_lighten 20 = .ok (.aload_n 0, 1) := by decide +kernel
theorem dX13_lighten_21 : decode cX13_lighten 21 = .ok (.invokevirtual 314, 3) := by decide +kernel
theorem dX13_lighten_24 : decode cX13_lighten 24 = .ok (.aload_n 0, 1) := by decide +kernel
theorem dX13_lighten_25 : decode cX13_lighten 25 = .ok (.iconst 1, 1) := by decide +kernel
theorem dX13_lighten_26 : decode cX13_lighten 26 = .ok (.iload_n 1, 1) := by decide +kernel
theorem dX13_lighten_27 : decode cX13_lighten 27 = .ok (.invokevirtual 409, 3) := by decide +kernel
theorem dX13_lighten_30 : decode cX13_lighten 30 = .ok (.aload_n 0, 1) := by decide +kernel
theorem dX13_lighten_31 : decode cX13_lighten 31 = .ok (.invokevirtual 368, 3) := by decide +kernel
theorem dX13_lighten_34 : decode cX13_lighten 34 = .ok (.ireturn, 1) := by decide +kernel
theorem dX13_mirrors_0 : decode cX13_mirrors 0 = .ok (.iconst 0, 1) := by decide +kernel
theorem dX13_mirrors_1 : decode cX13_mirrors 1 = .ok (.istore_n 1, 1) := by decide +kernel
theorem dX13_mirrors_2 : decode cX13_mirrors 2 = .ok (.iload_n 1, 1) := by decide +kernel
theorem dX13_mirrors_3 : decode cX13_mirrors 3 = .ok (.aload_n 0, 1) := by decide +kernel
theorem dX13_mirrors_4 : decode cX13_mirrors 4 = .ok (.getfield 20, 3) := by decide +kernel
theorem dX13_mirrors_7 : decode cX13_mirrors 7 = .ok (.iconst 1, 1) := by decide +kernel
theorem dX13_mirrors_8 : decode cX13_mirrors 8 = .ok (.iaload, 1) := by decide +kernel
theorem dX13_mirrors_9 : decode cX13_mirrors 9 = .ok (.if_icmp .ge 113, 3) := by decide +kernel
theorem dX13_mirrors_12 : decode cX13_mirrors 12 = .ok (.iconst 0, 1) := by decide +kernel
theorem dX13_mirrors_13 : decode cX13_mirrors 13 = .ok (.istore_n 2, 1) := by decide +kernel
theorem dX13_mirrors_14 : decode cX13_mirrors 14 = .ok (.iconst 2, 1) := by decide +kernel
theorem dX13_mirrors_15 : decode cX13_mirrors 15 = .ok (.iload_n 2, 1) := by decide +kernel
theorem dX13_mirrors_16 : decode cX13_mirrors 16 = .ok (.imul, 1) := by decide +kernel
theorem dX13_mirrors_17 : decode cX13_mirrors 17 = .ok (.aload_n 0, 1) := by decide +kernel
theorem dX13_mirrors_18 : decode cX13_mirrors 18 = .ok (.getfield 20, 3) := by decide +kernel
theorem dX13_mirrors_21 : decode cX13_mirrors 21 = .ok (.iconst 0, 1) := by decide +kernel
theorem dX13_mirrors_22 : decode cX13_mirrors 22 = .ok (.iaload, 1) := by decide +kernel
theorem dX13_mirrors_23 : decode cX13_mirrors 23 = .ok (.if_icmp .ge 93, 3) := by decide +kernel
theorem dX13_mirrors_26 : decode cX13_mirrors 26 = .ok (.bipush 16, 2) := by decide +kernel
theorem dX13_mirrors_28 : decode cX13_mirrors 28 = .ok (.iload_n 1, 1) := by decide +kernel
theorem dX13_mirrors_29 : decode cX13_mirrors 29 = .ok (.imul, 1) := by decide +kernel
theorem dX13_mirrors_30 : decode cX13_mirrors 30 = .ok (.iload_n 2, 1) := by decide +kernel
theorem dX13_mirrors_31 : decode cX13_mirrors 31 = .ok (.iadd, 1) := by decide +kernel
theorem dX13_mirrors_32 : decode cX13_mirrors 32 = .ok (.istore_n 3, 1) := by decide +kernel
theorem dX13_mirrors_33 : decode cX13_mirrors 33 = .ok (.bipush 16, 2) := by decide +kernel
theorem dX13_mirrors_35 : decode cX13_mirrors 35 = .ok (.iload_n 1, 1) := by decide +kernel
theorem dX13_mirrors_36 : decode cX13_mirrors 36 = .ok (.imul, 1) := by decide +kernel
theorem dX13_mirrors_37 : decode cX13_mirrors 37 = .ok (.aload_n 0, 1) := by decide +kernel
theorem dX13_mirrors_38 : decode cX13_mirrors 38 = .ok (.getfield 20, 3) := by decide +kernel
theorem dX13_mirrors_41 : decode cX13_mirrors 41 = .ok (.iconst 0, 1) := by decide +kernel
theorem dX13_mirrors_42 : decode cX13_mirrors 42 = .ok (.iaload, 1) := by decide +kernel
theorem dX13_mirrors_43 : decode cX13_mirrors 43 = .ok (.iadd, 1) := by decide +kernel
theorem dX13_mirrors_44 : decode cX13_mirrors 44 = .ok (.iconst 1, 1) := by decide +kernel
theorem dX13_mirrors_45 : decode cX13_mirrors 45 = .ok (.isub, 1) := by decide +kernel
theorem dX13_mirrors_46 : decode cX13_mirrors 46 = .ok (.iload_n 2, 1) := by decide +kernel
theorem dX13_mirrors_47 : decode cX13_mirrors 47 = .ok (.isub, 1) := by decide +kernel
theorem dX13_mirrors_48 : decode cX13_mirrors 48 = .ok (.istore 4, 2) := by decide +kernel
theorem dX13_mirrors_50 : decode cX13_mirrors 50 = .ok (.aload_n 0, 1) := by decide +kernel
theorem dX13_mirrors_51 : decode cX13_mirrors 51 = .ok (.getfield 29, 3) := by decide +kernel
theorem dX13_mirrors_54 : decode cX13_mirrors 54 = .ok (.iload_n 3, 1) := by decide +kernel
theorem dX13_mirrors_55 : decode cX13_mirrors 55 = .ok (.iaload, 1) := by decide +kernel
theorem dX13_mirrors_56 : decode cX13_mirrors 56 = .ok (.istore 5, 2) := by decide +kernel
theorem dX13_mirrors_58 : decode cX13_mirrors 58 = .ok (.aload_n 0, 1) := by decide +kernel
theorem dX13_mirrors_59 : decode cX13_mirrors 59 = .ok (.getfield 26, 3) := by decide +kernel
theorem dX13_mirrors_62 : decode cX13_mirrors 62 = .ok (.iload_n 3, 1) := by decide +kernel
theorem dX13_mirrors_63 : decode cX13_mirrors 63 = .ok (.iaload, 1) := by decide +kernel
theorem dX13_mirrors_64 : decode cX13_mirrors 64 = .ok (.istore 6, 2) := by decide +kernel
theorem dX13_mirrors_66 : decode cX13_mirrors 66 = .ok (.aload_n 0, 1) := by decide +kernel
theorem dX13_mirrors_67 : decode cX13_mirrors 67 = .ok (.getfield 29, 3) := by decide +kernel
theorem dX13_mirrors_70 : decode cX13_mirrors 70 = .ok (.iload_n 3, 1) := by decide +kernel
theorem dX13_mirrors_71 : decode cX13_mirrors 71 = .ok (.aload_n 0, 1) := by decide +kernel
theorem dX13_mirrors_72 : decode cX13_mirrors 72 = .ok (.getfield 29, 3) := by decide +kernel
theorem dX13_mirrors_75 : decode cX13_mirrors 75 = .ok (.iload 4, 2) := by decide +kernel
theorem dX13_mirrors_77 : decode cX13_mirrors 77 = .ok (.iaload, 1) := by decide +kernel
theorem dX13_mirrors_78 : decode cX13_mirrors 78 = .ok (.iastore, 1) := by decide +kernel
theorem dX13_mirrors_79 : decode cX13_mirrors 79 = .ok (.aload_n 0, 1) := by decide +kernel
theorem dX13_mirrors_80 : decode cX13_mirrors 80 = .ok (.getfield 26, 3) := by decide +kernel
theorem dX13_mirrors_83 : decode cX13_mirrors 83 = .ok (.iload_n 3, 1) := by decide +kernel
theorem dX13_mirrors_84 : decode cX13_mirrors 84 = .ok (.aload_n 0, 1) := by decide +kernel
theorem dX13_mirrors_85 : decode cX13_mirrors 85 = .ok (.getfield 26, 3) := by decide +kernel
theorem dX13_mirrors_88 : decode cX13_mirrors 88 = .ok (.iload 4, 2) := by decide +kernel
theorem dX13_mirrors_90 : decode cX13_mirrors 90 = .ok (.iaload, 1) := by decide +kernel
theorem dX13_mirrors_91 : decode cX13_mirrors 91 = .ok (.iastore, 1) := by decide +kernel
theorem dX13_mirrors_92 : decode cX13_mirrors 92 = .ok (.aload_n 0, 1) := by decide +kernel
theorem dX13_mirrors_93 : decode cX13_mirrors 93 = .ok (.getfield 29, 3) := by decide +kernel
theorem dX13_mirrors_96 : decode cX13_mirrors 96 = .ok (.iload 4, 2) := by decide +kernel
theorem dX13_mirrors_98 : decode cX13_mirrors 98 = .ok (.iload 5, 2) := by decide +kernel
theorem dX13_mirrors_100 : decode cX13_mirrors 100 = .ok (.iastore, 1) := by decide +kernel
theorem dX13_mirrors_101 : decode cX13_mirrors 101 = .ok (.aload_n 0, 1) := by decide +kernel
theorem dX13_mirrors_102 : decode cX13_mirrors 102 = .ok (.getfield 26, 3) := by decide +kernel
theorem dX13_mirrors_105 : decode cX13_mirrors 105 = .ok (.iload 4, 2) := by decide +kernel
theorem dX13_mirrors_107 : decode cX13_mirrors 107 = .ok (.iload 6, 2) := by decide +kernel
theorem dX13_mirrors_109 : decode cX13_mirrors 109 = .ok (.iastore, 1) := by decide +kernel
theorem dX13_mirrors_110 : decode cX13_mirrors 110 = .ok (.iinc 2 1, 3) := by decide +kernel
theorem dX13_mirrors_113 : decode cX13_mirrors 113 = .ok (.goto (-99), 3) := by decide +kernel
theorem dX13_mirrors_116 : decode cX13_mirrors 116 = .ok (.iinc 1 1, 3) := by decide +kernel
theorem dX13_mirrors_119 : decode cX13_mirrors 119 = .ok (.goto (-117), 3) := by decide +kernel
theorem dX13_mirrors_122 : decode cX13_mirrors 122 = .ok (.return_, 1) := by decide +kernel
set_option maxRecDepth 20000 in
theorem ggX13_mirror_X13_laysAside : GoodIn wsX13_mirror wsX13_laysAside := goodIn_r _ [6, 7, 8, 9, 10, 25, 26, 27, 28, 29, 30, 31, 32, 33, 34, 35, 36, 37, 38, 39, 40, 41, 42, 43, 44, 45, 46, 47, 48, 49, 50, 51, 52, 53, 54, 55, 56, 57, 58, 59, 60, 61, 62, 63, 64, 65, 66, 67, 68, 69, 70, 71, 72] (by decide +kernel) (by decide +kernel)
set_option maxRecDepth 20000 in
theorem gX13_mirror_X13_laysAside : GoodIn wsX13_mirror (wsV RX13 314 RX13 yX13_laysAside wsX13_laysAside) := goodIn_app (goodIn_of _ (by decide +kernel)) ggX13_mirror_X13_laysAside
set_option maxRecDepth 20000 in
theorem ggX13_mirror_X13_mirrors : GoodIn wsX13_mirror wsX13_mirrors := goodIn_r _ [14, 15, 8, 10, 25, 26, 27, 28, 29, 30, 31, 32, 33, 34, 35, 36, 37, 38, 39, 40, 41, 42, 43, 44, 45, 46, 47, 48, 49, 50, 51, 52, 53, 54, 55, 56, 57, 58, 59, 60, 61, 62, 63, 64, 65, 66, 67, 68, 69, 70, 71, 72] (by decide +kernel) (by decide +kernel)
set_option maxRecDepth 20000 in
theorem gX13_mirror_X13_mirrors : GoodIn wsX13_mirror (wsV RX13 414 RX13 yX13_mirrors wsX13_mirrors) := goodIn_app (goodIn_of _ (by decide +kernel)) ggX13_mirror_X13_mirrors
set_option maxRecDepth 20000 in
theorem ggX13_mirror_X13_keeps : GoodIn wsX13_mirror wsX13_keeps := goodIn_r _ [19, 8, 7, 10, 9, 20, 21, 22, 23, 5, 24, 25, 26, 27, 28, 29, 30, 31, 32, 33, 34, 35, 36, 37, 38, 39, 40, 41, 42, 43, 44, 45, 46, 47, 48, 49, 50, 51, 52, 53, 54, 55, 56, 57, 58, 59, 60, 61, 62, 63, 64, 65, 66, 67, 68, 69, 70, 71, 72] (by decide +kernel) (by decide +kernel)
set_option maxRecDepth 20000 in
theorem gX13_mirror_X13_keeps : GoodIn wsX13_mirror (wsV RX13 368 RX13 yX13_keeps wsX13_keeps) := goodIn_app (goodIn_of _ (by decide +kernel)) ggX13_mirror_X13_keeps
theorem dX13_mirror_0 : decode cX13_mirror 0 = .ok (.aload_n 0, 1) := by decide +kernel
theorem dX13_mirror_1 : decode cX13_mirror 1 = .ok (.iconst 0, 1) := by decide +kernel
theorem dX13_mirror_2 : decode cX13_mirror 2 = .ok (.putfield 93, 3) := by decide +kernel
theorem dX13_mirror_5 : decode cX13_mirror 5 = .ok (.aload_n 0, 1) := by decide +kernel
theorem dX13_mirror_6 : decode cX13_mirror 6 = .ok (.invokevirtual 314, 3) := by decide +kernel
theorem dX13_mirror_9 : decode cX13_mirror 9 = .ok (.aload_n 0, 1) := by decide +kernel
theorem dX13_mirror_10 : decode cX13_mirror 10 = .ok (.invokevirtual 414, 3) := by decide +kernel
theorem dX13_mirror_13 : decode cX13_mirror 13 = .ok (.aload_n 0, 1) := by decide +kernel
theorem dX13_mirror_14 : decode cX13_mirror 14 = .ok (.invokevirtual 368, 3) := by decide +kernel
theorem dX13_mirror_17 : decode cX13_mirror 17 = .ok (.ireturn, 1) := by decide +kernel
set_option maxRecDepth 20000 in
theorem ggX13_isPlace_X13_isIn : GoodIn wsX13_isPlace wsX13_isIn := goodIn_r _ [6] (by decide +kernel) (by decide +kernel)
set_option maxRecDepth 20000 in
theorem gX13_isPlace_X13_isIn : GoodIn wsX13_isPlace (va_wsS RX13 111 yX13_isIn wsX13_isIn) := goodIn_app (goodIn_of _ (by decide +kernel)) ggX13_isPlace_X13_isIn
theorem dX13_isPlace_0 : decode cX13_isPlace 0 = .ok (.iload_n 0, 1) := by decide +kernel
theorem dX13_isPlace_1 : decode cX13_isPlace 1 = .ok (.i2l, 1) := by decide +kernel
theorem dX13_isPlace_2 : decode cX13_isPlace 2 = .ok (.lconst 0, 1) := by decide +kernel
theorem dX13_isPlace_3 : decode cX13_isPlace 3 = .ok (.ldc2_w 417, 3) := by decide +kernel
theorem dX13_isPlace_6 : decode cX13_isPlace 6 = .ok (.invokestatic 111, 3) := by decide +kernel
theorem dX13_isPlace_9 : decode cX13_isPlace 9 = .ok (.ifCond .eq 19, 3) := by decide +kernel
theorem dX13_isPlace_12 : decode cX13_isPlace 12 = .ok (.iload_n 1, 1) := by decide +kernel
theorem dX13_isPlace_13 : decode cX13_isPlace 13 = .ok (.i2l, 1) := by decide +kernel
theorem dX13_isPlace_14 : decode cX13_isPlace 14 = .ok (.lconst 0, 1) := by decide +kernel
theorem dX13_isPlace_15 : decode cX13_isPlace 15 = .ok (.ldc2_w 349, 3) := by decide +kernel
theorem dX13_isPlace_18 : decode cX13_isPlace 18 = .ok (.invokestatic 111, 3) := by decide +kernel
theorem dX13_isPlace_21 : decode cX13_isPlace 21 = .ok (.ifCond .eq 7, 3) := by decide +kernel
theorem dX13_isPlace_24 : decode cX13_isPlace 24 = .ok (.iconst 1, 1) := by decide +kernel
theorem dX13_isPlace_25 : decode cX13_isPlace 25 = .ok (.goto 4, 3) := by decide +kernel
theorem dX13_isPlace_28 : decode cX13_isPlace 28 = .ok (.iconst 0, 1) := by decide +kernel
theorem dX13_isPlace_29 : decode cX13_isPlace 29 = .ok (.ireturn, 1) := by decide +kernel
theorem dX13_takes_0 : decode cX13_takes 0 = .ok (.iload_n 0, 1) := by decide +kernel
theorem dX13_takes_1 : decode cX13_takes 1 = .ok (.iconst 2, 1) := by decide +kernel
theorem dX13_takes_2 : decode cX13_takes 2 = .ok (.if_icmp .eq 8, 3) := by decide +kernel
theorem dX13_takes_5 : decode cX13_takes 5 = .ok (.iload_n 0, 1) := by decide +kernel
theorem dX13_takes_6 : decode cX13_takes 6 = .ok (.iload_n 1, 1) := by decide +kernel
theorem dX13_takes_7 : decode cX13_takes 7 = .ok (.if_icmp .ne 7, 3) := by decide +kernel
theorem dX13_takes_10 : decode cX13_takes 10 = .ok (.iconst 1, 1) := by decide +kernel
theorem dX13_takes_11 : decode cX13_takes 11 = .ok (.goto 4, 3) := by decide +kernel
theorem dX13_takes_14 : decode cX13_takes 14 = .ok (.iconst 0, 1) := by decide +kernel
theorem dX13_takes_15 : decode cX13_takes 15 = .ok (.ireturn, 1) := by decide +kernel
set_option maxRecDepth 20000 in
theorem ggX13_putStamp_X13_isPlace : GoodIn wsX13_putStamp wsX13_isPlace := goodIn_r _ [8, 9, 10, 11, 12, 7, 13] (by decide +kernel) (by decide +kernel)
set_option maxRecDepth 20000 in
theorem gX13_putStamp_X13_isPlace : GoodIn wsX13_putStamp (va_wsS RX13 419 yX13_isPlace wsX13_isPlace) := goodIn_app (goodIn_of _ (by decide +kernel)) ggX13_putStamp_X13_isPlace
set_option maxRecDepth 20000 in
theorem ggX13_putStamp_X13_isIn : GoodIn wsX13_putStamp wsX13_isIn := goodIn_r _ [13] (by decide +kernel) (by decide +kernel)
set_option maxRecDepth 20000 in
theorem gX13_putStamp_X13_isIn : GoodIn wsX13_putStamp (va_wsS RX13 111 yX13_isIn wsX13_isIn) := goodIn_app (goodIn_of _ (by decide +kernel)) ggX13_putStamp_X13_isIn
set_option maxRecDepth 20000 in
theorem ggX13_putStamp_X13_truth : GoodIn wsX13_putStamp wsX13_truth := goodIn_r _ [16] (by decide +kernel) (by decide +kernel)
set_option maxRecDepth 20000 in
theorem gX13_putStamp_X13_truth : GoodIn wsX13_putStamp (va_wsS RX13 96 yX13_truth wsX13_truth) := goodIn_app (goodIn_of _ (by decide +kernel)) ggX13_putStamp_X13_truth
set_option maxRecDepth 20000 in
theorem ggX13_putStamp_X13_takes : GoodIn wsX13_putStamp wsX13_takes := goodIn_r _ [19] (by decide +kernel) (by decide +kernel)
set_option maxRecDepth 20000 in
theorem gX13_putStamp_X13_takes : GoodIn wsX13_putStamp (va_wsS RX13 422 yX13_takes wsX13_takes) := goodIn_app (goodIn_of _ (by decide +kernel)) ggX13_putStamp_X13_takes
theorem dX13_putStamp_0 : decode cX13_putStamp 0 = .ok (.aload_n 0, 1) := by decide +kernel
theorem dX13_putStamp_1 : decode cX13_putStamp 1 = .ok (.iload_n 1, 1) := by decide +kernel
theorem dX13_putStamp_2 : decode cX13_putStamp 2 = .ok (.iload_n 2, 1) := by decide +kernel
theorem dX13_putStamp_3 : decode cX13_putStamp 3 = .ok (.invokestatic 419, 3) := by decide +kernel
theorem dX13_putStamp_6 : decode cX13_putStamp 6 = .ok (.ifCond .ne 7, 3) := by decide +kernel
theorem dX13_putStamp_9 : decode cX13_putStamp 9 = .ok (.iconst 1, 1) := by decide +kernel
theorem dX13_putStamp_10 : decode cX13_putStamp 10 = .ok (.goto 49, 3) := by decide +kernel
theorem dX13_putStamp_13 : decode cX13_putStamp 13 = .ok (.iload_n 3, 1) := by decide +kernel
theorem dX13_putStamp_14 : decode cX13_putStamp 14 = .ok (.i2l, 1) := by decide +kernel
theorem dX13_putStamp_15 : decode cX13_putStamp 15 = .ok (.lconst 0, 1) := by decide +kernel
theorem dX13_putStamp_16 : decode cX13_putStamp 16 = .ok (.lconst 1, 1) := by decide +kernel
theorem dX13_putStamp_17 : decode cX13_putStamp 17 = .ok (.invokestatic 111, 3) := by decide +kernel
theorem dX13_putStamp_20 : decode cX13_putStamp 20 = .ok (.ifCond .eq 29, 3) := by decide +kernel
theorem dX13_putStamp_23 : decode cX13_putStamp 23 = .ok (.iload 4, 2) := by decide +kernel
theorem dX13_putStamp_25 : decode cX13_putStamp 25 = .ok (.i2l, 1) := by decide +kernel
theorem dX13_putStamp_26 : decode cX13_putStamp 26 = .ok (.lconst 1, 1) := by decide +kernel
theorem dX13_putStamp_27 : decode cX13_putStamp 27 = .ok (.ldc2_w 249, 3) := by decide +kernel
theorem dX13_putStamp_30 : decode cX13_putStamp 30 = .ok (.invokestatic 111, 3) := by decide +kernel
theorem dX13_putStamp_33 : decode cX13_putStamp 33 = .ok (.ifCond .eq 16, 3) := by decide +kernel
theorem dX13_putStamp_36 : decode cX13_putStamp 36 = .ok (.iload 5, 2) := by decide +kernel
theorem dX13_putStamp_38 : decode cX13_putStamp 38 = .ok (.i2l, 1) := by decide +kernel
theorem dX13_putStamp_39 : decode cX13_putStamp 39 = .ok (.lconst 1, 1) := by decide +kernel
theorem dX13_putStamp_40 : decode cX13_putStamp 40 = .ok (.ldc2_w 385, 3) := by decide +kernel
theorem dX13_putStamp_43 : decode cX13_putStamp 43 = .ok (.invokestatic 111, 3) := by decide +kernel
theorem dX13_putStamp_46 : decode cX13_putStamp 46 = .ok (.ifCond .ne 7, 3) := by decide +kernel
theorem dX13_putStamp_49 : decode cX13_putStamp 49 = .ok (.iconst 1, 1) := by decide +kernel
theorem dX13_putStamp_50 : decode cX13_putStamp 50 = .ok (.goto 4, 3) := by decide +kernel
theorem dX13_putStamp_53 : decode cX13_putStamp 53 = .ok (.iconst 0, 1) := by decide +kernel
theorem dX13_putStamp_54 : decode cX13_putStamp 54 = .ok (.invokestatic 96, 3) := by decide +kernel
theorem dX13_putStamp_57 : decode cX13_putStamp 57 = .ok (.iconst 2, 1) := by decide +kernel
theorem dX13_putStamp_58 : decode cX13_putStamp 58 = .ok (.imul, 1) := by decide +kernel
theorem dX13_putStamp_59 : decode cX13_putStamp 59 = .ok (.putfield 93, 3) := by decide +kernel
theorem dX13_putStamp_62 : decode cX13_putStamp 62 = .ok (.aload_n 0, 1) := by decide +kernel
theorem dX13_putStamp_63 : decode cX13_putStamp 63 = .ok (.getfield 93, 3) := by decide +kernel
theorem dX13_putStamp_66 : decode cX13_putStamp 66 = .ok (.ifCond .gt 11, 3) := by decide +kernel
theorem dX13_putStamp_69 : decode cX13_putStamp 69 = .ok (.iload_n 1, 1) := by decide +kernel
theorem dX13_putStamp_70 : decode cX13_putStamp 70 = .ok (.iload_n 3, 1) := by decide +kernel
theorem dX13_putStamp_71 : decode cX13_putStamp 71 = .ok (.invokestatic 422, 3) := by decide +kernel
theorem dX13_putStamp_74 : decode cX13_putStamp 74 = .ok (.ifCond .ne 5, 3) := by decide +kernel
theorem dX13_putStamp_77 : decode cX13_putStamp 77 = .ok (.iconst 0, 1) := by decide +kernel
theorem dX13_putStamp_78 : decode cX13_putStamp 78 = .ok (.ireturn, 1) := by decide +kernel
theorem dX13_putStamp_79 : decode cX13_putStamp 79 = .ok (.aload_n 0, 1) := by decide +kernel
theorem dX13_putStamp_80 : decode cX13_putStamp 80 = .ok (.getfield 54, 3) := by decide +kernel
theorem dX13_putStamp_83 : decode cX13_putStamp 83 = .ok (.iconst 4, 1) := by decide +kernel
theorem dX13_putStamp_84 : decode cX13_putStamp 84 = .ok (.iload_n 1, 1) := by decide +kernel
theorem dX13_putStamp_85 : decode cX13_putStamp 85 = .ok (.imul, 1) := by decide +kernel
theorem dX13_putStamp_86 : decode cX13_putStamp 86 = .ok (.iload_n 2, 1) := by decide +kernel
theorem dX13_putStamp_87 : decode cX13_putStamp 87 = .ok (.iadd, 1) := by decide +kernel
theorem dX13_putStamp_88 : decode cX13_putStamp 88 = .ok (.sipush 1000, 3) := by decide +kernel
theorem dX13_putStamp_91 : decode cX13_putStamp 91 = .ok (.iload_n 3, 1) := by decide +kernel
theorem dX13_putStamp_92 : decode cX13_putStamp 92 = .ok (.imul, 1) := by decide +kernel
theorem dX13_putStamp_93 : decode cX13_putStamp 93 = .ok (.bipush 100, 2) := by decide +kernel
theorem dX13_putStamp_95 : decode cX13_putStamp 95 = .ok (.iload 4, 2) := by decide +kernel
theorem dX13_putStamp_97 : decode cX13_putStamp 97 = .ok (.imul, 1) := by decide +kernel
theorem dX13_putStamp_98 : decode cX13_putStamp 98 = .ok (.iadd, 1) := by decide +kernel
theorem dX13_putStamp_99 : decode cX13_putStamp 99 = .ok (.iload 5, 2) := by decide +kernel
theorem dX13_putStamp_101 : decode cX13_putStamp 101 = .ok (.iadd, 1) := by decide +kernel
theorem dX13_putStamp_102 : decode cX13_putStamp 102 = .ok (.iastore, 1) := by decide +kernel
theorem dX13_putStamp_103 : decode cX13_putStamp 103 = .ok (.iconst 1, 1) := by decide +kernel
theorem dX13_putStamp_104 : decode cX13_putStamp 104 = .ok (.ireturn, 1) := by decide +kernel
set_option maxRecDepth 20000 in
theorem ggX13_takeStamp_X13_isPlace : GoodIn wsX13_takeStamp wsX13_isPlace := goodIn_r _ [5, 6, 7, 8, 9, 4, 10] (by decide +kernel) (by decide +kernel)
set_option maxRecDepth 20000 in
theorem gX13_takeStamp_X13_isPlace : GoodIn wsX13_takeStamp (va_wsS RX13 419 yX13_isPlace wsX13_isPlace) := goodIn_app (goodIn_of _ (by decide +kernel)) ggX13_takeStamp_X13_isPlace
set_option maxRecDepth 20000 in
theorem ggX13_takeStamp_X13_goes : GoodIn wsX13_takeStamp wsX13_goes := goodIn_r _ [14, 15, 16, 17, 4, 18, 19, 20, 21, 22, 23, 24, 25, 26, 27, 28, 29, 30, 31, 32, 33, 34, 35, 36, 37, 38, 39, 40, 41, 42, 43, 44, 45, 46, 47, 48, 49, 50, 51, 52, 53, 54, 55, 56, 57, 58, 59, 60, 61, 62, 63, 64, 65, 66] (by decide +kernel) (by decide +kernel)
set_option maxRecDepth 20000 in
theorem gX13_takeStamp_X13_goes : GoodIn wsX13_takeStamp (wsV RX13 103 RX13 yX13_goes wsX13_goes) := goodIn_app (goodIn_of _ (by decide +kernel)) ggX13_takeStamp_X13_goes
theorem dX13_takeStamp_0 : decode cX13_takeStamp 0 = .ok (.aload_n 0, 1) := by decide +kernel
theorem dX13_takeStamp_1 : decode cX13_takeStamp 1 = .ok (.iload_n 1, 1) := by decide +kernel
theorem dX13_takeStamp_2 : decode cX13_takeStamp 2 = .ok (.iload_n 2, 1) := by decide +kernel
theorem dX13_takeStamp_3 : decode cX13_takeStamp 3 = .ok (.invokestatic 419, 3) := by decide +kernel
theorem dX13_takeStamp_6 : decode cX13_takeStamp 6 = .ok (.invokevirtual 103, 3) := by decide +kernel
theorem dX13_takeStamp_9 : decode cX13_takeStamp 9 = .ok (.ifCond .ne 5, 3) := by decide +kernel
theorem dX13_takeStamp_12 : decode cX13_takeStamp 12 = .ok (.iconst 0, 1) := by decide +kernel
theorem dX13_takeStamp_13 : decode cX13_takeStamp 13 = .ok (.ireturn, 1) := by decide +kernel
theorem dX13_takeStamp_14 : decode cX13_takeStamp 14 = .ok (.aload_n 0, 1) := by decide +kernel
theorem dX13_takeStamp_15 : decode cX13_takeStamp 15 = .ok (.getfield 54, 3) := by decide +kernel
theorem dX13_takeStamp_18 : decode cX13_takeStamp 18 = .ok (.iconst 4, 1) := by decide +kernel
theorem dX13_takeStamp_19 : decode cX13_takeStamp 19 = .ok (.iload_n 1, 1) := by decide +kernel
theorem dX13_takeStamp_20 : decode cX13_takeStamp 20 = .ok (.imul, 1) := by decide +kernel
theorem dX13_takeStamp_21 : decode cX13_takeStamp 21 = .ok (.iload_n 2, 1) := by decide +kernel
theorem dX13_takeStamp_22 : decode cX13_takeStamp 22 = .ok (.iadd, 1) := by decide +kernel
theorem dX13_takeStamp_23 : decode cX13_takeStamp 23 = .ok (.iaload, 1) := by decide +kernel
theorem dX13_takeStamp_24 : decode cX13_takeStamp 24 = .ok (.iconst (-1), 1) := by decide +kernel
theorem dX13_takeStamp_25 : decode cX13_takeStamp 25 = .ok (.if_icmp .eq 7, 3) := by decide +kernel
theorem dX13_takeStamp_28 : decode cX13_takeStamp 28 = .ok (.iconst 1, 1) := by decide +kernel
theorem dX13_takeStamp_29 : decode cX13_takeStamp 29 = .ok (.goto 4, 3) := by decide +kernel
theorem dX13_takeStamp_32 : decode cX13_takeStamp 32 = .ok (.iconst 0, 1) := by decide +kernel
theorem dX13_takeStamp_33 : decode cX13_takeStamp 33 = .ok (.istore_n 3, 1) := by decide +kernel
theorem dX13_takeStamp_34 : decode cX13_takeStamp 34 = .ok (.aload_n 0, 1) := by decide +kernel
theorem dX13_takeStamp_35 : decode cX13_takeStamp 35 = .ok (.getfield 54, 3) := by decide +kernel
theorem dX13_takeStamp_38 : decode cX13_takeStamp 38 = .ok (.iconst 4, 1) := by decide +kernel
theorem dX13_takeStamp_39 : decode cX13_takeStamp 39 = .ok (.iload_n 1, 1) := by decide +kernel
theorem dX13_takeStamp_40 : decode cX13_takeStamp 40 = .ok (.imul, 1) := by decide +kernel
theorem dX13_takeStamp_41 : decode cX13_takeStamp 41 = .ok (.iload_n 2, 1) := by decide +kernel
theorem dX13_takeStamp_42 : decode cX13_takeStamp 42 = .ok (.iadd, 1) := by decide +kernel
theorem dX13_takeStamp_43 : decode cX13_takeStamp 43 = .ok (.iconst (-1), 1) := by decide +kernel
theorem dX13_takeStamp_44 : decode cX13_takeStamp 44 = .ok (.iastore, 1) := by decide +kernel
theorem dX13_takeStamp_45 : decode cX13_takeStamp 45 = .ok (.iload_n 3, 1) := by decide +kernel
theorem dX13_takeStamp_46 : decode cX13_takeStamp 46 = .ok (.ireturn, 1) := by decide +kernel
set_option maxRecDepth 20000 in
theorem ggX13_stampAt_X13_isPlace : GoodIn wsX13_stampAt wsX13_isPlace := goodIn_r _ [5, 6, 7, 8, 9, 4, 10] (by decide +kernel) (by decide +kernel)
set_option maxRecDepth 20000 in
theorem gX13_stampAt_X13_isPlace : GoodIn wsX13_stampAt (va_wsS RX13 419 yX13_isPlace wsX13_isPlace) := goodIn_app (goodIn_of _ (by decide +kernel)) ggX13_stampAt_X13_isPlace
set_option maxRecDepth 20000 in
theorem ggX13_stampAt_X13_goes : GoodIn wsX13_stampAt wsX13_goes := goodIn_r _ [14, 15, 16, 17, 4, 18, 19, 20, 21, 22, 23, 24, 25, 26, 27, 28, 29, 30, 31, 32, 33, 34, 35, 36, 37, 38, 39, 40, 41, 42, 43, 44, 45, 46, 47, 48, 49, 50, 51, 52, 53, 54, 55, 56, 57, 58, 59, 60, 61, 62, 63, 64, 65, 66] (by decide +kernel) (by decide +kernel)
set_option maxRecDepth 20000 in
theorem gX13_stampAt_X13_goes : GoodIn wsX13_stampAt (wsV RX13 103 RX13 yX13_goes wsX13_goes) := goodIn_app (goodIn_of _ (by decide +kernel)) ggX13_stampAt_X13_goes
theorem dX13_stampAt_0 : decode cX13_stampAt 0 = .ok (.aload_n 0, 1) := by decide +kernel
theorem dX13_stampAt_1 : decode cX13_stampAt 1 = .ok (.iload_n 1, 1) := by decide +kernel
theorem dX13_stampAt_2 : decode cX13_stampAt 2 = .ok (.iload_n 2, 1) := by decide +kernel
theorem dX13_stampAt_3 : decode cX13_stampAt 3 = .ok (.invokestatic 419, 3) := by decide +kernel
theorem dX13_stampAt_6 : decode cX13_stampAt 6 = .ok (.invokevirtual 103, 3) := by decide +kernel
theorem dX13_stampAt_9 : decode cX13_stampAt 9 = .ok (.ifCond .eq 16, 3) := by decide +kernel
theorem dX13_stampAt_12 : decode cX13_stampAt 12 = .ok (.aload_n 0, 1) := by decide +kernel
theorem dX13_stampAt_13 : decode cX13_stampAt 13 = .ok (.getfield 54, 3) := by decide +kernel
theorem dX13_stampAt_16 : decode cX13_stampAt 16 = .ok (.iconst 4, 1) := by decide +kernel
theorem dX13_stampAt_17 : decode cX13_stampAt 17 = .ok (.iload_n 1, 1) := by decide +kernel
theorem dX13_stampAt_18 : decode cX13_stampAt 18 = .ok (.imul, 1) := by decide +kernel
theorem dX13_stampAt_19 : decode cX13_stampAt 19 = .ok (.iload_n 2, 1) := by decide +kernel
theorem dX13_stampAt_20 : decode cX13_stampAt 20 = .ok (.iadd, 1) := by decide +kernel
theorem dX13_stampAt_21 : decode cX13_stampAt 21 = .ok (.iaload, 1) := by decide +kernel
theorem dX13_stampAt_22 : decode cX13_stampAt 22 = .ok (.goto 4, 3) := by decide +kernel
theorem dX13_stampAt_25 : decode cX13_stampAt 25 = .ok (.iconst 0, 1) := by decide +kernel
theorem dX13_stampAt_26 : decode cX13_stampAt 26 = .ok (.ireturn, 1) := by decide +kernel
set_option maxRecDepth 20000 in
theorem ggX13_moveStamp_X13_isPlace : GoodIn wsX13_moveStamp wsX13_isPlace := goodIn_r _ [6, 7, 8, 9, 10, 5, 11] (by decide +kernel) (by decide +kernel)
set_option maxRecDepth 20000 in
theorem gX13_moveStamp_X13_isPlace : GoodIn wsX13_moveStamp (va_wsS RX13 419 yX13_isPlace wsX13_isPlace) := goodIn_app (goodIn_of _ (by decide +kernel)) ggX13_moveStamp_X13_isPlace
set_option maxRecDepth 20000 in
theorem ggX13_moveStamp_X13_truth : GoodIn wsX13_moveStamp wsX13_truth := goodIn_r _ [14] (by decide +kernel) (by decide +kernel)
set_option maxRecDepth 20000 in
theorem gX13_moveStamp_X13_truth : GoodIn wsX13_moveStamp (va_wsS RX13 96 yX13_truth wsX13_truth) := goodIn_app (goodIn_of _ (by decide +kernel)) ggX13_moveStamp_X13_truth
set_option maxRecDepth 20000 in
theorem ggX13_moveStamp_X13_takes : GoodIn wsX13_moveStamp wsX13_takes := goodIn_r _ [17] (by decide +kernel) (by decide +kernel)
set_option maxRecDepth 20000 in
theorem gX13_moveStamp_X13_takes : GoodIn wsX13_moveStamp (va_wsS RX13 422 yX13_takes wsX13_takes) := goodIn_app (goodIn_of _ (by decide +kernel)) ggX13_moveStamp_X13_takes
theorem dX13_moveStamp_0 : decode cX13_moveStamp 0 = .ok (.iload_n 1, 1) := by decide +kernel
theorem dX13_moveStamp_1 : decode cX13_moveStamp 1 = .ok (.iload_n 2, 1) := by decide +kernel
theorem dX13_moveStamp_2 : decode cX13_moveStamp 2 = .ok (.invokestatic 419, 3) := by decide +kernel
theorem dX13_moveStamp_5 : decode cX13_moveStamp 5 = .ok (.ifCond .eq 16, 3) := by decide +kernel
theorem dX13_moveStamp_8 : decode cX13_moveStamp 8 = .ok (.iload_n 3, 1) := by decide +kernel
theorem dX13_moveStamp_9 : decode cX13_moveStamp 9 = .ok (.iload 4, 2) := by decide +kernel
theorem dX13_moveStamp_11 : decode cX13_moveStamp 11 = .ok (.invokestatic 419, 3) := by decide +kernel
theorem dX13_moveStamp_14 : decode cX13_moveStamp 14 = .ok (.ifCond .eq 7, 3) := by decide +kernel
theorem dX13_moveStamp_17 : decode cX13_moveStamp 17 = .ok (.iconst 1, 1) := by decide +kernel
theorem dX13_moveStamp_18 : decode cX13_moveStamp 18 = .ok (.goto 4, 3) := by decide +kernel
theorem dX13_moveStamp_21 : decode cX13_moveStamp 21 = .ok (.iconst 0, 1) := by decide +kernel
theorem dX13_moveStamp_22 : decode cX13_moveStamp 22 = .ok (.istore 5, 2) := by decide +kernel
theorem dX13_moveStamp_24 : decode cX13_moveStamp 24 = .ok (.aload_n 0, 1) := by decide +kernel
theorem dX13_moveStamp_25 : decode cX13_moveStamp 25 = .ok (.iload 5, 2) := by decide +kernel
theorem dX13_moveStamp_27 : decode cX13_moveStamp 27 = .ok (.ifCond .ne 7, 3) := by decide +kernel
theorem dX13_moveStamp_30 : decode cX13_moveStamp 30 = .ok (.iconst 1, 1) := by decide +kernel
theorem dX13_moveStamp_31 : decode cX13_moveStamp 31 = .ok (.goto 27, 3) := by decide +kernel
theorem dX13_moveStamp_34 : decode cX13_moveStamp 34 = .ok (.aload_n 0, 1) := by decide +kernel
theorem dX13_moveStamp_35 : decode cX13_moveStamp 35 = .ok (.getfield 54, 3) := by decide +kernel
theorem dX13_moveStamp_38 : decode cX13_moveStamp 38 = .ok (.iconst 4, 1) := by decide +kernel
theorem dX13_moveStamp_39 : decode cX13_moveStamp 39 = .ok (.iload_n 1, 1) := by decide +kernel
theorem dX13_moveStamp_40 : decode cX13_moveStamp 40 = .ok (.imul, 1) := by decide +kernel
theorem dX13_moveStamp_41 : decode cX13_moveStamp 41 = .ok (.iload_n 2, 1) := by decide +kernel
theorem dX13_moveStamp_42 : decode cX13_moveStamp 42 = .ok (.iadd, 1) := by decide +kernel
theorem dX13_moveStamp_43 : decode cX13_moveStamp 43 = .ok (.iaload, 1) := by decide +kernel
theorem dX13_moveStamp_44 : decode cX13_moveStamp 44 = .ok (.iconst (-1), 1) := by decide +kernel
theorem dX13_moveStamp_45 : decode cX13_moveStamp 45 = .ok (.if_icmp .ne 7, 3) := by decide +kernel
theorem dX13_moveStamp_48 : decode cX13_moveStamp 48 = .ok (.iconst 1, 1) := by decide +kernel
theorem dX13_moveStamp_49 : decode cX13_moveStamp 49 = .ok (.goto 4, 3) := by decide +kernel
theorem dX13_moveStamp_52 : decode cX13_moveStamp 52 = .ok (.iconst 0, 1) := by decide +kernel
theorem dX13_moveStamp_53 : decode cX13_moveStamp 53 = .ok (.invokestatic 96, 3) := by decide +kernel
theorem dX13_moveStamp_56 : decode cX13_moveStamp 56 = .ok (.iconst 2, 1) := by decide +kernel
theorem dX13_moveStamp_57 : decode cX13_moveStamp 57 = .ok (.imul, 1) := by decide +kernel
theorem dX13_moveStamp_58 : decode cX13_moveStamp 58 = .ok (.putfield 93, 3) := by decide +kernel
theorem dX13_moveStamp_61 : decode cX13_moveStamp 61 = .ok (.aload_n 0, 1) := by decide +kernel
theorem dX13_moveStamp_62 : decode cX13_moveStamp 62 = .ok (.getfield 93, 3) := by decide +kernel
theorem dX13_moveStamp_65 : decode cX13_moveStamp 65 = .ok (.ifCond .le 5, 3) := by decide +kernel
theorem dX13_moveStamp_68 : decode cX13_moveStamp 68 = .ok (.iconst 0, 1) := by decide +kernel
theorem dX13_moveStamp_69 : decode cX13_moveStamp 69 = .ok (.ireturn, 1) := by decide +kernel
theorem dX13_moveStamp_70 : decode cX13_moveStamp 70 = .ok (.aload_n 0, 1) := by decide +kernel
theorem dX13_moveStamp_71 : decode cX13_moveStamp 71 = .ok (.getfield 54, 3) := by decide +kernel
theorem dX13_moveStamp_74 : decode cX13_moveStamp 74 = .ok (.iconst 4, 1) := by decide +kernel
theorem dX13_moveStamp_75 : decode cX13_moveStamp 75 = .ok (.iload_n 1, 1) := by decide +kernel
theorem dX13_moveStamp_76 : decode cX13_moveStamp 76 = .ok (.imul, 1) := by decide +kernel
theorem dX13_moveStamp_77 : decode cX13_moveStamp 77 = .ok (.iload_n 2, 1) := by decide +kernel
theorem dX13_moveStamp_78 : decode cX13_moveStamp 78 = .ok (.iadd, 1) := by decide +kernel
theorem dX13_moveStamp_79 : decode cX13_moveStamp 79 = .ok (.iaload, 1) := by decide +kernel
theorem dX13_moveStamp_80 : decode cX13_moveStamp 80 = .ok (.istore 6, 2) := by decide +kernel
theorem dX13_moveStamp_82 : decode cX13_moveStamp 82 = .ok (.iload_n 3, 1) := by decide +kernel
theorem dX13_moveStamp_83 : decode cX13_moveStamp 83 = .ok (.iload 6, 2) := by decide +kernel
theorem dX13_moveStamp_85 : decode cX13_moveStamp 85 = .ok (.sipush 1000, 3) := by decide +kernel
theorem dX13_moveStamp_88 : decode cX13_moveStamp 88 = .ok (.idiv, 1) := by decide +kernel
theorem dX13_moveStamp_89 : decode cX13_moveStamp 89 = .ok (.invokestatic 422, 3) := by decide +kernel
theorem dX13_moveStamp_92 : decode cX13_moveStamp 92 = .ok (.ifCond .ne 5, 3) := by decide +kernel
theorem dX13_moveStamp_95 : decode cX13_moveStamp 95 = .ok (.iconst 0, 1) := by decide +kernel
theorem dX13_moveStamp_96 : decode cX13_moveStamp 96 = .ok (.ireturn, 1) := by decide +kernel
theorem dX13_moveStamp_97 : decode cX13_moveStamp 97 = .ok (.aload_n 0, 1) := by decide +kernel
theorem dX13_moveStamp_98 : decode cX13_moveStamp 98 = .ok (.getfield 54, 3) := by decide +kernel
theorem dX13_moveStamp_101 : decode cX13_moveStamp 101 = .ok (.iconst 4, 1) := by decide +kernel
theorem dX13_moveStamp_102 : decode cX13_moveStamp 102 = .ok (.iload_n 1, 1) := by decide +kernel
theorem dX13_moveStamp_103 : decode cX13_moveStamp 103 = .ok (.imul, 1) := by decide +kernel
theorem dX13_moveStamp_104 : decode cX13_moveStamp 104 = .ok (.iload_n 2, 1) := by decide +kernel
theorem dX13_moveStamp_105 : decode cX13_moveStamp 105 = .ok (.iadd, 1) := by decide +kernel
theorem dX13_moveStamp_106 : decode cX13_moveStamp 106 = .ok (.iconst (-1), 1) := by decide +kernel
theorem dX13_moveStamp_107 : decode cX13_moveStamp 107 = .ok (.iastore, 1) := by decide +kernel
theorem dX13_moveStamp_108 : decode cX13_moveStamp 108 = .ok (.aload_n 0, 1) := by decide +kernel
theorem dX13_moveStamp_109 : decode cX13_moveStamp 109 = .ok (.getfield 54, 3) := by decide +kernel
theorem dX13_moveStamp_112 : decode cX13_moveStamp 112 = .ok (.iconst 4, 1) := by decide +kernel
theorem dX13_moveStamp_113 : decode cX13_moveStamp 113 = .ok (.iload_n 3, 1) := by decide +kernel
theorem dX13_moveStamp_114 : decode cX13_moveStamp 114 = .ok (.imul, 1) := by decide +kernel
theorem dX13_moveStamp_115 : decode cX13_moveStamp 115 = .ok (.iload 4, 2) := by decide +kernel
theorem dX13_moveStamp_117 : decode cX13_moveStamp 117 = .ok (.iadd, 1) := by decide +kernel
theorem dX13_moveStamp_118 : decode cX13_moveStamp 118 = .ok (.iload 6, 2) := by decide +kernel
theorem dX13_moveStamp_120 : decode cX13_moveStamp 120 = .ok (.iastore, 1) := by decide +kernel
theorem dX13_moveStamp_121 : decode cX13_moveStamp 121 = .ok (.iconst 1, 1) := by decide +kernel
theorem dX13_moveStamp_122 : decode cX13_moveStamp 122 = .ok (.ireturn, 1) := by decide +kernel
set_option maxRecDepth 20000 in
theorem ggX13_presses_X13_isCell : GoodIn wsX13_presses wsX13_isCell := goodIn_r _ [7, 2, 8, 9, 6, 10, 17, 18, 19, 20, 21, 22, 23, 24, 25, 26, 27, 28, 29, 30, 31, 32, 33, 34, 35, 36, 37, 38, 39, 40, 41, 42, 43, 44, 45, 46, 47, 48, 49, 50, 51, 52, 53, 54, 55, 56, 57, 58, 59, 60, 61, 62, 63, 64] (by decide +kernel) (by decide +kernel)
set_option maxRecDepth 20000 in
theorem gX13_presses_X13_isCell : GoodIn wsX13_presses (wsV RX13 195 RX13 yX13_isCell wsX13_isCell) := goodIn_app (goodIn_of _ (by decide +kernel)) ggX13_presses_X13_isCell
set_option maxRecDepth 20000 in
theorem ggX13_presses_X13_more : GoodIn wsX13_presses wsX13_more := goodIn_r _ [13] (by decide +kernel) (by decide +kernel)
set_option maxRecDepth 20000 in
theorem gX13_presses_X13_more : GoodIn wsX13_presses (va_wsS RX13 264 yX13_more wsX13_more) := goodIn_app (goodIn_of _ (by decide +kernel)) ggX13_presses_X13_more
set_option maxRecDepth 20000 in
theorem ggX13_presses_X13_less : GoodIn wsX13_presses wsX13_less := goodIn_r _ [16] (by decide +kernel) (by decide +kernel)
set_option maxRecDepth 20000 in
theorem gX13_presses_X13_less : GoodIn wsX13_presses (va_wsS RX13 210 yX13_less wsX13_less) := goodIn_app (goodIn_of _ (by decide +kernel)) ggX13_presses_X13_less
theorem dX13_presses_0 : decode cX13_presses 0 = .ok (.iload_n 1, 1) := by decide +kernel
theorem dX13_presses_1 : decode cX13_presses 1 = .ok (.bipush 100, 2) := by decide +kernel
theorem dX13_presses_3 : decode cX13_presses 3 = .ok (.idiv, 1) := by decide +kernel
theorem dX13_presses_4 : decode cX13_presses 4 = .ok (.bipush 10, 2) := by decide +kernel
theorem dX13_presses_6 : decode cX13_presses 6 = .ok (.irem, 1) := by decide +kernel
theorem dX13_presses_7 : decode cX13_presses 7 = .ok (.istore 4, 2) := by decide +kernel
theorem dX13_presses_9 : decode cX13_presses 9 = .ok (.iload_n 1, 1) := by decide +kernel
theorem dX13_presses_10 : decode cX13_presses 10 = .ok (.bipush 100, 2) := by decide +kernel
theorem dX13_presses_12 : decode cX13_presses 12 = .ok (.irem, 1) := by decide +kernel
theorem dX13_presses_13 : decode cX13_presses 13 = .ok (.istore 5, 2) := by decide +kernel
theorem dX13_presses_15 : decode cX13_presses 15 = .ok (.iload_n 3, 1) := by decide +kernel
theorem dX13_presses_16 : decode cX13_presses 16 = .ok (.istore 6, 2) := by decide +kernel
theorem dX13_presses_18 : decode cX13_presses 18 = .ok (.iload 6, 2) := by decide +kernel
theorem dX13_presses_20 : decode cX13_presses 20 = .ok (.iload_n 3, 1) := by decide +kernel
theorem dX13_presses_21 : decode cX13_presses 21 = .ok (.iload 4, 2) := by decide +kernel
theorem dX13_presses_23 : decode cX13_presses 23 = .ok (.iadd, 1) := by decide +kernel
theorem dX13_presses_24 : decode cX13_presses 24 = .ok (.if_icmp .ge 107, 3) := by decide +kernel
theorem dX13_presses_27 : decode cX13_presses 27 = .ok (.iload_n 2, 1) := by decide +kernel
theorem dX13_presses_28 : decode cX13_presses 28 = .ok (.istore 7, 2) := by decide +kernel
theorem dX13_presses_30 : decode cX13_presses 30 = .ok (.iload 7, 2) := by decide +kernel
theorem dX13_presses_32 : decode cX13_presses 32 = .ok (.iload_n 2, 1) := by decide +kernel
theorem dX13_presses_33 : decode cX13_presses 33 = .ok (.iload 4, 2) := by decide +kernel
theorem dX13_presses_35 : decode cX13_presses 35 = .ok (.iadd, 1) := by decide +kernel
theorem dX13_presses_36 : decode cX13_presses 36 = .ok (.if_icmp .ge 89, 3) := by decide +kernel
theorem dX13_presses_39 : decode cX13_presses 39 = .ok (.aload_n 0, 1) := by decide +kernel
theorem dX13_presses_40 : decode cX13_presses 40 = .ok (.iload 7, 2) := by decide +kernel
theorem dX13_presses_42 : decode cX13_presses 42 = .ok (.iload 6, 2) := by decide +kernel
theorem dX13_presses_44 : decode cX13_presses 44 = .ok (.invokevirtual 195, 3) := by decide +kernel
theorem dX13_presses_47 : decode cX13_presses 47 = .ok (.ifCond .ne 6, 3) := by decide +kernel
theorem dX13_presses_50 : decode cX13_presses 50 = .ok (.goto 69, 3) := by decide +kernel
theorem dX13_presses_53 : decode cX13_presses 53 = .ok (.aload_n 0, 1) := by decide +kernel
theorem dX13_presses_54 : decode cX13_presses 54 = .ok (.getfield 29, 3) := by decide +kernel
theorem dX13_presses_57 : decode cX13_presses 57 = .ok (.bipush 16, 2) := by decide +kernel
theorem dX13_presses_59 : decode cX13_presses 59 = .ok (.iload 6, 2) := by decide +kernel
theorem dX13_presses_61 : decode cX13_presses 61 = .ok (.imul, 1) := by decide +kernel
theorem dX13_presses_62 : decode cX13_presses 62 = .ok (.iload 7, 2) := by decide +kernel
theorem dX13_presses_64 : decode cX13_presses 64 = .ok (.iadd, 1) := by decide +kernel
theorem dX13_presses_65 : decode cX13_presses 65 = .ok (.iaload, 1) := by decide +kernel
theorem dX13_presses_66 : decode cX13_presses 66 = .ok (.istore 8, 2) := by decide +kernel
theorem dX13_presses_68 : decode cX13_presses 68 = .ok (.aload_n 0, 1) := by decide +kernel
theorem dX13_presses_69 : decode cX13_presses 69 = .ok (.getfield 29, 3) := by decide +kernel
theorem dX13_presses_72 : decode cX13_presses 72 = .ok (.bipush 16, 2) := by decide +kernel
theorem dX13_presses_74 : decode cX13_presses 74 = .ok (.iload 6, 2) := by decide +kernel
theorem dX13_presses_76 : decode cX13_presses 76 = .ok (.imul, 1) := by decide +kernel
theorem dX13_presses_77 : decode cX13_presses 77 = .ok (.iload 7, 2) := by decide +kernel
theorem dX13_presses_79 : decode cX13_presses 79 = .ok (.iadd, 1) := by decide +kernel
theorem dX13_presses_80 : decode cX13_presses 80 = .ok (.iload_n 1, 1) := by decide +kernel
theorem dX13_presses_81 : decode cX13_presses 81 = .ok (.sipush 1000, 3) := by decide +kernel
theorem dX13_presses_84 : decode cX13_presses 84 = .ok (.if_icmp .ge 20, 3) := by decide +kernel
theorem dX13_presses_87 : decode cX13_presses 87 = .ok (.aload_n 0, 1) := by decide +kernel
theorem dX13_presses_88 : decode cX13_presses 88 = .ok (.getfield 20, 3) := by decide +kernel
theorem dX13_presses_91 : decode cX13_presses 91 = .ok (.iconst 4, 1) := by decide +kernel
theorem dX13_presses_92 : decode cX13_presses 92 = .ok (.iaload, 1) := by decide +kernel
theorem dX13_presses_93 : decode cX13_presses 93 = .ok (.iload 8, 2) := by decide +kernel
theorem dX13_presses_95 : decode cX13_presses 95 = .ok (.iload 5, 2) := by decide +kernel
theorem dX13_presses_97 : decode cX13_presses 97 = .ok (.isub, 1) := by decide +kernel
theorem dX13_presses_98 : decode cX13_presses 98 = .ok (.invokestatic 264, 3) := by decide +kernel
theorem dX13_presses_101 : decode cX13_presses 101 = .ok (.goto 17, 3) := by decide +kernel
theorem dX13_presses_104 : decode cX13_presses 104 = .ok (.aload_n 0, 1) := by decide +kernel
theorem dX13_presses_105 : decode cX13_presses 105 = .ok (.getfield 20, 3) := by decide +kernel
theorem dX13_presses_108 : decode cX13_presses 108 = .ok (.iconst 2, 1) := by decide +kernel
theorem dX13_presses_109 : decode cX13_presses 109 = .ok (.iaload, 1) := by decide +kernel
theorem dX13_presses_110 : decode cX13_presses 110 = .ok (.iload 8, 2) := by decide +kernel
theorem dX13_presses_112 : decode cX13_presses 112 = .ok (.iload 5, 2) := by decide +kernel
theorem dX13_presses_114 : decode cX13_presses 114 = .ok (.iadd, 1) := by decide +kernel
theorem dX13_presses_115 : decode cX13_presses 115 = .ok (.invokestatic 210, 3) := by decide +kernel
theorem dX13_presses_118 : decode cX13_presses 118 = .ok (.iastore, 1) := by decide +kernel
theorem dX13_presses_119 : decode cX13_presses 119 = .ok (.iinc 7 1, 3) := by decide +kernel
theorem dX13_presses_122 : decode cX13_presses 122 = .ok (.goto (-92), 3) := by decide +kernel
theorem dX13_presses_125 : decode cX13_presses 125 = .ok (.iinc 6 1, 3) := by decide +kernel
theorem dX13_presses_128 : decode cX13_presses 128 = .ok (.goto (-110), 3) := by decide +kernel
theorem dX13_presses_131 : decode cX13_presses 131 = .ok (.return_, 1) := by decide +kernel
set_option maxRecDepth 20000 in
theorem ggX13_stamp_X13_isPlace : GoodIn wsX13_stamp wsX13_isPlace := goodIn_r _ [6, 7, 8, 9, 10, 5, 11] (by decide +kernel) (by decide +kernel)
set_option maxRecDepth 20000 in
theorem gX13_stamp_X13_isPlace : GoodIn wsX13_stamp (va_wsS RX13 419 yX13_isPlace wsX13_isPlace) := goodIn_app (goodIn_of _ (by decide +kernel)) ggX13_stamp_X13_isPlace
set_option maxRecDepth 20000 in
theorem ggX13_stamp_X13_isCell : GoodIn wsX13_stamp wsX13_isCell := goodIn_r _ [15, 16, 9, 10, 5, 11, 44, 45, 46, 47, 48, 49, 50, 51, 52, 53, 54, 55, 56, 57, 58, 59, 60, 61, 62, 63, 64, 65, 66, 67, 68, 69, 70, 71, 72, 73, 74, 75, 76, 77, 78, 79, 80, 81, 82, 83, 84, 85, 86, 87, 88, 89, 90, 91] (by decide +kernel) (by decide +kernel)
set_option maxRecDepth 20000 in
theorem gX13_stamp_X13_isCell : GoodIn wsX13_stamp (wsV RX13 195 RX13 yX13_isCell wsX13_isCell) := goodIn_app (goodIn_of _ (by decide +kernel)) ggX13_stamp_X13_isCell
set_option maxRecDepth 20000 in
theorem ggX13_stamp_X13_truth : GoodIn wsX13_stamp wsX13_truth := goodIn_r _ [19] (by decide +kernel) (by decide +kernel)
set_option maxRecDepth 20000 in
theorem gX13_stamp_X13_truth : GoodIn wsX13_stamp (va_wsS RX13 96 yX13_truth wsX13_truth) := goodIn_app (goodIn_of _ (by decide +kernel)) ggX13_stamp_X13_truth
set_option maxRecDepth 20000 in
theorem ggX13_stamp_X13_laysAside : GoodIn wsX13_stamp wsX13_laysAside := goodIn_r _ [23, 24, 25, 26, 27, 44, 45, 46, 47, 48, 49, 50, 51, 52, 53, 54, 55, 56, 57, 58, 59, 60, 61, 62, 63, 64, 65, 66, 67, 68, 69, 70, 71, 72, 73, 74, 75, 76, 77, 78, 79, 80, 81, 82, 83, 84, 85, 86, 87, 88, 89, 90, 91] (by decide +kernel) (by decide +kernel)
set_option maxRecDepth 20000 in
theorem gX13_stamp_X13_laysAside : GoodIn wsX13_stamp (wsV RX13 314 RX13 yX13_laysAside wsX13_laysAside) := goodIn_app (goodIn_of _ (by decide +kernel)) ggX13_stamp_X13_laysAside
set_option maxRecDepth 20000 in
theorem ggX13_stamp_X13_presses : GoodIn wsX13_stamp wsX13_presses := goodIn_r _ [31, 25, 16, 12, 13, 14, 5, 15, 9, 10, 11, 32, 33, 34, 35, 36, 37, 44, 45, 46, 47, 48, 49, 50, 51, 52, 53, 54, 55, 56, 57, 58, 59, 60, 61, 62, 63, 64, 65, 66, 67, 68, 69, 70, 71, 72, 73, 74, 75, 76, 77, 78, 79, 80, 81, 82, 83, 84, 85, 86, 87, 88, 89, 90, 91] (by decide +kernel) (by decide +kernel)
set_option maxRecDepth 20000 in
theorem gX13_stamp_X13_presses : GoodIn wsX13_stamp (wsV RX13 425 RX13 yX13_presses wsX13_presses) := goodIn_app (goodIn_of _ (by decide +kernel)) ggX13_stamp_X13_presses
set_option maxRecDepth 20000 in
theorem ggX13_stamp_X13_keeps : GoodIn wsX13_stamp wsX13_keeps := goodIn_r _ [41, 25, 24, 27, 26, 42, 43, 17, 18, 5, 19, 44, 45, 46, 47, 48, 49, 50, 51, 52, 53, 54, 55, 56, 57, 58, 59, 60, 61, 62, 63, 64, 65, 66, 67, 68, 69, 70, 71, 72, 73, 74, 75, 76, 77, 78, 79, 80, 81, 82, 83, 84, 85, 86, 87, 88, 89, 90, 91] (by decide +kernel) (by decide +kernel)
set_option maxRecDepth 20000 in
theorem gX13_stamp_X13_keeps : GoodIn wsX13_stamp (wsV RX13 368 RX13 yX13_keeps wsX13_keeps) := goodIn_app (goodIn_of _ (by decide +kernel)) ggX13_stamp_X13_keeps
theorem dX13_stamp_0 : decode cX13_stamp 0 = .ok (.iload_n 1, 1) := by decide +kernel
theorem dX13_stamp_1 : decode cX13_stamp 1 = .ok (.iload_n 2, 1) := by decide +kernel
theorem dX13_stamp_2 : decode cX13_stamp 2 = .ok (.invokestatic 419, 3) := by decide +kernel
theorem dX13_stamp_5 : decode cX13_stamp 5 = .ok (.ifCond .eq 17, 3) := by decide +kernel
theorem dX13_stamp_8 : decode cX13_stamp 8 = .ok (.aload_n 0, 1) := by decide +kernel
theorem dX13_stamp_9 : decode cX13_stamp 9 = .ok (.iload_n 3, 1) := by decide +kernel
theorem dX13_stamp_10 : decode cX13_stamp 10 = .ok (.iload 4, 2) := by decide +kernel
theorem dX13_stamp_12 : decode cX13_stamp 12 = .ok (.invokevirtual 195, 3) := by decide +kernel
theorem dX13_stamp_15 : decode cX13_stamp 15 = .ok (.ifCond .eq 7, 3) := by decide +kernel
theorem dX13_stamp_18 : decode cX13_stamp 18 = .ok (.iconst 1, 1) := by decide +kernel
theorem dX13_stamp_19 : decode cX13_stamp 19 = .ok (.goto 4, 3) := by decide +kernel
theorem dX13_stamp_22 : decode cX13_stamp 22 = .ok (.iconst 0, 1) := by decide +kernel
theorem dX13_stamp_23 : decode cX13_stamp 23 = .ok (.istore 5, 2) := by decide +kernel
theorem dX13_stamp_25 : decode cX13_stamp 25 = .ok (.aload_n 0, 1) := by decide +kernel
theorem dX13_stamp_26 : decode cX13_stamp 26 = .ok (.iload 5, 2) := by decide +kernel
theorem dX13_stamp_28 : decode cX13_stamp 28 = .ok (.ifCond .ne 7, 3) := by decide +kernel
theorem dX13_stamp_31 : decode cX13_stamp 31 = .ok (.iconst 1, 1) := by decide +kernel
theorem dX13_stamp_32 : decode cX13_stamp 32 = .ok (.goto 27, 3) := by decide +kernel
theorem dX13_stamp_35 : decode cX13_stamp 35 = .ok (.aload_n 0, 1) := by decide +kernel
theorem dX13_stamp_36 : decode cX13_stamp 36 = .ok (.getfield 54, 3) := by decide +kernel
theorem dX13_stamp_39 : decode cX13_stamp 39 = .ok (.iconst 4, 1) := by decide +kernel
theorem dX13_stamp_40 : decode cX13_stamp 40 = .ok (.iload_n 1, 1) := by decide +kernel
theorem dX13_stamp_41 : decode cX13_stamp 41 = .ok (.imul, 1) := by decide +kernel
theorem dX13_stamp_42 : decode cX13_stamp 42 = .ok (.iload_n 2, 1) := by decide +kernel
theorem dX13_stamp_43 : decode cX13_stamp 43 = .ok (.iadd, 1) := by decide +kernel
theorem dX13_stamp_44 : decode cX13_stamp 44 = .ok (.iaload, 1) := by decide +kernel
theorem dX13_stamp_45 : decode cX13_stamp 45 = .ok (.iconst (-1), 1) := by decide +kernel
theorem dX13_stamp_46 : decode cX13_stamp 46 = .ok (.if_icmp .ne 7, 3) := by decide +kernel
theorem dX13_stamp_49 : decode cX13_stamp 49 = .ok (.iconst 1, 1) := by decide +kernel
theorem dX13_stamp_50 : decode cX13_stamp 50 = .ok (.goto 4, 3) := by decide +kernel
theorem dX13_stamp_53 : decode cX13_stamp 53 = .ok (.iconst 0, 1) := by decide +kernel
theorem dX13_stamp_54 : decode cX13_stamp 54 = .ok (.invokestatic 96, 3) := by decide +kernel
theorem dX13_stamp_57 : decode cX13_stamp 57 = .ok (.iconst 2, 1) := by decide +kernel
theorem dX13_stamp_58 : decode cX13_stamp 58 = .ok (.imul, 1) := by decide +kernel
theorem dX13_stamp_59 : decode cX13_stamp 59 = .ok (.putfield 93, 3) := by decide +kernel
theorem dX13_stamp_62 : decode cX13_stamp 62 = .ok (.aload_n 0, 1) := by decide +kernel
theorem dX13_stamp_63 : decode cX13_stamp 63 = .ok (.getfield 93, 3) := by decide +kernel
theorem dX13_stamp_66 : decode cX13_stamp 66 = .ok (.ifCond .le 5, 3) := by decide +kernel
theorem dX13_stamp_69 : decode cX13_stamp 69 = .ok (.iconst 0, 1) := by decide +kernel
theorem dX13_stamp_70 : decode cX13_stamp 70 = .ok (.ireturn, 1) := by decide +kernel
theorem dX13_stamp_71 : decode cX13_stamp 71 = .ok (.aload_n 0, 1) := by decide +kernel
theorem dX13_stamp_72 : decode cX13_stamp 72 = .ok (.invokevirtual 314, 3) := by decide +kernel
theorem dX13_stamp_75 : decode cX13_stamp 75 = .ok (.aload_n 0, 1) := by decide +kernel
theorem dX13_stamp_76 : decode cX13_stamp 76 = .ok (.aload_n 0, 1) := by decide +kernel
theorem dX13_stamp_77 : decode cX13_stamp 77 = .ok (.getfield 54, 3) := by decide +kernel
theorem dX13_stamp_80 : decode cX13_stamp 80 = .ok (.iconst 4, 1) := by decide +kernel
theorem dX13_stamp_81 : decode cX13_stamp 81 = .ok (.iload_n 1, 1) := by decide +kernel
theorem dX13_stamp_82 : decode cX13_stamp 82 = .ok (.imul, 1) := by decide +kernel
theorem dX13_stamp_83 : decode cX13_stamp 83 = .ok (.iload_n 2, 1) := by decide +kernel
theorem dX13_stamp_84 : decode cX13_stamp 84 = .ok (.iadd, 1) := by decide +kernel
theorem dX13_stamp_85 : decode cX13_stamp 85 = .ok (.iaload, 1) := by decide +kernel
theorem dX13_stamp_86 : decode cX13_stamp 86 = .ok (.iload_n 3, 1) := by decide +kernel
theorem dX13_stamp_87 : decode cX13_stamp 87 = .ok (.iload 4, 2) := by decide +kernel
theorem dX13_stamp_89 : decode cX13_stamp 89 = .ok (.invokevirtual 425, 3) := by decide +kernel
theorem dX13_stamp_92 : decode cX13_stamp 92 = .ok (.aload_n 0, 1) := by decide +kernel
theorem dX13_stamp_93 : decode cX13_stamp 93 = .ok (.invokevirtual 368, 3) := by decide +kernel
theorem dX13_stamp_96 : decode cX13_stamp 96 = .ok (.ireturn, 1) := by decide +kernel
set_option maxRecDepth 20000 in
theorem ggX13_stampGain_X13_isPlace : GoodIn wsX13_stampGain wsX13_isPlace := goodIn_r _ [8, 9, 10, 11, 12, 7, 13] (by decide +kernel) (by decide +kernel)
set_option maxRecDepth 20000 in
theorem gX13_stampGain_X13_isPlace : GoodIn wsX13_stampGain (va_wsS RX13 419 yX13_isPlace wsX13_isPlace) := goodIn_app (goodIn_of _ (by decide +kernel)) ggX13_stampGain_X13_isPlace
set_option maxRecDepth 20000 in
theorem ggX13_stampGain_X13_isCell : GoodIn wsX13_stampGain wsX13_isCell := goodIn_r _ [17, 18, 11, 12, 7, 13, 50, 51, 52, 53, 54, 55, 56, 57, 58, 59, 60, 61, 62, 63, 64, 65, 66, 67, 68, 69, 70, 71, 72, 73, 74, 75, 76, 77, 78, 79, 80, 81, 82, 83, 84, 85, 86, 87, 88, 89, 90, 91, 92, 93, 94, 95, 96, 97] (by decide +kernel) (by decide +kernel)
set_option maxRecDepth 20000 in
theorem gX13_stampGain_X13_isCell : GoodIn wsX13_stampGain (wsV RX13 195 RX13 yX13_isCell wsX13_isCell) := goodIn_app (goodIn_of _ (by decide +kernel)) ggX13_stampGain_X13_isCell
set_option maxRecDepth 20000 in
theorem ggX13_stampGain_X13_truth : GoodIn wsX13_stampGain wsX13_truth := goodIn_r _ [21] (by decide +kernel) (by decide +kernel)
set_option maxRecDepth 20000 in
theorem gX13_stampGain_X13_truth : GoodIn wsX13_stampGain (va_wsS RX13 96 yX13_truth wsX13_truth) := goodIn_app (goodIn_of _ (by decide +kernel)) ggX13_stampGain_X13_truth
set_option maxRecDepth 20000 in
theorem ggX13_stampGain_X13_laysAside : GoodIn wsX13_stampGain wsX13_laysAside := goodIn_r _ [25, 4, 3, 26, 27, 50, 51, 52, 53, 54, 55, 56, 57, 58, 59, 60, 61, 62, 63, 64, 65, 66, 67, 68, 69, 70, 71, 72, 73, 74, 75, 76, 77, 78, 79, 80, 81, 82, 83, 84, 85, 86, 87, 88, 89, 90, 91, 92, 93, 94, 95, 96, 97] (by decide +kernel) (by decide +kernel)
set_option maxRecDepth 20000 in
theorem gX13_stampGain_X13_laysAside : GoodIn wsX13_stampGain (wsV RX13 314 RX13 yX13_laysAside wsX13_laysAside) := goodIn_app (goodIn_of _ (by decide +kernel)) ggX13_stampGain_X13_laysAside
set_option maxRecDepth 20000 in
theorem ggX13_stampGain_X13_volumeNow : GoodIn wsX13_stampGain wsX13_volumeNow := goodIn_r _ [31, 3, 32, 33, 34, 7, 35, 18, 36, 37, 38, 39, 50, 51, 52, 53, 54, 55, 56, 57, 58, 59, 60, 61, 62, 63, 64, 65, 66, 67, 68, 69, 70, 71, 72, 73, 74, 75, 76, 77, 78, 79, 80, 81, 82, 83, 84, 85, 86, 87, 88, 89, 90, 91, 92, 93, 94, 95, 96, 97] (by decide +kernel) (by decide +kernel)
set_option maxRecDepth 20000 in
theorem gX13_stampGain_X13_volumeNow : GoodIn wsX13_stampGain (wsV RX13 258 RX13 yX13_volumeNow wsX13_volumeNow) := goodIn_app (goodIn_of _ (by decide +kernel)) ggX13_stampGain_X13_volumeNow
set_option maxRecDepth 20000 in
theorem ggX13_stampGain_X13_presses : GoodIn wsX13_stampGain wsX13_presses := goodIn_r _ [43, 3, 18, 14, 15, 16, 7, 17, 11, 12, 13, 44, 45, 46, 47, 48, 49, 50, 51, 52, 53, 54, 55, 56, 57, 58, 59, 60, 61, 62, 63, 64, 65, 66, 67, 68, 69, 70, 71, 72, 73, 74, 75, 76, 77, 78, 79, 80, 81, 82, 83, 84, 85, 86, 87, 88, 89, 90, 91, 92, 93, 94, 95, 96, 97] (by decide +kernel) (by decide +kernel)
set_option maxRecDepth 20000 in
theorem gX13_stampGain_X13_presses : GoodIn wsX13_stampGain (wsV RX13 425 RX13 yX13_presses wsX13_presses) := goodIn_app (goodIn_of _ (by decide +kernel)) ggX13_stampGain_X13_presses
theorem dX13_stampGain_0 : decode cX13_stampGain 0 = .ok (.iload_n 1, 1) := by decide +kernel
theorem dX13_stampGain_1 : decode cX13_stampGain 1 = .ok (.iload_n 2, 1) := by decide +kernel
theorem dX13_stampGain_2 : decode cX13_stampGain 2 = .ok (.invokestatic 419, 3) := by decide +kernel
theorem dX13_stampGain_5 : decode cX13_stampGain 5 = .ok (.ifCond .eq 17, 3) := by decide +kernel
theorem dX13_stampGain_8 : decode cX13_stampGain 8 = .ok (.aload_n 0, 1) := by decide +kernel
theorem dX13_stampGain_9 : decode cX13_stampGain 9 = .ok (.iload_n 3, 1) := by decide +kernel
theorem dX13_stampGain_10 : decode cX13_stampGain 10 = .ok (.iload 4, 2) := by decide +kernel
theorem dX13_stampGain_12 : decode cX13_stampGain 12 = .ok (.invokevirtual 195, 3) := by decide +kernel
theorem dX13_stampGain_15 : decode cX13_stampGain 15 = .ok (.ifCond .eq 7, 3) := by decide +kernel
theorem dX13_stampGain_18 : decode cX13_stampGain 18 = .ok (.iconst 1, 1) := by decide +kernel
theorem dX13_stampGain_19 : decode cX13_stampGain 19 = .ok (.goto 4, 3) := by decide +kernel
theorem dX13_stampGain_22 : decode cX13_stampGain 22 = .ok (.iconst 0, 1) := by decide +kernel
theorem dX13_stampGain_23 : decode cX13_stampGain 23 = .ok (.istore 5, 2) := by decide +kernel
theorem dX13_stampGain_25 : decode cX13_stampGain 25 = .ok (.aload_n 0, 1) := by decide +kernel
theorem dX13_stampGain_26 : decode cX13_stampGain 26 = .ok (.iload 5, 2) := by decide +kernel
theorem dX13_stampGain_28 : decode cX13_stampGain 28 = .ok (.ifCond .ne 7, 3) := by decide +kernel
theorem dX13_stampGain_31 : decode cX13_stampGain 31 = .ok (.iconst 1, 1) := by decide +kernel
theorem dX13_stampGain_32 : decode cX13_stampGain 32 = .ok (.goto 27, 3) := by decide +kernel
theorem dX13_stampGain_35 : decode cX13_stampGain 35 = .ok (.aload_n 0, 1) := by decide +kernel
theorem dX13_stampGain_36 : decode cX13_stampGain 36 = .ok (.getfield 54, 3) := by decide +kernel
theorem dX13_stampGain_39 : decode cX13_stampGain 39 = .ok (.iconst 4, 1) := by decide +kernel
theorem dX13_stampGain_40 : decode cX13_stampGain 40 = .ok (.iload_n 1, 1) := by decide +kernel
theorem dX13_stampGain_41 : decode cX13_stampGain 41 = .ok (.imul, 1) := by decide +kernel
theorem dX13_stampGain_42 : decode cX13_stampGain 42 = .ok (.iload_n 2, 1) := by decide +kernel
theorem dX13_stampGain_43 : decode cX13_stampGain 43 = .ok (.iadd, 1) := by decide +kernel
theorem dX13_stampGain_44 : decode cX13_stampGain 44 = .ok (.iaload, 1) := by decide +kernel
theorem dX13_stampGain_45 : decode cX13_stampGain 45 = .ok (.iconst (-1), 1) := by decide +kernel
theorem dX13_stampGain_46 : decode cX13_stampGain 46 = .ok (.if_icmp .ne 7, 3) := by decide +kernel
theorem dX13_stampGain_49 : decode cX13_stampGain 49 = .ok (.iconst 1, 1) := by decide +kernel
theorem dX13_stampGain_50 : decode cX13_stampGain 50 = .ok (.goto 4, 3) := by decide +kernel
theorem dX13_stampGain_53 : decode cX13_stampGain 53 = .ok (.iconst 0, 1) := by decide +kernel
theorem dX13_stampGain_54 : decode cX13_stampGain 54 = .ok (.invokestatic 96, 3) := by decide +kernel
theorem dX13_stampGain_57 : decode cX13_stampGain 57 = .ok (.iconst 2, 1) := by decide +kernel
theorem dX13_stampGain_58 : decode cX13_stampGain 58 = .ok (.imul, 1) := by decide +kernel
theorem dX13_stampGain_59 : decode cX13_stampGain 59 = .ok (.putfield 93, 3) := by decide +kernel
theorem dX13_stampGain_62 : decode cX13_stampGain 62 = .ok (.aload_n 0, 1) := by decide +kernel
theorem dX13_stampGain_63 : decode cX13_stampGain 63 = .ok (.getfield 93, 3) := by decide +kernel
theorem dX13_stampGain_66 : decode cX13_stampGain 66 = .ok (.ifCond .le 5, 3) := by decide +kernel
theorem dX13_stampGain_69 : decode cX13_stampGain 69 = .ok (.iconst 0, 1) := by decide +kernel
theorem dX13_stampGain_70 : decode cX13_stampGain 70 = .ok (.ireturn, 1) := by decide +kernel
theorem dX13_stampGain_71 : decode cX13_stampGain 71 = .ok (.aload_n 0, 1) := by decide +kernel
theorem dX13_stampGain_72 : decode cX13_stampGain 72 = .ok (.invokevirtual 314, 3) := by decide +kernel
theorem dX13_stampGain_75 : decode cX13_stampGain 75 = .ok (.aload_n 0, 1) := by decide +kernel
theorem dX13_stampGain_76 : decode cX13_stampGain 76 = .ok (.invokevirtual 258, 3) := by decide +kernel
theorem dX13_stampGain_79 : decode cX13_stampGain 79 = .ok (.istore 6, 2) := by decide +kernel
theorem dX13_stampGain_81 : decode cX13_stampGain 81 = .ok (.aload_n 0, 1) := by decide +kernel
theorem dX13_stampGain_82 : decode cX13_stampGain 82 = .ok (.aload_n 0, 1) := by decide +kernel
theorem dX13_stampGain_83 : decode cX13_stampGain 83 = .ok (.getfield 54, 3) := by decide +kernel
theorem dX13_stampGain_86 : decode cX13_stampGain 86 = .ok (.iconst 4, 1) := by decide +kernel
theorem dX13_stampGain_87 : decode cX13_stampGain 87 = .ok (.iload_n 1, 1) := by decide +kernel
theorem dX13_stampGain_88 : decode cX13_stampGain 88 = .ok (.imul, 1) := by decide +kernel
theorem dX13_stampGain_89 : decode cX13_stampGain 89 = .ok (.iload_n 2, 1) := by decide +kernel
theorem dX13_stampGain_90 : decode cX13_stampGain 90 = .ok (.iadd, 1) := by decide +kernel
theorem dX13_stampGain_91 : decode cX13_stampGain 91 = .ok (.iaload, 1) := by decide +kernel
theorem dX13_stampGain_92 : decode cX13_stampGain 92 = .ok (.iload_n 3, 1) := by decide +kernel
theorem dX13_stampGain_93 : decode cX13_stampGain 93 = .ok (.iload 4, 2) := by decide +kernel
theorem dX13_stampGain_95 : decode cX13_stampGain 95 = .ok (.invokevirtual 425, 3) := by decide +kernel
theorem dX13_stampGain_98 : decode cX13_stampGain 98 = .ok (.aload_n 0, 1) := by decide +kernel
theorem dX13_stampGain_99 : decode cX13_stampGain 99 = .ok (.invokevirtual 258, 3) := by decide +kernel
theorem dX13_stampGain_102 : decode cX13_stampGain 102 = .ok (.iload 6, 2) := by decide +kernel
theorem dX13_stampGain_104 : decode cX13_stampGain 104 = .ok (.isub, 1) := by decide +kernel
theorem dX13_stampGain_105 : decode cX13_stampGain 105 = .ok (.istore 7, 2) := by decide +kernel
theorem dX13_stampGain_107 : decode cX13_stampGain 107 = .ok (.iconst 0, 1) := by decide +kernel
theorem dX13_stampGain_108 : decode cX13_stampGain 108 = .ok (.istore 8, 2) := by decide +kernel
