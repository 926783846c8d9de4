set_option maxRecDepth 20000 in
theorem gX13_runScript_X13_runs0 : GoodIn wsX13_runScript (wsV RX13 476 RX13 yX13_runs0 wsX13_runs0) := goodIn_app (goodIn_of _ (by decide +kernel)) ggX13_runScript_X13_runs0
set_option maxRecDepth 20000 in
theorem ggX13_runScript_X13_keeps : GoodIn wsX13_runScript wsX13_keeps := goodIn_r _ [269, 109, 108, 111, 110, 270, 271, 86, 87, 9, 88, 272, 273, 274, 275, 276, 277, 278, 279, 280, 281, 282, 283, 284, 285, 286, 287, 288, 289, 290, 291, 292, 293, 294, 295, 296, 297, 298, 299, 300, 301, 302, 303, 304, 305, 306, 307, 308, 309, 310, 311, 312, 313, 314, 315, 316, 317, 318, 319] (by decide +kernel) (by decide +kernel)
set_option maxRecDepth 20000 in
theorem gX13_runScript_X13_keeps : GoodIn wsX13_runScript (wsV RX13 368 RX13 yX13_keeps wsX13_keeps) := goodIn_app (goodIn_of _ (by decide +kernel)) ggX13_runScript_X13_keeps
theorem dX13_runScript_0 : decode cX13_runScript 0 = .ok (.aload_n 0, 1) := by decide +kernel
theorem dX13_runScript_1 : decode cX13_runScript 1 = .ok (.invokevirtual 237, 3) := by decide +kernel
theorem dX13_runScript_4 : decode cX13_runScript 4 = .ok (.aload_n 0, 1) := by decide +kernel
theorem dX13_runScript_5 : decode cX13_runScript 5 = .ok (.iconst 0, 1) := by decide +kernel
theorem dX13_runScript_6 : decode cX13_runScript 6 = .ok (.putfield 464, 3) := by decide +kernel
theorem dX13_runScript_9 : decode cX13_runScript 9 = .ok (.aload_n 0, 1) := by decide +kernel
theorem dX13_runScript_10 : decode cX13_runScript 10 = .ok (.iconst 0, 1) := by decide +kernel
theorem dX13_runScript_11 : decode cX13_runScript 11 = .ok (.putfield 458, 3) := by decide +kernel
theorem dX13_runScript_14 : decode cX13_runScript 14 = .ok (.aload_n 0, 1) := by decide +kernel
theorem dX13_runScript_15 : decode cX13_runScript 15 = .ok (.iconst 0, 1) := by decide +kernel
theorem dX13_runScript_16 : decode cX13_runScript 16 = .ok (.putfield 455, 3) := by decide +kernel
theorem dX13_runScript_19 : decode cX13_runScript 19 = .ok (.aload_n 0, 1) := by decide +kernel
theorem dX13_runScript_20 : decode cX13_runScript 20 = .ok (.invokevirtual 148, 3) := by decide +kernel
theorem dX13_runScript_23 : decode cX13_runScript 23 = .ok (.ifCond .eq 40, 3) := by decide +kernel
theorem dX13_runScript_26 : decode cX13_runScript 26 = .ok (.aload_n 0, 1) := by decide +kernel
theorem dX13_runScript_27 : decode cX13_runScript 27 = .ok (.getfield 135, 3) := by decide +kernel
theorem dX13_runScript_30 : decode cX13_runScript 30 = .ok (.ifCond .eq 33, 3) := by decide +kernel
theorem dX13_runScript_33 : decode cX13_runScript 33 = .ok (.aload_n 0, 1) := by decide +kernel
theorem dX13_runScript_34 : decode cX13_runScript 34 = .ok (.getfield 455, 3) := by decide +kernel
theorem dX13_runScript_37 : decode cX13_runScript 37 = .ok (.istore_n 1, 1) := by decide +kernel
theorem dX13_runScript_38 : decode cX13_runScript 38 = .ok (.aload_n 0, 1) := by decide +kernel
theorem dX13_runScript_39 : decode cX13_runScript 39 = .ok (.invokevirtual 470, 3) := by decide +kernel
theorem dX13_runScript_42 : decode cX13_runScript 42 = .ok (.aload_n 0, 1) := by decide +kernel
theorem dX13_runScript_43 : decode cX13_runScript 43 = .ok (.getfield 455, 3) := by decide +kernel
theorem dX13_runScript_46 : decode cX13_runScript 46 = .ok (.iload_n 1, 1) := by decide +kernel
theorem dX13_runScript_47 : decode cX13_runScript 47 = .ok (.if_icmp .ne 9, 3) := by decide +kernel
theorem dX13_runScript_50 : decode cX13_runScript 50 = .ok (.aload_n 0, 1) := by decide +kernel
theorem dX13_runScript_51 : decode cX13_runScript 51 = .ok (.bipush 59, 2) := by decide +kernel
theorem dX13_runScript_53 : decode cX13_runScript 53 = .ok (.invokevirtual 243, 3) := by decide +kernel
theorem dX13_runScript_56 : decode cX13_runScript 56 = .ok (.aload_n 0, 1) := by decide +kernel
theorem dX13_runScript_57 : decode cX13_runScript 57 = .ok (.invokevirtual 473, 3) := by decide +kernel
theorem dX13_runScript_60 : decode cX13_runScript 60 = .ok (.goto (-41), 3) := by decide +kernel
theorem dX13_runScript_63 : decode cX13_runScript 63 = .ok (.aload_n 0, 1) := by decide +kernel
theorem dX13_runScript_64 : decode cX13_runScript 64 = .ok (.invokevirtual 148, 3) := by decide +kernel
theorem dX13_runScript_67 : decode cX13_runScript 67 = .ok (.ifCond .eq 15, 3) := by decide +kernel
theorem dX13_runScript_70 : decode cX13_runScript 70 = .ok (.aload_n 0, 1) := by decide +kernel
theorem dX13_runScript_71 : decode cX13_runScript 71 = .ok (.getfield 455, 3) := by decide +kernel
theorem dX13_runScript_74 : decode cX13_runScript 74 = .ok (.ifCond .le 8, 3) := by decide +kernel
theorem dX13_runScript_77 : decode cX13_runScript 77 = .ok (.aload_n 0, 1) := by decide +kernel
theorem dX13_runScript_78 : decode cX13_runScript 78 = .ok (.iconst 1, 1) := by decide +kernel
theorem dX13_runScript_79 : decode cX13_runScript 79 = .ok (.invokevirtual 156, 3) := by decide +kernel
theorem dX13_runScript_82 : decode cX13_runScript 82 = .ok (.aload_n 0, 1) := by decide +kernel
theorem dX13_runScript_83 : decode cX13_runScript 83 = .ok (.invokevirtual 246, 3) := by decide +kernel
theorem dX13_runScript_86 : decode cX13_runScript 86 = .ok (.ifCond .ne 5, 3) := by decide +kernel
theorem dX13_runScript_89 : decode cX13_runScript 89 = .ok (.iconst 0, 1) := by decide +kernel
theorem dX13_runScript_90 : decode cX13_runScript 90 = .ok (.ireturn, 1) := by decide +kernel
theorem dX13_runScript_91 : decode cX13_runScript 91 = .ok (.aload_n 0, 1) := by decide +kernel
theorem dX13_runScript_92 : decode cX13_runScript 92 = .ok (.invokevirtual 314, 3) := by decide +kernel
theorem dX13_runScript_95 : decode cX13_runScript 95 = .ok (.aload_n 0, 1) := by decide +kernel
theorem dX13_runScript_96 : decode cX13_runScript 96 = .ok (.invokevirtual 476, 3) := by decide +kernel
theorem dX13_runScript_99 : decode cX13_runScript 99 = .ok (.istore_n 1, 1) := by decide +kernel
theorem dX13_runScript_100 : decode cX13_runScript 100 = .ok (.aload_n 0, 1) := by decide +kernel
theorem dX13_runScript_101 : decode cX13_runScript 101 = .ok (.aload_n 0, 1) := by decide +kernel
theorem dX13_runScript_102 : decode cX13_runScript 102 = .ok (.invokevirtual 368, 3) := by decide +kernel
theorem dX13_runScript_105 : decode cX13_runScript 105 = .ok (.putfield 467, 3) := by decide +kernel
theorem dX13_runScript_108 : decode cX13_runScript 108 = .ok (.iload_n 1, 1) := by decide +kernel
theorem dX13_runScript_109 : decode cX13_runScript 109 = .ok (.ireturn, 1) := by decide +kernel
set_option maxRecDepth 20000 in
theorem ggX13_runs0_X13_truth : GoodIn wsX13_runs0 wsX13_truth := goodIn_r _ [9] (by decide +kernel) (by decide +kernel)
set_option maxRecDepth 20000 in
theorem gX13_runs0_X13_truth : GoodIn wsX13_runs0 (va_wsS RX13 96 yX13_truth wsX13_truth) := goodIn_app (goodIn_of _ (by decide +kernel)) ggX13_runs0_X13_truth
