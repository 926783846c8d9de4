set_option maxRecDepth 20000 in
theorem ggX2_glowAt_X5_lightAt : GoodIn wsX2_glowAt wsX5_lightAt := goodIn_r _ [7, 8, 9, 10, 11, 12, 13, 14, 15, 16, 17, 18, 19, 20, 21] (by decide +kernel) (by decide +kernel)
set_option maxRecDepth 20000 in
theorem gX2_glowAt_X5_lightAt : GoodIn wsX2_glowAt (wsV RX2 9 RX5 yX5_lightAt wsX5_lightAt) := goodIn_app (goodIn_of _ (by decide +kernel)) ggX2_glowAt_X5_lightAt
theorem dX2_glowAt_0 : decode cX2_glowAt 0 = .ok (.aload_n 0, 1) := by decide +kernel
theorem dX2_glowAt_1 : decode cX2_glowAt 1 = .ok (.iload_n 1, 1) := by decide +kernel
theorem dX2_glowAt_2 : decode cX2_glowAt 2 = .ok (.iload_n 2, 1) := by decide +kernel
theorem dX2_glowAt_3 : decode cX2_glowAt 3 = .ok (.fconst 0, 1) := by decide +kernel
theorem dX2_glowAt_4 : decode cX2_glowAt 4 = .ok (.invokevirtual 9, 3) := by decide +kernel
theorem dX2_glowAt_7 : decode cX2_glowAt 7 = .ok (.fstore_n 3, 1) := by decide +kernel
theorem dX2_glowAt_8 : decode cX2_glowAt 8 = .ok (.fload_n 3, 1) := by decide +kernel
theorem dX2_glowAt_9 : decode cX2_glowAt 9 = .ok (.ldc 15, 2) := by decide +kernel
theorem dX2_glowAt_11 : decode cX2_glowAt 11 = .ok (.fmul, 1) := by decide +kernel
theorem dX2_glowAt_12 : decode cX2_glowAt 12 = .ok (.fstore 4, 2) := by decide +kernel
theorem dX2_glowAt_14 : decode cX2_glowAt 14 = .ok (.fload 4, 2) := by decide +kernel
theorem dX2_glowAt_16 : decode cX2_glowAt 16 = .ok (.aload_n 0, 1) := by decide +kernel
theorem dX2_glowAt_17 : decode cX2_glowAt 17 = .ok (.iload_n 1, 1) := by decide +kernel
theorem dX2_glowAt_18 : decode cX2_glowAt 18 = .ok (.iconst 1, 1) := by decide +kernel
theorem dX2_glowAt_19 : decode cX2_glowAt 19 = .ok (.isub, 1) := by decide +kernel
theorem dX2_glowAt_20 : decode cX2_glowAt 20 = .ok (.iload_n 2, 1) := by decide +kernel
theorem dX2_glowAt_21 : decode cX2_glowAt 21 = .ok (.fload_n 3, 1) := by decide +kernel
theorem dX2_glowAt_22 : decode cX2_glowAt 22 = .ok (.invokevirtual 9, 3) := by decide +kernel
theorem dX2_glowAt_25 : decode cX2_glowAt 25 = .ok (.fadd, 1) := by decide +kernel
theorem dX2_glowAt_26 : decode cX2_glowAt 26 = .ok (.fstore 4, 2) := by decide +kernel
theorem dX2_glowAt_28 : decode cX2_glowAt 28 = .ok (.fload 4, 2) := by decide +kernel
theorem dX2_glowAt_30 : decode cX2_glowAt 30 = .ok (.aload_n 0, 1) := by decide +kernel
theorem dX2_glowAt_31 : decode cX2_glowAt 31 = .ok (.iload_n 1, 1) := by decide +kernel
theorem dX2_glowAt_32 : decode cX2_glowAt 32 = .ok (.iconst 1, 1) := by decide +kernel
theorem dX2_glowAt_33 : decode cX2_glowAt 33 = .ok (.iadd, 1) := by decide +kernel
theorem dX2_glowAt_34 : decode cX2_glowAt 34 = .ok (.iload_n 2, 1) := by decide +kernel
theorem dX2_glowAt_35 : decode cX2_glowAt 35 = .ok (.fload_n 3, 1) := by decide +kernel
theorem dX2_glowAt_36 : decode cX2_glowAt 36 = .ok (.invokevirtual 9, 3) := by decide +kernel
theorem dX2_glowAt_39 : decode cX2_glowAt 39 = .ok (.fadd, 1) := by decide +kernel
theorem dX2_glowAt_40 : decode cX2_glowAt 40 = .ok (.fstore 4, 2) := by decide +kernel
theorem dX2_glowAt_42 : decode cX2_glowAt 42 = .ok (.fload 4, 2) := by decide +kernel
theorem dX2_glowAt_44 : decode cX2_glowAt 44 = .ok (.aload_n 0, 1) := by decide +kernel
theorem dX2_glowAt_45 : decode cX2_glowAt 45 = .ok (.iload_n 1, 1) := by decide +kernel
theorem dX2_glowAt_46 : decode cX2_glowAt 46 = .ok (.iload_n 2, 1) := by decide +kernel
theorem dX2_glowAt_47 : decode cX2_glowAt 47 = .ok (.iconst 1, 1) := by decide +kernel
theorem dX2_glowAt_48 : decode cX2_glowAt 48 = .ok (.isub, 1) := by decide +kernel
theorem dX2_glowAt_49 : decode cX2_glowAt 49 = .ok (.fload_n 3, 1) := by decide +kernel
theorem dX2_glowAt_50 : decode cX2_glowAt 50 = .ok (.invokevirtual 9, 3) := by decide +kernel
theorem dX2_glowAt_53 : decode cX2_glowAt 53 = .ok (.fadd, 1) := by decide +kernel
theorem dX2_glowAt_54 : decode cX2_glowAt 54 = .ok (.fstore 4, 2) := by decide +kernel
theorem dX2_glowAt_56 : decode cX2_glowAt 56 = .ok (.fload 4, 2) := by decide +kernel
theorem dX2_glowAt_58 : decode cX2_glowAt 58 = .ok (.aload_n 0, 1) := by decide +kernel
theorem dX2_glowAt_59 : decode cX2_glowAt 59 = .ok (.iload_n 1, 1) := by decide +kernel
theorem dX2_glowAt_60 : decode cX2_glowAt 60 = .ok (.iload_n 2, 1) := by decide +kernel
theorem dX2_glowAt_61 : decode cX2_glowAt 61 = .ok (.iconst 1, 1) := by decide +kernel
theorem dX2_glowAt_62 : decode cX2_glowAt 62 = .ok (.iadd, 1) := by decide +kernel
theorem dX2_glowAt_63 : decode cX2_glowAt 63 = .ok (.fload_n 3, 1) := by decide +kernel
theorem dX2_glowAt_64 : decode cX2_glowAt 64 = .ok (.invokevirtual 9, 3) := by decide +kernel
theorem dX2_glowAt_67 : decode cX2_glowAt 67 = .ok (.fadd, 1) := by decide +kernel
theorem dX2_glowAt_68 : decode cX2_glowAt 68 = .ok (.fstore 4, 2) := by decide +kernel
theorem dX2_glowAt_70 : decode cX2_glowAt 70 = .ok (.fload 4, 2) := by decide +kernel
theorem dX2_glowAt_72 : decode cX2_glowAt 72 = .ok (.ldc 16, 2) := by decide +kernel
theorem dX2_glowAt_74 : decode cX2_glowAt 74 = .ok (.fdiv, 1) := by decide +kernel
theorem dX2_glowAt_75 : decode cX2_glowAt 75 = .ok (.freturn, 1) := by decide +kernel
set_option maxRecDepth 20000 in
theorem ggX2_missAt_X2_glowAt : GoodIn wsX2_missAt wsX2_glowAt := goodIn_r _ [4, 5, 6, 7, 8, 9, 10, 11, 12, 13, 14, 15, 29, 30, 31, 32, 33, 34, 35, 36, 37, 38] (by decide +kernel) (by decide +kernel)
set_option maxRecDepth 20000 in
theorem gX2_missAt_X2_glowAt : GoodIn wsX2_missAt (va_wsS RX2 17 yX2_glowAt wsX2_glowAt) := goodIn_app (goodIn_of _ (by decide +kernel)) ggX2_missAt_X2_glowAt
set_option maxRecDepth 20000 in
theorem ggX2_missAt_X5_wishAt : GoodIn wsX2_missAt wsX5_wishAt := goodIn_r _ [19, 20, 21, 22, 10, 23, 12, 13, 24, 25, 26, 27, 28, 29, 30, 31, 32, 33, 34, 35, 36, 37, 38] (by decide +kernel) (by decide +kernel)
set_option maxRecDepth 20000 in
theorem gX2_missAt_X5_wishAt : GoodIn wsX2_missAt (wsV RX2 23 RX5 yX5_wishAt wsX5_wishAt) := goodIn_app (goodIn_of _ (by decide +kernel)) ggX2_missAt_X5_wishAt
theorem dX2_missAt_0 : decode cX2_missAt 0 = .ok (.aload_n 0, 1) := by decide +kernel
theorem dX2_missAt_1 : decode cX2_missAt 1 = .ok (.iload_n 1, 1) := by decide +kernel
theorem dX2_missAt_2 : decode cX2_missAt 2 = .ok (.iload_n 2, 1) := by decide +kernel
theorem dX2_missAt_3 : decode cX2_missAt 3 = .ok (.invokestatic 17, 3) := by decide +kernel
theorem dX2_missAt_6 : decode cX2_missAt 6 = .ok (.aload_n 0, 1) := by decide +kernel
theorem dX2_missAt_7 : decode cX2_missAt 7 = .ok (.iload_n 1, 1) := by decide +kernel
theorem dX2_missAt_8 : decode cX2_missAt 8 = .ok (.iload_n 2, 1) := by decide +kernel
theorem dX2_missAt_9 : decode cX2_missAt 9 = .ok (.invokevirtual 23, 3) := by decide +kernel
theorem dX2_missAt_12 : decode cX2_missAt 12 = .ok (.fsub, 1) := by decide +kernel
theorem dX2_missAt_13 : decode cX2_missAt 13 = .ok (.freturn, 1) := by decide +kernel
set_option maxRecDepth 20000 in
theorem ggX2_sizeOfMiss_X5_has : GoodIn wsX2_sizeOfMiss wsX5_has := goodIn_r _ [5, 6, 7, 33, 34, 35, 36, 37, 38, 39, 40, 41, 42] (by decide +kernel) (by decide +kernel)
set_option maxRecDepth 20000 in
theorem gX2_sizeOfMiss_X5_has : GoodIn wsX2_sizeOfMiss (wsV RX2 27 RX5 yX5_has wsX5_has) := goodIn_app (goodIn_of _ (by decide +kernel)) ggX2_sizeOfMiss_X5_has
set_option maxRecDepth 20000 in
theorem ggX2_sizeOfMiss_X2_glowAt : GoodIn wsX2_sizeOfMiss wsX2_glowAt := goodIn_r _ [11, 12, 13, 14, 15, 16, 4, 17, 6, 7, 18, 19, 33, 34, 35, 36, 37, 38, 39, 40, 41, 42] (by decide +kernel) (by decide +kernel)
set_option maxRecDepth 20000 in
theorem gX2_sizeOfMiss_X2_glowAt : GoodIn wsX2_sizeOfMiss (va_wsS RX2 17 yX2_glowAt wsX2_glowAt) := goodIn_app (goodIn_of _ (by decide +kernel)) ggX2_sizeOfMiss_X2_glowAt
set_option maxRecDepth 20000 in
theorem ggX2_sizeOfMiss_X5_wishAt : GoodIn wsX2_sizeOfMiss wsX5_wishAt := goodIn_r _ [23, 24, 25, 26, 4, 27, 6, 7, 28, 29, 30, 31, 32, 33, 34, 35, 36, 37, 38, 39, 40, 41, 42] (by decide +kernel) (by decide +kernel)
set_option maxRecDepth 20000 in
theorem gX2_sizeOfMiss_X5_wishAt : GoodIn wsX2_sizeOfMiss (wsV RX2 23 RX5 yX5_wishAt wsX5_wishAt) := goodIn_app (goodIn_of _ (by decide +kernel)) ggX2_sizeOfMiss_X5_wishAt
theorem dX2_sizeOfMiss_0 : decode cX2_sizeOfMiss 0 = .ok (.aload_n 0, 1) := by decide +kernel
theorem dX2_sizeOfMiss_1 : decode cX2_sizeOfMiss 1 = .ok (.iload_n 1, 1) := by decide +kernel
theorem dX2_sizeOfMiss_2 : decode cX2_sizeOfMiss 2 = .ok (.iload_n 2, 1) := by decide +kernel
theorem dX2_sizeOfMiss_3 : decode cX2_sizeOfMiss 3 = .ok (.invokevirtual 27, 3) := by decide +kernel
theorem dX2_sizeOfMiss_6 : decode cX2_sizeOfMiss 6 = .ok (.ifCond .ne 5, 3) := by decide +kernel
theorem dX2_sizeOfMiss_9 : decode cX2_sizeOfMiss 9 = .ok (.fconst 0, 1) := by decide +kernel
theorem dX2_sizeOfMiss_10 : decode cX2_sizeOfMiss 10 = .ok (.freturn, 1) := by decide +kernel
theorem dX2_sizeOfMiss_11 : decode cX2_sizeOfMiss 11 = .ok (.aload_n 0, 1) := by decide +kernel
theorem dX2_sizeOfMiss_12 : decode cX2_sizeOfMiss 12 = .ok (.iload_n 1, 1) := by decide +kernel
theorem dX2_sizeOfMiss_13 : decode cX2_sizeOfMiss 13 = .ok (.iload_n 2, 1) := by decide +kernel
theorem dX2_sizeOfMiss_14 : decode cX2_sizeOfMiss 14 = .ok (.invokestatic 17, 3) := by decide +kernel
theorem dX2_sizeOfMiss_17 : decode cX2_sizeOfMiss 17 = .ok (.aload_n 0, 1) := by decide +kernel
theorem dX2_sizeOfMiss_18 : decode cX2_sizeOfMiss 18 = .ok (.iload_n 1, 1) := by decide +kernel
theorem dX2_sizeOfMiss_19 : decode cX2_sizeOfMiss 19 = .ok (.iload_n 2, 1) := by decide +kernel
theorem dX2_sizeOfMiss_20 : decode cX2_sizeOfMiss 20 = .ok (.invokevirtual 23, 3) := by decide +kernel
theorem dX2_sizeOfMiss_23 : decode cX2_sizeOfMiss 23 = .ok (.fsub, 1) := by decide +kernel
theorem dX2_sizeOfMiss_24 : decode cX2_sizeOfMiss 24 = .ok (.fstore_n 3, 1) := by decide +kernel
theorem dX2_sizeOfMiss_25 : decode cX2_sizeOfMiss 25 = .ok (.fload_n 3, 1) := by decide +kernel
theorem dX2_sizeOfMiss_26 : decode cX2_sizeOfMiss 26 = .ok (.fconst 0, 1) := by decide +kernel
theorem dX2_sizeOfMiss_27 : decode cX2_sizeOfMiss 27 = .ok (.fcmp .g, 1) := by decide +kernel
theorem dX2_sizeOfMiss_28 : decode cX2_sizeOfMiss 28 = .ok (.ifCond .ge 8, 3) := by decide +kernel
theorem dX2_sizeOfMiss_31 : decode cX2_sizeOfMiss 31 = .ok (.fload_n 3, 1) := by decide +kernel
theorem dX2_sizeOfMiss_32 : decode cX2_sizeOfMiss 32 = .ok (.fneg, 1) := by decide +kernel
theorem dX2_sizeOfMiss_33 : decode cX2_sizeOfMiss 33 = .ok (.goto 4, 3) := by decide +kernel
theorem dX2_sizeOfMiss_36 : decode cX2_sizeOfMiss 36 = .ok (.fload_n 3, 1) := by decide +kernel
theorem dX2_sizeOfMiss_37 : decode cX2_sizeOfMiss 37 = .ok (.freturn, 1) := by decide +kernel
set_option maxRecDepth 20000 in
theorem ggX2_meanMiss_X2_sizeOfMiss : GoodIn wsX2_meanMiss wsX2_sizeOfMiss := goodIn_r _ [6, 7, 8, 9, 10, 11, 12, 13, 14, 15, 5, 16, 17, 18, 19, 20, 21, 22, 23, 24, 25, 26, 27, 28, 29, 30, 31, 32, 33, 34, 35, 36, 37, 38, 39, 40, 41, 42, 43, 44, 45, 46, 47] (by decide +kernel) (by decide +kernel)
set_option maxRecDepth 20000 in
theorem gX2_meanMiss_X2_sizeOfMiss : GoodIn wsX2_meanMiss (va_wsS RX2 38 yX2_sizeOfMiss wsX2_sizeOfMiss) := goodIn_app (goodIn_of _ (by decide +kernel)) ggX2_meanMiss_X2_sizeOfMiss
theorem dX2_meanMiss_0 : decode cX2_meanMiss 0 = .ok (.fconst 0, 1) := by decide +kernel
theorem dX2_meanMiss_1 : decode cX2_meanMiss 1 = .ok (.fstore_n 1, 1) := by decide +kernel
theorem dX2_meanMiss_2 : decode cX2_meanMiss 2 = .ok (.iconst 0, 1) := by decide +kernel
theorem dX2_meanMiss_3 : decode cX2_meanMiss 3 = .ok (.istore_n 2, 1) := by decide +kernel
theorem dX2_meanMiss_4 : decode cX2_meanMiss 4 = .ok (.iload_n 2, 1) := by decide +kernel
theorem dX2_meanMiss_5 : decode cX2_meanMiss 5 = .ok (.aload_n 0, 1) := by decide +kernel
theorem dX2_meanMiss_6 : decode cX2_meanMiss 6 = .ok (.getfield 31, 3) := by decide +kernel
theorem dX2_meanMiss_9 : decode cX2_meanMiss 9 = .ok (.if_icmp .ge 34, 3) := by decide +kernel
theorem dX2_meanMiss_12 : decode cX2_meanMiss 12 = .ok (.iconst 0, 1) := by decide +kernel
theorem dX2_meanMiss_13 : decode cX2_meanMiss 13 = .ok (.istore_n 3, 1) := by decide +kernel
theorem dX2_meanMiss_14 : decode cX2_meanMiss 14 = .ok (.iload_n 3, 1) := by decide +kernel
theorem dX2_meanMiss_15 : decode cX2_meanMiss 15 = .ok (.aload_n 0, 1) := by decide +kernel
theorem dX2_meanMiss_16 : decode cX2_meanMiss 16 = .ok (.getfield 35, 3) := by decide +kernel
theorem dX2_meanMiss_19 : decode cX2_meanMiss 19 = .ok (.if_icmp .ge 18, 3) := by decide +kernel
theorem dX2_meanMiss_22 : decode cX2_meanMiss 22 = .ok (.fload_n 1, 1) := by decide +kernel
theorem dX2_meanMiss_23 : decode cX2_meanMiss 23 = .ok (.aload_n 0, 1) := by decide +kernel
theorem dX2_meanMiss_24 : decode cX2_meanMiss 24 = .ok (.iload_n 3, 1) := by decide +kernel
theorem dX2_meanMiss_25 : decode cX2_meanMiss 25 = .ok (.iload_n 2, 1) := by decide +kernel
theorem dX2_meanMiss_26 : decode cX2_meanMiss 26 = .ok (.invokestatic 38, 3) := by decide +kernel
theorem dX2_meanMiss_29 : decode cX2_meanMiss 29 = .ok (.fadd, 1) := by decide +kernel
theorem dX2_meanMiss_30 : decode cX2_meanMiss 30 = .ok (.fstore_n 1, 1) := by decide +kernel
theorem dX2_meanMiss_31 : decode cX2_meanMiss 31 = .ok (.iinc 3 1, 3) := by decide +kernel
theorem dX2_meanMiss_34 : decode cX2_meanMiss 34 = .ok (.goto (-20), 3) := by decide +kernel
theorem dX2_meanMiss_37 : decode cX2_meanMiss 37 = .ok (.iinc 2 1, 3) := by decide +kernel
theorem dX2_meanMiss_40 : decode cX2_meanMiss 40 = .ok (.goto (-36), 3) := by decide +kernel
theorem dX2_meanMiss_43 : decode cX2_meanMiss 43 = .ok (.aload_n 0, 1) := by decide +kernel
theorem dX2_meanMiss_44 : decode cX2_meanMiss 44 = .ok (.getfield 35, 3) := by decide +kernel
theorem dX2_meanMiss_47 : decode cX2_meanMiss 47 = .ok (.aload_n 0, 1) := by decide +kernel
theorem dX2_meanMiss_48 : decode cX2_meanMiss 48 = .ok (.getfield 31, 3) := by decide +kernel
theorem dX2_meanMiss_51 : decode cX2_meanMiss 51 = .ok (.imul, 1) := by decide +kernel
theorem dX2_meanMiss_52 : decode cX2_meanMiss 52 = .ok (.istore_n 2, 1) := by decide +kernel
theorem dX2_meanMiss_53 : decode cX2_meanMiss 53 = .ok (.iload_n 2, 1) := by decide +kernel
theorem dX2_meanMiss_54 : decode cX2_meanMiss 54 = .ok (.ifCond .le 10, 3) := by decide +kernel
theorem dX2_meanMiss_57 : decode cX2_meanMiss 57 = .ok (.fload_n 1, 1) := by decide +kernel
theorem dX2_meanMiss_58 : decode cX2_meanMiss 58 = .ok (.iload_n 2, 1) := by decide +kernel
theorem dX2_meanMiss_59 : decode cX2_meanMiss 59 = .ok (.i2f, 1) := by decide +kernel
theorem dX2_meanMiss_60 : decode cX2_meanMiss 60 = .ok (.fdiv, 1) := by decide +kernel
theorem dX2_meanMiss_61 : decode cX2_meanMiss 61 = .ok (.goto 4, 3) := by decide +kernel
theorem dX2_meanMiss_64 : decode cX2_meanMiss 64 = .ok (.fconst 0, 1) := by decide +kernel
theorem dX2_meanMiss_65 : decode cX2_meanMiss 65 = .ok (.freturn, 1) := by decide +kernel
set_option maxRecDepth 20000 in
theorem ggX2_worst_X2_sizeOfMiss : GoodIn wsX2_worst wsX2_sizeOfMiss := goodIn_r _ [6, 7, 8, 9, 10, 11, 12, 13, 14, 15, 5, 16, 17, 18, 19, 20, 21, 22, 23, 24, 25, 26, 27, 28, 29, 30, 31, 32, 33, 34, 35, 36, 37, 38, 39, 40, 41, 42, 43, 44, 45, 46, 47] (by decide +kernel) (by decide +kernel)
set_option maxRecDepth 20000 in
theorem gX2_worst_X2_sizeOfMiss : GoodIn wsX2_worst (va_wsS RX2 38 yX2_sizeOfMiss wsX2_sizeOfMiss) := goodIn_app (goodIn_of _ (by decide +kernel)) ggX2_worst_X2_sizeOfMiss
theorem dX2_worst_0 : decode cX2_worst 0 = .ok (.iconst 0, 1) := by decide +kernel
theorem dX2_worst_1 : decode cX2_worst 1 = .ok (.istore_n 1, 1) := by decide +kernel
theorem dX2_worst_2 : decode cX2_worst 2 = .ok (.aload_n 0, 1) := by decide +kernel
theorem dX2_worst_3 : decode cX2_worst 3 = .ok (.iconst 0, 1) := by decide +kernel
theorem dX2_worst_4 : decode cX2_worst 4 = .ok (.iconst 0, 1) := by decide +kernel
theorem dX2_worst_5 : decode cX2_worst 5 = .ok (.invokestatic 38, 3) := by decide +kernel
theorem dX2_worst_8 : decode cX2_worst 8 = .ok (.fstore_n 2, 1) := by decide +kernel
theorem dX2_worst_9 : decode cX2_worst 9 = .ok (.iconst 0, 1) := by decide +kernel
theorem dX2_worst_10 : decode cX2_worst 10 = .ok (.istore_n 3, 1) := by decide +kernel
theorem dX2_worst_11 : decode cX2_worst 11 = .ok (.iload_n 3, 1) := by decide +kernel
theorem dX2_worst_12 : decode cX2_worst 12 = .ok (.aload_n 0, 1) := by decide +kernel
theorem dX2_worst_13 : decode cX2_worst 13 = .ok (.getfield 31, 3) := by decide +kernel
theorem dX2_worst_16 : decode cX2_worst 16 = .ok (.if_icmp .ge 54, 3) := by decide +kernel
theorem dX2_worst_19 : decode cX2_worst 19 = .ok (.iconst 0, 1) := by decide +kernel
theorem dX2_worst_20 : decode cX2_worst 20 = .ok (.istore 4, 2) := by decide +kernel
theorem dX2_worst_22 : decode cX2_worst 22 = .ok (.iload 4, 2) := by decide +kernel
theorem dX2_worst_24 : decode cX2_worst 24 = .ok (.aload_n 0, 1) := by decide +kernel
theorem dX2_worst_25 : decode cX2_worst 25 = .ok (.getfield 35, 3) := by decide +kernel
theorem dX2_worst_28 : decode cX2_worst 28 = .ok (.if_icmp .ge 36, 3) := by decide +kernel
theorem dX2_worst_31 : decode cX2_worst 31 = .ok (.aload_n 0, 1) := by decide +kernel
theorem dX2_worst_32 : decode cX2_worst 32 = .ok (.iload 4, 2) := by decide +kernel
theorem dX2_worst_34 : decode cX2_worst 34 = .ok (.iload_n 3, 1) := by decide +kernel
theorem dX2_worst_35 : decode cX2_worst 35 = .ok (.invokestatic 38, 3) := by decide +kernel
theorem dX2_worst_38 : decode cX2_worst 38 = .ok (.fstore 5, 2) := by decide +kernel
theorem dX2_worst_40 : decode cX2_worst 40 = .ok (.fload 5, 2) := by decide +kernel
theorem dX2_worst_42 : decode cX2_worst 42 = .ok (.fload_n 2, 1) := by decide +kernel
theorem dX2_worst_43 : decode cX2_worst 43 = .ok (.fcmp .l, 1) := by decide +kernel
theorem dX2_worst_44 : decode cX2_worst 44 = .ok (.ifCond .le 14, 3) := by decide +kernel
theorem dX2_worst_47 : decode cX2_worst 47 = .ok (.fload 5, 2) := by decide +kernel
theorem dX2_worst_49 : decode cX2_worst 49 = .ok (.fstore_n 2, 1) := by decide +kernel
theorem dX2_worst_50 : decode cX2_worst 50 = .ok (.iload_n 3, 1) := by decide +kernel
theorem dX2_worst_51 : decode cX2_worst 51 = .ok (.bipush 16, 2) := by decide +kernel
theorem dX2_worst_53 : decode cX2_worst 53 = .ok (.imul, 1) := by decide +kernel
theorem dX2_worst_54 : decode cX2_worst 54 = .ok (.iload 4, 2) := by decide +kernel
theorem dX2_worst_56 : decode cX2_worst 56 = .ok (.iadd, 1) := by decide +kernel
theorem dX2_worst_57 : decode cX2_worst 57 = .ok (.istore_n 1, 1) := by decide +kernel
theorem dX2_worst_58 : decode cX2_worst 58 = .ok (.iinc 4 1, 3) := by decide +kernel
theorem dX2_worst_61 : decode cX2_worst 61 = .ok (.goto (-39), 3) := by decide +kernel
theorem dX2_worst_64 : decode cX2_worst 64 = .ok (.iinc 3 1, 3) := by decide +kernel
theorem dX2_worst_67 : decode cX2_worst 67 = .ok (.goto (-56), 3) := by decide +kernel
theorem dX2_worst_70 : decode cX2_worst 70 = .ok (.iload_n 1, 1) := by decide +kernel
theorem dX2_worst_71 : decode cX2_worst 71 = .ok (.ireturn, 1) := by decide +kernel
set_option maxRecDepth 20000 in
theorem ggX2_hash_X2_glowAt : GoodIn wsX2_hash wsX2_glowAt := goodIn_r _ [6, 7, 8, 9, 10, 11, 12, 13, 14, 15, 16, 17, 22, 23, 24, 25, 26, 27, 28, 29, 30, 31] (by decide +kernel) (by decide +kernel)
set_option maxRecDepth 20000 in
theorem gX2_hash_X2_glowAt : GoodIn wsX2_hash (va_wsS RX2 17 yX2_glowAt wsX2_glowAt) := goodIn_app (goodIn_of _ (by decide +kernel)) ggX2_hash_X2_glowAt
set_option maxRecDepth 20000 in
theorem ggX2_hash_X2_bitsOf : GoodIn wsX2_hash wsX2_bitsOf := goodIn_r _ [20, 21] (by decide +kernel) (by decide +kernel)
set_option maxRecDepth 20000 in
theorem gX2_hash_X2_bitsOf : GoodIn wsX2_hash (va_wsS RX2 41 yX2_bitsOf wsX2_bitsOf) := goodIn_app (goodIn_of _ (by decide +kernel)) ggX2_hash_X2_bitsOf
theorem dX2_hash_0 : decode cX2_hash 0 = .ok (.bipush 17, 2) := by decide +kernel
theorem dX2_hash_2 : decode cX2_hash 2 = .ok (.istore_n 1, 1) := by decide +kernel
theorem dX2_hash_3 : decode cX2_hash 3 = .ok (.iconst 0, 1) := by decide +kernel
theorem dX2_hash_4 : decode cX2_hash 4 = .ok (.istore_n 2, 1) := by decide +kernel
theorem dX2_hash_5 : decode cX2_hash 5 = .ok (.iload_n 2, 1) := by decide +kernel
theorem dX2_hash_6 : decode cX2_hash 6 = .ok (.aload_n 0, 1) := by decide +kernel
theorem dX2_hash_7 : decode cX2_hash 7 = .ok (.getfield 31, 3) := by decide +kernel
theorem dX2_hash_10 : decode cX2_hash 10 = .ok (.if_icmp .ge 40, 3) := by decide +kernel
theorem dX2_hash_13 : decode cX2_hash 13 = .ok (.iconst 0, 1) := by decide +kernel
theorem dX2_hash_14 : decode cX2_hash 14 = .ok (.istore_n 3, 1) := by decide +kernel
theorem dX2_hash_15 : decode cX2_hash 15 = .ok (.iload_n 3, 1) := by decide +kernel
theorem dX2_hash_16 : decode cX2_hash 16 = .ok (.aload_n 0, 1) := by decide +kernel
theorem dX2_hash_17 : decode cX2_hash 17 = .ok (.getfield 35, 3) := by decide +kernel
theorem dX2_hash_20 : decode cX2_hash 20 = .ok (.if_icmp .ge 24, 3) := by decide +kernel
theorem dX2_hash_23 : decode cX2_hash 23 = .ok (.iload_n 1, 1) := by decide +kernel
theorem dX2_hash_24 : decode cX2_hash 24 = .ok (.bipush 31, 2) := by decide +kernel
theorem dX2_hash_26 : decode cX2_hash 26 = .ok (.imul, 1) := by decide +kernel
theorem dX2_hash_27 : decode cX2_hash 27 = .ok (.aload_n 0, 1) := by decide +kernel
theorem dX2_hash_28 : decode cX2_hash 28 = .ok (.iload_n 3, 1) := by decide +kernel
theorem dX2_hash_29 : decode cX2_hash 29 = .ok (.iload_n 2, 1) := by decide +kernel
theorem dX2_hash_30 : decode cX2_hash 30 = .ok (.invokestatic 17, 3) := by decide +kernel
theorem dX2_hash_33 : decode cX2_hash 33 = .ok (.invokestatic 41, 3) := by decide +kernel
theorem dX2_hash_36 : decode cX2_hash 36 = .ok (.iadd, 1) := by decide +kernel
theorem dX2_hash_37 : decode cX2_hash 37 = .ok (.istore_n 1, 1) := by decide +kernel
theorem dX2_hash_38 : decode cX2_hash 38 = .ok (.iinc 3 1, 3) := by decide +kernel
theorem dX2_hash_41 : decode cX2_hash 41 = .ok (.goto (-26), 3) := by decide +kernel
theorem dX2_hash_44 : decode cX2_hash 44 = .ok (.iinc 2 1, 3) := by decide +kernel
theorem dX2_hash_47 : decode cX2_hash 47 = .ok (.goto (-42), 3) := by decide +kernel
theorem dX2_hash_50 : decode cX2_hash 50 = .ok (.iload_n 1, 1) := by decide +kernel
theorem dX2_hash_51 : decode cX2_hash 51 = .ok (.ireturn, 1) := by decide +kernel
theorem dX2_bitsOf_0 : decode cX2_bitsOf 0 = .ok (.fload_n 0, 1) := by decide +kernel
theorem dX2_bitsOf_1 : decode cX2_bitsOf 1 = .ok (.fstore_n 1, 1) := by decide +kernel
theorem dX2_bitsOf_2 : decode cX2_bitsOf 2 = .ok (.bipush 127, 2) := by decide +kernel
theorem dX2_bitsOf_4 : decode cX2_bitsOf 4 = .ok (.istore_n 2, 1) := by decide +kernel
theorem dX2_bitsOf_5 : decode cX2_bitsOf 5 = .ok (.iconst 0, 1) := by decide +kernel
theorem dX2_bitsOf_6 : decode cX2_bitsOf 6 = .ok (.istore_n 3, 1) := by decide +kernel
theorem dX2_bitsOf_7 : decode cX2_bitsOf 7 = .ok (.iload_n 3, 1) := by decide +kernel
theorem dX2_bitsOf_8 : decode cX2_bitsOf 8 = .ok (.bipush 127, 2) := by decide +kernel
theorem dX2_bitsOf_10 : decode cX2_bitsOf 10 = .ok (.if_icmp .ge 22, 3) := by decide +kernel
theorem dX2_bitsOf_13 : decode cX2_bitsOf 13 = .ok (.fload_n 1, 1) := by decide +kernel
theorem dX2_bitsOf_14 : decode cX2_bitsOf 14 = .ok (.fconst 1, 1) := by decide +kernel
theorem dX2_bitsOf_15 : decode cX2_bitsOf 15 = .ok (.fcmp .g, 1) := by decide +kernel
theorem dX2_bitsOf_16 : decode cX2_bitsOf 16 = .ok (.ifCond .ge 16, 3) := by decide +kernel
theorem dX2_bitsOf_19 : decode cX2_bitsOf 19 = .ok (.fload_n 1, 1) := by decide +kernel
theorem dX2_bitsOf_20 : decode cX2_bitsOf 20 = .ok (.fconst 2, 1) := by decide +kernel
theorem dX2_bitsOf_21 : decode cX2_bitsOf 21 = .ok (.fmul, 1) := by decide +kernel
theorem dX2_bitsOf_22 : decode cX2_bitsOf 22 = .ok (.fstore_n 1, 1) := by decide +kernel
theorem dX2_bitsOf_23 : decode cX2_bitsOf 23 = .ok (.iinc 2 (-1), 3) := by decide +kernel
theorem dX2_bitsOf_26 : decode cX2_bitsOf 26 = .ok (.iinc 3 1, 3) := by decide +kernel
theorem dX2_bitsOf_29 : decode cX2_bitsOf 29 = .ok (.goto (-22), 3) := by decide +kernel
theorem dX2_bitsOf_32 : decode cX2_bitsOf 32 = .ok (.iload_n 2, 1) := by decide +kernel
theorem dX2_bitsOf_33 : decode cX2_bitsOf 33 = .ok (.bipush 23, 2) := by decide +kernel
theorem dX2_bitsOf_35 : decode cX2_bitsOf 35 = .ok (.ishl, 1) := by decide +kernel
theorem dX2_bitsOf_36 : decode cX2_bitsOf 36 = .ok (.fload_n 1, 1) := by decide +kernel
theorem dX2_bitsOf_37 : decode cX2_bitsOf 37 = .ok (.fconst 1, 1) := by decide +kernel
theorem dX2_bitsOf_38 : decode cX2_bitsOf 38 = .ok (.fsub, 1) := by decide +kernel
theorem dX2_bitsOf_39 : decode cX2_bitsOf 39 = .ok (.ldc 45, 2) := by decide +kernel
theorem dX2_bitsOf_41 : decode cX2_bitsOf 41 = .ok (.fmul, 1) := by decide +kernel
theorem dX2_bitsOf_42 : decode cX2_bitsOf 42 = .ok (.f2i, 1) := by decide +kernel
theorem dX2_bitsOf_43 : decode cX2_bitsOf 43 = .ok (.iadd, 1) := by decide +kernel
theorem dX2_bitsOf_44 : decode cX2_bitsOf 44 = .ok (.ireturn, 1) := by decide +kernel
set_option maxRecDepth 20000 in
theorem ggX2_lightest_X2_glowAt : GoodIn wsX2_lightest wsX2_glowAt := goodIn_r _ [6, 7, 8, 9, 10, 11, 12, 13, 14, 15, 16, 17, 18, 19, 20, 21, 22, 23, 24, 25, 26, 27] (by decide +kernel) (by decide +kernel)
set_option maxRecDepth 20000 in
theorem gX2_lightest_X2_glowAt : GoodIn wsX2_lightest (va_wsS RX2 17 yX2_glowAt wsX2_glowAt) := goodIn_app (goodIn_of _ (by decide +kernel)) ggX2_lightest_X2_glowAt
theorem dX2_lightest_0 : decode cX2_lightest 0 = .ok (.iconst 0, 1) := by decide +kernel
theorem dX2_lightest_1 : decode cX2_lightest 1 = .ok (.istore_n 1, 1) := by decide +kernel
theorem dX2_lightest_2 : decode cX2_lightest 2 = .ok (.aload_n 0, 1) := by decide +kernel
theorem dX2_lightest_3 : decode cX2_lightest 3 = .ok (.iconst 0, 1) := by decide +kernel
theorem dX2_lightest_4 : decode cX2_lightest 4 = .ok (.iconst 0, 1) := by decide +kernel
theorem dX2_lightest_5 : decode cX2_lightest 5 = .ok (.invokestatic 17, 3) := by decide +kernel
theorem dX2_lightest_8 : decode cX2_lightest 8 = .ok (.fstore_n 2, 1) := by decide +kernel
theorem dX2_lightest_9 : decode cX2_lightest 9 = .ok (.iconst 0, 1) := by decide +kernel
theorem dX2_lightest_10 : decode cX2_lightest 10 = .ok (.istore_n 3, 1) := by decide +kernel
theorem dX2_lightest_11 : decode cX2_lightest 11 = .ok (.iload_n 3, 1) := by decide +kernel
theorem dX2_lightest_12 : decode cX2_lightest 12 = .ok (.aload_n 0, 1) := by decide +kernel
theorem dX2_lightest_13 : decode cX2_lightest 13 = .ok (.getfield 31, 3) := by decide +kernel
theorem dX2_lightest_16 : decode cX2_lightest 16 = .ok (.if_icmp .ge 54, 3) := by decide +kernel
theorem dX2_lightest_19 : decode cX2_lightest 19 = .ok (.iconst 0, 1) := by decide +kernel
theorem dX2_lightest_20 : decode cX2_lightest 20 = .ok (.istore 4, 2) := by decide +kernel
theorem dX2_lightest_22 : decode cX2_lightest 22 = .ok (.iload 4, 2) := by decide +kernel
theorem dX2_lightest_24 : decode cX2_lightest 24 = .ok (.aload_n 0, 1) := by decide +kernel
theorem dX2_lightest_25 : decode cX2_lightest 25 = .ok (.getfield 35, 3) := by decide +kernel
theorem dX2_lightest_28 : decode cX2_lightest 28 = .ok (.if_icmp .ge 36, 3) := by decide +kernel
theorem dX2_lightest_31 : decode cX2_lightest 31 = .ok (.aload_n 0, 1) := by decide +kernel
theorem dX2_lightest_32 : decode cX2_lightest 32 = .ok (.iload 4, 2) := by decide +kernel
theorem dX2_lightest_34 : decode cX2_lightest 34 = .ok (.iload_n 3, 1) := by decide +kernel
theorem dX2_lightest_35 : decode cX2_lightest 35 = .ok (.invokestatic 17, 3) := by decide +kernel
theorem dX2_lightest_38 : decode cX2_lightest 38 = .ok (.fstore 5, 2) := by decide +kernel
theorem dX2_lightest_40 : decode cX2_lightest 40 = .ok (.fload 5, 2) := by decide +kernel
theorem dX2_lightest_42 : decode cX2_lightest 42 = .ok (.fload_n 2, 1) := by decide +kernel
theorem dX2_lightest_43 : decode cX2_lightest 43 = .ok (.fcmp .l, 1) := by decide +kernel
theorem dX2_lightest_44 : decode cX2_lightest 44 = .ok (.ifCond .le 14, 3) := by decide +kernel
theorem dX2_lightest_47 : decode cX2_lightest 47 = .ok (.fload 5, 2) := by decide +kernel
theorem dX2_lightest_49 : decode cX2_lightest 49 = .ok (.fstore_n 2, 1) := by decide +kernel
theorem dX2_lightest_50 : decode cX2_lightest 50 = .ok (.iload_n 3, 1) := by decide +kernel
theorem dX2_lightest_51 : decode cX2_lightest 51 = .ok (.bipush 16, 2) := by decide +kernel
theorem dX2_lightest_53 : decode cX2_lightest 53 = .ok (.imul, 1) := by decide +kernel
theorem dX2_lightest_54 : decode cX2_lightest 54 = .ok (.iload 4, 2) := by decide +kernel
theorem dX2_lightest_56 : decode cX2_lightest 56 = .ok (.iadd, 1) := by decide +kernel
theorem dX2_lightest_57 : decode cX2_lightest 57 = .ok (.istore_n 1, 1) := by decide +kernel
theorem dX2_lightest_58 : decode cX2_lightest 58 = .ok (.iinc 4 1, 3) := by decide +kernel
theorem dX2_lightest_61 : decode cX2_lightest 61 = .ok (.goto (-39), 3) := by decide +kernel
theorem dX2_lightest_64 : decode cX2_lightest 64 = .ok (.iinc 3 1, 3) := by decide +kernel
theorem dX2_lightest_67 : decode cX2_lightest 67 = .ok (.goto (-56), 3) := by decide +kernel
theorem dX2_lightest_70 : decode cX2_lightest 70 = .ok (.iload_n 1, 1) := by decide +kernel
theorem dX2_lightest_71 : decode cX2_lightest 71 = .ok (.ireturn, 1) := by decide +kernel
set_option maxRecDepth 20000 in
theorem ggX2_dimmestRow_X2_sumOfRow : GoodIn wsX2_dimmestRow wsX2_sumOfRow := goodIn_r _ [5, 6, 7, 8, 4, 9, 10, 11, 12, 13, 14, 15, 16, 17, 18, 19, 20, 21, 22, 23, 24, 25, 26, 27, 28, 29, 30] (by decide +kernel) (by decide +kernel)
set_option maxRecDepth 20000 in
theorem gX2_dimmestRow_X2_sumOfRow : GoodIn wsX2_dimmestRow (va_wsS RX2 46 yX2_sumOfRow wsX2_sumOfRow) := goodIn_app (goodIn_of _ (by decide +kernel)) ggX2_dimmestRow_X2_sumOfRow
theorem dX2_dimmestRow_0 : decode cX2_dimmestRow 0 = .ok (.iconst 0, 1) := by decide +kernel
theorem dX2_dimmestRow_1 : decode cX2_dimmestRow 1 = .ok (.istore_n 1, 1) := by decide +kernel
theorem dX2_dimmestRow_2 : decode cX2_dimmestRow 2 = .ok (.aload_n 0, 1) := by decide +kernel
theorem dX2_dimmestRow_3 : decode cX2_dimmestRow 3 = .ok (.iconst 0, 1) := by decide +kernel
theorem dX2_dimmestRow_4 : decode cX2_dimmestRow 4 = .ok (.invokestatic 46, 3) := by decide +kernel
theorem dX2_dimmestRow_7 : decode cX2_dimmestRow 7 = .ok (.fstore_n 2, 1) := by decide +kernel
theorem dX2_dimmestRow_8 : decode cX2_dimmestRow 8 = .ok (.iconst 1, 1) := by decide +kernel
theorem dX2_dimmestRow_9 : decode cX2_dimmestRow 9 = .ok (.istore_n 3, 1) := by decide +kernel
theorem dX2_dimmestRow_10 : decode cX2_dimmestRow 10 = .ok (.iload_n 3, 1) := by decide +kernel
theorem dX2_dimmestRow_11 : decode cX2_dimmestRow 11 = .ok (.aload_n 0, 1) := by decide +kernel
theorem dX2_dimmestRow_12 : decode cX2_dimmestRow 12 = .ok (.getfield 31, 3) := by decide +kernel
theorem dX2_dimmestRow_15 : decode cX2_dimmestRow 15 = .ok (.if_icmp .ge 28, 3) := by decide +kernel
theorem dX2_dimmestRow_18 : decode cX2_dimmestRow 18 = .ok (.aload_n 0, 1) := by decide +kernel
theorem dX2_dimmestRow_19 : decode cX2_dimmestRow 19 = .ok (.iload_n 3, 1) := by decide +kernel
theorem dX2_dimmestRow_20 : decode cX2_dimmestRow 20 = .ok (.invokestatic 46, 3) := by decide +kernel
theorem dX2_dimmestRow_23 : decode cX2_dimmestRow 23 = .ok (.fstore 4, 2) := by decide +kernel
theorem dX2_dimmestRow_25 : decode cX2_dimmestRow 25 = .ok (.fload 4, 2) := by decide +kernel
theorem dX2_dimmestRow_27 : decode cX2_dimmestRow 27 = .ok (.fload_n 2, 1) := by decide +kernel
theorem dX2_dimmestRow_28 : decode cX2_dimmestRow 28 = .ok (.fcmp .g, 1) := by decide +kernel
theorem dX2_dimmestRow_29 : decode cX2_dimmestRow 29 = .ok (.ifCond .ge 8, 3) := by decide +kernel
theorem dX2_dimmestRow_32 : decode cX2_dimmestRow 32 = .ok (.fload 4, 2) := by decide +kernel
theorem dX2_dimmestRow_34 : decode cX2_dimmestRow 34 = .ok (.fstore_n 2, 1) := by decide +kernel
theorem dX2_dimmestRow_35 : decode cX2_dimmestRow 35 = .ok (.iload_n 3, 1) := by decide +kernel
theorem dX2_dimmestRow_36 : decode cX2_dimmestRow 36 = .ok (.istore_n 1, 1) := by decide +kernel
theorem dX2_dimmestRow_37 : decode cX2_dimmestRow 37 = .ok (.iinc 3 1, 3) := by decide +kernel
theorem dX2_dimmestRow_40 : decode cX2_dimmestRow 40 = .ok (.goto (-30), 3) := by decide +kernel
theorem dX2_dimmestRow_43 : decode cX2_dimmestRow 43 = .ok (.iload_n 1, 1) := by decide +kernel
theorem dX2_dimmestRow_44 : decode cX2_dimmestRow 44 = .ok (.ireturn, 1) := by decide +kernel
set_option maxRecDepth 20000 in
theorem ggX2_sumOfRow_X2_glowAt : GoodIn wsX2_sumOfRow wsX2_glowAt := goodIn_r _ [5, 6, 7, 8, 9, 10, 11, 12, 13, 14, 15, 16, 17, 18, 19, 20, 21, 22, 23, 24, 25, 26] (by decide +kernel) (by decide +kernel)
set_option maxRecDepth 20000 in
theorem gX2_sumOfRow_X2_glowAt : GoodIn wsX2_sumOfRow (va_wsS RX2 17 yX2_glowAt wsX2_glowAt) := goodIn_app (goodIn_of _ (by decide +kernel)) ggX2_sumOfRow_X2_glowAt
theorem dX2_sumOfRow_0 : decode cX2_sumOfRow 0 = .ok (.fconst 0, 1) := by decide +kernel
theorem dX2_sumOfRow_1 : decode cX2_sumOfRow 1 = .ok (.fstore_n 2, 1) := by decide +kernel
theorem dX2_sumOfRow_2 : decode cX2_sumOfRow 2 = .ok (.iconst 0, 1) := by decide +kernel
theorem dX2_sumOfRow_3 : decode cX2_sumOfRow 3 = .ok (.istore_n 3, 1) := by decide +kernel
theorem dX2_sumOfRow_4 : decode cX2_sumOfRow 4 = .ok (.iload_n 3, 1) := by decide +kernel
theorem dX2_sumOfRow_5 : decode cX2_sumOfRow 5 = .ok (.aload_n 0, 1) := by decide +kernel
theorem dX2_sumOfRow_6 : decode cX2_sumOfRow 6 = .ok (.getfield 35, 3) := by decide +kernel
theorem dX2_sumOfRow_9 : decode cX2_sumOfRow 9 = .ok (.if_icmp .ge 18, 3) := by decide +kernel
theorem dX2_sumOfRow_12 : decode cX2_sumOfRow 12 = .ok (.fload_n 2, 1) := by decide +kernel
theorem dX2_sumOfRow_13 : decode cX2_sumOfRow 13 = .ok (.aload_n 0, 1) := by decide +kernel
theorem dX2_sumOfRow_14 : decode cX2_sumOfRow 14 = .ok (.iload_n 3, 1) := by decide +kernel
theorem dX2_sumOfRow_15 : decode cX2_sumOfRow 15 = .ok (.iload_n 1, 1) := by decide +kernel
theorem dX2_sumOfRow_16 : decode cX2_sumOfRow 16 = .ok (.invokestatic 17, 3) := by decide +kernel
theorem dX2_sumOfRow_19 : decode cX2_sumOfRow 19 = .ok (.fadd, 1) := by decide +kernel
theorem dX2_sumOfRow_20 : decode cX2_sumOfRow 20 = .ok (.fstore_n 2, 1) := by decide +kernel
theorem dX2_sumOfRow_21 : decode cX2_sumOfRow 21 = .ok (.iinc 3 1, 3) := by decide +kernel
theorem dX2_sumOfRow_24 : decode cX2_sumOfRow 24 = .ok (.goto (-20), 3) := by decide +kernel
theorem dX2_sumOfRow_27 : decode cX2_sumOfRow 27 = .ok (.fload_n 2, 1) := by decide +kernel
theorem dX2_sumOfRow_28 : decode cX2_sumOfRow 28 = .ok (.freturn, 1) := by decide +kernel
set_option maxRecDepth 20000 in
theorem ggX2_span_X2_glowAt : GoodIn wsX2_span wsX2_glowAt := goodIn_r _ [6, 7, 8, 9, 10, 11, 12, 13, 14, 15, 16, 17, 18, 19, 20, 21, 22, 23, 24, 25, 26, 27] (by decide +kernel) (by decide +kernel)
set_option maxRecDepth 20000 in
theorem gX2_span_X2_glowAt : GoodIn wsX2_span (va_wsS RX2 17 yX2_glowAt wsX2_glowAt) := goodIn_app (goodIn_of _ (by decide +kernel)) ggX2_span_X2_glowAt
theorem dX2_span_0 : decode cX2_span 0 = .ok (.aload_n 0, 1) := by decide +kernel
theorem dX2_span_1 : decode cX2_span 1 = .ok (.iconst 0, 1) := by decide +kernel
theorem dX2_span_2 : decode cX2_span 2 = .ok (.iconst 0, 1) := by decide +kernel
theorem dX2_span_3 : decode cX2_span 3 = .ok (.invokestatic 17, 3) := by decide +kernel
theorem dX2_span_6 : decode cX2_span 6 = .ok (.fstore_n 1, 1) := by decide +kernel
theorem dX2_span_7 : decode cX2_span 7 = .ok (.fload_n 1, 1) := by decide +kernel
theorem dX2_span_8 : decode cX2_span 8 = .ok (.fstore_n 2, 1) := by decide +kernel
theorem dX2_span_9 : decode cX2_span 9 = .ok (.iconst 0, 1) := by decide +kernel
theorem dX2_span_10 : decode cX2_span 10 = .ok (.istore_n 3, 1) := by decide +kernel
theorem dX2_span_11 : decode cX2_span 11 = .ok (.iload_n 3, 1) := by decide +kernel
theorem dX2_span_12 : decode cX2_span 12 = .ok (.aload_n 0, 1) := by decide +kernel
theorem dX2_span_13 : decode cX2_span 13 = .ok (.getfield 31, 3) := by decide +kernel
theorem dX2_span_16 : decode cX2_span 16 = .ok (.if_icmp .ge 64, 3) := by decide +kernel
theorem dX2_span_19 : decode cX2_span 19 = .ok (.iconst 0, 1) := by decide +kernel
theorem dX2_span_20 : decode cX2_span 20 = .ok (.istore 4, 2) := by decide +kernel
theorem dX2_span_22 : decode cX2_span 22 = .ok (.iload 4, 2) := by decide +kernel
theorem dX2_span_24 : decode cX2_span 24 = .ok (.aload_n 0, 1) := by decide +kernel
theorem dX2_span_25 : decode cX2_span 25 = .ok (.getfield 35, 3) := by decide +kernel
theorem dX2_span_28 : decode cX2_span 28 = .ok (.if_icmp .ge 46, 3) := by decide +kernel
theorem dX2_span_31 : decode cX2_span 31 = .ok (.aload_n 0, 1) := by decide +kernel
theorem dX2_span_32 : decode cX2_span 32 = .ok (.iload 4, 2) := by decide +kernel
theorem dX2_span_34 : decode cX2_span 34 = .ok (.iload_n 3, 1) := by decide +kernel
theorem dX2_span_35 : decode cX2_span 35 = .ok (.invokestatic 17, 3) := by decide +kernel
theorem dX2_span_38 : decode cX2_span 38 = .ok (.fstore 5, 2) := by decide +kernel
theorem dX2_span_40 : decode cX2_span 40 = .ok (.fload 5, 2) := by decide +kernel
theorem dX2_span_42 : decode cX2_span 42 = .ok (.fload_n 1, 1) := by decide +kernel
theorem dX2_span_43 : decode cX2_span 43 = .ok (.fcmp .l, 1) := by decide +kernel
theorem dX2_span_44 : decode cX2_span 44 = .ok (.ifCond .le 8, 3) := by decide +kernel
theorem dX2_span_47 : decode cX2_span 47 = .ok (.fload 5, 2) := by decide +kernel
theorem dX2_span_49 : decode cX2_span 49 = .ok (.goto 4, 3) := by decide +kernel
theorem dX2_span_52 : decode cX2_span 52 = .ok (.fload_n 1, 1) := by decide +kernel
theorem dX2_span_53 : decode cX2_span 53 = .ok (.fstore_n 1, 1) := by decide +kernel
theorem dX2_span_54 : decode cX2_span 54 = .ok (.fload 5, 2) := by decide +kernel
theorem dX2_span_56 : decode cX2_span 56 = .ok (.fload_n 2, 1) := by decide +kernel
theorem dX2_span_57 : decode cX2_span 57 = .ok (.fcmp .g, 1) := by decide +kernel
theorem dX2_span_58 : decode cX2_span 58 = .ok (.ifCond .ge 8, 3) := by decide +kernel
theorem dX2_span_61 : decode cX2_span 61 = .ok (.fload 5, 2) := by decide +kernel
theorem dX2_span_63 : decode cX2_span 63 = .ok (.goto 4, 3) := by decide +kernel
theorem dX2_span_66 : decode cX2_span 66 = .ok (.fload_n 2, 1) := by decide +kernel
theorem dX2_span_67 : decode cX2_span 67 = .ok (.fstore_n 2, 1) := by decide +kernel
theorem dX2_span_68 : decode cX2_span 68 = .ok (.iinc 4 1, 3) := by decide +kernel
theorem dX2_span_71 : decode cX2_span 71 = .ok (.goto (-49), 3) := by decide +kernel
theorem dX2_span_74 : decode cX2_span 74 = .ok (.iinc 3 1, 3) := by decide +kernel
theorem dX2_span_77 : decode cX2_span 77 = .ok (.goto (-66), 3) := by decide +kernel
theorem dX2_span_80 : decode cX2_span 80 = .ok (.fload_n 1, 1) := by decide +kernel
theorem dX2_span_81 : decode cX2_span 81 = .ok (.fload_n 2, 1) := by decide +kernel
theorem dX2_span_82 : decode cX2_span 82 = .ok (.fsub, 1) := by decide +kernel
theorem dX2_span_83 : decode cX2_span 83 = .ok (.freturn, 1) := by decide +kernel
set_option maxRecDepth 20000 in
theorem ggX2_spread_X5_wishAt : GoodIn wsX2_spread wsX5_wishAt := goodIn_r _ [7, 8, 9, 10, 6, 11, 12, 13, 14, 15, 16, 17, 18, 43, 44, 45, 46, 47, 48, 49, 50, 51, 52] (by decide +kernel) (by decide +kernel)
set_option maxRecDepth 20000 in
theorem gX2_spread_X5_wishAt : GoodIn wsX2_spread (wsV RX2 23 RX5 yX5_wishAt wsX5_wishAt) := goodIn_app (goodIn_of _ (by decide +kernel)) ggX2_spread_X5_wishAt
set_option maxRecDepth 20000 in
theorem ggX2_spread_X5_stepFor : GoodIn wsX2_spread wsX5_stepFor := goodIn_r _ [22, 23, 24, 25, 26, 27, 6, 28, 29, 30, 31, 32, 43, 44, 45, 46, 47, 48, 49, 50, 51, 52] (by decide +kernel) (by decide +kernel)
set_option maxRecDepth 20000 in
theorem gX2_spread_X5_stepFor : GoodIn wsX2_spread (wsV RX2 50 RX5 yX5_stepFor wsX5_stepFor) := goodIn_app (goodIn_of _ (by decide +kernel)) ggX2_spread_X5_stepFor
set_option maxRecDepth 20000 in
theorem ggX2_spread_X5_build : GoodIn wsX2_spread wsX5_build := goodIn_r _ [36, 37, 38, 39, 40, 6, 41, 12, 13, 43, 44, 45, 46, 47, 48, 49, 50, 51, 52] (by decide +kernel) (by decide +kernel)
set_option maxRecDepth 20000 in
theorem gX2_spread_X5_build : GoodIn wsX2_spread (wsV RX2 53 RX5 yX5_build wsX5_build) := goodIn_app (goodIn_of _ (by decide +kernel)) ggX2_spread_X5_build
set_option maxRecDepth 20000 in
theorem ggX2_spread_X5_lightOf : GoodIn wsX2_spread wsX5_lightOf := goodIn_r _ [28, 29, 43, 44, 45, 46, 47, 48, 49, 50, 51, 52] (by decide +kernel) (by decide +kernel)
set_option maxRecDepth 20000 in
theorem gX2_spread_X5_lightOf : GoodIn wsX2_spread (wsV RX2 57 RX5 yX5_lightOf wsX5_lightOf) := goodIn_app (goodIn_of _ (by decide +kernel)) ggX2_spread_X5_lightOf
theorem dX2_spread_0 : decode cX2_spread 0 = .ok (.iconst 0, 1) := by decide +kernel
theorem dX2_spread_1 : decode cX2_spread 1 = .ok (.istore_n 1, 1) := by decide +kernel
theorem dX2_spread_2 : decode cX2_spread 2 = .ok (.iconst 0, 1) := by decide +kernel
theorem dX2_spread_3 : decode cX2_spread 3 = .ok (.istore_n 2, 1) := by decide +kernel
theorem dX2_spread_4 : decode cX2_spread 4 = .ok (.iload_n 2, 1) := by decide +kernel
theorem dX2_spread_5 : decode cX2_spread 5 = .ok (.aload_n 0, 1) := by decide +kernel
theorem dX2_spread_6 : decode cX2_spread 6 = .ok (.getfield 31, 3) := by decide +kernel
theorem dX2_spread_9 : decode cX2_spread 9 = .ok (.if_icmp .ge 70, 3) := by decide +kernel
theorem dX2_spread_12 : decode cX2_spread 12 = .ok (.fconst 0, 1) := by decide +kernel
theorem dX2_spread_13 : decode cX2_spread 13 = .ok (.fstore_n 3, 1) := by decide +kernel
theorem dX2_spread_14 : decode cX2_spread 14 = .ok (.iconst 0, 1) := by decide +kernel
theorem dX2_spread_15 : decode cX2_spread 15 = .ok (.istore 4, 2) := by decide +kernel
theorem dX2_spread_17 : decode cX2_spread 17 = .ok (.iload 4, 2) := by decide +kernel
theorem dX2_spread_19 : decode cX2_spread 19 = .ok (.aload_n 0, 1) := by decide +kernel
theorem dX2_spread_20 : decode cX2_spread 20 = .ok (.getfield 35, 3) := by decide +kernel
theorem dX2_spread_23 : decode cX2_spread 23 = .ok (.if_icmp .ge 50, 3) := by decide +kernel
theorem dX2_spread_26 : decode cX2_spread 26 = .ok (.aload_n 0, 1) := by decide +kernel
theorem dX2_spread_27 : decode cX2_spread 27 = .ok (.iload 4, 2) := by decide +kernel
theorem dX2_spread_29 : decode cX2_spread 29 = .ok (.iload_n 2, 1) := by decide +kernel
theorem dX2_spread_30 : decode cX2_spread 30 = .ok (.invokevirtual 23, 3) := by decide +kernel
theorem dX2_spread_33 : decode cX2_spread 33 = .ok (.fload_n 3, 1) := by decide +kernel
theorem dX2_spread_34 : decode cX2_spread 34 = .ok (.fadd, 1) := by decide +kernel
theorem dX2_spread_35 : decode cX2_spread 35 = .ok (.fstore 5, 2) := by decide +kernel
theorem dX2_spread_37 : decode cX2_spread 37 = .ok (.aload_n 0, 1) := by decide +kernel
theorem dX2_spread_38 : decode cX2_spread 38 = .ok (.fload 5, 2) := by decide +kernel
theorem dX2_spread_40 : decode cX2_spread 40 = .ok (.invokevirtual 50, 3) := by decide +kernel
theorem dX2_spread_43 : decode cX2_spread 43 = .ok (.istore 6, 2) := by decide +kernel
theorem dX2_spread_45 : decode cX2_spread 45 = .ok (.iload_n 1, 1) := by decide +kernel
theorem dX2_spread_46 : decode cX2_spread 46 = .ok (.aload_n 0, 1) := by decide +kernel
theorem dX2_spread_47 : decode cX2_spread 47 = .ok (.iload 4, 2) := by decide +kernel
theorem dX2_spread_49 : decode cX2_spread 49 = .ok (.iload_n 2, 1) := by decide +kernel
theorem dX2_spread_50 : decode cX2_spread 50 = .ok (.iload 6, 2) := by decide +kernel
theorem dX2_spread_52 : decode cX2_spread 52 = .ok (.invokevirtual 53, 3) := by decide +kernel
theorem dX2_spread_55 : decode cX2_spread 55 = .ok (.iadd, 1) := by decide +kernel
theorem dX2_spread_56 : decode cX2_spread 56 = .ok (.istore_n 1, 1) := by decide +kernel
theorem dX2_spread_57 : decode cX2_spread 57 = .ok (.fload 5, 2) := by decide +kernel
theorem dX2_spread_59 : decode cX2_spread 59 = .ok (.aload_n 0, 1) := by decide +kernel
theorem dX2_spread_60 : decode cX2_spread 60 = .ok (.iload 6, 2) := by decide +kernel
theorem dX2_spread_62 : decode cX2_spread 62 = .ok (.invokevirtual 57, 3) := by decide +kernel
theorem dX2_spread_65 : decode cX2_spread 65 = .ok (.fsub, 1) := by decide +kernel
theorem dX2_spread_66 : decode cX2_spread 66 = .ok (.fstore_n 3, 1) := by decide +kernel
theorem dX2_spread_67 : decode cX2_spread 67 = .ok (.iinc 4 1, 3) := by decide +kernel
theorem dX2_spread_70 : decode cX2_spread 70 = .ok (.goto (-53), 3) := by decide +kernel
theorem dX2_spread_73 : decode cX2_spread 73 = .ok (.iinc 2 1, 3) := by decide +kernel
theorem dX2_spread_76 : decode cX2_spread 76 = .ok (.goto (-72), 3) := by decide +kernel
theorem dX2_spread_79 : decode cX2_spread 79 = .ok (.iload_n 1, 1) := by decide +kernel
theorem dX2_spread_80 : decode cX2_spread 80 = .ok (.ireturn, 1) := by decide +kernel
set_option maxRecDepth 20000 in
theorem ggX2_refine_X2_refineCell : GoodIn wsX2_refine wsX2_refineCell := goodIn_r _ [6, 7, 8, 9, 10, 11, 12, 13, 14, 15, 16, 17, 18, 19, 20, 21, 22, 23, 24, 25, 26, 27, 28, 29, 30, 31, 32, 33, 5, 34, 35, 36, 37, 38, 39, 40, 41, 42, 43, 44, 45, 46, 47, 48, 49, 50, 51, 52, 53, 54, 55, 56, 57, 58, 59, 60, 61, 62, 63, 64, 65, 66, 67, 68] (by decide +kernel) (by decide +kernel)
set_option maxRecDepth 20000 in
theorem gX2_refine_X2_refineCell : GoodIn wsX2_refine (va_wsS RX2 61 yX2_refineCell wsX2_refineCell) := goodIn_app (goodIn_of _ (by decide +kernel)) ggX2_refine_X2_refineCell
theorem dX2_refine_0 : decode cX2_refine 0 = .ok (.iconst 0, 1) := by decide +kernel
theorem dX2_refine_1 : decode cX2_refine 1 = .ok (.istore_n 1, 1) := by decide +kernel
theorem dX2_refine_2 : decode cX2_refine 2 = .ok (.iconst 0, 1) := by decide +kernel
theorem dX2_refine_3 : decode cX2_refine 3 = .ok (.istore_n 2, 1) := by decide +kernel
theorem dX2_refine_4 : decode cX2_refine 4 = .ok (.iload_n 2, 1) := by decide +kernel
theorem dX2_refine_5 : decode cX2_refine 5 = .ok (.aload_n 0, 1) := by decide +kernel
theorem dX2_refine_6 : decode cX2_refine 6 = .ok (.getfield 31, 3) := by decide +kernel
theorem dX2_refine_9 : decode cX2_refine 9 = .ok (.if_icmp .ge 34, 3) := by decide +kernel
theorem dX2_refine_12 : decode cX2_refine 12 = .ok (.iconst 0, 1) := by decide +kernel
theorem dX2_refine_13 : decode cX2_refine 13 = .ok (.istore_n 3, 1) := by decide +kernel
theorem dX2_refine_14 : decode cX2_refine 14 = .ok (.iload_n 3, 1) := by decide +kernel
theorem dX2_refine_15 : decode cX2_refine 15 = .ok (.aload_n 0, 1) := by decide +kernel
theorem dX2_refine_16 : decode cX2_refine 16 = .ok (.getfield 35, 3) := by decide +kernel
theorem dX2_refine_19 : decode cX2_refine 19 = .ok (.if_icmp .ge 18, 3) := by decide +kernel
theorem dX2_refine_22 : decode cX2_refine 22 = .ok (.iload_n 1, 1) := by decide +kernel
theorem dX2_refine_23 : decode cX2_refine 23 = .ok (.aload_n 0, 1) := by decide +kernel
theorem dX2_refine_24 : decode cX2_refine 24 = .ok (.iload_n 3, 1) := by decide +kernel
theorem dX2_refine_25 : decode cX2_refine 25 = .ok (.iload_n 2, 1) := by decide +kernel
theorem dX2_refine_26 : decode cX2_refine 26 = .ok (.invokestatic 61, 3) := by decide +kernel
theorem dX2_refine_29 : decode cX2_refine 29 = .ok (.iadd, 1) := by decide +kernel
theorem dX2_refine_30 : decode cX2_refine 30 = .ok (.istore_n 1, 1) := by decide +kernel
theorem dX2_refine_31 : decode cX2_refine 31 = .ok (.iinc 3 1, 3) := by decide +kernel
theorem dX2_refine_34 : decode cX2_refine 34 = .ok (.goto (-20), 3) := by decide +kernel
theorem dX2_refine_37 : decode cX2_refine 37 = .ok (.iinc 2 1, 3) := by decide +kernel
theorem dX2_refine_40 : decode cX2_refine 40 = .ok (.goto (-36), 3) := by decide +kernel
theorem dX2_refine_43 : decode cX2_refine 43 = .ok (.iload_n 1, 1) := by decide +kernel
theorem dX2_refine_44 : decode cX2_refine 44 = .ok (.ireturn, 1) := by decide +kernel
set_option maxRecDepth 20000 in
theorem ggX2_refineCell_X5_heightAt : GoodIn wsX2_refineCell wsX5_heightAt := goodIn_r _ [14, 15, 16, 17, 54, 55, 56, 57, 58, 59, 60, 61, 62, 63] (by decide +kernel) (by decide +kernel)
set_option maxRecDepth 20000 in
theorem gX2_refineCell_X5_heightAt : GoodIn wsX2_refineCell (wsV RX2 65 RX5 yX5_heightAt wsX5_heightAt) := goodIn_app (goodIn_of _ (by decide +kernel)) ggX2_refineCell_X5_heightAt
set_option maxRecDepth 20000 in
theorem ggX2_refineCell_X5_build : GoodIn wsX2_refineCell wsX5_build := goodIn_r _ [21, 17, 22, 23, 24, 13, 25, 15, 16, 54, 55, 56, 57, 58, 59, 60, 61, 62, 63] (by decide +kernel) (by decide +kernel)
set_option maxRecDepth 20000 in
theorem gX2_refineCell_X5_build : GoodIn wsX2_refineCell (wsV RX2 53 RX5 yX5_build wsX5_build) := goodIn_app (goodIn_of _ (by decide +kernel)) ggX2_refineCell_X5_build
set_option maxRecDepth 20000 in
theorem ggX2_refineCell_X2_sizeOfMiss : GoodIn wsX2_refineCell wsX2_sizeOfMiss := goodIn_r _ [29, 30, 23, 24, 13, 25, 15, 16, 31, 32, 28, 33, 34, 35, 36, 37, 38, 39, 17, 40, 41, 42, 43, 44, 45, 46, 47, 48, 49, 50, 51, 52, 53, 54, 55, 56, 57, 58, 59, 60, 61, 62, 63] (by decide +kernel) (by decide +kernel)
set_option maxRecDepth 20000 in
theorem gX2_refineCell_X2_sizeOfMiss : GoodIn wsX2_refineCell (va_wsS RX2 38 yX2_sizeOfMiss wsX2_sizeOfMiss) := goodIn_app (goodIn_of _ (by decide +kernel)) ggX2_refineCell_X2_sizeOfMiss
theorem dX2_refineCell_0 : decode cX2_refineCell 0 = .ok (.aload_n 0, 1) := by decide +kernel
theorem dX2_refineCell_1 : decode cX2_refineCell 1 = .ok (.iload_n 1, 1) := by decide +kernel
theorem dX2_refineCell_2 : decode cX2_refineCell 2 = .ok (.iload_n 2, 1) := by decide +kernel
theorem dX2_refineCell_3 : decode cX2_refineCell 3 = .ok (.invokevirtual 65, 3) := by decide +kernel
theorem dX2_refineCell_6 : decode cX2_refineCell 6 = .ok (.istore_n 3, 1) := by decide +kernel
theorem dX2_refineCell_7 : decode cX2_refineCell 7 = .ok (.iload_n 3, 1) := by decide +kernel
theorem dX2_refineCell_8 : decode cX2_refineCell 8 = .ok (.iconst 1, 1) := by decide +kernel
theorem dX2_refineCell_9 : decode cX2_refineCell 9 = .ok (.isub, 1) := by decide +kernel
theorem dX2_refineCell_10 : decode cX2_refineCell 10 = .ok (.aload_n 0, 1) := by decide +kernel
theorem dX2_refineCell_11 : decode cX2_refineCell 11 = .ok (.getfield 69, 3) := by decide +kernel
theorem dX2_refineCell_14 : decode cX2_refineCell 14 = .ok (.invokestatic 72, 3) := by decide +kernel
theorem dX2_refineCell_17 : decode cX2_refineCell 17 = .ok (.istore 4, 2) := by decide +kernel
theorem dX2_refineCell_19 : decode cX2_refineCell 19 = .ok (.iload_n 3, 1) := by decide +kernel
theorem dX2_refineCell_20 : decode cX2_refineCell 20 = .ok (.iconst 1, 1) := by decide +kernel
theorem dX2_refineCell_21 : decode cX2_refineCell 21 = .ok (.iadd, 1) := by decide +kernel
theorem dX2_refineCell_22 : decode cX2_refineCell 22 = .ok (.aload_n 0, 1) := by decide +kernel
theorem dX2_refineCell_23 : decode cX2_refineCell 23 = .ok (.getfield 77, 3) := by decide +kernel
theorem dX2_refineCell_26 : decode cX2_refineCell 26 = .ok (.invokestatic 80, 3) := by decide +kernel
theorem dX2_refineCell_29 : decode cX2_refineCell 29 = .ok (.istore 5, 2) := by decide +kernel
theorem dX2_refineCell_31 : decode cX2_refineCell 31 = .ok (.iload 4, 2) := by decide +kernel
theorem dX2_refineCell_33 : decode cX2_refineCell 33 = .ok (.istore 6, 2) := by decide +kernel
theorem dX2_refineCell_35 : decode cX2_refineCell 35 = .ok (.fconst 0, 1) := by decide +kernel
theorem dX2_refineCell_36 : decode cX2_refineCell 36 = .ok (.fstore 7, 2) := by decide +kernel
theorem dX2_refineCell_38 : decode cX2_refineCell 38 = .ok (.iload 4, 2) := by decide +kernel
theorem dX2_refineCell_40 : decode cX2_refineCell 40 = .ok (.istore 8, 2) := by decide +kernel
theorem dX2_refineCell_42 : decode cX2_refineCell 42 = .ok (.iload 8, 2) := by decide +kernel
theorem dX2_refineCell_44 : decode cX2_refineCell 44 = .ok (.iload 5, 2) := by decide +kernel
theorem dX2_refineCell_46 : decode cX2_refineCell 46 = .ok (.if_icmp .gt 107, 3) := by decide +kernel
theorem dX2_refineCell_49 : decode cX2_refineCell 49 = .ok (.aload_n 0, 1) := by decide +kernel
theorem dX2_refineCell_50 : decode cX2_refineCell 50 = .ok (.iload_n 1, 1) := by decide +kernel
theorem dX2_refineCell_51 : decode cX2_refineCell 51 = .ok (.iload_n 2, 1) := by decide +kernel
theorem dX2_refineCell_52 : decode cX2_refineCell 52 = .ok (.iload 8, 2) := by decide +kernel
theorem dX2_refineCell_54 : decode cX2_refineCell 54 = .ok (.invokevirtual 53, 3) := by decide +kernel
theorem dX2_refineCell_57 : decode cX2_refineCell 57 = .ok (.pop, 1) := by decide +kernel
theorem dX2_refineCell_58 : decode cX2_refineCell 58 = .ok (.fconst 0, 1) := by decide +kernel
theorem dX2_refineCell_59 : decode cX2_refineCell 59 = .ok (.fstore 9, 2) := by decide +kernel
theorem dX2_refineCell_61 : decode cX2_refineCell 61 = .ok (.fload 9, 2) := by decide +kernel
theorem dX2_refineCell_63 : decode cX2_refineCell 63 = .ok (.aload_n 0, 1) := by decide +kernel
theorem dX2_refineCell_64 : decode cX2_refineCell 64 = .ok (.iload_n 1, 1) := by decide +kernel
theorem dX2_refineCell_65 : decode cX2_refineCell 65 = .ok (.iload_n 2, 1) := by decide +kernel
theorem dX2_refineCell_66 : decode cX2_refineCell 66 = .ok (.invokestatic 38, 3) := by decide +kernel
theorem dX2_refineCell_69 : decode cX2_refineCell 69 = .ok (.fadd, 1) := by decide +kernel
theorem dX2_refineCell_70 : decode cX2_refineCell 70 = .ok (.fstore 9, 2) := by decide +kernel
theorem dX2_refineCell_72 : decode cX2_refineCell 72 = .ok (.fload 9, 2) := by decide +kernel
theorem dX2_refineCell_74 : decode cX2_refineCell 74 = .ok (.aload_n 0, 1) := by decide +kernel
theorem dX2_refineCell_75 : decode cX2_refineCell 75 = .ok (.iload_n 1, 1) := by decide +kernel
theorem dX2_refineCell_76 : decode cX2_refineCell 76 = .ok (.iconst 1, 1) := by decide +kernel
theorem dX2_refineCell_77 : decode cX2_refineCell 77 = .ok (.isub, 1) := by decide +kernel
theorem dX2_refineCell_78 : decode cX2_refineCell 78 = .ok (.iload_n 2, 1) := by decide +kernel
theorem dX2_refineCell_79 : decode cX2_refineCell 79 = .ok (.invokestatic 38, 3) := by decide +kernel
theorem dX2_refineCell_82 : decode cX2_refineCell 82 = .ok (.fadd, 1) := by decide +kernel
theorem dX2_refineCell_83 : decode cX2_refineCell 83 = .ok (.fstore 9, 2) := by decide +kernel
theorem dX2_refineCell_85 : decode cX2_refineCell 85 = .ok (.fload 9, 2) := by decide +kernel
theorem dX2_refineCell_87 : decode cX2_refineCell 87 = .ok (.aload_n 0, 1) := by decide +kernel
theorem dX2_refineCell_88 : decode cX2_refineCell 88 = .ok (.iload_n 1, 1) := by decide +kernel
theorem dX2_refineCell_89 : decode cX2_refineCell 89 = .ok (.iconst 1, 1) := by decide +kernel
theorem dX2_refineCell_90 : decode cX2_refineCell 90 = .ok (.iadd, 1) := by decide +kernel
theorem dX2_refineCell_91 : decode cX2_refineCell 91 = .ok (.iload_n 2, 1) := by decide +kernel
theorem dX2_refineCell_92 : decode cX2_refineCell 92 = .ok (.invokestatic 38, 3) := by decide +kernel
theorem dX2_refineCell_95 : decode cX2_refineCell 95 = .ok (.fadd, 1) := by decide +kernel
theorem dX2_refineCell_96 : decode cX2_refineCell 96 = .ok (.fstore 9, 2) := by decide +kernel
theorem dX2_refineCell_98 : decode cX2_refineCell 98 = .ok (.fload 9, 2) := by decide +kernel
theorem dX2_refineCell_100 : decode cX2_refineCell 100 = .ok (.aload_n 0, 1) := by decide +kernel
theorem dX2_refineCell_101 : decode cX2_refineCell 101 = .ok (.iload_n 1, 1) := by decide +kernel
theorem dX2_refineCell_102 : decode cX2_refineCell 102 = .ok (.iload_n 2, 1) := by decide +kernel
theorem dX2_refineCell_103 : decode cX2_refineCell 103 = .ok (.iconst 1, 1) := by decide +kernel
theorem dX2_refineCell_104 : decode cX2_refineCell 104 = .ok (.isub, 1) := by decide +kernel
theorem dX2_refineCell_105 : decode cX2_refineCell 105 = .ok (.invokestatic 38, 3) := by decide +kernel
theorem dX2_refineCell_108 : decode cX2_refineCell 108 = .ok (.fadd, 1) := by decide +kernel
theorem dX2_refineCell_109 : decode cX2_refineCell 109 = .ok (.fstore 9, 2) := by decide +kernel
theorem dX2_refineCell_111 : decode cX2_refineCell 111 = .ok (.fload 9, 2) := by decide +kernel
theorem dX2_refineCell_113 : decode cX2_refineCell 113 = .ok (.aload_n 0, 1) := by decide +kernel
theorem dX2_refineCell_114 : decode cX2_refineCell 114 = .ok (.iload_n 1, 1) := by decide +kernel
theorem dX2_refineCell_115 : decode cX2_refineCell 115 = .ok (.iload_n 2, 1) := by decide +kernel
theorem dX2_refineCell_116 : decode cX2_refineCell 116 = .ok (.iconst 1, 1) := by decide +kernel
theorem dX2_refineCell_117 : decode cX2_refineCell 117 = .ok (.iadd, 1) := by decide +kernel
theorem dX2_refineCell_118 : decode cX2_refineCell 118 = .ok (.invokestatic 38, 3) := by decide +kernel
theorem dX2_refineCell_121 : decode cX2_refineCell 121 = .ok (.fadd, 1) := by decide +kernel
theorem dX2_refineCell_122 : decode cX2_refineCell 122 = .ok (.fstore 9, 2) := by decide +kernel
theorem dX2_refineCell_124 : decode cX2_refineCell 124 = .ok (.iload 8, 2) := by decide +kernel
theorem dX2_refineCell_126 : decode cX2_refineCell 126 = .ok (.iload 4, 2) := by decide +kernel
theorem dX2_refineCell_128 : decode cX2_refineCell 128 = .ok (.if_icmp .eq 11, 3) := by decide +kernel
theorem dX2_refineCell_131 : decode cX2_refineCell 131 = .ok (.fload 9, 2) := by decide +kernel
theorem dX2_refineCell_133 : decode cX2_refineCell 133 = .ok (.fload 7, 2) := by decide +kernel
theorem dX2_refineCell_135 : decode cX2_refineCell 135 = .ok (.fcmp .g, 1) := by decide +kernel
theorem dX2_refineCell_136 : decode cX2_refineCell 136 = .ok (.ifCond .ge 11, 3) := by decide +kernel
theorem dX2_refineCell_139 : decode cX2_refineCell 139 = .ok (.fload 9, 2) := by decide +kernel
theorem dX2_refineCell_141 : decode cX2_refineCell 141 = .ok (.fstore 7, 2) := by decide +kernel
theorem dX2_refineCell_143 : decode cX2_refineCell 143 = .ok (.iload 8, 2) := by decide +kernel
theorem dX2_refineCell_145 : decode cX2_refineCell 145 = .ok (.istore 6, 2) := by decide +kernel
theorem dX2_refineCell_147 : decode cX2_refineCell 147 = .ok (.iinc 8 1, 3) := by decide +kernel
theorem dX2_refineCell_150 : decode cX2_refineCell 150 = .ok (.goto (-108), 3) := by decide +kernel
theorem dX2_refineCell_153 : decode cX2_refineCell 153 = .ok (.aload_n 0, 1) := by decide +kernel
theorem dX2_refineCell_154 : decode cX2_refineCell 154 = .ok (.iload_n 1, 1) := by decide +kernel
theorem dX2_refineCell_155 : decode cX2_refineCell 155 = .ok (.iload_n 2, 1) := by decide +kernel
theorem dX2_refineCell_156 : decode cX2_refineCell 156 = .ok (.iload 6, 2) := by decide +kernel
theorem dX2_refineCell_158 : decode cX2_refineCell 158 = .ok (.invokevirtual 53, 3) := by decide +kernel
theorem dX2_refineCell_161 : decode cX2_refineCell 161 = .ok (.pop, 1) := by decide +kernel
theorem dX2_refineCell_162 : decode cX2_refineCell 162 = .ok (.iload 6, 2) := by decide +kernel
theorem dX2_refineCell_164 : decode cX2_refineCell 164 = .ok (.iload_n 3, 1) := by decide +kernel
theorem dX2_refineCell_165 : decode cX2_refineCell 165 = .ok (.if_icmp .ne 7, 3) := by decide +kernel
theorem dX2_refineCell_168 : decode cX2_refineCell 168 = .ok (.iconst 0, 1) := by decide +kernel
theorem dX2_refineCell_169 : decode cX2_refineCell 169 = .ok (.goto 4, 3) := by decide +kernel
theorem dX2_refineCell_172 : decode cX2_refineCell 172 = .ok (.iconst 1, 1) := by decide +kernel
theorem dX2_refineCell_173 : decode cX2_refineCell 173 = .ok (.ireturn, 1) := by decide +kernel
set_option maxRecDepth 20000 in
theorem ggX3_init_X5_init : GoodIn wsX3_init wsX5_init := goodIn_r _ [10, 11, 2, 3, 12, 13, 14, 15, 16, 17, 18, 19, 7, 20, 21, 22, 23, 24, 25, 26, 27, 28, 29, 30, 31, 32, 33, 34, 35, 36, 37, 38, 39, 40, 41, 42, 43, 44, 45, 46, 47, 48, 49, 50, 51, 52, 53, 54, 55, 56, 57, 58, 59, 60, 61, 62, 63, 64, 65, 66, 67, 68, 69, 70, 71, 75, 76, 77, 78, 79, 80, 81, 82, 83, 84] (by decide +kernel) (by decide +kernel)
set_option maxRecDepth 20000 in
theorem gX3_init_X5_init : GoodIn wsX3_init (wsX5_init) := ggX3_init_X5_init
theorem dX3_init_0 : decode cX3_init 0 = .ok (.aload_n 0, 1) := by decide +kernel
theorem dX3_init_1 : decode cX3_init 1 = .ok (.invokespecial 3, 3) := by decide +kernel
theorem dX3_init_4 : decode cX3_init 4 = .ok (.aload_n 0, 1) := by decide +kernel
theorem dX3_init_5 : decode cX3_init 5 = .ok (.bipush 7, 2) := by decide +kernel
theorem dX3_init_7 : decode cX3_init 7 = .ok (.anewarray 9, 3) := by decide +kernel
theorem dX3_init_10 : decode cX3_init 10 = .ok (.putfield 11, 3) := by decide +kernel
theorem dX3_init_13 : decode cX3_init 13 = .ok (.iconst 0, 1) := by decide +kernel
theorem dX3_init_14 : decode cX3_init 14 = .ok (.istore_n 1, 1) := by decide +kernel
theorem dX3_init_15 : decode cX3_init 15 = .ok (.iload_n 1, 1) := by decide +kernel
theorem dX3_init_16 : decode cX3_init 16 = .ok (.bipush 7, 2) := by decide +kernel
theorem dX3_init_18 : decode cX3_init 18 = .ok (.if_icmp .ge 22, 3) := by decide +kernel
theorem dX3_init_21 : decode cX3_init 21 = .ok (.aload_n 0, 1) := by decide +kernel
theorem dX3_init_22 : decode cX3_init 22 = .ok (.getfield 11, 3) := by decide +kernel
theorem dX3_init_25 : decode cX3_init 25 = .ok (.iload_n 1, 1) := by decide +kernel
theorem dX3_init_26 : decode cX3_init 26 = .ok (.new 9, 3) := by decide +kernel
theorem dX3_init_29 : decode cX3_init 29 = .ok (.dup, 1) := by decide +kernel
theorem dX3_init_30 : decode cX3_init 30 = .ok (.invokespecial 15, 3) := by decide +kernel
theorem dX3_init_33 : decode cX3_init 33 = .ok (.aastore, 1) := by decide +kernel
theorem dX3_init_34 : decode cX3_init 34 = .ok (.iinc 1 1, 3) := by decide +kernel
theorem dX3_init_37 : decode cX3_init 37 = .ok (.goto (-22), 3) := by decide +kernel
theorem dX3_init_40 : decode cX3_init 40 = .ok (.return_, 1) := by decide +kernel
set_option maxRecDepth 20000 in
theorem ggX3_open_X5_copyFrom : GoodIn wsX3_open wsX5_copyFrom := goodIn_r _ [7, 8, 9, 10, 11, 12, 13, 14, 15, 16, 17, 18, 19, 20, 21, 22, 23, 6, 24, 25, 29, 30, 31, 32, 33, 34, 35, 36, 37, 38] (by decide +kernel) (by decide +kernel)
set_option maxRecDepth 20000 in
theorem gX3_open_X5_copyFrom : GoodIn wsX3_open (wsV RX3 20 RX5 yX5_copyFrom wsX5_copyFrom) := goodIn_app (goodIn_of _ (by decide +kernel)) ggX3_open_X5_copyFrom
theorem dX3_open_0 : decode cX3_open 0 = .ok (.aload_n 0, 1) := by decide +kernel
theorem dX3_open_1 : decode cX3_open 1 = .ok (.getfield 16, 3) := by decide +kernel
theorem dX3_open_4 : decode cX3_open 4 = .ok (.ifCond .lt 25, 3) := by decide +kernel
theorem dX3_open_7 : decode cX3_open 7 = .ok (.aload_n 0, 1) := by decide +kernel
theorem dX3_open_8 : decode cX3_open 8 = .ok (.getfield 16, 3) := by decide +kernel
theorem dX3_open_11 : decode cX3_open 11 = .ok (.bipush 7, 2) := by decide +kernel
theorem dX3_open_13 : decode cX3_open 13 = .ok (.if_icmp .ge 16, 3) := by decide +kernel
theorem dX3_open_16 : decode cX3_open 16 = .ok (.aload_n 0, 1) := by decide +kernel
theorem dX3_open_17 : decode cX3_open 17 = .ok (.getfield 11, 3) := by decide +kernel
theorem dX3_open_20 : decode cX3_open 20 = .ok (.aload_n 0, 1) := by decide +kernel
theorem dX3_open_21 : decode cX3_open 21 = .ok (.getfield 16, 3) := by decide +kernel
theorem dX3_open_24 : decode cX3_open 24 = .ok (.aaload, 1) := by decide +kernel
theorem dX3_open_25 : decode cX3_open 25 = .ok (.aload_n 1, 1) := by decide +kernel
theorem dX3_open_26 : decode cX3_open 26 = .ok (.invokevirtual 20, 3) := by decide +kernel
theorem dX3_open_29 : decode cX3_open 29 = .ok (.return_, 1) := by decide +kernel
set_option maxRecDepth 20000 in
theorem ggX3_close_X5_looksLike : GoodIn wsX3_close wsX5_looksLike := goodIn_r _ [12, 13, 14, 15, 16, 17, 11, 18, 19, 20, 21, 22, 23, 24, 28, 29, 30, 31, 32, 33, 34, 35, 36, 37] (by decide +kernel) (by decide +kernel)
set_option maxRecDepth 20000 in
theorem gX3_close_X5_looksLike : GoodIn wsX3_close (wsV RX3 24 RX5 yX5_looksLike wsX5_looksLike) := goodIn_app (goodIn_of _ (by decide +kernel)) ggX3_close_X5_looksLike
theorem dX3_close_0 : decode cX3_close 0 = .ok (.aload_n 0, 1) := by decide +kernel
theorem dX3_close_1 : decode cX3_close 1 = .ok (.getfield 16, 3) := by decide +kernel
theorem dX3_close_4 : decode cX3_close 4 = .ok (.ifCond .lt 56, 3) := by decide +kernel
theorem dX3_close_7 : decode cX3_close 7 = .ok (.aload_n 0, 1) := by decide +kernel
theorem dX3_close_8 : decode cX3_close 8 = .ok (.getfield 16, 3) := by decide +kernel
theorem dX3_close_11 : decode cX3_close 11 = .ok (.bipush 7, 2) := by decide +kernel
theorem dX3_close_13 : decode cX3_close 13 = .ok (.if_icmp .ge 47, 3) := by decide +kernel
theorem dX3_close_16 : decode cX3_close 16 = .ok (.aload_n 1, 1) := by decide +kernel
theorem dX3_close_17 : decode cX3_close 17 = .ok (.aload_n 0, 1) := by decide +kernel
theorem dX3_close_18 : decode cX3_close 18 = .ok (.getfield 11, 3) := by decide +kernel
theorem dX3_close_21 : decode cX3_close 21 = .ok (.aload_n 0, 1) := by decide +kernel
theorem dX3_close_22 : decode cX3_close 22 = .ok (.getfield 16, 3) := by decide +kernel
theorem dX3_close_25 : decode cX3_close 25 = .ok (.aaload, 1) := by decide +kernel
theorem dX3_close_26 : decode cX3_close 26 = .ok (.invokevirtual 24, 3) := by decide +kernel
theorem dX3_close_29 : decode cX3_close 29 = .ok (.ifCond .ne 31, 3) := by decide +kernel
theorem dX3_close_32 : decode cX3_close 32 = .ok (.aload_n 0, 1) := by decide +kernel
theorem dX3_close_33 : decode cX3_close 33 = .ok (.aload_n 0, 1) := by decide +kernel
theorem dX3_close_34 : decode cX3_close 34 = .ok (.getfield 16, 3) := by decide +kernel
theorem dX3_close_37 : decode cX3_close 37 = .ok (.iconst 1, 1) := by decide +kernel
theorem dX3_close_38 : decode cX3_close 38 = .ok (.iadd, 1) := by decide +kernel
theorem dX3_close_39 : decode cX3_close 39 = .ok (.bipush 7, 2) := by decide +kernel
theorem dX3_close_41 : decode cX3_close 41 = .ok (.irem, 1) := by decide +kernel
theorem dX3_close_42 : decode cX3_close 42 = .ok (.putfield 16, 3) := by decide +kernel
theorem dX3_close_45 : decode cX3_close 45 = .ok (.aload_n 0, 1) := by decide +kernel
theorem dX3_close_46 : decode cX3_close 46 = .ok (.aload_n 0, 1) := by decide +kernel
theorem dX3_close_47 : decode cX3_close 47 = .ok (.getfield 28, 3) := by decide +kernel
theorem dX3_close_50 : decode cX3_close 50 = .ok (.iconst 1, 1) := by decide +kernel
theorem dX3_close_51 : decode cX3_close 51 = .ok (.iadd, 1) := by decide +kernel
theorem dX3_close_52 : decode cX3_close 52 = .ok (.bipush 6, 2) := by decide +kernel
theorem dX3_close_54 : decode cX3_close 54 = .ok (.invokestatic 31, 3) := by decide +kernel
theorem dX3_close_57 : decode cX3_close 57 = .ok (.putfield 28, 3) := by decide +kernel
theorem dX3_close_60 : decode cX3_close 60 = .ok (.return_, 1) := by decide +kernel
set_option maxRecDepth 20000 in
theorem ggX3_takeBack_X5_copyFrom : GoodIn wsX3_takeBack wsX5_copyFrom := goodIn_r _ [8, 9, 10, 11, 12, 13, 14, 15, 16, 17, 18, 19, 20, 21, 22, 23, 24, 7, 25, 26, 30, 31, 32, 33, 34, 35, 36, 37, 38, 39] (by decide +kernel) (by decide +kernel)
set_option maxRecDepth 20000 in
theorem gX3_takeBack_X5_copyFrom : GoodIn wsX3_takeBack (wsV RX3 20 RX5 yX5_copyFrom wsX5_copyFrom) := goodIn_app (goodIn_of _ (by decide +kernel)) ggX3_takeBack_X5_copyFrom
theorem dX3_takeBack_0 : decode cX3_takeBack 0 = .ok (.aload_n 0, 1) := by decide +kernel
theorem dX3_takeBack_1 : decode cX3_takeBack 1 = .ok (.getfield 16, 3) := by decide +kernel
theorem dX3_takeBack_4 : decode cX3_takeBack 4 = .ok (.bipush 6, 2) := by decide +kernel
theorem dX3_takeBack_6 : decode cX3_takeBack 6 = .ok (.iadd, 1) := by decide +kernel
theorem dX3_takeBack_7 : decode cX3_takeBack 7 = .ok (.bipush 7, 2) := by decide +kernel
theorem dX3_takeBack_9 : decode cX3_takeBack 9 = .ok (.irem, 1) := by decide +kernel
theorem dX3_takeBack_10 : decode cX3_takeBack 10 = .ok (.istore_n 2, 1) := by decide +kernel
theorem dX3_takeBack_11 : decode cX3_takeBack 11 = .ok (.aload_n 0, 1) := by decide +kernel
theorem dX3_takeBack_12 : decode cX3_takeBack 12 = .ok (.getfield 28, 3) := by decide +kernel
theorem dX3_takeBack_15 : decode cX3_takeBack 15 = .ok (.iconst 1, 1) := by decide +kernel
theorem dX3_takeBack_16 : decode cX3_takeBack 16 = .ok (.if_icmp .lt 7, 3) := by decide +kernel
theorem dX3_takeBack_19 : decode cX3_takeBack 19 = .ok (.iload_n 2, 1) := by decide +kernel
theorem dX3_takeBack_20 : decode cX3_takeBack 20 = .ok (.ifCond .ge 5, 3) := by decide +kernel
theorem dX3_takeBack_23 : decode cX3_takeBack 23 = .ok (.iconst 0, 1) := by decide +kernel
theorem dX3_takeBack_24 : decode cX3_takeBack 24 = .ok (.ireturn, 1) := by decide +kernel
theorem dX3_takeBack_25 : decode cX3_takeBack 25 = .ok (.aload_n 1, 1) := by decide +kernel
theorem dX3_takeBack_26 : decode cX3_takeBack 26 = .ok (.aload_n 0, 1) := by decide +kernel
theorem dX3_takeBack_27 : decode cX3_takeBack 27 = .ok (.getfield 11, 3) := by decide +kernel
theorem dX3_takeBack_30 : decode cX3_takeBack 30 = .ok (.iload_n 2, 1) := by decide +kernel
theorem dX3_takeBack_31 : decode cX3_takeBack 31 = .ok (.aaload, 1) := by decide +kernel
theorem dX3_takeBack_32 : decode cX3_takeBack 32 = .ok (.invokevirtual 20, 3) := by decide +kernel
theorem dX3_takeBack_35 : decode cX3_takeBack 35 = .ok (.aload_n 0, 1) := by decide +kernel
theorem dX3_takeBack_36 : decode cX3_takeBack 36 = .ok (.iload_n 2, 1) := by decide +kernel
theorem dX3_takeBack_37 : decode cX3_takeBack 37 = .ok (.putfield 16, 3) := by decide +kernel
theorem dX3_takeBack_40 : decode cX3_takeBack 40 = .ok (.aload_n 0, 1) := by decide +kernel
theorem dX3_takeBack_41 : decode cX3_takeBack 41 = .ok (.dup, 1) := by decide +kernel
theorem dX3_takeBack_42 : decode cX3_takeBack 42 = .ok (.getfield 28, 3) := by decide +kernel
theorem dX3_takeBack_45 : decode cX3_takeBack 45 = .ok (.iconst 1, 1) := by decide +kernel
theorem dX3_takeBack_46 : decode cX3_takeBack 46 = .ok (.isub, 1) := by decide +kernel
theorem dX3_takeBack_47 : decode cX3_takeBack 47 = .ok (.putfield 28, 3) := by decide +kernel
theorem dX3_takeBack_50 : decode cX3_takeBack 50 = .ok (.iconst 1, 1) := by decide +kernel
theorem dX3_takeBack_51 : decode cX3_takeBack 51 = .ok (.ireturn, 1) := by decide +kernel
theorem dX3_forget_0 : decode cX3_forget 0 = .ok (.aload_n 0, 1) := by decide +kernel
theorem dX3_forget_1 : decode cX3_forget 1 = .ok (.iconst 0, 1) := by decide +kernel
theorem dX3_forget_2 : decode cX3_forget 2 = .ok (.putfield 28, 3) := by decide +kernel
theorem dX3_forget_5 : decode cX3_forget 5 = .ok (.return_, 1) := by decide +kernel
theorem dX4_init_0 : decode cX4_init 0 = .ok (.aload_n 0, 1) := by decide +kernel
theorem dX4_init_1 : decode cX4_init 1 = .ok (.invokespecial 3, 3) := by decide +kernel
theorem dX4_init_4 : decode cX4_init 4 = .ok (.aload_n 0, 1) := by decide +kernel
theorem dX4_init_5 : decode cX4_init 5 = .ok (.sipush 192, 3) := by decide +kernel
theorem dX4_init_8 : decode cX4_init 8 = .ok (.newarray .int, 2) := by decide +kernel
theorem dX4_init_10 : decode cX4_init 10 = .ok (.putfield 9, 3) := by decide +kernel
theorem dX4_init_13 : decode cX4_init 13 = .ok (.aload_n 0, 1) := by decide +kernel
theorem dX4_init_14 : decode cX4_init 14 = .ok (.sipush 192, 3) := by decide +kernel
theorem dX4_init_17 : decode cX4_init 17 = .ok (.newarray .boolean, 2) := by decide +kernel
theorem dX4_init_19 : decode cX4_init 19 = .ok (.putfield 15, 3) := by decide +kernel
theorem dX4_init_22 : decode cX4_init 22 = .ok (.aload_n 0, 1) := by decide +kernel
theorem dX4_init_23 : decode cX4_init 23 = .ok (.aload_n 1, 1) := by decide +kernel
theorem dX4_init_24 : decode cX4_init 24 = .ok (.putfield 19, 3) := by decide +kernel
theorem dX4_init_27 : decode cX4_init 27 = .ok (.return_, 1) := by decide +kernel
set_option maxRecDepth 20000 in
theorem ggX4_countOfCells_X5_reaches : GoodIn wsX4_countOfCells wsX5_reaches := goodIn_r _ [8, 9, 10, 11, 16, 17, 18, 19, 20, 21, 22, 23, 24, 25] (by decide +kernel) (by decide +kernel)
set_option maxRecDepth 20000 in
theorem gX4_countOfCells_X5_reaches : GoodIn wsX4_countOfCells (wsV RX4 32 RX5 yX5_reaches wsX5_reaches) := goodIn_app (goodIn_of _ (by decide +kernel)) ggX4_countOfCells_X5_reaches
theorem dX4_countOfCells_0 : decode cX4_countOfCells 0 = .ok (.iconst 0, 1) := by decide +kernel
theorem dX4_countOfCells_1 : decode cX4_countOfCells 1 = .ok (.istore_n 2, 1) := by decide +kernel
theorem dX4_countOfCells_2 : decode cX4_countOfCells 2 = .ok (.iconst 0, 1) := by decide +kernel
theorem dX4_countOfCells_3 : decode cX4_countOfCells 3 = .ok (.istore_n 3, 1) := by decide +kernel
theorem dX4_countOfCells_4 : decode cX4_countOfCells 4 = .ok (.iload_n 3, 1) := by decide +kernel
theorem dX4_countOfCells_5 : decode cX4_countOfCells 5 = .ok (.aload_n 0, 1) := by decide +kernel
theorem dX4_countOfCells_6 : decode cX4_countOfCells 6 = .ok (.getfield 19, 3) := by decide +kernel
theorem dX4_countOfCells_9 : decode cX4_countOfCells 9 = .ok (.getfield 23, 3) := by decide +kernel
theorem dX4_countOfCells_12 : decode cX4_countOfCells 12 = .ok (.if_icmp .ge 52, 3) := by decide +kernel
theorem dX4_countOfCells_15 : decode cX4_countOfCells 15 = .ok (.iconst 0, 1) := by decide +kernel
theorem dX4_countOfCells_16 : decode cX4_countOfCells 16 = .ok (.istore 4, 2) := by decide +kernel
theorem dX4_countOfCells_18 : decode cX4_countOfCells 18 = .ok (.iload 4, 2) := by decide +kernel
theorem dX4_countOfCells_20 : decode cX4_countOfCells 20 = .ok (.aload_n 0, 1) := by decide +kernel
theorem dX4_countOfCells_21 : decode cX4_countOfCells 21 = .ok (.getfield 19, 3) := by decide +kernel
theorem dX4_countOfCells_24 : decode cX4_countOfCells 24 = .ok (.getfield 29, 3) := by decide +kernel
theorem dX4_countOfCells_27 : decode cX4_countOfCells 27 = .ok (.if_icmp .ge 31, 3) := by decide +kernel
theorem dX4_countOfCells_30 : decode cX4_countOfCells 30 = .ok (.iload_n 2, 1) := by decide +kernel
theorem dX4_countOfCells_31 : decode cX4_countOfCells 31 = .ok (.aload_n 0, 1) := by decide +kernel
theorem dX4_countOfCells_32 : decode cX4_countOfCells 32 = .ok (.getfield 19, 3) := by decide +kernel
theorem dX4_countOfCells_35 : decode cX4_countOfCells 35 = .ok (.iload 4, 2) := by decide +kernel
theorem dX4_countOfCells_37 : decode cX4_countOfCells 37 = .ok (.iload_n 3, 1) := by decide +kernel
theorem dX4_countOfCells_38 : decode cX4_countOfCells 38 = .ok (.iload_n 1, 1) := by decide +kernel
theorem dX4_countOfCells_39 : decode cX4_countOfCells 39 = .ok (.invokevirtual 32, 3) := by decide +kernel
theorem dX4_countOfCells_42 : decode cX4_countOfCells 42 = .ok (.ifCond .eq 7, 3) := by decide +kernel
theorem dX4_countOfCells_45 : decode cX4_countOfCells 45 = .ok (.iconst 1, 1) := by decide +kernel
theorem dX4_countOfCells_46 : decode cX4_countOfCells 46 = .ok (.goto 4, 3) := by decide +kernel
theorem dX4_countOfCells_49 : decode cX4_countOfCells 49 = .ok (.iconst 0, 1) := by decide +kernel
theorem dX4_countOfCells_50 : decode cX4_countOfCells 50 = .ok (.iadd, 1) := by decide +kernel
theorem dX4_countOfCells_51 : decode cX4_countOfCells 51 = .ok (.istore_n 2, 1) := by decide +kernel
theorem dX4_countOfCells_52 : decode cX4_countOfCells 52 = .ok (.iinc 4 1, 3) := by decide +kernel
theorem dX4_countOfCells_55 : decode cX4_countOfCells 55 = .ok (.goto (-37), 3) := by decide +kernel
theorem dX4_countOfCells_58 : decode cX4_countOfCells 58 = .ok (.iinc 3 1, 3) := by decide +kernel
theorem dX4_countOfCells_61 : decode cX4_countOfCells 61 = .ok (.goto (-57), 3) := by decide +kernel
theorem dX4_countOfCells_64 : decode cX4_countOfCells 64 = .ok (.iload_n 2, 1) := by decide +kernel
theorem dX4_countOfCells_65 : decode cX4_countOfCells 65 = .ok (.ireturn, 1) := by decide +kernel
set_option maxRecDepth 20000 in
theorem ggX4_beginsRun_X5_reaches : GoodIn wsX4_beginsRun wsX5_reaches := goodIn_r _ [6, 7, 8, 9, 14, 15, 16, 17, 18, 19, 20, 21, 22, 23] (by decide +kernel) (by decide +kernel)
set_option maxRecDepth 20000 in
theorem gX4_beginsRun_X5_reaches : GoodIn wsX4_beginsRun (wsV RX4 32 RX5 yX5_reaches wsX5_reaches) := goodIn_app (goodIn_of _ (by decide +kernel)) ggX4_beginsRun_X5_reaches
theorem dX4_beginsRun_0 : decode cX4_beginsRun 0 = .ok (.aload_n 0, 1) := by decide +kernel
theorem dX4_beginsRun_1 : decode cX4_beginsRun 1 = .ok (.getfield 19, 3) := by decide +kernel
theorem dX4_beginsRun_4 : decode cX4_beginsRun 4 = .ok (.iload_n 2, 1) := by decide +kernel
theorem dX4_beginsRun_5 : decode cX4_beginsRun 5 = .ok (.iload_n 3, 1) := by decide +kernel
theorem dX4_beginsRun_6 : decode cX4_beginsRun 6 = .ok (.iload_n 1, 1) := by decide +kernel
theorem dX4_beginsRun_7 : decode cX4_beginsRun 7 = .ok (.invokevirtual 32, 3) := by decide +kernel
theorem dX4_beginsRun_10 : decode cX4_beginsRun 10 = .ok (.ifCond .eq 22, 3) := by decide +kernel
theorem dX4_beginsRun_13 : decode cX4_beginsRun 13 = .ok (.aload_n 0, 1) := by decide +kernel
theorem dX4_beginsRun_14 : decode cX4_beginsRun 14 = .ok (.getfield 19, 3) := by decide +kernel
theorem dX4_beginsRun_17 : decode cX4_beginsRun 17 = .ok (.iload_n 2, 1) := by decide +kernel
theorem dX4_beginsRun_18 : decode cX4_beginsRun 18 = .ok (.iconst 1, 1) := by decide +kernel
theorem dX4_beginsRun_19 : decode cX4_beginsRun 19 = .ok (.isub, 1) := by decide +kernel
theorem dX4_beginsRun_20 : decode cX4_beginsRun 20 = .ok (.iload_n 3, 1) := by decide +kernel
theorem dX4_beginsRun_21 : decode cX4_beginsRun 21 = .ok (.iload_n 1, 1) := by decide +kernel
theorem dX4_beginsRun_22 : decode cX4_beginsRun 22 = .ok (.invokevirtual 32, 3) := by decide +kernel
theorem dX4_beginsRun_25 : decode cX4_beginsRun 25 = .ok (.ifCond .ne 7, 3) := by decide +kernel
theorem dX4_beginsRun_28 : decode cX4_beginsRun 28 = .ok (.iconst 1, 1) := by decide +kernel
theorem dX4_beginsRun_29 : decode cX4_beginsRun 29 = .ok (.goto 4, 3) := by decide +kernel
theorem dX4_beginsRun_32 : decode cX4_beginsRun 32 = .ok (.iconst 0, 1) := by decide +kernel
theorem dX4_beginsRun_33 : decode cX4_beginsRun 33 = .ok (.ireturn, 1) := by decide +kernel
set_option maxRecDepth 20000 in
theorem ggX4_runFrom_X5_reaches : GoodIn wsX4_runFrom wsX5_reaches := goodIn_r _ [6, 7, 8, 9, 14, 15, 16, 17, 18, 19, 20, 21, 22, 23] (by decide +kernel) (by decide +kernel)
set_option maxRecDepth 20000 in
theorem gX4_runFrom_X5_reaches : GoodIn wsX4_runFrom (wsV RX4 32 RX5 yX5_reaches wsX5_reaches) := goodIn_app (goodIn_of _ (by decide +kernel)) ggX4_runFrom_X5_reaches
theorem dX4_runFrom_0 : decode cX4_runFrom 0 = .ok (.iload_n 2, 1) := by decide +kernel
theorem dX4_runFrom_1 : decode cX4_runFrom 1 = .ok (.istore 4, 2) := by decide +kernel
theorem dX4_runFrom_3 : decode cX4_runFrom 3 = .ok (.iconst 0, 1) := by decide +kernel
theorem dX4_runFrom_4 : decode cX4_runFrom 4 = .ok (.istore 5, 2) := by decide +kernel
theorem dX4_runFrom_6 : decode cX4_runFrom 6 = .ok (.iload 5, 2) := by decide +kernel
theorem dX4_runFrom_8 : decode cX4_runFrom 8 = .ok (.bipush 16, 2) := by decide +kernel
theorem dX4_runFrom_10 : decode cX4_runFrom 10 = .ok (.if_icmp .ge 26, 3) := by decide +kernel
theorem dX4_runFrom_13 : decode cX4_runFrom 13 = .ok (.aload_n 0, 1) := by decide +kernel
theorem dX4_runFrom_14 : decode cX4_runFrom 14 = .ok (.getfield 19, 3) := by decide +kernel
theorem dX4_runFrom_17 : decode cX4_runFrom 17 = .ok (.iload 4, 2) := by decide +kernel
theorem dX4_runFrom_19 : decode cX4_runFrom 19 = .ok (.iload_n 3, 1) := by decide +kernel
theorem dX4_runFrom_20 : decode cX4_runFrom 20 = .ok (.iload_n 1, 1) := by decide +kernel
theorem dX4_runFrom_21 : decode cX4_runFrom 21 = .ok (.invokevirtual 32, 3) := by decide +kernel
theorem dX4_runFrom_24 : decode cX4_runFrom 24 = .ok (.ifCond .eq 12, 3) := by decide +kernel
theorem dX4_runFrom_27 : decode cX4_runFrom 27 = .ok (.iinc 4 1, 3) := by decide +kernel
theorem dX4_runFrom_30 : decode cX4_runFrom 30 = .ok (.iinc 5 1, 3) := by decide +kernel
theorem dX4_runFrom_33 : decode cX4_runFrom 33 = .ok (.goto (-27), 3) := by decide +kernel
theorem dX4_runFrom_36 : decode cX4_runFrom 36 = .ok (.iload 4, 2) := by decide +kernel
theorem dX4_runFrom_38 : decode cX4_runFrom 38 = .ok (.iload_n 2, 1) := by decide +kernel
theorem dX4_runFrom_39 : decode cX4_runFrom 39 = .ok (.isub, 1) := by decide +kernel
theorem dX4_runFrom_40 : decode cX4_runFrom 40 = .ok (.ireturn, 1) := by decide +kernel
set_option maxRecDepth 20000 in
theorem ggX4_countOfRuns_X4_beginsRun : GoodIn wsX4_countOfRuns wsX4_beginsRun := goodIn_r _ [8, 1, 9, 10, 11, 12, 13, 14, 15, 16, 17, 18, 19, 20, 21, 22, 23, 24, 25, 26, 27, 28, 29, 30] (by decide +kernel) (by decide +kernel)
set_option maxRecDepth 20000 in
theorem gX4_countOfRuns_X4_beginsRun : GoodIn wsX4_countOfRuns (wsV RX4 36 RX4 yX4_beginsRun wsX4_beginsRun) := goodIn_app (goodIn_of _ (by decide +kernel)) ggX4_countOfRuns_X4_beginsRun
theorem dX4_countOfRuns_0 : decode cX4_countOfRuns 0 = .ok (.iconst 0, 1) := by decide +kernel
theorem dX4_countOfRuns_1 : decode cX4_countOfRuns 1 = .ok (.istore_n 2, 1) := by decide +kernel
theorem dX4_countOfRuns_2 : decode cX4_countOfRuns 2 = .ok (.iconst 0, 1) := by decide +kernel
theorem dX4_countOfRuns_3 : decode cX4_countOfRuns 3 = .ok (.istore_n 3, 1) := by decide +kernel
theorem dX4_countOfRuns_4 : decode cX4_countOfRuns 4 = .ok (.iload_n 3, 1) := by decide +kernel
theorem dX4_countOfRuns_5 : decode cX4_countOfRuns 5 = .ok (.aload_n 0, 1) := by decide +kernel
theorem dX4_countOfRuns_6 : decode cX4_countOfRuns 6 = .ok (.getfield 19, 3) := by decide +kernel
theorem dX4_countOfRuns_9 : decode cX4_countOfRuns 9 = .ok (.getfield 23, 3) := by decide +kernel
theorem dX4_countOfRuns_12 : decode cX4_countOfRuns 12 = .ok (.if_icmp .ge 49, 3) := by decide +kernel
theorem dX4_countOfRuns_15 : decode cX4_countOfRuns 15 = .ok (.iconst 0, 1) := by decide +kernel
theorem dX4_countOfRuns_16 : decode cX4_countOfRuns 16 = .ok (.istore 4, 2) := by decide +kernel
theorem dX4_countOfRuns_18 : decode cX4_countOfRuns 18 = .ok (.iload 4, 2) := by decide +kernel
theorem dX4_countOfRuns_20 : decode cX4_countOfRuns 20 = .ok (.aload_n 0, 1) := by decide +kernel
theorem dX4_countOfRuns_21 : decode cX4_countOfRuns 21 = .ok (.getfield 19, 3) := by decide +kernel
theorem dX4_countOfRuns_24 : decode cX4_countOfRuns 24 = .ok (.getfield 29, 3) := by decide +kernel
theorem dX4_countOfRuns_27 : decode cX4_countOfRuns 27 = .ok (.if_icmp .ge 28, 3) := by decide +kernel
theorem dX4_countOfRuns_30 : decode cX4_countOfRuns 30 = .ok (.iload_n 2, 1) := by decide +kernel
theorem dX4_countOfRuns_31 : decode cX4_countOfRuns 31 = .ok (.aload_n 0, 1) := by decide +kernel
theorem dX4_countOfRuns_32 : decode cX4_countOfRuns 32 = .ok (.iload_n 1, 1) := by decide +kernel
theorem dX4_countOfRuns_33 : decode cX4_countOfRuns 33 = .ok (.iload 4, 2) := by decide +kernel
theorem dX4_countOfRuns_35 : decode cX4_countOfRuns 35 = .ok (.iload_n 3, 1) := by decide +kernel
theorem dX4_countOfRuns_36 : decode cX4_countOfRuns 36 = .ok (.invokevirtual 36, 3) := by decide +kernel
theorem dX4_countOfRuns_39 : decode cX4_countOfRuns 39 = .ok (.ifCond .eq 7, 3) := by decide +kernel
theorem dX4_countOfRuns_42 : decode cX4_countOfRuns 42 = .ok (.iconst 1, 1) := by decide +kernel
theorem dX4_countOfRuns_43 : decode cX4_countOfRuns 43 = .ok (.goto 4, 3) := by decide +kernel
theorem dX4_countOfRuns_46 : decode cX4_countOfRuns 46 = .ok (.iconst 0, 1) := by decide +kernel
theorem dX4_countOfRuns_47 : decode cX4_countOfRuns 47 = .ok (.iadd, 1) := by decide +kernel
theorem dX4_countOfRuns_48 : decode cX4_countOfRuns 48 = .ok (.istore_n 2, 1) := by decide +kernel
theorem dX4_countOfRuns_49 : decode cX4_countOfRuns 49 = .ok (.iinc 4 1, 3) := by decide +kernel
theorem dX4_countOfRuns_52 : decode cX4_countOfRuns 52 = .ok (.goto (-34), 3) := by decide +kernel
theorem dX4_countOfRuns_55 : decode cX4_countOfRuns 55 = .ok (.iinc 3 1, 3) := by decide +kernel
theorem dX4_countOfRuns_58 : decode cX4_countOfRuns 58 = .ok (.goto (-54), 3) := by decide +kernel
theorem dX4_countOfRuns_61 : decode cX4_countOfRuns 61 = .ok (.iload_n 2, 1) := by decide +kernel
theorem dX4_countOfRuns_62 : decode cX4_countOfRuns 62 = .ok (.ireturn, 1) := by decide +kernel
set_option maxRecDepth 20000 in
theorem ggX4_shortestRun_X4_beginsRun : GoodIn wsX4_shortestRun wsX4_beginsRun := goodIn_r _ [12, 1, 13, 14, 15, 16, 17, 18, 19, 20, 25, 26, 27, 28, 29, 30, 31, 32, 33, 34, 35, 36, 37, 38] (by decide +kernel) (by decide +kernel)
set_option maxRecDepth 20000 in
theorem gX4_shortestRun_X4_beginsRun : GoodIn wsX4_shortestRun (wsV RX4 36 RX4 yX4_beginsRun wsX4_beginsRun) := goodIn_app (goodIn_of _ (by decide +kernel)) ggX4_shortestRun_X4_beginsRun
set_option maxRecDepth 20000 in
theorem ggX4_shortestRun_X4_runFrom : GoodIn wsX4_shortestRun wsX4_runFrom := goodIn_r _ [24, 1, 13, 14, 15, 16, 17, 18, 19, 20, 25, 26, 27, 28, 29, 30, 31, 32, 33, 34, 35, 36, 37, 38] (by decide +kernel) (by decide +kernel)
set_option maxRecDepth 20000 in
theorem gX4_shortestRun_X4_runFrom : GoodIn wsX4_shortestRun (wsV RX4 39 RX4 yX4_runFrom wsX4_runFrom) := goodIn_app (goodIn_of _ (by decide +kernel)) ggX4_shortestRun_X4_runFrom
theorem dX4_shortestRun_0 : decode cX4_shortestRun 0 = .ok (.iconst 0, 1) := by decide +kernel
theorem dX4_shortestRun_1 : decode cX4_shortestRun 1 = .ok (.istore_n 2, 1) := by decide +kernel
theorem dX4_shortestRun_2 : decode cX4_shortestRun 2 = .ok (.iconst 0, 1) := by decide +kernel
theorem dX4_shortestRun_3 : decode cX4_shortestRun 3 = .ok (.istore_n 3, 1) := by decide +kernel
theorem dX4_shortestRun_4 : decode cX4_shortestRun 4 = .ok (.iload_n 3, 1) := by decide +kernel
theorem dX4_shortestRun_5 : decode cX4_shortestRun 5 = .ok (.aload_n 0, 1) := by decide +kernel
theorem dX4_shortestRun_6 : decode cX4_shortestRun 6 = .ok (.getfield 19, 3) := by decide +kernel
theorem dX4_shortestRun_9 : decode cX4_shortestRun 9 = .ok (.getfield 23, 3) := by decide +kernel
theorem dX4_shortestRun_12 : decode cX4_shortestRun 12 = .ok (.if_icmp .ge 67, 3) := by decide +kernel
theorem dX4_shortestRun_15 : decode cX4_shortestRun 15 = .ok (.iconst 0, 1) := by decide +kernel
theorem dX4_shortestRun_16 : decode cX4_shortestRun 16 = .ok (.istore 4, 2) := by decide +kernel
theorem dX4_shortestRun_18 : decode cX4_shortestRun 18 = .ok (.iload 4, 2) := by decide +kernel
theorem dX4_shortestRun_20 : decode cX4_shortestRun 20 = .ok (.aload_n 0, 1) := by decide +kernel
theorem dX4_shortestRun_21 : decode cX4_shortestRun 21 = .ok (.getfield 19, 3) := by decide +kernel
theorem dX4_shortestRun_24 : decode cX4_shortestRun 24 = .ok (.getfield 29, 3) := by decide +kernel
theorem dX4_shortestRun_27 : decode cX4_shortestRun 27 = .ok (.if_icmp .ge 46, 3) := by decide +kernel
theorem dX4_shortestRun_30 : decode cX4_shortestRun 30 = .ok (.aload_n 0, 1) := by decide +kernel
theorem dX4_shortestRun_31 : decode cX4_shortestRun 31 = .ok (.iload_n 1, 1) := by decide +kernel
theorem dX4_shortestRun_32 : decode cX4_shortestRun 32 = .ok (.iload 4, 2) := by decide +kernel
theorem dX4_shortestRun_34 : decode cX4_shortestRun 34 = .ok (.iload_n 3, 1) := by decide +kernel
theorem dX4_shortestRun_35 : decode cX4_shortestRun 35 = .ok (.invokevirtual 36, 3) := by decide +kernel
theorem dX4_shortestRun_38 : decode cX4_shortestRun 38 = .ok (.ifCond .eq 29, 3) := by decide +kernel
theorem dX4_shortestRun_41 : decode cX4_shortestRun 41 = .ok (.aload_n 0, 1) := by decide +kernel
theorem dX4_shortestRun_42 : decode cX4_shortestRun 42 = .ok (.iload_n 1, 1) := by decide +kernel
theorem dX4_shortestRun_43 : decode cX4_shortestRun 43 = .ok (.iload 4, 2) := by decide +kernel
theorem dX4_shortestRun_45 : decode cX4_shortestRun 45 = .ok (.iload_n 3, 1) := by decide +kernel
theorem dX4_shortestRun_46 : decode cX4_shortestRun 46 = .ok (.invokevirtual 39, 3) := by decide +kernel
theorem dX4_shortestRun_49 : decode cX4_shortestRun 49 = .ok (.istore 5, 2) := by decide +kernel
theorem dX4_shortestRun_51 : decode cX4_shortestRun 51 = .ok (.iload_n 2, 1) := by decide +kernel
theorem dX4_shortestRun_52 : decode cX4_shortestRun 52 = .ok (.ifCond .ne 8, 3) := by decide +kernel
theorem dX4_shortestRun_55 : decode cX4_shortestRun 55 = .ok (.iload 5, 2) := by decide +kernel
theorem dX4_shortestRun_57 : decode cX4_shortestRun 57 = .ok (.goto 9, 3) := by decide +kernel
theorem dX4_shortestRun_60 : decode cX4_shortestRun 60 = .ok (.iload_n 2, 1) := by decide +kernel
theorem dX4_shortestRun_61 : decode cX4_shortestRun 61 = .ok (.iload 5, 2) := by decide +kernel
theorem dX4_shortestRun_63 : decode cX4_shortestRun 63 = .ok (.invokestatic 43, 3) := by decide +kernel
theorem dX4_shortestRun_66 : decode cX4_shortestRun 66 = .ok (.istore_n 2, 1) := by decide +kernel
theorem dX4_shortestRun_67 : decode cX4_shortestRun 67 = .ok (.iinc 4 1, 3) := by decide +kernel
theorem dX4_shortestRun_70 : decode cX4_shortestRun 70 = .ok (.goto (-52), 3) := by decide +kernel
theorem dX4_shortestRun_73 : decode cX4_shortestRun 73 = .ok (.iinc 3 1, 3) := by decide +kernel
theorem dX4_shortestRun_76 : decode cX4_shortestRun 76 = .ok (.goto (-72), 3) := by decide +kernel
theorem dX4_shortestRun_79 : decode cX4_shortestRun 79 = .ok (.iload_n 2, 1) := by decide +kernel
theorem dX4_shortestRun_80 : decode cX4_shortestRun 80 = .ok (.ireturn, 1) := by decide +kernel
set_option maxRecDepth 20000 in
theorem ggX4_isRun_X4_beginsRun : GoodIn wsX4_isRun wsX4_beginsRun := goodIn_r _ [5, 6, 7, 8, 9, 10, 11, 12, 13, 14, 19, 20, 21, 22, 23, 24, 25, 26, 27, 28, 29, 30, 31, 32] (by decide +kernel) (by decide +kernel)
set_option maxRecDepth 20000 in
theorem gX4_isRun_X4_beginsRun : GoodIn wsX4_isRun (wsV RX4 36 RX4 yX4_beginsRun wsX4_beginsRun) := goodIn_app (goodIn_of _ (by decide +kernel)) ggX4_isRun_X4_beginsRun
set_option maxRecDepth 20000 in
theorem ggX4_isRun_X4_runFrom : GoodIn wsX4_isRun wsX4_runFrom := goodIn_r _ [18, 6, 7, 8, 9, 10, 11, 12, 13, 14, 19, 20, 21, 22, 23, 24, 25, 26, 27, 28, 29, 30, 31, 32] (by decide +kernel) (by decide +kernel)
set_option maxRecDepth 20000 in
theorem gX4_isRun_X4_runFrom : GoodIn wsX4_isRun (wsV RX4 39 RX4 yX4_runFrom wsX4_runFrom) := goodIn_app (goodIn_of _ (by decide +kernel)) ggX4_isRun_X4_runFrom
theorem dX4_isRun_0 : decode cX4_isRun 0 = .ok (.aload_n 0, 1) := by decide +kernel
theorem dX4_isRun_1 : decode cX4_isRun 1 = .ok (.iload_n 1, 1) := by decide +kernel
theorem dX4_isRun_2 : decode cX4_isRun 2 = .ok (.iload_n 2, 1) := by decide +kernel
theorem dX4_isRun_3 : decode cX4_isRun 3 = .ok (.iload_n 3, 1) := by decide +kernel
theorem dX4_isRun_4 : decode cX4_isRun 4 = .ok (.invokevirtual 36, 3) := by decide +kernel
theorem dX4_isRun_7 : decode cX4_isRun 7 = .ok (.ifCond .eq 19, 3) := by decide +kernel
theorem dX4_isRun_10 : decode cX4_isRun 10 = .ok (.aload_n 0, 1) := by decide +kernel
theorem dX4_isRun_11 : decode cX4_isRun 11 = .ok (.iload_n 1, 1) := by decide +kernel
theorem dX4_isRun_12 : decode cX4_isRun 12 = .ok (.iload_n 2, 1) := by decide +kernel
theorem dX4_isRun_13 : decode cX4_isRun 13 = .ok (.iload_n 3, 1) := by decide +kernel
theorem dX4_isRun_14 : decode cX4_isRun 14 = .ok (.invokevirtual 39, 3) := by decide +kernel
theorem dX4_isRun_17 : decode cX4_isRun 17 = .ok (.iload 4, 2) := by decide +kernel
theorem dX4_isRun_19 : decode cX4_isRun 19 = .ok (.if_icmp .ne 7, 3) := by decide +kernel
theorem dX4_isRun_22 : decode cX4_isRun 22 = .ok (.iconst 1, 1) := by decide +kernel
theorem dX4_isRun_23 : decode cX4_isRun 23 = .ok (.goto 4, 3) := by decide +kernel
theorem dX4_isRun_26 : decode cX4_isRun 26 = .ok (.iconst 0, 1) := by decide +kernel
theorem dX4_isRun_27 : decode cX4_isRun 27 = .ok (.ireturn, 1) := by decide +kernel
set_option maxRecDepth 20000 in
theorem ggX4_beginsBlock_X4_beginsRun : GoodIn wsX4_beginsBlock wsX4_beginsRun := goodIn_r _ [5, 6, 7, 8, 9, 10, 11, 12, 13, 14, 23, 24, 25, 26, 27, 28, 29, 30, 31, 32, 33, 34, 35, 36] (by decide +kernel) (by decide +kernel)
set_option maxRecDepth 20000 in
theorem gX4_beginsBlock_X4_beginsRun : GoodIn wsX4_beginsBlock (wsV RX4 36 RX4 yX4_beginsRun wsX4_beginsRun) := goodIn_app (goodIn_of _ (by decide +kernel)) ggX4_beginsBlock_X4_beginsRun
set_option maxRecDepth 20000 in
theorem ggX4_beginsBlock_X4_runFrom : GoodIn wsX4_beginsBlock wsX4_runFrom := goodIn_r _ [18, 6, 7, 8, 9, 10, 11, 12, 13, 14, 23, 24, 25, 26, 27, 28, 29, 30, 31, 32, 33, 34, 35, 36] (by decide +kernel) (by decide +kernel)
set_option maxRecDepth 20000 in
theorem gX4_beginsBlock_X4_runFrom : GoodIn wsX4_beginsBlock (wsV RX4 39 RX4 yX4_runFrom wsX4_runFrom) := goodIn_app (goodIn_of _ (by decide +kernel)) ggX4_beginsBlock_X4_runFrom
set_option maxRecDepth 20000 in
theorem ggX4_beginsBlock_X4_isRun : GoodIn wsX4_beginsBlock wsX4_isRun := goodIn_r _ [22, 1, 2, 3, 4, 5, 6, 7, 8, 9, 10, 11, 12, 13, 14, 15, 16, 17, 18, 23, 24, 25, 26, 27, 28, 29, 30, 31, 32, 33, 34, 35, 36] (by decide +kernel) (by decide +kernel)
set_option maxRecDepth 20000 in
theorem gX4_beginsBlock_X4_isRun : GoodIn wsX4_beginsBlock (wsV RX4 49 RX4 yX4_isRun wsX4_isRun) := goodIn_app (goodIn_of _ (by decide +kernel)) ggX4_beginsBlock_X4_isRun
theorem dX4_beginsBlock_0 : decode cX4_beginsBlock 0 = .ok (.aload_n 0, 1) := by decide +kernel
theorem dX4_beginsBlock_1 : decode cX4_beginsBlock 1 = .ok (.iload_n 1, 1) := by decide +kernel
theorem dX4_beginsBlock_2 : decode cX4_beginsBlock 2 = .ok (.iload_n 2, 1) := by decide +kernel
theorem dX4_beginsBlock_3 : decode cX4_beginsBlock 3 = .ok (.iload_n 3, 1) := by decide +kernel
theorem dX4_beginsBlock_4 : decode cX4_beginsBlock 4 = .ok (.invokevirtual 36, 3) := by decide +kernel
theorem dX4_beginsBlock_7 : decode cX4_beginsBlock 7 = .ok (.ifCond .eq 26, 3) := by decide +kernel
theorem dX4_beginsBlock_10 : decode cX4_beginsBlock 10 = .ok (.aload_n 0, 1) := by decide +kernel
theorem dX4_beginsBlock_11 : decode cX4_beginsBlock 11 = .ok (.iload_n 1, 1) := by decide +kernel
theorem dX4_beginsBlock_12 : decode cX4_beginsBlock 12 = .ok (.iload_n 2, 1) := by decide +kernel
theorem dX4_beginsBlock_13 : decode cX4_beginsBlock 13 = .ok (.iload_n 3, 1) := by decide +kernel
theorem dX4_beginsBlock_14 : decode cX4_beginsBlock 14 = .ok (.iconst 1, 1) := by decide +kernel
theorem dX4_beginsBlock_15 : decode cX4_beginsBlock 15 = .ok (.isub, 1) := by decide +kernel
theorem dX4_beginsBlock_16 : decode cX4_beginsBlock 16 = .ok (.aload_n 0, 1) := by decide +kernel
theorem dX4_beginsBlock_17 : decode cX4_beginsBlock 17 = .ok (.iload_n 1, 1) := by decide +kernel
theorem dX4_beginsBlock_18 : decode cX4_beginsBlock 18 = .ok (.iload_n 2, 1) := by decide +kernel
theorem dX4_beginsBlock_19 : decode cX4_beginsBlock 19 = .ok (.iload_n 3, 1) := by decide +kernel
theorem dX4_beginsBlock_20 : decode cX4_beginsBlock 20 = .ok (.invokevirtual 39, 3) := by decide +kernel
theorem dX4_beginsBlock_23 : decode cX4_beginsBlock 23 = .ok (.invokevirtual 49, 3) := by decide +kernel
theorem dX4_beginsBlock_26 : decode cX4_beginsBlock 26 = .ok (.ifCond .ne 7, 3) := by decide +kernel
theorem dX4_beginsBlock_29 : decode cX4_beginsBlock 29 = .ok (.iconst 1, 1) := by decide +kernel
theorem dX4_beginsBlock_30 : decode cX4_beginsBlock 30 = .ok (.goto 4, 3) := by decide +kernel
theorem dX4_beginsBlock_33 : decode cX4_beginsBlock 33 = .ok (.iconst 0, 1) := by decide +kernel
theorem dX4_beginsBlock_34 : decode cX4_beginsBlock 34 = .ok (.ireturn, 1) := by decide +kernel
set_option maxRecDepth 20000 in
theorem ggX4_rowsFrom_X4_runFrom : GoodIn wsX4_rowsFrom wsX4_runFrom := goodIn_r _ [7, 1, 8, 9, 10, 11, 12, 13, 14, 15, 24, 25, 26, 27, 28, 29, 30, 31, 32, 33, 34, 35, 36, 37] (by decide +kernel) (by decide +kernel)
set_option maxRecDepth 20000 in
theorem gX4_rowsFrom_X4_runFrom : GoodIn wsX4_rowsFrom (wsV RX4 39 RX4 yX4_runFrom wsX4_runFrom) := goodIn_app (goodIn_of _ (by decide +kernel)) ggX4_rowsFrom_X4_runFrom
set_option maxRecDepth 20000 in
theorem ggX4_rowsFrom_X4_isRun : GoodIn wsX4_rowsFrom wsX4_isRun := goodIn_r _ [19, 20, 21, 22, 6, 23, 1, 8, 9, 10, 11, 12, 13, 14, 15, 3, 4, 5, 7, 24, 25, 26, 27, 28, 29, 30, 31, 32, 33, 34, 35, 36, 37] (by decide +kernel) (by decide +kernel)
set_option maxRecDepth 20000 in
theorem gX4_rowsFrom_X4_isRun : GoodIn wsX4_rowsFrom (wsV RX4 49 RX4 yX4_isRun wsX4_isRun) := goodIn_app (goodIn_of _ (by decide +kernel)) ggX4_rowsFrom_X4_isRun
theorem dX4_rowsFrom_0 : decode cX4_rowsFrom 0 = .ok (.aload_n 0, 1) := by decide +kernel
theorem dX4_rowsFrom_1 : decode cX4_rowsFrom 1 = .ok (.iload_n 1, 1) := by decide +kernel
theorem dX4_rowsFrom_2 : decode cX4_rowsFrom 2 = .ok (.iload_n 2, 1) := by decide +kernel
theorem dX4_rowsFrom_3 : decode cX4_rowsFrom 3 = .ok (.iload_n 3, 1) := by decide +kernel
theorem dX4_rowsFrom_4 : decode cX4_rowsFrom 4 = .ok (.invokevirtual 39, 3) := by decide +kernel
theorem dX4_rowsFrom_7 : decode cX4_rowsFrom 7 = .ok (.istore 4, 2) := by decide +kernel
theorem dX4_rowsFrom_9 : decode cX4_rowsFrom 9 = .ok (.iconst 0, 1) := by decide +kernel
theorem dX4_rowsFrom_10 : decode cX4_rowsFrom 10 = .ok (.istore 5, 2) := by decide +kernel
theorem dX4_rowsFrom_12 : decode cX4_rowsFrom 12 = .ok (.iload_n 3, 1) := by decide +kernel
theorem dX4_rowsFrom_13 : decode cX4_rowsFrom 13 = .ok (.istore 6, 2) := by decide +kernel
theorem dX4_rowsFrom_15 : decode cX4_rowsFrom 15 = .ok (.iload 6, 2) := by decide +kernel
theorem dX4_rowsFrom_17 : decode cX4_rowsFrom 17 = .ok (.aload_n 0, 1) := by decide +kernel
theorem dX4_rowsFrom_18 : decode cX4_rowsFrom 18 = .ok (.getfield 19, 3) := by decide +kernel
theorem dX4_rowsFrom_21 : decode cX4_rowsFrom 21 = .ok (.getfield 23, 3) := by decide +kernel
theorem dX4_rowsFrom_24 : decode cX4_rowsFrom 24 = .ok (.if_icmp .ge 25, 3) := by decide +kernel
theorem dX4_rowsFrom_27 : decode cX4_rowsFrom 27 = .ok (.aload_n 0, 1) := by decide +kernel
theorem dX4_rowsFrom_28 : decode cX4_rowsFrom 28 = .ok (.iload_n 1, 1) := by decide +kernel
theorem dX4_rowsFrom_29 : decode cX4_rowsFrom 29 = .ok (.iload_n 2, 1) := by decide +kernel
theorem dX4_rowsFrom_30 : decode cX4_rowsFrom 30 = .ok (.iload 6, 2) := by decide +kernel
theorem dX4_rowsFrom_32 : decode cX4_rowsFrom 32 = .ok (.iload 4, 2) := by decide +kernel
theorem dX4_rowsFrom_34 : decode cX4_rowsFrom 34 = .ok (.invokevirtual 49, 3) := by decide +kernel
theorem dX4_rowsFrom_37 : decode cX4_rowsFrom 37 = .ok (.ifCond .eq 12, 3) := by decide +kernel
theorem dX4_rowsFrom_40 : decode cX4_rowsFrom 40 = .ok (.iinc 5 1, 3) := by decide +kernel
theorem dX4_rowsFrom_43 : decode cX4_rowsFrom 43 = .ok (.iinc 6 1, 3) := by decide +kernel
theorem dX4_rowsFrom_46 : decode cX4_rowsFrom 46 = .ok (.goto (-31), 3) := by decide +kernel
theorem dX4_rowsFrom_49 : decode cX4_rowsFrom 49 = .ok (.iload 5, 2) := by decide +kernel
theorem dX4_rowsFrom_51 : decode cX4_rowsFrom 51 = .ok (.ireturn, 1) := by decide +kernel
set_option maxRecDepth 20000 in
theorem ggX4_countOfBlocks_X4_blocksAhead : GoodIn wsX4_countOfBlocks wsX4_blocksAhead := goodIn_r _ [8, 1, 2, 9, 10, 11, 7, 12, 13, 14, 15, 16, 17, 18, 19, 20, 21, 22, 23, 24, 25, 26, 27, 28, 29, 30, 31, 32, 33, 34, 35, 36, 37, 38, 39, 40, 41, 42, 43, 44, 45, 46] (by decide +kernel) (by decide +kernel)
set_option maxRecDepth 20000 in
theorem gX4_countOfBlocks_X4_blocksAhead : GoodIn wsX4_countOfBlocks (wsV RX4 53 RX4 yX4_blocksAhead wsX4_blocksAhead) := goodIn_app (goodIn_of _ (by decide +kernel)) ggX4_countOfBlocks_X4_blocksAhead
theorem dX4_countOfBlocks_0 : decode cX4_countOfBlocks 0 = .ok (.aload_n 0, 1) := by decide +kernel
theorem dX4_countOfBlocks_1 : decode cX4_countOfBlocks 1 = .ok (.iload_n 1, 1) := by decide +kernel
theorem dX4_countOfBlocks_2 : decode cX4_countOfBlocks 2 = .ok (.aload_n 0, 1) := by decide +kernel
theorem dX4_countOfBlocks_3 : decode cX4_countOfBlocks 3 = .ok (.getfield 19, 3) := by decide +kernel
theorem dX4_countOfBlocks_6 : decode cX4_countOfBlocks 6 = .ok (.getfield 29, 3) := by decide +kernel
theorem dX4_countOfBlocks_9 : decode cX4_countOfBlocks 9 = .ok (.aload_n 0, 1) := by decide +kernel
theorem dX4_countOfBlocks_10 : decode cX4_countOfBlocks 10 = .ok (.getfield 19, 3) := by decide +kernel
theorem dX4_countOfBlocks_13 : decode cX4_countOfBlocks 13 = .ok (.getfield 23, 3) := by decide +kernel
theorem dX4_countOfBlocks_16 : decode cX4_countOfBlocks 16 = .ok (.iconst 1, 1) := by decide +kernel
theorem dX4_countOfBlocks_17 : decode cX4_countOfBlocks 17 = .ok (.isub, 1) := by decide +kernel
theorem dX4_countOfBlocks_18 : decode cX4_countOfBlocks 18 = .ok (.invokevirtual 53, 3) := by decide +kernel
theorem dX4_countOfBlocks_21 : decode cX4_countOfBlocks 21 = .ok (.ireturn, 1) := by decide +kernel
set_option maxRecDepth 20000 in
theorem ggX4_blocksAhead_X4_beginsBlock : GoodIn wsX4_blocksAhead wsX4_beginsBlock := goodIn_r _ [7, 8, 9, 10, 6, 11, 1, 12, 13, 14, 15, 16, 17, 18, 19, 20, 21, 22, 23, 24, 25, 26, 27, 28, 29, 30, 31, 32, 33, 34, 35, 36, 37, 38, 39, 40, 41] (by decide +kernel) (by decide +kernel)
set_option maxRecDepth 20000 in
theorem gX4_blocksAhead_X4_beginsBlock : GoodIn wsX4_blocksAhead (wsV RX4 56 RX4 yX4_beginsBlock wsX4_beginsBlock) := goodIn_app (goodIn_of _ (by decide +kernel)) ggX4_blocksAhead_X4_beginsBlock
theorem dX4_blocksAhead_0 : decode cX4_blocksAhead 0 = .ok (.iconst 0, 1) := by decide +kernel
theorem dX4_blocksAhead_1 : decode cX4_blocksAhead 1 = .ok (.istore 4, 2) := by decide +kernel
theorem dX4_blocksAhead_3 : decode cX4_blocksAhead 3 = .ok (.iconst 0, 1) := by decide +kernel
theorem dX4_blocksAhead_4 : decode cX4_blocksAhead 4 = .ok (.istore 5, 2) := by decide +kernel
theorem dX4_blocksAhead_6 : decode cX4_blocksAhead 6 = .ok (.iload 5, 2) := by decide +kernel
theorem dX4_blocksAhead_8 : decode cX4_blocksAhead 8 = .ok (.iload_n 3, 1) := by decide +kernel
theorem dX4_blocksAhead_9 : decode cX4_blocksAhead 9 = .ok (.if_icmp .gt 66, 3) := by decide +kernel
theorem dX4_blocksAhead_12 : decode cX4_blocksAhead 12 = .ok (.iload 5, 2) := by decide +kernel
theorem dX4_blocksAhead_14 : decode cX4_blocksAhead 14 = .ok (.iload_n 3, 1) := by decide +kernel
theorem dX4_blocksAhead_15 : decode cX4_blocksAhead 15 = .ok (.if_icmp .ge 13, 3) := by decide +kernel
theorem dX4_blocksAhead_18 : decode cX4_blocksAhead 18 = .ok (.aload_n 0, 1) := by decide +kernel
theorem dX4_blocksAhead_19 : decode cX4_blocksAhead 19 = .ok (.getfield 19, 3) := by decide +kernel
theorem dX4_blocksAhead_22 : decode cX4_blocksAhead 22 = .ok (.getfield 29, 3) := by decide +kernel
theorem dX4_blocksAhead_25 : decode cX4_blocksAhead 25 = .ok (.goto 4, 3) := by decide +kernel
theorem dX4_blocksAhead_28 : decode cX4_blocksAhead 28 = .ok (.iload_n 2, 1) := by decide +kernel
theorem dX4_blocksAhead_29 : decode cX4_blocksAhead 29 = .ok (.istore 6, 2) := by decide +kernel
theorem dX4_blocksAhead_31 : decode cX4_blocksAhead 31 = .ok (.iconst 0, 1) := by decide +kernel
theorem dX4_blocksAhead_32 : decode cX4_blocksAhead 32 = .ok (.istore 7, 2) := by decide +kernel
theorem dX4_blocksAhead_34 : decode cX4_blocksAhead 34 = .ok (.iload 7, 2) := by decide +kernel
theorem dX4_blocksAhead_36 : decode cX4_blocksAhead 36 = .ok (.iload 6, 2) := by decide +kernel
theorem dX4_blocksAhead_38 : decode cX4_blocksAhead 38 = .ok (.if_icmp .ge 31, 3) := by decide +kernel
theorem dX4_blocksAhead_41 : decode cX4_blocksAhead 41 = .ok (.iload 4, 2) := by decide +kernel
theorem dX4_blocksAhead_43 : decode cX4_blocksAhead 43 = .ok (.aload_n 0, 1) := by decide +kernel
theorem dX4_blocksAhead_44 : decode cX4_blocksAhead 44 = .ok (.iload_n 1, 1) := by decide +kernel
theorem dX4_blocksAhead_45 : decode cX4_blocksAhead 45 = .ok (.iload 7, 2) := by decide +kernel
theorem dX4_blocksAhead_47 : decode cX4_blocksAhead 47 = .ok (.iload 5, 2) := by decide +kernel
theorem dX4_blocksAhead_49 : decode cX4_blocksAhead 49 = .ok (.invokevirtual 56, 3) := by decide +kernel
theorem dX4_blocksAhead_52 : decode cX4_blocksAhead 52 = .ok (.ifCond .eq 7, 3) := by decide +kernel
theorem dX4_blocksAhead_55 : decode cX4_blocksAhead 55 = .ok (.iconst 1, 1) := by decide +kernel
theorem dX4_blocksAhead_56 : decode cX4_blocksAhead 56 = .ok (.goto 4, 3) := by decide +kernel
theorem dX4_blocksAhead_59 : decode cX4_blocksAhead 59 = .ok (.iconst 0, 1) := by decide +kernel
theorem dX4_blocksAhead_60 : decode cX4_blocksAhead 60 = .ok (.iadd, 1) := by decide +kernel
theorem dX4_blocksAhead_61 : decode cX4_blocksAhead 61 = .ok (.istore 4, 2) := by decide +kernel
theorem dX4_blocksAhead_63 : decode cX4_blocksAhead 63 = .ok (.iinc 7 1, 3) := by decide +kernel
theorem dX4_blocksAhead_66 : decode cX4_blocksAhead 66 = .ok (.goto (-32), 3) := by decide +kernel
theorem dX4_blocksAhead_69 : decode cX4_blocksAhead 69 = .ok (.iinc 5 1, 3) := by decide +kernel
theorem dX4_blocksAhead_72 : decode cX4_blocksAhead 72 = .ok (.goto (-66), 3) := by decide +kernel
theorem dX4_blocksAhead_75 : decode cX4_blocksAhead 75 = .ok (.iload 4, 2) := by decide +kernel
theorem dX4_blocksAhead_77 : decode cX4_blocksAhead 77 = .ok (.ireturn, 1) := by decide +kernel
set_option maxRecDepth 20000 in
theorem ggX4_cornerOf_X4_beginsBlock : GoodIn wsX4_cornerOf wsX4_beginsBlock := goodIn_r _ [8, 9, 10, 11, 7, 12, 1, 13, 14, 15, 16, 17, 18, 19, 20, 21, 22, 23, 24, 25, 26, 27, 28, 29, 30, 31, 32, 33, 34, 35, 36, 37, 38, 39, 40, 41, 42] (by decide +kernel) (by decide +kernel)
set_option maxRecDepth 20000 in
theorem gX4_cornerOf_X4_beginsBlock : GoodIn wsX4_cornerOf (wsV RX4 56 RX4 yX4_beginsBlock wsX4_beginsBlock) := goodIn_app (goodIn_of _ (by decide +kernel)) ggX4_cornerOf_X4_beginsBlock
theorem dX4_cornerOf_0 : decode cX4_cornerOf 0 = .ok (.iconst 0, 1) := by decide +kernel
theorem dX4_cornerOf_1 : decode cX4_cornerOf 1 = .ok (.istore_n 3, 1) := by decide +kernel
theorem dX4_cornerOf_2 : decode cX4_cornerOf 2 = .ok (.iconst 0, 1) := by decide +kernel
theorem dX4_cornerOf_3 : decode cX4_cornerOf 3 = .ok (.istore 4, 2) := by decide +kernel
theorem dX4_cornerOf_5 : decode cX4_cornerOf 5 = .ok (.iload 4, 2) := by decide +kernel
theorem dX4_cornerOf_7 : decode cX4_cornerOf 7 = .ok (.aload_n 0, 1) := by decide +kernel
theorem dX4_cornerOf_8 : decode cX4_cornerOf 8 = .ok (.getfield 19, 3) := by decide +kernel
theorem dX4_cornerOf_11 : decode cX4_cornerOf 11 = .ok (.getfield 23, 3) := by decide +kernel
theorem dX4_cornerOf_14 : decode cX4_cornerOf 14 = .ok (.if_icmp .ge 62, 3) := by decide +kernel
theorem dX4_cornerOf_17 : decode cX4_cornerOf 17 = .ok (.iconst 0, 1) := by decide +kernel
theorem dX4_cornerOf_18 : decode cX4_cornerOf 18 = .ok (.istore 5, 2) := by decide +kernel
theorem dX4_cornerOf_20 : decode cX4_cornerOf 20 = .ok (.iload 5, 2) := by decide +kernel
theorem dX4_cornerOf_22 : decode cX4_cornerOf 22 = .ok (.aload_n 0, 1) := by decide +kernel
theorem dX4_cornerOf_23 : decode cX4_cornerOf 23 = .ok (.getfield 19, 3) := by decide +kernel
theorem dX4_cornerOf_26 : decode cX4_cornerOf 26 = .ok (.getfield 29, 3) := by decide +kernel
theorem dX4_cornerOf_29 : decode cX4_cornerOf 29 = .ok (.if_icmp .ge 41, 3) := by decide +kernel
theorem dX4_cornerOf_32 : decode cX4_cornerOf 32 = .ok (.aload_n 0, 1) := by decide +kernel
theorem dX4_cornerOf_33 : decode cX4_cornerOf 33 = .ok (.iload_n 1, 1) := by decide +kernel
theorem dX4_cornerOf_34 : decode cX4_cornerOf 34 = .ok (.iload 5, 2) := by decide +kernel
theorem dX4_cornerOf_36 : decode cX4_cornerOf 36 = .ok (.iload 4, 2) := by decide +kernel
theorem dX4_cornerOf_38 : decode cX4_cornerOf 38 = .ok (.invokevirtual 56, 3) := by decide +kernel
theorem dX4_cornerOf_41 : decode cX4_cornerOf 41 = .ok (.ifCond .ne 6, 3) := by decide +kernel
theorem dX4_cornerOf_44 : decode cX4_cornerOf 44 = .ok (.goto 20, 3) := by decide +kernel
theorem dX4_cornerOf_47 : decode cX4_cornerOf 47 = .ok (.iload_n 3, 1) := by decide +kernel
theorem dX4_cornerOf_48 : decode cX4_cornerOf 48 = .ok (.iload_n 2, 1) := by decide +kernel
theorem dX4_cornerOf_49 : decode cX4_cornerOf 49 = .ok (.if_icmp .ne 12, 3) := by decide +kernel
theorem dX4_cornerOf_52 : decode cX4_cornerOf 52 = .ok (.iload 4, 2) := by decide +kernel
theorem dX4_cornerOf_54 : decode cX4_cornerOf 54 = .ok (.bipush 16, 2) := by decide +kernel
theorem dX4_cornerOf_56 : decode cX4_cornerOf 56 = .ok (.imul, 1) := by decide +kernel
theorem dX4_cornerOf_57 : decode cX4_cornerOf 57 = .ok (.iload 5, 2) := by decide +kernel
theorem dX4_cornerOf_59 : decode cX4_cornerOf 59 = .ok (.iadd, 1) := by decide +kernel
theorem dX4_cornerOf_60 : decode cX4_cornerOf 60 = .ok (.ireturn, 1) := by decide +kernel
theorem dX4_cornerOf_61 : decode cX4_cornerOf 61 = .ok (.iinc 3 1, 3) := by decide +kernel
theorem dX4_cornerOf_64 : decode cX4_cornerOf 64 = .ok (.iinc 5 1, 3) := by decide +kernel
theorem dX4_cornerOf_67 : decode cX4_cornerOf 67 = .ok (.goto (-47), 3) := by decide +kernel
theorem dX4_cornerOf_70 : decode cX4_cornerOf 70 = .ok (.iinc 4 1, 3) := by decide +kernel
theorem dX4_cornerOf_73 : decode cX4_cornerOf 73 = .ok (.goto (-68), 3) := by decide +kernel
theorem dX4_cornerOf_76 : decode cX4_cornerOf 76 = .ok (.iconst (-1), 1) := by decide +kernel
theorem dX4_cornerOf_77 : decode cX4_cornerOf 77 = .ok (.ireturn, 1) := by decide +kernel
set_option maxRecDepth 20000 in
theorem ggX4_sizeOf_X4_runFrom : GoodIn wsX4_sizeOf wsX4_runFrom := goodIn_r _ [5, 6, 7, 8, 9, 10, 11, 12, 13, 14, 28, 29, 30, 31, 32, 33, 34, 35, 36, 37, 38, 39, 40, 41] (by decide +kernel) (by decide +kernel)
set_option maxRecDepth 20000 in
theorem gX4_sizeOf_X4_runFrom : GoodIn wsX4_sizeOf (wsV RX4 39 RX4 yX4_runFrom wsX4_runFrom) := goodIn_app (goodIn_of _ (by decide +kernel)) ggX4_sizeOf_X4_runFrom
set_option maxRecDepth 20000 in
theorem ggX4_sizeOf_X4_rowsFrom : GoodIn wsX4_sizeOf wsX4_rowsFrom := goodIn_r _ [18, 6, 19, 1, 2, 3, 4, 5, 7, 8, 9, 10, 11, 12, 13, 14, 20, 21, 22, 23, 24, 25, 26, 27, 28, 29, 30, 31, 32, 33, 34, 35, 36, 37, 38, 39, 40, 41] (by decide +kernel) (by decide +kernel)
set_option maxRecDepth 20000 in
theorem gX4_sizeOf_X4_rowsFrom : GoodIn wsX4_sizeOf (wsV RX4 59 RX4 yX4_rowsFrom wsX4_rowsFrom) := goodIn_app (goodIn_of _ (by decide +kernel)) ggX4_sizeOf_X4_rowsFrom
theorem dX4_sizeOf_0 : decode cX4_sizeOf 0 = .ok (.iload_n 2, 1) := by decide +kernel
theorem dX4_sizeOf_1 : decode cX4_sizeOf 1 = .ok (.bipush 16, 2) := by decide +kernel
theorem dX4_sizeOf_3 : decode cX4_sizeOf 3 = .ok (.irem, 1) := by decide +kernel
theorem dX4_sizeOf_4 : decode cX4_sizeOf 4 = .ok (.istore 4, 2) := by decide +kernel
theorem dX4_sizeOf_6 : decode cX4_sizeOf 6 = .ok (.iload_n 2, 1) := by decide +kernel
theorem dX4_sizeOf_7 : decode cX4_sizeOf 7 = .ok (.bipush 16, 2) := by decide +kernel
theorem dX4_sizeOf_9 : decode cX4_sizeOf 9 = .ok (.idiv, 1) := by decide +kernel
theorem dX4_sizeOf_10 : decode cX4_sizeOf 10 = .ok (.istore 5, 2) := by decide +kernel
theorem dX4_sizeOf_12 : decode cX4_sizeOf 12 = .ok (.iload_n 3, 1) := by decide +kernel
theorem dX4_sizeOf_13 : decode cX4_sizeOf 13 = .ok (.tableswitch 43 0 2 #[27, 30, 33], 27) := by decide +kernel
theorem dX4_sizeOf_40 : decode cX4_sizeOf 40 = .ok (.iload 4, 2) := by decide +kernel
theorem dX4_sizeOf_42 : decode cX4_sizeOf 42 = .ok (.ireturn, 1) := by decide +kernel
theorem dX4_sizeOf_43 : decode cX4_sizeOf 43 = .ok (.iload 5, 2) := by decide +kernel
theorem dX4_sizeOf_45 : decode cX4_sizeOf 45 = .ok (.ireturn, 1) := by decide +kernel
theorem dX4_sizeOf_46 : decode cX4_sizeOf 46 = .ok (.aload_n 0, 1) := by decide +kernel
theorem dX4_sizeOf_47 : decode cX4_sizeOf 47 = .ok (.iload_n 1, 1) := by decide +kernel
theorem dX4_sizeOf_48 : decode cX4_sizeOf 48 = .ok (.iload 4, 2) := by decide +kernel
theorem dX4_sizeOf_50 : decode cX4_sizeOf 50 = .ok (.iload 5, 2) := by decide +kernel
theorem dX4_sizeOf_52 : decode cX4_sizeOf 52 = .ok (.invokevirtual 39, 3) := by decide +kernel
theorem dX4_sizeOf_55 : decode cX4_sizeOf 55 = .ok (.ireturn, 1) := by decide +kernel
theorem dX4_sizeOf_56 : decode cX4_sizeOf 56 = .ok (.aload_n 0, 1) := by decide +kernel
theorem dX4_sizeOf_57 : decode cX4_sizeOf 57 = .ok (.iload_n 1, 1) := by decide +kernel
theorem dX4_sizeOf_58 : decode cX4_sizeOf 58 = .ok (.iload 4, 2) := by decide +kernel
theorem dX4_sizeOf_60 : decode cX4_sizeOf 60 = .ok (.iload 5, 2) := by decide +kernel
theorem dX4_sizeOf_62 : decode cX4_sizeOf 62 = .ok (.invokevirtual 59, 3) := by decide +kernel
theorem dX4_sizeOf_65 : decode cX4_sizeOf 65 = .ok (.ireturn, 1) := by decide +kernel
set_option maxRecDepth 20000 in
theorem ggX4_blockAt_X5_reaches : GoodIn wsX4_blockAt wsX5_reaches := goodIn_r _ [6, 7, 8, 9, 36, 37, 38, 39, 40, 41, 42, 43, 44, 45] (by decide +kernel) (by decide +kernel)
set_option maxRecDepth 20000 in
theorem gX4_blockAt_X5_reaches : GoodIn wsX4_blockAt (wsV RX4 32 RX5 yX5_reaches wsX5_reaches) := goodIn_app (goodIn_of _ (by decide +kernel)) ggX4_blockAt_X5_reaches
set_option maxRecDepth 20000 in
theorem ggX4_blockAt_X4_runFrom : GoodIn wsX4_blockAt wsX4_runFrom := goodIn_r _ [14, 1, 2, 3, 4, 5, 6, 7, 8, 9, 32, 33, 34, 35, 36, 37, 38, 39, 40, 41, 42, 43, 44, 45] (by decide +kernel) (by decide +kernel)
set_option maxRecDepth 20000 in
theorem gX4_blockAt_X4_runFrom : GoodIn wsX4_blockAt (wsV RX4 39 RX4 yX4_runFrom wsX4_runFrom) := goodIn_app (goodIn_of _ (by decide +kernel)) ggX4_blockAt_X4_runFrom
set_option maxRecDepth 20000 in
theorem ggX4_blockAt_X4_isRun : GoodIn wsX4_blockAt wsX4_isRun := goodIn_r _ [18, 19, 20, 21, 13, 22, 1, 2, 3, 4, 5, 6, 7, 8, 9, 10, 11, 12, 14, 32, 33, 34, 35, 36, 37, 38, 39, 40, 41, 42, 43, 44, 45] (by decide +kernel) (by decide +kernel)
set_option maxRecDepth 20000 in
theorem gX4_blockAt_X4_isRun : GoodIn wsX4_blockAt (wsV RX4 49 RX4 yX4_isRun wsX4_isRun) := goodIn_app (goodIn_of _ (by decide +kernel)) ggX4_blockAt_X4_isRun
set_option maxRecDepth 20000 in
theorem ggX4_blockAt_X4_blocksAhead : GoodIn wsX4_blockAt wsX4_blocksAhead := goodIn_r _ [26, 1, 27, 28, 29, 30, 13, 31, 19, 20, 21, 22, 2, 3, 4, 5, 6, 7, 8, 9, 10, 11, 12, 14, 15, 16, 17, 18, 32, 33, 34, 35, 36, 37, 38, 39, 40, 41, 42, 43, 44, 45] (by decide +kernel) (by decide +kernel)
set_option maxRecDepth 20000 in
theorem gX4_blockAt_X4_blocksAhead : GoodIn wsX4_blockAt (wsV RX4 53 RX4 yX4_blocksAhead wsX4_blocksAhead) := goodIn_app (goodIn_of _ (by decide +kernel)) ggX4_blockAt_X4_blocksAhead
theorem dX4_blockAt_0 : decode cX4_blockAt 0 = .ok (.aload_n 0, 1) := by decide +kernel
theorem dX4_blockAt_1 : decode cX4_blockAt 1 = .ok (.getfield 19, 3) := by decide +kernel
theorem dX4_blockAt_4 : decode cX4_blockAt 4 = .ok (.iload_n 2, 1) := by decide +kernel
theorem dX4_blockAt_5 : decode cX4_blockAt 5 = .ok (.iload_n 3, 1) := by decide +kernel
theorem dX4_blockAt_6 : decode cX4_blockAt 6 = .ok (.iload_n 1, 1) := by decide +kernel
theorem dX4_blockAt_7 : decode cX4_blockAt 7 = .ok (.invokevirtual 32, 3) := by decide +kernel
theorem dX4_blockAt_10 : decode cX4_blockAt 10 = .ok (.ifCond .ne 5, 3) := by decide +kernel
theorem dX4_blockAt_13 : decode cX4_blockAt 13 = .ok (.iconst (-1), 1) := by decide +kernel
theorem dX4_blockAt_14 : decode cX4_blockAt 14 = .ok (.ireturn, 1) := by decide +kernel
theorem dX4_blockAt_15 : decode cX4_blockAt 15 = .ok (.iload_n 2, 1) := by decide +kernel
theorem dX4_blockAt_16 : decode cX4_blockAt 16 = .ok (.istore 4, 2) := by decide +kernel
theorem dX4_blockAt_18 : decode cX4_blockAt 18 = .ok (.iconst 0, 1) := by decide +kernel
theorem dX4_blockAt_19 : decode cX4_blockAt 19 = .ok (.istore 5, 2) := by decide +kernel
theorem dX4_blockAt_21 : decode cX4_blockAt 21 = .ok (.iload 5, 2) := by decide +kernel
theorem dX4_blockAt_23 : decode cX4_blockAt 23 = .ok (.bipush 16, 2) := by decide +kernel
theorem dX4_blockAt_25 : decode cX4_blockAt 25 = .ok (.if_icmp .ge 28, 3) := by decide +kernel
theorem dX4_blockAt_28 : decode cX4_blockAt 28 = .ok (.aload_n 0, 1) := by decide +kernel
theorem dX4_blockAt_29 : decode cX4_blockAt 29 = .ok (.getfield 19, 3) := by decide +kernel
theorem dX4_blockAt_32 : decode cX4_blockAt 32 = .ok (.iload 4, 2) := by decide +kernel
theorem dX4_blockAt_34 : decode cX4_blockAt 34 = .ok (.iconst 1, 1) := by decide +kernel
theorem dX4_blockAt_35 : decode cX4_blockAt 35 = .ok (.isub, 1) := by decide +kernel
theorem dX4_blockAt_36 : decode cX4_blockAt 36 = .ok (.iload_n 3, 1) := by decide +kernel
theorem dX4_blockAt_37 : decode cX4_blockAt 37 = .ok (.iload_n 1, 1) := by decide +kernel
theorem dX4_blockAt_38 : decode cX4_blockAt 38 = .ok (.invokevirtual 32, 3) := by decide +kernel
theorem dX4_blockAt_41 : decode cX4_blockAt 41 = .ok (.ifCond .eq 12, 3) := by decide +kernel
theorem dX4_blockAt_44 : decode cX4_blockAt 44 = .ok (.iinc 4 (-1), 3) := by decide +kernel
theorem dX4_blockAt_47 : decode cX4_blockAt 47 = .ok (.iinc 5 1, 3) := by decide +kernel
theorem dX4_blockAt_50 : decode cX4_blockAt 50 = .ok (.goto (-29), 3) := by decide +kernel
theorem dX4_blockAt_53 : decode cX4_blockAt 53 = .ok (.aload_n 0, 1) := by decide +kernel
theorem dX4_blockAt_54 : decode cX4_blockAt 54 = .ok (.iload_n 1, 1) := by decide +kernel
theorem dX4_blockAt_55 : decode cX4_blockAt 55 = .ok (.iload 4, 2) := by decide +kernel
theorem dX4_blockAt_57 : decode cX4_blockAt 57 = .ok (.iload_n 3, 1) := by decide +kernel
theorem dX4_blockAt_58 : decode cX4_blockAt 58 = .ok (.invokevirtual 39, 3) := by decide +kernel
theorem dX4_blockAt_61 : decode cX4_blockAt 61 = .ok (.istore 5, 2) := by decide +kernel
theorem dX4_blockAt_63 : decode cX4_blockAt 63 = .ok (.iload_n 3, 1) := by decide +kernel
theorem dX4_blockAt_64 : decode cX4_blockAt 64 = .ok (.istore 6, 2) := by decide +kernel
theorem dX4_blockAt_66 : decode cX4_blockAt 66 = .ok (.iconst 0, 1) := by decide +kernel
theorem dX4_blockAt_67 : decode cX4_blockAt 67 = .ok (.istore 7, 2) := by decide +kernel
theorem dX4_blockAt_69 : decode cX4_blockAt 69 = .ok (.iload 7, 2) := by decide +kernel
theorem dX4_blockAt_71 : decode cX4_blockAt 71 = .ok (.bipush 12, 2) := by decide +kernel
theorem dX4_blockAt_73 : decode cX4_blockAt 73 = .ok (.if_icmp .ge 28, 3) := by decide +kernel
theorem dX4_blockAt_76 : decode cX4_blockAt 76 = .ok (.aload_n 0, 1) := by decide +kernel
theorem dX4_blockAt_77 : decode cX4_blockAt 77 = .ok (.iload_n 1, 1) := by decide +kernel
theorem dX4_blockAt_78 : decode cX4_blockAt 78 = .ok (.iload 4, 2) := by decide +kernel
theorem dX4_blockAt_80 : decode cX4_blockAt 80 = .ok (.iload 6, 2) := by decide +kernel
theorem dX4_blockAt_82 : decode cX4_blockAt 82 = .ok (.iconst 1, 1) := by decide +kernel
theorem dX4_blockAt_83 : decode cX4_blockAt 83 = .ok (.isub, 1) := by decide +kernel
theorem dX4_blockAt_84 : decode cX4_blockAt 84 = .ok (.iload 5, 2) := by decide +kernel
theorem dX4_blockAt_86 : decode cX4_blockAt 86 = .ok (.invokevirtual 49, 3) := by decide +kernel
theorem dX4_blockAt_89 : decode cX4_blockAt 89 = .ok (.ifCond .eq 12, 3) := by decide +kernel
theorem dX4_blockAt_92 : decode cX4_blockAt 92 = .ok (.iinc 6 (-1), 3) := by decide +kernel
theorem dX4_blockAt_95 : decode cX4_blockAt 95 = .ok (.iinc 7 1, 3) := by decide +kernel
theorem dX4_blockAt_98 : decode cX4_blockAt 98 = .ok (.goto (-29), 3) := by decide +kernel
theorem dX4_blockAt_101 : decode cX4_blockAt 101 = .ok (.aload_n 0, 1) := by decide +kernel
theorem dX4_blockAt_102 : decode cX4_blockAt 102 = .ok (.iload_n 1, 1) := by decide +kernel
theorem dX4_blockAt_103 : decode cX4_blockAt 103 = .ok (.iload 4, 2) := by decide +kernel
theorem dX4_blockAt_105 : decode cX4_blockAt 105 = .ok (.iload 6, 2) := by decide +kernel
theorem dX4_blockAt_107 : decode cX4_blockAt 107 = .ok (.invokevirtual 53, 3) := by decide +kernel
theorem dX4_blockAt_110 : decode cX4_blockAt 110 = .ok (.ireturn, 1) := by decide +kernel
set_option maxRecDepth 20000 in
theorem ggX4_largestBlock_X4_beginsBlock : GoodIn wsX4_largestBlock wsX4_beginsBlock := goodIn_r _ [8, 9, 10, 11, 7, 12, 1, 13, 14, 15, 16, 17, 18, 19, 20, 21, 22, 23, 24, 25, 26, 27, 28, 33, 34, 35, 36, 37, 38, 39, 40, 41, 42, 43, 44, 45, 46] (by decide +kernel) (by decide +kernel)
set_option maxRecDepth 20000 in
theorem gX4_largestBlock_X4_beginsBlock : GoodIn wsX4_largestBlock (wsV RX4 56 RX4 yX4_beginsBlock wsX4_beginsBlock) := goodIn_app (goodIn_of _ (by decide +kernel)) ggX4_largestBlock_X4_beginsBlock
set_option maxRecDepth 20000 in
theorem ggX4_largestBlock_X4_runFrom : GoodIn wsX4_largestBlock wsX4_runFrom := goodIn_r _ [24, 1, 13, 14, 15, 16, 17, 18, 19, 20, 33, 34, 35, 36, 37, 38, 39, 40, 41, 42, 43, 44, 45, 46] (by decide +kernel) (by decide +kernel)
set_option maxRecDepth 20000 in
theorem gX4_largestBlock_X4_runFrom : GoodIn wsX4_largestBlock (wsV RX4 39 RX4 yX4_runFrom wsX4_runFrom) := goodIn_app (goodIn_of _ (by decide +kernel)) ggX4_largestBlock_X4_runFrom
set_option maxRecDepth 20000 in
theorem ggX4_largestBlock_X4_rowsFrom : GoodIn wsX4_largestBlock wsX4_rowsFrom := goodIn_r _ [32, 1, 2, 21, 22, 23, 7, 24, 13, 14, 15, 16, 17, 18, 19, 20, 25, 26, 27, 28, 9, 10, 11, 12, 33, 34, 35, 36, 37, 38, 39, 40, 41, 42, 43, 44, 45, 46] (by decide +kernel) (by decide +kernel)
set_option maxRecDepth 20000 in
theorem gX4_largestBlock_X4_rowsFrom : GoodIn wsX4_largestBlock (wsV RX4 59 RX4 yX4_rowsFrom wsX4_rowsFrom) := goodIn_app (goodIn_of _ (by decide +kernel)) ggX4_largestBlock_X4_rowsFrom
theorem dX4_largestBlock_0 : decode cX4_largestBlock 0 = .ok (.iconst (-1), 1) := by decide +kernel
theorem dX4_largestBlock_1 : decode cX4_largestBlock 1 = .ok (.istore_n 2, 1) := by decide +kernel
theorem dX4_largestBlock_2 : decode cX4_largestBlock 2 = .ok (.iconst 0, 1) := by decide +kernel
theorem dX4_largestBlock_3 : decode cX4_largestBlock 3 = .ok (.istore_n 3, 1) := by decide +kernel
theorem dX4_largestBlock_4 : decode cX4_largestBlock 4 = .ok (.iconst 0, 1) := by decide +kernel
theorem dX4_largestBlock_5 : decode cX4_largestBlock 5 = .ok (.istore 4, 2) := by decide +kernel
theorem dX4_largestBlock_7 : decode cX4_largestBlock 7 = .ok (.iconst 0, 1) := by decide +kernel
theorem dX4_largestBlock_8 : decode cX4_largestBlock 8 = .ok (.istore 5, 2) := by decide +kernel
theorem dX4_largestBlock_10 : decode cX4_largestBlock 10 = .ok (.iload 5, 2) := by decide +kernel
theorem dX4_largestBlock_12 : decode cX4_largestBlock 12 = .ok (.aload_n 0, 1) := by decide +kernel
theorem dX4_largestBlock_13 : decode cX4_largestBlock 13 = .ok (.getfield 19, 3) := by decide +kernel
theorem dX4_largestBlock_16 : decode cX4_largestBlock 16 = .ok (.getfield 23, 3) := by decide +kernel
theorem dX4_largestBlock_19 : decode cX4_largestBlock 19 = .ok (.if_icmp .ge 81, 3) := by decide +kernel
theorem dX4_largestBlock_22 : decode cX4_largestBlock 22 = .ok (.iconst 0, 1) := by decide +kernel
theorem dX4_largestBlock_23 : decode cX4_largestBlock 23 = .ok (.istore 6, 2) := by decide +kernel
theorem dX4_largestBlock_25 : decode cX4_largestBlock 25 = .ok (.iload 6, 2) := by decide +kernel
theorem dX4_largestBlock_27 : decode cX4_largestBlock 27 = .ok (.aload_n 0, 1) := by decide +kernel
theorem dX4_largestBlock_28 : decode cX4_largestBlock 28 = .ok (.getfield 19, 3) := by decide +kernel
theorem dX4_largestBlock_31 : decode cX4_largestBlock 31 = .ok (.getfield 29, 3) := by decide +kernel
theorem dX4_largestBlock_34 : decode cX4_largestBlock 34 = .ok (.if_icmp .ge 60, 3) := by decide +kernel
theorem dX4_largestBlock_37 : decode cX4_largestBlock 37 = .ok (.aload_n 0, 1) := by decide +kernel
theorem dX4_largestBlock_38 : decode cX4_largestBlock 38 = .ok (.iload_n 1, 1) := by decide +kernel
theorem dX4_largestBlock_39 : decode cX4_largestBlock 39 = .ok (.iload 6, 2) := by decide +kernel
theorem dX4_largestBlock_41 : decode cX4_largestBlock 41 = .ok (.iload 5, 2) := by decide +kernel
theorem dX4_largestBlock_43 : decode cX4_largestBlock 43 = .ok (.invokevirtual 56, 3) := by decide +kernel
theorem dX4_largestBlock_46 : decode cX4_largestBlock 46 = .ok (.ifCond .ne 6, 3) := by decide +kernel
theorem dX4_largestBlock_49 : decode cX4_largestBlock 49 = .ok (.goto 39, 3) := by decide +kernel
theorem dX4_largestBlock_52 : decode cX4_largestBlock 52 = .ok (.aload_n 0, 1) := by decide +kernel
theorem dX4_largestBlock_53 : decode cX4_largestBlock 53 = .ok (.iload_n 1, 1) := by decide +kernel
theorem dX4_largestBlock_54 : decode cX4_largestBlock 54 = .ok (.iload 6, 2) := by decide +kernel
theorem dX4_largestBlock_56 : decode cX4_largestBlock 56 = .ok (.iload 5, 2) := by decide +kernel
theorem dX4_largestBlock_58 : decode cX4_largestBlock 58 = .ok (.invokevirtual 39, 3) := by decide +kernel
theorem dX4_largestBlock_61 : decode cX4_largestBlock 61 = .ok (.aload_n 0, 1) := by decide +kernel
theorem dX4_largestBlock_62 : decode cX4_largestBlock 62 = .ok (.iload_n 1, 1) := by decide +kernel
theorem dX4_largestBlock_63 : decode cX4_largestBlock 63 = .ok (.iload 6, 2) := by decide +kernel
theorem dX4_largestBlock_65 : decode cX4_largestBlock 65 = .ok (.iload 5, 2) := by decide +kernel
theorem dX4_largestBlock_67 : decode cX4_largestBlock 67 = .ok (.invokevirtual 59, 3) := by decide +kernel
theorem dX4_largestBlock_70 : decode cX4_largestBlock 70 = .ok (.imul, 1) := by decide +kernel
theorem dX4_largestBlock_71 : decode cX4_largestBlock 71 = .ok (.istore 7, 2) := by decide +kernel
theorem dX4_largestBlock_73 : decode cX4_largestBlock 73 = .ok (.iload 7, 2) := by decide +kernel
theorem dX4_largestBlock_75 : decode cX4_largestBlock 75 = .ok (.iload_n 3, 1) := by decide +kernel
theorem dX4_largestBlock_76 : decode cX4_largestBlock 76 = .ok (.if_icmp .le 9, 3) := by decide +kernel
theorem dX4_largestBlock_79 : decode cX4_largestBlock 79 = .ok (.iload 7, 2) := by decide +kernel
theorem dX4_largestBlock_81 : decode cX4_largestBlock 81 = .ok (.istore_n 3, 1) := by decide +kernel
theorem dX4_largestBlock_82 : decode cX4_largestBlock 82 = .ok (.iload 4, 2) := by decide +kernel
theorem dX4_largestBlock_84 : decode cX4_largestBlock 84 = .ok (.istore_n 2, 1) := by decide +kernel
theorem dX4_largestBlock_85 : decode cX4_largestBlock 85 = .ok (.iinc 4 1, 3) := by decide +kernel
theorem dX4_largestBlock_88 : decode cX4_largestBlock 88 = .ok (.iinc 6 1, 3) := by decide +kernel
theorem dX4_largestBlock_91 : decode cX4_largestBlock 91 = .ok (.goto (-66), 3) := by decide +kernel
theorem dX4_largestBlock_94 : decode cX4_largestBlock 94 = .ok (.iinc 5 1, 3) := by decide +kernel
theorem dX4_largestBlock_97 : decode cX4_largestBlock 97 = .ok (.goto (-87), 3) := by decide +kernel
theorem dX4_largestBlock_100 : decode cX4_largestBlock 100 = .ok (.iload_n 2, 1) := by decide +kernel
theorem dX4_largestBlock_101 : decode cX4_largestBlock 101 = .ok (.ireturn, 1) := by decide +kernel
set_option maxRecDepth 20000 in
theorem ggX4_countOfSides_X5_reaches : GoodIn wsX4_countOfSides wsX5_reaches := goodIn_r _ [8, 9, 10, 11, 21, 22, 23, 24, 25, 26, 27, 28, 29, 30] (by decide +kernel) (by decide +kernel)
set_option maxRecDepth 20000 in
theorem gX4_countOfSides_X5_reaches : GoodIn wsX4_countOfSides (wsV RX4 32 RX5 yX5_reaches wsX5_reaches) := goodIn_app (goodIn_of _ (by decide +kernel)) ggX4_countOfSides_X5_reaches
set_option maxRecDepth 20000 in
theorem ggX4_countOfSides_X4_freeSides : GoodIn wsX4_countOfSides wsX4_freeSides := goodIn_r _ [16, 1, 4, 5, 6, 7, 8, 9, 10, 11, 17, 18, 19, 20, 21, 22, 23, 24, 25, 26, 27, 28, 29, 30] (by decide +kernel) (by decide +kernel)
set_option maxRecDepth 20000 in
theorem gX4_countOfSides_X4_freeSides : GoodIn wsX4_countOfSides (wsV RX4 62 RX4 yX4_freeSides wsX4_freeSides) := goodIn_app (goodIn_of _ (by decide +kernel)) ggX4_countOfSides_X4_freeSides
theorem dX4_countOfSides_0 : decode cX4_countOfSides 0 = .ok (.iconst 0, 1) := by decide +kernel
theorem dX4_countOfSides_1 : decode cX4_countOfSides 1 = .ok (.istore_n 2, 1) := by decide +kernel
theorem dX4_countOfSides_2 : decode cX4_countOfSides 2 = .ok (.iconst 0, 1) := by decide +kernel
theorem dX4_countOfSides_3 : decode cX4_countOfSides 3 = .ok (.istore_n 3, 1) := by decide +kernel
theorem dX4_countOfSides_4 : decode cX4_countOfSides 4 = .ok (.iload_n 3, 1) := by decide +kernel
theorem dX4_countOfSides_5 : decode cX4_countOfSides 5 = .ok (.aload_n 0, 1) := by decide +kernel
theorem dX4_countOfSides_6 : decode cX4_countOfSides 6 = .ok (.getfield 19, 3) := by decide +kernel
theorem dX4_countOfSides_9 : decode cX4_countOfSides 9 = .ok (.getfield 23, 3) := by decide +kernel
theorem dX4_countOfSides_12 : decode cX4_countOfSides 12 = .ok (.if_icmp .ge 59, 3) := by decide +kernel
theorem dX4_countOfSides_15 : decode cX4_countOfSides 15 = .ok (.iconst 0, 1) := by decide +kernel
theorem dX4_countOfSides_16 : decode cX4_countOfSides 16 = .ok (.istore 4, 2) := by decide +kernel
theorem dX4_countOfSides_18 : decode cX4_countOfSides 18 = .ok (.iload 4, 2) := by decide +kernel
theorem dX4_countOfSides_20 : decode cX4_countOfSides 20 = .ok (.aload_n 0, 1) := by decide +kernel
theorem dX4_countOfSides_21 : decode cX4_countOfSides 21 = .ok (.getfield 19, 3) := by decide +kernel
theorem dX4_countOfSides_24 : decode cX4_countOfSides 24 = .ok (.getfield 29, 3) := by decide +kernel
theorem dX4_countOfSides_27 : decode cX4_countOfSides 27 = .ok (.if_icmp .ge 38, 3) := by decide +kernel
theorem dX4_countOfSides_30 : decode cX4_countOfSides 30 = .ok (.iload_n 2, 1) := by decide +kernel
theorem dX4_countOfSides_31 : decode cX4_countOfSides 31 = .ok (.aload_n 0, 1) := by decide +kernel
theorem dX4_countOfSides_32 : decode cX4_countOfSides 32 = .ok (.getfield 19, 3) := by decide +kernel
theorem dX4_countOfSides_35 : decode cX4_countOfSides 35 = .ok (.iload 4, 2) := by decide +kernel
theorem dX4_countOfSides_37 : decode cX4_countOfSides 37 = .ok (.iload_n 3, 1) := by decide +kernel
theorem dX4_countOfSides_38 : decode cX4_countOfSides 38 = .ok (.iload_n 1, 1) := by decide +kernel
theorem dX4_countOfSides_39 : decode cX4_countOfSides 39 = .ok (.invokevirtual 32, 3) := by decide +kernel
theorem dX4_countOfSides_42 : decode cX4_countOfSides 42 = .ok (.ifCond .eq 14, 3) := by decide +kernel
theorem dX4_countOfSides_45 : decode cX4_countOfSides 45 = .ok (.aload_n 0, 1) := by decide +kernel
theorem dX4_countOfSides_46 : decode cX4_countOfSides 46 = .ok (.iload_n 1, 1) := by decide +kernel
theorem dX4_countOfSides_47 : decode cX4_countOfSides 47 = .ok (.iload 4, 2) := by decide +kernel
theorem dX4_countOfSides_49 : decode cX4_countOfSides 49 = .ok (.iload_n 3, 1) := by decide +kernel
theorem dX4_countOfSides_50 : decode cX4_countOfSides 50 = .ok (.invokevirtual 62, 3) := by decide +kernel
theorem dX4_countOfSides_53 : decode cX4_countOfSides 53 = .ok (.goto 4, 3) := by decide +kernel
theorem dX4_countOfSides_56 : decode cX4_countOfSides 56 = .ok (.iconst 0, 1) := by decide +kernel
theorem dX4_countOfSides_57 : decode cX4_countOfSides 57 = .ok (.iadd, 1) := by decide +kernel
theorem dX4_countOfSides_58 : decode cX4_countOfSides 58 = .ok (.istore_n 2, 1) := by decide +kernel
theorem dX4_countOfSides_59 : decode cX4_countOfSides 59 = .ok (.iinc 4 1, 3) := by decide +kernel
theorem dX4_countOfSides_62 : decode cX4_countOfSides 62 = .ok (.goto (-44), 3) := by decide +kernel
theorem dX4_countOfSides_65 : decode cX4_countOfSides 65 = .ok (.iinc 3 1, 3) := by decide +kernel
theorem dX4_countOfSides_68 : decode cX4_countOfSides 68 = .ok (.goto (-64), 3) := by decide +kernel
theorem dX4_countOfSides_71 : decode cX4_countOfSides 71 = .ok (.iload_n 2, 1) := by decide +kernel
theorem dX4_countOfSides_72 : decode cX4_countOfSides 72 = .ok (.ireturn, 1) := by decide +kernel
set_option maxRecDepth 20000 in
theorem ggX4_freeSides_X5_reaches : GoodIn wsX4_freeSides wsX5_reaches := goodIn_r _ [6, 7, 8, 9, 14, 15, 16, 17, 18, 19, 20, 21, 22, 23] (by decide +kernel) (by decide +kernel)
set_option maxRecDepth 20000 in
theorem gX4_freeSides_X5_reaches : GoodIn wsX4_freeSides (wsV RX4 32 RX5 yX5_reaches wsX5_reaches) := goodIn_app (goodIn_of _ (by decide +kernel)) ggX4_freeSides_X5_reaches
theorem dX4_freeSides_0 : decode cX4_freeSides 0 = .ok (.aload_n 0, 1) := by decide +kernel
theorem dX4_freeSides_1 : decode cX4_freeSides 1 = .ok (.getfield 19, 3) := by decide +kernel
theorem dX4_freeSides_4 : decode cX4_freeSides 4 = .ok (.iload_n 2, 1) := by decide +kernel
theorem dX4_freeSides_5 : decode cX4_freeSides 5 = .ok (.iconst 1, 1) := by decide +kernel
theorem dX4_freeSides_6 : decode cX4_freeSides 6 = .ok (.isub, 1) := by decide +kernel
theorem dX4_freeSides_7 : decode cX4_freeSides 7 = .ok (.iload_n 3, 1) := by decide +kernel
theorem dX4_freeSides_8 : decode cX4_freeSides 8 = .ok (.iload_n 1, 1) := by decide +kernel
theorem dX4_freeSides_9 : decode cX4_freeSides 9 = .ok (.invokevirtual 32, 3) := by decide +kernel
theorem dX4_freeSides_12 : decode cX4_freeSides 12 = .ok (.ifCond .eq 7, 3) := by decide +kernel
theorem dX4_freeSides_15 : decode cX4_freeSides 15 = .ok (.iconst 0, 1) := by decide +kernel
theorem dX4_freeSides_16 : decode cX4_freeSides 16 = .ok (.goto 4, 3) := by decide +kernel
theorem dX4_freeSides_19 : decode cX4_freeSides 19 = .ok (.iconst 1, 1) := by decide +kernel
theorem dX4_freeSides_20 : decode cX4_freeSides 20 = .ok (.istore 4, 2) := by decide +kernel
theorem dX4_freeSides_22 : decode cX4_freeSides 22 = .ok (.aload_n 0, 1) := by decide +kernel
theorem dX4_freeSides_23 : decode cX4_freeSides 23 = .ok (.getfield 19, 3) := by decide +kernel
theorem dX4_freeSides_26 : decode cX4_freeSides 26 = .ok (.iload_n 2, 1) := by decide +kernel
theorem dX4_freeSides_27 : decode cX4_freeSides 27 = .ok (.iconst 1, 1) := by decide +kernel
theorem dX4_freeSides_28 : decode cX4_freeSides 28 = .ok (.iadd, 1) := by decide +kernel
theorem dX4_freeSides_29 : decode cX4_freeSides 29 = .ok (.iload_n 3, 1) := by decide +kernel
theorem dX4_freeSides_30 : decode cX4_freeSides 30 = .ok (.iload_n 1, 1) := by decide +kernel
theorem dX4_freeSides_31 : decode cX4_freeSides 31 = .ok (.invokevirtual 32, 3) := by decide +kernel
theorem dX4_freeSides_34 : decode cX4_freeSides 34 = .ok (.ifCond .eq 7, 3) := by decide +kernel
theorem dX4_freeSides_37 : decode cX4_freeSides 37 = .ok (.iconst 0, 1) := by decide +kernel
theorem dX4_freeSides_38 : decode cX4_freeSides 38 = .ok (.goto 4, 3) := by decide +kernel
theorem dX4_freeSides_41 : decode cX4_freeSides 41 = .ok (.iconst 1, 1) := by decide +kernel
theorem dX4_freeSides_42 : decode cX4_freeSides 42 = .ok (.istore 5, 2) := by decide +kernel
theorem dX4_freeSides_44 : decode cX4_freeSides 44 = .ok (.aload_n 0, 1) := by decide +kernel
theorem dX4_freeSides_45 : decode cX4_freeSides 45 = .ok (.getfield 19, 3) := by decide +kernel
theorem dX4_freeSides_48 : decode cX4_freeSides 48 = .ok (.iload_n 2, 1) := by decide +kernel
theorem dX4_freeSides_49 : decode cX4_freeSides 49 = .ok (.iload_n 3, 1) := by decide +kernel
theorem dX4_freeSides_50 : decode cX4_freeSides 50 = .ok (.iconst 1, 1) := by decide +kernel
theorem dX4_freeSides_51 : decode cX4_freeSides 51 = .ok (.isub, 1) := by decide +kernel
theorem dX4_freeSides_52 : decode cX4_freeSides 52 = .ok (.iload_n 1, 1) := by decide +kernel
theorem dX4_freeSides_53 : decode cX4_freeSides 53 = .ok (.invokevirtual 32, 3) := by decide +kernel
theorem dX4_freeSides_56 : decode cX4_freeSides 56 = .ok (.ifCond .eq 7, 3) := by decide +kernel
theorem dX4_freeSides_59 : decode cX4_freeSides 59 = .ok (.iconst 0, 1) := by decide +kernel
theorem dX4_freeSides_60 : decode cX4_freeSides 60 = .ok (.goto 4, 3) := by decide +kernel
theorem dX4_freeSides_63 : decode cX4_freeSides 63 = .ok (.iconst 1, 1) := by decide +kernel
theorem dX4_freeSides_64 : decode cX4_freeSides 64 = .ok (.istore 6, 2) := by decide +kernel
theorem dX4_freeSides_66 : decode cX4_freeSides 66 = .ok (.aload_n 0, 1) := by decide +kernel
theorem dX4_freeSides_67 : decode cX4_freeSides 67 = .ok (.getfield 19, 3) := by decide +kernel
theorem dX4_freeSides_70 : decode cX4_freeSides 70 = .ok (.iload_n 2, 1) := by decide +kernel
theorem dX4_freeSides_71 : decode cX4_freeSides 71 = .ok (.iload_n 3, 1) := by decide +kernel
theorem dX4_freeSides_72 : decode cX4_freeSides 72 = .ok (.iconst 1, 1) := by decide +kernel
theorem dX4_freeSides_73 : decode cX4_freeSides 73 = .ok (.iadd, 1) := by decide +kernel
theorem dX4_freeSides_74 : decode cX4_freeSides 74 = .ok (.iload_n 1, 1) := by decide +kernel
theorem dX4_freeSides_75 : decode cX4_freeSides 75 = .ok (.invokevirtual 32, 3) := by decide +kernel
theorem dX4_freeSides_78 : decode cX4_freeSides 78 = .ok (.ifCond .eq 7, 3) := by decide +kernel
theorem dX4_freeSides_81 : decode cX4_freeSides 81 = .ok (.iconst 0, 1) := by decide +kernel
theorem dX4_freeSides_82 : decode cX4_freeSides 82 = .ok (.goto 4, 3) := by decide +kernel
theorem dX4_freeSides_85 : decode cX4_freeSides 85 = .ok (.iconst 1, 1) := by decide +kernel
theorem dX4_freeSides_86 : decode cX4_freeSides 86 = .ok (.istore 7, 2) := by decide +kernel
theorem dX4_freeSides_88 : decode cX4_freeSides 88 = .ok (.iload 4, 2) := by decide +kernel
theorem dX4_freeSides_90 : decode cX4_freeSides 90 = .ok (.iload 5, 2) := by decide +kernel
theorem dX4_freeSides_92 : decode cX4_freeSides 92 = .ok (.iadd, 1) := by decide +kernel
theorem dX4_freeSides_93 : decode cX4_freeSides 93 = .ok (.iload 6, 2) := by decide +kernel
theorem dX4_freeSides_95 : decode cX4_freeSides 95 = .ok (.iadd, 1) := by decide +kernel
theorem dX4_freeSides_96 : decode cX4_freeSides 96 = .ok (.iload 7, 2) := by decide +kernel
theorem dX4_freeSides_98 : decode cX4_freeSides 98 = .ok (.iadd, 1) := by decide +kernel
theorem dX4_freeSides_99 : decode cX4_freeSides 99 = .ok (.ireturn, 1) := by decide +kernel
set_option maxRecDepth 20000 in
theorem ggX4_countOfParts_X4_countOfGroups : GoodIn wsX4_countOfParts wsX4_countOfGroups := goodIn_r _ [5, 6, 7, 8, 9, 10, 11, 12, 13, 14, 15, 16, 17, 18, 19, 20, 4, 21, 22, 23, 24, 25, 26, 27, 28, 29, 30, 31, 32, 33, 34, 35, 36, 37, 38, 39, 40, 41, 42, 43, 44, 45, 46, 47, 48, 49, 50, 51, 52, 53] (by decide +kernel) (by decide +kernel)
set_option maxRecDepth 20000 in
theorem gX4_countOfParts_X4_countOfGroups : GoodIn wsX4_countOfParts (wsV RX4 65 RX4 yX4_countOfGroups wsX4_countOfGroups) := goodIn_app (goodIn_of _ (by decide +kernel)) ggX4_countOfParts_X4_countOfGroups
theorem dX4_countOfParts_0 : decode cX4_countOfParts 0 = .ok (.aload_n 0, 1) := by decide +kernel
theorem dX4_countOfParts_1 : decode cX4_countOfParts 1 = .ok (.iload_n 1, 1) := by decide +kernel
theorem dX4_countOfParts_2 : decode cX4_countOfParts 2 = .ok (.iconst 1, 1) := by decide +kernel
theorem dX4_countOfParts_3 : decode cX4_countOfParts 3 = .ok (.invokevirtual 65, 3) := by decide +kernel
theorem dX4_countOfParts_6 : decode cX4_countOfParts 6 = .ok (.ireturn, 1) := by decide +kernel
set_option maxRecDepth 20000 in
theorem ggX4_countOfHollows_X4_countOfGroups : GoodIn wsX4_countOfHollows wsX4_countOfGroups := goodIn_r _ [5, 6, 7, 8, 9, 10, 11, 12, 13, 14, 15, 16, 17, 18, 19, 20, 4, 21, 22, 23, 24, 25, 26, 27, 28, 29, 30, 31, 32, 33, 34, 35, 36, 37, 38, 39, 40, 41, 42, 43, 44, 45, 46, 47, 48, 49, 50, 51, 52, 53] (by decide +kernel) (by decide +kernel)
set_option maxRecDepth 20000 in
theorem gX4_countOfHollows_X4_countOfGroups : GoodIn wsX4_countOfHollows (wsV RX4 65 RX4 yX4_countOfGroups wsX4_countOfGroups) := goodIn_app (goodIn_of _ (by decide +kernel)) ggX4_countOfHollows_X4_countOfGroups
theorem dX4_countOfHollows_0 : decode cX4_countOfHollows 0 = .ok (.aload_n 0, 1) := by decide +kernel
theorem dX4_countOfHollows_1 : decode cX4_countOfHollows 1 = .ok (.iload_n 1, 1) := by decide +kernel
theorem dX4_countOfHollows_2 : decode cX4_countOfHollows 2 = .ok (.iconst 0, 1) := by decide +kernel
theorem dX4_countOfHollows_3 : decode cX4_countOfHollows 3 = .ok (.invokevirtual 65, 3) := by decide +kernel
theorem dX4_countOfHollows_6 : decode cX4_countOfHollows 6 = .ok (.ireturn, 1) := by decide +kernel
set_option maxRecDepth 20000 in
theorem ggX4_countOfGroups_X5_reaches : GoodIn wsX4_countOfGroups wsX5_reaches := goodIn_r _ [9, 10, 11, 12, 40, 41, 42, 43, 44, 45, 46, 47, 48, 49] (by decide +kernel) (by decide +kernel)
set_option maxRecDepth 20000 in
theorem gX4_countOfGroups_X5_reaches : GoodIn wsX4_countOfGroups (wsV RX4 32 RX5 yX5_reaches wsX5_reaches) := goodIn_app (goodIn_of _ (by decide +kernel)) ggX4_countOfGroups_X5_reaches
set_option maxRecDepth 20000 in
theorem ggX4_countOfGroups_X4_wasQueued : GoodIn wsX4_countOfGroups wsX4_wasQueued := goodIn_r _ [17, 1, 36, 37, 38, 39] (by decide +kernel) (by decide +kernel)
set_option maxRecDepth 20000 in
theorem gX4_countOfGroups_X4_wasQueued : GoodIn wsX4_countOfGroups (wsV RX4 69 RX4 yX4_wasQueued wsX4_wasQueued) := goodIn_app (goodIn_of _ (by decide +kernel)) ggX4_countOfGroups_X4_wasQueued
set_option maxRecDepth 20000 in
theorem ggX4_countOfGroups_X4_visitGroup : GoodIn wsX4_countOfGroups wsX4_visitGroup := goodIn_r _ [21, 22, 23, 24, 25, 26, 16, 27, 2, 1, 28, 29, 30, 8, 31, 10, 11, 5, 6, 7, 9, 12, 13, 14, 15, 17, 32, 33, 34, 35, 4, 3, 36, 37, 38, 39, 40, 41, 42, 43, 44, 45, 46, 47, 48, 49] (by decide +kernel) (by decide +kernel)
set_option maxRecDepth 20000 in
theorem gX4_countOfGroups_X4_visitGroup : GoodIn wsX4_countOfGroups (wsV RX4 73 RX4 yX4_visitGroup wsX4_visitGroup) := goodIn_app (goodIn_of _ (by decide +kernel)) ggX4_countOfGroups_X4_visitGroup
theorem dX4_countOfGroups_0 : decode cX4_countOfGroups 0 = .ok (.iconst 0, 1) := by decide +kernel
theorem dX4_countOfGroups_1 : decode cX4_countOfGroups 1 = .ok (.istore_n 3, 1) := by decide +kernel
theorem dX4_countOfGroups_2 : decode cX4_countOfGroups 2 = .ok (.iload_n 3, 1) := by decide +kernel
theorem dX4_countOfGroups_3 : decode cX4_countOfGroups 3 = .ok (.aload_n 0, 1) := by decide +kernel
theorem dX4_countOfGroups_4 : decode cX4_countOfGroups 4 = .ok (.getfield 15, 3) := by decide +kernel
theorem dX4_countOfGroups_7 : decode cX4_countOfGroups 7 = .ok (.arraylength, 1) := by decide +kernel
theorem dX4_countOfGroups_8 : decode cX4_countOfGroups 8 = .ok (.if_icmp .ge 16, 3) := by decide +kernel
theorem dX4_countOfGroups_11 : decode cX4_countOfGroups 11 = .ok (.aload_n 0, 1) := by decide +kernel
theorem dX4_countOfGroups_12 : decode cX4_countOfGroups 12 = .ok (.getfield 15, 3) := by decide +kernel
theorem dX4_countOfGroups_15 : decode cX4_countOfGroups 15 = .ok (.iload_n 3, 1) := by decide +kernel
theorem dX4_countOfGroups_16 : decode cX4_countOfGroups 16 = .ok (.iconst 0, 1) := by decide +kernel
theorem dX4_countOfGroups_17 : decode cX4_countOfGroups 17 = .ok (.bastore, 1) := by decide +kernel
theorem dX4_countOfGroups_18 : decode cX4_countOfGroups 18 = .ok (.iinc 3 1, 3) := by decide +kernel
theorem dX4_countOfGroups_21 : decode cX4_countOfGroups 21 = .ok (.goto (-19), 3) := by decide +kernel
theorem dX4_countOfGroups_24 : decode cX4_countOfGroups 24 = .ok (.iconst 0, 1) := by decide +kernel
theorem dX4_countOfGroups_25 : decode cX4_countOfGroups 25 = .ok (.istore_n 3, 1) := by decide +kernel
theorem dX4_countOfGroups_26 : decode cX4_countOfGroups 26 = .ok (.iconst 0, 1) := by decide +kernel
theorem dX4_countOfGroups_27 : decode cX4_countOfGroups 27 = .ok (.istore 4, 2) := by decide +kernel
theorem dX4_countOfGroups_29 : decode cX4_countOfGroups 29 = .ok (.iload 4, 2) := by decide +kernel
theorem dX4_countOfGroups_31 : decode cX4_countOfGroups 31 = .ok (.aload_n 0, 1) := by decide +kernel
theorem dX4_countOfGroups_32 : decode cX4_countOfGroups 32 = .ok (.getfield 19, 3) := by decide +kernel
theorem dX4_countOfGroups_35 : decode cX4_countOfGroups 35 = .ok (.getfield 23, 3) := by decide +kernel
theorem dX4_countOfGroups_38 : decode cX4_countOfGroups 38 = .ok (.if_icmp .ge 86, 3) := by decide +kernel
theorem dX4_countOfGroups_41 : decode cX4_countOfGroups 41 = .ok (.iconst 0, 1) := by decide +kernel
theorem dX4_countOfGroups_42 : decode cX4_countOfGroups 42 = .ok (.istore 5, 2) := by decide +kernel
theorem dX4_countOfGroups_44 : decode cX4_countOfGroups 44 = .ok (.iload 5, 2) := by decide +kernel
theorem dX4_countOfGroups_46 : decode cX4_countOfGroups 46 = .ok (.aload_n 0, 1) := by decide +kernel
theorem dX4_countOfGroups_47 : decode cX4_countOfGroups 47 = .ok (.getfield 19, 3) := by decide +kernel
theorem dX4_countOfGroups_50 : decode cX4_countOfGroups 50 = .ok (.getfield 29, 3) := by decide +kernel
theorem dX4_countOfGroups_53 : decode cX4_countOfGroups 53 = .ok (.if_icmp .ge 65, 3) := by decide +kernel
theorem dX4_countOfGroups_56 : decode cX4_countOfGroups 56 = .ok (.aload_n 0, 1) := by decide +kernel
theorem dX4_countOfGroups_57 : decode cX4_countOfGroups 57 = .ok (.getfield 19, 3) := by decide +kernel
theorem dX4_countOfGroups_60 : decode cX4_countOfGroups 60 = .ok (.iload 5, 2) := by decide +kernel
theorem dX4_countOfGroups_62 : decode cX4_countOfGroups 62 = .ok (.iload 4, 2) := by decide +kernel
theorem dX4_countOfGroups_64 : decode cX4_countOfGroups 64 = .ok (.iload_n 1, 1) := by decide +kernel
theorem dX4_countOfGroups_65 : decode cX4_countOfGroups 65 = .ok (.invokevirtual 32, 3) := by decide +kernel
theorem dX4_countOfGroups_68 : decode cX4_countOfGroups 68 = .ok (.iload_n 2, 1) := by decide +kernel
theorem dX4_countOfGroups_69 : decode cX4_countOfGroups 69 = .ok (.if_icmp .ne 43, 3) := by decide +kernel
theorem dX4_countOfGroups_72 : decode cX4_countOfGroups 72 = .ok (.aload_n 0, 1) := by decide +kernel
theorem dX4_countOfGroups_73 : decode cX4_countOfGroups 73 = .ok (.iload 5, 2) := by decide +kernel
theorem dX4_countOfGroups_75 : decode cX4_countOfGroups 75 = .ok (.iload 4, 2) := by decide +kernel
theorem dX4_countOfGroups_77 : decode cX4_countOfGroups 77 = .ok (.invokevirtual 69, 3) := by decide +kernel
theorem dX4_countOfGroups_80 : decode cX4_countOfGroups 80 = .ok (.ifCond .ne 32, 3) := by decide +kernel
theorem dX4_countOfGroups_83 : decode cX4_countOfGroups 83 = .ok (.aload_n 0, 1) := by decide +kernel
theorem dX4_countOfGroups_84 : decode cX4_countOfGroups 84 = .ok (.iload_n 1, 1) := by decide +kernel
theorem dX4_countOfGroups_85 : decode cX4_countOfGroups 85 = .ok (.iload 5, 2) := by decide +kernel
theorem dX4_countOfGroups_87 : decode cX4_countOfGroups 87 = .ok (.iload 4, 2) := by decide +kernel
theorem dX4_countOfGroups_89 : decode cX4_countOfGroups 89 = .ok (.iload_n 2, 1) := by decide +kernel
theorem dX4_countOfGroups_90 : decode cX4_countOfGroups 90 = .ok (.invokevirtual 73, 3) := by decide +kernel
theorem dX4_countOfGroups_93 : decode cX4_countOfGroups 93 = .ok (.istore 6, 2) := by decide +kernel
theorem dX4_countOfGroups_95 : decode cX4_countOfGroups 95 = .ok (.iload_n 3, 1) := by decide +kernel
theorem dX4_countOfGroups_96 : decode cX4_countOfGroups 96 = .ok (.iload_n 2, 1) := by decide +kernel
theorem dX4_countOfGroups_97 : decode cX4_countOfGroups 97 = .ok (.ifCond .ne 8, 3) := by decide +kernel
theorem dX4_countOfGroups_100 : decode cX4_countOfGroups 100 = .ok (.iload 6, 2) := by decide +kernel
theorem dX4_countOfGroups_102 : decode cX4_countOfGroups 102 = .ok (.ifCond .ne 7, 3) := by decide +kernel
theorem dX4_countOfGroups_105 : decode cX4_countOfGroups 105 = .ok (.iconst 1, 1) := by decide +kernel
theorem dX4_countOfGroups_106 : decode cX4_countOfGroups 106 = .ok (.goto 4, 3) := by decide +kernel
theorem dX4_countOfGroups_109 : decode cX4_countOfGroups 109 = .ok (.iconst 0, 1) := by decide +kernel
theorem dX4_countOfGroups_110 : decode cX4_countOfGroups 110 = .ok (.iadd, 1) := by decide +kernel
theorem dX4_countOfGroups_111 : decode cX4_countOfGroups 111 = .ok (.istore_n 3, 1) := by decide +kernel
theorem dX4_countOfGroups_112 : decode cX4_countOfGroups 112 = .ok (.iinc 5 1, 3) := by decide +kernel
theorem dX4_countOfGroups_115 : decode cX4_countOfGroups 115 = .ok (.goto (-71), 3) := by decide +kernel
theorem dX4_countOfGroups_118 : decode cX4_countOfGroups 118 = .ok (.iinc 4 1, 3) := by decide +kernel
theorem dX4_countOfGroups_121 : decode cX4_countOfGroups 121 = .ok (.goto (-92), 3) := by decide +kernel
theorem dX4_countOfGroups_124 : decode cX4_countOfGroups 124 = .ok (.iload_n 3, 1) := by decide +kernel
theorem dX4_countOfGroups_125 : decode cX4_countOfGroups 125 = .ok (.ireturn, 1) := by decide +kernel
set_option maxRecDepth 20000 in
theorem ggX4_visitGroup_X4_visit : GoodIn wsX4_visitGroup wsX4_visit := goodIn_r _ [7, 8, 1, 2, 9, 10, 11, 12, 13, 14, 15, 16, 17, 18, 19, 20, 21, 22, 23, 24, 6, 25, 32, 33, 34, 35, 36, 37, 38, 39, 40, 41, 42, 43, 44, 45] (by decide +kernel) (by decide +kernel)
set_option maxRecDepth 20000 in
theorem gX4_visitGroup_X4_visit : GoodIn wsX4_visitGroup (wsV RX4 80 RX4 yX4_visit wsX4_visit) := goodIn_app (goodIn_of _ (by decide +kernel)) ggX4_visitGroup_X4_visit
set_option maxRecDepth 20000 in
theorem ggX4_visitGroup_X4_isAtEdge : GoodIn wsX4_visitGroup wsX4_isAtEdge := goodIn_r _ [29, 8, 30, 31, 32, 33, 34, 35, 36, 37, 38, 39, 40, 41, 42, 43, 44, 45] (by decide +kernel) (by decide +kernel)
set_option maxRecDepth 20000 in
theorem gX4_visitGroup_X4_isAtEdge : GoodIn wsX4_visitGroup (wsV RX4 84 RX4 yX4_isAtEdge wsX4_isAtEdge) := goodIn_app (goodIn_of _ (by decide +kernel)) ggX4_visitGroup_X4_isAtEdge
theorem dX4_visitGroup_0 : decode cX4_visitGroup 0 = .ok (.iconst 0, 1) := by decide +kernel
theorem dX4_visitGroup_1 : decode cX4_visitGroup 1 = .ok (.istore 5, 2) := by decide +kernel
theorem dX4_visitGroup_3 : decode cX4_visitGroup 3 = .ok (.aload_n 0, 1) := by decide +kernel
theorem dX4_visitGroup_4 : decode cX4_visitGroup 4 = .ok (.iconst 0, 1) := by decide +kernel
theorem dX4_visitGroup_5 : decode cX4_visitGroup 5 = .ok (.putfield 77, 3) := by decide +kernel
theorem dX4_visitGroup_8 : decode cX4_visitGroup 8 = .ok (.aload_n 0, 1) := by decide +kernel
theorem dX4_visitGroup_9 : decode cX4_visitGroup 9 = .ok (.iload_n 1, 1) := by decide +kernel
theorem dX4_visitGroup_10 : decode cX4_visitGroup 10 = .ok (.iload_n 2, 1) := by decide +kernel
theorem dX4_visitGroup_11 : decode cX4_visitGroup 11 = .ok (.iload_n 3, 1) := by decide +kernel
theorem dX4_visitGroup_12 : decode cX4_visitGroup 12 = .ok (.iload 4, 2) := by decide +kernel
theorem dX4_visitGroup_14 : decode cX4_visitGroup 14 = .ok (.invokevirtual 80, 3) := by decide +kernel
theorem dX4_visitGroup_17 : decode cX4_visitGroup 17 = .ok (.iconst 0, 1) := by decide +kernel
theorem dX4_visitGroup_18 : decode cX4_visitGroup 18 = .ok (.istore 6, 2) := by decide +kernel
theorem dX4_visitGroup_20 : decode cX4_visitGroup 20 = .ok (.iload 6, 2) := by decide +kernel
theorem dX4_visitGroup_22 : decode cX4_visitGroup 22 = .ok (.aload_n 0, 1) := by decide +kernel
theorem dX4_visitGroup_23 : decode cX4_visitGroup 23 = .ok (.getfield 77, 3) := by decide +kernel
theorem dX4_visitGroup_26 : decode cX4_visitGroup 26 = .ok (.if_icmp .ge 118, 3) := by decide +kernel
theorem dX4_visitGroup_29 : decode cX4_visitGroup 29 = .ok (.iload 6, 2) := by decide +kernel
theorem dX4_visitGroup_31 : decode cX4_visitGroup 31 = .ok (.aload_n 0, 1) := by decide +kernel
theorem dX4_visitGroup_32 : decode cX4_visitGroup 32 = .ok (.getfield 9, 3) := by decide +kernel
theorem dX4_visitGroup_35 : decode cX4_visitGroup 35 = .ok (.arraylength, 1) := by decide +kernel
theorem dX4_visitGroup_36 : decode cX4_visitGroup 36 = .ok (.if_icmp .ge 108, 3) := by decide +kernel
theorem dX4_visitGroup_39 : decode cX4_visitGroup 39 = .ok (.aload_n 0, 1) := by decide +kernel
theorem dX4_visitGroup_40 : decode cX4_visitGroup 40 = .ok (.getfield 9, 3) := by decide +kernel
theorem dX4_visitGroup_43 : decode cX4_visitGroup 43 = .ok (.iload 6, 2) := by decide +kernel
theorem dX4_visitGroup_45 : decode cX4_visitGroup 45 = .ok (.iaload, 1) := by decide +kernel
theorem dX4_visitGroup_46 : decode cX4_visitGroup 46 = .ok (.bipush 16, 2) := by decide +kernel
theorem dX4_visitGroup_48 : decode cX4_visitGroup 48 = .ok (.irem, 1) := by decide +kernel
theorem dX4_visitGroup_49 : decode cX4_visitGroup 49 = .ok (.istore 7, 2) := by decide +kernel
theorem dX4_visitGroup_51 : decode cX4_visitGroup 51 = .ok (.aload_n 0, 1) := by decide +kernel
theorem dX4_visitGroup_52 : decode cX4_visitGroup 52 = .ok (.getfield 9, 3) := by decide +kernel
theorem dX4_visitGroup_55 : decode cX4_visitGroup 55 = .ok (.iload 6, 2) := by decide +kernel
theorem dX4_visitGroup_57 : decode cX4_visitGroup 57 = .ok (.iaload, 1) := by decide +kernel
theorem dX4_visitGroup_58 : decode cX4_visitGroup 58 = .ok (.bipush 16, 2) := by decide +kernel
theorem dX4_visitGroup_60 : decode cX4_visitGroup 60 = .ok (.idiv, 1) := by decide +kernel
theorem dX4_visitGroup_61 : decode cX4_visitGroup 61 = .ok (.istore 8, 2) := by decide +kernel
theorem dX4_visitGroup_63 : decode cX4_visitGroup 63 = .ok (.iload 5, 2) := by decide +kernel
theorem dX4_visitGroup_65 : decode cX4_visitGroup 65 = .ok (.ifCond .ne 14, 3) := by decide +kernel
theorem dX4_visitGroup_68 : decode cX4_visitGroup 68 = .ok (.aload_n 0, 1) := by decide +kernel
theorem dX4_visitGroup_69 : decode cX4_visitGroup 69 = .ok (.iload 7, 2) := by decide +kernel
theorem dX4_visitGroup_71 : decode cX4_visitGroup 71 = .ok (.iload 8, 2) := by decide +kernel
theorem dX4_visitGroup_73 : decode cX4_visitGroup 73 = .ok (.invokevirtual 84, 3) := by decide +kernel
theorem dX4_visitGroup_76 : decode cX4_visitGroup 76 = .ok (.ifCond .eq 7, 3) := by decide +kernel
theorem dX4_visitGroup_79 : decode cX4_visitGroup 79 = .ok (.iconst 1, 1) := by decide +kernel
theorem dX4_visitGroup_80 : decode cX4_visitGroup 80 = .ok (.goto 4, 3) := by decide +kernel
theorem dX4_visitGroup_83 : decode cX4_visitGroup 83 = .ok (.iconst 0, 1) := by decide +kernel
theorem dX4_visitGroup_84 : decode cX4_visitGroup 84 = .ok (.istore 5, 2) := by decide +kernel
theorem dX4_visitGroup_86 : decode cX4_visitGroup 86 = .ok (.aload_n 0, 1) := by decide +kernel
theorem dX4_visitGroup_87 : decode cX4_visitGroup 87 = .ok (.iload_n 1, 1) := by decide +kernel
theorem dX4_visitGroup_88 : decode cX4_visitGroup 88 = .ok (.iload 7, 2) := by decide +kernel
theorem dX4_visitGroup_90 : decode cX4_visitGroup 90 = .ok (.iconst 1, 1) := by decide +kernel
theorem dX4_visitGroup_91 : decode cX4_visitGroup 91 = .ok (.isub, 1) := by decide +kernel
theorem dX4_visitGroup_92 : decode cX4_visitGroup 92 = .ok (.iload 8, 2) := by decide +kernel
theorem dX4_visitGroup_94 : decode cX4_visitGroup 94 = .ok (.iload 4, 2) := by decide +kernel
theorem dX4_visitGroup_96 : decode cX4_visitGroup 96 = .ok (.invokevirtual 80, 3) := by decide +kernel
theorem dX4_visitGroup_99 : decode cX4_visitGroup 99 = .ok (.aload_n 0, 1) := by decide +kernel
theorem dX4_visitGroup_100 : decode cX4_visitGroup 100 = .ok (.iload_n 1, 1) := by decide +kernel
theorem dX4_visitGroup_101 : decode cX4_visitGroup 101 = .ok (.iload 7, 2) := by decide +kernel
theorem dX4_visitGroup_103 : decode cX4_visitGroup 103 = .ok (.iconst 1, 1) := by decide +kernel
theorem dX4_visitGroup_104 : decode cX4_visitGroup 104 = .ok (.iadd, 1) := by decide +kernel
theorem dX4_visitGroup_105 : decode cX4_visitGroup 105 = .ok (.iload 8, 2) := by decide +kernel
theorem dX4_visitGroup_107 : decode cX4_visitGroup 107 = .ok (.iload 4, 2) := by decide +kernel
theorem dX4_visitGroup_109 : decode cX4_visitGroup 109 = .ok (.invokevirtual 80, 3) := by decide +kernel
theorem dX4_visitGroup_112 : decode cX4_visitGroup 112 = .ok (.aload_n 0, 1) := by decide +kernel
theorem dX4_visitGroup_113 : decode cX4_visitGroup 113 = .ok (.iload_n 1, 1) := by decide +kernel
theorem dX4_visitGroup_114 : decode cX4_visitGroup 114 = .ok (.iload 7, 2) := by decide +kernel
theorem dX4_visitGroup_116 : decode cX4_visitGroup 116 = .ok (.iload 8, 2) := by decide +kernel
theorem dX4_visitGroup_118 : decode cX4_visitGroup 118 = .ok (.iconst 1, 1) := by decide +kernel
theorem dX4_visitGroup_119 : decode cX4_visitGroup 119 = .ok (.isub, 1) := by decide +kernel
theorem dX4_visitGroup_120 : decode cX4_visitGroup 120 = .ok (.iload 4, 2) := by decide +kernel
theorem dX4_visitGroup_122 : decode cX4_visitGroup 122 = .ok (.invokevirtual 80, 3) := by decide +kernel
theorem dX4_visitGroup_125 : decode cX4_visitGroup 125 = .ok (.aload_n 0, 1) := by decide +kernel
theorem dX4_visitGroup_126 : decode cX4_visitGroup 126 = .ok (.iload_n 1, 1) := by decide +kernel
theorem dX4_visitGroup_127 : decode cX4_visitGroup 127 = .ok (.iload 7, 2) := by decide +kernel
theorem dX4_visitGroup_129 : decode cX4_visitGroup 129 = .ok (.iload 8, 2) := by decide +kernel
theorem dX4_visitGroup_131 : decode cX4_visitGroup 131 = .ok (.iconst 1, 1) := by decide +kernel
theorem dX4_visitGroup_132 : decode cX4_visitGroup 132 = .ok (.iadd, 1) := by decide +kernel
theorem dX4_visitGroup_133 : decode cX4_visitGroup 133 = .ok (.iload 4, 2) := by decide +kernel
theorem dX4_visitGroup_135 : decode cX4_visitGroup 135 = .ok (.invokevirtual 80, 3) := by decide +kernel
theorem dX4_visitGroup_138 : decode cX4_visitGroup 138 = .ok (.iinc 6 1, 3) := by decide +kernel
theorem dX4_visitGroup_141 : decode cX4_visitGroup 141 = .ok (.goto (-121), 3) := by decide +kernel
theorem dX4_visitGroup_144 : decode cX4_visitGroup 144 = .ok (.iload 5, 2) := by decide +kernel
theorem dX4_visitGroup_146 : decode cX4_visitGroup 146 = .ok (.ireturn, 1) := by decide +kernel
set_option maxRecDepth 20000 in
theorem ggX4_visit_X5_has : GoodIn wsX4_visit wsX5_has := goodIn_r _ [9, 10, 11, 26, 27, 28, 29, 30, 31, 32, 33, 34, 35] (by decide +kernel) (by decide +kernel)
set_option maxRecDepth 20000 in
theorem gX4_visit_X5_has : GoodIn wsX4_visit (wsV RX4 87 RX5 yX5_has wsX5_has) := goodIn_app (goodIn_of _ (by decide +kernel)) ggX4_visit_X5_has
set_option maxRecDepth 20000 in
theorem ggX4_visit_X5_reaches : GoodIn wsX4_visit wsX5_reaches := goodIn_r _ [15, 10, 11, 16, 26, 27, 28, 29, 30, 31, 32, 33, 34, 35] (by decide +kernel) (by decide +kernel)
set_option maxRecDepth 20000 in
theorem gX4_visit_X5_reaches : GoodIn wsX4_visit (wsV RX4 32 RX5 yX5_reaches wsX5_reaches) := goodIn_app (goodIn_of _ (by decide +kernel)) ggX4_visit_X5_reaches
set_option maxRecDepth 20000 in
theorem ggX4_visit_X4_wasQueued : GoodIn wsX4_visit wsX4_wasQueued := goodIn_r _ [21, 4, 22, 23, 24, 25] (by decide +kernel) (by decide +kernel)
set_option maxRecDepth 20000 in
theorem gX4_visit_X4_wasQueued : GoodIn wsX4_visit (wsV RX4 69 RX4 yX4_wasQueued wsX4_wasQueued) := goodIn_app (goodIn_of _ (by decide +kernel)) ggX4_visit_X4_wasQueued
theorem dX4_visit_0 : decode cX4_visit 0 = .ok (.aload_n 0, 1) := by decide +kernel
theorem dX4_visit_1 : decode cX4_visit 1 = .ok (.getfield 19, 3) := by decide +kernel
theorem dX4_visit_4 : decode cX4_visit 4 = .ok (.iload_n 2, 1) := by decide +kernel
theorem dX4_visit_5 : decode cX4_visit 5 = .ok (.iload_n 3, 1) := by decide +kernel
theorem dX4_visit_6 : decode cX4_visit 6 = .ok (.invokevirtual 87, 3) := by decide +kernel
theorem dX4_visit_9 : decode cX4_visit 9 = .ok (.ifCond .eq 27, 3) := by decide +kernel
theorem dX4_visit_12 : decode cX4_visit 12 = .ok (.aload_n 0, 1) := by decide +kernel
theorem dX4_visit_13 : decode cX4_visit 13 = .ok (.getfield 19, 3) := by decide +kernel
theorem dX4_visit_16 : decode cX4_visit 16 = .ok (.iload_n 2, 1) := by decide +kernel
theorem dX4_visit_17 : decode cX4_visit 17 = .ok (.iload_n 3, 1) := by decide +kernel
theorem dX4_visit_18 : decode cX4_visit 18 = .ok (.iload_n 1, 1) := by decide +kernel
theorem dX4_visit_19 : decode cX4_visit 19 = .ok (.invokevirtual 32, 3) := by decide +kernel
theorem dX4_visit_22 : decode cX4_visit 22 = .ok (.iload 4, 2) := by decide +kernel
theorem dX4_visit_24 : decode cX4_visit 24 = .ok (.if_icmp .ne 12, 3) := by decide +kernel
theorem dX4_visit_27 : decode cX4_visit 27 = .ok (.aload_n 0, 1) := by decide +kernel
theorem dX4_visit_28 : decode cX4_visit 28 = .ok (.iload_n 2, 1) := by decide +kernel
theorem dX4_visit_29 : decode cX4_visit 29 = .ok (.iload_n 3, 1) := by decide +kernel
theorem dX4_visit_30 : decode cX4_visit 30 = .ok (.invokevirtual 69, 3) := by decide +kernel
theorem dX4_visit_33 : decode cX4_visit 33 = .ok (.ifCond .eq 4, 3) := by decide +kernel
theorem dX4_visit_36 : decode cX4_visit 36 = .ok (.return_, 1) := by decide +kernel
theorem dX4_visit_37 : decode cX4_visit 37 = .ok (.iload_n 3, 1) := by decide +kernel
theorem dX4_visit_38 : decode cX4_visit 38 = .ok (.bipush 16, 2) := by decide +kernel
theorem dX4_visit_40 : decode cX4_visit 40 = .ok (.imul, 1) := by decide +kernel
theorem dX4_visit_41 : decode cX4_visit 41 = .ok (.iload_n 2, 1) := by decide +kernel
theorem dX4_visit_42 : decode cX4_visit 42 = .ok (.iadd, 1) := by decide +kernel
theorem dX4_visit_43 : decode cX4_visit 43 = .ok (.istore 5, 2) := by decide +kernel
theorem dX4_visit_45 : decode cX4_visit 45 = .ok (.aload_n 0, 1) := by decide +kernel
theorem dX4_visit_46 : decode cX4_visit 46 = .ok (.getfield 77, 3) := by decide +kernel
theorem dX4_visit_49 : decode cX4_visit 49 = .ok (.ifCond .lt 59, 3) := by decide +kernel
theorem dX4_visit_52 : decode cX4_visit 52 = .ok (.aload_n 0, 1) := by decide +kernel
theorem dX4_visit_53 : decode cX4_visit 53 = .ok (.getfield 77, 3) := by decide +kernel
theorem dX4_visit_56 : decode cX4_visit 56 = .ok (.aload_n 0, 1) := by decide +kernel
theorem dX4_visit_57 : decode cX4_visit 57 = .ok (.getfield 9, 3) := by decide +kernel
theorem dX4_visit_60 : decode cX4_visit 60 = .ok (.arraylength, 1) := by decide +kernel
theorem dX4_visit_61 : decode cX4_visit 61 = .ok (.if_icmp .ge 47, 3) := by decide +kernel
theorem dX4_visit_64 : decode cX4_visit 64 = .ok (.iload 5, 2) := by decide +kernel
theorem dX4_visit_66 : decode cX4_visit 66 = .ok (.ifCond .lt 42, 3) := by decide +kernel
theorem dX4_visit_69 : decode cX4_visit 69 = .ok (.iload 5, 2) := by decide +kernel
theorem dX4_visit_71 : decode cX4_visit 71 = .ok (.aload_n 0, 1) := by decide +kernel
theorem dX4_visit_72 : decode cX4_visit 72 = .ok (.getfield 15, 3) := by decide +kernel
theorem dX4_visit_75 : decode cX4_visit 75 = .ok (.arraylength, 1) := by decide +kernel
theorem dX4_visit_76 : decode cX4_visit 76 = .ok (.if_icmp .ge 32, 3) := by decide +kernel
theorem dX4_visit_79 : decode cX4_visit 79 = .ok (.aload_n 0, 1) := by decide +kernel
theorem dX4_visit_80 : decode cX4_visit 80 = .ok (.getfield 15, 3) := by decide +kernel
theorem dX4_visit_83 : decode cX4_visit 83 = .ok (.iload 5, 2) := by decide +kernel
theorem dX4_visit_85 : decode cX4_visit 85 = .ok (.iconst 1, 1) := by decide +kernel
theorem dX4_visit_86 : decode cX4_visit 86 = .ok (.bastore, 1) := by decide +kernel
theorem dX4_visit_87 : decode cX4_visit 87 = .ok (.aload_n 0, 1) := by decide +kernel
theorem dX4_visit_88 : decode cX4_visit 88 = .ok (.getfield 9, 3) := by decide +kernel
theorem dX4_visit_91 : decode cX4_visit 91 = .ok (.aload_n 0, 1) := by decide +kernel
theorem dX4_visit_92 : decode cX4_visit 92 = .ok (.getfield 77, 3) := by decide +kernel
theorem dX4_visit_95 : decode cX4_visit 95 = .ok (.iload 5, 2) := by decide +kernel
theorem dX4_visit_97 : decode cX4_visit 97 = .ok (.iastore, 1) := by decide +kernel
theorem dX4_visit_98 : decode cX4_visit 98 = .ok (.aload_n 0, 1) := by decide +kernel
theorem dX4_visit_99 : decode cX4_visit 99 = .ok (.dup, 1) := by decide +kernel
theorem dX4_visit_100 : decode cX4_visit 100 = .ok (.getfield 77, 3) := by decide +kernel
theorem dX4_visit_103 : decode cX4_visit 103 = .ok (.iconst 1, 1) := by decide +kernel
theorem dX4_visit_104 : decode cX4_visit 104 = .ok (.iadd, 1) := by decide +kernel
theorem dX4_visit_105 : decode cX4_visit 105 = .ok (.putfield 77, 3) := by decide +kernel
theorem dX4_visit_108 : decode cX4_visit 108 = .ok (.return_, 1) := by decide +kernel
theorem dX4_wasQueued_0 : decode cX4_wasQueued 0 = .ok (.iload_n 2, 1) := by decide +kernel
theorem dX4_wasQueued_1 : decode cX4_wasQueued 1 = .ok (.bipush 16, 2) := by decide +kernel
theorem dX4_wasQueued_3 : decode cX4_wasQueued 3 = .ok (.imul, 1) := by decide +kernel
theorem dX4_wasQueued_4 : decode cX4_wasQueued 4 = .ok (.iload_n 1, 1) := by decide +kernel
theorem dX4_wasQueued_5 : decode cX4_wasQueued 5 = .ok (.iadd, 1) := by decide +kernel
theorem dX4_wasQueued_6 : decode cX4_wasQueued 6 = .ok (.istore_n 3, 1) := by decide +kernel
theorem dX4_wasQueued_7 : decode cX4_wasQueued 7 = .ok (.iload_n 3, 1) := by decide +kernel
theorem dX4_wasQueued_8 : decode cX4_wasQueued 8 = .ok (.ifCond .lt 25, 3) := by decide +kernel
theorem dX4_wasQueued_11 : decode cX4_wasQueued 11 = .ok (.iload_n 3, 1) := by decide +kernel
theorem dX4_wasQueued_12 : decode cX4_wasQueued 12 = .ok (.aload_n 0, 1) := by decide +kernel
theorem dX4_wasQueued_13 : decode cX4_wasQueued 13 = .ok (.getfield 15, 3) := by decide +kernel
theorem dX4_wasQueued_16 : decode cX4_wasQueued 16 = .ok (.arraylength, 1) := by decide +kernel
theorem dX4_wasQueued_17 : decode cX4_wasQueued 17 = .ok (.if_icmp .ge 16, 3) := by decide +kernel
theorem dX4_wasQueued_20 : decode cX4_wasQueued 20 = .ok (.aload_n 0, 1) := by decide +kernel
theorem dX4_wasQueued_21 : decode cX4_wasQueued 21 = .ok (.getfield 15, 3) := by decide +kernel
theorem dX4_wasQueued_24 : decode cX4_wasQueued 24 = .ok (.iload_n 3, 1) := by decide +kernel
theorem dX4_wasQueued_25 : decode cX4_wasQueued 25 = .ok (.baload, 1) := by decide +kernel
theorem dX4_wasQueued_26 : decode cX4_wasQueued 26 = .ok (.ifCond .eq 7, 3) := by decide +kernel
theorem dX4_wasQueued_29 : decode cX4_wasQueued 29 = .ok (.iconst 1, 1) := by decide +kernel
theorem dX4_wasQueued_30 : decode cX4_wasQueued 30 = .ok (.goto 4, 3) := by decide +kernel
theorem dX4_wasQueued_33 : decode cX4_wasQueued 33 = .ok (.iconst 0, 1) := by decide +kernel
theorem dX4_wasQueued_34 : decode cX4_wasQueued 34 = .ok (.ireturn, 1) := by decide +kernel
theorem dX4_isAtEdge_0 : decode cX4_isAtEdge 0 = .ok (.iload_n 1, 1) := by decide +kernel
theorem dX4_isAtEdge_1 : decode cX4_isAtEdge 1 = .ok (.ifCond .eq 33, 3) := by decide +kernel
theorem dX4_isAtEdge_4 : decode cX4_isAtEdge 4 = .ok (.iload_n 2, 1) := by decide +kernel
theorem dX4_isAtEdge_5 : decode cX4_isAtEdge 5 = .ok (.ifCond .eq 29, 3) := by decide +kernel
theorem dX4_isAtEdge_8 : decode cX4_isAtEdge 8 = .ok (.iload_n 1, 1) := by decide +kernel
theorem dX4_isAtEdge_9 : decode cX4_isAtEdge 9 = .ok (.aload_n 0, 1) := by decide +kernel
theorem dX4_isAtEdge_10 : decode cX4_isAtEdge 10 = .ok (.getfield 19, 3) := by decide +kernel
theorem dX4_isAtEdge_13 : decode cX4_isAtEdge 13 = .ok (.getfield 29, 3) := by decide +kernel
theorem dX4_isAtEdge_16 : decode cX4_isAtEdge 16 = .ok (.iconst 1, 1) := by decide +kernel
theorem dX4_isAtEdge_17 : decode cX4_isAtEdge 17 = .ok (.isub, 1) := by decide +kernel
theorem dX4_isAtEdge_18 : decode cX4_isAtEdge 18 = .ok (.if_icmp .eq 16, 3) := by decide +kernel
theorem dX4_isAtEdge_21 : decode cX4_isAtEdge 21 = .ok (.iload_n 2, 1) := by decide +kernel
theorem dX4_isAtEdge_22 : decode cX4_isAtEdge 22 = .ok (.aload_n 0, 1) := by decide +kernel
theorem dX4_isAtEdge_23 : decode cX4_isAtEdge 23 = .ok (.getfield 19, 3) := by decide +kernel
theorem dX4_isAtEdge_26 : decode cX4_isAtEdge 26 = .ok (.getfield 23, 3) := by decide +kernel
theorem dX4_isAtEdge_29 : decode cX4_isAtEdge 29 = .ok (.iconst 1, 1) := by decide +kernel
theorem dX4_isAtEdge_30 : decode cX4_isAtEdge 30 = .ok (.isub, 1) := by decide +kernel
theorem dX4_isAtEdge_31 : decode cX4_isAtEdge 31 = .ok (.if_icmp .ne 7, 3) := by decide +kernel
theorem dX4_isAtEdge_34 : decode cX4_isAtEdge 34 = .ok (.iconst 1, 1) := by decide +kernel
theorem dX4_isAtEdge_35 : decode cX4_isAtEdge 35 = .ok (.goto 4, 3) := by decide +kernel
theorem dX4_isAtEdge_38 : decode cX4_isAtEdge 38 = .ok (.iconst 0, 1) := by decide +kernel
theorem dX4_isAtEdge_39 : decode cX4_isAtEdge 39 = .ok (.ireturn, 1) := by decide +kernel
set_option maxRecDepth 20000 in
theorem ggX5_init_X5_clear : GoodIn wsX5_init wsX5_clear := goodIn_r _ [13, 14, 15, 16, 17, 18, 19, 20, 5, 21, 22, 23, 24, 65, 66, 67, 68, 69, 70, 71, 72, 73, 74] (by decide +kernel) (by decide +kernel)
set_option maxRecDepth 20000 in
theorem gX5_init_X5_clear : GoodIn wsX5_init (wsV RX5 22 RX5 yX5_clear wsX5_clear) := goodIn_app (goodIn_of _ (by decide +kernel)) ggX5_init_X5_clear
set_option maxRecDepth 20000 in
theorem ggX5_init_X5_develop : GoodIn wsX5_init wsX5_develop := goodIn_r _ [28, 17, 29, 8, 30, 31, 32, 12, 33, 15, 14, 34, 35, 36, 37, 38, 39, 40, 41, 5, 42, 43, 44, 45, 46, 47, 48, 49, 18, 16, 50, 51, 52, 53, 54, 55, 56, 57, 58, 59, 60, 6, 61, 62, 63, 64, 65, 66, 67, 68, 69, 70, 71, 72, 73, 74] (by decide +kernel) (by decide +kernel)
set_option maxRecDepth 20000 in
theorem gX5_init_X5_develop : GoodIn wsX5_init (wsV RX5 25 RX5 yX5_develop wsX5_develop) := goodIn_app (goodIn_of _ (by decide +kernel)) ggX5_init_X5_develop
theorem dX5_init_0 : decode cX5_init 0 = .ok (.aload_n 0, 1) := by decide +kernel
theorem dX5_init_1 : decode cX5_init 1 = .ok (.invokespecial 3, 3) := by decide +kernel
theorem dX5_init_4 : decode cX5_init 4 = .ok (.aload_n 0, 1) := by decide +kernel
theorem dX5_init_5 : decode cX5_init 5 = .ok (.sipush 192, 3) := by decide +kernel
theorem dX5_init_8 : decode cX5_init 8 = .ok (.newarray .int, 2) := by decide +kernel
theorem dX5_init_10 : decode cX5_init 10 = .ok (.putfield 9, 3) := by decide +kernel
theorem dX5_init_13 : decode cX5_init 13 = .ok (.aload_n 0, 1) := by decide +kernel
theorem dX5_init_14 : decode cX5_init 14 = .ok (.sipush 192, 3) := by decide +kernel
theorem dX5_init_17 : decode cX5_init 17 = .ok (.newarray .int, 2) := by decide +kernel
theorem dX5_init_19 : decode cX5_init 19 = .ok (.putfield 15, 3) := by decide +kernel
theorem dX5_init_22 : decode cX5_init 22 = .ok (.aload_n 0, 1) := by decide +kernel
theorem dX5_init_23 : decode cX5_init 23 = .ok (.bipush 21, 2) := by decide +kernel
theorem dX5_init_25 : decode cX5_init 25 = .ok (.newarray .float, 2) := by decide +kernel
theorem dX5_init_27 : decode cX5_init 27 = .ok (.putfield 18, 3) := by decide +kernel
theorem dX5_init_30 : decode cX5_init 30 = .ok (.aload_n 0, 1) := by decide +kernel
theorem dX5_init_31 : decode cX5_init 31 = .ok (.invokevirtual 22, 3) := by decide +kernel
theorem dX5_init_34 : decode cX5_init 34 = .ok (.aload_n 0, 1) := by decide +kernel
theorem dX5_init_35 : decode cX5_init 35 = .ok (.invokevirtual 25, 3) := by decide +kernel
theorem dX5_init_38 : decode cX5_init 38 = .ok (.return_, 1) := by decide +kernel
set_option maxRecDepth 20000 in
theorem ggX5_clear_J7_fill_53178 : GoodIn wsX5_clear wsJ7_fill_53178 := goodIn_r _ [12] (by decide +kernel) (by decide +kernel)
set_option maxRecDepth 20000 in
theorem gX5_clear_J7_fill_53178 : GoodIn wsX5_clear (va_wsS RX5 50 yJ7_fill_53178 wsJ7_fill_53178) := goodIn_app (goodIn_of _ (by decide +kernel)) ggX5_clear_J7_fill_53178
theorem dX5_clear_0 : decode cX5_clear 0 = .ok (.aload_n 0, 1) := by decide +kernel
theorem dX5_clear_1 : decode cX5_clear 1 = .ok (.iconst 4, 1) := by decide +kernel
theorem dX5_clear_2 : decode cX5_clear 2 = .ok (.putfield 28, 3) := by decide +kernel
theorem dX5_clear_5 : decode cX5_clear 5 = .ok (.aload_n 0, 1) := by decide +kernel
theorem dX5_clear_6 : decode cX5_clear 6 = .ok (.iconst 4, 1) := by decide +kernel
theorem dX5_clear_7 : decode cX5_clear 7 = .ok (.putfield 32, 3) := by decide +kernel
theorem dX5_clear_10 : decode cX5_clear 10 = .ok (.aload_n 0, 1) := by decide +kernel
theorem dX5_clear_11 : decode cX5_clear 11 = .ok (.bipush 8, 2) := by decide +kernel
theorem dX5_clear_13 : decode cX5_clear 13 = .ok (.putfield 35, 3) := by decide +kernel
theorem dX5_clear_16 : decode cX5_clear 16 = .ok (.aload_n 0, 1) := by decide +kernel
theorem dX5_clear_17 : decode cX5_clear 17 = .ok (.bipush 80, 2) := by decide +kernel
theorem dX5_clear_19 : decode cX5_clear 19 = .ok (.putfield 38, 3) := by decide +kernel
theorem dX5_clear_22 : decode cX5_clear 22 = .ok (.aload_n 0, 1) := by decide +kernel
theorem dX5_clear_23 : decode cX5_clear 23 = .ok (.iconst 1, 1) := by decide +kernel
theorem dX5_clear_24 : decode cX5_clear 24 = .ok (.putfield 41, 3) := by decide +kernel
theorem dX5_clear_27 : decode cX5_clear 27 = .ok (.aload_n 0, 1) := by decide +kernel
theorem dX5_clear_28 : decode cX5_clear 28 = .ok (.iconst 2, 1) := by decide +kernel
theorem dX5_clear_29 : decode cX5_clear 29 = .ok (.putfield 44, 3) := by decide +kernel
theorem dX5_clear_32 : decode cX5_clear 32 = .ok (.aload_n 0, 1) := by decide +kernel
theorem dX5_clear_33 : decode cX5_clear 33 = .ok (.iconst 1, 1) := by decide +kernel
theorem dX5_clear_34 : decode cX5_clear 34 = .ok (.putfield 47, 3) := by decide +kernel
theorem dX5_clear_37 : decode cX5_clear 37 = .ok (.aload_n 0, 1) := by decide +kernel
theorem dX5_clear_38 : decode cX5_clear 38 = .ok (.getfield 9, 3) := by decide +kernel
theorem dX5_clear_41 : decode cX5_clear 41 = .ok (.sipush 255, 3) := by decide +kernel
theorem dX5_clear_44 : decode cX5_clear 44 = .ok (.invokestatic 50, 3) := by decide +kernel
theorem dX5_clear_47 : decode cX5_clear 47 = .ok (.return_, 1) := by decide +kernel
set_option maxRecDepth 20000 in
theorem ggX5_develop_X5_followTones : GoodIn wsX5_develop wsX5_followTones := goodIn_r _ [8, 9, 10, 11, 12, 13, 7, 14, 15, 16, 17, 18, 19, 20, 21, 22, 23, 24, 25, 26, 27, 28, 29, 30, 31, 32, 33, 3, 34, 35, 36, 37, 38, 39, 40, 41, 42, 43, 44, 45, 46, 47, 48, 49, 50, 51, 52, 53, 54, 55] (by decide +kernel) (by decide +kernel)
set_option maxRecDepth 20000 in
theorem gX5_develop_X5_followTones : GoodIn wsX5_develop (wsV RX5 57 RX5 yX5_followTones wsX5_followTones) := goodIn_app (goodIn_of _ (by decide +kernel)) ggX5_develop_X5_followTones
theorem dX5_develop_0 : decode cX5_develop 0 = .ok (.aload_n 0, 1) := by decide +kernel
theorem dX5_develop_1 : decode cX5_develop 1 = .ok (.getfield 38, 3) := by decide +kernel
theorem dX5_develop_4 : decode cX5_develop 4 = .ok (.i2f, 1) := by decide +kernel
theorem dX5_develop_5 : decode cX5_develop 5 = .ok (.ldc 56, 2) := by decide +kernel
theorem dX5_develop_7 : decode cX5_develop 7 = .ok (.fdiv, 1) := by decide +kernel
theorem dX5_develop_8 : decode cX5_develop 8 = .ok (.fstore_n 1, 1) := by decide +kernel
theorem dX5_develop_9 : decode cX5_develop 9 = .ok (.fconst 1, 1) := by decide +kernel
theorem dX5_develop_10 : decode cX5_develop 10 = .ok (.fstore_n 2, 1) := by decide +kernel
theorem dX5_develop_11 : decode cX5_develop 11 = .ok (.iconst 0, 1) := by decide +kernel
theorem dX5_develop_12 : decode cX5_develop 12 = .ok (.istore_n 3, 1) := by decide +kernel
theorem dX5_develop_13 : decode cX5_develop 13 = .ok (.iload_n 3, 1) := by decide +kernel
theorem dX5_develop_14 : decode cX5_develop 14 = .ok (.aload_n 0, 1) := by decide +kernel
theorem dX5_develop_15 : decode cX5_develop 15 = .ok (.getfield 18, 3) := by decide +kernel
theorem dX5_develop_18 : decode cX5_develop 18 = .ok (.arraylength, 1) := by decide +kernel
theorem dX5_develop_19 : decode cX5_develop 19 = .ok (.if_icmp .ge 20, 3) := by decide +kernel
theorem dX5_develop_22 : decode cX5_develop 22 = .ok (.aload_n 0, 1) := by decide +kernel
theorem dX5_develop_23 : decode cX5_develop 23 = .ok (.getfield 18, 3) := by decide +kernel
theorem dX5_develop_26 : decode cX5_develop 26 = .ok (.iload_n 3, 1) := by decide +kernel
theorem dX5_develop_27 : decode cX5_develop 27 = .ok (.fload_n 2, 1) := by decide +kernel
theorem dX5_develop_28 : decode cX5_develop 28 = .ok (.fastore, 1) := by decide +kernel
theorem dX5_develop_29 : decode cX5_develop 29 = .ok (.fload_n 2, 1) := by decide +kernel
theorem dX5_develop_30 : decode cX5_develop 30 = .ok (.fload_n 1, 1) := by decide +kernel
theorem dX5_develop_31 : decode cX5_develop 31 = .ok (.fmul, 1) := by decide +kernel
theorem dX5_develop_32 : decode cX5_develop 32 = .ok (.fstore_n 2, 1) := by decide +kernel
theorem dX5_develop_33 : decode cX5_develop 33 = .ok (.iinc 3 1, 3) := by decide +kernel
theorem dX5_develop_36 : decode cX5_develop 36 = .ok (.goto (-23), 3) := by decide +kernel
theorem dX5_develop_39 : decode cX5_develop 39 = .ok (.aload_n 0, 1) := by decide +kernel
theorem dX5_develop_40 : decode cX5_develop 40 = .ok (.invokevirtual 57, 3) := by decide +kernel
theorem dX5_develop_43 : decode cX5_develop 43 = .ok (.pop, 1) := by decide +kernel
theorem dX5_develop_44 : decode cX5_develop 44 = .ok (.return_, 1) := by decide +kernel
set_option maxRecDepth 20000 in
theorem ggX5_copyFrom_X5_copyHeightsFrom : GoodIn wsX5_copyFrom wsX5_copyHeightsFrom := goodIn_r _ [18, 19, 9, 10, 11, 12, 20, 21, 22, 23, 24, 25, 26, 27, 28, 29] (by decide +kernel) (by decide +kernel)
set_option maxRecDepth 20000 in
theorem gX5_copyFrom_X5_copyHeightsFrom : GoodIn wsX5_copyFrom (wsV RX5 67 RX5 yX5_copyHeightsFrom wsX5_copyHeightsFrom) := goodIn_app (goodIn_of _ (by decide +kernel)) ggX5_copyFrom_X5_copyHeightsFrom
theorem dX5_copyFrom_0 : decode cX5_copyFrom 0 = .ok (.aload_n 0, 1) := by decide +kernel
theorem dX5_copyFrom_1 : decode cX5_copyFrom 1 = .ok (.aload_n 1, 1) := by decide +kernel
theorem dX5_copyFrom_2 : decode cX5_copyFrom 2 = .ok (.getfield 28, 3) := by decide +kernel
theorem dX5_copyFrom_5 : decode cX5_copyFrom 5 = .ok (.putfield 28, 3) := by decide +kernel
theorem dX5_copyFrom_8 : decode cX5_copyFrom 8 = .ok (.aload_n 0, 1) := by decide +kernel
theorem dX5_copyFrom_9 : decode cX5_copyFrom 9 = .ok (.aload_n 1, 1) := by decide +kernel
theorem dX5_copyFrom_10 : decode cX5_copyFrom 10 = .ok (.getfield 32, 3) := by decide +kernel
theorem dX5_copyFrom_13 : decode cX5_copyFrom 13 = .ok (.putfield 32, 3) := by decide +kernel
theorem dX5_copyFrom_16 : decode cX5_copyFrom 16 = .ok (.aload_n 0, 1) := by decide +kernel
theorem dX5_copyFrom_17 : decode cX5_copyFrom 17 = .ok (.aload_n 1, 1) := by decide +kernel
theorem dX5_copyFrom_18 : decode cX5_copyFrom 18 = .ok (.getfield 35, 3) := by decide +kernel
theorem dX5_copyFrom_21 : decode cX5_copyFrom 21 = .ok (.putfield 35, 3) := by decide +kernel
theorem dX5_copyFrom_24 : decode cX5_copyFrom 24 = .ok (.aload_n 0, 1) := by decide +kernel
theorem dX5_copyFrom_25 : decode cX5_copyFrom 25 = .ok (.aload_n 1, 1) := by decide +kernel
theorem dX5_copyFrom_26 : decode cX5_copyFrom 26 = .ok (.getfield 38, 3) := by decide +kernel
theorem dX5_copyFrom_29 : decode cX5_copyFrom 29 = .ok (.putfield 38, 3) := by decide +kernel
theorem dX5_copyFrom_32 : decode cX5_copyFrom 32 = .ok (.aload_n 0, 1) := by decide +kernel
theorem dX5_copyFrom_33 : decode cX5_copyFrom 33 = .ok (.aload_n 1, 1) := by decide +kernel
theorem dX5_copyFrom_34 : decode cX5_copyFrom 34 = .ok (.getfield 41, 3) := by decide +kernel
theorem dX5_copyFrom_37 : decode cX5_copyFrom 37 = .ok (.putfield 41, 3) := by decide +kernel
theorem dX5_copyFrom_40 : decode cX5_copyFrom 40 = .ok (.aload_n 0, 1) := by decide +kernel
theorem dX5_copyFrom_41 : decode cX5_copyFrom 41 = .ok (.aload_n 1, 1) := by decide +kernel
theorem dX5_copyFrom_42 : decode cX5_copyFrom 42 = .ok (.getfield 44, 3) := by decide +kernel
theorem dX5_copyFrom_45 : decode cX5_copyFrom 45 = .ok (.putfield 44, 3) := by decide +kernel
theorem dX5_copyFrom_48 : decode cX5_copyFrom 48 = .ok (.aload_n 0, 1) := by decide +kernel
theorem dX5_copyFrom_49 : decode cX5_copyFrom 49 = .ok (.aload_n 1, 1) := by decide +kernel
theorem dX5_copyFrom_50 : decode cX5_copyFrom 50 = .ok (.getfield 47, 3) := by decide +kernel
theorem dX5_copyFrom_53 : decode cX5_copyFrom 53 = .ok (.putfield 47, 3) := by decide +kernel
theorem dX5_copyFrom_56 : decode cX5_copyFrom 56 = .ok (.aload_n 1, 1) := by decide +kernel
theorem dX5_copyFrom_57 : decode cX5_copyFrom 57 = .ok (.getfield 9, 3) := by decide +kernel
theorem dX5_copyFrom_60 : decode cX5_copyFrom 60 = .ok (.iconst 0, 1) := by decide +kernel
theorem dX5_copyFrom_61 : decode cX5_copyFrom 61 = .ok (.aload_n 0, 1) := by decide +kernel
theorem dX5_copyFrom_62 : decode cX5_copyFrom 62 = .ok (.getfield 9, 3) := by decide +kernel
theorem dX5_copyFrom_65 : decode cX5_copyFrom 65 = .ok (.iconst 0, 1) := by decide +kernel
theorem dX5_copyFrom_66 : decode cX5_copyFrom 66 = .ok (.sipush 192, 3) := by decide +kernel
theorem dX5_copyFrom_69 : decode cX5_copyFrom 69 = .ok (.invokestatic 61, 3) := by decide +kernel
theorem dX5_copyFrom_72 : decode cX5_copyFrom 72 = .ok (.aload_n 1, 1) := by decide +kernel
theorem dX5_copyFrom_73 : decode cX5_copyFrom 73 = .ok (.getfield 18, 3) := by decide +kernel
theorem dX5_copyFrom_76 : decode cX5_copyFrom 76 = .ok (.iconst 0, 1) := by decide +kernel
theorem dX5_copyFrom_77 : decode cX5_copyFrom 77 = .ok (.aload_n 0, 1) := by decide +kernel
theorem dX5_copyFrom_78 : decode cX5_copyFrom 78 = .ok (.getfield 18, 3) := by decide +kernel
theorem dX5_copyFrom_81 : decode cX5_copyFrom 81 = .ok (.iconst 0, 1) := by decide +kernel
theorem dX5_copyFrom_82 : decode cX5_copyFrom 82 = .ok (.bipush 21, 2) := by decide +kernel
theorem dX5_copyFrom_84 : decode cX5_copyFrom 84 = .ok (.invokestatic 61, 3) := by decide +kernel
theorem dX5_copyFrom_87 : decode cX5_copyFrom 87 = .ok (.aload_n 0, 1) := by decide +kernel
theorem dX5_copyFrom_88 : decode cX5_copyFrom 88 = .ok (.aload_n 1, 1) := by decide +kernel
theorem dX5_copyFrom_89 : decode cX5_copyFrom 89 = .ok (.invokevirtual 67, 3) := by decide +kernel
theorem dX5_copyFrom_92 : decode cX5_copyFrom 92 = .ok (.return_, 1) := by decide +kernel
theorem dX5_copyHeightsFrom_0 : decode cX5_copyHeightsFrom 0 = .ok (.aload_n 1, 1) := by decide +kernel
theorem dX5_copyHeightsFrom_1 : decode cX5_copyHeightsFrom 1 = .ok (.getfield 15, 3) := by decide +kernel
theorem dX5_copyHeightsFrom_4 : decode cX5_copyHeightsFrom 4 = .ok (.iconst 0, 1) := by decide +kernel
theorem dX5_copyHeightsFrom_5 : decode cX5_copyHeightsFrom 5 = .ok (.aload_n 0, 1) := by decide +kernel
theorem dX5_copyHeightsFrom_6 : decode cX5_copyHeightsFrom 6 = .ok (.getfield 15, 3) := by decide +kernel
theorem dX5_copyHeightsFrom_9 : decode cX5_copyHeightsFrom 9 = .ok (.iconst 0, 1) := by decide +kernel
theorem dX5_copyHeightsFrom_10 : decode cX5_copyHeightsFrom 10 = .ok (.sipush 192, 3) := by decide +kernel
theorem dX5_copyHeightsFrom_13 : decode cX5_copyHeightsFrom 13 = .ok (.invokestatic 61, 3) := by decide +kernel
theorem dX5_copyHeightsFrom_16 : decode cX5_copyHeightsFrom 16 = .ok (.return_, 1) := by decide +kernel
theorem dX5_hasFormOf_0 : decode cX5_hasFormOf 0 = .ok (.aload_n 0, 1) := by decide +kernel
theorem dX5_hasFormOf_1 : decode cX5_hasFormOf 1 = .ok (.getfield 28, 3) := by decide +kernel
theorem dX5_hasFormOf_4 : decode cX5_hasFormOf 4 = .ok (.aload_n 1, 1) := by decide +kernel
theorem dX5_hasFormOf_5 : decode cX5_hasFormOf 5 = .ok (.getfield 28, 3) := by decide +kernel
theorem dX5_hasFormOf_8 : decode cX5_hasFormOf 8 = .ok (.if_icmp .ne 40, 3) := by decide +kernel
theorem dX5_hasFormOf_11 : decode cX5_hasFormOf 11 = .ok (.aload_n 0, 1) := by decide +kernel
theorem dX5_hasFormOf_12 : decode cX5_hasFormOf 12 = .ok (.getfield 32, 3) := by decide +kernel
theorem dX5_hasFormOf_15 : decode cX5_hasFormOf 15 = .ok (.aload_n 1, 1) := by decide +kernel
theorem dX5_hasFormOf_16 : decode cX5_hasFormOf 16 = .ok (.getfield 32, 3) := by decide +kernel
theorem dX5_hasFormOf_19 : decode cX5_hasFormOf 19 = .ok (.if_icmp .ne 29, 3) := by decide +kernel
theorem dX5_hasFormOf_22 : decode cX5_hasFormOf 22 = .ok (.aload_n 0, 1) := by decide +kernel
theorem dX5_hasFormOf_23 : decode cX5_hasFormOf 23 = .ok (.getfield 35, 3) := by decide +kernel
theorem dX5_hasFormOf_26 : decode cX5_hasFormOf 26 = .ok (.aload_n 1, 1) := by decide +kernel
theorem dX5_hasFormOf_27 : decode cX5_hasFormOf 27 = .ok (.getfield 35, 3) := by decide +kernel
theorem dX5_hasFormOf_30 : decode cX5_hasFormOf 30 = .ok (.if_icmp .ne 18, 3) := by decide +kernel
theorem dX5_hasFormOf_33 : decode cX5_hasFormOf 33 = .ok (.aload_n 0, 1) := by decide +kernel
theorem dX5_hasFormOf_34 : decode cX5_hasFormOf 34 = .ok (.getfield 41, 3) := by decide +kernel
theorem dX5_hasFormOf_37 : decode cX5_hasFormOf 37 = .ok (.aload_n 1, 1) := by decide +kernel
theorem dX5_hasFormOf_38 : decode cX5_hasFormOf 38 = .ok (.getfield 41, 3) := by decide +kernel
theorem dX5_hasFormOf_41 : decode cX5_hasFormOf 41 = .ok (.if_icmp .ne 7, 3) := by decide +kernel
theorem dX5_hasFormOf_44 : decode cX5_hasFormOf 44 = .ok (.iconst 1, 1) := by decide +kernel
theorem dX5_hasFormOf_45 : decode cX5_hasFormOf 45 = .ok (.goto 4, 3) := by decide +kernel
theorem dX5_hasFormOf_48 : decode cX5_hasFormOf 48 = .ok (.iconst 0, 1) := by decide +kernel
theorem dX5_hasFormOf_49 : decode cX5_hasFormOf 49 = .ok (.ireturn, 1) := by decide +kernel
theorem dX5_has_0 : decode cX5_has 0 = .ok (.iload_n 1, 1) := by decide +kernel
theorem dX5_has_1 : decode cX5_has 1 = .ok (.ifCond .lt 27, 3) := by decide +kernel
theorem dX5_has_4 : decode cX5_has 4 = .ok (.iload_n 1, 1) := by decide +kernel
theorem dX5_has_5 : decode cX5_has 5 = .ok (.aload_n 0, 1) := by decide +kernel
theorem dX5_has_6 : decode cX5_has 6 = .ok (.getfield 28, 3) := by decide +kernel
theorem dX5_has_9 : decode cX5_has 9 = .ok (.if_icmp .ge 19, 3) := by decide +kernel
theorem dX5_has_12 : decode cX5_has 12 = .ok (.iload_n 2, 1) := by decide +kernel
theorem dX5_has_13 : decode cX5_has 13 = .ok (.ifCond .lt 15, 3) := by decide +kernel
theorem dX5_has_16 : decode cX5_has 16 = .ok (.iload_n 2, 1) := by decide +kernel
theorem dX5_has_17 : decode cX5_has 17 = .ok (.aload_n 0, 1) := by decide +kernel
theorem dX5_has_18 : decode cX5_has 18 = .ok (.getfield 32, 3) := by decide +kernel
theorem dX5_has_21 : decode cX5_has 21 = .ok (.if_icmp .ge 7, 3) := by decide +kernel
theorem dX5_has_24 : decode cX5_has 24 = .ok (.iconst 1, 1) := by decide +kernel
theorem dX5_has_25 : decode cX5_has 25 = .ok (.goto 4, 3) := by decide +kernel
theorem dX5_has_28 : decode cX5_has 28 = .ok (.iconst 0, 1) := by decide +kernel
theorem dX5_has_29 : decode cX5_has 29 = .ok (.ireturn, 1) := by decide +kernel
theorem dX5_fits_0 : decode cX5_fits 0 = .ok (.iload_n 3, 1) := by decide +kernel
theorem dX5_fits_1 : decode cX5_fits 1 = .ok (.iconst 1, 1) := by decide +kernel
theorem dX5_fits_2 : decode cX5_fits 2 = .ok (.if_icmp .lt 34, 3) := by decide +kernel
theorem dX5_fits_5 : decode cX5_fits 5 = .ok (.iload_n 3, 1) := by decide +kernel
theorem dX5_fits_6 : decode cX5_fits 6 = .ok (.aload_n 0, 1) := by decide +kernel
theorem dX5_fits_7 : decode cX5_fits 7 = .ok (.getfield 28, 3) := by decide +kernel
theorem dX5_fits_10 : decode cX5_fits 10 = .ok (.iload_n 1, 1) := by decide +kernel
theorem dX5_fits_11 : decode cX5_fits 11 = .ok (.isub, 1) := by decide +kernel
theorem dX5_fits_12 : decode cX5_fits 12 = .ok (.if_icmp .gt 24, 3) := by decide +kernel
theorem dX5_fits_15 : decode cX5_fits 15 = .ok (.iload 4, 2) := by decide +kernel
theorem dX5_fits_17 : decode cX5_fits 17 = .ok (.iconst 1, 1) := by decide +kernel
theorem dX5_fits_18 : decode cX5_fits 18 = .ok (.if_icmp .lt 18, 3) := by decide +kernel
theorem dX5_fits_21 : decode cX5_fits 21 = .ok (.iload 4, 2) := by decide +kernel
theorem dX5_fits_23 : decode cX5_fits 23 = .ok (.aload_n 0, 1) := by decide +kernel
theorem dX5_fits_24 : decode cX5_fits 24 = .ok (.getfield 32, 3) := by decide +kernel
theorem dX5_fits_27 : decode cX5_fits 27 = .ok (.iload_n 2, 1) := by decide +kernel
theorem dX5_fits_28 : decode cX5_fits 28 = .ok (.isub, 1) := by decide +kernel
theorem dX5_fits_29 : decode cX5_fits 29 = .ok (.if_icmp .gt 7, 3) := by decide +kernel
theorem dX5_fits_32 : decode cX5_fits 32 = .ok (.iconst 1, 1) := by decide +kernel
theorem dX5_fits_33 : decode cX5_fits 33 = .ok (.goto 4, 3) := by decide +kernel
theorem dX5_fits_36 : decode cX5_fits 36 = .ok (.iconst 0, 1) := by decide +kernel
theorem dX5_fits_37 : decode cX5_fits 37 = .ok (.ireturn, 1) := by decide +kernel
theorem dX5_allows_0 : decode cX5_allows 0 = .ok (.iload_n 1, 1) := by decide +kernel
theorem dX5_allows_1 : decode cX5_allows 1 = .ok (.aload_n 0, 1) := by decide +kernel
theorem dX5_allows_2 : decode cX5_allows 2 = .ok (.getfield 41, 3) := by decide +kernel
theorem dX5_allows_5 : decode cX5_allows 5 = .ok (.if_icmp .lt 15, 3) := by decide +kernel
theorem dX5_allows_8 : decode cX5_allows 8 = .ok (.iload_n 1, 1) := by decide +kernel
theorem dX5_allows_9 : decode cX5_allows 9 = .ok (.aload_n 0, 1) := by decide +kernel
theorem dX5_allows_10 : decode cX5_allows 10 = .ok (.getfield 35, 3) := by decide +kernel
theorem dX5_allows_13 : decode cX5_allows 13 = .ok (.if_icmp .gt 7, 3) := by decide +kernel
theorem dX5_allows_16 : decode cX5_allows 16 = .ok (.iconst 1, 1) := by decide +kernel
theorem dX5_allows_17 : decode cX5_allows 17 = .ok (.goto 4, 3) := by decide +kernel
theorem dX5_allows_20 : decode cX5_allows 20 = .ok (.iconst 0, 1) := by decide +kernel
theorem dX5_allows_21 : decode cX5_allows 21 = .ok (.ireturn, 1) := by decide +kernel
theorem dX5_isTone_0 : decode cX5_isTone 0 = .ok (.iload_n 0, 1) := by decide +kernel
theorem dX5_isTone_1 : decode cX5_isTone 1 = .ok (.ifCond .lt 14, 3) := by decide +kernel
theorem dX5_isTone_4 : decode cX5_isTone 4 = .ok (.iload_n 0, 1) := by decide +kernel
theorem dX5_isTone_5 : decode cX5_isTone 5 = .ok (.sipush 255, 3) := by decide +kernel
theorem dX5_isTone_8 : decode cX5_isTone 8 = .ok (.if_icmp .gt 7, 3) := by decide +kernel
theorem dX5_isTone_11 : decode cX5_isTone 11 = .ok (.iconst 1, 1) := by decide +kernel
theorem dX5_isTone_12 : decode cX5_isTone 12 = .ok (.goto 4, 3) := by decide +kernel
theorem dX5_isTone_15 : decode cX5_isTone 15 = .ok (.iconst 0, 1) := by decide +kernel
theorem dX5_isTone_16 : decode cX5_isTone 16 = .ok (.ireturn, 1) := by decide +kernel
theorem dX5_toneAt_0 : decode cX5_toneAt 0 = .ok (.iload_n 1, 1) := by decide +kernel
theorem dX5_toneAt_1 : decode cX5_toneAt 1 = .ok (.ifCond .lt 37, 3) := by decide +kernel
theorem dX5_toneAt_4 : decode cX5_toneAt 4 = .ok (.iload_n 1, 1) := by decide +kernel
theorem dX5_toneAt_5 : decode cX5_toneAt 5 = .ok (.aload_n 0, 1) := by decide +kernel
theorem dX5_toneAt_6 : decode cX5_toneAt 6 = .ok (.getfield 28, 3) := by decide +kernel
theorem dX5_toneAt_9 : decode cX5_toneAt 9 = .ok (.if_icmp .ge 29, 3) := by decide +kernel
theorem dX5_toneAt_12 : decode cX5_toneAt 12 = .ok (.iload_n 2, 1) := by decide +kernel
theorem dX5_toneAt_13 : decode cX5_toneAt 13 = .ok (.ifCond .lt 25, 3) := by decide +kernel
theorem dX5_toneAt_16 : decode cX5_toneAt 16 = .ok (.iload_n 2, 1) := by decide +kernel
theorem dX5_toneAt_17 : decode cX5_toneAt 17 = .ok (.aload_n 0, 1) := by decide +kernel
theorem dX5_toneAt_18 : decode cX5_toneAt 18 = .ok (.getfield 32, 3) := by decide +kernel
theorem dX5_toneAt_21 : decode cX5_toneAt 21 = .ok (.if_icmp .ge 17, 3) := by decide +kernel
theorem dX5_toneAt_24 : decode cX5_toneAt 24 = .ok (.aload_n 0, 1) := by decide +kernel
theorem dX5_toneAt_25 : decode cX5_toneAt 25 = .ok (.getfield 9, 3) := by decide +kernel
theorem dX5_toneAt_28 : decode cX5_toneAt 28 = .ok (.iload_n 2, 1) := by decide +kernel
theorem dX5_toneAt_29 : decode cX5_toneAt 29 = .ok (.bipush 16, 2) := by decide +kernel
theorem dX5_toneAt_31 : decode cX5_toneAt 31 = .ok (.imul, 1) := by decide +kernel
theorem dX5_toneAt_32 : decode cX5_toneAt 32 = .ok (.iload_n 1, 1) := by decide +kernel
theorem dX5_toneAt_33 : decode cX5_toneAt 33 = .ok (.iadd, 1) := by decide +kernel
theorem dX5_toneAt_34 : decode cX5_toneAt 34 = .ok (.iaload, 1) := by decide +kernel
theorem dX5_toneAt_35 : decode cX5_toneAt 35 = .ok (.goto 6, 3) := by decide +kernel
theorem dX5_toneAt_38 : decode cX5_toneAt 38 = .ok (.sipush 255, 3) := by decide +kernel
theorem dX5_toneAt_41 : decode cX5_toneAt 41 = .ok (.ireturn, 1) := by decide +kernel
theorem dX5_heightAt_0 : decode cX5_heightAt 0 = .ok (.iload_n 1, 1) := by decide +kernel
theorem dX5_heightAt_1 : decode cX5_heightAt 1 = .ok (.ifCond .lt 37, 3) := by decide +kernel
theorem dX5_heightAt_4 : decode cX5_heightAt 4 = .ok (.iload_n 1, 1) := by decide +kernel
theorem dX5_heightAt_5 : decode cX5_heightAt 5 = .ok (.aload_n 0, 1) := by decide +kernel
theorem dX5_heightAt_6 : decode cX5_heightAt 6 = .ok (.getfield 28, 3) := by decide +kernel
theorem dX5_heightAt_9 : decode cX5_heightAt 9 = .ok (.if_icmp .ge 29, 3) := by decide +kernel
theorem dX5_heightAt_12 : decode cX5_heightAt 12 = .ok (.iload_n 2, 1) := by decide +kernel
theorem dX5_heightAt_13 : decode cX5_heightAt 13 = .ok (.ifCond .lt 25, 3) := by decide +kernel
theorem dX5_heightAt_16 : decode cX5_heightAt 16 = .ok (.iload_n 2, 1) := by decide +kernel
theorem dX5_heightAt_17 : decode cX5_heightAt 17 = .ok (.aload_n 0, 1) := by decide +kernel
theorem dX5_heightAt_18 : decode cX5_heightAt 18 = .ok (.getfield 32, 3) := by decide +kernel
theorem dX5_heightAt_21 : decode cX5_heightAt 21 = .ok (.if_icmp .ge 17, 3) := by decide +kernel
theorem dX5_heightAt_24 : decode cX5_heightAt 24 = .ok (.aload_n 0, 1) := by decide +kernel
theorem dX5_heightAt_25 : decode cX5_heightAt 25 = .ok (.getfield 15, 3) := by decide +kernel
theorem dX5_heightAt_28 : decode cX5_heightAt 28 = .ok (.iload_n 2, 1) := by decide +kernel
theorem dX5_heightAt_29 : decode cX5_heightAt 29 = .ok (.bipush 16, 2) := by decide +kernel
theorem dX5_heightAt_31 : decode cX5_heightAt 31 = .ok (.imul, 1) := by decide +kernel
theorem dX5_heightAt_32 : decode cX5_heightAt 32 = .ok (.iload_n 1, 1) := by decide +kernel
theorem dX5_heightAt_33 : decode cX5_heightAt 33 = .ok (.iadd, 1) := by decide +kernel
theorem dX5_heightAt_34 : decode cX5_heightAt 34 = .ok (.iaload, 1) := by decide +kernel
theorem dX5_heightAt_35 : decode cX5_heightAt 35 = .ok (.goto 4, 3) := by decide +kernel
theorem dX5_heightAt_38 : decode cX5_heightAt 38 = .ok (.iconst (-1), 1) := by decide +kernel
theorem dX5_heightAt_39 : decode cX5_heightAt 39 = .ok (.ireturn, 1) := by decide +kernel
theorem dX5_reaches_0 : decode cX5_reaches 0 = .ok (.iload_n 1, 1) := by decide +kernel
theorem dX5_reaches_1 : decode cX5_reaches 1 = .ok (.ifCond .lt 42, 3) := by decide +kernel
theorem dX5_reaches_4 : decode cX5_reaches 4 = .ok (.iload_n 1, 1) := by decide +kernel
theorem dX5_reaches_5 : decode cX5_reaches 5 = .ok (.aload_n 0, 1) := by decide +kernel
theorem dX5_reaches_6 : decode cX5_reaches 6 = .ok (.getfield 28, 3) := by decide +kernel
theorem dX5_reaches_9 : decode cX5_reaches 9 = .ok (.if_icmp .ge 34, 3) := by decide +kernel
theorem dX5_reaches_12 : decode cX5_reaches 12 = .ok (.iload_n 2, 1) := by decide +kernel
theorem dX5_reaches_13 : decode cX5_reaches 13 = .ok (.ifCond .lt 30, 3) := by decide +kernel
theorem dX5_reaches_16 : decode cX5_reaches 16 = .ok (.iload_n 2, 1) := by decide +kernel
theorem dX5_reaches_17 : decode cX5_reaches 17 = .ok (.aload_n 0, 1) := by decide +kernel
theorem dX5_reaches_18 : decode cX5_reaches 18 = .ok (.getfield 32, 3) := by decide +kernel
theorem dX5_reaches_21 : decode cX5_reaches 21 = .ok (.if_icmp .ge 22, 3) := by decide +kernel
theorem dX5_reaches_24 : decode cX5_reaches 24 = .ok (.aload_n 0, 1) := by decide +kernel
theorem dX5_reaches_25 : decode cX5_reaches 25 = .ok (.getfield 15, 3) := by decide +kernel
theorem dX5_reaches_28 : decode cX5_reaches 28 = .ok (.iload_n 2, 1) := by decide +kernel
theorem dX5_reaches_29 : decode cX5_reaches 29 = .ok (.bipush 16, 2) := by decide +kernel
theorem dX5_reaches_31 : decode cX5_reaches 31 = .ok (.imul, 1) := by decide +kernel
theorem dX5_reaches_32 : decode cX5_reaches 32 = .ok (.iload_n 1, 1) := by decide +kernel
theorem dX5_reaches_33 : decode cX5_reaches 33 = .ok (.iadd, 1) := by decide +kernel
theorem dX5_reaches_34 : decode cX5_reaches 34 = .ok (.iaload, 1) := by decide +kernel
theorem dX5_reaches_35 : decode cX5_reaches 35 = .ok (.iload_n 3, 1) := by decide +kernel
theorem dX5_reaches_36 : decode cX5_reaches 36 = .ok (.if_icmp .lt 7, 3) := by decide +kernel
theorem dX5_reaches_39 : decode cX5_reaches 39 = .ok (.iconst 1, 1) := by decide +kernel
theorem dX5_reaches_40 : decode cX5_reaches 40 = .ok (.goto 4, 3) := by decide +kernel
theorem dX5_reaches_43 : decode cX5_reaches 43 = .ok (.iconst 0, 1) := by decide +kernel
theorem dX5_reaches_44 : decode cX5_reaches 44 = .ok (.ireturn, 1) := by decide +kernel
theorem dX5_lightAt_0 : decode cX5_lightAt 0 = .ok (.iload_n 1, 1) := by decide +kernel
theorem dX5_lightAt_1 : decode cX5_lightAt 1 = .ok (.ifCond .lt 23, 3) := by decide +kernel
theorem dX5_lightAt_4 : decode cX5_lightAt 4 = .ok (.iload_n 1, 1) := by decide +kernel
theorem dX5_lightAt_5 : decode cX5_lightAt 5 = .ok (.aload_n 0, 1) := by decide +kernel
theorem dX5_lightAt_6 : decode cX5_lightAt 6 = .ok (.getfield 28, 3) := by decide +kernel
theorem dX5_lightAt_9 : decode cX5_lightAt 9 = .ok (.if_icmp .ge 15, 3) := by decide +kernel
theorem dX5_lightAt_12 : decode cX5_lightAt 12 = .ok (.iload_n 2, 1) := by decide +kernel
theorem dX5_lightAt_13 : decode cX5_lightAt 13 = .ok (.ifCond .lt 11, 3) := by decide +kernel
theorem dX5_lightAt_16 : decode cX5_lightAt 16 = .ok (.iload_n 2, 1) := by decide +kernel
theorem dX5_lightAt_17 : decode cX5_lightAt 17 = .ok (.aload_n 0, 1) := by decide +kernel
theorem dX5_lightAt_18 : decode cX5_lightAt 18 = .ok (.getfield 32, 3) := by decide +kernel
theorem dX5_lightAt_21 : decode cX5_lightAt 21 = .ok (.if_icmp .lt 5, 3) := by decide +kernel
theorem dX5_lightAt_24 : decode cX5_lightAt 24 = .ok (.fload_n 3, 1) := by decide +kernel
theorem dX5_lightAt_25 : decode cX5_lightAt 25 = .ok (.freturn, 1) := by decide +kernel
theorem dX5_lightAt_26 : decode cX5_lightAt 26 = .ok (.aload_n 0, 1) := by decide +kernel
theorem dX5_lightAt_27 : decode cX5_lightAt 27 = .ok (.getfield 15, 3) := by decide +kernel
theorem dX5_lightAt_30 : decode cX5_lightAt 30 = .ok (.iload_n 2, 1) := by decide +kernel
theorem dX5_lightAt_31 : decode cX5_lightAt 31 = .ok (.bipush 16, 2) := by decide +kernel
theorem dX5_lightAt_33 : decode cX5_lightAt 33 = .ok (.imul, 1) := by decide +kernel
theorem dX5_lightAt_34 : decode cX5_lightAt 34 = .ok (.iload_n 1, 1) := by decide +kernel
theorem dX5_lightAt_35 : decode cX5_lightAt 35 = .ok (.iadd, 1) := by decide +kernel
theorem dX5_lightAt_36 : decode cX5_lightAt 36 = .ok (.iaload, 1) := by decide +kernel
theorem dX5_lightAt_37 : decode cX5_lightAt 37 = .ok (.istore 4, 2) := by decide +kernel
theorem dX5_lightAt_39 : decode cX5_lightAt 39 = .ok (.iload 4, 2) := by decide +kernel
theorem dX5_lightAt_41 : decode cX5_lightAt 41 = .ok (.ifCond .lt 23, 3) := by decide +kernel
theorem dX5_lightAt_44 : decode cX5_lightAt 44 = .ok (.iload 4, 2) := by decide +kernel
theorem dX5_lightAt_46 : decode cX5_lightAt 46 = .ok (.aload_n 0, 1) := by decide +kernel
theorem dX5_lightAt_47 : decode cX5_lightAt 47 = .ok (.getfield 18, 3) := by decide +kernel
theorem dX5_lightAt_50 : decode cX5_lightAt 50 = .ok (.arraylength, 1) := by decide +kernel
theorem dX5_lightAt_51 : decode cX5_lightAt 51 = .ok (.if_icmp .ge 13, 3) := by decide +kernel
theorem dX5_lightAt_54 : decode cX5_lightAt 54 = .ok (.aload_n 0, 1) := by decide +kernel
theorem dX5_lightAt_55 : decode cX5_lightAt 55 = .ok (.getfield 18, 3) := by decide +kernel
theorem dX5_lightAt_58 : decode cX5_lightAt 58 = .ok (.iload 4, 2) := by decide +kernel
theorem dX5_lightAt_60 : decode cX5_lightAt 60 = .ok (.faload, 1) := by decide +kernel
theorem dX5_lightAt_61 : decode cX5_lightAt 61 = .ok (.goto 4, 3) := by decide +kernel
theorem dX5_lightAt_64 : decode cX5_lightAt 64 = .ok (.fload_n 3, 1) := by decide +kernel
theorem dX5_lightAt_65 : decode cX5_lightAt 65 = .ok (.freturn, 1) := by decide +kernel
set_option maxRecDepth 20000 in
theorem ggX5_dye_X5_has : GoodIn wsX5_dye wsX5_has := goodIn_r _ [6, 7, 8, 9, 10, 11, 12, 13, 14, 15, 16, 17, 18] (by decide +kernel) (by decide +kernel)
set_option maxRecDepth 20000 in
theorem gX5_dye_X5_has : GoodIn wsX5_dye (wsV RX5 71 RX5 yX5_has wsX5_has) := goodIn_app (goodIn_of _ (by decide +kernel)) ggX5_dye_X5_has
theorem dX5_dye_0 : decode cX5_dye 0 = .ok (.aload_n 0, 1) := by decide +kernel
theorem dX5_dye_1 : decode cX5_dye 1 = .ok (.iload_n 1, 1) := by decide +kernel
theorem dX5_dye_2 : decode cX5_dye 2 = .ok (.iload_n 2, 1) := by decide +kernel
theorem dX5_dye_3 : decode cX5_dye 3 = .ok (.invokevirtual 71, 3) := by decide +kernel
theorem dX5_dye_6 : decode cX5_dye 6 = .ok (.ifCond .eq 15, 3) := by decide +kernel
theorem dX5_dye_9 : decode cX5_dye 9 = .ok (.aload_n 0, 1) := by decide +kernel
theorem dX5_dye_10 : decode cX5_dye 10 = .ok (.getfield 9, 3) := by decide +kernel
theorem dX5_dye_13 : decode cX5_dye 13 = .ok (.iload_n 2, 1) := by decide +kernel
theorem dX5_dye_14 : decode cX5_dye 14 = .ok (.bipush 16, 2) := by decide +kernel
theorem dX5_dye_16 : decode cX5_dye 16 = .ok (.imul, 1) := by decide +kernel
theorem dX5_dye_17 : decode cX5_dye 17 = .ok (.iload_n 1, 1) := by decide +kernel
theorem dX5_dye_18 : decode cX5_dye 18 = .ok (.iadd, 1) := by decide +kernel
theorem dX5_dye_19 : decode cX5_dye 19 = .ok (.iload_n 3, 1) := by decide +kernel
theorem dX5_dye_20 : decode cX5_dye 20 = .ok (.iastore, 1) := by decide +kernel
theorem dX5_dye_21 : decode cX5_dye 21 = .ok (.return_, 1) := by decide +kernel
set_option maxRecDepth 20000 in
theorem ggX5_build_X5_has : GoodIn wsX5_build wsX5_has := goodIn_r _ [6, 7, 8, 9, 10, 11, 12, 13, 14, 15, 16, 17, 18] (by decide +kernel) (by decide +kernel)
set_option maxRecDepth 20000 in
theorem gX5_build_X5_has : GoodIn wsX5_build (wsV RX5 71 RX5 yX5_has wsX5_has) := goodIn_app (goodIn_of _ (by decide +kernel)) ggX5_build_X5_has
theorem dX5_build_0 : decode cX5_build 0 = .ok (.aload_n 0, 1) := by decide +kernel
theorem dX5_build_1 : decode cX5_build 1 = .ok (.iload_n 1, 1) := by decide +kernel
theorem dX5_build_2 : decode cX5_build 2 = .ok (.iload_n 2, 1) := by decide +kernel
theorem dX5_build_3 : decode cX5_build 3 = .ok (.invokevirtual 71, 3) := by decide +kernel
theorem dX5_build_6 : decode cX5_build 6 = .ok (.ifCond .eq 18, 3) := by decide +kernel
theorem dX5_build_9 : decode cX5_build 9 = .ok (.aload_n 0, 1) := by decide +kernel
theorem dX5_build_10 : decode cX5_build 10 = .ok (.getfield 15, 3) := by decide +kernel
theorem dX5_build_13 : decode cX5_build 13 = .ok (.iload_n 2, 1) := by decide +kernel
theorem dX5_build_14 : decode cX5_build 14 = .ok (.bipush 16, 2) := by decide +kernel
theorem dX5_build_16 : decode cX5_build 16 = .ok (.imul, 1) := by decide +kernel
theorem dX5_build_17 : decode cX5_build 17 = .ok (.iload_n 1, 1) := by decide +kernel
theorem dX5_build_18 : decode cX5_build 18 = .ok (.iadd, 1) := by decide +kernel
theorem dX5_build_19 : decode cX5_build 19 = .ok (.iaload, 1) := by decide +kernel
theorem dX5_build_20 : decode cX5_build 20 = .ok (.iload_n 3, 1) := by decide +kernel
theorem dX5_build_21 : decode cX5_build 21 = .ok (.if_icmp .ne 5, 3) := by decide +kernel
theorem dX5_build_24 : decode cX5_build 24 = .ok (.iconst 0, 1) := by decide +kernel
theorem dX5_build_25 : decode cX5_build 25 = .ok (.ireturn, 1) := by decide +kernel
theorem dX5_build_26 : decode cX5_build 26 = .ok (.aload_n 0, 1) := by decide +kernel
theorem dX5_build_27 : decode cX5_build 27 = .ok (.getfield 15, 3) := by decide +kernel
theorem dX5_build_30 : decode cX5_build 30 = .ok (.iload_n 2, 1) := by decide +kernel
theorem dX5_build_31 : decode cX5_build 31 = .ok (.bipush 16, 2) := by decide +kernel
theorem dX5_build_33 : decode cX5_build 33 = .ok (.imul, 1) := by decide +kernel
theorem dX5_build_34 : decode cX5_build 34 = .ok (.iload_n 1, 1) := by decide +kernel
theorem dX5_build_35 : decode cX5_build 35 = .ok (.iadd, 1) := by decide +kernel
theorem dX5_build_36 : decode cX5_build 36 = .ok (.iload_n 3, 1) := by decide +kernel
theorem dX5_build_37 : decode cX5_build 37 = .ok (.iastore, 1) := by decide +kernel
theorem dX5_build_38 : decode cX5_build 38 = .ok (.iconst 1, 1) := by decide +kernel
theorem dX5_build_39 : decode cX5_build 39 = .ok (.ireturn, 1) := by decide +kernel
theorem dX5_lightOf_0 : decode cX5_lightOf 0 = .ok (.iload_n 1, 1) := by decide +kernel
theorem dX5_lightOf_1 : decode cX5_lightOf 1 = .ok (.ifCond .lt 21, 3) := by decide +kernel
theorem dX5_lightOf_4 : decode cX5_lightOf 4 = .ok (.iload_n 1, 1) := by decide +kernel
theorem dX5_lightOf_5 : decode cX5_lightOf 5 = .ok (.aload_n 0, 1) := by decide +kernel
theorem dX5_lightOf_6 : decode cX5_lightOf 6 = .ok (.getfield 18, 3) := by decide +kernel
theorem dX5_lightOf_9 : decode cX5_lightOf 9 = .ok (.arraylength, 1) := by decide +kernel
theorem dX5_lightOf_10 : decode cX5_lightOf 10 = .ok (.if_icmp .ge 12, 3) := by decide +kernel
theorem dX5_lightOf_13 : decode cX5_lightOf 13 = .ok (.aload_n 0, 1) := by decide +kernel
theorem dX5_lightOf_14 : decode cX5_lightOf 14 = .ok (.getfield 18, 3) := by decide +kernel
theorem dX5_lightOf_17 : decode cX5_lightOf 17 = .ok (.iload_n 1, 1) := by decide +kernel
theorem dX5_lightOf_18 : decode cX5_lightOf 18 = .ok (.faload, 1) := by decide +kernel
theorem dX5_lightOf_19 : decode cX5_lightOf 19 = .ok (.goto 4, 3) := by decide +kernel
theorem dX5_lightOf_22 : decode cX5_lightOf 22 = .ok (.fconst 0, 1) := by decide +kernel
theorem dX5_lightOf_23 : decode cX5_lightOf 23 = .ok (.freturn, 1) := by decide +kernel
theorem dX5_wish_0 : decode cX5_wish 0 = .ok (.iload_n 0, 1) := by decide +kernel
theorem dX5_wish_1 : decode cX5_wish 1 = .ok (.i2f, 1) := by decide +kernel
theorem dX5_wish_2 : decode cX5_wish 2 = .ok (.ldc 75, 2) := by decide +kernel
theorem dX5_wish_4 : decode cX5_wish 4 = .ok (.fdiv, 1) := by decide +kernel
theorem dX5_wish_5 : decode cX5_wish 5 = .ok (.freturn, 1) := by decide +kernel
set_option maxRecDepth 20000 in
theorem ggX5_wishAt_X5_toneAt : GoodIn wsX5_wishAt wsX5_toneAt := goodIn_r _ [5, 6, 7, 8, 13, 14, 15, 16, 17, 18, 19, 20, 21, 22] (by decide +kernel) (by decide +kernel)
set_option maxRecDepth 20000 in
theorem gX5_wishAt_X5_toneAt : GoodIn wsX5_wishAt (wsV RX5 76 RX5 yX5_toneAt wsX5_toneAt) := goodIn_app (goodIn_of _ (by decide +kernel)) ggX5_wishAt_X5_toneAt
set_option maxRecDepth 20000 in
theorem ggX5_wishAt_X5_wish : GoodIn wsX5_wishAt wsX5_wish := goodIn_r _ [11, 12] (by decide +kernel) (by decide +kernel)
set_option maxRecDepth 20000 in
theorem gX5_wishAt_X5_wish : GoodIn wsX5_wishAt (va_wsS RX5 80 yX5_wish wsX5_wish) := goodIn_app (goodIn_of _ (by decide +kernel)) ggX5_wishAt_X5_wish
theorem dX5_wishAt_0 : decode cX5_wishAt 0 = .ok (.aload_n 0, 1) := by decide +kernel
theorem dX5_wishAt_1 : decode cX5_wishAt 1 = .ok (.iload_n 1, 1) := by decide +kernel
theorem dX5_wishAt_2 : decode cX5_wishAt 2 = .ok (.iload_n 2, 1) := by decide +kernel
theorem dX5_wishAt_3 : decode cX5_wishAt 3 = .ok (.invokevirtual 76, 3) := by decide +kernel
theorem dX5_wishAt_6 : decode cX5_wishAt 6 = .ok (.invokestatic 80, 3) := by decide +kernel
theorem dX5_wishAt_9 : decode cX5_wishAt 9 = .ok (.freturn, 1) := by decide +kernel
set_option maxRecDepth 20000 in
theorem ggX5_stepFor_X5_lightOf : GoodIn wsX5_stepFor wsX5_lightOf := goodIn_r _ [7, 8, 12, 13, 14, 15, 16, 17, 18, 19, 20, 21] (by decide +kernel) (by decide +kernel)
set_option maxRecDepth 20000 in
theorem gX5_stepFor_X5_lightOf : GoodIn wsX5_stepFor (wsV RX5 84 RX5 yX5_lightOf wsX5_lightOf) := goodIn_app (goodIn_of _ (by decide +kernel)) ggX5_stepFor_X5_lightOf
set_option maxRecDepth 20000 in
theorem ggX5_stepFor_X5_distance : GoodIn wsX5_stepFor wsX5_distance := goodIn_r _ [11] (by decide +kernel) (by decide +kernel)
set_option maxRecDepth 20000 in
theorem gX5_stepFor_X5_distance : GoodIn wsX5_stepFor (va_wsS RX5 87 yX5_distance wsX5_distance) := goodIn_app (goodIn_of _ (by decide +kernel)) ggX5_stepFor_X5_distance
theorem dX5_stepFor_0 : decode cX5_stepFor 0 = .ok (.aload_n 0, 1) := by decide +kernel
theorem dX5_stepFor_1 : decode cX5_stepFor 1 = .ok (.getfield 41, 3) := by decide +kernel
theorem dX5_stepFor_4 : decode cX5_stepFor 4 = .ok (.istore_n 2, 1) := by decide +kernel
theorem dX5_stepFor_5 : decode cX5_stepFor 5 = .ok (.aload_n 0, 1) := by decide +kernel
theorem dX5_stepFor_6 : decode cX5_stepFor 6 = .ok (.aload_n 0, 1) := by decide +kernel
theorem dX5_stepFor_7 : decode cX5_stepFor 7 = .ok (.getfield 41, 3) := by decide +kernel
theorem dX5_stepFor_10 : decode cX5_stepFor 10 = .ok (.invokevirtual 84, 3) := by decide +kernel
theorem dX5_stepFor_13 : decode cX5_stepFor 13 = .ok (.fload_n 1, 1) := by decide +kernel
theorem dX5_stepFor_14 : decode cX5_stepFor 14 = .ok (.invokestatic 87, 3) := by decide +kernel
theorem dX5_stepFor_17 : decode cX5_stepFor 17 = .ok (.fstore_n 3, 1) := by decide +kernel
theorem dX5_stepFor_18 : decode cX5_stepFor 18 = .ok (.aload_n 0, 1) := by decide +kernel
theorem dX5_stepFor_19 : decode cX5_stepFor 19 = .ok (.getfield 41, 3) := by decide +kernel
theorem dX5_stepFor_22 : decode cX5_stepFor 22 = .ok (.iconst 1, 1) := by decide +kernel
theorem dX5_stepFor_23 : decode cX5_stepFor 23 = .ok (.iadd, 1) := by decide +kernel
theorem dX5_stepFor_24 : decode cX5_stepFor 24 = .ok (.istore 4, 2) := by decide +kernel
theorem dX5_stepFor_26 : decode cX5_stepFor 26 = .ok (.iload 4, 2) := by decide +kernel
theorem dX5_stepFor_28 : decode cX5_stepFor 28 = .ok (.aload_n 0, 1) := by decide +kernel
theorem dX5_stepFor_29 : decode cX5_stepFor 29 = .ok (.getfield 35, 3) := by decide +kernel
theorem dX5_stepFor_32 : decode cX5_stepFor 32 = .ok (.if_icmp .gt 34, 3) := by decide +kernel
theorem dX5_stepFor_35 : decode cX5_stepFor 35 = .ok (.aload_n 0, 1) := by decide +kernel
theorem dX5_stepFor_36 : decode cX5_stepFor 36 = .ok (.iload 4, 2) := by decide +kernel
theorem dX5_stepFor_38 : decode cX5_stepFor 38 = .ok (.invokevirtual 84, 3) := by decide +kernel
theorem dX5_stepFor_41 : decode cX5_stepFor 41 = .ok (.fload_n 1, 1) := by decide +kernel
theorem dX5_stepFor_42 : decode cX5_stepFor 42 = .ok (.invokestatic 87, 3) := by decide +kernel
theorem dX5_stepFor_45 : decode cX5_stepFor 45 = .ok (.fstore 5, 2) := by decide +kernel
theorem dX5_stepFor_47 : decode cX5_stepFor 47 = .ok (.fload 5, 2) := by decide +kernel
theorem dX5_stepFor_49 : decode cX5_stepFor 49 = .ok (.fload_n 3, 1) := by decide +kernel
theorem dX5_stepFor_50 : decode cX5_stepFor 50 = .ok (.fcmp .g, 1) := by decide +kernel
theorem dX5_stepFor_51 : decode cX5_stepFor 51 = .ok (.ifCond .ge 9, 3) := by decide +kernel
theorem dX5_stepFor_54 : decode cX5_stepFor 54 = .ok (.fload 5, 2) := by decide +kernel
theorem dX5_stepFor_56 : decode cX5_stepFor 56 = .ok (.fstore_n 3, 1) := by decide +kernel
theorem dX5_stepFor_57 : decode cX5_stepFor 57 = .ok (.iload 4, 2) := by decide +kernel
theorem dX5_stepFor_59 : decode cX5_stepFor 59 = .ok (.istore_n 2, 1) := by decide +kernel
theorem dX5_stepFor_60 : decode cX5_stepFor 60 = .ok (.iinc 4 1, 3) := by decide +kernel
theorem dX5_stepFor_63 : decode cX5_stepFor 63 = .ok (.goto (-37), 3) := by decide +kernel
theorem dX5_stepFor_66 : decode cX5_stepFor 66 = .ok (.iload_n 2, 1) := by decide +kernel
theorem dX5_stepFor_67 : decode cX5_stepFor 67 = .ok (.ireturn, 1) := by decide +kernel
theorem dX5_distance_0 : decode cX5_distance 0 = .ok (.fload_n 0, 1) := by decide +kernel
theorem dX5_distance_1 : decode cX5_distance 1 = .ok (.fload_n 1, 1) := by decide +kernel
theorem dX5_distance_2 : decode cX5_distance 2 = .ok (.fcmp .g, 1) := by decide +kernel
theorem dX5_distance_3 : decode cX5_distance 3 = .ok (.ifCond .ge 9, 3) := by decide +kernel
theorem dX5_distance_6 : decode cX5_distance 6 = .ok (.fload_n 1, 1) := by decide +kernel
theorem dX5_distance_7 : decode cX5_distance 7 = .ok (.fload_n 0, 1) := by decide +kernel
theorem dX5_distance_8 : decode cX5_distance 8 = .ok (.fsub, 1) := by decide +kernel
theorem dX5_distance_9 : decode cX5_distance 9 = .ok (.goto 6, 3) := by decide +kernel
theorem dX5_distance_12 : decode cX5_distance 12 = .ok (.fload_n 0, 1) := by decide +kernel
theorem dX5_distance_13 : decode cX5_distance 13 = .ok (.fload_n 1, 1) := by decide +kernel
theorem dX5_distance_14 : decode cX5_distance 14 = .ok (.fsub, 1) := by decide +kernel
theorem dX5_distance_15 : decode cX5_distance 15 = .ok (.freturn, 1) := by decide +kernel
set_option maxRecDepth 20000 in
theorem ggX5_paint_X5_dye : GoodIn wsX5_paint wsX5_dye := goodIn_r _ [5, 6, 7, 8, 9, 4, 10, 11, 12, 36, 37, 38, 39, 40, 41, 42, 43, 44, 45] (by decide +kernel) (by decide +kernel)
set_option maxRecDepth 20000 in
theorem gX5_paint_X5_dye : GoodIn wsX5_paint (wsV RX5 91 RX5 yX5_dye wsX5_dye) := goodIn_app (goodIn_of _ (by decide +kernel)) ggX5_paint_X5_dye
set_option maxRecDepth 20000 in
theorem ggX5_paint_X5_wish : GoodIn wsX5_paint wsX5_wish := goodIn_r _ [15, 16] (by decide +kernel) (by decide +kernel)
set_option maxRecDepth 20000 in
theorem gX5_paint_X5_wish : GoodIn wsX5_paint (va_wsS RX5 80 yX5_wish wsX5_wish) := goodIn_app (goodIn_of _ (by decide +kernel)) ggX5_paint_X5_wish
set_option maxRecDepth 20000 in
theorem ggX5_paint_X5_stepFor : GoodIn wsX5_paint wsX5_stepFor := goodIn_r _ [20, 21, 22, 23, 24, 25, 4, 26, 27, 28, 29, 30, 36, 37, 38, 39, 40, 41, 42, 43, 44, 45] (by decide +kernel) (by decide +kernel)
set_option maxRecDepth 20000 in
theorem gX5_paint_X5_stepFor : GoodIn wsX5_paint (wsV RX5 95 RX5 yX5_stepFor wsX5_stepFor) := goodIn_app (goodIn_of _ (by decide +kernel)) ggX5_paint_X5_stepFor
set_option maxRecDepth 20000 in
theorem ggX5_paint_X5_build : GoodIn wsX5_paint wsX5_build := goodIn_r _ [34, 35, 7, 8, 9, 4, 10, 11, 12, 36, 37, 38, 39, 40, 41, 42, 43, 44, 45] (by decide +kernel) (by decide +kernel)
set_option maxRecDepth 20000 in
theorem gX5_paint_X5_build : GoodIn wsX5_paint (wsV RX5 99 RX5 yX5_build wsX5_build) := goodIn_app (goodIn_of _ (by decide +kernel)) ggX5_paint_X5_build
theorem dX5_paint_0 : decode cX5_paint 0 = .ok (.aload_n 0, 1) := by decide +kernel
theorem dX5_paint_1 : decode cX5_paint 1 = .ok (.iload_n 1, 1) := by decide +kernel
theorem dX5_paint_2 : decode cX5_paint 2 = .ok (.iload_n 2, 1) := by decide +kernel
theorem dX5_paint_3 : decode cX5_paint 3 = .ok (.iload_n 3, 1) := by decide +kernel
theorem dX5_paint_4 : decode cX5_paint 4 = .ok (.invokevirtual 91, 3) := by decide +kernel
theorem dX5_paint_7 : decode cX5_paint 7 = .ok (.aload_n 0, 1) := by decide +kernel
theorem dX5_paint_8 : decode cX5_paint 8 = .ok (.iload_n 1, 1) := by decide +kernel
theorem dX5_paint_9 : decode cX5_paint 9 = .ok (.iload_n 2, 1) := by decide +kernel
theorem dX5_paint_10 : decode cX5_paint 10 = .ok (.aload_n 0, 1) := by decide +kernel
theorem dX5_paint_11 : decode cX5_paint 11 = .ok (.iload_n 3, 1) := by decide +kernel
theorem dX5_paint_12 : decode cX5_paint 12 = .ok (.invokestatic 80, 3) := by decide +kernel
theorem dX5_paint_15 : decode cX5_paint 15 = .ok (.invokevirtual 95, 3) := by decide +kernel
theorem dX5_paint_18 : decode cX5_paint 18 = .ok (.invokevirtual 99, 3) := by decide +kernel
theorem dX5_paint_21 : decode cX5_paint 21 = .ok (.pop, 1) := by decide +kernel
theorem dX5_paint_22 : decode cX5_paint 22 = .ok (.return_, 1) := by decide +kernel
set_option maxRecDepth 20000 in
theorem ggX5_followTones_X5_wishAt : GoodIn wsX5_followTones wsX5_wishAt := goodIn_r _ [7, 8, 9, 10, 6, 11, 2, 1, 12, 13, 14, 15, 16, 40, 41, 42, 43, 44, 45, 46, 47, 48, 49] (by decide +kernel) (by decide +kernel)
set_option maxRecDepth 20000 in
theorem gX5_followTones_X5_wishAt : GoodIn wsX5_followTones (wsV RX5 103 RX5 yX5_wishAt wsX5_wishAt) := goodIn_app (goodIn_of _ (by decide +kernel)) ggX5_followTones_X5_wishAt
set_option maxRecDepth 20000 in
theorem ggX5_followTones_X5_stepFor : GoodIn wsX5_followTones wsX5_stepFor := goodIn_r _ [20, 21, 22, 23, 24, 25, 6, 26, 27, 28, 29, 30, 40, 41, 42, 43, 44, 45, 46, 47, 48, 49] (by decide +kernel) (by decide +kernel)
set_option maxRecDepth 20000 in
theorem gX5_followTones_X5_stepFor : GoodIn wsX5_followTones (wsV RX5 95 RX5 yX5_stepFor wsX5_stepFor) := goodIn_app (goodIn_of _ (by decide +kernel)) ggX5_followTones_X5_stepFor
set_option maxRecDepth 20000 in
theorem ggX5_followTones_X5_build : GoodIn wsX5_followTones wsX5_build := goodIn_r _ [34, 35, 36, 37, 38, 6, 39, 2, 1, 40, 41, 42, 43, 44, 45, 46, 47, 48, 49] (by decide +kernel) (by decide +kernel)
set_option maxRecDepth 20000 in
theorem gX5_followTones_X5_build : GoodIn wsX5_followTones (wsV RX5 99 RX5 yX5_build wsX5_build) := goodIn_app (goodIn_of _ (by decide +kernel)) ggX5_followTones_X5_build
theorem dX5_followTones_0 : decode cX5_followTones 0 = .ok (.iconst 0, 1) := by decide +kernel
theorem dX5_followTones_1 : decode cX5_followTones 1 = .ok (.istore_n 1, 1) := by decide +kernel
theorem dX5_followTones_2 : decode cX5_followTones 2 = .ok (.iconst 0, 1) := by decide +kernel
theorem dX5_followTones_3 : decode cX5_followTones 3 = .ok (.istore_n 2, 1) := by decide +kernel
theorem dX5_followTones_4 : decode cX5_followTones 4 = .ok (.iload_n 2, 1) := by decide +kernel
theorem dX5_followTones_5 : decode cX5_followTones 5 = .ok (.aload_n 0, 1) := by decide +kernel
theorem dX5_followTones_6 : decode cX5_followTones 6 = .ok (.getfield 32, 3) := by decide +kernel
theorem dX5_followTones_9 : decode cX5_followTones 9 = .ok (.if_icmp .ge 44, 3) := by decide +kernel
theorem dX5_followTones_12 : decode cX5_followTones 12 = .ok (.iconst 0, 1) := by decide +kernel
theorem dX5_followTones_13 : decode cX5_followTones 13 = .ok (.istore_n 3, 1) := by decide +kernel
theorem dX5_followTones_14 : decode cX5_followTones 14 = .ok (.iload_n 3, 1) := by decide +kernel
theorem dX5_followTones_15 : decode cX5_followTones 15 = .ok (.aload_n 0, 1) := by decide +kernel
theorem dX5_followTones_16 : decode cX5_followTones 16 = .ok (.getfield 28, 3) := by decide +kernel
theorem dX5_followTones_19 : decode cX5_followTones 19 = .ok (.if_icmp .ge 28, 3) := by decide +kernel
theorem dX5_followTones_22 : decode cX5_followTones 22 = .ok (.iload_n 1, 1) := by decide +kernel
theorem dX5_followTones_23 : decode cX5_followTones 23 = .ok (.aload_n 0, 1) := by decide +kernel
theorem dX5_followTones_24 : decode cX5_followTones 24 = .ok (.iload_n 3, 1) := by decide +kernel
theorem dX5_followTones_25 : decode cX5_followTones 25 = .ok (.iload_n 2, 1) := by decide +kernel
theorem dX5_followTones_26 : decode cX5_followTones 26 = .ok (.aload_n 0, 1) := by decide +kernel
theorem dX5_followTones_27 : decode cX5_followTones 27 = .ok (.aload_n 0, 1) := by decide +kernel
theorem dX5_followTones_28 : decode cX5_followTones 28 = .ok (.iload_n 3, 1) := by decide +kernel
theorem dX5_followTones_29 : decode cX5_followTones 29 = .ok (.iload_n 2, 1) := by decide +kernel
theorem dX5_followTones_30 : decode cX5_followTones 30 = .ok (.invokevirtual 103, 3) := by decide +kernel
theorem dX5_followTones_33 : decode cX5_followTones 33 = .ok (.invokevirtual 95, 3) := by decide +kernel
theorem dX5_followTones_36 : decode cX5_followTones 36 = .ok (.invokevirtual 99, 3) := by decide +kernel
theorem dX5_followTones_39 : decode cX5_followTones 39 = .ok (.iadd, 1) := by decide +kernel
theorem dX5_followTones_40 : decode cX5_followTones 40 = .ok (.istore_n 1, 1) := by decide +kernel
theorem dX5_followTones_41 : decode cX5_followTones 41 = .ok (.iinc 3 1, 3) := by decide +kernel
theorem dX5_followTones_44 : decode cX5_followTones 44 = .ok (.goto (-30), 3) := by decide +kernel
theorem dX5_followTones_47 : decode cX5_followTones 47 = .ok (.iinc 2 1, 3) := by decide +kernel
theorem dX5_followTones_50 : decode cX5_followTones 50 = .ok (.goto (-46), 3) := by decide +kernel
theorem dX5_followTones_53 : decode cX5_followTones 53 = .ok (.iload_n 1, 1) := by decide +kernel
theorem dX5_followTones_54 : decode cX5_followTones 54 = .ok (.ireturn, 1) := by decide +kernel
set_option maxRecDepth 20000 in
theorem ggX5_cover_X5_build : GoodIn wsX5_cover wsX5_build := goodIn_r _ [5, 6, 7, 8, 9, 4, 10, 11, 12, 13, 14, 15, 16, 17, 18, 19, 20, 21, 22] (by decide +kernel) (by decide +kernel)
set_option maxRecDepth 20000 in
theorem gX5_cover_X5_build : GoodIn wsX5_cover (wsV RX5 99 RX5 yX5_build wsX5_build) := goodIn_app (goodIn_of _ (by decide +kernel)) ggX5_cover_X5_build
theorem dX5_cover_0 : decode cX5_cover 0 = .ok (.iconst 0, 1) := by decide +kernel
theorem dX5_cover_1 : decode cX5_cover 1 = .ok (.istore 6, 2) := by decide +kernel
theorem dX5_cover_3 : decode cX5_cover 3 = .ok (.iconst 0, 1) := by decide +kernel
theorem dX5_cover_4 : decode cX5_cover 4 = .ok (.istore 7, 2) := by decide +kernel
theorem dX5_cover_6 : decode cX5_cover 6 = .ok (.iload 7, 2) := by decide +kernel
theorem dX5_cover_8 : decode cX5_cover 8 = .ok (.iload 4, 2) := by decide +kernel
theorem dX5_cover_10 : decode cX5_cover 10 = .ok (.if_icmp .ge 43, 3) := by decide +kernel
theorem dX5_cover_13 : decode cX5_cover 13 = .ok (.iconst 0, 1) := by decide +kernel
theorem dX5_cover_14 : decode cX5_cover 14 = .ok (.istore 8, 2) := by decide +kernel
theorem dX5_cover_16 : decode cX5_cover 16 = .ok (.iload 8, 2) := by decide +kernel
theorem dX5_cover_18 : decode cX5_cover 18 = .ok (.iload_n 3, 1) := by decide +kernel
theorem dX5_cover_19 : decode cX5_cover 19 = .ok (.if_icmp .ge 28, 3) := by decide +kernel
theorem dX5_cover_22 : decode cX5_cover 22 = .ok (.iload 6, 2) := by decide +kernel
theorem dX5_cover_24 : decode cX5_cover 24 = .ok (.aload_n 0, 1) := by decide +kernel
theorem dX5_cover_25 : decode cX5_cover 25 = .ok (.iload_n 1, 1) := by decide +kernel
theorem dX5_cover_26 : decode cX5_cover 26 = .ok (.iload 8, 2) := by decide +kernel
theorem dX5_cover_28 : decode cX5_cover 28 = .ok (.iadd, 1) := by decide +kernel
theorem dX5_cover_29 : decode cX5_cover 29 = .ok (.iload_n 2, 1) := by decide +kernel
theorem dX5_cover_30 : decode cX5_cover 30 = .ok (.iload 7, 2) := by decide +kernel
theorem dX5_cover_32 : decode cX5_cover 32 = .ok (.iadd, 1) := by decide +kernel
theorem dX5_cover_33 : decode cX5_cover 33 = .ok (.iload 5, 2) := by decide +kernel
theorem dX5_cover_35 : decode cX5_cover 35 = .ok (.invokevirtual 99, 3) := by decide +kernel
theorem dX5_cover_38 : decode cX5_cover 38 = .ok (.iadd, 1) := by decide +kernel
theorem dX5_cover_39 : decode cX5_cover 39 = .ok (.istore 6, 2) := by decide +kernel
theorem dX5_cover_41 : decode cX5_cover 41 = .ok (.iinc 8 1, 3) := by decide +kernel
theorem dX5_cover_44 : decode cX5_cover 44 = .ok (.goto (-28), 3) := by decide +kernel
theorem dX5_cover_47 : decode cX5_cover 47 = .ok (.iinc 7 1, 3) := by decide +kernel
theorem dX5_cover_50 : decode cX5_cover 50 = .ok (.goto (-44), 3) := by decide +kernel
theorem dX5_cover_53 : decode cX5_cover 53 = .ok (.iload 6, 2) := by decide +kernel
theorem dX5_cover_55 : decode cX5_cover 55 = .ok (.ireturn, 1) := by decide +kernel
set_option maxRecDepth 20000 in
theorem ggX5_negate_X5_toneAt : GoodIn wsX5_negate wsX5_toneAt := goodIn_r _ [7, 2, 1, 8, 48, 49, 50, 51, 52, 53, 54, 55, 56, 57] (by decide +kernel) (by decide +kernel)
set_option maxRecDepth 20000 in
theorem gX5_negate_X5_toneAt : GoodIn wsX5_negate (wsV RX5 76 RX5 yX5_toneAt wsX5_toneAt) := goodIn_app (goodIn_of _ (by decide +kernel)) ggX5_negate_X5_toneAt
set_option maxRecDepth 20000 in
theorem ggX5_negate_X5_dye : GoodIn wsX5_negate wsX5_dye := goodIn_r _ [12, 8, 13, 14, 15, 6, 16, 2, 1, 48, 49, 50, 51, 52, 53, 54, 55, 56, 57] (by decide +kernel) (by decide +kernel)
set_option maxRecDepth 20000 in
theorem gX5_negate_X5_dye : GoodIn wsX5_negate (wsV RX5 91 RX5 yX5_dye wsX5_dye) := goodIn_app (goodIn_of _ (by decide +kernel)) ggX5_negate_X5_dye
set_option maxRecDepth 20000 in
theorem ggX5_negate_X5_followTones : GoodIn wsX5_negate wsX5_followTones := goodIn_r _ [20, 1, 2, 21, 22, 23, 6, 24, 3, 4, 5, 7, 8, 25, 26, 27, 28, 29, 30, 31, 32, 33, 34, 35, 36, 37, 38, 39, 40, 41, 42, 43, 44, 45, 46, 47, 13, 14, 15, 16, 48, 49, 50, 51, 52, 53, 54, 55, 56, 57] (by decide +kernel) (by decide +kernel)
set_option maxRecDepth 20000 in
theorem gX5_negate_X5_followTones : GoodIn wsX5_negate (wsV RX5 57 RX5 yX5_followTones wsX5_followTones) := goodIn_app (goodIn_of _ (by decide +kernel)) ggX5_negate_X5_followTones
theorem dX5_negate_0 : decode cX5_negate 0 = .ok (.iconst 0, 1) := by decide +kernel
theorem dX5_negate_1 : decode cX5_negate 1 = .ok (.istore_n 1, 1) := by decide +kernel
theorem dX5_negate_2 : decode cX5_negate 2 = .ok (.iload_n 1, 1) := by decide +kernel
theorem dX5_negate_3 : decode cX5_negate 3 = .ok (.aload_n 0, 1) := by decide +kernel
theorem dX5_negate_4 : decode cX5_negate 4 = .ok (.getfield 32, 3) := by decide +kernel
theorem dX5_negate_7 : decode cX5_negate 7 = .ok (.if_icmp .ge 41, 3) := by decide +kernel
theorem dX5_negate_10 : decode cX5_negate 10 = .ok (.iconst 0, 1) := by decide +kernel
theorem dX5_negate_11 : decode cX5_negate 11 = .ok (.istore_n 2, 1) := by decide +kernel
theorem dX5_negate_12 : decode cX5_negate 12 = .ok (.iload_n 2, 1) := by decide +kernel
theorem dX5_negate_13 : decode cX5_negate 13 = .ok (.aload_n 0, 1) := by decide +kernel
theorem dX5_negate_14 : decode cX5_negate 14 = .ok (.getfield 28, 3) := by decide +kernel
theorem dX5_negate_17 : decode cX5_negate 17 = .ok (.if_icmp .ge 25, 3) := by decide +kernel
theorem dX5_negate_20 : decode cX5_negate 20 = .ok (.aload_n 0, 1) := by decide +kernel
theorem dX5_negate_21 : decode cX5_negate 21 = .ok (.iload_n 2, 1) := by decide +kernel
theorem dX5_negate_22 : decode cX5_negate 22 = .ok (.iload_n 1, 1) := by decide +kernel
theorem dX5_negate_23 : decode cX5_negate 23 = .ok (.sipush 255, 3) := by decide +kernel
theorem dX5_negate_26 : decode cX5_negate 26 = .ok (.aload_n 0, 1) := by decide +kernel
theorem dX5_negate_27 : decode cX5_negate 27 = .ok (.iload_n 2, 1) := by decide +kernel
theorem dX5_negate_28 : decode cX5_negate 28 = .ok (.iload_n 1, 1) := by decide +kernel
theorem dX5_negate_29 : decode cX5_negate 29 = .ok (.invokevirtual 76, 3) := by decide +kernel
theorem dX5_negate_32 : decode cX5_negate 32 = .ok (.isub, 1) := by decide +kernel
theorem dX5_negate_33 : decode cX5_negate 33 = .ok (.invokevirtual 91, 3) := by decide +kernel
theorem dX5_negate_36 : decode cX5_negate 36 = .ok (.iinc 2 1, 3) := by decide +kernel
theorem dX5_negate_39 : decode cX5_negate 39 = .ok (.goto (-27), 3) := by decide +kernel
theorem dX5_negate_42 : decode cX5_negate 42 = .ok (.iinc 1 1, 3) := by decide +kernel
theorem dX5_negate_45 : decode cX5_negate 45 = .ok (.goto (-43), 3) := by decide +kernel
theorem dX5_negate_48 : decode cX5_negate 48 = .ok (.aload_n 0, 1) := by decide +kernel
theorem dX5_negate_49 : decode cX5_negate 49 = .ok (.invokevirtual 57, 3) := by decide +kernel
theorem dX5_negate_52 : decode cX5_negate 52 = .ok (.ireturn, 1) := by decide +kernel
set_option maxRecDepth 20000 in
theorem ggX5_brighten_X5_toneAt : GoodIn wsX5_brighten wsX5_toneAt := goodIn_r _ [14, 2, 1, 15, 55, 56, 57, 58, 59, 60, 61, 62, 63, 64] (by decide +kernel) (by decide +kernel)
set_option maxRecDepth 20000 in
theorem gX5_brighten_X5_toneAt : GoodIn wsX5_brighten (wsV RX5 76 RX5 yX5_toneAt wsX5_toneAt) := goodIn_app (goodIn_of _ (by decide +kernel)) ggX5_brighten_X5_toneAt
set_option maxRecDepth 20000 in
theorem ggX5_brighten_X5_dye : GoodIn wsX5_brighten wsX5_dye := goodIn_r _ [19, 15, 20, 21, 22, 13, 23, 2, 1, 55, 56, 57, 58, 59, 60, 61, 62, 63, 64] (by decide +kernel) (by decide +kernel)
set_option maxRecDepth 20000 in
theorem gX5_brighten_X5_dye : GoodIn wsX5_brighten (wsV RX5 91 RX5 yX5_dye wsX5_dye) := goodIn_app (goodIn_of _ (by decide +kernel)) ggX5_brighten_X5_dye
set_option maxRecDepth 20000 in
theorem ggX5_brighten_X5_followTones : GoodIn wsX5_brighten wsX5_followTones := goodIn_r _ [27, 1, 2, 28, 29, 30, 13, 31, 10, 11, 12, 14, 15, 32, 33, 34, 35, 36, 37, 38, 39, 40, 41, 42, 43, 44, 45, 46, 47, 48, 49, 50, 51, 52, 53, 54, 20, 21, 22, 23, 55, 56, 57, 58, 59, 60, 61, 62, 63, 64] (by decide +kernel) (by decide +kernel)
set_option maxRecDepth 20000 in
theorem gX5_brighten_X5_followTones : GoodIn wsX5_brighten (wsV RX5 57 RX5 yX5_followTones wsX5_followTones) := goodIn_app (goodIn_of _ (by decide +kernel)) ggX5_brighten_X5_followTones
theorem dX5_brighten_0 : decode cX5_brighten 0 = .ok (.iconst 0, 1) := by decide +kernel
theorem dX5_brighten_1 : decode cX5_brighten 1 = .ok (.istore_n 2, 1) := by decide +kernel
theorem dX5_brighten_2 : decode cX5_brighten 2 = .ok (.iload_n 2, 1) := by decide +kernel
theorem dX5_brighten_3 : decode cX5_brighten 3 = .ok (.aload_n 0, 1) := by decide +kernel
theorem dX5_brighten_4 : decode cX5_brighten 4 = .ok (.getfield 32, 3) := by decide +kernel
theorem dX5_brighten_7 : decode cX5_brighten 7 = .ok (.if_icmp .ge 49, 3) := by decide +kernel
theorem dX5_brighten_10 : decode cX5_brighten 10 = .ok (.iconst 0, 1) := by decide +kernel
theorem dX5_brighten_11 : decode cX5_brighten 11 = .ok (.istore_n 3, 1) := by decide +kernel
theorem dX5_brighten_12 : decode cX5_brighten 12 = .ok (.iload_n 3, 1) := by decide +kernel
theorem dX5_brighten_13 : decode cX5_brighten 13 = .ok (.aload_n 0, 1) := by decide +kernel
theorem dX5_brighten_14 : decode cX5_brighten 14 = .ok (.getfield 28, 3) := by decide +kernel
theorem dX5_brighten_17 : decode cX5_brighten 17 = .ok (.if_icmp .ge 33, 3) := by decide +kernel
theorem dX5_brighten_20 : decode cX5_brighten 20 = .ok (.aload_n 0, 1) := by decide +kernel
theorem dX5_brighten_21 : decode cX5_brighten 21 = .ok (.iload_n 3, 1) := by decide +kernel
theorem dX5_brighten_22 : decode cX5_brighten 22 = .ok (.iload_n 2, 1) := by decide +kernel
theorem dX5_brighten_23 : decode cX5_brighten 23 = .ok (.iconst 0, 1) := by decide +kernel
theorem dX5_brighten_24 : decode cX5_brighten 24 = .ok (.sipush 255, 3) := by decide +kernel
theorem dX5_brighten_27 : decode cX5_brighten 27 = .ok (.aload_n 0, 1) := by decide +kernel
theorem dX5_brighten_28 : decode cX5_brighten 28 = .ok (.iload_n 3, 1) := by decide +kernel
theorem dX5_brighten_29 : decode cX5_brighten 29 = .ok (.iload_n 2, 1) := by decide +kernel
theorem dX5_brighten_30 : decode cX5_brighten 30 = .ok (.invokevirtual 76, 3) := by decide +kernel
theorem dX5_brighten_33 : decode cX5_brighten 33 = .ok (.iload_n 1, 1) := by decide +kernel
theorem dX5_brighten_34 : decode cX5_brighten 34 = .ok (.iadd, 1) := by decide +kernel
theorem dX5_brighten_35 : decode cX5_brighten 35 = .ok (.invokestatic 107, 3) := by decide +kernel
theorem dX5_brighten_38 : decode cX5_brighten 38 = .ok (.invokestatic 112, 3) := by decide +kernel
theorem dX5_brighten_41 : decode cX5_brighten 41 = .ok (.invokevirtual 91, 3) := by decide +kernel
theorem dX5_brighten_44 : decode cX5_brighten 44 = .ok (.iinc 3 1, 3) := by decide +kernel
theorem dX5_brighten_47 : decode cX5_brighten 47 = .ok (.goto (-35), 3) := by decide +kernel
theorem dX5_brighten_50 : decode cX5_brighten 50 = .ok (.iinc 2 1, 3) := by decide +kernel
theorem dX5_brighten_53 : decode cX5_brighten 53 = .ok (.goto (-51), 3) := by decide +kernel
theorem dX5_brighten_56 : decode cX5_brighten 56 = .ok (.aload_n 0, 1) := by decide +kernel
theorem dX5_brighten_57 : decode cX5_brighten 57 = .ok (.invokevirtual 57, 3) := by decide +kernel
theorem dX5_brighten_60 : decode cX5_brighten 60 = .ok (.ireturn, 1) := by decide +kernel
set_option maxRecDepth 20000 in
theorem ggX5_turn_X5_exchange : GoodIn wsX5_turn wsX5_exchange := goodIn_r _ [7, 8, 9, 10, 6, 11, 2, 1, 12, 13, 14, 15, 16, 17, 18, 19, 20, 21, 22, 23, 24, 25, 26, 27, 28, 29, 30, 31, 32, 33, 34, 35, 36, 37, 38, 39] (by decide +kernel) (by decide +kernel)
set_option maxRecDepth 20000 in
theorem gX5_turn_X5_exchange : GoodIn wsX5_turn (wsV RX5 115 RX5 yX5_exchange wsX5_exchange) := goodIn_app (goodIn_of _ (by decide +kernel)) ggX5_turn_X5_exchange
theorem dX5_turn_0 : decode cX5_turn 0 = .ok (.iconst 0, 1) := by decide +kernel
theorem dX5_turn_1 : decode cX5_turn 1 = .ok (.istore_n 1, 1) := by decide +kernel
theorem dX5_turn_2 : decode cX5_turn 2 = .ok (.iconst 0, 1) := by decide +kernel
theorem dX5_turn_3 : decode cX5_turn 3 = .ok (.istore_n 2, 1) := by decide +kernel
theorem dX5_turn_4 : decode cX5_turn 4 = .ok (.iload_n 2, 1) := by decide +kernel
theorem dX5_turn_5 : decode cX5_turn 5 = .ok (.aload_n 0, 1) := by decide +kernel
theorem dX5_turn_6 : decode cX5_turn 6 = .ok (.getfield 32, 3) := by decide +kernel
theorem dX5_turn_9 : decode cX5_turn 9 = .ok (.if_icmp .ge 44, 3) := by decide +kernel
theorem dX5_turn_12 : decode cX5_turn 12 = .ok (.iconst 0, 1) := by decide +kernel
theorem dX5_turn_13 : decode cX5_turn 13 = .ok (.istore_n 3, 1) := by decide +kernel
theorem dX5_turn_14 : decode cX5_turn 14 = .ok (.iload_n 3, 1) := by decide +kernel
theorem dX5_turn_15 : decode cX5_turn 15 = .ok (.aload_n 0, 1) := by decide +kernel
theorem dX5_turn_16 : decode cX5_turn 16 = .ok (.getfield 28, 3) := by decide +kernel
theorem dX5_turn_19 : decode cX5_turn 19 = .ok (.iconst 2, 1) := by decide +kernel
theorem dX5_turn_20 : decode cX5_turn 20 = .ok (.idiv, 1) := by decide +kernel
theorem dX5_turn_21 : decode cX5_turn 21 = .ok (.if_icmp .ge 26, 3) := by decide +kernel
theorem dX5_turn_24 : decode cX5_turn 24 = .ok (.iload_n 1, 1) := by decide +kernel
theorem dX5_turn_25 : decode cX5_turn 25 = .ok (.aload_n 0, 1) := by decide +kernel
theorem dX5_turn_26 : decode cX5_turn 26 = .ok (.iload_n 3, 1) := by decide +kernel
theorem dX5_turn_27 : decode cX5_turn 27 = .ok (.aload_n 0, 1) := by decide +kernel
theorem dX5_turn_28 : decode cX5_turn 28 = .ok (.getfield 28, 3) := by decide +kernel
theorem dX5_turn_31 : decode cX5_turn 31 = .ok (.iconst 1, 1) := by decide +kernel
theorem dX5_turn_32 : decode cX5_turn 32 = .ok (.isub, 1) := by decide +kernel
theorem dX5_turn_33 : decode cX5_turn 33 = .ok (.iload_n 3, 1) := by decide +kernel
theorem dX5_turn_34 : decode cX5_turn 34 = .ok (.isub, 1) := by decide +kernel
theorem dX5_turn_35 : decode cX5_turn 35 = .ok (.iload_n 2, 1) := by decide +kernel
theorem dX5_turn_36 : decode cX5_turn 36 = .ok (.invokevirtual 115, 3) := by decide +kernel
theorem dX5_turn_39 : decode cX5_turn 39 = .ok (.iadd, 1) := by decide +kernel
theorem dX5_turn_40 : decode cX5_turn 40 = .ok (.istore_n 1, 1) := by decide +kernel
theorem dX5_turn_41 : decode cX5_turn 41 = .ok (.iinc 3 1, 3) := by decide +kernel
theorem dX5_turn_44 : decode cX5_turn 44 = .ok (.goto (-30), 3) := by decide +kernel
theorem dX5_turn_47 : decode cX5_turn 47 = .ok (.iinc 2 1, 3) := by decide +kernel
theorem dX5_turn_50 : decode cX5_turn 50 = .ok (.goto (-46), 3) := by decide +kernel
theorem dX5_turn_53 : decode cX5_turn 53 = .ok (.iload_n 1, 1) := by decide +kernel
theorem dX5_turn_54 : decode cX5_turn 54 = .ok (.ireturn, 1) := by decide +kernel
set_option maxRecDepth 20000 in
theorem ggX5_exchange_X5_toneAt : GoodIn wsX5_exchange wsX5_toneAt := goodIn_r _ [5, 6, 7, 8, 26, 27, 28, 29, 30, 31, 32, 33, 34, 35] (by decide +kernel) (by decide +kernel)
set_option maxRecDepth 20000 in
theorem gX5_exchange_X5_toneAt : GoodIn wsX5_exchange (wsV RX5 76 RX5 yX5_toneAt wsX5_toneAt) := goodIn_app (goodIn_of _ (by decide +kernel)) ggX5_exchange_X5_toneAt
set_option maxRecDepth 20000 in
theorem ggX5_exchange_X5_heightAt : GoodIn wsX5_exchange wsX5_heightAt := goodIn_r _ [12, 6, 7, 13, 26, 27, 28, 29, 30, 31, 32, 33, 34, 35] (by decide +kernel) (by decide +kernel)
set_option maxRecDepth 20000 in
theorem gX5_exchange_X5_heightAt : GoodIn wsX5_exchange (wsV RX5 118 RX5 yX5_heightAt wsX5_heightAt) := goodIn_app (goodIn_of _ (by decide +kernel)) ggX5_exchange_X5_heightAt
set_option maxRecDepth 20000 in
theorem ggX5_exchange_X5_dye : GoodIn wsX5_exchange wsX5_dye := goodIn_r _ [17, 8, 18, 19, 20, 4, 21, 6, 7, 26, 27, 28, 29, 30, 31, 32, 33, 34, 35] (by decide +kernel) (by decide +kernel)
set_option maxRecDepth 20000 in
theorem gX5_exchange_X5_dye : GoodIn wsX5_exchange (wsV RX5 91 RX5 yX5_dye wsX5_dye) := goodIn_app (goodIn_of _ (by decide +kernel)) ggX5_exchange_X5_dye
set_option maxRecDepth 20000 in
theorem ggX5_exchange_X5_build : GoodIn wsX5_exchange wsX5_build := goodIn_r _ [25, 13, 18, 19, 20, 4, 21, 6, 7, 26, 27, 28, 29, 30, 31, 32, 33, 34, 35] (by decide +kernel) (by decide +kernel)
set_option maxRecDepth 20000 in
theorem gX5_exchange_X5_build : GoodIn wsX5_exchange (wsV RX5 99 RX5 yX5_build wsX5_build) := goodIn_app (goodIn_of _ (by decide +kernel)) ggX5_exchange_X5_build
theorem dX5_exchange_0 : decode cX5_exchange 0 = .ok (.aload_n 0, 1) := by decide +kernel
theorem dX5_exchange_1 : decode cX5_exchange 1 = .ok (.iload_n 1, 1) := by decide +kernel
theorem dX5_exchange_2 : decode cX5_exchange 2 = .ok (.iload_n 3, 1) := by decide +kernel
theorem dX5_exchange_3 : decode cX5_exchange 3 = .ok (.invokevirtual 76, 3) := by decide +kernel
theorem dX5_exchange_6 : decode cX5_exchange 6 = .ok (.istore 4, 2) := by decide +kernel
theorem dX5_exchange_8 : decode cX5_exchange 8 = .ok (.aload_n 0, 1) := by decide +kernel
theorem dX5_exchange_9 : decode cX5_exchange 9 = .ok (.iload_n 1, 1) := by decide +kernel
theorem dX5_exchange_10 : decode cX5_exchange 10 = .ok (.iload_n 3, 1) := by decide +kernel
theorem dX5_exchange_11 : decode cX5_exchange 11 = .ok (.invokevirtual 118, 3) := by decide +kernel
theorem dX5_exchange_14 : decode cX5_exchange 14 = .ok (.istore 5, 2) := by decide +kernel
theorem dX5_exchange_16 : decode cX5_exchange 16 = .ok (.aload_n 0, 1) := by decide +kernel
theorem dX5_exchange_17 : decode cX5_exchange 17 = .ok (.iload_n 1, 1) := by decide +kernel
theorem dX5_exchange_18 : decode cX5_exchange 18 = .ok (.iload_n 3, 1) := by decide +kernel
theorem dX5_exchange_19 : decode cX5_exchange 19 = .ok (.aload_n 0, 1) := by decide +kernel
theorem dX5_exchange_20 : decode cX5_exchange 20 = .ok (.iload_n 2, 1) := by decide +kernel
theorem dX5_exchange_21 : decode cX5_exchange 21 = .ok (.iload_n 3, 1) := by decide +kernel
theorem dX5_exchange_22 : decode cX5_exchange 22 = .ok (.invokevirtual 76, 3) := by decide +kernel
theorem dX5_exchange_25 : decode cX5_exchange 25 = .ok (.invokevirtual 91, 3) := by decide +kernel
theorem dX5_exchange_28 : decode cX5_exchange 28 = .ok (.aload_n 0, 1) := by decide +kernel
theorem dX5_exchange_29 : decode cX5_exchange 29 = .ok (.iload_n 2, 1) := by decide +kernel
theorem dX5_exchange_30 : decode cX5_exchange 30 = .ok (.iload_n 3, 1) := by decide +kernel
theorem dX5_exchange_31 : decode cX5_exchange 31 = .ok (.iload 4, 2) := by decide +kernel
theorem dX5_exchange_33 : decode cX5_exchange 33 = .ok (.invokevirtual 91, 3) := by decide +kernel
theorem dX5_exchange_36 : decode cX5_exchange 36 = .ok (.aload_n 0, 1) := by decide +kernel
theorem dX5_exchange_37 : decode cX5_exchange 37 = .ok (.iload_n 1, 1) := by decide +kernel
theorem dX5_exchange_38 : decode cX5_exchange 38 = .ok (.iload_n 3, 1) := by decide +kernel
theorem dX5_exchange_39 : decode cX5_exchange 39 = .ok (.aload_n 0, 1) := by decide +kernel
theorem dX5_exchange_40 : decode cX5_exchange 40 = .ok (.iload_n 2, 1) := by decide +kernel
theorem dX5_exchange_41 : decode cX5_exchange 41 = .ok (.iload_n 3, 1) := by decide +kernel
theorem dX5_exchange_42 : decode cX5_exchange 42 = .ok (.invokevirtual 118, 3) := by decide +kernel
theorem dX5_exchange_45 : decode cX5_exchange 45 = .ok (.invokevirtual 99, 3) := by decide +kernel
theorem dX5_exchange_48 : decode cX5_exchange 48 = .ok (.aload_n 0, 1) := by decide +kernel
theorem dX5_exchange_49 : decode cX5_exchange 49 = .ok (.iload_n 2, 1) := by decide +kernel
theorem dX5_exchange_50 : decode cX5_exchange 50 = .ok (.iload_n 3, 1) := by decide +kernel
theorem dX5_exchange_51 : decode cX5_exchange 51 = .ok (.iload 5, 2) := by decide +kernel
theorem dX5_exchange_53 : decode cX5_exchange 53 = .ok (.invokevirtual 99, 3) := by decide +kernel
theorem dX5_exchange_56 : decode cX5_exchange 56 = .ok (.iadd, 1) := by decide +kernel
theorem dX5_exchange_57 : decode cX5_exchange 57 = .ok (.ireturn, 1) := by decide +kernel
set_option maxRecDepth 20000 in
theorem ggX5_sumOfHeights_X5_heightAt : GoodIn wsX5_sumOfHeights wsX5_heightAt := goodIn_r _ [7, 2, 1, 8, 9, 10, 11, 12, 13, 14, 15, 16, 17, 18] (by decide +kernel) (by decide +kernel)
set_option maxRecDepth 20000 in
theorem gX5_sumOfHeights_X5_heightAt : GoodIn wsX5_sumOfHeights (wsV RX5 118 RX5 yX5_heightAt wsX5_heightAt) := goodIn_app (goodIn_of _ (by decide +kernel)) ggX5_sumOfHeights_X5_heightAt
theorem dX5_sumOfHeights_0 : decode cX5_sumOfHeights 0 = .ok (.iconst 0, 1) := by decide +kernel
theorem dX5_sumOfHeights_1 : decode cX5_sumOfHeights 1 = .ok (.istore_n 1, 1) := by decide +kernel
theorem dX5_sumOfHeights_2 : decode cX5_sumOfHeights 2 = .ok (.iconst 0, 1) := by decide +kernel
theorem dX5_sumOfHeights_3 : decode cX5_sumOfHeights 3 = .ok (.istore_n 2, 1) := by decide +kernel
theorem dX5_sumOfHeights_4 : decode cX5_sumOfHeights 4 = .ok (.iload_n 2, 1) := by decide +kernel
theorem dX5_sumOfHeights_5 : decode cX5_sumOfHeights 5 = .ok (.aload_n 0, 1) := by decide +kernel
theorem dX5_sumOfHeights_6 : decode cX5_sumOfHeights 6 = .ok (.getfield 32, 3) := by decide +kernel
theorem dX5_sumOfHeights_9 : decode cX5_sumOfHeights 9 = .ok (.if_icmp .ge 34, 3) := by decide +kernel
theorem dX5_sumOfHeights_12 : decode cX5_sumOfHeights 12 = .ok (.iconst 0, 1) := by decide +kernel
theorem dX5_sumOfHeights_13 : decode cX5_sumOfHeights 13 = .ok (.istore_n 3, 1) := by decide +kernel
theorem dX5_sumOfHeights_14 : decode cX5_sumOfHeights 14 = .ok (.iload_n 3, 1) := by decide +kernel
theorem dX5_sumOfHeights_15 : decode cX5_sumOfHeights 15 = .ok (.aload_n 0, 1) := by decide +kernel
theorem dX5_sumOfHeights_16 : decode cX5_sumOfHeights 16 = .ok (.getfield 28, 3) := by decide +kernel
theorem dX5_sumOfHeights_19 : decode cX5_sumOfHeights 19 = .ok (.if_icmp .ge 18, 3) := by decide +kernel
theorem dX5_sumOfHeights_22 : decode cX5_sumOfHeights 22 = .ok (.iload_n 1, 1) := by decide +kernel
theorem dX5_sumOfHeights_23 : decode cX5_sumOfHeights 23 = .ok (.aload_n 0, 1) := by decide +kernel
theorem dX5_sumOfHeights_24 : decode cX5_sumOfHeights 24 = .ok (.iload_n 3, 1) := by decide +kernel
theorem dX5_sumOfHeights_25 : decode cX5_sumOfHeights 25 = .ok (.iload_n 2, 1) := by decide +kernel
theorem dX5_sumOfHeights_26 : decode cX5_sumOfHeights 26 = .ok (.invokevirtual 118, 3) := by decide +kernel
theorem dX5_sumOfHeights_29 : decode cX5_sumOfHeights 29 = .ok (.iadd, 1) := by decide +kernel
theorem dX5_sumOfHeights_30 : decode cX5_sumOfHeights 30 = .ok (.istore_n 1, 1) := by decide +kernel
theorem dX5_sumOfHeights_31 : decode cX5_sumOfHeights 31 = .ok (.iinc 3 1, 3) := by decide +kernel
theorem dX5_sumOfHeights_34 : decode cX5_sumOfHeights 34 = .ok (.goto (-20), 3) := by decide +kernel
theorem dX5_sumOfHeights_37 : decode cX5_sumOfHeights 37 = .ok (.iinc 2 1, 3) := by decide +kernel
theorem dX5_sumOfHeights_40 : decode cX5_sumOfHeights 40 = .ok (.goto (-36), 3) := by decide +kernel
theorem dX5_sumOfHeights_43 : decode cX5_sumOfHeights 43 = .ok (.iload_n 1, 1) := by decide +kernel
theorem dX5_sumOfHeights_44 : decode cX5_sumOfHeights 44 = .ok (.ireturn, 1) := by decide +kernel
set_option maxRecDepth 20000 in
theorem ggX5_countOf_X5_heightAt : GoodIn wsX5_countOf wsX5_heightAt := goodIn_r _ [7, 2, 1, 8, 9, 10, 11, 12, 13, 14, 15, 16, 17, 18] (by decide +kernel) (by decide +kernel)
set_option maxRecDepth 20000 in
theorem gX5_countOf_X5_heightAt : GoodIn wsX5_countOf (wsV RX5 118 RX5 yX5_heightAt wsX5_heightAt) := goodIn_app (goodIn_of _ (by decide +kernel)) ggX5_countOf_X5_heightAt
theorem dX5_countOf_0 : decode cX5_countOf 0 = .ok (.iconst 0, 1) := by decide +kernel
theorem dX5_countOf_1 : decode cX5_countOf 1 = .ok (.istore_n 2, 1) := by decide +kernel
theorem dX5_countOf_2 : decode cX5_countOf 2 = .ok (.iconst 0, 1) := by decide +kernel
theorem dX5_countOf_3 : decode cX5_countOf 3 = .ok (.istore_n 3, 1) := by decide +kernel
theorem dX5_countOf_4 : decode cX5_countOf 4 = .ok (.iload_n 3, 1) := by decide +kernel
theorem dX5_countOf_5 : decode cX5_countOf 5 = .ok (.aload_n 0, 1) := by decide +kernel
theorem dX5_countOf_6 : decode cX5_countOf 6 = .ok (.getfield 32, 3) := by decide +kernel
theorem dX5_countOf_9 : decode cX5_countOf 9 = .ok (.if_icmp .ge 41, 3) := by decide +kernel
theorem dX5_countOf_12 : decode cX5_countOf 12 = .ok (.iconst 0, 1) := by decide +kernel
theorem dX5_countOf_13 : decode cX5_countOf 13 = .ok (.istore 4, 2) := by decide +kernel
theorem dX5_countOf_15 : decode cX5_countOf 15 = .ok (.iload 4, 2) := by decide +kernel
theorem dX5_countOf_17 : decode cX5_countOf 17 = .ok (.aload_n 0, 1) := by decide +kernel
theorem dX5_countOf_18 : decode cX5_countOf 18 = .ok (.getfield 28, 3) := by decide +kernel
theorem dX5_countOf_21 : decode cX5_countOf 21 = .ok (.if_icmp .ge 23, 3) := by decide +kernel
theorem dX5_countOf_24 : decode cX5_countOf 24 = .ok (.aload_n 0, 1) := by decide +kernel
theorem dX5_countOf_25 : decode cX5_countOf 25 = .ok (.iload 4, 2) := by decide +kernel
theorem dX5_countOf_27 : decode cX5_countOf 27 = .ok (.iload_n 3, 1) := by decide +kernel
theorem dX5_countOf_28 : decode cX5_countOf 28 = .ok (.invokevirtual 118, 3) := by decide +kernel
theorem dX5_countOf_31 : decode cX5_countOf 31 = .ok (.iload_n 1, 1) := by decide +kernel
theorem dX5_countOf_32 : decode cX5_countOf 32 = .ok (.if_icmp .ne 6, 3) := by decide +kernel
theorem dX5_countOf_35 : decode cX5_countOf 35 = .ok (.iinc 2 1, 3) := by decide +kernel
theorem dX5_countOf_38 : decode cX5_countOf 38 = .ok (.iinc 4 1, 3) := by decide +kernel
theorem dX5_countOf_41 : decode cX5_countOf 41 = .ok (.goto (-26), 3) := by decide +kernel
theorem dX5_countOf_44 : decode cX5_countOf 44 = .ok (.iinc 3 1, 3) := by decide +kernel
theorem dX5_countOf_47 : decode cX5_countOf 47 = .ok (.goto (-43), 3) := by decide +kernel
theorem dX5_countOf_50 : decode cX5_countOf 50 = .ok (.iload_n 2, 1) := by decide +kernel
theorem dX5_countOf_51 : decode cX5_countOf 51 = .ok (.ireturn, 1) := by decide +kernel
set_option maxRecDepth 20000 in
theorem ggX5_greatestStep_X5_has : GoodIn wsX5_greatestStep wsX5_has := goodIn_r _ [14, 2, 1, 20, 21, 22, 23, 24, 25, 26, 27, 28, 29] (by decide +kernel) (by decide +kernel)
set_option maxRecDepth 20000 in
theorem gX5_greatestStep_X5_has : GoodIn wsX5_greatestStep (wsV RX5 71 RX5 yX5_has wsX5_has) := goodIn_app (goodIn_of _ (by decide +kernel)) ggX5_greatestStep_X5_has
set_option maxRecDepth 20000 in
theorem ggX5_greatestStep_X5_heightAt : GoodIn wsX5_greatestStep wsX5_heightAt := goodIn_r _ [18, 2, 1, 19, 20, 21, 22, 23, 24, 25, 26, 27, 28, 29] (by decide +kernel) (by decide +kernel)
set_option maxRecDepth 20000 in
theorem gX5_greatestStep_X5_heightAt : GoodIn wsX5_greatestStep (wsV RX5 118 RX5 yX5_heightAt wsX5_heightAt) := goodIn_app (goodIn_of _ (by decide +kernel)) ggX5_greatestStep_X5_heightAt
theorem dX5_greatestStep_0 : decode cX5_greatestStep 0 = .ok (.iconst 0, 1) := by decide +kernel
theorem dX5_greatestStep_1 : decode cX5_greatestStep 1 = .ok (.istore_n 1, 1) := by decide +kernel
theorem dX5_greatestStep_2 : decode cX5_greatestStep 2 = .ok (.iconst 0, 1) := by decide +kernel
theorem dX5_greatestStep_3 : decode cX5_greatestStep 3 = .ok (.istore_n 2, 1) := by decide +kernel
theorem dX5_greatestStep_4 : decode cX5_greatestStep 4 = .ok (.iload_n 2, 1) := by decide +kernel
theorem dX5_greatestStep_5 : decode cX5_greatestStep 5 = .ok (.aload_n 0, 1) := by decide +kernel
theorem dX5_greatestStep_6 : decode cX5_greatestStep 6 = .ok (.getfield 32, 3) := by decide +kernel
theorem dX5_greatestStep_9 : decode cX5_greatestStep 9 = .ok (.if_icmp .ge 107, 3) := by decide +kernel
theorem dX5_greatestStep_12 : decode cX5_greatestStep 12 = .ok (.iconst 0, 1) := by decide +kernel
theorem dX5_greatestStep_13 : decode cX5_greatestStep 13 = .ok (.istore_n 3, 1) := by decide +kernel
theorem dX5_greatestStep_14 : decode cX5_greatestStep 14 = .ok (.iload_n 3, 1) := by decide +kernel
theorem dX5_greatestStep_15 : decode cX5_greatestStep 15 = .ok (.aload_n 0, 1) := by decide +kernel
theorem dX5_greatestStep_16 : decode cX5_greatestStep 16 = .ok (.getfield 28, 3) := by decide +kernel
theorem dX5_greatestStep_19 : decode cX5_greatestStep 19 = .ok (.if_icmp .ge 91, 3) := by decide +kernel
theorem dX5_greatestStep_22 : decode cX5_greatestStep 22 = .ok (.aload_n 0, 1) := by decide +kernel
theorem dX5_greatestStep_23 : decode cX5_greatestStep 23 = .ok (.iload_n 3, 1) := by decide +kernel
theorem dX5_greatestStep_24 : decode cX5_greatestStep 24 = .ok (.iconst 1, 1) := by decide +kernel
theorem dX5_greatestStep_25 : decode cX5_greatestStep 25 = .ok (.iadd, 1) := by decide +kernel
theorem dX5_greatestStep_26 : decode cX5_greatestStep 26 = .ok (.iload_n 2, 1) := by decide +kernel
theorem dX5_greatestStep_27 : decode cX5_greatestStep 27 = .ok (.invokevirtual 71, 3) := by decide +kernel
theorem dX5_greatestStep_30 : decode cX5_greatestStep 30 = .ok (.ifCond .eq 24, 3) := by decide +kernel
theorem dX5_greatestStep_33 : decode cX5_greatestStep 33 = .ok (.aload_n 0, 1) := by decide +kernel
theorem dX5_greatestStep_34 : decode cX5_greatestStep 34 = .ok (.iload_n 3, 1) := by decide +kernel
theorem dX5_greatestStep_35 : decode cX5_greatestStep 35 = .ok (.iload_n 2, 1) := by decide +kernel
theorem dX5_greatestStep_36 : decode cX5_greatestStep 36 = .ok (.invokevirtual 118, 3) := by decide +kernel
theorem dX5_greatestStep_39 : decode cX5_greatestStep 39 = .ok (.aload_n 0, 1) := by decide +kernel
theorem dX5_greatestStep_40 : decode cX5_greatestStep 40 = .ok (.iload_n 3, 1) := by decide +kernel
theorem dX5_greatestStep_41 : decode cX5_greatestStep 41 = .ok (.iconst 1, 1) := by decide +kernel
theorem dX5_greatestStep_42 : decode cX5_greatestStep 42 = .ok (.iadd, 1) := by decide +kernel
theorem dX5_greatestStep_43 : decode cX5_greatestStep 43 = .ok (.iload_n 2, 1) := by decide +kernel
theorem dX5_greatestStep_44 : decode cX5_greatestStep 44 = .ok (.invokevirtual 118, 3) := by decide +kernel
theorem dX5_greatestStep_47 : decode cX5_greatestStep 47 = .ok (.isub, 1) := by decide +kernel
theorem dX5_greatestStep_48 : decode cX5_greatestStep 48 = .ok (.invokestatic 121, 3) := by decide +kernel
theorem dX5_greatestStep_51 : decode cX5_greatestStep 51 = .ok (.goto 4, 3) := by decide +kernel
theorem dX5_greatestStep_54 : decode cX5_greatestStep 54 = .ok (.iconst 0, 1) := by decide +kernel
theorem dX5_greatestStep_55 : decode cX5_greatestStep 55 = .ok (.istore 4, 2) := by decide +kernel
theorem dX5_greatestStep_57 : decode cX5_greatestStep 57 = .ok (.aload_n 0, 1) := by decide +kernel
theorem dX5_greatestStep_58 : decode cX5_greatestStep 58 = .ok (.iload_n 3, 1) := by decide +kernel
theorem dX5_greatestStep_59 : decode cX5_greatestStep 59 = .ok (.iload_n 2, 1) := by decide +kernel
theorem dX5_greatestStep_60 : decode cX5_greatestStep 60 = .ok (.iconst 1, 1) := by decide +kernel
theorem dX5_greatestStep_61 : decode cX5_greatestStep 61 = .ok (.iadd, 1) := by decide +kernel
theorem dX5_greatestStep_62 : decode cX5_greatestStep 62 = .ok (.invokevirtual 71, 3) := by decide +kernel
theorem dX5_greatestStep_65 : decode cX5_greatestStep 65 = .ok (.ifCond .eq 24, 3) := by decide +kernel
theorem dX5_greatestStep_68 : decode cX5_greatestStep 68 = .ok (.aload_n 0, 1) := by decide +kernel
theorem dX5_greatestStep_69 : decode cX5_greatestStep 69 = .ok (.iload_n 3, 1) := by decide +kernel
theorem dX5_greatestStep_70 : decode cX5_greatestStep 70 = .ok (.iload_n 2, 1) := by decide +kernel
theorem dX5_greatestStep_71 : decode cX5_greatestStep 71 = .ok (.invokevirtual 118, 3) := by decide +kernel
theorem dX5_greatestStep_74 : decode cX5_greatestStep 74 = .ok (.aload_n 0, 1) := by decide +kernel
theorem dX5_greatestStep_75 : decode cX5_greatestStep 75 = .ok (.iload_n 3, 1) := by decide +kernel
theorem dX5_greatestStep_76 : decode cX5_greatestStep 76 = .ok (.iload_n 2, 1) := by decide +kernel
theorem dX5_greatestStep_77 : decode cX5_greatestStep 77 = .ok (.iconst 1, 1) := by decide +kernel
theorem dX5_greatestStep_78 : decode cX5_greatestStep 78 = .ok (.iadd, 1) := by decide +kernel
theorem dX5_greatestStep_79 : decode cX5_greatestStep 79 = .ok (.invokevirtual 118, 3) := by decide +kernel
theorem dX5_greatestStep_82 : decode cX5_greatestStep 82 = .ok (.isub, 1) := by decide +kernel
theorem dX5_greatestStep_83 : decode cX5_greatestStep 83 = .ok (.invokestatic 121, 3) := by decide +kernel
theorem dX5_greatestStep_86 : decode cX5_greatestStep 86 = .ok (.goto 4, 3) := by decide +kernel
theorem dX5_greatestStep_89 : decode cX5_greatestStep 89 = .ok (.iconst 0, 1) := by decide +kernel
theorem dX5_greatestStep_90 : decode cX5_greatestStep 90 = .ok (.istore 5, 2) := by decide +kernel
theorem dX5_greatestStep_92 : decode cX5_greatestStep 92 = .ok (.iload_n 1, 1) := by decide +kernel
theorem dX5_greatestStep_93 : decode cX5_greatestStep 93 = .ok (.iload 4, 2) := by decide +kernel
theorem dX5_greatestStep_95 : decode cX5_greatestStep 95 = .ok (.iload 5, 2) := by decide +kernel
theorem dX5_greatestStep_97 : decode cX5_greatestStep 97 = .ok (.invokestatic 112, 3) := by decide +kernel
theorem dX5_greatestStep_100 : decode cX5_greatestStep 100 = .ok (.invokestatic 112, 3) := by decide +kernel
theorem dX5_greatestStep_103 : decode cX5_greatestStep 103 = .ok (.istore_n 1, 1) := by decide +kernel
theorem dX5_greatestStep_104 : decode cX5_greatestStep 104 = .ok (.iinc 3 1, 3) := by decide +kernel
theorem dX5_greatestStep_107 : decode cX5_greatestStep 107 = .ok (.goto (-93), 3) := by decide +kernel
theorem dX5_greatestStep_110 : decode cX5_greatestStep 110 = .ok (.iinc 2 1, 3) := by decide +kernel
theorem dX5_greatestStep_113 : decode cX5_greatestStep 113 = .ok (.goto (-109), 3) := by decide +kernel
theorem dX5_greatestStep_116 : decode cX5_greatestStep 116 = .ok (.iload_n 1, 1) := by decide +kernel
theorem dX5_greatestStep_117 : decode cX5_greatestStep 117 = .ok (.ireturn, 1) := by decide +kernel
set_option maxRecDepth 20000 in
theorem ggX5_differencesTo_X5_heightAt : GoodIn wsX5_differencesTo wsX5_heightAt := goodIn_r _ [7, 2, 1, 8, 9, 10, 11, 12, 13, 14, 15, 16, 17, 18] (by decide +kernel) (by decide +kernel)
set_option maxRecDepth 20000 in
theorem gX5_differencesTo_X5_heightAt : GoodIn wsX5_differencesTo (wsV RX5 118 RX5 yX5_heightAt wsX5_heightAt) := goodIn_app (goodIn_of _ (by decide +kernel)) ggX5_differencesTo_X5_heightAt
theorem dX5_differencesTo_0 : decode cX5_differencesTo 0 = .ok (.iconst 0, 1) := by decide +kernel
theorem dX5_differencesTo_1 : decode cX5_differencesTo 1 = .ok (.istore_n 2, 1) := by decide +kernel
theorem dX5_differencesTo_2 : decode cX5_differencesTo 2 = .ok (.iconst 0, 1) := by decide +kernel
theorem dX5_differencesTo_3 : decode cX5_differencesTo 3 = .ok (.istore_n 3, 1) := by decide +kernel
theorem dX5_differencesTo_4 : decode cX5_differencesTo 4 = .ok (.iload_n 3, 1) := by decide +kernel
theorem dX5_differencesTo_5 : decode cX5_differencesTo 5 = .ok (.aload_n 0, 1) := by decide +kernel
theorem dX5_differencesTo_6 : decode cX5_differencesTo 6 = .ok (.getfield 32, 3) := by decide +kernel
theorem dX5_differencesTo_9 : decode cX5_differencesTo 9 = .ok (.if_icmp .ge 47, 3) := by decide +kernel
theorem dX5_differencesTo_12 : decode cX5_differencesTo 12 = .ok (.iconst 0, 1) := by decide +kernel
theorem dX5_differencesTo_13 : decode cX5_differencesTo 13 = .ok (.istore 4, 2) := by decide +kernel
theorem dX5_differencesTo_15 : decode cX5_differencesTo 15 = .ok (.iload 4, 2) := by decide +kernel
theorem dX5_differencesTo_17 : decode cX5_differencesTo 17 = .ok (.aload_n 0, 1) := by decide +kernel
theorem dX5_differencesTo_18 : decode cX5_differencesTo 18 = .ok (.getfield 28, 3) := by decide +kernel
theorem dX5_differencesTo_21 : decode cX5_differencesTo 21 = .ok (.if_icmp .ge 29, 3) := by decide +kernel
theorem dX5_differencesTo_24 : decode cX5_differencesTo 24 = .ok (.aload_n 0, 1) := by decide +kernel
theorem dX5_differencesTo_25 : decode cX5_differencesTo 25 = .ok (.iload 4, 2) := by decide +kernel
theorem dX5_differencesTo_27 : decode cX5_differencesTo 27 = .ok (.iload_n 3, 1) := by decide +kernel
theorem dX5_differencesTo_28 : decode cX5_differencesTo 28 = .ok (.invokevirtual 118, 3) := by decide +kernel
theorem dX5_differencesTo_31 : decode cX5_differencesTo 31 = .ok (.aload_n 1, 1) := by decide +kernel
theorem dX5_differencesTo_32 : decode cX5_differencesTo 32 = .ok (.iload 4, 2) := by decide +kernel
theorem dX5_differencesTo_34 : decode cX5_differencesTo 34 = .ok (.iload_n 3, 1) := by decide +kernel
theorem dX5_differencesTo_35 : decode cX5_differencesTo 35 = .ok (.invokevirtual 118, 3) := by decide +kernel
theorem dX5_differencesTo_38 : decode cX5_differencesTo 38 = .ok (.if_icmp .eq 6, 3) := by decide +kernel
theorem dX5_differencesTo_41 : decode cX5_differencesTo 41 = .ok (.iinc 2 1, 3) := by decide +kernel
theorem dX5_differencesTo_44 : decode cX5_differencesTo 44 = .ok (.iinc 4 1, 3) := by decide +kernel
theorem dX5_differencesTo_47 : decode cX5_differencesTo 47 = .ok (.goto (-32), 3) := by decide +kernel
theorem dX5_differencesTo_50 : decode cX5_differencesTo 50 = .ok (.iinc 3 1, 3) := by decide +kernel
theorem dX5_differencesTo_53 : decode cX5_differencesTo 53 = .ok (.goto (-49), 3) := by decide +kernel
theorem dX5_differencesTo_56 : decode cX5_differencesTo 56 = .ok (.iload_n 2, 1) := by decide +kernel
theorem dX5_differencesTo_57 : decode cX5_differencesTo 57 = .ok (.ireturn, 1) := by decide +kernel
set_option maxRecDepth 20000 in
theorem ggX5_looksLike_X5_heightAt : GoodIn wsX5_looksLike wsX5_heightAt := goodIn_r _ [7, 2, 1, 8, 14, 15, 16, 17, 18, 19, 20, 21, 22, 23] (by decide +kernel) (by decide +kernel)
set_option maxRecDepth 20000 in
theorem gX5_looksLike_X5_heightAt : GoodIn wsX5_looksLike (wsV RX5 118 RX5 yX5_heightAt wsX5_heightAt) := goodIn_app (goodIn_of _ (by decide +kernel)) ggX5_looksLike_X5_heightAt
set_option maxRecDepth 20000 in
theorem ggX5_looksLike_X5_toneAt : GoodIn wsX5_looksLike wsX5_toneAt := goodIn_r _ [12, 2, 1, 13, 14, 15, 16, 17, 18, 19, 20, 21, 22, 23] (by decide +kernel) (by decide +kernel)
set_option maxRecDepth 20000 in
theorem gX5_looksLike_X5_toneAt : GoodIn wsX5_looksLike (wsV RX5 76 RX5 yX5_toneAt wsX5_toneAt) := goodIn_app (goodIn_of _ (by decide +kernel)) ggX5_looksLike_X5_toneAt
theorem dX5_looksLike_0 : decode cX5_looksLike 0 = .ok (.iconst 0, 1) := by decide +kernel
theorem dX5_looksLike_1 : decode cX5_looksLike 1 = .ok (.istore_n 2, 1) := by decide +kernel
theorem dX5_looksLike_2 : decode cX5_looksLike 2 = .ok (.iload_n 2, 1) := by decide +kernel
theorem dX5_looksLike_3 : decode cX5_looksLike 3 = .ok (.aload_n 0, 1) := by decide +kernel
theorem dX5_looksLike_4 : decode cX5_looksLike 4 = .ok (.getfield 32, 3) := by decide +kernel
theorem dX5_looksLike_7 : decode cX5_looksLike 7 = .ok (.if_icmp .ge 57, 3) := by decide +kernel
theorem dX5_looksLike_10 : decode cX5_looksLike 10 = .ok (.iconst 0, 1) := by decide +kernel
theorem dX5_looksLike_11 : decode cX5_looksLike 11 = .ok (.istore_n 3, 1) := by decide +kernel
theorem dX5_looksLike_12 : decode cX5_looksLike 12 = .ok (.iload_n 3, 1) := by decide +kernel
theorem dX5_looksLike_13 : decode cX5_looksLike 13 = .ok (.aload_n 0, 1) := by decide +kernel
theorem dX5_looksLike_14 : decode cX5_looksLike 14 = .ok (.getfield 28, 3) := by decide +kernel
theorem dX5_looksLike_17 : decode cX5_looksLike 17 = .ok (.if_icmp .ge 41, 3) := by decide +kernel
theorem dX5_looksLike_20 : decode cX5_looksLike 20 = .ok (.aload_n 0, 1) := by decide +kernel
theorem dX5_looksLike_21 : decode cX5_looksLike 21 = .ok (.iload_n 3, 1) := by decide +kernel
theorem dX5_looksLike_22 : decode cX5_looksLike 22 = .ok (.iload_n 2, 1) := by decide +kernel
theorem dX5_looksLike_23 : decode cX5_looksLike 23 = .ok (.invokevirtual 118, 3) := by decide +kernel
theorem dX5_looksLike_26 : decode cX5_looksLike 26 = .ok (.aload_n 1, 1) := by decide +kernel
theorem dX5_looksLike_27 : decode cX5_looksLike 27 = .ok (.iload_n 3, 1) := by decide +kernel
theorem dX5_looksLike_28 : decode cX5_looksLike 28 = .ok (.iload_n 2, 1) := by decide +kernel
theorem dX5_looksLike_29 : decode cX5_looksLike 29 = .ok (.invokevirtual 118, 3) := by decide +kernel
theorem dX5_looksLike_32 : decode cX5_looksLike 32 = .ok (.if_icmp .ne 18, 3) := by decide +kernel
theorem dX5_looksLike_35 : decode cX5_looksLike 35 = .ok (.aload_n 0, 1) := by decide +kernel
theorem dX5_looksLike_36 : decode cX5_looksLike 36 = .ok (.iload_n 3, 1) := by decide +kernel
theorem dX5_looksLike_37 : decode cX5_looksLike 37 = .ok (.iload_n 2, 1) := by decide +kernel
theorem dX5_looksLike_38 : decode cX5_looksLike 38 = .ok (.invokevirtual 76, 3) := by decide +kernel
theorem dX5_looksLike_41 : decode cX5_looksLike 41 = .ok (.aload_n 1, 1) := by decide +kernel
theorem dX5_looksLike_42 : decode cX5_looksLike 42 = .ok (.iload_n 3, 1) := by decide +kernel
theorem dX5_looksLike_43 : decode cX5_looksLike 43 = .ok (.iload_n 2, 1) := by decide +kernel
theorem dX5_looksLike_44 : decode cX5_looksLike 44 = .ok (.invokevirtual 76, 3) := by decide +kernel
theorem dX5_looksLike_47 : decode cX5_looksLike 47 = .ok (.if_icmp .eq 5, 3) := by decide +kernel
theorem dX5_looksLike_50 : decode cX5_looksLike 50 = .ok (.iconst 0, 1) := by decide +kernel
theorem dX5_looksLike_51 : decode cX5_looksLike 51 = .ok (.ireturn, 1) := by decide +kernel
theorem dX5_looksLike_52 : decode cX5_looksLike 52 = .ok (.iinc 3 1, 3) := by decide +kernel
theorem dX5_looksLike_55 : decode cX5_looksLike 55 = .ok (.goto (-43), 3) := by decide +kernel
theorem dX5_looksLike_58 : decode cX5_looksLike 58 = .ok (.iinc 2 1, 3) := by decide +kernel
theorem dX5_looksLike_61 : decode cX5_looksLike 61 = .ok (.goto (-59), 3) := by decide +kernel
theorem dX5_looksLike_64 : decode cX5_looksLike 64 = .ok (.iconst 1, 1) := by decide +kernel
theorem dX5_looksLike_65 : decode cX5_looksLike 65 = .ok (.ireturn, 1) := by decide +kernel
set_option maxRecDepth 20000 in
theorem ggX6_init_J7_fill_53178 : GoodIn wsX6_init wsJ7_fill_53178 := goodIn_r _ [9] (by decide +kernel) (by decide +kernel)
set_option maxRecDepth 20000 in
theorem gX6_init_J7_fill_53178 : GoodIn wsX6_init (va_wsS RX6 15 yJ7_fill_53178 wsJ7_fill_53178) := goodIn_app (goodIn_of _ (by decide +kernel)) ggX6_init_J7_fill_53178
theorem dX6_init_0 : decode cX6_init 0 = .ok (.aload_n 0, 1) := by decide +kernel
theorem dX6_init_1 : decode cX6_init 1 = .ok (.invokespecial 3, 3) := by decide +kernel
theorem dX6_init_4 : decode cX6_init 4 = .ok (.aload_n 0, 1) := by decide +kernel
theorem dX6_init_5 : decode cX6_init 5 = .ok (.bipush 12, 2) := by decide +kernel
theorem dX6_init_7 : decode cX6_init 7 = .ok (.newarray .int, 2) := by decide +kernel
theorem dX6_init_9 : decode cX6_init 9 = .ok (.putfield 11, 3) := by decide +kernel
theorem dX6_init_12 : decode cX6_init 12 = .ok (.aload_n 0, 1) := by decide +kernel
theorem dX6_init_13 : decode cX6_init 13 = .ok (.getfield 11, 3) := by decide +kernel
theorem dX6_init_16 : decode cX6_init 16 = .ok (.iconst (-1), 1) := by decide +kernel
theorem dX6_init_17 : decode cX6_init 17 = .ok (.invokestatic 15, 3) := by decide +kernel
theorem dX6_init_20 : decode cX6_init 20 = .ok (.return_, 1) := by decide +kernel
theorem dX6_hasPlace_0 : decode cX6_hasPlace 0 = .ok (.iload_n 0, 1) := by decide +kernel
theorem dX6_hasPlace_1 : decode cX6_hasPlace 1 = .ok (.ifCond .lt 21, 3) := by decide +kernel
theorem dX6_hasPlace_4 : decode cX6_hasPlace 4 = .ok (.iload_n 0, 1) := by decide +kernel
theorem dX6_hasPlace_5 : decode cX6_hasPlace 5 = .ok (.iconst 3, 1) := by decide +kernel
theorem dX6_hasPlace_6 : decode cX6_hasPlace 6 = .ok (.if_icmp .ge 16, 3) := by decide +kernel
theorem dX6_hasPlace_9 : decode cX6_hasPlace 9 = .ok (.iload_n 1, 1) := by decide +kernel
theorem dX6_hasPlace_10 : decode cX6_hasPlace 10 = .ok (.ifCond .lt 12, 3) := by decide +kernel
theorem dX6_hasPlace_13 : decode cX6_hasPlace 13 = .ok (.iload_n 1, 1) := by decide +kernel
theorem dX6_hasPlace_14 : decode cX6_hasPlace 14 = .ok (.iconst 4, 1) := by decide +kernel
theorem dX6_hasPlace_15 : decode cX6_hasPlace 15 = .ok (.if_icmp .ge 7, 3) := by decide +kernel
theorem dX6_hasPlace_18 : decode cX6_hasPlace 18 = .ok (.iconst 1, 1) := by decide +kernel
theorem dX6_hasPlace_19 : decode cX6_hasPlace 19 = .ok (.goto 4, 3) := by decide +kernel
theorem dX6_hasPlace_22 : decode cX6_hasPlace 22 = .ok (.iconst 0, 1) := by decide +kernel
theorem dX6_hasPlace_23 : decode cX6_hasPlace 23 = .ok (.ireturn, 1) := by decide +kernel
theorem dX6_isStamp_0 : decode cX6_isStamp 0 = .ok (.iload_n 0, 1) := by decide +kernel
theorem dX6_isStamp_1 : decode cX6_isStamp 1 = .ok (.ifCond .eq 8, 3) := by decide +kernel
theorem dX6_isStamp_4 : decode cX6_isStamp 4 = .ok (.iload_n 0, 1) := by decide +kernel
theorem dX6_isStamp_5 : decode cX6_isStamp 5 = .ok (.iconst 1, 1) := by decide +kernel
theorem dX6_isStamp_6 : decode cX6_isStamp 6 = .ok (.if_icmp .ne 29, 3) := by decide +kernel
theorem dX6_isStamp_9 : decode cX6_isStamp 9 = .ok (.iload_n 1, 1) := by decide +kernel
theorem dX6_isStamp_10 : decode cX6_isStamp 10 = .ok (.iconst 1, 1) := by decide +kernel
theorem dX6_isStamp_11 : decode cX6_isStamp 11 = .ok (.if_icmp .lt 24, 3) := by decide +kernel
theorem dX6_isStamp_14 : decode cX6_isStamp 14 = .ok (.iload_n 1, 1) := by decide +kernel
theorem dX6_isStamp_15 : decode cX6_isStamp 15 = .ok (.bipush 6, 2) := by decide +kernel
theorem dX6_isStamp_17 : decode cX6_isStamp 17 = .ok (.if_icmp .gt 18, 3) := by decide +kernel
theorem dX6_isStamp_20 : decode cX6_isStamp 20 = .ok (.iload_n 2, 1) := by decide +kernel
theorem dX6_isStamp_21 : decode cX6_isStamp 21 = .ok (.iconst 1, 1) := by decide +kernel
theorem dX6_isStamp_22 : decode cX6_isStamp 22 = .ok (.if_icmp .lt 13, 3) := by decide +kernel
theorem dX6_isStamp_25 : decode cX6_isStamp 25 = .ok (.iload_n 2, 1) := by decide +kernel
theorem dX6_isStamp_26 : decode cX6_isStamp 26 = .ok (.bipush 20, 2) := by decide +kernel
theorem dX6_isStamp_28 : decode cX6_isStamp 28 = .ok (.if_icmp .gt 7, 3) := by decide +kernel
theorem dX6_isStamp_31 : decode cX6_isStamp 31 = .ok (.iconst 1, 1) := by decide +kernel
theorem dX6_isStamp_32 : decode cX6_isStamp 32 = .ok (.goto 4, 3) := by decide +kernel
theorem dX6_isStamp_35 : decode cX6_isStamp 35 = .ok (.iconst 0, 1) := by decide +kernel
theorem dX6_isStamp_36 : decode cX6_isStamp 36 = .ok (.ireturn, 1) := by decide +kernel
theorem dX6_takes_0 : decode cX6_takes 0 = .ok (.iload_n 0, 1) := by decide +kernel
theorem dX6_takes_1 : decode cX6_takes 1 = .ok (.iconst 2, 1) := by decide +kernel
theorem dX6_takes_2 : decode cX6_takes 2 = .ok (.if_icmp .eq 8, 3) := by decide +kernel
theorem dX6_takes_5 : decode cX6_takes 5 = .ok (.iload_n 0, 1) := by decide +kernel
theorem dX6_takes_6 : decode cX6_takes 6 = .ok (.iload_n 1, 1) := by decide +kernel
theorem dX6_takes_7 : decode cX6_takes 7 = .ok (.if_icmp .ne 7, 3) := by decide +kernel
theorem dX6_takes_10 : decode cX6_takes 10 = .ok (.iconst 1, 1) := by decide +kernel
theorem dX6_takes_11 : decode cX6_takes 11 = .ok (.goto 4, 3) := by decide +kernel
theorem dX6_takes_14 : decode cX6_takes 14 = .ok (.iconst 0, 1) := by decide +kernel
theorem dX6_takes_15 : decode cX6_takes 15 = .ok (.ireturn, 1) := by decide +kernel
theorem dX6_codeOf_0 : decode cX6_codeOf 0 = .ok (.iload_n 0, 1) := by decide +kernel
theorem dX6_codeOf_1 : decode cX6_codeOf 1 = .ok (.sipush 1000, 3) := by decide +kernel
theorem dX6_codeOf_4 : decode cX6_codeOf 4 = .ok (.imul, 1) := by decide +kernel
theorem dX6_codeOf_5 : decode cX6_codeOf 5 = .ok (.iload_n 1, 1) := by decide +kernel
theorem dX6_codeOf_6 : decode cX6_codeOf 6 = .ok (.bipush 100, 2) := by decide +kernel
theorem dX6_codeOf_8 : decode cX6_codeOf 8 = .ok (.imul, 1) := by decide +kernel
theorem dX6_codeOf_9 : decode cX6_codeOf 9 = .ok (.iadd, 1) := by decide +kernel
theorem dX6_codeOf_10 : decode cX6_codeOf 10 = .ok (.iload_n 2, 1) := by decide +kernel
theorem dX6_codeOf_11 : decode cX6_codeOf 11 = .ok (.iadd, 1) := by decide +kernel
theorem dX6_codeOf_12 : decode cX6_codeOf 12 = .ok (.ireturn, 1) := by decide +kernel
theorem dX6_kindOf_0 : decode cX6_kindOf 0 = .ok (.iload_n 0, 1) := by decide +kernel
theorem dX6_kindOf_1 : decode cX6_kindOf 1 = .ok (.sipush 1000, 3) := by decide +kernel
theorem dX6_kindOf_4 : decode cX6_kindOf 4 = .ok (.idiv, 1) := by decide +kernel
theorem dX6_kindOf_5 : decode cX6_kindOf 5 = .ok (.ireturn, 1) := by decide +kernel
set_option maxRecDepth 20000 in
theorem ggX6_at_X6_hasPlace : GoodIn wsX6_at wsX6_hasPlace := goodIn_r _ [5] (by decide +kernel) (by decide +kernel)
set_option maxRecDepth 20000 in
theorem gX6_at_X6_hasPlace : GoodIn wsX6_at (va_wsS RX6 21 yX6_hasPlace wsX6_hasPlace) := goodIn_app (goodIn_of _ (by decide +kernel)) ggX6_at_X6_hasPlace
theorem dX6_at_0 : decode cX6_at 0 = .ok (.iload_n 1, 1) := by decide +kernel
theorem dX6_at_1 : decode cX6_at 1 = .ok (.iload_n 2, 1) := by decide +kernel
theorem dX6_at_2 : decode cX6_at 2 = .ok (.invokestatic 21, 3) := by decide +kernel
theorem dX6_at_5 : decode cX6_at 5 = .ok (.ifCond .eq 16, 3) := by decide +kernel
theorem dX6_at_8 : decode cX6_at 8 = .ok (.aload_n 0, 1) := by decide +kernel
theorem dX6_at_9 : decode cX6_at 9 = .ok (.getfield 11, 3) := by decide +kernel
theorem dX6_at_12 : decode cX6_at 12 = .ok (.iload_n 1, 1) := by decide +kernel
theorem dX6_at_13 : decode cX6_at 13 = .ok (.iconst 4, 1) := by decide +kernel
theorem dX6_at_14 : decode cX6_at 14 = .ok (.imul, 1) := by decide +kernel
theorem dX6_at_15 : decode cX6_at 15 = .ok (.iload_n 2, 1) := by decide +kernel
theorem dX6_at_16 : decode cX6_at 16 = .ok (.iadd, 1) := by decide +kernel
theorem dX6_at_17 : decode cX6_at 17 = .ok (.iaload, 1) := by decide +kernel
theorem dX6_at_18 : decode cX6_at 18 = .ok (.goto 4, 3) := by decide +kernel
theorem dX6_at_21 : decode cX6_at 21 = .ok (.iconst (-1), 1) := by decide +kernel
theorem dX6_at_22 : decode cX6_at 22 = .ok (.ireturn, 1) := by decide +kernel
set_option maxRecDepth 20000 in
theorem ggX6_put_X6_hasPlace : GoodIn wsX6_put wsX6_hasPlace := goodIn_r _ [5] (by decide +kernel) (by decide +kernel)
set_option maxRecDepth 20000 in
theorem gX6_put_X6_hasPlace : GoodIn wsX6_put (va_wsS RX6 21 yX6_hasPlace wsX6_hasPlace) := goodIn_app (goodIn_of _ (by decide +kernel)) ggX6_put_X6_hasPlace
theorem dX6_put_0 : decode cX6_put 0 = .ok (.iload_n 1, 1) := by decide +kernel
theorem dX6_put_1 : decode cX6_put 1 = .ok (.iload_n 2, 1) := by decide +kernel
theorem dX6_put_2 : decode cX6_put 2 = .ok (.invokestatic 21, 3) := by decide +kernel
theorem dX6_put_5 : decode cX6_put 5 = .ok (.ifCond .eq 14, 3) := by decide +kernel
theorem dX6_put_8 : decode cX6_put 8 = .ok (.aload_n 0, 1) := by decide +kernel
theorem dX6_put_9 : decode cX6_put 9 = .ok (.getfield 11, 3) := by decide +kernel
theorem dX6_put_12 : decode cX6_put 12 = .ok (.iload_n 1, 1) := by decide +kernel
theorem dX6_put_13 : decode cX6_put 13 = .ok (.iconst 4, 1) := by decide +kernel
theorem dX6_put_14 : decode cX6_put 14 = .ok (.imul, 1) := by decide +kernel
theorem dX6_put_15 : decode cX6_put 15 = .ok (.iload_n 2, 1) := by decide +kernel
theorem dX6_put_16 : decode cX6_put 16 = .ok (.iadd, 1) := by decide +kernel
theorem dX6_put_17 : decode cX6_put 17 = .ok (.iload_n 3, 1) := by decide +kernel
theorem dX6_put_18 : decode cX6_put 18 = .ok (.iastore, 1) := by decide +kernel
theorem dX6_put_19 : decode cX6_put 19 = .ok (.return_, 1) := by decide +kernel
set_option maxRecDepth 20000 in
theorem ggX6_press_X6_kindOf : GoodIn wsX6_press wsX6_kindOf := goodIn_r _ [13] (by decide +kernel) (by decide +kernel)
set_option maxRecDepth 20000 in
theorem gX6_press_X6_kindOf : GoodIn wsX6_press (va_wsS RX6 25 yX6_kindOf wsX6_kindOf) := goodIn_app (goodIn_of _ (by decide +kernel)) ggX6_press_X6_kindOf
set_option maxRecDepth 20000 in
theorem ggX6_press_X5_heightAt : GoodIn wsX6_press wsX5_heightAt := goodIn_r _ [18, 19, 20, 21, 30, 31, 32, 33, 34, 35, 36, 37, 38, 39] (by decide +kernel) (by decide +kernel)
set_option maxRecDepth 20000 in
theorem gX6_press_X5_heightAt : GoodIn wsX6_press (wsV RX6 29 RX5 yX5_heightAt wsX5_heightAt) := goodIn_app (goodIn_of _ (by decide +kernel)) ggX6_press_X5_heightAt
set_option maxRecDepth 20000 in
theorem ggX6_press_X5_build : GoodIn wsX6_press wsX5_build := goodIn_r _ [25, 21, 26, 27, 28, 17, 29, 19, 20, 30, 31, 32, 33, 34, 35, 36, 37, 38, 39] (by decide +kernel) (by decide +kernel)
set_option maxRecDepth 20000 in
theorem gX6_press_X5_build : GoodIn wsX6_press (wsV RX6 50 RX5 yX5_build wsX5_build) := goodIn_app (goodIn_of _ (by decide +kernel)) ggX6_press_X5_build
theorem dX6_press_0 : decode cX6_press 0 = .ok (.iload_n 1, 1) := by decide +kernel
theorem dX6_press_1 : decode cX6_press 1 = .ok (.bipush 100, 2) := by decide +kernel
theorem dX6_press_3 : decode cX6_press 3 = .ok (.idiv, 1) := by decide +kernel
theorem dX6_press_4 : decode cX6_press 4 = .ok (.bipush 10, 2) := by decide +kernel
theorem dX6_press_6 : decode cX6_press 6 = .ok (.irem, 1) := by decide +kernel
theorem dX6_press_7 : decode cX6_press 7 = .ok (.istore 4, 2) := by decide +kernel
theorem dX6_press_9 : decode cX6_press 9 = .ok (.iload_n 1, 1) := by decide +kernel
theorem dX6_press_10 : decode cX6_press 10 = .ok (.invokestatic 25, 3) := by decide +kernel
theorem dX6_press_13 : decode cX6_press 13 = .ok (.iconst 1, 1) := by decide +kernel
theorem dX6_press_14 : decode cX6_press 14 = .ok (.if_icmp .ne 10, 3) := by decide +kernel
theorem dX6_press_17 : decode cX6_press 17 = .ok (.iload_n 1, 1) := by decide +kernel
theorem dX6_press_18 : decode cX6_press 18 = .ok (.bipush 100, 2) := by decide +kernel
theorem dX6_press_20 : decode cX6_press 20 = .ok (.irem, 1) := by decide +kernel
theorem dX6_press_21 : decode cX6_press 21 = .ok (.goto 8, 3) := by decide +kernel
theorem dX6_press_24 : decode cX6_press 24 = .ok (.iload_n 1, 1) := by decide +kernel
theorem dX6_press_25 : decode cX6_press 25 = .ok (.bipush 100, 2) := by decide +kernel
theorem dX6_press_27 : decode cX6_press 27 = .ok (.irem, 1) := by decide +kernel
theorem dX6_press_28 : decode cX6_press 28 = .ok (.ineg, 1) := by decide +kernel
theorem dX6_press_29 : decode cX6_press 29 = .ok (.istore 5, 2) := by decide +kernel
theorem dX6_press_31 : decode cX6_press 31 = .ok (.iconst 0, 1) := by decide +kernel
theorem dX6_press_32 : decode cX6_press 32 = .ok (.istore 6, 2) := by decide +kernel
theorem dX6_press_34 : decode cX6_press 34 = .ok (.iconst 0, 1) := by decide +kernel
theorem dX6_press_35 : decode cX6_press 35 = .ok (.istore 7, 2) := by decide +kernel
theorem dX6_press_37 : decode cX6_press 37 = .ok (.iload 7, 2) := by decide +kernel
theorem dX6_press_39 : decode cX6_press 39 = .ok (.iload 4, 2) := by decide +kernel
theorem dX6_press_41 : decode cX6_press 41 = .ok (.if_icmp .ge 79, 3) := by decide +kernel
theorem dX6_press_44 : decode cX6_press 44 = .ok (.iconst 0, 1) := by decide +kernel
theorem dX6_press_45 : decode cX6_press 45 = .ok (.istore 8, 2) := by decide +kernel
theorem dX6_press_47 : decode cX6_press 47 = .ok (.iload 8, 2) := by decide +kernel
theorem dX6_press_49 : decode cX6_press 49 = .ok (.iload 4, 2) := by decide +kernel
theorem dX6_press_51 : decode cX6_press 51 = .ok (.if_icmp .ge 63, 3) := by decide +kernel
theorem dX6_press_54 : decode cX6_press 54 = .ok (.aload_n 0, 1) := by decide +kernel
theorem dX6_press_55 : decode cX6_press 55 = .ok (.iload_n 2, 1) := by decide +kernel
theorem dX6_press_56 : decode cX6_press 56 = .ok (.iload 8, 2) := by decide +kernel
theorem dX6_press_58 : decode cX6_press 58 = .ok (.iadd, 1) := by decide +kernel
theorem dX6_press_59 : decode cX6_press 59 = .ok (.iload_n 3, 1) := by decide +kernel
theorem dX6_press_60 : decode cX6_press 60 = .ok (.iload 7, 2) := by decide +kernel
theorem dX6_press_62 : decode cX6_press 62 = .ok (.iadd, 1) := by decide +kernel
theorem dX6_press_63 : decode cX6_press 63 = .ok (.invokevirtual 29, 3) := by decide +kernel
theorem dX6_press_66 : decode cX6_press 66 = .ok (.iload 5, 2) := by decide +kernel
theorem dX6_press_68 : decode cX6_press 68 = .ok (.iadd, 1) := by decide +kernel
theorem dX6_press_69 : decode cX6_press 69 = .ok (.istore 9, 2) := by decide +kernel
theorem dX6_press_71 : decode cX6_press 71 = .ok (.aload_n 0, 1) := by decide +kernel
theorem dX6_press_72 : decode cX6_press 72 = .ok (.getfield 35, 3) := by decide +kernel
theorem dX6_press_75 : decode cX6_press 75 = .ok (.aload_n 0, 1) := by decide +kernel
theorem dX6_press_76 : decode cX6_press 76 = .ok (.getfield 39, 3) := by decide +kernel
theorem dX6_press_79 : decode cX6_press 79 = .ok (.iload 9, 2) := by decide +kernel
theorem dX6_press_81 : decode cX6_press 81 = .ok (.invokestatic 42, 3) := by decide +kernel
theorem dX6_press_84 : decode cX6_press 84 = .ok (.invokestatic 47, 3) := by decide +kernel
theorem dX6_press_87 : decode cX6_press 87 = .ok (.istore 10, 2) := by decide +kernel
theorem dX6_press_89 : decode cX6_press 89 = .ok (.iload 6, 2) := by decide +kernel
theorem dX6_press_91 : decode cX6_press 91 = .ok (.aload_n 0, 1) := by decide +kernel
theorem dX6_press_92 : decode cX6_press 92 = .ok (.iload_n 2, 1) := by decide +kernel
theorem dX6_press_93 : decode cX6_press 93 = .ok (.iload 8, 2) := by decide +kernel
theorem dX6_press_95 : decode cX6_press 95 = .ok (.iadd, 1) := by decide +kernel
theorem dX6_press_96 : decode cX6_press 96 = .ok (.iload_n 3, 1) := by decide +kernel
theorem dX6_press_97 : decode cX6_press 97 = .ok (.iload 7, 2) := by decide +kernel
theorem dX6_press_99 : decode cX6_press 99 = .ok (.iadd, 1) := by decide +kernel
theorem dX6_press_100 : decode cX6_press 100 = .ok (.iload 10, 2) := by decide +kernel
theorem dX6_press_102 : decode cX6_press 102 = .ok (.invokevirtual 50, 3) := by decide +kernel
theorem dX6_press_105 : decode cX6_press 105 = .ok (.iadd, 1) := by decide +kernel
theorem dX6_press_106 : decode cX6_press 106 = .ok (.istore 6, 2) := by decide +kernel
theorem dX6_press_108 : decode cX6_press 108 = .ok (.iinc 8 1, 3) := by decide +kernel
theorem dX6_press_111 : decode cX6_press 111 = .ok (.goto (-64), 3) := by decide +kernel
theorem dX6_press_114 : decode cX6_press 114 = .ok (.iinc 7 1, 3) := by decide +kernel
theorem dX6_press_117 : decode cX6_press 117 = .ok (.goto (-80), 3) := by decide +kernel
theorem dX6_press_120 : decode cX6_press 120 = .ok (.iload 6, 2) := by decide +kernel
theorem dX6_press_122 : decode cX6_press 122 = .ok (.ireturn, 1) := by decide +kernel
theorem dX7_init_0 : decode cX7_init 0 = .ok (.aload_n 0, 1) := by decide +kernel
theorem dX7_init_1 : decode cX7_init 1 = .ok (.invokespecial 3, 3) := by decide +kernel
theorem dX7_init_4 : decode cX7_init 4 = .ok (.aload_n 0, 1) := by decide +kernel
theorem dX7_init_5 : decode cX7_init 5 = .ok (.aload_n 1, 1) := by decide +kernel
theorem dX7_init_6 : decode cX7_init 6 = .ok (.putfield 9, 3) := by decide +kernel
theorem dX7_init_9 : decode cX7_init 9 = .ok (.aload_n 0, 1) := by decide +kernel
theorem dX7_init_10 : decode cX7_init 10 = .ok (.aload_n 2, 1) := by decide +kernel
theorem dX7_init_11 : decode cX7_init 11 = .ok (.putfield 15, 3) := by decide +kernel
theorem dX7_init_14 : decode cX7_init 14 = .ok (.return_, 1) := by decide +kernel
set_option maxRecDepth 20000 in
theorem ggX7_readDraft_X5_clear : GoodIn wsX7_readDraft wsX5_clear := goodIn_r _ [13, 14, 15, 16, 17, 18, 19, 20, 21, 22, 23, 24, 25, 227, 228, 229, 230, 231, 232, 233, 234, 235, 236] (by decide +kernel) (by decide +kernel)
set_option maxRecDepth 20000 in
theorem gX7_readDraft_X5_clear : GoodIn wsX7_readDraft (wsV RX7 19 RX5 yX5_clear wsX5_clear) := goodIn_app (goodIn_of _ (by decide +kernel)) ggX7_readDraft_X5_clear
set_option maxRecDepth 20000 in
theorem ggX7_readDraft_X10_begin : GoodIn wsX7_readDraft wsX10_begin := goodIn_r _ [30, 31, 32, 33, 34, 35, 36, 37, 29, 38, 39, 40, 41, 42, 43, 44, 45, 46, 47, 48, 49, 50, 51, 52, 53, 54, 55, 56, 57, 58, 59, 60, 237, 238, 239, 240, 241, 242, 243, 244, 245, 246, 247] (by decide +kernel) (by decide +kernel)
set_option maxRecDepth 20000 in
theorem gX7_readDraft_X10_begin : GoodIn wsX7_readDraft (wsV RX7 44 RX10 yX10_begin wsX10_begin) := goodIn_app (goodIn_of _ (by decide +kernel)) ggX7_readDraft_X10_begin
set_option maxRecDepth 20000 in
theorem ggX7_readDraft_X10_isAtEnd : GoodIn wsX7_readDraft wsX10_isAtEnd := goodIn_r _ [64, 60, 237, 238, 239, 240, 241, 242, 243, 244, 245, 246, 247] (by decide +kernel) (by decide +kernel)
set_option maxRecDepth 20000 in
theorem gX7_readDraft_X10_isAtEnd : GoodIn wsX7_readDraft (wsV RX7 49 RX10 yX10_isAtEnd wsX10_isAtEnd) := goodIn_app (goodIn_of _ (by decide +kernel)) ggX7_readDraft_X10_isAtEnd
set_option maxRecDepth 20000 in
theorem ggX7_readDraft_X7_readStatement : GoodIn wsX7_readDraft wsX7_readStatement := goodIn_r _ [69, 8, 70, 71, 72, 29, 73, 60, 59, 58, 74, 75, 76, 77, 78, 79, 80, 81, 82, 83, 84, 85, 35, 36, 37, 38, 33, 39, 86, 87, 88, 89, 90, 91, 92, 93, 94, 95, 96, 97, 98, 99, 100, 101, 102, 103, 104, 105, 106, 107, 108, 109, 110, 111, 112, 113, 114, 115, 116, 117, 118, 119, 120, 121, 122, 123, 124, 125, 68, 126, 2, 6, 1, 127, 128, 129, 130, 131, 132, 31, 133, 55, 56, 57, 34, 32, 47, 53, 48, 134, 135, 136, 137, 54, 138, 139, 140, 141, 3, 142, 143, 144, 145, 146, 147, 148, 149, 150, 151, 152, 153, 154, 4, 155, 156, 157, 158, 159, 5, 160, 161, 162, 163, 164, 165, 166, 167, 12, 168, 21, 169, 170, 171, 172, 14, 15, 219, 220, 221, 222, 223, 224, 225, 226, 237, 238, 239, 240, 241, 242, 243, 244, 245, 246, 247, 227, 228, 229, 230, 231, 232, 233, 234, 235, 236] (by decide +kernel) (by decide +kernel)
set_option maxRecDepth 20000 in
theorem gX7_readDraft_X7_readStatement : GoodIn wsX7_readDraft (wsV RX7 53 RX7 yX7_readStatement wsX7_readStatement) := goodIn_app (goodIn_of _ (by decide +kernel)) ggX7_readDraft_X7_readStatement
set_option maxRecDepth 20000 in
theorem ggX7_readDraft_X10_takeSign : GoodIn wsX7_readDraft wsX10_takeSign := goodIn_r _ [176, 177, 178, 179, 29, 180, 60, 58, 35, 36, 37, 38, 33, 39, 150, 130, 131, 132, 31, 54, 55, 56, 57, 34, 32, 47, 59, 53, 48, 237, 238, 239, 240, 241, 242, 243, 244, 245, 246, 247] (by decide +kernel) (by decide +kernel)
set_option maxRecDepth 20000 in
theorem gX7_readDraft_X10_takeSign : GoodIn wsX7_readDraft (wsV RX7 56 RX10 yX10_takeSign wsX10_takeSign) := goodIn_app (goodIn_of _ (by decide +kernel)) ggX7_readDraft_X10_takeSign
set_option maxRecDepth 20000 in
theorem ggX7_readDraft_X5_develop : GoodIn wsX7_readDraft wsX5_develop := goodIn_r _ [184, 17, 185, 186, 187, 188, 189, 12, 190, 15, 14, 191, 192, 193, 194, 195, 196, 197, 198, 21, 199, 200, 201, 202, 203, 204, 205, 206, 18, 16, 207, 208, 209, 210, 211, 212, 213, 214, 215, 216, 217, 218, 169, 170, 171, 172, 227, 228, 229, 230, 231, 232, 233, 234, 235, 236] (by decide +kernel) (by decide +kernel)
set_option maxRecDepth 20000 in
theorem gX7_readDraft_X5_develop : GoodIn wsX7_readDraft (wsV RX7 60 RX5 yX5_develop wsX5_develop) := goodIn_app (goodIn_of _ (by decide +kernel)) ggX7_readDraft_X5_develop
theorem dX7_readDraft_0 : decode cX7_readDraft 0 = .ok (.aload_n 0, 1) := by decide +kernel
theorem dX7_readDraft_1 : decode cX7_readDraft 1 = .ok (.getfield 15, 3) := by decide +kernel
theorem dX7_readDraft_4 : decode cX7_readDraft 4 = .ok (.invokevirtual 19, 3) := by decide +kernel
theorem dX7_readDraft_7 : decode cX7_readDraft 7 = .ok (.aload_n 0, 1) := by decide +kernel
theorem dX7_readDraft_8 : decode cX7_readDraft 8 = .ok (.iconst 0, 1) := by decide +kernel
theorem dX7_readDraft_9 : decode cX7_readDraft 9 = .ok (.putfield 24, 3) := by decide +kernel
theorem dX7_readDraft_12 : decode cX7_readDraft 12 = .ok (.aload_n 0, 1) := by decide +kernel
theorem dX7_readDraft_13 : decode cX7_readDraft 13 = .ok (.iconst 0, 1) := by decide +kernel
theorem dX7_readDraft_14 : decode cX7_readDraft 14 = .ok (.putfield 28, 3) := by decide +kernel
theorem dX7_readDraft_17 : decode cX7_readDraft 17 = .ok (.aload_n 0, 1) := by decide +kernel
theorem dX7_readDraft_18 : decode cX7_readDraft 18 = .ok (.iconst 0, 1) := by decide +kernel
theorem dX7_readDraft_19 : decode cX7_readDraft 19 = .ok (.putfield 31, 3) := by decide +kernel
theorem dX7_readDraft_22 : decode cX7_readDraft 22 = .ok (.aload_n 0, 1) := by decide +kernel
theorem dX7_readDraft_23 : decode cX7_readDraft 23 = .ok (.iconst 0, 1) := by decide +kernel
theorem dX7_readDraft_24 : decode cX7_readDraft 24 = .ok (.putfield 34, 3) := by decide +kernel
theorem dX7_readDraft_27 : decode cX7_readDraft 27 = .ok (.aload_n 0, 1) := by decide +kernel
theorem dX7_readDraft_28 : decode cX7_readDraft 28 = .ok (.iconst 0, 1) := by decide +kernel
theorem dX7_readDraft_29 : decode cX7_readDraft 29 = .ok (.putfield 37, 3) := by decide +kernel
theorem dX7_readDraft_32 : decode cX7_readDraft 32 = .ok (.aload_n 0, 1) := by decide +kernel
theorem dX7_readDraft_33 : decode cX7_readDraft 33 = .ok (.iconst 0, 1) := by decide +kernel
theorem dX7_readDraft_34 : decode cX7_readDraft 34 = .ok (.putfield 41, 3) := by decide +kernel
theorem dX7_readDraft_37 : decode cX7_readDraft 37 = .ok (.aload_n 0, 1) := by decide +kernel
theorem dX7_readDraft_38 : decode cX7_readDraft 38 = .ok (.getfield 9, 3) := by decide +kernel
theorem dX7_readDraft_41 : decode cX7_readDraft 41 = .ok (.invokevirtual 44, 3) := by decide +kernel
theorem dX7_readDraft_44 : decode cX7_readDraft 44 = .ok (.iconst 0, 1) := by decide +kernel
theorem dX7_readDraft_45 : decode cX7_readDraft 45 = .ok (.istore_n 1, 1) := by decide +kernel
theorem dX7_readDraft_46 : decode cX7_readDraft 46 = .ok (.iload_n 1, 1) := by decide +kernel
theorem dX7_readDraft_47 : decode cX7_readDraft 47 = .ok (.sipush 900, 3) := by decide +kernel
theorem dX7_readDraft_50 : decode cX7_readDraft 50 = .ok (.if_icmp .ge 50, 3) := by decide +kernel
theorem dX7_readDraft_53 : decode cX7_readDraft 53 = .ok (.aload_n 0, 1) := by decide +kernel
theorem dX7_readDraft_54 : decode cX7_readDraft 54 = .ok (.getfield 9, 3) := by decide +kernel
theorem dX7_readDraft_57 : decode cX7_readDraft 57 = .ok (.invokevirtual 49, 3) := by decide +kernel
theorem dX7_readDraft_60 : decode cX7_readDraft 60 = .ok (.ifCond .ne 40, 3) := by decide +kernel
theorem dX7_readDraft_63 : decode cX7_readDraft 63 = .ok (.aload_n 0, 1) := by decide +kernel
theorem dX7_readDraft_64 : decode cX7_readDraft 64 = .ok (.invokevirtual 53, 3) := by decide +kernel
theorem dX7_readDraft_67 : decode cX7_readDraft 67 = .ok (.ifCond .eq 15, 3) := by decide +kernel
theorem dX7_readDraft_70 : decode cX7_readDraft 70 = .ok (.aload_n 0, 1) := by decide +kernel
theorem dX7_readDraft_71 : decode cX7_readDraft 71 = .ok (.getfield 9, 3) := by decide +kernel
theorem dX7_readDraft_74 : decode cX7_readDraft 74 = .ok (.bipush 59, 2) := by decide +kernel
theorem dX7_readDraft_76 : decode cX7_readDraft 76 = .ok (.invokevirtual 56, 3) := by decide +kernel
theorem dX7_readDraft_79 : decode cX7_readDraft 79 = .ok (.ifCond .ne 5, 3) := by decide +kernel
theorem dX7_readDraft_82 : decode cX7_readDraft 82 = .ok (.iconst 0, 1) := by decide +kernel
theorem dX7_readDraft_83 : decode cX7_readDraft 83 = .ok (.ireturn, 1) := by decide +kernel
theorem dX7_readDraft_84 : decode cX7_readDraft 84 = .ok (.aload_n 0, 1) := by decide +kernel
theorem dX7_readDraft_85 : decode cX7_readDraft 85 = .ok (.dup, 1) := by decide +kernel
theorem dX7_readDraft_86 : decode cX7_readDraft 86 = .ok (.getfield 41, 3) := by decide +kernel
theorem dX7_readDraft_89 : decode cX7_readDraft 89 = .ok (.iconst 1, 1) := by decide +kernel
theorem dX7_readDraft_90 : decode cX7_readDraft 90 = .ok (.iadd, 1) := by decide +kernel
theorem dX7_readDraft_91 : decode cX7_readDraft 91 = .ok (.putfield 41, 3) := by decide +kernel
theorem dX7_readDraft_94 : decode cX7_readDraft 94 = .ok (.iinc 1 1, 3) := by decide +kernel
theorem dX7_readDraft_97 : decode cX7_readDraft 97 = .ok (.goto (-51), 3) := by decide +kernel
theorem dX7_readDraft_100 : decode cX7_readDraft 100 = .ok (.aload_n 0, 1) := by decide +kernel
theorem dX7_readDraft_101 : decode cX7_readDraft 101 = .ok (.getfield 15, 3) := by decide +kernel
theorem dX7_readDraft_104 : decode cX7_readDraft 104 = .ok (.invokevirtual 60, 3) := by decide +kernel
theorem dX7_readDraft_107 : decode cX7_readDraft 107 = .ok (.iconst 1, 1) := by decide +kernel
theorem dX7_readDraft_108 : decode cX7_readDraft 108 = .ok (.ireturn, 1) := by decide +kernel
set_option maxRecDepth 20000 in
theorem ggX7_readStatement_X10_isWord : GoodIn wsX7_readStatement wsX10_isWord := goodIn_r _ [6, 7, 8, 9, 10, 11, 12, 13, 14, 15, 16, 17, 18, 19, 20, 21, 22, 23, 24, 5, 25, 26, 27, 28, 29, 30, 31, 32, 33, 34, 35, 36, 37, 38, 39, 40, 41, 42, 43, 44, 45, 46, 47, 48, 49, 50, 51, 52, 53, 54, 55, 56, 57, 58, 59, 60, 61, 62, 63, 64, 144, 145, 146, 147, 148, 149, 150, 151, 152, 153, 154] (by decide +kernel) (by decide +kernel)
set_option maxRecDepth 20000 in
theorem gX7_readStatement_X10_isWord : GoodIn wsX7_readStatement (wsV RX7 65 RX10 yX10_isWord wsX10_isWord) := goodIn_app (goodIn_of _ (by decide +kernel)) ggX7_readStatement_X10_isWord
set_option maxRecDepth 20000 in
theorem ggX7_readStatement_X7_readPanel : GoodIn wsX7_readStatement wsX7_readPanel := goodIn_r _ [69, 70, 71, 1, 72, 73, 74, 75, 76, 77, 5, 78, 79, 80, 81, 82, 83, 84, 85, 86, 26, 9, 8, 7, 87, 88, 89, 90, 91, 92, 22, 23, 24, 25, 27, 93, 136, 137, 138, 139, 140, 141, 142, 143, 155, 156, 157, 158, 159, 160, 161, 162, 163, 164, 144, 145, 146, 147, 148, 149, 150, 151, 152, 153, 154] (by decide +kernel) (by decide +kernel)
set_option maxRecDepth 20000 in
theorem gX7_readStatement_X7_readPanel : GoodIn wsX7_readStatement (wsV RX7 69 RX7 yX7_readPanel wsX7_readPanel) := goodIn_app (goodIn_of _ (by decide +kernel)) ggX7_readStatement_X7_readPanel
set_option maxRecDepth 20000 in
theorem ggX7_readStatement_X7_readSteps : GoodIn wsX7_readStatement wsX7_readSteps := goodIn_r _ [97, 98, 1, 72, 99, 100, 101, 75, 76, 77, 5, 78, 79, 80, 81, 82, 83, 84, 85, 86, 26, 9, 8, 7, 87, 88, 89, 90, 91, 92, 22, 23, 24, 25, 27, 93, 102, 103, 104, 105, 106, 3, 4, 6, 10, 11, 12, 13, 14, 15, 16, 17, 18, 19, 20, 21, 28, 29, 30, 31, 32, 33, 34, 35, 36, 37, 38, 39, 40, 41, 42, 43, 44, 45, 46, 47, 48, 49, 50, 51, 52, 53, 54, 55, 56, 57, 58, 59, 60, 61, 62, 63, 64, 107, 136, 137, 138, 139, 140, 141, 142, 143, 155, 156, 157, 158, 159, 160, 161, 162, 163, 164, 144, 145, 146, 147, 148, 149, 150, 151, 152, 153, 154] (by decide +kernel) (by decide +kernel)
set_option maxRecDepth 20000 in
theorem gX7_readStatement_X7_readSteps : GoodIn wsX7_readStatement (wsV RX7 74 RX7 yX7_readSteps wsX7_readSteps) := goodIn_app (goodIn_of _ (by decide +kernel)) ggX7_readStatement_X7_readSteps
set_option maxRecDepth 20000 in
theorem ggX7_readStatement_X7_readWall : GoodIn wsX7_readStatement wsX7_readWall := goodIn_r _ [111, 112, 1, 72, 113, 75, 76, 77, 5, 78, 79, 80, 81, 82, 83, 84, 85, 86, 26, 9, 8, 7, 87, 88, 89, 90, 91, 92, 22, 23, 24, 25, 27, 93, 136, 137, 138, 139, 140, 141, 142, 143, 155, 156, 157, 158, 159, 160, 161, 162, 163, 164, 144, 145, 146, 147, 148, 149, 150, 151, 152, 153, 154] (by decide +kernel) (by decide +kernel)
set_option maxRecDepth 20000 in
theorem gX7_readStatement_X7_readWall : GoodIn wsX7_readStatement (wsV RX7 79 RX7 yX7_readWall wsX7_readWall) := goodIn_app (goodIn_of _ (by decide +kernel)) ggX7_readStatement_X7_readWall
set_option maxRecDepth 20000 in
theorem ggX7_readStatement_X7_readSlope : GoodIn wsX7_readStatement wsX7_readSlope := goodIn_r _ [117, 118, 1, 72, 119, 75, 76, 77, 5, 78, 79, 80, 81, 82, 83, 84, 85, 86, 26, 9, 8, 7, 87, 88, 89, 90, 91, 92, 22, 23, 24, 25, 27, 93, 136, 137, 138, 139, 140, 141, 142, 143, 155, 156, 157, 158, 159, 160, 161, 162, 163, 164, 144, 145, 146, 147, 148, 149, 150, 151, 152, 153, 154] (by decide +kernel) (by decide +kernel)
set_option maxRecDepth 20000 in
theorem gX7_readStatement_X7_readSlope : GoodIn wsX7_readStatement (wsV RX7 84 RX7 yX7_readSlope wsX7_readSlope) := goodIn_app (goodIn_of _ (by decide +kernel)) ggX7_readStatement_X7_readSlope
set_option maxRecDepth 20000 in
theorem ggX7_readStatement_X7_readRow : GoodIn wsX7_readStatement wsX7_readRow := goodIn_r _ [123, 71, 72, 74, 1, 73, 75, 76, 77, 5, 78, 79, 80, 81, 82, 83, 84, 85, 86, 26, 9, 8, 7, 87, 88, 89, 90, 91, 92, 22, 23, 24, 25, 27, 93, 124, 125, 126, 127, 128, 129, 130, 131, 132, 133, 134, 135, 136, 137, 138, 139, 140, 141, 142, 143, 155, 156, 157, 158, 159, 160, 161, 162, 163, 164, 144, 145, 146, 147, 148, 149, 150, 151, 152, 153, 154] (by decide +kernel) (by decide +kernel)
set_option maxRecDepth 20000 in
theorem gX7_readStatement_X7_readRow : GoodIn wsX7_readStatement (wsV RX7 89 RX7 yX7_readRow wsX7_readRow) := goodIn_app (goodIn_of _ (by decide +kernel)) ggX7_readStatement_X7_readRow
set_option maxRecDepth 20000 in
theorem ggX7_readStatement_X10_fail : GoodIn wsX7_readStatement wsX10_fail := goodIn_r _ [78, 79, 144, 145, 146, 147, 148, 149, 150, 151, 152, 153, 154] (by decide +kernel) (by decide +kernel)
set_option maxRecDepth 20000 in
theorem gX7_readStatement_X10_fail : GoodIn wsX7_readStatement (wsV RX7 92 RX10 yX10_fail wsX10_fail) := goodIn_app (goodIn_of _ (by decide +kernel)) ggX7_readStatement_X10_fail
theorem dX7_readStatement_0 : decode cX7_readStatement 0 = .ok (.aload_n 0, 1) := by decide +kernel
theorem dX7_readStatement_1 : decode cX7_readStatement 1 = .ok (.getfield 9, 3) := by decide +kernel
theorem dX7_readStatement_4 : decode cX7_readStatement 4 = .ok (.ldc 63, 2) := by decide +kernel
theorem dX7_readStatement_6 : decode cX7_readStatement 6 = .ok (.invokevirtual 65, 3) := by decide +kernel
theorem dX7_readStatement_9 : decode cX7_readStatement 9 = .ok (.ifCond .eq 8, 3) := by decide +kernel
theorem dX7_readStatement_12 : decode cX7_readStatement 12 = .ok (.aload_n 0, 1) := by decide +kernel
theorem dX7_readStatement_13 : decode cX7_readStatement 13 = .ok (.invokevirtual 69, 3) := by decide +kernel
theorem dX7_readStatement_16 : decode cX7_readStatement 16 = .ok (.ireturn, 1) := by decide +kernel
theorem dX7_readStatement_17 : decode cX7_readStatement 17 = .ok (.aload_n 0, 1) := by decide +kernel
theorem dX7_readStatement_18 : decode cX7_readStatement 18 = .ok (.getfield 9, 3) := by decide +kernel
theorem dX7_readStatement_21 : decode cX7_readStatement 21 = .ok (.ldc 72, 2) := by decide +kernel
theorem dX7_readStatement_23 : decode cX7_readStatement 23 = .ok (.invokevirtual 65, 3) := by decide +kernel
theorem dX7_readStatement_26 : decode cX7_readStatement 26 = .ok (.ifCond .eq 8, 3) := by decide +kernel
theorem dX7_readStatement_29 : decode cX7_readStatement 29 = .ok (.aload_n 0, 1) := by decide +kernel
theorem dX7_readStatement_30 : decode cX7_readStatement 30 = .ok (.invokevirtual 74, 3) := by decide +kernel
theorem dX7_readStatement_33 : decode cX7_readStatement 33 = .ok (.ireturn, 1) := by decide +kernel
theorem dX7_readStatement_34 : decode cX7_readStatement 34 = .ok (.aload_n 0, 1) := by decide +kernel
theorem dX7_readStatement_35 : decode cX7_readStatement 35 = .ok (.getfield 9, 3) := by decide +kernel
theorem dX7_readStatement_38 : decode cX7_readStatement 38 = .ok (.ldc 77, 2) := by decide +kernel
theorem dX7_readStatement_40 : decode cX7_readStatement 40 = .ok (.invokevirtual 65, 3) := by decide +kernel
theorem dX7_readStatement_43 : decode cX7_readStatement 43 = .ok (.ifCond .eq 8, 3) := by decide +kernel
theorem dX7_readStatement_46 : decode cX7_readStatement 46 = .ok (.aload_n 0, 1) := by decide +kernel
theorem dX7_readStatement_47 : decode cX7_readStatement 47 = .ok (.invokevirtual 79, 3) := by decide +kernel
theorem dX7_readStatement_50 : decode cX7_readStatement 50 = .ok (.ireturn, 1) := by decide +kernel
theorem dX7_readStatement_51 : decode cX7_readStatement 51 = .ok (.aload_n 0, 1) := by decide +kernel
theorem dX7_readStatement_52 : decode cX7_readStatement 52 = .ok (.getfield 9, 3) := by decide +kernel
theorem dX7_readStatement_55 : decode cX7_readStatement 55 = .ok (.ldc 82, 2) := by decide +kernel
theorem dX7_readStatement_57 : decode cX7_readStatement 57 = .ok (.invokevirtual 65, 3) := by decide +kernel
theorem dX7_readStatement_60 : decode cX7_readStatement 60 = .ok (.ifCond .eq 8, 3) := by decide +kernel
theorem dX7_readStatement_63 : decode cX7_readStatement 63 = .ok (.aload_n 0, 1) := by decide +kernel
theorem dX7_readStatement_64 : decode cX7_readStatement 64 = .ok (.invokevirtual 84, 3) := by decide +kernel
theorem dX7_readStatement_67 : decode cX7_readStatement 67 = .ok (.ireturn, 1) := by decide +kernel
theorem dX7_readStatement_68 : decode cX7_readStatement 68 = .ok (.aload_n 0, 1) := by decide +kernel
theorem dX7_readStatement_69 : decode cX7_readStatement 69 = .ok (.getfield 9, 3) := by decide +kernel
theorem dX7_readStatement_72 : decode cX7_readStatement 72 = .ok (.ldc 87, 2) := by decide +kernel
theorem dX7_readStatement_74 : decode cX7_readStatement 74 = .ok (.invokevirtual 65, 3) := by decide +kernel
theorem dX7_readStatement_77 : decode cX7_readStatement 77 = .ok (.ifCond .eq 8, 3) := by decide +kernel
theorem dX7_readStatement_80 : decode cX7_readStatement 80 = .ok (.aload_n 0, 1) := by decide +kernel
theorem dX7_readStatement_81 : decode cX7_readStatement 81 = .ok (.invokevirtual 89, 3) := by decide +kernel
theorem dX7_readStatement_84 : decode cX7_readStatement 84 = .ok (.ireturn, 1) := by decide +kernel
theorem dX7_readStatement_85 : decode cX7_readStatement 85 = .ok (.aload_n 0, 1) := by decide +kernel
theorem dX7_readStatement_86 : decode cX7_readStatement 86 = .ok (.getfield 9, 3) := by decide +kernel
theorem dX7_readStatement_89 : decode cX7_readStatement 89 = .ok (.iconst 1, 1) := by decide +kernel
theorem dX7_readStatement_90 : decode cX7_readStatement 90 = .ok (.invokevirtual 92, 3) := by decide +kernel
theorem dX7_readStatement_93 : decode cX7_readStatement 93 = .ok (.ireturn, 1) := by decide +kernel
set_option maxRecDepth 20000 in
theorem ggX7_readPanel_X10_fail : GoodIn wsX7_readPanel wsX10_fail := goodIn_r _ [11, 12, 54, 55, 56, 57, 58, 59, 60, 61, 62, 63, 64] (by decide +kernel) (by decide +kernel)
set_option maxRecDepth 20000 in
theorem gX7_readPanel_X10_fail : GoodIn wsX7_readPanel (wsV RX7 92 RX10 yX10_fail wsX10_fail) := goodIn_app (goodIn_of _ (by decide +kernel)) ggX7_readPanel_X10_fail
set_option maxRecDepth 20000 in
theorem ggX7_readPanel_X10_advance : GoodIn wsX7_readPanel wsX10_advance := goodIn_r _ [16, 17, 18, 19, 20, 21, 22, 23, 24, 25, 54, 55, 56, 57, 58, 59, 60, 61, 62, 63, 64] (by decide +kernel) (by decide +kernel)
set_option maxRecDepth 20000 in
theorem gX7_readPanel_X10_advance : GoodIn wsX7_readPanel (wsV RX7 96 RX10 yX10_advance wsX10_advance) := goodIn_app (goodIn_of _ (by decide +kernel)) ggX7_readPanel_X10_advance
set_option maxRecDepth 20000 in
theorem ggX7_readPanel_X10_takeNumber : GoodIn wsX7_readPanel wsX10_takeNumber := goodIn_r _ [29, 23, 12, 22, 21, 30, 31, 32, 10, 33, 20, 34, 35, 14, 15, 16, 17, 18, 19, 24, 25, 54, 55, 56, 57, 58, 59, 60, 61, 62, 63, 64] (by decide +kernel) (by decide +kernel)
set_option maxRecDepth 20000 in
theorem gX7_readPanel_X10_takeNumber : GoodIn wsX7_readPanel (wsV RX7 99 RX10 yX10_takeNumber wsX10_takeNumber) := goodIn_app (goodIn_of _ (by decide +kernel)) ggX7_readPanel_X10_takeNumber
theorem dX7_readPanel_0 : decode cX7_readPanel 0 = .ok (.aload_n 0, 1) := by decide +kernel
theorem dX7_readPanel_1 : decode cX7_readPanel 1 = .ok (.getfield 24, 3) := by decide +kernel
theorem dX7_readPanel_4 : decode cX7_readPanel 4 = .ok (.ifCond .ne 10, 3) := by decide +kernel
theorem dX7_readPanel_7 : decode cX7_readPanel 7 = .ok (.aload_n 0, 1) := by decide +kernel
theorem dX7_readPanel_8 : decode cX7_readPanel 8 = .ok (.getfield 37, 3) := by decide +kernel
theorem dX7_readPanel_11 : decode cX7_readPanel 11 = .ok (.ifCond .le 12, 3) := by decide +kernel
theorem dX7_readPanel_14 : decode cX7_readPanel 14 = .ok (.aload_n 0, 1) := by decide +kernel
theorem dX7_readPanel_15 : decode cX7_readPanel 15 = .ok (.getfield 9, 3) := by decide +kernel
theorem dX7_readPanel_18 : decode cX7_readPanel 18 = .ok (.iconst 3, 1) := by decide +kernel
theorem dX7_readPanel_19 : decode cX7_readPanel 19 = .ok (.invokevirtual 92, 3) := by decide +kernel
theorem dX7_readPanel_22 : decode cX7_readPanel 22 = .ok (.ireturn, 1) := by decide +kernel
theorem dX7_readPanel_23 : decode cX7_readPanel 23 = .ok (.aload_n 0, 1) := by decide +kernel
theorem dX7_readPanel_24 : decode cX7_readPanel 24 = .ok (.iconst 1, 1) := by decide +kernel
theorem dX7_readPanel_25 : decode cX7_readPanel 25 = .ok (.putfield 24, 3) := by decide +kernel
theorem dX7_readPanel_28 : decode cX7_readPanel 28 = .ok (.aload_n 0, 1) := by decide +kernel
theorem dX7_readPanel_29 : decode cX7_readPanel 29 = .ok (.getfield 9, 3) := by decide +kernel
theorem dX7_readPanel_32 : decode cX7_readPanel 32 = .ok (.invokevirtual 96, 3) := by decide +kernel
theorem dX7_readPanel_35 : decode cX7_readPanel 35 = .ok (.aload_n 0, 1) := by decide +kernel
theorem dX7_readPanel_36 : decode cX7_readPanel 36 = .ok (.getfield 15, 3) := by decide +kernel
theorem dX7_readPanel_39 : decode cX7_readPanel 39 = .ok (.aload_n 0, 1) := by decide +kernel
theorem dX7_readPanel_40 : decode cX7_readPanel 40 = .ok (.getfield 9, 3) := by decide +kernel
theorem dX7_readPanel_43 : decode cX7_readPanel 43 = .ok (.iconst 1, 1) := by decide +kernel
theorem dX7_readPanel_44 : decode cX7_readPanel 44 = .ok (.bipush 16, 2) := by decide +kernel
theorem dX7_readPanel_46 : decode cX7_readPanel 46 = .ok (.invokevirtual 99, 3) := by decide +kernel
theorem dX7_readPanel_49 : decode cX7_readPanel 49 = .ok (.putfield 103, 3) := by decide +kernel
theorem dX7_readPanel_52 : decode cX7_readPanel 52 = .ok (.aload_n 0, 1) := by decide +kernel
theorem dX7_readPanel_53 : decode cX7_readPanel 53 = .ok (.getfield 15, 3) := by decide +kernel
theorem dX7_readPanel_56 : decode cX7_readPanel 56 = .ok (.getfield 103, 3) := by decide +kernel
theorem dX7_readPanel_59 : decode cX7_readPanel 59 = .ok (.iconst (-1), 1) := by decide +kernel
theorem dX7_readPanel_60 : decode cX7_readPanel 60 = .ok (.if_icmp .ne 5, 3) := by decide +kernel
theorem dX7_readPanel_63 : decode cX7_readPanel 63 = .ok (.iconst 0, 1) := by decide +kernel
theorem dX7_readPanel_64 : decode cX7_readPanel 64 = .ok (.ireturn, 1) := by decide +kernel
theorem dX7_readPanel_65 : decode cX7_readPanel 65 = .ok (.aload_n 0, 1) := by decide +kernel
theorem dX7_readPanel_66 : decode cX7_readPanel 66 = .ok (.getfield 15, 3) := by decide +kernel
theorem dX7_readPanel_69 : decode cX7_readPanel 69 = .ok (.aload_n 0, 1) := by decide +kernel
theorem dX7_readPanel_70 : decode cX7_readPanel 70 = .ok (.getfield 9, 3) := by decide +kernel
theorem dX7_readPanel_73 : decode cX7_readPanel 73 = .ok (.iconst 1, 1) := by decide +kernel
theorem dX7_readPanel_74 : decode cX7_readPanel 74 = .ok (.bipush 12, 2) := by decide +kernel
theorem dX7_readPanel_76 : decode cX7_readPanel 76 = .ok (.invokevirtual 99, 3) := by decide +kernel
theorem dX7_readPanel_79 : decode cX7_readPanel 79 = .ok (.putfield 106, 3) := by decide +kernel
theorem dX7_readPanel_82 : decode cX7_readPanel 82 = .ok (.aload_n 0, 1) := by decide +kernel
theorem dX7_readPanel_83 : decode cX7_readPanel 83 = .ok (.getfield 15, 3) := by decide +kernel
theorem dX7_readPanel_86 : decode cX7_readPanel 86 = .ok (.getfield 106, 3) := by decide +kernel
theorem dX7_readPanel_89 : decode cX7_readPanel 89 = .ok (.iconst (-1), 1) := by decide +kernel
theorem dX7_readPanel_90 : decode cX7_readPanel 90 = .ok (.if_icmp .eq 7, 3) := by decide +kernel
theorem dX7_readPanel_93 : decode cX7_readPanel 93 = .ok (.iconst 1, 1) := by decide +kernel
theorem dX7_readPanel_94 : decode cX7_readPanel 94 = .ok (.goto 4, 3) := by decide +kernel
theorem dX7_readPanel_97 : decode cX7_readPanel 97 = .ok (.iconst 0, 1) := by decide +kernel
theorem dX7_readPanel_98 : decode cX7_readPanel 98 = .ok (.ireturn, 1) := by decide +kernel
set_option maxRecDepth 20000 in
theorem ggX7_readSteps_X10_fail : GoodIn wsX7_readSteps wsX10_fail := goodIn_r _ [11, 12, 112, 113, 114, 115, 116, 117, 118, 119, 120, 121, 122] (by decide +kernel) (by decide +kernel)
set_option maxRecDepth 20000 in
theorem gX7_readSteps_X10_fail : GoodIn wsX7_readSteps (wsV RX7 92 RX10 yX10_fail wsX10_fail) := goodIn_app (goodIn_of _ (by decide +kernel)) ggX7_readSteps_X10_fail
set_option maxRecDepth 20000 in
theorem ggX7_readSteps_X10_advance : GoodIn wsX7_readSteps wsX10_advance := goodIn_r _ [16, 17, 18, 19, 20, 21, 22, 23, 24, 25, 112, 113, 114, 115, 116, 117, 118, 119, 120, 121, 122] (by decide +kernel) (by decide +kernel)
set_option maxRecDepth 20000 in
theorem gX7_readSteps_X10_advance : GoodIn wsX7_readSteps (wsV RX7 96 RX10 yX10_advance wsX10_advance) := goodIn_app (goodIn_of _ (by decide +kernel)) ggX7_readSteps_X10_advance
set_option maxRecDepth 20000 in
theorem ggX7_readSteps_X10_takeNumber : GoodIn wsX7_readSteps wsX10_takeNumber := goodIn_r _ [29, 23, 12, 22, 21, 30, 31, 32, 10, 33, 20, 34, 35, 14, 15, 16, 17, 18, 19, 24, 25, 112, 113, 114, 115, 116, 117, 118, 119, 120, 121, 122] (by decide +kernel) (by decide +kernel)
set_option maxRecDepth 20000 in
theorem gX7_readSteps_X10_takeNumber : GoodIn wsX7_readSteps (wsV RX7 99 RX10 yX10_takeNumber wsX10_takeNumber) := goodIn_app (goodIn_of _ (by decide +kernel)) ggX7_readSteps_X10_takeNumber
set_option maxRecDepth 20000 in
theorem ggX7_readSteps_X10_takeWord : GoodIn wsX7_readSteps wsX10_takeWord := goodIn_r _ [39, 40, 41, 42, 10, 43, 23, 22, 21, 44, 45, 46, 47, 48, 49, 50, 51, 52, 53, 54, 55, 30, 31, 32, 33, 20, 34, 56, 57, 58, 59, 60, 61, 62, 63, 64, 65, 66, 67, 68, 69, 70, 71, 72, 73, 74, 75, 76, 77, 78, 79, 80, 81, 82, 83, 84, 85, 86, 87, 88, 89, 90, 91, 92, 93, 8, 9, 11, 12, 35, 14, 15, 16, 17, 18, 19, 24, 25, 112, 113, 114, 115, 116, 117, 118, 119, 120, 121, 122] (by decide +kernel) (by decide +kernel)
set_option maxRecDepth 20000 in
theorem gX7_readSteps_X10_takeWord : GoodIn wsX7_readSteps (wsV RX7 114 RX10 yX10_takeWord wsX10_takeWord) := goodIn_app (goodIn_of _ (by decide +kernel)) ggX7_readSteps_X10_takeWord
theorem dX7_readSteps_0 : decode cX7_readSteps 0 = .ok (.aload_n 0, 1) := by decide +kernel
theorem dX7_readSteps_1 : decode cX7_readSteps 1 = .ok (.getfield 28, 3) := by decide +kernel
theorem dX7_readSteps_4 : decode cX7_readSteps 4 = .ok (.ifCond .eq 12, 3) := by decide +kernel
theorem dX7_readSteps_7 : decode cX7_readSteps 7 = .ok (.aload_n 0, 1) := by decide +kernel
theorem dX7_readSteps_8 : decode cX7_readSteps 8 = .ok (.getfield 9, 3) := by decide +kernel
theorem dX7_readSteps_11 : decode cX7_readSteps 11 = .ok (.iconst 3, 1) := by decide +kernel
theorem dX7_readSteps_12 : decode cX7_readSteps 12 = .ok (.invokevirtual 92, 3) := by decide +kernel
theorem dX7_readSteps_15 : decode cX7_readSteps 15 = .ok (.ireturn, 1) := by decide +kernel
theorem dX7_readSteps_16 : decode cX7_readSteps 16 = .ok (.aload_n 0, 1) := by decide +kernel
theorem dX7_readSteps_17 : decode cX7_readSteps 17 = .ok (.iconst 1, 1) := by decide +kernel
theorem dX7_readSteps_18 : decode cX7_readSteps 18 = .ok (.putfield 28, 3) := by decide +kernel
theorem dX7_readSteps_21 : decode cX7_readSteps 21 = .ok (.aload_n 0, 1) := by decide +kernel
theorem dX7_readSteps_22 : decode cX7_readSteps 22 = .ok (.getfield 9, 3) := by decide +kernel
theorem dX7_readSteps_25 : decode cX7_readSteps 25 = .ok (.invokevirtual 96, 3) := by decide +kernel
theorem dX7_readSteps_28 : decode cX7_readSteps 28 = .ok (.aload_n 0, 1) := by decide +kernel
theorem dX7_readSteps_29 : decode cX7_readSteps 29 = .ok (.getfield 15, 3) := by decide +kernel
theorem dX7_readSteps_32 : decode cX7_readSteps 32 = .ok (.aload_n 0, 1) := by decide +kernel
theorem dX7_readSteps_33 : decode cX7_readSteps 33 = .ok (.getfield 9, 3) := by decide +kernel
theorem dX7_readSteps_36 : decode cX7_readSteps 36 = .ok (.iconst 1, 1) := by decide +kernel
theorem dX7_readSteps_37 : decode cX7_readSteps 37 = .ok (.bipush 20, 2) := by decide +kernel
theorem dX7_readSteps_39 : decode cX7_readSteps 39 = .ok (.invokevirtual 99, 3) := by decide +kernel
theorem dX7_readSteps_42 : decode cX7_readSteps 42 = .ok (.putfield 109, 3) := by decide +kernel
theorem dX7_readSteps_45 : decode cX7_readSteps 45 = .ok (.aload_n 0, 1) := by decide +kernel
theorem dX7_readSteps_46 : decode cX7_readSteps 46 = .ok (.getfield 15, 3) := by decide +kernel
theorem dX7_readSteps_49 : decode cX7_readSteps 49 = .ok (.getfield 109, 3) := by decide +kernel
theorem dX7_readSteps_52 : decode cX7_readSteps 52 = .ok (.iconst (-1), 1) := by decide +kernel
theorem dX7_readSteps_53 : decode cX7_readSteps 53 = .ok (.if_icmp .eq 15, 3) := by decide +kernel
theorem dX7_readSteps_56 : decode cX7_readSteps 56 = .ok (.aload_n 0, 1) := by decide +kernel
theorem dX7_readSteps_57 : decode cX7_readSteps 57 = .ok (.getfield 9, 3) := by decide +kernel
theorem dX7_readSteps_60 : decode cX7_readSteps 60 = .ok (.ldc 112, 2) := by decide +kernel
theorem dX7_readSteps_62 : decode cX7_readSteps 62 = .ok (.invokevirtual 114, 3) := by decide +kernel
theorem dX7_readSteps_65 : decode cX7_readSteps 65 = .ok (.ifCond .ne 5, 3) := by decide +kernel
theorem dX7_readSteps_68 : decode cX7_readSteps 68 = .ok (.iconst 0, 1) := by decide +kernel
theorem dX7_readSteps_69 : decode cX7_readSteps 69 = .ok (.ireturn, 1) := by decide +kernel
theorem dX7_readSteps_70 : decode cX7_readSteps 70 = .ok (.aload_n 0, 1) := by decide +kernel
theorem dX7_readSteps_71 : decode cX7_readSteps 71 = .ok (.getfield 15, 3) := by decide +kernel
theorem dX7_readSteps_74 : decode cX7_readSteps 74 = .ok (.aload_n 0, 1) := by decide +kernel
theorem dX7_readSteps_75 : decode cX7_readSteps 75 = .ok (.getfield 9, 3) := by decide +kernel
theorem dX7_readSteps_78 : decode cX7_readSteps 78 = .ok (.bipush 10, 2) := by decide +kernel
theorem dX7_readSteps_80 : decode cX7_readSteps 80 = .ok (.bipush 99, 2) := by decide +kernel
theorem dX7_readSteps_82 : decode cX7_readSteps 82 = .ok (.invokevirtual 99, 3) := by decide +kernel
theorem dX7_readSteps_85 : decode cX7_readSteps 85 = .ok (.putfield 117, 3) := by decide +kernel
theorem dX7_readSteps_88 : decode cX7_readSteps 88 = .ok (.aload_n 0, 1) := by decide +kernel
theorem dX7_readSteps_89 : decode cX7_readSteps 89 = .ok (.getfield 15, 3) := by decide +kernel
theorem dX7_readSteps_92 : decode cX7_readSteps 92 = .ok (.getfield 117, 3) := by decide +kernel
theorem dX7_readSteps_95 : decode cX7_readSteps 95 = .ok (.iconst (-1), 1) := by decide +kernel
theorem dX7_readSteps_96 : decode cX7_readSteps 96 = .ok (.if_icmp .eq 15, 3) := by decide +kernel
theorem dX7_readSteps_99 : decode cX7_readSteps 99 = .ok (.aload_n 0, 1) := by decide +kernel
theorem dX7_readSteps_100 : decode cX7_readSteps 100 = .ok (.getfield 9, 3) := by decide +kernel
theorem dX7_readSteps_103 : decode cX7_readSteps 103 = .ok (.ldc 119, 2) := by decide +kernel
theorem dX7_readSteps_105 : decode cX7_readSteps 105 = .ok (.invokevirtual 114, 3) := by decide +kernel
theorem dX7_readSteps_108 : decode cX7_readSteps 108 = .ok (.ifCond .ne 5, 3) := by decide +kernel
theorem dX7_readSteps_111 : decode cX7_readSteps 111 = .ok (.iconst 0, 1) := by decide +kernel
theorem dX7_readSteps_112 : decode cX7_readSteps 112 = .ok (.ireturn, 1) := by decide +kernel
theorem dX7_readSteps_113 : decode cX7_readSteps 113 = .ok (.aload_n 0, 1) := by decide +kernel
theorem dX7_readSteps_114 : decode cX7_readSteps 114 = .ok (.getfield 15, 3) := by decide +kernel
theorem dX7_readSteps_117 : decode cX7_readSteps 117 = .ok (.aload_n 0, 1) := by decide +kernel
theorem dX7_readSteps_118 : decode cX7_readSteps 118 = .ok (.getfield 9, 3) := by decide +kernel
theorem dX7_readSteps_121 : decode cX7_readSteps 121 = .ok (.iconst 0, 1) := by decide +kernel
theorem dX7_readSteps_122 : decode cX7_readSteps 122 = .ok (.aload_n 0, 1) := by decide +kernel
theorem dX7_readSteps_123 : decode cX7_readSteps 123 = .ok (.getfield 15, 3) := by decide +kernel
theorem dX7_readSteps_126 : decode cX7_readSteps 126 = .ok (.getfield 109, 3) := by decide +kernel
theorem dX7_readSteps_129 : decode cX7_readSteps 129 = .ok (.invokevirtual 99, 3) := by decide +kernel
theorem dX7_readSteps_132 : decode cX7_readSteps 132 = .ok (.putfield 121, 3) := by decide +kernel
theorem dX7_readSteps_135 : decode cX7_readSteps 135 = .ok (.aload_n 0, 1) := by decide +kernel
theorem dX7_readSteps_136 : decode cX7_readSteps 136 = .ok (.getfield 15, 3) := by decide +kernel
theorem dX7_readSteps_139 : decode cX7_readSteps 139 = .ok (.getfield 121, 3) := by decide +kernel
theorem dX7_readSteps_142 : decode cX7_readSteps 142 = .ok (.iconst (-1), 1) := by decide +kernel
theorem dX7_readSteps_143 : decode cX7_readSteps 143 = .ok (.if_icmp .eq 7, 3) := by decide +kernel
theorem dX7_readSteps_146 : decode cX7_readSteps 146 = .ok (.iconst 1, 1) := by decide +kernel
theorem dX7_readSteps_147 : decode cX7_readSteps 147 = .ok (.goto 4, 3) := by decide +kernel
theorem dX7_readSteps_150 : decode cX7_readSteps 150 = .ok (.iconst 0, 1) := by decide +kernel
theorem dX7_readSteps_151 : decode cX7_readSteps 151 = .ok (.ireturn, 1) := by decide +kernel
set_option maxRecDepth 20000 in
theorem ggX7_readWall_X10_fail : GoodIn wsX7_readWall wsX10_fail := goodIn_r _ [9, 10, 52, 53, 54, 55, 56, 57, 58, 59, 60, 61, 62] (by decide +kernel) (by decide +kernel)
set_option maxRecDepth 20000 in
theorem gX7_readWall_X10_fail : GoodIn wsX7_readWall (wsV RX7 92 RX10 yX10_fail wsX10_fail) := goodIn_app (goodIn_of _ (by decide +kernel)) ggX7_readWall_X10_fail
set_option maxRecDepth 20000 in
theorem ggX7_readWall_X10_advance : GoodIn wsX7_readWall wsX10_advance := goodIn_r _ [14, 15, 16, 17, 18, 19, 20, 21, 22, 23, 52, 53, 54, 55, 56, 57, 58, 59, 60, 61, 62] (by decide +kernel) (by decide +kernel)
set_option maxRecDepth 20000 in
theorem gX7_readWall_X10_advance : GoodIn wsX7_readWall (wsV RX7 96 RX10 yX10_advance wsX10_advance) := goodIn_app (goodIn_of _ (by decide +kernel)) ggX7_readWall_X10_advance
set_option maxRecDepth 20000 in
theorem ggX7_readWall_X10_takeNumber : GoodIn wsX7_readWall wsX10_takeNumber := goodIn_r _ [27, 21, 10, 20, 19, 28, 29, 30, 8, 31, 18, 32, 33, 12, 13, 14, 15, 16, 17, 22, 23, 52, 53, 54, 55, 56, 57, 58, 59, 60, 61, 62] (by decide +kernel) (by decide +kernel)
set_option maxRecDepth 20000 in
theorem gX7_readWall_X10_takeNumber : GoodIn wsX7_readWall (wsV RX7 99 RX10 yX10_takeNumber wsX10_takeNumber) := goodIn_app (goodIn_of _ (by decide +kernel)) ggX7_readWall_X10_takeNumber
theorem dX7_readWall_0 : decode cX7_readWall 0 = .ok (.aload_n 0, 1) := by decide +kernel
theorem dX7_readWall_1 : decode cX7_readWall 1 = .ok (.getfield 31, 3) := by decide +kernel
theorem dX7_readWall_4 : decode cX7_readWall 4 = .ok (.ifCond .eq 12, 3) := by decide +kernel
theorem dX7_readWall_7 : decode cX7_readWall 7 = .ok (.aload_n 0, 1) := by decide +kernel
theorem dX7_readWall_8 : decode cX7_readWall 8 = .ok (.getfield 9, 3) := by decide +kernel
theorem dX7_readWall_11 : decode cX7_readWall 11 = .ok (.iconst 3, 1) := by decide +kernel
theorem dX7_readWall_12 : decode cX7_readWall 12 = .ok (.invokevirtual 92, 3) := by decide +kernel
theorem dX7_readWall_15 : decode cX7_readWall 15 = .ok (.ireturn, 1) := by decide +kernel
theorem dX7_readWall_16 : decode cX7_readWall 16 = .ok (.aload_n 0, 1) := by decide +kernel
theorem dX7_readWall_17 : decode cX7_readWall 17 = .ok (.iconst 1, 1) := by decide +kernel
theorem dX7_readWall_18 : decode cX7_readWall 18 = .ok (.putfield 31, 3) := by decide +kernel
theorem dX7_readWall_21 : decode cX7_readWall 21 = .ok (.aload_n 0, 1) := by decide +kernel
theorem dX7_readWall_22 : decode cX7_readWall 22 = .ok (.getfield 9, 3) := by decide +kernel
theorem dX7_readWall_25 : decode cX7_readWall 25 = .ok (.invokevirtual 96, 3) := by decide +kernel
theorem dX7_readWall_28 : decode cX7_readWall 28 = .ok (.aload_n 0, 1) := by decide +kernel
theorem dX7_readWall_29 : decode cX7_readWall 29 = .ok (.getfield 15, 3) := by decide +kernel
theorem dX7_readWall_32 : decode cX7_readWall 32 = .ok (.aload_n 0, 1) := by decide +kernel
theorem dX7_readWall_33 : decode cX7_readWall 33 = .ok (.getfield 9, 3) := by decide +kernel
theorem dX7_readWall_36 : decode cX7_readWall 36 = .ok (.iconst 1, 1) := by decide +kernel
theorem dX7_readWall_37 : decode cX7_readWall 37 = .ok (.iconst 4, 1) := by decide +kernel
theorem dX7_readWall_38 : decode cX7_readWall 38 = .ok (.invokevirtual 99, 3) := by decide +kernel
theorem dX7_readWall_41 : decode cX7_readWall 41 = .ok (.putfield 123, 3) := by decide +kernel
theorem dX7_readWall_44 : decode cX7_readWall 44 = .ok (.aload_n 0, 1) := by decide +kernel
theorem dX7_readWall_45 : decode cX7_readWall 45 = .ok (.getfield 15, 3) := by decide +kernel
theorem dX7_readWall_48 : decode cX7_readWall 48 = .ok (.getfield 123, 3) := by decide +kernel
theorem dX7_readWall_51 : decode cX7_readWall 51 = .ok (.iconst (-1), 1) := by decide +kernel
theorem dX7_readWall_52 : decode cX7_readWall 52 = .ok (.if_icmp .eq 7, 3) := by decide +kernel
theorem dX7_readWall_55 : decode cX7_readWall 55 = .ok (.iconst 1, 1) := by decide +kernel
theorem dX7_readWall_56 : decode cX7_readWall 56 = .ok (.goto 4, 3) := by decide +kernel
theorem dX7_readWall_59 : decode cX7_readWall 59 = .ok (.iconst 0, 1) := by decide +kernel
theorem dX7_readWall_60 : decode cX7_readWall 60 = .ok (.ireturn, 1) := by decide +kernel
set_option maxRecDepth 20000 in
theorem ggX7_readSlope_X10_fail : GoodIn wsX7_readSlope wsX10_fail := goodIn_r _ [9, 10, 52, 53, 54, 55, 56, 57, 58, 59, 60, 61, 62] (by decide +kernel) (by decide +kernel)
set_option maxRecDepth 20000 in
theorem gX7_readSlope_X10_fail : GoodIn wsX7_readSlope (wsV RX7 92 RX10 yX10_fail wsX10_fail) := goodIn_app (goodIn_of _ (by decide +kernel)) ggX7_readSlope_X10_fail
set_option maxRecDepth 20000 in
theorem ggX7_readSlope_X10_advance : GoodIn wsX7_readSlope wsX10_advance := goodIn_r _ [14, 15, 16, 17, 18, 19, 20, 21, 22, 23, 52, 53, 54, 55, 56, 57, 58, 59, 60, 61, 62] (by decide +kernel) (by decide +kernel)
set_option maxRecDepth 20000 in
theorem gX7_readSlope_X10_advance : GoodIn wsX7_readSlope (wsV RX7 96 RX10 yX10_advance wsX10_advance) := goodIn_app (goodIn_of _ (by decide +kernel)) ggX7_readSlope_X10_advance
set_option maxRecDepth 20000 in
theorem ggX7_readSlope_X10_takeNumber : GoodIn wsX7_readSlope wsX10_takeNumber := goodIn_r _ [27, 21, 10, 20, 19, 28, 29, 30, 8, 31, 18, 32, 33, 12, 13, 14, 15, 16, 17, 22, 23, 52, 53, 54, 55, 56, 57, 58, 59, 60, 61, 62] (by decide +kernel) (by decide +kernel)
set_option maxRecDepth 20000 in
theorem gX7_readSlope_X10_takeNumber : GoodIn wsX7_readSlope (wsV RX7 99 RX10 yX10_takeNumber wsX10_takeNumber) := goodIn_app (goodIn_of _ (by decide +kernel)) ggX7_readSlope_X10_takeNumber
theorem dX7_readSlope_0 : decode cX7_readSlope 0 = .ok (.aload_n 0, 1) := by decide +kernel
theorem dX7_readSlope_1 : decode cX7_readSlope 1 = .ok (.getfield 34, 3) := by decide +kernel
theorem dX7_readSlope_4 : decode cX7_readSlope 4 = .ok (.ifCond .eq 12, 3) := by decide +kernel
theorem dX7_readSlope_7 : decode cX7_readSlope 7 = .ok (.aload_n 0, 1) := by decide +kernel
theorem dX7_readSlope_8 : decode cX7_readSlope 8 = .ok (.getfield 9, 3) := by decide +kernel
theorem dX7_readSlope_11 : decode cX7_readSlope 11 = .ok (.iconst 3, 1) := by decide +kernel
theorem dX7_readSlope_12 : decode cX7_readSlope 12 = .ok (.invokevirtual 92, 3) := by decide +kernel
theorem dX7_readSlope_15 : decode cX7_readSlope 15 = .ok (.ireturn, 1) := by decide +kernel
theorem dX7_readSlope_16 : decode cX7_readSlope 16 = .ok (.aload_n 0, 1) := by decide +kernel
theorem dX7_readSlope_17 : decode cX7_readSlope 17 = .ok (.iconst 1, 1) := by decide +kernel
theorem dX7_readSlope_18 : decode cX7_readSlope 18 = .ok (.putfield 34, 3) := by decide +kernel
theorem dX7_readSlope_21 : decode cX7_readSlope 21 = .ok (.aload_n 0, 1) := by decide +kernel
theorem dX7_readSlope_22 : decode cX7_readSlope 22 = .ok (.getfield 9, 3) := by decide +kernel
theorem dX7_readSlope_25 : decode cX7_readSlope 25 = .ok (.invokevirtual 96, 3) := by decide +kernel
theorem dX7_readSlope_28 : decode cX7_readSlope 28 = .ok (.aload_n 0, 1) := by decide +kernel
theorem dX7_readSlope_29 : decode cX7_readSlope 29 = .ok (.getfield 15, 3) := by decide +kernel
theorem dX7_readSlope_32 : decode cX7_readSlope 32 = .ok (.aload_n 0, 1) := by decide +kernel
theorem dX7_readSlope_33 : decode cX7_readSlope 33 = .ok (.getfield 9, 3) := by decide +kernel
theorem dX7_readSlope_36 : decode cX7_readSlope 36 = .ok (.iconst 0, 1) := by decide +kernel
theorem dX7_readSlope_37 : decode cX7_readSlope 37 = .ok (.bipush 9, 2) := by decide +kernel
theorem dX7_readSlope_39 : decode cX7_readSlope 39 = .ok (.invokevirtual 99, 3) := by decide +kernel
theorem dX7_readSlope_42 : decode cX7_readSlope 42 = .ok (.putfield 125, 3) := by decide +kernel
theorem dX7_readSlope_45 : decode cX7_readSlope 45 = .ok (.aload_n 0, 1) := by decide +kernel
theorem dX7_readSlope_46 : decode cX7_readSlope 46 = .ok (.getfield 15, 3) := by decide +kernel
theorem dX7_readSlope_49 : decode cX7_readSlope 49 = .ok (.getfield 125, 3) := by decide +kernel
theorem dX7_readSlope_52 : decode cX7_readSlope 52 = .ok (.iconst (-1), 1) := by decide +kernel
theorem dX7_readSlope_53 : decode cX7_readSlope 53 = .ok (.if_icmp .eq 7, 3) := by decide +kernel
theorem dX7_readSlope_56 : decode cX7_readSlope 56 = .ok (.iconst 1, 1) := by decide +kernel
theorem dX7_readSlope_57 : decode cX7_readSlope 57 = .ok (.goto 4, 3) := by decide +kernel
theorem dX7_readSlope_60 : decode cX7_readSlope 60 = .ok (.iconst 0, 1) := by decide +kernel
theorem dX7_readSlope_61 : decode cX7_readSlope 61 = .ok (.ireturn, 1) := by decide +kernel
set_option maxRecDepth 20000 in
theorem ggX7_readRow_X10_fail : GoodIn wsX7_readRow wsX10_fail := goodIn_r _ [10, 11, 65, 66, 67, 68, 69, 70, 71, 72, 73, 74, 75] (by decide +kernel) (by decide +kernel)
set_option maxRecDepth 20000 in
theorem gX7_readRow_X10_fail : GoodIn wsX7_readRow (wsV RX7 92 RX10 yX10_fail wsX10_fail) := goodIn_app (goodIn_of _ (by decide +kernel)) ggX7_readRow_X10_fail
set_option maxRecDepth 20000 in
theorem ggX7_readRow_X10_advance : GoodIn wsX7_readRow wsX10_advance := goodIn_r _ [15, 16, 17, 18, 19, 20, 21, 22, 23, 24, 65, 66, 67, 68, 69, 70, 71, 72, 73, 74, 75] (by decide +kernel) (by decide +kernel)
set_option maxRecDepth 20000 in
theorem gX7_readRow_X10_advance : GoodIn wsX7_readRow (wsV RX7 96 RX10 yX10_advance wsX10_advance) := goodIn_app (goodIn_of _ (by decide +kernel)) ggX7_readRow_X10_advance
set_option maxRecDepth 20000 in
theorem ggX7_readRow_X10_takeNumber : GoodIn wsX7_readRow wsX10_takeNumber := goodIn_r _ [28, 22, 11, 21, 20, 29, 30, 31, 9, 32, 19, 33, 34, 13, 14, 15, 16, 17, 18, 23, 24, 65, 66, 67, 68, 69, 70, 71, 72, 73, 74, 75] (by decide +kernel) (by decide +kernel)
set_option maxRecDepth 20000 in
theorem gX7_readRow_X10_takeNumber : GoodIn wsX7_readRow (wsV RX7 99 RX10 yX10_takeNumber wsX10_takeNumber) := goodIn_app (goodIn_of _ (by decide +kernel)) ggX7_readRow_X10_takeNumber
set_option maxRecDepth 20000 in
theorem ggX7_readRow_X5_dye : GoodIn wsX7_readRow wsX5_dye := goodIn_r _ [39, 40, 41, 42, 43, 38, 44, 45, 46, 55, 56, 57, 58, 59, 60, 61, 62, 63, 64] (by decide +kernel) (by decide +kernel)
set_option maxRecDepth 20000 in
theorem gX7_readRow_X5_dye : GoodIn wsX7_readRow (wsV RX7 127 RX5 yX5_dye wsX5_dye) := goodIn_app (goodIn_of _ (by decide +kernel)) ggX7_readRow_X5_dye
theorem dX7_readRow_0 : decode cX7_readRow 0 = .ok (.aload_n 0, 1) := by decide +kernel
theorem dX7_readRow_1 : decode cX7_readRow 1 = .ok (.getfield 37, 3) := by decide +kernel
theorem dX7_readRow_4 : decode cX7_readRow 4 = .ok (.aload_n 0, 1) := by decide +kernel
theorem dX7_readRow_5 : decode cX7_readRow 5 = .ok (.getfield 15, 3) := by decide +kernel
theorem dX7_readRow_8 : decode cX7_readRow 8 = .ok (.getfield 106, 3) := by decide +kernel
theorem dX7_readRow_11 : decode cX7_readRow 11 = .ok (.if_icmp .lt 12, 3) := by decide +kernel
theorem dX7_readRow_14 : decode cX7_readRow 14 = .ok (.aload_n 0, 1) := by decide +kernel
theorem dX7_readRow_15 : decode cX7_readRow 15 = .ok (.getfield 9, 3) := by decide +kernel
theorem dX7_readRow_18 : decode cX7_readRow 18 = .ok (.iconst 5, 1) := by decide +kernel
theorem dX7_readRow_19 : decode cX7_readRow 19 = .ok (.invokevirtual 92, 3) := by decide +kernel
theorem dX7_readRow_22 : decode cX7_readRow 22 = .ok (.ireturn, 1) := by decide +kernel
theorem dX7_readRow_23 : decode cX7_readRow 23 = .ok (.aload_n 0, 1) := by decide +kernel
theorem dX7_readRow_24 : decode cX7_readRow 24 = .ok (.getfield 9, 3) := by decide +kernel
theorem dX7_readRow_27 : decode cX7_readRow 27 = .ok (.invokevirtual 96, 3) := by decide +kernel
theorem dX7_readRow_30 : decode cX7_readRow 30 = .ok (.iconst 0, 1) := by decide +kernel
theorem dX7_readRow_31 : decode cX7_readRow 31 = .ok (.istore_n 1, 1) := by decide +kernel
theorem dX7_readRow_32 : decode cX7_readRow 32 = .ok (.iload_n 1, 1) := by decide +kernel
theorem dX7_readRow_33 : decode cX7_readRow 33 = .ok (.aload_n 0, 1) := by decide +kernel
theorem dX7_readRow_34 : decode cX7_readRow 34 = .ok (.getfield 15, 3) := by decide +kernel
theorem dX7_readRow_37 : decode cX7_readRow 37 = .ok (.getfield 103, 3) := by decide +kernel
theorem dX7_readRow_40 : decode cX7_readRow 40 = .ok (.if_icmp .ge 41, 3) := by decide +kernel
theorem dX7_readRow_43 : decode cX7_readRow 43 = .ok (.aload_n 0, 1) := by decide +kernel
theorem dX7_readRow_44 : decode cX7_readRow 44 = .ok (.getfield 9, 3) := by decide +kernel
theorem dX7_readRow_47 : decode cX7_readRow 47 = .ok (.iconst 0, 1) := by decide +kernel
theorem dX7_readRow_48 : decode cX7_readRow 48 = .ok (.sipush 255, 3) := by decide +kernel
theorem dX7_readRow_51 : decode cX7_readRow 51 = .ok (.invokevirtual 99, 3) := by decide +kernel
theorem dX7_readRow_54 : decode cX7_readRow 54 = .ok (.istore_n 2, 1) := by decide +kernel
theorem dX7_readRow_55 : decode cX7_readRow 55 = .ok (.iload_n 2, 1) := by decide +kernel
theorem dX7_readRow_56 : decode cX7_readRow 56 = .ok (.iconst (-1), 1) := by decide +kernel
theorem dX7_readRow_57 : decode cX7_readRow 57 = .ok (.if_icmp .ne 5, 3) := by decide +kernel
theorem dX7_readRow_60 : decode cX7_readRow 60 = .ok (.iconst 0, 1) := by decide +kernel
theorem dX7_readRow_61 : decode cX7_readRow 61 = .ok (.ireturn, 1) := by decide +kernel
theorem dX7_readRow_62 : decode cX7_readRow 62 = .ok (.aload_n 0, 1) := by decide +kernel
theorem dX7_readRow_63 : decode cX7_readRow 63 = .ok (.getfield 15, 3) := by decide +kernel
theorem dX7_readRow_66 : decode cX7_readRow 66 = .ok (.iload_n 1, 1) := by decide +kernel
theorem dX7_readRow_67 : decode cX7_readRow 67 = .ok (.aload_n 0, 1) := by decide +kernel
theorem dX7_readRow_68 : decode cX7_readRow 68 = .ok (.getfield 37, 3) := by decide +kernel
theorem dX7_readRow_71 : decode cX7_readRow 71 = .ok (.iload_n 2, 1) := by decide +kernel
theorem dX7_readRow_72 : decode cX7_readRow 72 = .ok (.invokevirtual 127, 3) := by decide +kernel
theorem dX7_readRow_75 : decode cX7_readRow 75 = .ok (.iinc 1 1, 3) := by decide +kernel
theorem dX7_readRow_78 : decode cX7_readRow 78 = .ok (.goto (-46), 3) := by decide +kernel
theorem dX7_readRow_81 : decode cX7_readRow 81 = .ok (.aload_n 0, 1) := by decide +kernel
theorem dX7_readRow_82 : decode cX7_readRow 82 = .ok (.dup, 1) := by decide +kernel
theorem dX7_readRow_83 : decode cX7_readRow 83 = .ok (.getfield 37, 3) := by decide +kernel
theorem dX7_readRow_86 : decode cX7_readRow 86 = .ok (.iconst 1, 1) := by decide +kernel
theorem dX7_readRow_87 : decode cX7_readRow 87 = .ok (.iadd, 1) := by decide +kernel
theorem dX7_readRow_88 : decode cX7_readRow 88 = .ok (.putfield 37, 3) := by decide +kernel
theorem dX7_readRow_91 : decode cX7_readRow 91 = .ok (.iconst 1, 1) := by decide +kernel
theorem dX7_readRow_92 : decode cX7_readRow 92 = .ok (.ireturn, 1) := by decide +kernel
theorem dX8_init_0 : decode cX8_init 0 = .ok (.aload_n 0, 1) := by decide +kernel
theorem dX8_init_1 : decode cX8_init 1 = .ok (.invokespecial 3, 3) := by decide +kernel
theorem dX8_init_4 : decode cX8_init 4 = .ok (.aload_n 0, 1) := by decide +kernel
theorem dX8_init_5 : decode cX8_init 5 = .ok (.bipush 30, 2) := by decide +kernel
theorem dX8_init_7 : decode cX8_init 7 = .ok (.anewarray 11, 3) := by decide +kernel
theorem dX8_init_10 : decode cX8_init 10 = .ok (.putfield 13, 3) := by decide +kernel
theorem dX8_init_13 : decode cX8_init 13 = .ok (.aload_n 0, 1) := by decide +kernel
theorem dX8_init_14 : decode cX8_init 14 = .ok (.sipush 150, 3) := by decide +kernel
theorem dX8_init_17 : decode cX8_init 17 = .ok (.newarray .int, 2) := by decide +kernel
theorem dX8_init_19 : decode cX8_init 19 = .ok (.putfield 17, 3) := by decide +kernel
theorem dX8_init_22 : decode cX8_init 22 = .ok (.aload_n 0, 1) := by decide +kernel
theorem dX8_init_23 : decode cX8_init 23 = .ok (.bipush 30, 2) := by decide +kernel
theorem dX8_init_25 : decode cX8_init 25 = .ok (.newarray .int, 2) := by decide +kernel
theorem dX8_init_27 : decode cX8_init 27 = .ok (.putfield 21, 3) := by decide +kernel
theorem dX8_init_30 : decode cX8_init 30 = .ok (.aload_n 0, 1) := by decide +kernel
theorem dX8_init_31 : decode cX8_init 31 = .ok (.bipush 60, 2) := by decide +kernel
theorem dX8_init_33 : decode cX8_init 33 = .ok (.newarray .int, 2) := by decide +kernel
theorem dX8_init_35 : decode cX8_init 35 = .ok (.putfield 24, 3) := by decide +kernel
theorem dX8_init_38 : decode cX8_init 38 = .ok (.aload_n 0, 1) := by decide +kernel
theorem dX8_init_39 : decode cX8_init 39 = .ok (.aload_n 1, 1) := by decide +kernel
theorem dX8_init_40 : decode cX8_init 40 = .ok (.putfield 27, 3) := by decide +kernel
theorem dX8_init_43 : decode cX8_init 43 = .ok (.return_, 1) := by decide +kernel
theorem dX8_isIndex_0 : decode cX8_isIndex 0 = .ok (.iload_n 0, 1) := by decide +kernel
theorem dX8_isIndex_1 : decode cX8_isIndex 1 = .ok (.ifCond .lt 13, 3) := by decide +kernel
theorem dX8_isIndex_4 : decode cX8_isIndex 4 = .ok (.iload_n 0, 1) := by decide +kernel
theorem dX8_isIndex_5 : decode cX8_isIndex 5 = .ok (.bipush 30, 2) := by decide +kernel
theorem dX8_isIndex_7 : decode cX8_isIndex 7 = .ok (.if_icmp .ge 7, 3) := by decide +kernel
theorem dX8_isIndex_10 : decode cX8_isIndex 10 = .ok (.iconst 1, 1) := by decide +kernel
theorem dX8_isIndex_11 : decode cX8_isIndex 11 = .ok (.goto 4, 3) := by decide +kernel
theorem dX8_isIndex_14 : decode cX8_isIndex 14 = .ok (.iconst 0, 1) := by decide +kernel
theorem dX8_isIndex_15 : decode cX8_isIndex 15 = .ok (.ireturn, 1) := by decide +kernel
set_option maxRecDepth 20000 in
theorem ggX8_commandAt_X8_isIndex : GoodIn wsX8_commandAt wsX8_isIndex := goodIn_r _ [5] (by decide +kernel) (by decide +kernel)
set_option maxRecDepth 20000 in
theorem gX8_commandAt_X8_isIndex : GoodIn wsX8_commandAt (va_wsS RX8 31 yX8_isIndex wsX8_isIndex) := goodIn_app (goodIn_of _ (by decide +kernel)) ggX8_commandAt_X8_isIndex
theorem dX8_commandAt_0 : decode cX8_commandAt 0 = .ok (.iload_n 1, 1) := by decide +kernel
theorem dX8_commandAt_1 : decode cX8_commandAt 1 = .ok (.invokestatic 31, 3) := by decide +kernel
theorem dX8_commandAt_4 : decode cX8_commandAt 4 = .ok (.ifCond .eq 12, 3) := by decide +kernel
theorem dX8_commandAt_7 : decode cX8_commandAt 7 = .ok (.aload_n 0, 1) := by decide +kernel
theorem dX8_commandAt_8 : decode cX8_commandAt 8 = .ok (.getfield 13, 3) := by decide +kernel
theorem dX8_commandAt_11 : decode cX8_commandAt 11 = .ok (.iload_n 1, 1) := by decide +kernel
theorem dX8_commandAt_12 : decode cX8_commandAt 12 = .ok (.aaload, 1) := by decide +kernel
theorem dX8_commandAt_13 : decode cX8_commandAt 13 = .ok (.goto 4, 3) := by decide +kernel
theorem dX8_commandAt_16 : decode cX8_commandAt 16 = .ok (.aconst_null, 1) := by decide +kernel
theorem dX8_commandAt_17 : decode cX8_commandAt 17 = .ok (.areturn, 1) := by decide +kernel
set_option maxRecDepth 20000 in
theorem ggX8_numberOf_X8_isIndex : GoodIn wsX8_numberOf wsX8_isIndex := goodIn_r _ [5] (by decide +kernel) (by decide +kernel)
set_option maxRecDepth 20000 in
theorem gX8_numberOf_X8_isIndex : GoodIn wsX8_numberOf (va_wsS RX8 31 yX8_isIndex wsX8_isIndex) := goodIn_app (goodIn_of _ (by decide +kernel)) ggX8_numberOf_X8_isIndex
theorem dX8_numberOf_0 : decode cX8_numberOf 0 = .ok (.iload_n 1, 1) := by decide +kernel
theorem dX8_numberOf_1 : decode cX8_numberOf 1 = .ok (.invokestatic 31, 3) := by decide +kernel
theorem dX8_numberOf_4 : decode cX8_numberOf 4 = .ok (.ifCond .eq 25, 3) := by decide +kernel
theorem dX8_numberOf_7 : decode cX8_numberOf 7 = .ok (.iload_n 2, 1) := by decide +kernel
theorem dX8_numberOf_8 : decode cX8_numberOf 8 = .ok (.ifCond .lt 21, 3) := by decide +kernel
theorem dX8_numberOf_11 : decode cX8_numberOf 11 = .ok (.iload_n 2, 1) := by decide +kernel
theorem dX8_numberOf_12 : decode cX8_numberOf 12 = .ok (.iconst 5, 1) := by decide +kernel
theorem dX8_numberOf_13 : decode cX8_numberOf 13 = .ok (.if_icmp .ge 16, 3) := by decide +kernel
theorem dX8_numberOf_16 : decode cX8_numberOf 16 = .ok (.aload_n 0, 1) := by decide +kernel
theorem dX8_numberOf_17 : decode cX8_numberOf 17 = .ok (.getfield 17, 3) := by decide +kernel
theorem dX8_numberOf_20 : decode cX8_numberOf 20 = .ok (.iload_n 1, 1) := by decide +kernel
theorem dX8_numberOf_21 : decode cX8_numberOf 21 = .ok (.iconst 5, 1) := by decide +kernel
theorem dX8_numberOf_22 : decode cX8_numberOf 22 = .ok (.imul, 1) := by decide +kernel
theorem dX8_numberOf_23 : decode cX8_numberOf 23 = .ok (.iload_n 2, 1) := by decide +kernel
theorem dX8_numberOf_24 : decode cX8_numberOf 24 = .ok (.iadd, 1) := by decide +kernel
theorem dX8_numberOf_25 : decode cX8_numberOf 25 = .ok (.iaload, 1) := by decide +kernel
theorem dX8_numberOf_26 : decode cX8_numberOf 26 = .ok (.goto 4, 3) := by decide +kernel
theorem dX8_numberOf_29 : decode cX8_numberOf 29 = .ok (.iconst 0, 1) := by decide +kernel
theorem dX8_numberOf_30 : decode cX8_numberOf 30 = .ok (.ireturn, 1) := by decide +kernel
set_option maxRecDepth 20000 in
theorem ggX8_readAll_X10_begin : GoodIn wsX8_readAll wsX10_begin := goodIn_r _ [8, 9, 10, 11, 12, 13, 14, 15, 7, 16, 17, 18, 19, 20, 21, 22, 23, 24, 25, 26, 27, 28, 29, 30, 31, 32, 33, 34, 35, 36, 37, 38, 163, 164, 165, 166, 167, 168, 169, 170, 171, 172, 173] (by decide +kernel) (by decide +kernel)
set_option maxRecDepth 20000 in
theorem gX8_readAll_X10_begin : GoodIn wsX8_readAll (wsV RX8 42 RX10 yX10_begin wsX10_begin) := goodIn_app (goodIn_of _ (by decide +kernel)) ggX8_readAll_X10_begin
set_option maxRecDepth 20000 in
theorem ggX8_readAll_X8_readCommands : GoodIn wsX8_readAll wsX8_readCommands := goodIn_r _ [43, 3, 44, 45, 46, 7, 47, 38, 48, 49, 50, 51, 36, 13, 14, 15, 16, 11, 17, 52, 53, 54, 42, 55, 56, 57, 58, 9, 59, 60, 1, 61, 62, 63, 64, 65, 66, 67, 68, 69, 70, 71, 72, 37, 73, 74, 75, 76, 77, 78, 79, 80, 81, 82, 83, 84, 85, 86, 87, 88, 89, 90, 91, 92, 93, 94, 95, 96, 97, 98, 99, 100, 101, 102, 103, 104, 105, 106, 107, 108, 109, 110, 111, 112, 113, 114, 115, 116, 117, 118, 119, 120, 121, 122, 123, 124, 125, 33, 34, 35, 12, 10, 25, 31, 26, 126, 127, 128, 129, 130, 131, 132, 133, 134, 135, 136, 32, 137, 138, 139, 140, 141, 142, 39, 40, 41, 156, 157, 158, 159, 160, 161, 162, 163, 164, 165, 166, 167, 168, 169, 170, 171, 172, 173] (by decide +kernel) (by decide +kernel)
set_option maxRecDepth 20000 in
theorem gX8_readAll_X8_readCommands : GoodIn wsX8_readAll (wsV RX8 47 RX8 yX8_readCommands wsX8_readCommands) := goodIn_app (goodIn_of _ (by decide +kernel)) ggX8_readAll_X8_readCommands
set_option maxRecDepth 20000 in
theorem ggX8_readAll_X8_planCommands : GoodIn wsX8_readAll wsX8_planCommands := goodIn_r _ [146, 62, 61, 60, 2, 147, 122, 123, 42, 124, 148, 149, 150, 151, 152, 153, 154, 155, 132, 143, 144, 145, 156, 157, 158, 159, 160, 161, 162] (by decide +kernel) (by decide +kernel)
set_option maxRecDepth 20000 in
theorem gX8_readAll_X8_planCommands : GoodIn wsX8_readAll (wsV RX8 50 RX8 yX8_planCommands wsX8_planCommands) := goodIn_app (goodIn_of _ (by decide +kernel)) ggX8_readAll_X8_planCommands
theorem dX8_readAll_0 : decode cX8_readAll 0 = .ok (.aload_n 0, 1) := by decide +kernel
theorem dX8_readAll_1 : decode cX8_readAll 1 = .ok (.iconst 0, 1) := by decide +kernel
theorem dX8_readAll_2 : decode cX8_readAll 2 = .ok (.putfield 35, 3) := by decide +kernel
theorem dX8_readAll_5 : decode cX8_readAll 5 = .ok (.aload_n 0, 1) := by decide +kernel
theorem dX8_readAll_6 : decode cX8_readAll 6 = .ok (.iconst 0, 1) := by decide +kernel
theorem dX8_readAll_7 : decode cX8_readAll 7 = .ok (.putfield 39, 3) := by decide +kernel
theorem dX8_readAll_10 : decode cX8_readAll 10 = .ok (.aload_n 0, 1) := by decide +kernel
theorem dX8_readAll_11 : decode cX8_readAll 11 = .ok (.getfield 27, 3) := by decide +kernel
theorem dX8_readAll_14 : decode cX8_readAll 14 = .ok (.invokevirtual 42, 3) := by decide +kernel
theorem dX8_readAll_17 : decode cX8_readAll 17 = .ok (.aload_n 0, 1) := by decide +kernel
theorem dX8_readAll_18 : decode cX8_readAll 18 = .ok (.iconst 0, 1) := by decide +kernel
theorem dX8_readAll_19 : decode cX8_readAll 19 = .ok (.invokevirtual 47, 3) := by decide +kernel
theorem dX8_readAll_22 : decode cX8_readAll 22 = .ok (.ifCond .ne 5, 3) := by decide +kernel
theorem dX8_readAll_25 : decode cX8_readAll 25 = .ok (.iconst 0, 1) := by decide +kernel
theorem dX8_readAll_26 : decode cX8_readAll 26 = .ok (.ireturn, 1) := by decide +kernel
theorem dX8_readAll_27 : decode cX8_readAll 27 = .ok (.aload_n 0, 1) := by decide +kernel
theorem dX8_readAll_28 : decode cX8_readAll 28 = .ok (.iconst 0, 1) := by decide +kernel
theorem dX8_readAll_29 : decode cX8_readAll 29 = .ok (.aload_n 0, 1) := by decide +kernel
theorem dX8_readAll_30 : decode cX8_readAll 30 = .ok (.getfield 35, 3) := by decide +kernel
theorem dX8_readAll_33 : decode cX8_readAll 33 = .ok (.iconst 0, 1) := by decide +kernel
theorem dX8_readAll_34 : decode cX8_readAll 34 = .ok (.invokevirtual 50, 3) := by decide +kernel
theorem dX8_readAll_37 : decode cX8_readAll 37 = .ok (.iconst 1, 1) := by decide +kernel
theorem dX8_readAll_38 : decode cX8_readAll 38 = .ok (.ireturn, 1) := by decide +kernel
theorem dX8_plannedAt_0 : decode cX8_plannedAt 0 = .ok (.iload_n 1, 1) := by decide +kernel
theorem dX8_plannedAt_1 : decode cX8_plannedAt 1 = .ok (.ifCond .lt 26, 3) := by decide +kernel
theorem dX8_plannedAt_4 : decode cX8_plannedAt 4 = .ok (.iload_n 1, 1) := by decide +kernel
theorem dX8_plannedAt_5 : decode cX8_plannedAt 5 = .ok (.aload_n 0, 1) := by decide +kernel
theorem dX8_plannedAt_6 : decode cX8_plannedAt 6 = .ok (.getfield 39, 3) := by decide +kernel
theorem dX8_plannedAt_9 : decode cX8_plannedAt 9 = .ok (.if_icmp .ge 18, 3) := by decide +kernel
theorem dX8_plannedAt_12 : decode cX8_plannedAt 12 = .ok (.iload_n 1, 1) := by decide +kernel
theorem dX8_plannedAt_13 : decode cX8_plannedAt 13 = .ok (.bipush 60, 2) := by decide +kernel
theorem dX8_plannedAt_15 : decode cX8_plannedAt 15 = .ok (.if_icmp .ge 12, 3) := by decide +kernel
theorem dX8_plannedAt_18 : decode cX8_plannedAt 18 = .ok (.aload_n 0, 1) := by decide +kernel
theorem dX8_plannedAt_19 : decode cX8_plannedAt 19 = .ok (.getfield 24, 3) := by decide +kernel
theorem dX8_plannedAt_22 : decode cX8_plannedAt 22 = .ok (.iload_n 1, 1) := by decide +kernel
theorem dX8_plannedAt_23 : decode cX8_plannedAt 23 = .ok (.iaload, 1) := by decide +kernel
theorem dX8_plannedAt_24 : decode cX8_plannedAt 24 = .ok (.goto 4, 3) := by decide +kernel
theorem dX8_plannedAt_27 : decode cX8_plannedAt 27 = .ok (.iconst (-1), 1) := by decide +kernel
theorem dX8_plannedAt_28 : decode cX8_plannedAt 28 = .ok (.ireturn, 1) := by decide +kernel
set_option maxRecDepth 20000 in
theorem ggX8_planCommands_X8_isIndex : GoodIn wsX8_planCommands wsX8_isIndex := goodIn_r _ [9] (by decide +kernel) (by decide +kernel)
set_option maxRecDepth 20000 in
theorem gX8_planCommands_X8_isIndex : GoodIn wsX8_planCommands (va_wsS RX8 31 yX8_isIndex wsX8_isIndex) := goodIn_app (goodIn_of _ (by decide +kernel)) ggX8_planCommands_X8_isIndex
set_option maxRecDepth 20000 in
theorem ggX8_planCommands_X8_planRepeat : GoodIn wsX8_planCommands wsX8_planRepeat := goodIn_r _ [13, 4, 1, 6, 7, 8, 9, 14, 15, 16, 17, 18, 19, 20, 21, 0, 2, 3, 5, 10, 11, 12, 22, 23, 24, 25, 26, 27, 28] (by decide +kernel) (by decide +kernel)
set_option maxRecDepth 20000 in
theorem gX8_planCommands_X8_planRepeat : GoodIn wsX8_planCommands (wsV RX8 58 RX8 yX8_planRepeat wsX8_planRepeat) := goodIn_app (goodIn_of _ (by decide +kernel)) ggX8_planCommands_X8_planRepeat
theorem dX8_planCommands_0 : decode cX8_planCommands 0 = .ok (.iload_n 1, 1) := by decide +kernel
theorem dX8_planCommands_1 : decode cX8_planCommands 1 = .ok (.istore 4, 2) := by decide +kernel
theorem dX8_planCommands_3 : decode cX8_planCommands 3 = .ok (.iload_n 1, 1) := by decide +kernel
theorem dX8_planCommands_4 : decode cX8_planCommands 4 = .ok (.istore 5, 2) := by decide +kernel
theorem dX8_planCommands_6 : decode cX8_planCommands 6 = .ok (.iload 5, 2) := by decide +kernel
theorem dX8_planCommands_8 : decode cX8_planCommands 8 = .ok (.iload_n 2, 1) := by decide +kernel
theorem dX8_planCommands_9 : decode cX8_planCommands 9 = .ok (.if_icmp .ge 96, 3) := by decide +kernel
theorem dX8_planCommands_12 : decode cX8_planCommands 12 = .ok (.iload 5, 2) := by decide +kernel
theorem dX8_planCommands_14 : decode cX8_planCommands 14 = .ok (.invokestatic 31, 3) := by decide +kernel
theorem dX8_planCommands_17 : decode cX8_planCommands 17 = .ok (.ifCond .eq 88, 3) := by decide +kernel
theorem dX8_planCommands_20 : decode cX8_planCommands 20 = .ok (.iload 5, 2) := by decide +kernel
theorem dX8_planCommands_22 : decode cX8_planCommands 22 = .ok (.iload 4, 2) := by decide +kernel
theorem dX8_planCommands_24 : decode cX8_planCommands 24 = .ok (.if_icmp .ge 6, 3) := by decide +kernel
theorem dX8_planCommands_27 : decode cX8_planCommands 27 = .ok (.goto 72, 3) := by decide +kernel
theorem dX8_planCommands_30 : decode cX8_planCommands 30 = .ok (.aload_n 0, 1) := by decide +kernel
theorem dX8_planCommands_31 : decode cX8_planCommands 31 = .ok (.getfield 21, 3) := by decide +kernel
theorem dX8_planCommands_34 : decode cX8_planCommands 34 = .ok (.iload 5, 2) := by decide +kernel
theorem dX8_planCommands_36 : decode cX8_planCommands 36 = .ok (.iaload, 1) := by decide +kernel
theorem dX8_planCommands_37 : decode cX8_planCommands 37 = .ok (.istore 4, 2) := by decide +kernel
theorem dX8_planCommands_39 : decode cX8_planCommands 39 = .ok (.aload_n 0, 1) := by decide +kernel
theorem dX8_planCommands_40 : decode cX8_planCommands 40 = .ok (.getfield 13, 3) := by decide +kernel
theorem dX8_planCommands_43 : decode cX8_planCommands 43 = .ok (.iload 5, 2) := by decide +kernel
theorem dX8_planCommands_45 : decode cX8_planCommands 45 = .ok (.aaload, 1) := by decide +kernel
theorem dX8_planCommands_46 : decode cX8_planCommands 46 = .ok (.getstatic 54, 3) := by decide +kernel
theorem dX8_planCommands_49 : decode cX8_planCommands 49 = .ok (.if_acmp .ne 13, 3) := by decide +kernel
theorem dX8_planCommands_52 : decode cX8_planCommands 52 = .ok (.aload_n 0, 1) := by decide +kernel
theorem dX8_planCommands_53 : decode cX8_planCommands 53 = .ok (.iload 5, 2) := by decide +kernel
theorem dX8_planCommands_55 : decode cX8_planCommands 55 = .ok (.iload_n 3, 1) := by decide +kernel
theorem dX8_planCommands_56 : decode cX8_planCommands 56 = .ok (.invokevirtual 58, 3) := by decide +kernel
theorem dX8_planCommands_59 : decode cX8_planCommands 59 = .ok (.goto 40, 3) := by decide +kernel
theorem dX8_planCommands_62 : decode cX8_planCommands 62 = .ok (.aload_n 0, 1) := by decide +kernel
theorem dX8_planCommands_63 : decode cX8_planCommands 63 = .ok (.getfield 39, 3) := by decide +kernel
theorem dX8_planCommands_66 : decode cX8_planCommands 66 = .ok (.ifCond .lt 33, 3) := by decide +kernel
theorem dX8_planCommands_69 : decode cX8_planCommands 69 = .ok (.aload_n 0, 1) := by decide +kernel
theorem dX8_planCommands_70 : decode cX8_planCommands 70 = .ok (.getfield 39, 3) := by decide +kernel
theorem dX8_planCommands_73 : decode cX8_planCommands 73 = .ok (.bipush 60, 2) := by decide +kernel
theorem dX8_planCommands_75 : decode cX8_planCommands 75 = .ok (.if_icmp .ge 24, 3) := by decide +kernel
theorem dX8_planCommands_78 : decode cX8_planCommands 78 = .ok (.aload_n 0, 1) := by decide +kernel
theorem dX8_planCommands_79 : decode cX8_planCommands 79 = .ok (.getfield 24, 3) := by decide +kernel
theorem dX8_planCommands_82 : decode cX8_planCommands 82 = .ok (.aload_n 0, 1) := by decide +kernel
theorem dX8_planCommands_83 : decode cX8_planCommands 83 = .ok (.getfield 39, 3) := by decide +kernel
theorem dX8_planCommands_86 : decode cX8_planCommands 86 = .ok (.iload 5, 2) := by decide +kernel
theorem dX8_planCommands_88 : decode cX8_planCommands 88 = .ok (.iastore, 1) := by decide +kernel
theorem dX8_planCommands_89 : decode cX8_planCommands 89 = .ok (.aload_n 0, 1) := by decide +kernel
theorem dX8_planCommands_90 : decode cX8_planCommands 90 = .ok (.dup, 1) := by decide +kernel
theorem dX8_planCommands_91 : decode cX8_planCommands 91 = .ok (.getfield 39, 3) := by decide +kernel
theorem dX8_planCommands_94 : decode cX8_planCommands 94 = .ok (.iconst 1, 1) := by decide +kernel
theorem dX8_planCommands_95 : decode cX8_planCommands 95 = .ok (.iadd, 1) := by decide +kernel
theorem dX8_planCommands_96 : decode cX8_planCommands 96 = .ok (.putfield 39, 3) := by decide +kernel
theorem dX8_planCommands_99 : decode cX8_planCommands 99 = .ok (.iinc 5 1, 3) := by decide +kernel
theorem dX8_planCommands_102 : decode cX8_planCommands 102 = .ok (.goto (-96), 3) := by decide +kernel
theorem dX8_planCommands_105 : decode cX8_planCommands 105 = .ok (.return_, 1) := by decide +kernel
set_option maxRecDepth 20000 in
theorem ggX8_planRepeat_X8_isIndex : GoodIn wsX8_planRepeat wsX8_isIndex := goodIn_r _ [6] (by decide +kernel) (by decide +kernel)
set_option maxRecDepth 20000 in
theorem gX8_planRepeat_X8_isIndex : GoodIn wsX8_planRepeat (va_wsS RX8 31 yX8_isIndex wsX8_isIndex) := goodIn_app (goodIn_of _ (by decide +kernel)) ggX8_planRepeat_X8_isIndex
set_option maxRecDepth 20000 in
theorem ggX8_planRepeat_X8_numberOf : GoodIn wsX8_planRepeat wsX8_numberOf := goodIn_r _ [10, 11, 3, 4, 5, 6, 22, 23, 24, 25, 26, 27, 28] (by decide +kernel) (by decide +kernel)
set_option maxRecDepth 20000 in
theorem gX8_planRepeat_X8_numberOf : GoodIn wsX8_planRepeat (wsV RX8 62 RX8 yX8_numberOf wsX8_numberOf) := goodIn_app (goodIn_of _ (by decide +kernel)) ggX8_planRepeat_X8_numberOf
set_option maxRecDepth 20000 in
theorem ggX8_planRepeat_X8_planCommands : GoodIn wsX8_planRepeat wsX8_planCommands := goodIn_r _ [15, 2, 16, 17, 1, 18, 3, 4, 5, 6, 19, 20, 21, 0, 7, 8, 9, 10, 11, 12, 13, 14, 22, 23, 24, 25, 26, 27, 28] (by decide +kernel) (by decide +kernel)
set_option maxRecDepth 20000 in
theorem gX8_planRepeat_X8_planCommands : GoodIn wsX8_planRepeat (wsV RX8 50 RX8 yX8_planCommands wsX8_planCommands) := goodIn_app (goodIn_of _ (by decide +kernel)) ggX8_planRepeat_X8_planCommands
theorem dX8_planRepeat_0 : decode cX8_planRepeat 0 = .ok (.iload_n 1, 1) := by decide +kernel
theorem dX8_planRepeat_1 : decode cX8_planRepeat 1 = .ok (.invokestatic 31, 3) := by decide +kernel
theorem dX8_planRepeat_4 : decode cX8_planRepeat 4 = .ok (.ifCond .eq 8, 3) := by decide +kernel
theorem dX8_planRepeat_7 : decode cX8_planRepeat 7 = .ok (.iload_n 2, 1) := by decide +kernel
theorem dX8_planRepeat_8 : decode cX8_planRepeat 8 = .ok (.iconst 2, 1) := by decide +kernel
theorem dX8_planRepeat_9 : decode cX8_planRepeat 9 = .ok (.if_icmp .lt 4, 3) := by decide +kernel
theorem dX8_planRepeat_12 : decode cX8_planRepeat 12 = .ok (.return_, 1) := by decide +kernel
theorem dX8_planRepeat_13 : decode cX8_planRepeat 13 = .ok (.aload_n 0, 1) := by decide +kernel
theorem dX8_planRepeat_14 : decode cX8_planRepeat 14 = .ok (.iload_n 1, 1) := by decide +kernel
theorem dX8_planRepeat_15 : decode cX8_planRepeat 15 = .ok (.iconst 0, 1) := by decide +kernel
theorem dX8_planRepeat_16 : decode cX8_planRepeat 16 = .ok (.invokevirtual 62, 3) := by decide +kernel
theorem dX8_planRepeat_19 : decode cX8_planRepeat 19 = .ok (.istore_n 3, 1) := by decide +kernel
theorem dX8_planRepeat_20 : decode cX8_planRepeat 20 = .ok (.iconst 0, 1) := by decide +kernel
theorem dX8_planRepeat_21 : decode cX8_planRepeat 21 = .ok (.istore 4, 2) := by decide +kernel
theorem dX8_planRepeat_23 : decode cX8_planRepeat 23 = .ok (.iload 4, 2) := by decide +kernel
theorem dX8_planRepeat_25 : decode cX8_planRepeat 25 = .ok (.iload_n 3, 1) := by decide +kernel
theorem dX8_planRepeat_26 : decode cX8_planRepeat 26 = .ok (.if_icmp .ge 34, 3) := by decide +kernel
theorem dX8_planRepeat_29 : decode cX8_planRepeat 29 = .ok (.aload_n 0, 1) := by decide +kernel
theorem dX8_planRepeat_30 : decode cX8_planRepeat 30 = .ok (.getfield 39, 3) := by decide +kernel
theorem dX8_planRepeat_33 : decode cX8_planRepeat 33 = .ok (.bipush 60, 2) := by decide +kernel
theorem dX8_planRepeat_35 : decode cX8_planRepeat 35 = .ok (.if_icmp .ge 25, 3) := by decide +kernel
theorem dX8_planRepeat_38 : decode cX8_planRepeat 38 = .ok (.aload_n 0, 1) := by decide +kernel
theorem dX8_planRepeat_39 : decode cX8_planRepeat 39 = .ok (.iload_n 1, 1) := by decide +kernel
theorem dX8_planRepeat_40 : decode cX8_planRepeat 40 = .ok (.iconst 1, 1) := by decide +kernel
theorem dX8_planRepeat_41 : decode cX8_planRepeat 41 = .ok (.iadd, 1) := by decide +kernel
theorem dX8_planRepeat_42 : decode cX8_planRepeat 42 = .ok (.aload_n 0, 1) := by decide +kernel
theorem dX8_planRepeat_43 : decode cX8_planRepeat 43 = .ok (.getfield 21, 3) := by decide +kernel
theorem dX8_planRepeat_46 : decode cX8_planRepeat 46 = .ok (.iload_n 1, 1) := by decide +kernel
theorem dX8_planRepeat_47 : decode cX8_planRepeat 47 = .ok (.iaload, 1) := by decide +kernel
theorem dX8_planRepeat_48 : decode cX8_planRepeat 48 = .ok (.iload_n 2, 1) := by decide +kernel
theorem dX8_planRepeat_49 : decode cX8_planRepeat 49 = .ok (.iconst 1, 1) := by decide +kernel
theorem dX8_planRepeat_50 : decode cX8_planRepeat 50 = .ok (.iadd, 1) := by decide +kernel
theorem dX8_planRepeat_51 : decode cX8_planRepeat 51 = .ok (.invokevirtual 50, 3) := by decide +kernel
theorem dX8_planRepeat_54 : decode cX8_planRepeat 54 = .ok (.iinc 4 1, 3) := by decide +kernel
theorem dX8_planRepeat_57 : decode cX8_planRepeat 57 = .ok (.goto (-34), 3) := by decide +kernel
theorem dX8_planRepeat_60 : decode cX8_planRepeat 60 = .ok (.return_, 1) := by decide +kernel
set_option maxRecDepth 20000 in
theorem ggX8_readCommands_X10_isAtEnd : GoodIn wsX8_readCommands wsX10_isAtEnd := goodIn_r _ [6, 7, 133, 134, 135, 136, 137, 138, 139, 140, 141, 142, 143] (by decide +kernel) (by decide +kernel)
set_option maxRecDepth 20000 in
theorem gX8_readCommands_X10_isAtEnd : GoodIn wsX8_readCommands (wsV RX8 66 RX10 yX10_isAtEnd wsX10_isAtEnd) := goodIn_app (goodIn_of _ (by decide +kernel)) ggX8_readCommands_X10_isAtEnd
set_option maxRecDepth 20000 in
theorem ggX8_readCommands_X10_isSign : GoodIn wsX8_readCommands wsX10_isSign := goodIn_r _ [11, 7, 12, 13, 14, 15, 5, 16, 17, 18, 133, 134, 135, 136, 137, 138, 139, 140, 141, 142, 143] (by decide +kernel) (by decide +kernel)
set_option maxRecDepth 20000 in
theorem gX8_readCommands_X10_isSign : GoodIn wsX8_readCommands (wsV RX8 70 RX10 yX10_isSign wsX10_isSign) := goodIn_app (goodIn_of _ (by decide +kernel)) ggX8_readCommands_X10_isSign
set_option maxRecDepth 20000 in
theorem ggX8_readCommands_X8_readCommand : GoodIn wsX8_readCommands wsX8_readCommand := goodIn_r _ [28, 1, 29, 30, 31, 32, 33, 34, 35, 22, 36, 37, 38, 39, 40, 41, 5, 42, 7, 43, 12, 44, 45, 46, 47, 48, 49, 50, 51, 52, 53, 54, 55, 13, 14, 15, 16, 17, 18, 56, 57, 58, 59, 60, 61, 62, 63, 64, 65, 66, 67, 68, 69, 70, 71, 72, 73, 74, 75, 76, 77, 78, 79, 80, 81, 82, 83, 84, 85, 86, 87, 88, 89, 90, 91, 92, 23, 24, 25, 26, 27, 93, 94, 95, 96, 97, 98, 99, 100, 101, 102, 103, 104, 105, 106, 107, 108, 109, 110, 111, 112, 113, 114, 115, 116, 117, 118, 119, 120, 121, 9, 10, 11, 122, 123, 124, 125, 0, 2, 3, 4, 6, 8, 19, 20, 21, 126, 127, 128, 129, 130, 131, 132, 133, 134, 135, 136, 137, 138, 139, 140, 141, 142, 143] (by decide +kernel) (by decide +kernel)
set_option maxRecDepth 20000 in
theorem gX8_readCommands_X8_readCommand : GoodIn wsX8_readCommands (wsV RX8 74 RX8 yX8_readCommand wsX8_readCommand) := goodIn_app (goodIn_of _ (by decide +kernel)) ggX8_readCommands_X8_readCommand
set_option maxRecDepth 20000 in
theorem ggX8_readCommands_X10_fail : GoodIn wsX8_readCommands wsX10_fail := goodIn_r _ [26, 27, 133, 134, 135, 136, 137, 138, 139, 140, 141, 142, 143] (by decide +kernel) (by decide +kernel)
set_option maxRecDepth 20000 in
theorem gX8_readCommands_X10_fail : GoodIn wsX8_readCommands (wsV RX8 77 RX10 yX10_fail wsX10_fail) := goodIn_app (goodIn_of _ (by decide +kernel)) ggX8_readCommands_X10_fail
theorem dX8_readCommands_0 : decode cX8_readCommands 0 = .ok (.iconst 0, 1) := by decide +kernel
theorem dX8_readCommands_1 : decode cX8_readCommands 1 = .ok (.istore_n 2, 1) := by decide +kernel
theorem dX8_readCommands_2 : decode cX8_readCommands 2 = .ok (.iload_n 2, 1) := by decide +kernel
theorem dX8_readCommands_3 : decode cX8_readCommands 3 = .ok (.sipush 900, 3) := by decide +kernel
theorem dX8_readCommands_6 : decode cX8_readCommands 6 = .ok (.if_icmp .ge 49, 3) := by decide +kernel
theorem dX8_readCommands_9 : decode cX8_readCommands 9 = .ok (.iload_n 1, 1) := by decide +kernel
theorem dX8_readCommands_10 : decode cX8_readCommands 10 = .ok (.ifCond .ne 13, 3) := by decide +kernel
theorem dX8_readCommands_13 : decode cX8_readCommands 13 = .ok (.aload_n 0, 1) := by decide +kernel
theorem dX8_readCommands_14 : decode cX8_readCommands 14 = .ok (.getfield 27, 3) := by decide +kernel
theorem dX8_readCommands_17 : decode cX8_readCommands 17 = .ok (.invokevirtual 66, 3) := by decide +kernel
theorem dX8_readCommands_20 : decode cX8_readCommands 20 = .ok (.goto 12, 3) := by decide +kernel
theorem dX8_readCommands_23 : decode cX8_readCommands 23 = .ok (.aload_n 0, 1) := by decide +kernel
theorem dX8_readCommands_24 : decode cX8_readCommands 24 = .ok (.getfield 27, 3) := by decide +kernel
theorem dX8_readCommands_27 : decode cX8_readCommands 27 = .ok (.bipush 41, 2) := by decide +kernel
theorem dX8_readCommands_29 : decode cX8_readCommands 29 = .ok (.invokevirtual 70, 3) := by decide +kernel
theorem dX8_readCommands_32 : decode cX8_readCommands 32 = .ok (.istore_n 3, 1) := by decide +kernel
theorem dX8_readCommands_33 : decode cX8_readCommands 33 = .ok (.iload_n 3, 1) := by decide +kernel
theorem dX8_readCommands_34 : decode cX8_readCommands 34 = .ok (.ifCond .eq 5, 3) := by decide +kernel
theorem dX8_readCommands_37 : decode cX8_readCommands 37 = .ok (.iconst 1, 1) := by decide +kernel
theorem dX8_readCommands_38 : decode cX8_readCommands 38 = .ok (.ireturn, 1) := by decide +kernel
theorem dX8_readCommands_39 : decode cX8_readCommands 39 = .ok (.aload_n 0, 1) := by decide +kernel
theorem dX8_readCommands_40 : decode cX8_readCommands 40 = .ok (.iload_n 1, 1) := by decide +kernel
theorem dX8_readCommands_41 : decode cX8_readCommands 41 = .ok (.invokevirtual 74, 3) := by decide +kernel
theorem dX8_readCommands_44 : decode cX8_readCommands 44 = .ok (.ifCond .ne 5, 3) := by decide +kernel
theorem dX8_readCommands_47 : decode cX8_readCommands 47 = .ok (.iconst 0, 1) := by decide +kernel
theorem dX8_readCommands_48 : decode cX8_readCommands 48 = .ok (.ireturn, 1) := by decide +kernel
theorem dX8_readCommands_49 : decode cX8_readCommands 49 = .ok (.iinc 2 1, 3) := by decide +kernel
theorem dX8_readCommands_52 : decode cX8_readCommands 52 = .ok (.goto (-50), 3) := by decide +kernel
theorem dX8_readCommands_55 : decode cX8_readCommands 55 = .ok (.aload_n 0, 1) := by decide +kernel
theorem dX8_readCommands_56 : decode cX8_readCommands 56 = .ok (.getfield 27, 3) := by decide +kernel
theorem dX8_readCommands_59 : decode cX8_readCommands 59 = .ok (.iconst 1, 1) := by decide +kernel
theorem dX8_readCommands_60 : decode cX8_readCommands 60 = .ok (.invokevirtual 77, 3) := by decide +kernel
theorem dX8_readCommands_63 : decode cX8_readCommands 63 = .ok (.ireturn, 1) := by decide +kernel
set_option maxRecDepth 20000 in
theorem ggX8_readCommand_X8_presentCommand : GoodIn wsX8_readCommand wsX8_presentCommand := goodIn_r _ [10, 11, 1, 12, 13, 14, 15, 16, 17, 18, 19, 20, 21, 22, 23, 24, 25, 26, 27, 28, 29, 30, 31, 32, 33, 34, 35, 36, 37, 38, 39, 40, 41, 42, 43, 44, 45, 46, 47, 48, 49, 50, 51, 52, 53, 54, 55, 56, 57, 58, 59, 60, 61, 62, 63, 64, 65, 66, 67, 68, 69, 70, 71, 72, 73, 74, 75, 126, 127, 128, 129, 130, 131, 132, 133, 134, 135, 136, 137, 138, 139, 140, 141, 142, 143] (by decide +kernel) (by decide +kernel)
set_option maxRecDepth 20000 in
theorem gX8_readCommand_X8_presentCommand : GoodIn wsX8_readCommand (wsV RX8 80 RX8 yX8_presentCommand wsX8_presentCommand) := goodIn_app (goodIn_of _ (by decide +kernel)) ggX8_readCommand_X8_presentCommand
set_option maxRecDepth 20000 in
theorem ggX8_readCommand_X10_fail : GoodIn wsX8_readCommand wsX10_fail := goodIn_r _ [79, 80, 133, 134, 135, 136, 137, 138, 139, 140, 141, 142, 143] (by decide +kernel) (by decide +kernel)
set_option maxRecDepth 20000 in
theorem gX8_readCommand_X10_fail : GoodIn wsX8_readCommand (wsV RX8 77 RX10 yX10_fail wsX10_fail) := goodIn_app (goodIn_of _ (by decide +kernel)) ggX8_readCommand_X10_fail
set_option maxRecDepth 20000 in
theorem ggX8_readCommand_X8_isIndex : GoodIn wsX8_readCommand wsX8_isIndex := goodIn_r _ [83] (by decide +kernel) (by decide +kernel)
set_option maxRecDepth 20000 in
theorem gX8_readCommand_X8_isIndex : GoodIn wsX8_readCommand (va_wsS RX8 31 yX8_isIndex wsX8_isIndex) := goodIn_app (goodIn_of _ (by decide +kernel)) ggX8_readCommand_X8_isIndex
set_option maxRecDepth 20000 in
theorem ggX8_readCommand_X10_advance : GoodIn wsX8_readCommand wsX10_advance := goodIn_r _ [87, 88, 89, 90, 37, 20, 19, 18, 91, 92, 133, 134, 135, 136, 137, 138, 139, 140, 141, 142, 143] (by decide +kernel) (by decide +kernel)
set_option maxRecDepth 20000 in
theorem gX8_readCommand_X10_advance : GoodIn wsX8_readCommand (wsV RX8 84 RX10 yX10_advance wsX10_advance) := goodIn_app (goodIn_of _ (by decide +kernel)) ggX8_readCommand_X10_advance
set_option maxRecDepth 20000 in
theorem ggX8_readCommand_X8_readNumbers : GoodIn wsX8_readCommand wsX8_readNumbers := goodIn_r _ [96, 2, 97, 98, 1, 99, 100, 101, 102, 16, 103, 18, 80, 19, 20, 33, 34, 35, 36, 37, 38, 104, 85, 86, 87, 88, 89, 90, 91, 92, 126, 127, 128, 129, 130, 131, 132, 133, 134, 135, 136, 137, 138, 139, 140, 141, 142, 143] (by decide +kernel) (by decide +kernel)
set_option maxRecDepth 20000 in
theorem gX8_readCommand_X8_readNumbers : GoodIn wsX8_readCommand (wsV RX8 87 RX8 yX8_readNumbers wsX8_readNumbers) := goodIn_app (goodIn_of _ (by decide +kernel)) ggX8_readCommand_X8_readNumbers
set_option maxRecDepth 20000 in
theorem ggX8_readCommand_X10_takeSign : GoodIn wsX8_readCommand wsX10_takeSign := goodIn_r _ [108, 109, 110, 111, 16, 112, 18, 20, 33, 34, 35, 36, 37, 38, 113, 77, 78, 79, 80, 104, 85, 86, 87, 88, 89, 90, 19, 91, 92, 133, 134, 135, 136, 137, 138, 139, 140, 141, 142, 143] (by decide +kernel) (by decide +kernel)
set_option maxRecDepth 20000 in
theorem gX8_readCommand_X10_takeSign : GoodIn wsX8_readCommand (wsV RX8 91 RX10 yX10_takeSign wsX10_takeSign) := goodIn_app (goodIn_of _ (by decide +kernel)) ggX8_readCommand_X10_takeSign
set_option maxRecDepth 20000 in
theorem ggX8_readCommand_X8_readCommands : GoodIn wsX8_readCommand wsX8_readCommands := goodIn_r _ [117, 1, 118, 119, 120, 16, 121, 18, 122, 110, 111, 112, 20, 33, 34, 35, 36, 37, 38, 123, 124, 125, 9, 76, 77, 78, 79, 80, 0, 2, 3, 4, 5, 6, 7, 8, 10, 11, 12, 13, 14, 15, 17, 19, 21, 22, 23, 24, 25, 26, 27, 28, 29, 30, 31, 32, 39, 40, 41, 42, 43, 44, 45, 46, 47, 48, 49, 50, 51, 52, 53, 54, 55, 56, 57, 58, 59, 60, 61, 62, 63, 64, 65, 66, 67, 68, 69, 70, 71, 72, 73, 74, 75, 81, 82, 83, 84, 85, 86, 87, 88, 89, 90, 91, 92, 93, 94, 95, 96, 97, 98, 99, 100, 101, 102, 103, 104, 105, 106, 107, 108, 109, 113, 114, 115, 116, 126, 127, 128, 129, 130, 131, 132, 133, 134, 135, 136, 137, 138, 139, 140, 141, 142, 143] (by decide +kernel) (by decide +kernel)
set_option maxRecDepth 20000 in
theorem gX8_readCommand_X8_readCommands : GoodIn wsX8_readCommand (wsV RX8 47 RX8 yX8_readCommands wsX8_readCommands) := goodIn_app (goodIn_of _ (by decide +kernel)) ggX8_readCommand_X8_readCommands
theorem dX8_readCommand_0 : decode cX8_readCommand 0 = .ok (.aload_n 0, 1) := by decide +kernel
theorem dX8_readCommand_1 : decode cX8_readCommand 1 = .ok (.invokevirtual 80, 3) := by decide +kernel
theorem dX8_readCommand_4 : decode cX8_readCommand 4 = .ok (.astore_n 2, 1) := by decide +kernel
theorem dX8_readCommand_5 : decode cX8_readCommand 5 = .ok (.aload_n 2, 1) := by decide +kernel
theorem dX8_readCommand_6 : decode cX8_readCommand 6 = .ok (.ifnonnull 12, 3) := by decide +kernel
theorem dX8_readCommand_9 : decode cX8_readCommand 9 = .ok (.aload_n 0, 1) := by decide +kernel
theorem dX8_readCommand_10 : decode cX8_readCommand 10 = .ok (.getfield 27, 3) := by decide +kernel
theorem dX8_readCommand_13 : decode cX8_readCommand 13 = .ok (.iconst 1, 1) := by decide +kernel
theorem dX8_readCommand_14 : decode cX8_readCommand 14 = .ok (.invokevirtual 77, 3) := by decide +kernel
theorem dX8_readCommand_17 : decode cX8_readCommand 17 = .ok (.ireturn, 1) := by decide +kernel
theorem dX8_readCommand_18 : decode cX8_readCommand 18 = .ok (.aload_n 2, 1) := by decide +kernel
theorem dX8_readCommand_19 : decode cX8_readCommand 19 = .ok (.getstatic 54, 3) := by decide +kernel
theorem dX8_readCommand_22 : decode cX8_readCommand 22 = .ok (.if_acmp .ne 17, 3) := by decide +kernel
theorem dX8_readCommand_25 : decode cX8_readCommand 25 = .ok (.iload_n 1, 1) := by decide +kernel
theorem dX8_readCommand_26 : decode cX8_readCommand 26 = .ok (.iconst 2, 1) := by decide +kernel
theorem dX8_readCommand_27 : decode cX8_readCommand 27 = .ok (.if_icmp .lt 12, 3) := by decide +kernel
theorem dX8_readCommand_30 : decode cX8_readCommand 30 = .ok (.aload_n 0, 1) := by decide +kernel
theorem dX8_readCommand_31 : decode cX8_readCommand 31 = .ok (.getfield 27, 3) := by decide +kernel
theorem dX8_readCommand_34 : decode cX8_readCommand 34 = .ok (.iconst 3, 1) := by decide +kernel
theorem dX8_readCommand_35 : decode cX8_readCommand 35 = .ok (.invokevirtual 77, 3) := by decide +kernel
theorem dX8_readCommand_38 : decode cX8_readCommand 38 = .ok (.ireturn, 1) := by decide +kernel
theorem dX8_readCommand_39 : decode cX8_readCommand 39 = .ok (.aload_n 0, 1) := by decide +kernel
theorem dX8_readCommand_40 : decode cX8_readCommand 40 = .ok (.getfield 35, 3) := by decide +kernel
theorem dX8_readCommand_43 : decode cX8_readCommand 43 = .ok (.invokestatic 31, 3) := by decide +kernel
theorem dX8_readCommand_46 : decode cX8_readCommand 46 = .ok (.ifCond .ne 12, 3) := by decide +kernel
theorem dX8_readCommand_49 : decode cX8_readCommand 49 = .ok (.aload_n 0, 1) := by decide +kernel
theorem dX8_readCommand_50 : decode cX8_readCommand 50 = .ok (.getfield 27, 3) := by decide +kernel
theorem dX8_readCommand_53 : decode cX8_readCommand 53 = .ok (.iconst 5, 1) := by decide +kernel
theorem dX8_readCommand_54 : decode cX8_readCommand 54 = .ok (.invokevirtual 77, 3) := by decide +kernel
theorem dX8_readCommand_57 : decode cX8_readCommand 57 = .ok (.ireturn, 1) := by decide +kernel
theorem dX8_readCommand_58 : decode cX8_readCommand 58 = .ok (.aload_n 0, 1) := by decide +kernel
theorem dX8_readCommand_59 : decode cX8_readCommand 59 = .ok (.getfield 35, 3) := by decide +kernel
theorem dX8_readCommand_62 : decode cX8_readCommand 62 = .ok (.istore_n 3, 1) := by decide +kernel
theorem dX8_readCommand_63 : decode cX8_readCommand 63 = .ok (.aload_n 0, 1) := by decide +kernel
theorem dX8_readCommand_64 : decode cX8_readCommand 64 = .ok (.dup, 1) := by decide +kernel
theorem dX8_readCommand_65 : decode cX8_readCommand 65 = .ok (.getfield 35, 3) := by decide +kernel
theorem dX8_readCommand_68 : decode cX8_readCommand 68 = .ok (.iconst 1, 1) := by decide +kernel
theorem dX8_readCommand_69 : decode cX8_readCommand 69 = .ok (.iadd, 1) := by decide +kernel
theorem dX8_readCommand_70 : decode cX8_readCommand 70 = .ok (.putfield 35, 3) := by decide +kernel
theorem dX8_readCommand_73 : decode cX8_readCommand 73 = .ok (.aload_n 0, 1) := by decide +kernel
theorem dX8_readCommand_74 : decode cX8_readCommand 74 = .ok (.getfield 13, 3) := by decide +kernel
theorem dX8_readCommand_77 : decode cX8_readCommand 77 = .ok (.iload_n 3, 1) := by decide +kernel
theorem dX8_readCommand_78 : decode cX8_readCommand 78 = .ok (.aload_n 2, 1) := by decide +kernel
theorem dX8_readCommand_79 : decode cX8_readCommand 79 = .ok (.aastore, 1) := by decide +kernel
theorem dX8_readCommand_80 : decode cX8_readCommand 80 = .ok (.aload_n 0, 1) := by decide +kernel
theorem dX8_readCommand_81 : decode cX8_readCommand 81 = .ok (.getfield 27, 3) := by decide +kernel
theorem dX8_readCommand_84 : decode cX8_readCommand 84 = .ok (.invokevirtual 84, 3) := by decide +kernel
theorem dX8_readCommand_87 : decode cX8_readCommand 87 = .ok (.aload_n 0, 1) := by decide +kernel
theorem dX8_readCommand_88 : decode cX8_readCommand 88 = .ok (.aload_n 2, 1) := by decide +kernel
theorem dX8_readCommand_89 : decode cX8_readCommand 89 = .ok (.iload_n 3, 1) := by decide +kernel
theorem dX8_readCommand_90 : decode cX8_readCommand 90 = .ok (.invokevirtual 87, 3) := by decide +kernel
theorem dX8_readCommand_93 : decode cX8_readCommand 93 = .ok (.ifCond .ne 5, 3) := by decide +kernel
theorem dX8_readCommand_96 : decode cX8_readCommand 96 = .ok (.iconst 0, 1) := by decide +kernel
theorem dX8_readCommand_97 : decode cX8_readCommand 97 = .ok (.ireturn, 1) := by decide +kernel
theorem dX8_readCommand_98 : decode cX8_readCommand 98 = .ok (.aload_n 2, 1) := by decide +kernel
theorem dX8_readCommand_99 : decode cX8_readCommand 99 = .ok (.getstatic 54, 3) := by decide +kernel
theorem dX8_readCommand_102 : decode cX8_readCommand 102 = .ok (.if_acmp .ne 37, 3) := by decide +kernel
theorem dX8_readCommand_105 : decode cX8_readCommand 105 = .ok (.aload_n 0, 1) := by decide +kernel
theorem dX8_readCommand_106 : decode cX8_readCommand 106 = .ok (.getfield 27, 3) := by decide +kernel
theorem dX8_readCommand_109 : decode cX8_readCommand 109 = .ok (.bipush 40, 2) := by decide +kernel
theorem dX8_readCommand_111 : decode cX8_readCommand 111 = .ok (.invokevirtual 91, 3) := by decide +kernel
theorem dX8_readCommand_114 : decode cX8_readCommand 114 = .ok (.ifCond .eq 29, 3) := by decide +kernel
theorem dX8_readCommand_117 : decode cX8_readCommand 117 = .ok (.aload_n 0, 1) := by decide +kernel
theorem dX8_readCommand_118 : decode cX8_readCommand 118 = .ok (.iload_n 1, 1) := by decide +kernel
theorem dX8_readCommand_119 : decode cX8_readCommand 119 = .ok (.iconst 1, 1) := by decide +kernel
theorem dX8_readCommand_120 : decode cX8_readCommand 120 = .ok (.iadd, 1) := by decide +kernel
theorem dX8_readCommand_121 : decode cX8_readCommand 121 = .ok (.invokevirtual 47, 3) := by decide +kernel
theorem dX8_readCommand_124 : decode cX8_readCommand 124 = .ok (.ifCond .eq 19, 3) := by decide +kernel
theorem dX8_readCommand_127 : decode cX8_readCommand 127 = .ok (.aload_n 0, 1) := by decide +kernel
theorem dX8_readCommand_128 : decode cX8_readCommand 128 = .ok (.getfield 27, 3) := by decide +kernel
theorem dX8_readCommand_131 : decode cX8_readCommand 131 = .ok (.bipush 41, 2) := by decide +kernel
theorem dX8_readCommand_133 : decode cX8_readCommand 133 = .ok (.invokevirtual 91, 3) := by decide +kernel
theorem dX8_readCommand_136 : decode cX8_readCommand 136 = .ok (.ifCond .eq 7, 3) := by decide +kernel
theorem dX8_readCommand_139 : decode cX8_readCommand 139 = .ok (.iconst 1, 1) := by decide +kernel
theorem dX8_readCommand_140 : decode cX8_readCommand 140 = .ok (.goto 4, 3) := by decide +kernel
theorem dX8_readCommand_143 : decode cX8_readCommand 143 = .ok (.iconst 0, 1) := by decide +kernel
theorem dX8_readCommand_144 : decode cX8_readCommand 144 = .ok (.istore 4, 2) := by decide +kernel
theorem dX8_readCommand_146 : decode cX8_readCommand 146 = .ok (.aload_n 0, 1) := by decide +kernel
theorem dX8_readCommand_147 : decode cX8_readCommand 147 = .ok (.getfield 21, 3) := by decide +kernel
theorem dX8_readCommand_150 : decode cX8_readCommand 150 = .ok (.iload_n 3, 1) := by decide +kernel
theorem dX8_readCommand_151 : decode cX8_readCommand 151 = .ok (.aload_n 0, 1) := by decide +kernel
theorem dX8_readCommand_152 : decode cX8_readCommand 152 = .ok (.getfield 35, 3) := by decide +kernel
theorem dX8_readCommand_155 : decode cX8_readCommand 155 = .ok (.iastore, 1) := by decide +kernel
theorem dX8_readCommand_156 : decode cX8_readCommand 156 = .ok (.iload 4, 2) := by decide +kernel
theorem dX8_readCommand_158 : decode cX8_readCommand 158 = .ok (.ifCond .eq 19, 3) := by decide +kernel
theorem dX8_readCommand_161 : decode cX8_readCommand 161 = .ok (.aload_n 0, 1) := by decide +kernel
theorem dX8_readCommand_162 : decode cX8_readCommand 162 = .ok (.getfield 27, 3) := by decide +kernel
theorem dX8_readCommand_165 : decode cX8_readCommand 165 = .ok (.bipush 59, 2) := by decide +kernel
theorem dX8_readCommand_167 : decode cX8_readCommand 167 = .ok (.invokevirtual 91, 3) := by decide +kernel
theorem dX8_readCommand_170 : decode cX8_readCommand 170 = .ok (.ifCond .eq 7, 3) := by decide +kernel
theorem dX8_readCommand_173 : decode cX8_readCommand 173 = .ok (.iconst 1, 1) := by decide +kernel
theorem dX8_readCommand_174 : decode cX8_readCommand 174 = .ok (.goto 4, 3) := by decide +kernel
theorem dX8_readCommand_177 : decode cX8_readCommand 177 = .ok (.iconst 0, 1) := by decide +kernel
theorem dX8_readCommand_178 : decode cX8_readCommand 178 = .ok (.ireturn, 1) := by decide +kernel
set_option maxRecDepth 20000 in
theorem ggX8_presentCommand_X10_isWord : GoodIn wsX8_presentCommand wsX10_isWord := goodIn_r _ [8, 9, 10, 11, 12, 13, 14, 15, 16, 17, 18, 19, 20, 21, 22, 23, 24, 25, 26, 7, 27, 28, 29, 30, 31, 32, 33, 34, 35, 36, 37, 38, 39, 40, 41, 42, 43, 44, 45, 46, 47, 48, 49, 50, 51, 52, 53, 54, 55, 56, 57, 58, 59, 60, 61, 62, 63, 64, 65, 66, 74, 75, 76, 77, 78, 79, 80, 81, 82, 83, 84] (by decide +kernel) (by decide +kernel)
set_option maxRecDepth 20000 in
theorem gX8_presentCommand_X10_isWord : GoodIn wsX8_presentCommand (wsV RX8 101 RX10 yX10_isWord wsX10_isWord) := goodIn_app (goodIn_of _ (by decide +kernel)) ggX8_presentCommand_X10_isWord
theorem dX8_presentCommand_0 : decode cX8_presentCommand 0 = .ok (.iconst 0, 1) := by decide +kernel
theorem dX8_presentCommand_1 : decode cX8_presentCommand 1 = .ok (.istore_n 1, 1) := by decide +kernel
theorem dX8_presentCommand_2 : decode cX8_presentCommand 2 = .ok (.iload_n 1, 1) := by decide +kernel
theorem dX8_presentCommand_3 : decode cX8_presentCommand 3 = .ok (.getstatic 94, 3) := by decide +kernel
theorem dX8_presentCommand_6 : decode cX8_presentCommand 6 = .ok (.arraylength, 1) := by decide +kernel
theorem dX8_presentCommand_7 : decode cX8_presentCommand 7 = .ok (.if_icmp .ge 33, 3) := by decide +kernel
theorem dX8_presentCommand_10 : decode cX8_presentCommand 10 = .ok (.aload_n 0, 1) := by decide +kernel
theorem dX8_presentCommand_11 : decode cX8_presentCommand 11 = .ok (.getfield 27, 3) := by decide +kernel
theorem dX8_presentCommand_14 : decode cX8_presentCommand 14 = .ok (.getstatic 94, 3) := by decide +kernel
theorem dX8_presentCommand_17 : decode cX8_presentCommand 17 = .ok (.iload_n 1, 1) := by decide +kernel
theorem dX8_presentCommand_18 : decode cX8_presentCommand 18 = .ok (.aaload, 1) := by decide +kernel
theorem dX8_presentCommand_19 : decode cX8_presentCommand 19 = .ok (.getfield 97, 3) := by decide +kernel
theorem dX8_presentCommand_22 : decode cX8_presentCommand 22 = .ok (.invokevirtual 101, 3) := by decide +kernel
theorem dX8_presentCommand_25 : decode cX8_presentCommand 25 = .ok (.ifCond .eq 9, 3) := by decide +kernel
theorem dX8_presentCommand_28 : decode cX8_presentCommand 28 = .ok (.getstatic 94, 3) := by decide +kernel
theorem dX8_presentCommand_31 : decode cX8_presentCommand 31 = .ok (.iload_n 1, 1) := by decide +kernel
theorem dX8_presentCommand_32 : decode cX8_presentCommand 32 = .ok (.aaload, 1) := by decide +kernel
theorem dX8_presentCommand_33 : decode cX8_presentCommand 33 = .ok (.areturn, 1) := by decide +kernel
theorem dX8_presentCommand_34 : decode cX8_presentCommand 34 = .ok (.iinc 1 1, 3) := by decide +kernel
theorem dX8_presentCommand_37 : decode cX8_presentCommand 37 = .ok (.goto (-35), 3) := by decide +kernel
theorem dX8_presentCommand_40 : decode cX8_presentCommand 40 = .ok (.aconst_null, 1) := by decide +kernel
theorem dX8_presentCommand_41 : decode cX8_presentCommand 41 = .ok (.areturn, 1) := by decide +kernel
set_option maxRecDepth 20000 in
theorem ggX8_readNumbers_X10_takeNumber : GoodIn wsX8_readNumbers wsX10_takeNumber := goodIn_r _ [10, 11, 12, 13, 14, 15, 16, 17, 9, 18, 19, 20, 21, 22, 23, 24, 25, 26, 27, 28, 29, 37, 38, 39, 40, 41, 42, 43, 44, 45, 46, 47] (by decide +kernel) (by decide +kernel)
set_option maxRecDepth 20000 in
theorem gX8_readNumbers_X10_takeNumber : GoodIn wsX8_readNumbers (wsV RX8 110 RX10 yX10_takeNumber wsX10_takeNumber) := goodIn_app (goodIn_of _ (by decide +kernel)) ggX8_readNumbers_X10_takeNumber
theorem dX8_readNumbers_0 : decode cX8_readNumbers 0 = .ok (.aload_n 1, 1) := by decide +kernel
theorem dX8_readNumbers_1 : decode cX8_readNumbers 1 = .ok (.getstatic 54, 3) := by decide +kernel
theorem dX8_readNumbers_4 : decode cX8_readNumbers 4 = .ok (.if_acmp .ne 7, 3) := by decide +kernel
theorem dX8_readNumbers_7 : decode cX8_readNumbers 7 = .ok (.iconst 1, 1) := by decide +kernel
theorem dX8_readNumbers_8 : decode cX8_readNumbers 8 = .ok (.goto 4, 3) := by decide +kernel
theorem dX8_readNumbers_11 : decode cX8_readNumbers 11 = .ok (.iconst 0, 1) := by decide +kernel
theorem dX8_readNumbers_12 : decode cX8_readNumbers 12 = .ok (.istore_n 3, 1) := by decide +kernel
theorem dX8_readNumbers_13 : decode cX8_readNumbers 13 = .ok (.iconst 0, 1) := by decide +kernel
theorem dX8_readNumbers_14 : decode cX8_readNumbers 14 = .ok (.istore 4, 2) := by decide +kernel
theorem dX8_readNumbers_16 : decode cX8_readNumbers 16 = .ok (.iload 4, 2) := by decide +kernel
theorem dX8_readNumbers_18 : decode cX8_readNumbers 18 = .ok (.aload_n 1, 1) := by decide +kernel
theorem dX8_readNumbers_19 : decode cX8_readNumbers 19 = .ok (.getfield 105, 3) := by decide +kernel
theorem dX8_readNumbers_22 : decode cX8_readNumbers 22 = .ok (.if_icmp .ge 71, 3) := by decide +kernel
theorem dX8_readNumbers_25 : decode cX8_readNumbers 25 = .ok (.iload 4, 2) := by decide +kernel
theorem dX8_readNumbers_27 : decode cX8_readNumbers 27 = .ok (.iconst 5, 1) := by decide +kernel
theorem dX8_readNumbers_28 : decode cX8_readNumbers 28 = .ok (.if_icmp .ge 65, 3) := by decide +kernel
theorem dX8_readNumbers_31 : decode cX8_readNumbers 31 = .ok (.aload_n 1, 1) := by decide +kernel
theorem dX8_readNumbers_32 : decode cX8_readNumbers 32 = .ok (.getstatic 107, 3) := by decide +kernel
theorem dX8_readNumbers_35 : decode cX8_readNumbers 35 = .ok (.if_acmp .ne 15, 3) := by decide +kernel
theorem dX8_readNumbers_38 : decode cX8_readNumbers 38 = .ok (.iload 4, 2) := by decide +kernel
theorem dX8_readNumbers_40 : decode cX8_readNumbers 40 = .ok (.iconst 2, 1) := by decide +kernel
theorem dX8_readNumbers_41 : decode cX8_readNumbers 41 = .ok (.if_icmp .ne 9, 3) := by decide +kernel
theorem dX8_readNumbers_44 : decode cX8_readNumbers 44 = .ok (.sipush 255, 3) := by decide +kernel
theorem dX8_readNumbers_47 : decode cX8_readNumbers 47 = .ok (.goto 5, 3) := by decide +kernel
theorem dX8_readNumbers_50 : decode cX8_readNumbers 50 = .ok (.bipush 20, 2) := by decide +kernel
theorem dX8_readNumbers_52 : decode cX8_readNumbers 52 = .ok (.istore 5, 2) := by decide +kernel
theorem dX8_readNumbers_54 : decode cX8_readNumbers 54 = .ok (.aload_n 0, 1) := by decide +kernel
theorem dX8_readNumbers_55 : decode cX8_readNumbers 55 = .ok (.getfield 27, 3) := by decide +kernel
theorem dX8_readNumbers_58 : decode cX8_readNumbers 58 = .ok (.iload_n 3, 1) := by decide +kernel
theorem dX8_readNumbers_59 : decode cX8_readNumbers 59 = .ok (.iload 5, 2) := by decide +kernel
theorem dX8_readNumbers_61 : decode cX8_readNumbers 61 = .ok (.invokevirtual 110, 3) := by decide +kernel
theorem dX8_readNumbers_64 : decode cX8_readNumbers 64 = .ok (.istore 6, 2) := by decide +kernel
theorem dX8_readNumbers_66 : decode cX8_readNumbers 66 = .ok (.iload 6, 2) := by decide +kernel
theorem dX8_readNumbers_68 : decode cX8_readNumbers 68 = .ok (.iconst (-1), 1) := by decide +kernel
theorem dX8_readNumbers_69 : decode cX8_readNumbers 69 = .ok (.if_icmp .ne 5, 3) := by decide +kernel
theorem dX8_readNumbers_72 : decode cX8_readNumbers 72 = .ok (.iconst 0, 1) := by decide +kernel
theorem dX8_readNumbers_73 : decode cX8_readNumbers 73 = .ok (.ireturn, 1) := by decide +kernel
theorem dX8_readNumbers_74 : decode cX8_readNumbers 74 = .ok (.aload_n 0, 1) := by decide +kernel
theorem dX8_readNumbers_75 : decode cX8_readNumbers 75 = .ok (.getfield 17, 3) := by decide +kernel
theorem dX8_readNumbers_78 : decode cX8_readNumbers 78 = .ok (.iload_n 2, 1) := by decide +kernel
theorem dX8_readNumbers_79 : decode cX8_readNumbers 79 = .ok (.iconst 5, 1) := by decide +kernel
theorem dX8_readNumbers_80 : decode cX8_readNumbers 80 = .ok (.imul, 1) := by decide +kernel
theorem dX8_readNumbers_81 : decode cX8_readNumbers 81 = .ok (.iload 4, 2) := by decide +kernel
theorem dX8_readNumbers_83 : decode cX8_readNumbers 83 = .ok (.iadd, 1) := by decide +kernel
theorem dX8_readNumbers_84 : decode cX8_readNumbers 84 = .ok (.iload 6, 2) := by decide +kernel
theorem dX8_readNumbers_86 : decode cX8_readNumbers 86 = .ok (.iastore, 1) := by decide +kernel
theorem dX8_readNumbers_87 : decode cX8_readNumbers 87 = .ok (.iinc 4 1, 3) := by decide +kernel
theorem dX8_readNumbers_90 : decode cX8_readNumbers 90 = .ok (.goto (-74), 3) := by decide +kernel
theorem dX8_readNumbers_93 : decode cX8_readNumbers 93 = .ok (.iconst 1, 1) := by decide +kernel
theorem dX8_readNumbers_94 : decode cX8_readNumbers 94 = .ok (.ireturn, 1) := by decide +kernel
set_option maxRecDepth 20000 in
theorem ggX9_excess_X5_heightAt : GoodIn wsX9_excess wsX5_heightAt := goodIn_r _ [10, 11, 12, 13, 14, 15, 16, 17, 18, 19, 20, 21, 22, 23] (by decide +kernel) (by decide +kernel)
set_option maxRecDepth 20000 in
theorem gX9_excess_X5_heightAt : GoodIn wsX9_excess (wsV RX9 7 RX5 yX5_heightAt wsX5_heightAt) := goodIn_app (goodIn_of _ (by decide +kernel)) ggX9_excess_X5_heightAt
theorem dX9_excess_0 : decode cX9_excess 0 = .ok (.iload_n 2, 1) := by decide +kernel
theorem dX9_excess_1 : decode cX9_excess 1 = .ok (.ifCond .gt 5, 3) := by decide +kernel
theorem dX9_excess_4 : decode cX9_excess 4 = .ok (.iconst 0, 1) := by decide +kernel
theorem dX9_excess_5 : decode cX9_excess 5 = .ok (.ireturn, 1) := by decide +kernel
theorem dX9_excess_6 : decode cX9_excess 6 = .ok (.iconst 0, 1) := by decide +kernel
theorem dX9_excess_7 : decode cX9_excess 7 = .ok (.aload_n 0, 1) := by decide +kernel
theorem dX9_excess_8 : decode cX9_excess 8 = .ok (.iload_n 1, 1) := by decide +kernel
theorem dX9_excess_9 : decode cX9_excess 9 = .ok (.iload_n 2, 1) := by decide +kernel
theorem dX9_excess_10 : decode cX9_excess 10 = .ok (.invokevirtual 7, 3) := by decide +kernel
theorem dX9_excess_13 : decode cX9_excess 13 = .ok (.aload_n 0, 1) := by decide +kernel
theorem dX9_excess_14 : decode cX9_excess 14 = .ok (.iload_n 1, 1) := by decide +kernel
theorem dX9_excess_15 : decode cX9_excess 15 = .ok (.iload_n 2, 1) := by decide +kernel
theorem dX9_excess_16 : decode cX9_excess 16 = .ok (.iconst 1, 1) := by decide +kernel
theorem dX9_excess_17 : decode cX9_excess 17 = .ok (.isub, 1) := by decide +kernel
theorem dX9_excess_18 : decode cX9_excess 18 = .ok (.invokevirtual 7, 3) := by decide +kernel
theorem dX9_excess_21 : decode cX9_excess 21 = .ok (.aload_n 0, 1) := by decide +kernel
theorem dX9_excess_22 : decode cX9_excess 22 = .ok (.getfield 13, 3) := by decide +kernel
theorem dX9_excess_25 : decode cX9_excess 25 = .ok (.iadd, 1) := by decide +kernel
theorem dX9_excess_26 : decode cX9_excess 26 = .ok (.isub, 1) := by decide +kernel
theorem dX9_excess_27 : decode cX9_excess 27 = .ok (.invokestatic 17, 3) := by decide +kernel
theorem dX9_excess_30 : decode cX9_excess 30 = .ok (.ireturn, 1) := by decide +kernel
set_option maxRecDepth 20000 in
theorem ggX9_lengthOf_X5_heightAt : GoodIn wsX9_lengthOf wsX5_heightAt := goodIn_r _ [5, 6, 7, 8, 18, 19, 20, 21, 22, 23, 24, 25, 26, 27] (by decide +kernel) (by decide +kernel)
set_option maxRecDepth 20000 in
theorem gX9_lengthOf_X5_heightAt : GoodIn wsX9_lengthOf (wsV RX9 7 RX5 yX5_heightAt wsX5_heightAt) := goodIn_app (goodIn_of _ (by decide +kernel)) ggX9_lengthOf_X5_heightAt
set_option maxRecDepth 20000 in
theorem ggX9_lengthOf_X9_excess : GoodIn wsX9_lengthOf wsX9_excess := goodIn_r _ [12, 13, 14, 15, 16, 17, 1, 2, 3, 4, 5, 6, 7, 8, 18, 19, 20, 21, 22, 23, 24, 25, 26, 27] (by decide +kernel) (by decide +kernel)
set_option maxRecDepth 20000 in
theorem gX9_lengthOf_X9_excess : GoodIn wsX9_lengthOf (va_wsS RX9 22 yX9_excess wsX9_excess) := goodIn_app (goodIn_of _ (by decide +kernel)) ggX9_lengthOf_X9_excess
theorem dX9_lengthOf_0 : decode cX9_lengthOf 0 = .ok (.iload_n 3, 1) := by decide +kernel
theorem dX9_lengthOf_1 : decode cX9_lengthOf 1 = .ok (.aload_n 0, 1) := by decide +kernel
theorem dX9_lengthOf_2 : decode cX9_lengthOf 2 = .ok (.iload_n 1, 1) := by decide +kernel
theorem dX9_lengthOf_3 : decode cX9_lengthOf 3 = .ok (.iload_n 2, 1) := by decide +kernel
theorem dX9_lengthOf_4 : decode cX9_lengthOf 4 = .ok (.invokevirtual 7, 3) := by decide +kernel
theorem dX9_lengthOf_7 : decode cX9_lengthOf 7 = .ok (.aload_n 0, 1) := by decide +kernel
theorem dX9_lengthOf_8 : decode cX9_lengthOf 8 = .ok (.iload_n 1, 1) := by decide +kernel
theorem dX9_lengthOf_9 : decode cX9_lengthOf 9 = .ok (.iload_n 2, 1) := by decide +kernel
theorem dX9_lengthOf_10 : decode cX9_lengthOf 10 = .ok (.invokestatic 22, 3) := by decide +kernel
theorem dX9_lengthOf_13 : decode cX9_lengthOf 13 = .ok (.isub, 1) := by decide +kernel
theorem dX9_lengthOf_14 : decode cX9_lengthOf 14 = .ok (.if_icmp .gt 5, 3) := by decide +kernel
theorem dX9_lengthOf_17 : decode cX9_lengthOf 17 = .ok (.iconst 0, 1) := by decide +kernel
theorem dX9_lengthOf_18 : decode cX9_lengthOf 18 = .ok (.ireturn, 1) := by decide +kernel
theorem dX9_lengthOf_19 : decode cX9_lengthOf 19 = .ok (.iconst 0, 1) := by decide +kernel
theorem dX9_lengthOf_20 : decode cX9_lengthOf 20 = .ok (.istore 4, 2) := by decide +kernel
theorem dX9_lengthOf_22 : decode cX9_lengthOf 22 = .ok (.iload_n 2, 1) := by decide +kernel
theorem dX9_lengthOf_23 : decode cX9_lengthOf 23 = .ok (.iconst 1, 1) := by decide +kernel
theorem dX9_lengthOf_24 : decode cX9_lengthOf 24 = .ok (.isub, 1) := by decide +kernel
theorem dX9_lengthOf_25 : decode cX9_lengthOf 25 = .ok (.istore 5, 2) := by decide +kernel
theorem dX9_lengthOf_27 : decode cX9_lengthOf 27 = .ok (.iload 5, 2) := by decide +kernel
theorem dX9_lengthOf_29 : decode cX9_lengthOf 29 = .ok (.ifCond .lt 23, 3) := by decide +kernel
theorem dX9_lengthOf_32 : decode cX9_lengthOf 32 = .ok (.aload_n 0, 1) := by decide +kernel
theorem dX9_lengthOf_33 : decode cX9_lengthOf 33 = .ok (.iload_n 1, 1) := by decide +kernel
theorem dX9_lengthOf_34 : decode cX9_lengthOf 34 = .ok (.iload 5, 2) := by decide +kernel
theorem dX9_lengthOf_36 : decode cX9_lengthOf 36 = .ok (.invokevirtual 7, 3) := by decide +kernel
theorem dX9_lengthOf_39 : decode cX9_lengthOf 39 = .ok (.iload_n 3, 1) := by decide +kernel
theorem dX9_lengthOf_40 : decode cX9_lengthOf 40 = .ok (.if_icmp .ge 12, 3) := by decide +kernel
theorem dX9_lengthOf_43 : decode cX9_lengthOf 43 = .ok (.iinc 4 1, 3) := by decide +kernel
theorem dX9_lengthOf_46 : decode cX9_lengthOf 46 = .ok (.iinc 5 (-1), 3) := by decide +kernel
theorem dX9_lengthOf_49 : decode cX9_lengthOf 49 = .ok (.goto (-22), 3) := by decide +kernel
theorem dX9_lengthOf_52 : decode cX9_lengthOf 52 = .ok (.iload 4, 2) := by decide +kernel
theorem dX9_lengthOf_54 : decode cX9_lengthOf 54 = .ok (.ireturn, 1) := by decide +kernel
set_option maxRecDepth 20000 in
theorem ggX9_countOfCells_X9_excess : GoodIn wsX9_countOfCells wsX9_excess := goodIn_r _ [6, 7, 8, 9, 10, 11, 12, 13, 14, 15, 16, 17, 18, 19, 20, 21, 22, 23, 24, 25, 26, 27, 28, 29] (by decide +kernel) (by decide +kernel)
set_option maxRecDepth 20000 in
theorem gX9_countOfCells_X9_excess : GoodIn wsX9_countOfCells (va_wsS RX9 22 yX9_excess wsX9_excess) := goodIn_app (goodIn_of _ (by decide +kernel)) ggX9_countOfCells_X9_excess
theorem dX9_countOfCells_0 : decode cX9_countOfCells 0 = .ok (.iconst 0, 1) := by decide +kernel
theorem dX9_countOfCells_1 : decode cX9_countOfCells 1 = .ok (.istore_n 1, 1) := by decide +kernel
theorem dX9_countOfCells_2 : decode cX9_countOfCells 2 = .ok (.iconst 1, 1) := by decide +kernel
theorem dX9_countOfCells_3 : decode cX9_countOfCells 3 = .ok (.istore_n 2, 1) := by decide +kernel
theorem dX9_countOfCells_4 : decode cX9_countOfCells 4 = .ok (.iload_n 2, 1) := by decide +kernel
theorem dX9_countOfCells_5 : decode cX9_countOfCells 5 = .ok (.aload_n 0, 1) := by decide +kernel
theorem dX9_countOfCells_6 : decode cX9_countOfCells 6 = .ok (.getfield 28, 3) := by decide +kernel
theorem dX9_countOfCells_9 : decode cX9_countOfCells 9 = .ok (.if_icmp .ge 42, 3) := by decide +kernel
theorem dX9_countOfCells_12 : decode cX9_countOfCells 12 = .ok (.iconst 0, 1) := by decide +kernel
theorem dX9_countOfCells_13 : decode cX9_countOfCells 13 = .ok (.istore_n 3, 1) := by decide +kernel
theorem dX9_countOfCells_14 : decode cX9_countOfCells 14 = .ok (.iload_n 3, 1) := by decide +kernel
theorem dX9_countOfCells_15 : decode cX9_countOfCells 15 = .ok (.aload_n 0, 1) := by decide +kernel
theorem dX9_countOfCells_16 : decode cX9_countOfCells 16 = .ok (.getfield 31, 3) := by decide +kernel
theorem dX9_countOfCells_19 : decode cX9_countOfCells 19 = .ok (.if_icmp .ge 26, 3) := by decide +kernel
theorem dX9_countOfCells_22 : decode cX9_countOfCells 22 = .ok (.iload_n 1, 1) := by decide +kernel
theorem dX9_countOfCells_23 : decode cX9_countOfCells 23 = .ok (.aload_n 0, 1) := by decide +kernel
theorem dX9_countOfCells_24 : decode cX9_countOfCells 24 = .ok (.iload_n 3, 1) := by decide +kernel
theorem dX9_countOfCells_25 : decode cX9_countOfCells 25 = .ok (.iload_n 2, 1) := by decide +kernel
theorem dX9_countOfCells_26 : decode cX9_countOfCells 26 = .ok (.invokestatic 22, 3) := by decide +kernel
theorem dX9_countOfCells_29 : decode cX9_countOfCells 29 = .ok (.ifCond .le 7, 3) := by decide +kernel
theorem dX9_countOfCells_32 : decode cX9_countOfCells 32 = .ok (.iconst 1, 1) := by decide +kernel
theorem dX9_countOfCells_33 : decode cX9_countOfCells 33 = .ok (.goto 4, 3) := by decide +kernel
theorem dX9_countOfCells_36 : decode cX9_countOfCells 36 = .ok (.iconst 0, 1) := by decide +kernel
theorem dX9_countOfCells_37 : decode cX9_countOfCells 37 = .ok (.iadd, 1) := by decide +kernel
theorem dX9_countOfCells_38 : decode cX9_countOfCells 38 = .ok (.istore_n 1, 1) := by decide +kernel
theorem dX9_countOfCells_39 : decode cX9_countOfCells 39 = .ok (.iinc 3 1, 3) := by decide +kernel
theorem dX9_countOfCells_42 : decode cX9_countOfCells 42 = .ok (.goto (-28), 3) := by decide +kernel
theorem dX9_countOfCells_45 : decode cX9_countOfCells 45 = .ok (.iinc 2 1, 3) := by decide +kernel
theorem dX9_countOfCells_48 : decode cX9_countOfCells 48 = .ok (.goto (-44), 3) := by decide +kernel
theorem dX9_countOfCells_51 : decode cX9_countOfCells 51 = .ok (.iload_n 1, 1) := by decide +kernel
theorem dX9_countOfCells_52 : decode cX9_countOfCells 52 = .ok (.ireturn, 1) := by decide +kernel
set_option maxRecDepth 20000 in
theorem ggX9_sumOfLengths_X9_sumOfCell : GoodIn wsX9_sumOfLengths wsX9_sumOfCell := goodIn_r _ [6, 7, 8, 9, 10, 11, 12, 13, 14, 15, 16, 5, 17, 18, 19, 20, 21, 22, 23, 24, 25, 26, 27, 28, 29, 30, 31, 32, 33, 34, 35] (by decide +kernel) (by decide +kernel)
set_option maxRecDepth 20000 in
theorem gX9_sumOfLengths_X9_sumOfCell : GoodIn wsX9_sumOfLengths (va_wsS RX9 34 yX9_sumOfCell wsX9_sumOfCell) := goodIn_app (goodIn_of _ (by decide +kernel)) ggX9_sumOfLengths_X9_sumOfCell
theorem dX9_sumOfLengths_0 : decode cX9_sumOfLengths 0 = .ok (.iconst 0, 1) := by decide +kernel
theorem dX9_sumOfLengths_1 : decode cX9_sumOfLengths 1 = .ok (.istore_n 1, 1) := by decide +kernel
theorem dX9_sumOfLengths_2 : decode cX9_sumOfLengths 2 = .ok (.iconst 1, 1) := by decide +kernel
theorem dX9_sumOfLengths_3 : decode cX9_sumOfLengths 3 = .ok (.istore_n 2, 1) := by decide +kernel
theorem dX9_sumOfLengths_4 : decode cX9_sumOfLengths 4 = .ok (.iload_n 2, 1) := by decide +kernel
theorem dX9_sumOfLengths_5 : decode cX9_sumOfLengths 5 = .ok (.aload_n 0, 1) := by decide +kernel
theorem dX9_sumOfLengths_6 : decode cX9_sumOfLengths 6 = .ok (.getfield 28, 3) := by decide +kernel
theorem dX9_sumOfLengths_9 : decode cX9_sumOfLengths 9 = .ok (.if_icmp .ge 34, 3) := by decide +kernel
theorem dX9_sumOfLengths_12 : decode cX9_sumOfLengths 12 = .ok (.iconst 0, 1) := by decide +kernel
theorem dX9_sumOfLengths_13 : decode cX9_sumOfLengths 13 = .ok (.istore_n 3, 1) := by decide +kernel
theorem dX9_sumOfLengths_14 : decode cX9_sumOfLengths 14 = .ok (.iload_n 3, 1) := by decide +kernel
theorem dX9_sumOfLengths_15 : decode cX9_sumOfLengths 15 = .ok (.aload_n 0, 1) := by decide +kernel
theorem dX9_sumOfLengths_16 : decode cX9_sumOfLengths 16 = .ok (.getfield 31, 3) := by decide +kernel
theorem dX9_sumOfLengths_19 : decode cX9_sumOfLengths 19 = .ok (.if_icmp .ge 18, 3) := by decide +kernel
theorem dX9_sumOfLengths_22 : decode cX9_sumOfLengths 22 = .ok (.iload_n 1, 1) := by decide +kernel
theorem dX9_sumOfLengths_23 : decode cX9_sumOfLengths 23 = .ok (.aload_n 0, 1) := by decide +kernel
theorem dX9_sumOfLengths_24 : decode cX9_sumOfLengths 24 = .ok (.iload_n 3, 1) := by decide +kernel
theorem dX9_sumOfLengths_25 : decode cX9_sumOfLengths 25 = .ok (.iload_n 2, 1) := by decide +kernel
theorem dX9_sumOfLengths_26 : decode cX9_sumOfLengths 26 = .ok (.invokestatic 34, 3) := by decide +kernel
theorem dX9_sumOfLengths_29 : decode cX9_sumOfLengths 29 = .ok (.iadd, 1) := by decide +kernel
theorem dX9_sumOfLengths_30 : decode cX9_sumOfLengths 30 = .ok (.istore_n 1, 1) := by decide +kernel
theorem dX9_sumOfLengths_31 : decode cX9_sumOfLengths 31 = .ok (.iinc 3 1, 3) := by decide +kernel
theorem dX9_sumOfLengths_34 : decode cX9_sumOfLengths 34 = .ok (.goto (-20), 3) := by decide +kernel
theorem dX9_sumOfLengths_37 : decode cX9_sumOfLengths 37 = .ok (.iinc 2 1, 3) := by decide +kernel
theorem dX9_sumOfLengths_40 : decode cX9_sumOfLengths 40 = .ok (.goto (-36), 3) := by decide +kernel
theorem dX9_sumOfLengths_43 : decode cX9_sumOfLengths 43 = .ok (.iload_n 1, 1) := by decide +kernel
theorem dX9_sumOfLengths_44 : decode cX9_sumOfLengths 44 = .ok (.ireturn, 1) := by decide +kernel
set_option maxRecDepth 20000 in
theorem ggX9_sumOfCell_X5_heightAt : GoodIn wsX9_sumOfCell wsX5_heightAt := goodIn_r _ [5, 6, 7, 8, 21, 22, 23, 24, 25, 26, 27, 28, 29, 30] (by decide +kernel) (by decide +kernel)
set_option maxRecDepth 20000 in
theorem gX9_sumOfCell_X5_heightAt : GoodIn wsX9_sumOfCell (wsV RX9 7 RX5 yX5_heightAt wsX5_heightAt) := goodIn_app (goodIn_of _ (by decide +kernel)) ggX9_sumOfCell_X5_heightAt
set_option maxRecDepth 20000 in
theorem ggX9_sumOfCell_X9_excess : GoodIn wsX9_sumOfCell wsX9_excess := goodIn_r _ [12, 13, 14, 15, 16, 17, 1, 2, 3, 4, 5, 6, 7, 8, 21, 22, 23, 24, 25, 26, 27, 28, 29, 30] (by decide +kernel) (by decide +kernel)
set_option maxRecDepth 20000 in
theorem gX9_sumOfCell_X9_excess : GoodIn wsX9_sumOfCell (va_wsS RX9 22 yX9_excess wsX9_excess) := goodIn_app (goodIn_of _ (by decide +kernel)) ggX9_sumOfCell_X9_excess
set_option maxRecDepth 20000 in
theorem ggX9_sumOfCell_X9_lengthOf : GoodIn wsX9_sumOfCell wsX9_lengthOf := goodIn_r _ [20, 1, 2, 3, 4, 5, 6, 7, 8, 9, 10, 11, 12, 13, 14, 15, 16, 17, 21, 22, 23, 24, 25, 26, 27, 28, 29, 30] (by decide +kernel) (by decide +kernel)
set_option maxRecDepth 20000 in
theorem gX9_sumOfCell_X9_lengthOf : GoodIn wsX9_sumOfCell (va_wsS RX9 37 yX9_lengthOf wsX9_lengthOf) := goodIn_app (goodIn_of _ (by decide +kernel)) ggX9_sumOfCell_X9_lengthOf
theorem dX9_sumOfCell_0 : decode cX9_sumOfCell 0 = .ok (.iconst 0, 1) := by decide +kernel
theorem dX9_sumOfCell_1 : decode cX9_sumOfCell 1 = .ok (.istore_n 3, 1) := by decide +kernel
theorem dX9_sumOfCell_2 : decode cX9_sumOfCell 2 = .ok (.aload_n 0, 1) := by decide +kernel
theorem dX9_sumOfCell_3 : decode cX9_sumOfCell 3 = .ok (.iload_n 1, 1) := by decide +kernel
theorem dX9_sumOfCell_4 : decode cX9_sumOfCell 4 = .ok (.iload_n 2, 1) := by decide +kernel
theorem dX9_sumOfCell_5 : decode cX9_sumOfCell 5 = .ok (.invokevirtual 7, 3) := by decide +kernel
theorem dX9_sumOfCell_8 : decode cX9_sumOfCell 8 = .ok (.istore 4, 2) := by decide +kernel
theorem dX9_sumOfCell_10 : decode cX9_sumOfCell 10 = .ok (.iload 4, 2) := by decide +kernel
theorem dX9_sumOfCell_12 : decode cX9_sumOfCell 12 = .ok (.aload_n 0, 1) := by decide +kernel
theorem dX9_sumOfCell_13 : decode cX9_sumOfCell 13 = .ok (.iload_n 1, 1) := by decide +kernel
theorem dX9_sumOfCell_14 : decode cX9_sumOfCell 14 = .ok (.iload_n 2, 1) := by decide +kernel
theorem dX9_sumOfCell_15 : decode cX9_sumOfCell 15 = .ok (.invokestatic 22, 3) := by decide +kernel
theorem dX9_sumOfCell_18 : decode cX9_sumOfCell 18 = .ok (.isub, 1) := by decide +kernel
theorem dX9_sumOfCell_19 : decode cX9_sumOfCell 19 = .ok (.iconst 1, 1) := by decide +kernel
theorem dX9_sumOfCell_20 : decode cX9_sumOfCell 20 = .ok (.iadd, 1) := by decide +kernel
theorem dX9_sumOfCell_21 : decode cX9_sumOfCell 21 = .ok (.istore 5, 2) := by decide +kernel
theorem dX9_sumOfCell_23 : decode cX9_sumOfCell 23 = .ok (.iload 5, 2) := by decide +kernel
theorem dX9_sumOfCell_25 : decode cX9_sumOfCell 25 = .ok (.iload 4, 2) := by decide +kernel
theorem dX9_sumOfCell_27 : decode cX9_sumOfCell 27 = .ok (.if_icmp .gt 20, 3) := by decide +kernel
theorem dX9_sumOfCell_30 : decode cX9_sumOfCell 30 = .ok (.iload_n 3, 1) := by decide +kernel
theorem dX9_sumOfCell_31 : decode cX9_sumOfCell 31 = .ok (.aload_n 0, 1) := by decide +kernel
theorem dX9_sumOfCell_32 : decode cX9_sumOfCell 32 = .ok (.iload_n 1, 1) := by decide +kernel
theorem dX9_sumOfCell_33 : decode cX9_sumOfCell 33 = .ok (.iload_n 2, 1) := by decide +kernel
theorem dX9_sumOfCell_34 : decode cX9_sumOfCell 34 = .ok (.iload 5, 2) := by decide +kernel
theorem dX9_sumOfCell_36 : decode cX9_sumOfCell 36 = .ok (.invokestatic 37, 3) := by decide +kernel
theorem dX9_sumOfCell_39 : decode cX9_sumOfCell 39 = .ok (.iadd, 1) := by decide +kernel
theorem dX9_sumOfCell_40 : decode cX9_sumOfCell 40 = .ok (.istore_n 3, 1) := by decide +kernel
theorem dX9_sumOfCell_41 : decode cX9_sumOfCell 41 = .ok (.iinc 5 1, 3) := by decide +kernel
theorem dX9_sumOfCell_44 : decode cX9_sumOfCell 44 = .ok (.goto (-21), 3) := by decide +kernel
theorem dX9_sumOfCell_47 : decode cX9_sumOfCell 47 = .ok (.iload_n 3, 1) := by decide +kernel
theorem dX9_sumOfCell_48 : decode cX9_sumOfCell 48 = .ok (.ireturn, 1) := by decide +kernel
set_option maxRecDepth 20000 in
theorem ggX9_settle_X5_heightAt : GoodIn wsX9_settle wsX5_heightAt := goodIn_r _ [7, 8, 9, 10, 28, 29, 30, 31, 32, 33, 34, 35, 36, 37] (by decide +kernel) (by decide +kernel)
set_option maxRecDepth 20000 in
theorem gX9_settle_X5_heightAt : GoodIn wsX9_settle (wsV RX9 7 RX5 yX5_heightAt wsX5_heightAt) := goodIn_app (goodIn_of _ (by decide +kernel)) ggX9_settle_X5_heightAt
set_option maxRecDepth 20000 in
theorem ggX9_settle_X9_excess : GoodIn wsX9_settle wsX9_excess := goodIn_r _ [14, 15, 16, 17, 18, 19, 3, 4, 5, 6, 7, 8, 9, 10, 28, 29, 30, 31, 32, 33, 34, 35, 36, 37] (by decide +kernel) (by decide +kernel)
set_option maxRecDepth 20000 in
theorem gX9_settle_X9_excess : GoodIn wsX9_settle (va_wsS RX9 22 yX9_excess wsX9_excess) := goodIn_app (goodIn_of _ (by decide +kernel)) ggX9_settle_X9_excess
set_option maxRecDepth 20000 in
theorem ggX9_settle_X5_build : GoodIn wsX9_settle wsX5_build := goodIn_r _ [23, 10, 24, 25, 26, 6, 27, 8, 9, 28, 29, 30, 31, 32, 33, 34, 35, 36, 37] (by decide +kernel) (by decide +kernel)
set_option maxRecDepth 20000 in
theorem gX9_settle_X5_build : GoodIn wsX9_settle (wsV RX9 41 RX5 yX5_build wsX5_build) := goodIn_app (goodIn_of _ (by decide +kernel)) ggX9_settle_X5_build
theorem dX9_settle_0 : decode cX9_settle 0 = .ok (.iconst 0, 1) := by decide +kernel
theorem dX9_settle_1 : decode cX9_settle 1 = .ok (.istore_n 1, 1) := by decide +kernel
theorem dX9_settle_2 : decode cX9_settle 2 = .ok (.iconst 1, 1) := by decide +kernel
theorem dX9_settle_3 : decode cX9_settle 3 = .ok (.istore_n 2, 1) := by decide +kernel
theorem dX9_settle_4 : decode cX9_settle 4 = .ok (.iload_n 2, 1) := by decide +kernel
theorem dX9_settle_5 : decode cX9_settle 5 = .ok (.aload_n 0, 1) := by decide +kernel
theorem dX9_settle_6 : decode cX9_settle 6 = .ok (.getfield 28, 3) := by decide +kernel
theorem dX9_settle_9 : decode cX9_settle 9 = .ok (.if_icmp .ge 47, 3) := by decide +kernel
theorem dX9_settle_12 : decode cX9_settle 12 = .ok (.iconst 0, 1) := by decide +kernel
theorem dX9_settle_13 : decode cX9_settle 13 = .ok (.istore_n 3, 1) := by decide +kernel
theorem dX9_settle_14 : decode cX9_settle 14 = .ok (.iload_n 3, 1) := by decide +kernel
theorem dX9_settle_15 : decode cX9_settle 15 = .ok (.aload_n 0, 1) := by decide +kernel
theorem dX9_settle_16 : decode cX9_settle 16 = .ok (.getfield 31, 3) := by decide +kernel
theorem dX9_settle_19 : decode cX9_settle 19 = .ok (.if_icmp .ge 31, 3) := by decide +kernel
theorem dX9_settle_22 : decode cX9_settle 22 = .ok (.iload_n 1, 1) := by decide +kernel
theorem dX9_settle_23 : decode cX9_settle 23 = .ok (.aload_n 0, 1) := by decide +kernel
theorem dX9_settle_24 : decode cX9_settle 24 = .ok (.iload_n 3, 1) := by decide +kernel
theorem dX9_settle_25 : decode cX9_settle 25 = .ok (.iload_n 2, 1) := by decide +kernel
theorem dX9_settle_26 : decode cX9_settle 26 = .ok (.aload_n 0, 1) := by decide +kernel
theorem dX9_settle_27 : decode cX9_settle 27 = .ok (.iload_n 3, 1) := by decide +kernel
theorem dX9_settle_28 : decode cX9_settle 28 = .ok (.iload_n 2, 1) := by decide +kernel
theorem dX9_settle_29 : decode cX9_settle 29 = .ok (.invokevirtual 7, 3) := by decide +kernel
theorem dX9_settle_32 : decode cX9_settle 32 = .ok (.aload_n 0, 1) := by decide +kernel
theorem dX9_settle_33 : decode cX9_settle 33 = .ok (.iload_n 3, 1) := by decide +kernel
theorem dX9_settle_34 : decode cX9_settle 34 = .ok (.iload_n 2, 1) := by decide +kernel
theorem dX9_settle_35 : decode cX9_settle 35 = .ok (.invokestatic 22, 3) := by decide +kernel
theorem dX9_settle_38 : decode cX9_settle 38 = .ok (.isub, 1) := by decide +kernel
theorem dX9_settle_39 : decode cX9_settle 39 = .ok (.invokevirtual 41, 3) := by decide +kernel
theorem dX9_settle_42 : decode cX9_settle 42 = .ok (.iadd, 1) := by decide +kernel
theorem dX9_settle_43 : decode cX9_settle 43 = .ok (.istore_n 1, 1) := by decide +kernel
theorem dX9_settle_44 : decode cX9_settle 44 = .ok (.iinc 3 1, 3) := by decide +kernel
theorem dX9_settle_47 : decode cX9_settle 47 = .ok (.goto (-33), 3) := by decide +kernel
theorem dX9_settle_50 : decode cX9_settle 50 = .ok (.iinc 2 1, 3) := by decide +kernel
theorem dX9_settle_53 : decode cX9_settle 53 = .ok (.goto (-49), 3) := by decide +kernel
theorem dX9_settle_56 : decode cX9_settle 56 = .ok (.iload_n 1, 1) := by decide +kernel
theorem dX9_settle_57 : decode cX9_settle 57 = .ok (.ireturn, 1) := by decide +kernel
set_option maxRecDepth 20000 in
theorem ggX9_leastSlope_X5_heightAt : GoodIn wsX9_leastSlope wsX5_heightAt := goodIn_r _ [11, 12, 13, 14, 15, 16, 17, 18, 19, 20, 21, 22, 23, 24] (by decide +kernel) (by decide +kernel)
set_option maxRecDepth 20000 in
theorem gX9_leastSlope_X5_heightAt : GoodIn wsX9_leastSlope (wsV RX9 7 RX5 yX5_heightAt wsX5_heightAt) := goodIn_app (goodIn_of _ (by decide +kernel)) ggX9_leastSlope_X5_heightAt
theorem dX9_leastSlope_0 : decode cX9_leastSlope 0 = .ok (.iconst 0, 1) := by decide +kernel
theorem dX9_leastSlope_1 : decode cX9_leastSlope 1 = .ok (.istore_n 1, 1) := by decide +kernel
theorem dX9_leastSlope_2 : decode cX9_leastSlope 2 = .ok (.iconst 1, 1) := by decide +kernel
theorem dX9_leastSlope_3 : decode cX9_leastSlope 3 = .ok (.istore_n 2, 1) := by decide +kernel
theorem dX9_leastSlope_4 : decode cX9_leastSlope 4 = .ok (.iload_n 2, 1) := by decide +kernel
theorem dX9_leastSlope_5 : decode cX9_leastSlope 5 = .ok (.aload_n 0, 1) := by decide +kernel
theorem dX9_leastSlope_6 : decode cX9_leastSlope 6 = .ok (.getfield 28, 3) := by decide +kernel
theorem dX9_leastSlope_9 : decode cX9_leastSlope 9 = .ok (.if_icmp .ge 45, 3) := by decide +kernel
theorem dX9_leastSlope_12 : decode cX9_leastSlope 12 = .ok (.iconst 0, 1) := by decide +kernel
theorem dX9_leastSlope_13 : decode cX9_leastSlope 13 = .ok (.istore_n 3, 1) := by decide +kernel
theorem dX9_leastSlope_14 : decode cX9_leastSlope 14 = .ok (.iload_n 3, 1) := by decide +kernel
theorem dX9_leastSlope_15 : decode cX9_leastSlope 15 = .ok (.aload_n 0, 1) := by decide +kernel
theorem dX9_leastSlope_16 : decode cX9_leastSlope 16 = .ok (.getfield 31, 3) := by decide +kernel
theorem dX9_leastSlope_19 : decode cX9_leastSlope 19 = .ok (.if_icmp .ge 29, 3) := by decide +kernel
theorem dX9_leastSlope_22 : decode cX9_leastSlope 22 = .ok (.iload_n 1, 1) := by decide +kernel
theorem dX9_leastSlope_23 : decode cX9_leastSlope 23 = .ok (.aload_n 0, 1) := by decide +kernel
theorem dX9_leastSlope_24 : decode cX9_leastSlope 24 = .ok (.iload_n 3, 1) := by decide +kernel
theorem dX9_leastSlope_25 : decode cX9_leastSlope 25 = .ok (.iload_n 2, 1) := by decide +kernel
theorem dX9_leastSlope_26 : decode cX9_leastSlope 26 = .ok (.invokevirtual 7, 3) := by decide +kernel
theorem dX9_leastSlope_29 : decode cX9_leastSlope 29 = .ok (.aload_n 0, 1) := by decide +kernel
theorem dX9_leastSlope_30 : decode cX9_leastSlope 30 = .ok (.iload_n 3, 1) := by decide +kernel
theorem dX9_leastSlope_31 : decode cX9_leastSlope 31 = .ok (.iload_n 2, 1) := by decide +kernel
theorem dX9_leastSlope_32 : decode cX9_leastSlope 32 = .ok (.iconst 1, 1) := by decide +kernel
theorem dX9_leastSlope_33 : decode cX9_leastSlope 33 = .ok (.isub, 1) := by decide +kernel
theorem dX9_leastSlope_34 : decode cX9_leastSlope 34 = .ok (.invokevirtual 7, 3) := by decide +kernel
theorem dX9_leastSlope_37 : decode cX9_leastSlope 37 = .ok (.isub, 1) := by decide +kernel
theorem dX9_leastSlope_38 : decode cX9_leastSlope 38 = .ok (.invokestatic 17, 3) := by decide +kernel
theorem dX9_leastSlope_41 : decode cX9_leastSlope 41 = .ok (.istore_n 1, 1) := by decide +kernel
theorem dX9_leastSlope_42 : decode cX9_leastSlope 42 = .ok (.iinc 3 1, 3) := by decide +kernel
theorem dX9_leastSlope_45 : decode cX9_leastSlope 45 = .ok (.goto (-31), 3) := by decide +kernel
theorem dX9_leastSlope_48 : decode cX9_leastSlope 48 = .ok (.iinc 2 1, 3) := by decide +kernel
theorem dX9_leastSlope_51 : decode cX9_leastSlope 51 = .ok (.goto (-47), 3) := by decide +kernel
theorem dX9_leastSlope_54 : decode cX9_leastSlope 54 = .ok (.iload_n 1, 1) := by decide +kernel
theorem dX9_leastSlope_55 : decode cX9_leastSlope 55 = .ok (.ireturn, 1) := by decide +kernel
theorem dX10_init_0 : decode cX10_init 0 = .ok (.aload_n 0, 1) := by decide +kernel
theorem dX10_init_1 : decode cX10_init 1 = .ok (.invokespecial 3, 3) := by decide +kernel
theorem dX10_init_4 : decode cX10_init 4 = .ok (.aload_n 0, 1) := by decide +kernel
theorem dX10_init_5 : decode cX10_init 5 = .ok (.sipush 900, 3) := by decide +kernel
theorem dX10_init_8 : decode cX10_init 8 = .ok (.newarray .byte, 2) := by decide +kernel
theorem dX10_init_10 : decode cX10_init 10 = .ok (.putfield 11, 3) := by decide +kernel
theorem dX10_init_13 : decode cX10_init 13 = .ok (.aload_n 0, 1) := by decide +kernel
theorem dX10_init_14 : decode cX10_init 14 = .ok (.sipush 900, 3) := by decide +kernel
theorem dX10_init_17 : decode cX10_init 17 = .ok (.newarray .int, 2) := by decide +kernel
theorem dX10_init_19 : decode cX10_init 19 = .ok (.putfield 15, 3) := by decide +kernel
theorem dX10_init_22 : decode cX10_init 22 = .ok (.aload_n 0, 1) := by decide +kernel
theorem dX10_init_23 : decode cX10_init 23 = .ok (.sipush 900, 3) := by decide +kernel
theorem dX10_init_26 : decode cX10_init 26 = .ok (.newarray .int, 2) := by decide +kernel
theorem dX10_init_28 : decode cX10_init 28 = .ok (.putfield 19, 3) := by decide +kernel
theorem dX10_init_31 : decode cX10_init 31 = .ok (.aload_n 0, 1) := by decide +kernel
theorem dX10_init_32 : decode cX10_init 32 = .ok (.sipush 900, 3) := by decide +kernel
theorem dX10_init_35 : decode cX10_init 35 = .ok (.newarray .int, 2) := by decide +kernel
theorem dX10_init_37 : decode cX10_init 37 = .ok (.putfield 22, 3) := by decide +kernel
theorem dX10_init_40 : decode cX10_init 40 = .ok (.return_, 1) := by decide +kernel
theorem dX10_hasRoomFor_0 : decode cX10_hasRoomFor 0 = .ok (.aload_n 0, 1) := by decide +kernel
theorem dX10_hasRoomFor_1 : decode cX10_hasRoomFor 1 = .ok (.getfield 25, 3) := by decide +kernel
theorem dX10_hasRoomFor_4 : decode cX10_hasRoomFor 4 = .ok (.iload_n 1, 1) := by decide +kernel
theorem dX10_hasRoomFor_5 : decode cX10_hasRoomFor 5 = .ok (.iadd, 1) := by decide +kernel
theorem dX10_hasRoomFor_6 : decode cX10_hasRoomFor 6 = .ok (.sipush 900, 3) := by decide +kernel
theorem dX10_hasRoomFor_9 : decode cX10_hasRoomFor 9 = .ok (.if_icmp .gt 7, 3) := by decide +kernel
theorem dX10_hasRoomFor_12 : decode cX10_hasRoomFor 12 = .ok (.iconst 1, 1) := by decide +kernel
theorem dX10_hasRoomFor_13 : decode cX10_hasRoomFor 13 = .ok (.goto 4, 3) := by decide +kernel
theorem dX10_hasRoomFor_16 : decode cX10_hasRoomFor 16 = .ok (.iconst 0, 1) := by decide +kernel
theorem dX10_hasRoomFor_17 : decode cX10_hasRoomFor 17 = .ok (.ireturn, 1) := by decide +kernel
set_option maxRecDepth 20000 in
theorem ggX10_append_X10_appendByte : GoodIn wsX10_append wsX10_appendByte := goodIn_r _ [5, 6, 7, 8, 9, 10, 11, 12, 13, 14, 15, 16, 17, 18] (by decide +kernel) (by decide +kernel)
set_option maxRecDepth 20000 in
theorem gX10_append_X10_appendByte : GoodIn wsX10_append (wsV RX10 29 RX10 yX10_appendByte wsX10_appendByte) := goodIn_app (goodIn_of _ (by decide +kernel)) ggX10_append_X10_appendByte
theorem dX10_append_0 : decode cX10_append 0 = .ok (.aload_n 0, 1) := by decide +kernel
theorem dX10_append_1 : decode cX10_append 1 = .ok (.iload_n 1, 1) := by decide +kernel
theorem dX10_append_2 : decode cX10_append 2 = .ok (.bipush 24, 2) := by decide +kernel
theorem dX10_append_4 : decode cX10_append 4 = .ok (.iushr, 1) := by decide +kernel
theorem dX10_append_5 : decode cX10_append 5 = .ok (.invokevirtual 29, 3) := by decide +kernel
theorem dX10_append_8 : decode cX10_append 8 = .ok (.aload_n 0, 1) := by decide +kernel
theorem dX10_append_9 : decode cX10_append 9 = .ok (.iload_n 1, 1) := by decide +kernel
theorem dX10_append_10 : decode cX10_append 10 = .ok (.bipush 16, 2) := by decide +kernel
theorem dX10_append_12 : decode cX10_append 12 = .ok (.iushr, 1) := by decide +kernel
theorem dX10_append_13 : decode cX10_append 13 = .ok (.invokevirtual 29, 3) := by decide +kernel
theorem dX10_append_16 : decode cX10_append 16 = .ok (.aload_n 0, 1) := by decide +kernel
theorem dX10_append_17 : decode cX10_append 17 = .ok (.iload_n 1, 1) := by decide +kernel
theorem dX10_append_18 : decode cX10_append 18 = .ok (.bipush 8, 2) := by decide +kernel
theorem dX10_append_20 : decode cX10_append 20 = .ok (.iushr, 1) := by decide +kernel
theorem dX10_append_21 : decode cX10_append 21 = .ok (.invokevirtual 29, 3) := by decide +kernel
theorem dX10_append_24 : decode cX10_append 24 = .ok (.aload_n 0, 1) := by decide +kernel
theorem dX10_append_25 : decode cX10_append 25 = .ok (.iload_n 1, 1) := by decide +kernel
theorem dX10_append_26 : decode cX10_append 26 = .ok (.invokevirtual 29, 3) := by decide +kernel
theorem dX10_append_29 : decode cX10_append 29 = .ok (.return_, 1) := by decide +kernel
theorem dX10_appendByte_0 : decode cX10_appendByte 0 = .ok (.aload_n 0, 1) := by decide +kernel
theorem dX10_appendByte_1 : decode cX10_appendByte 1 = .ok (.getfield 25, 3) := by decide +kernel
theorem dX10_appendByte_4 : decode cX10_appendByte 4 = .ok (.ifCond .lt 34, 3) := by decide +kernel
theorem dX10_appendByte_7 : decode cX10_appendByte 7 = .ok (.aload_n 0, 1) := by decide +kernel
theorem dX10_appendByte_8 : decode cX10_appendByte 8 = .ok (.getfield 25, 3) := by decide +kernel
theorem dX10_appendByte_11 : decode cX10_appendByte 11 = .ok (.sipush 900, 3) := by decide +kernel
theorem dX10_appendByte_14 : decode cX10_appendByte 14 = .ok (.if_icmp .ge 24, 3) := by decide +kernel
theorem dX10_appendByte_17 : decode cX10_appendByte 17 = .ok (.aload_n 0, 1) := by decide +kernel
theorem dX10_appendByte_18 : decode cX10_appendByte 18 = .ok (.getfield 11, 3) := by decide +kernel
theorem dX10_appendByte_21 : decode cX10_appendByte 21 = .ok (.aload_n 0, 1) := by decide +kernel
theorem dX10_appendByte_22 : decode cX10_appendByte 22 = .ok (.getfield 25, 3) := by decide +kernel
theorem dX10_appendByte_25 : decode cX10_appendByte 25 = .ok (.iload_n 1, 1) := by decide +kernel
theorem dX10_appendByte_26 : decode cX10_appendByte 26 = .ok (.i2b, 1) := by decide +kernel
theorem dX10_appendByte_27 : decode cX10_appendByte 27 = .ok (.bastore, 1) := by decide +kernel
theorem dX10_appendByte_28 : decode cX10_appendByte 28 = .ok (.aload_n 0, 1) := by decide +kernel
theorem dX10_appendByte_29 : decode cX10_appendByte 29 = .ok (.dup, 1) := by decide +kernel
theorem dX10_appendByte_30 : decode cX10_appendByte 30 = .ok (.getfield 25, 3) := by decide +kernel
theorem dX10_appendByte_33 : decode cX10_appendByte 33 = .ok (.iconst 1, 1) := by decide +kernel
theorem dX10_appendByte_34 : decode cX10_appendByte 34 = .ok (.iadd, 1) := by decide +kernel
theorem dX10_appendByte_35 : decode cX10_appendByte 35 = .ok (.putfield 25, 3) := by decide +kernel
theorem dX10_appendByte_38 : decode cX10_appendByte 38 = .ok (.return_, 1) := by decide +kernel
theorem dX10_byteAt_0 : decode cX10_byteAt 0 = .ok (.iload_n 1, 1) := by decide +kernel
theorem dX10_byteAt_1 : decode cX10_byteAt 1 = .ok (.ifCond .lt 27, 3) := by decide +kernel
theorem dX10_byteAt_4 : decode cX10_byteAt 4 = .ok (.iload_n 1, 1) := by decide +kernel
theorem dX10_byteAt_5 : decode cX10_byteAt 5 = .ok (.aload_n 0, 1) := by decide +kernel
theorem dX10_byteAt_6 : decode cX10_byteAt 6 = .ok (.getfield 25, 3) := by decide +kernel
theorem dX10_byteAt_9 : decode cX10_byteAt 9 = .ok (.if_icmp .ge 19, 3) := by decide +kernel
theorem dX10_byteAt_12 : decode cX10_byteAt 12 = .ok (.iload_n 1, 1) := by decide +kernel
theorem dX10_byteAt_13 : decode cX10_byteAt 13 = .ok (.sipush 900, 3) := by decide +kernel
theorem dX10_byteAt_16 : decode cX10_byteAt 16 = .ok (.if_icmp .ge 12, 3) := by decide +kernel
theorem dX10_byteAt_19 : decode cX10_byteAt 19 = .ok (.aload_n 0, 1) := by decide +kernel
theorem dX10_byteAt_20 : decode cX10_byteAt 20 = .ok (.getfield 11, 3) := by decide +kernel
theorem dX10_byteAt_23 : decode cX10_byteAt 23 = .ok (.iload_n 1, 1) := by decide +kernel
theorem dX10_byteAt_24 : decode cX10_byteAt 24 = .ok (.baload, 1) := by decide +kernel
theorem dX10_byteAt_25 : decode cX10_byteAt 25 = .ok (.goto 4, 3) := by decide +kernel
theorem dX10_byteAt_28 : decode cX10_byteAt 28 = .ok (.iconst (-1), 1) := by decide +kernel
theorem dX10_byteAt_29 : decode cX10_byteAt 29 = .ok (.ireturn, 1) := by decide +kernel
set_option maxRecDepth 20000 in
theorem ggX10_begin_X10_byteAt : GoodIn wsX10_begin wsX10_byteAt := goodIn_r _ [9, 3, 10, 32, 33, 34, 35, 36, 37, 38, 39, 40, 41, 42] (by decide +kernel) (by decide +kernel)
set_option maxRecDepth 20000 in
theorem gX10_begin_X10_byteAt : GoodIn wsX10_begin (wsV RX10 39 RX10 yX10_byteAt wsX10_byteAt) := goodIn_app (goodIn_of _ (by decide +kernel)) ggX10_begin_X10_byteAt
set_option maxRecDepth 20000 in
theorem ggX10_begin_X10_kindOf : GoodIn wsX10_begin wsX10_kindOf := goodIn_r _ [13] (by decide +kernel) (by decide +kernel)
set_option maxRecDepth 20000 in
theorem gX10_begin_X10_kindOf : GoodIn wsX10_begin (va_wsS RX10 43 yX10_kindOf wsX10_kindOf) := goodIn_app (goodIn_of _ (by decide +kernel)) ggX10_begin_X10_kindOf
set_option maxRecDepth 20000 in
theorem ggX10_begin_X10_lengthenToken : GoodIn wsX10_begin wsX10_lengthenToken := goodIn_r _ [17, 2, 18, 19, 32, 33, 34, 35, 36, 37, 38, 39, 40, 41, 42] (by decide +kernel) (by decide +kernel)
set_option maxRecDepth 20000 in
theorem gX10_begin_X10_lengthenToken : GoodIn wsX10_begin (wsV RX10 46 RX10 yX10_lengthenToken wsX10_lengthenToken) := goodIn_app (goodIn_of _ (by decide +kernel)) ggX10_begin_X10_lengthenToken
set_option maxRecDepth 20000 in
theorem ggX10_begin_X10_addToken : GoodIn wsX10_begin wsX10_addToken := goodIn_r _ [23, 2, 18, 24, 19, 32, 33, 34, 35, 36, 37, 38, 39, 40, 41, 42] (by decide +kernel) (by decide +kernel)
set_option maxRecDepth 20000 in
theorem gX10_begin_X10_addToken : GoodIn wsX10_begin (wsV RX10 49 RX10 yX10_addToken wsX10_addToken) := goodIn_app (goodIn_of _ (by decide +kernel)) ggX10_begin_X10_addToken
set_option maxRecDepth 20000 in
theorem ggX10_begin_X10_advance : GoodIn wsX10_begin wsX10_advance := goodIn_r _ [28, 4, 2, 18, 3, 29, 30, 31, 24, 19, 32, 33, 34, 35, 36, 37, 38, 39, 40, 41, 42] (by decide +kernel) (by decide +kernel)
set_option maxRecDepth 20000 in
theorem gX10_begin_X10_advance : GoodIn wsX10_begin (wsV RX10 56 RX10 yX10_advance wsX10_advance) := goodIn_app (goodIn_of _ (by decide +kernel)) ggX10_begin_X10_advance
theorem dX10_begin_0 : decode cX10_begin 0 = .ok (.aload_n 0, 1) := by decide +kernel
theorem dX10_begin_1 : decode cX10_begin 1 = .ok (.iconst 0, 1) := by decide +kernel
theorem dX10_begin_2 : decode cX10_begin 2 = .ok (.putfield 33, 3) := by decide +kernel
theorem dX10_begin_5 : decode cX10_begin 5 = .ok (.aload_n 0, 1) := by decide +kernel
theorem dX10_begin_6 : decode cX10_begin 6 = .ok (.iconst 0, 1) := by decide +kernel
theorem dX10_begin_7 : decode cX10_begin 7 = .ok (.putfield 36, 3) := by decide +kernel
theorem dX10_begin_10 : decode cX10_begin 10 = .ok (.iconst 4, 1) := by decide +kernel
theorem dX10_begin_11 : decode cX10_begin 11 = .ok (.istore_n 1, 1) := by decide +kernel
theorem dX10_begin_12 : decode cX10_begin 12 = .ok (.iconst 0, 1) := by decide +kernel
theorem dX10_begin_13 : decode cX10_begin 13 = .ok (.istore_n 2, 1) := by decide +kernel
theorem dX10_begin_14 : decode cX10_begin 14 = .ok (.iload_n 2, 1) := by decide +kernel
theorem dX10_begin_15 : decode cX10_begin 15 = .ok (.aload_n 0, 1) := by decide +kernel
theorem dX10_begin_16 : decode cX10_begin 16 = .ok (.getfield 25, 3) := by decide +kernel
theorem dX10_begin_19 : decode cX10_begin 19 = .ok (.if_icmp .ge 53, 3) := by decide +kernel
theorem dX10_begin_22 : decode cX10_begin 22 = .ok (.aload_n 0, 1) := by decide +kernel
theorem dX10_begin_23 : decode cX10_begin 23 = .ok (.iload_n 2, 1) := by decide +kernel
theorem dX10_begin_24 : decode cX10_begin 24 = .ok (.invokevirtual 39, 3) := by decide +kernel
theorem dX10_begin_27 : decode cX10_begin 27 = .ok (.invokestatic 43, 3) := by decide +kernel
theorem dX10_begin_30 : decode cX10_begin 30 = .ok (.istore_n 3, 1) := by decide +kernel
theorem dX10_begin_31 : decode cX10_begin 31 = .ok (.iload_n 3, 1) := by decide +kernel
theorem dX10_begin_32 : decode cX10_begin 32 = .ok (.iload_n 1, 1) := by decide +kernel
theorem dX10_begin_33 : decode cX10_begin 33 = .ok (.if_icmp .ne 20, 3) := by decide +kernel
theorem dX10_begin_36 : decode cX10_begin 36 = .ok (.iload_n 3, 1) := by decide +kernel
theorem dX10_begin_37 : decode cX10_begin 37 = .ok (.iconst 1, 1) := by decide +kernel
theorem dX10_begin_38 : decode cX10_begin 38 = .ok (.if_icmp .eq 8, 3) := by decide +kernel
theorem dX10_begin_41 : decode cX10_begin 41 = .ok (.iload_n 3, 1) := by decide +kernel
theorem dX10_begin_42 : decode cX10_begin 42 = .ok (.iconst 2, 1) := by decide +kernel
theorem dX10_begin_43 : decode cX10_begin 43 = .ok (.if_icmp .ne 10, 3) := by decide +kernel
theorem dX10_begin_46 : decode cX10_begin 46 = .ok (.aload_n 0, 1) := by decide +kernel
theorem dX10_begin_47 : decode cX10_begin 47 = .ok (.invokevirtual 46, 3) := by decide +kernel
theorem dX10_begin_50 : decode cX10_begin 50 = .ok (.goto 14, 3) := by decide +kernel
theorem dX10_begin_53 : decode cX10_begin 53 = .ok (.iload_n 3, 1) := by decide +kernel
theorem dX10_begin_54 : decode cX10_begin 54 = .ok (.iconst 4, 1) := by decide +kernel
theorem dX10_begin_55 : decode cX10_begin 55 = .ok (.if_icmp .eq 9, 3) := by decide +kernel
theorem dX10_begin_58 : decode cX10_begin 58 = .ok (.aload_n 0, 1) := by decide +kernel
theorem dX10_begin_59 : decode cX10_begin 59 = .ok (.iload_n 2, 1) := by decide +kernel
theorem dX10_begin_60 : decode cX10_begin 60 = .ok (.iload_n 3, 1) := by decide +kernel
theorem dX10_begin_61 : decode cX10_begin 61 = .ok (.invokevirtual 49, 3) := by decide +kernel
theorem dX10_begin_64 : decode cX10_begin 64 = .ok (.iload_n 3, 1) := by decide +kernel
theorem dX10_begin_65 : decode cX10_begin 65 = .ok (.istore_n 1, 1) := by decide +kernel
theorem dX10_begin_66 : decode cX10_begin 66 = .ok (.iinc 2 1, 3) := by decide +kernel
theorem dX10_begin_69 : decode cX10_begin 69 = .ok (.goto (-55), 3) := by decide +kernel
theorem dX10_begin_72 : decode cX10_begin 72 = .ok (.aload_n 0, 1) := by decide +kernel
theorem dX10_begin_73 : decode cX10_begin 73 = .ok (.iconst (-1), 1) := by decide +kernel
theorem dX10_begin_74 : decode cX10_begin 74 = .ok (.putfield 53, 3) := by decide +kernel
theorem dX10_begin_77 : decode cX10_begin 77 = .ok (.aload_n 0, 1) := by decide +kernel
theorem dX10_begin_78 : decode cX10_begin 78 = .ok (.invokevirtual 56, 3) := by decide +kernel
theorem dX10_begin_81 : decode cX10_begin 81 = .ok (.return_, 1) := by decide +kernel
theorem dX10_kindOf_0 : decode cX10_kindOf 0 = .ok (.iload_n 0, 1) := by decide +kernel
theorem dX10_kindOf_1 : decode cX10_kindOf 1 = .ok (.bipush 32, 2) := by decide +kernel
theorem dX10_kindOf_3 : decode cX10_kindOf 3 = .ok (.if_icmp .eq 9, 3) := by decide +kernel
theorem dX10_kindOf_6 : decode cX10_kindOf 6 = .ok (.iload_n 0, 1) := by decide +kernel
theorem dX10_kindOf_7 : decode cX10_kindOf 7 = .ok (.bipush 10, 2) := by decide +kernel
theorem dX10_kindOf_9 : decode cX10_kindOf 9 = .ok (.if_icmp .ne 5, 3) := by decide +kernel
theorem dX10_kindOf_12 : decode cX10_kindOf 12 = .ok (.iconst 4, 1) := by decide +kernel
theorem dX10_kindOf_13 : decode cX10_kindOf 13 = .ok (.ireturn, 1) := by decide +kernel
theorem dX10_kindOf_14 : decode cX10_kindOf 14 = .ok (.iload_n 0, 1) := by decide +kernel
theorem dX10_kindOf_15 : decode cX10_kindOf 15 = .ok (.bipush 97, 2) := by decide +kernel
theorem dX10_kindOf_17 : decode cX10_kindOf 17 = .ok (.if_icmp .lt 11, 3) := by decide +kernel
theorem dX10_kindOf_20 : decode cX10_kindOf 20 = .ok (.iload_n 0, 1) := by decide +kernel
theorem dX10_kindOf_21 : decode cX10_kindOf 21 = .ok (.bipush 122, 2) := by decide +kernel
theorem dX10_kindOf_23 : decode cX10_kindOf 23 = .ok (.if_icmp .gt 5, 3) := by decide +kernel
theorem dX10_kindOf_26 : decode cX10_kindOf 26 = .ok (.iconst 1, 1) := by decide +kernel
theorem dX10_kindOf_27 : decode cX10_kindOf 27 = .ok (.ireturn, 1) := by decide +kernel
theorem dX10_kindOf_28 : decode cX10_kindOf 28 = .ok (.iload_n 0, 1) := by decide +kernel
theorem dX10_kindOf_29 : decode cX10_kindOf 29 = .ok (.bipush 48, 2) := by decide +kernel
theorem dX10_kindOf_31 : decode cX10_kindOf 31 = .ok (.if_icmp .lt 11, 3) := by decide +kernel
theorem dX10_kindOf_34 : decode cX10_kindOf 34 = .ok (.iload_n 0, 1) := by decide +kernel
theorem dX10_kindOf_35 : decode cX10_kindOf 35 = .ok (.bipush 57, 2) := by decide +kernel
theorem dX10_kindOf_37 : decode cX10_kindOf 37 = .ok (.if_icmp .gt 5, 3) := by decide +kernel
theorem dX10_kindOf_40 : decode cX10_kindOf 40 = .ok (.iconst 2, 1) := by decide +kernel
theorem dX10_kindOf_41 : decode cX10_kindOf 41 = .ok (.ireturn, 1) := by decide +kernel
theorem dX10_kindOf_42 : decode cX10_kindOf 42 = .ok (.iload_n 0, 1) := by decide +kernel
theorem dX10_kindOf_43 : decode cX10_kindOf 43 = .ok (.bipush 59, 2) := by decide +kernel
theorem dX10_kindOf_45 : decode cX10_kindOf 45 = .ok (.if_icmp .eq 15, 3) := by decide +kernel
theorem dX10_kindOf_48 : decode cX10_kindOf 48 = .ok (.iload_n 0, 1) := by decide +kernel
theorem dX10_kindOf_49 : decode cX10_kindOf 49 = .ok (.bipush 40, 2) := by decide +kernel
theorem dX10_kindOf_51 : decode cX10_kindOf 51 = .ok (.if_icmp .eq 9, 3) := by decide +kernel
theorem dX10_kindOf_54 : decode cX10_kindOf 54 = .ok (.iload_n 0, 1) := by decide +kernel
theorem dX10_kindOf_55 : decode cX10_kindOf 55 = .ok (.bipush 41, 2) := by decide +kernel
theorem dX10_kindOf_57 : decode cX10_kindOf 57 = .ok (.if_icmp .ne 7, 3) := by decide +kernel
theorem dX10_kindOf_60 : decode cX10_kindOf 60 = .ok (.iconst 3, 1) := by decide +kernel
theorem dX10_kindOf_61 : decode cX10_kindOf 61 = .ok (.goto 4, 3) := by decide +kernel
theorem dX10_kindOf_64 : decode cX10_kindOf 64 = .ok (.iconst 5, 1) := by decide +kernel
theorem dX10_kindOf_65 : decode cX10_kindOf 65 = .ok (.ireturn, 1) := by decide +kernel
theorem dX10_addToken_0 : decode cX10_addToken 0 = .ok (.aload_n 0, 1) := by decide +kernel
theorem dX10_addToken_1 : decode cX10_addToken 1 = .ok (.getfield 36, 3) := by decide +kernel
theorem dX10_addToken_4 : decode cX10_addToken 4 = .ok (.ifCond .lt 55, 3) := by decide +kernel
theorem dX10_addToken_7 : decode cX10_addToken 7 = .ok (.aload_n 0, 1) := by decide +kernel
theorem dX10_addToken_8 : decode cX10_addToken 8 = .ok (.getfield 36, 3) := by decide +kernel
theorem dX10_addToken_11 : decode cX10_addToken 11 = .ok (.aload_n 0, 1) := by decide +kernel
theorem dX10_addToken_12 : decode cX10_addToken 12 = .ok (.getfield 22, 3) := by decide +kernel
theorem dX10_addToken_15 : decode cX10_addToken 15 = .ok (.arraylength, 1) := by decide +kernel
theorem dX10_addToken_16 : decode cX10_addToken 16 = .ok (.if_icmp .ge 43, 3) := by decide +kernel
theorem dX10_addToken_19 : decode cX10_addToken 19 = .ok (.aload_n 0, 1) := by decide +kernel
theorem dX10_addToken_20 : decode cX10_addToken 20 = .ok (.getfield 15, 3) := by decide +kernel
theorem dX10_addToken_23 : decode cX10_addToken 23 = .ok (.aload_n 0, 1) := by decide +kernel
theorem dX10_addToken_24 : decode cX10_addToken 24 = .ok (.getfield 36, 3) := by decide +kernel
theorem dX10_addToken_27 : decode cX10_addToken 27 = .ok (.iload_n 1, 1) := by decide +kernel
theorem dX10_addToken_28 : decode cX10_addToken 28 = .ok (.iastore, 1) := by decide +kernel
theorem dX10_addToken_29 : decode cX10_addToken 29 = .ok (.aload_n 0, 1) := by decide +kernel
theorem dX10_addToken_30 : decode cX10_addToken 30 = .ok (.getfield 19, 3) := by decide +kernel
theorem dX10_addToken_33 : decode cX10_addToken 33 = .ok (.aload_n 0, 1) := by decide +kernel
theorem dX10_addToken_34 : decode cX10_addToken 34 = .ok (.getfield 36, 3) := by decide +kernel
theorem dX10_addToken_37 : decode cX10_addToken 37 = .ok (.iconst 1, 1) := by decide +kernel
theorem dX10_addToken_38 : decode cX10_addToken 38 = .ok (.iastore, 1) := by decide +kernel
theorem dX10_addToken_39 : decode cX10_addToken 39 = .ok (.aload_n 0, 1) := by decide +kernel
theorem dX10_addToken_40 : decode cX10_addToken 40 = .ok (.getfield 22, 3) := by decide +kernel
theorem dX10_addToken_43 : decode cX10_addToken 43 = .ok (.aload_n 0, 1) := by decide +kernel
theorem dX10_addToken_44 : decode cX10_addToken 44 = .ok (.getfield 36, 3) := by decide +kernel
theorem dX10_addToken_47 : decode cX10_addToken 47 = .ok (.iload_n 2, 1) := by decide +kernel
theorem dX10_addToken_48 : decode cX10_addToken 48 = .ok (.iastore, 1) := by decide +kernel
theorem dX10_addToken_49 : decode cX10_addToken 49 = .ok (.aload_n 0, 1) := by decide +kernel
theorem dX10_addToken_50 : decode cX10_addToken 50 = .ok (.dup, 1) := by decide +kernel
theorem dX10_addToken_51 : decode cX10_addToken 51 = .ok (.getfield 36, 3) := by decide +kernel
theorem dX10_addToken_54 : decode cX10_addToken 54 = .ok (.iconst 1, 1) := by decide +kernel
theorem dX10_addToken_55 : decode cX10_addToken 55 = .ok (.iadd, 1) := by decide +kernel
theorem dX10_addToken_56 : decode cX10_addToken 56 = .ok (.putfield 36, 3) := by decide +kernel
theorem dX10_addToken_59 : decode cX10_addToken 59 = .ok (.return_, 1) := by decide +kernel
theorem dX10_lengthenToken_0 : decode cX10_lengthenToken 0 = .ok (.aload_n 0, 1) := by decide +kernel
theorem dX10_lengthenToken_1 : decode cX10_lengthenToken 1 = .ok (.getfield 36, 3) := by decide +kernel
theorem dX10_lengthenToken_4 : decode cX10_lengthenToken 4 = .ok (.iconst 1, 1) := by decide +kernel
theorem dX10_lengthenToken_5 : decode cX10_lengthenToken 5 = .ok (.isub, 1) := by decide +kernel
theorem dX10_lengthenToken_6 : decode cX10_lengthenToken 6 = .ok (.istore_n 1, 1) := by decide +kernel
theorem dX10_lengthenToken_7 : decode cX10_lengthenToken 7 = .ok (.iload_n 1, 1) := by decide +kernel
theorem dX10_lengthenToken_8 : decode cX10_lengthenToken 8 = .ok (.ifCond .lt 22, 3) := by decide +kernel
theorem dX10_lengthenToken_11 : decode cX10_lengthenToken 11 = .ok (.iload_n 1, 1) := by decide +kernel
theorem dX10_lengthenToken_12 : decode cX10_lengthenToken 12 = .ok (.aload_n 0, 1) := by decide +kernel
theorem dX10_lengthenToken_13 : decode cX10_lengthenToken 13 = .ok (.getfield 22, 3) := by decide +kernel
theorem dX10_lengthenToken_16 : decode cX10_lengthenToken 16 = .ok (.arraylength, 1) := by decide +kernel
theorem dX10_lengthenToken_17 : decode cX10_lengthenToken 17 = .ok (.if_icmp .ge 13, 3) := by decide +kernel
theorem dX10_lengthenToken_20 : decode cX10_lengthenToken 20 = .ok (.aload_n 0, 1) := by decide +kernel
theorem dX10_lengthenToken_21 : decode cX10_lengthenToken 21 = .ok (.getfield 19, 3) := by decide +kernel
theorem dX10_lengthenToken_24 : decode cX10_lengthenToken 24 = .ok (.iload_n 1, 1) := by decide +kernel
theorem dX10_lengthenToken_25 : decode cX10_lengthenToken 25 = .ok (.dup2, 1) := by decide +kernel
theorem dX10_lengthenToken_26 : decode cX10_lengthenToken 26 = .ok (.iaload, 1) := by decide +kernel
theorem dX10_lengthenToken_27 : decode cX10_lengthenToken 27 = .ok (.iconst 1, 1) := by decide +kernel
theorem dX10_lengthenToken_28 : decode cX10_lengthenToken 28 = .ok (.iadd, 1) := by decide +kernel
theorem dX10_lengthenToken_29 : decode cX10_lengthenToken 29 = .ok (.iastore, 1) := by decide +kernel
theorem dX10_lengthenToken_30 : decode cX10_lengthenToken 30 = .ok (.return_, 1) := by decide +kernel
theorem dX10_advance_0 : decode cX10_advance 0 = .ok (.aload_n 0, 1) := by decide +kernel
theorem dX10_advance_1 : decode cX10_advance 1 = .ok (.dup, 1) := by decide +kernel
theorem dX10_advance_2 : decode cX10_advance 2 = .ok (.getfield 53, 3) := by decide +kernel
theorem dX10_advance_5 : decode cX10_advance 5 = .ok (.iconst 1, 1) := by decide +kernel
theorem dX10_advance_6 : decode cX10_advance 6 = .ok (.iadd, 1) := by decide +kernel
theorem dX10_advance_7 : decode cX10_advance 7 = .ok (.putfield 53, 3) := by decide +kernel
theorem dX10_advance_10 : decode cX10_advance 10 = .ok (.aload_n 0, 1) := by decide +kernel
theorem dX10_advance_11 : decode cX10_advance 11 = .ok (.getfield 53, 3) := by decide +kernel
theorem dX10_advance_14 : decode cX10_advance 14 = .ok (.ifCond .lt 26, 3) := by decide +kernel
theorem dX10_advance_17 : decode cX10_advance 17 = .ok (.aload_n 0, 1) := by decide +kernel
theorem dX10_advance_18 : decode cX10_advance 18 = .ok (.getfield 53, 3) := by decide +kernel
theorem dX10_advance_21 : decode cX10_advance 21 = .ok (.aload_n 0, 1) := by decide +kernel
theorem dX10_advance_22 : decode cX10_advance 22 = .ok (.getfield 36, 3) := by decide +kernel
theorem dX10_advance_25 : decode cX10_advance 25 = .ok (.if_icmp .ge 15, 3) := by decide +kernel
theorem dX10_advance_28 : decode cX10_advance 28 = .ok (.aload_n 0, 1) := by decide +kernel
theorem dX10_advance_29 : decode cX10_advance 29 = .ok (.getfield 53, 3) := by decide +kernel
theorem dX10_advance_32 : decode cX10_advance 32 = .ok (.aload_n 0, 1) := by decide +kernel
theorem dX10_advance_33 : decode cX10_advance 33 = .ok (.getfield 22, 3) := by decide +kernel
theorem dX10_advance_36 : decode cX10_advance 36 = .ok (.arraylength, 1) := by decide +kernel
theorem dX10_advance_37 : decode cX10_advance 37 = .ok (.if_icmp .lt 22, 3) := by decide +kernel
theorem dX10_advance_40 : decode cX10_advance 40 = .ok (.aload_n 0, 1) := by decide +kernel
theorem dX10_advance_41 : decode cX10_advance 41 = .ok (.aload_n 0, 1) := by decide +kernel
theorem dX10_advance_42 : decode cX10_advance 42 = .ok (.getfield 25, 3) := by decide +kernel
theorem dX10_advance_45 : decode cX10_advance 45 = .ok (.putfield 59, 3) := by decide +kernel
theorem dX10_advance_48 : decode cX10_advance 48 = .ok (.aload_n 0, 1) := by decide +kernel
theorem dX10_advance_49 : decode cX10_advance 49 = .ok (.iconst 0, 1) := by decide +kernel
theorem dX10_advance_50 : decode cX10_advance 50 = .ok (.putfield 62, 3) := by decide +kernel
theorem dX10_advance_53 : decode cX10_advance 53 = .ok (.aload_n 0, 1) := by decide +kernel
theorem dX10_advance_54 : decode cX10_advance 54 = .ok (.iconst 0, 1) := by decide +kernel
theorem dX10_advance_55 : decode cX10_advance 55 = .ok (.putfield 65, 3) := by decide +kernel
theorem dX10_advance_58 : decode cX10_advance 58 = .ok (.return_, 1) := by decide +kernel
theorem dX10_advance_59 : decode cX10_advance 59 = .ok (.aload_n 0, 1) := by decide +kernel
theorem dX10_advance_60 : decode cX10_advance 60 = .ok (.aload_n 0, 1) := by decide +kernel
theorem dX10_advance_61 : decode cX10_advance 61 = .ok (.getfield 15, 3) := by decide +kernel
theorem dX10_advance_64 : decode cX10_advance 64 = .ok (.aload_n 0, 1) := by decide +kernel
theorem dX10_advance_65 : decode cX10_advance 65 = .ok (.getfield 53, 3) := by decide +kernel
theorem dX10_advance_68 : decode cX10_advance 68 = .ok (.iaload, 1) := by decide +kernel
theorem dX10_advance_69 : decode cX10_advance 69 = .ok (.putfield 59, 3) := by decide +kernel
theorem dX10_advance_72 : decode cX10_advance 72 = .ok (.aload_n 0, 1) := by decide +kernel
theorem dX10_advance_73 : decode cX10_advance 73 = .ok (.aload_n 0, 1) := by decide +kernel
theorem dX10_advance_74 : decode cX10_advance 74 = .ok (.getfield 19, 3) := by decide +kernel
theorem dX10_advance_77 : decode cX10_advance 77 = .ok (.aload_n 0, 1) := by decide +kernel
theorem dX10_advance_78 : decode cX10_advance 78 = .ok (.getfield 53, 3) := by decide +kernel
theorem dX10_advance_81 : decode cX10_advance 81 = .ok (.iaload, 1) := by decide +kernel
theorem dX10_advance_82 : decode cX10_advance 82 = .ok (.putfield 62, 3) := by decide +kernel
theorem dX10_advance_85 : decode cX10_advance 85 = .ok (.aload_n 0, 1) := by decide +kernel
theorem dX10_advance_86 : decode cX10_advance 86 = .ok (.aload_n 0, 1) := by decide +kernel
theorem dX10_advance_87 : decode cX10_advance 87 = .ok (.getfield 22, 3) := by decide +kernel
theorem dX10_advance_90 : decode cX10_advance 90 = .ok (.aload_n 0, 1) := by decide +kernel
theorem dX10_advance_91 : decode cX10_advance 91 = .ok (.getfield 53, 3) := by decide +kernel
theorem dX10_advance_94 : decode cX10_advance 94 = .ok (.iaload, 1) := by decide +kernel
theorem dX10_advance_95 : decode cX10_advance 95 = .ok (.putfield 65, 3) := by decide +kernel
theorem dX10_advance_98 : decode cX10_advance 98 = .ok (.aload_n 0, 1) := by decide +kernel
theorem dX10_advance_99 : decode cX10_advance 99 = .ok (.getfield 65, 3) := by decide +kernel
theorem dX10_advance_102 : decode cX10_advance 102 = .ok (.iconst 1, 1) := by decide +kernel
theorem dX10_advance_103 : decode cX10_advance 103 = .ok (.if_icmp .ne 12, 3) := by decide +kernel
theorem dX10_advance_106 : decode cX10_advance 106 = .ok (.aload_n 0, 1) := by decide +kernel
theorem dX10_advance_107 : decode cX10_advance 107 = .ok (.getfield 62, 3) := by decide +kernel
theorem dX10_advance_110 : decode cX10_advance 110 = .ok (.bipush 8, 2) := by decide +kernel
theorem dX10_advance_112 : decode cX10_advance 112 = .ok (.if_icmp .gt 19, 3) := by decide +kernel
theorem dX10_advance_115 : decode cX10_advance 115 = .ok (.aload_n 0, 1) := by decide +kernel
theorem dX10_advance_116 : decode cX10_advance 116 = .ok (.getfield 65, 3) := by decide +kernel
theorem dX10_advance_119 : decode cX10_advance 119 = .ok (.iconst 2, 1) := by decide +kernel
theorem dX10_advance_120 : decode cX10_advance 120 = .ok (.if_icmp .ne 16, 3) := by decide +kernel
theorem dX10_advance_123 : decode cX10_advance 123 = .ok (.aload_n 0, 1) := by decide +kernel
theorem dX10_advance_124 : decode cX10_advance 124 = .ok (.getfield 62, 3) := by decide +kernel
theorem dX10_advance_127 : decode cX10_advance 127 = .ok (.iconst 4, 1) := by decide +kernel
theorem dX10_advance_128 : decode cX10_advance 128 = .ok (.if_icmp .le 8, 3) := by decide +kernel
theorem dX10_advance_131 : decode cX10_advance 131 = .ok (.aload_n 0, 1) := by decide +kernel
theorem dX10_advance_132 : decode cX10_advance 132 = .ok (.iconst 5, 1) := by decide +kernel
theorem dX10_advance_133 : decode cX10_advance 133 = .ok (.putfield 65, 3) := by decide +kernel
theorem dX10_advance_136 : decode cX10_advance 136 = .ok (.return_, 1) := by decide +kernel
theorem dX10_isAtEnd_0 : decode cX10_isAtEnd 0 = .ok (.aload_n 0, 1) := by decide +kernel
theorem dX10_isAtEnd_1 : decode cX10_isAtEnd 1 = .ok (.getfield 65, 3) := by decide +kernel
theorem dX10_isAtEnd_4 : decode cX10_isAtEnd 4 = .ok (.ifCond .ne 7, 3) := by decide +kernel
theorem dX10_isAtEnd_7 : decode cX10_isAtEnd 7 = .ok (.iconst 1, 1) := by decide +kernel
theorem dX10_isAtEnd_8 : decode cX10_isAtEnd 8 = .ok (.goto 4, 3) := by decide +kernel
theorem dX10_isAtEnd_11 : decode cX10_isAtEnd 11 = .ok (.iconst 0, 1) := by decide +kernel
theorem dX10_isAtEnd_12 : decode cX10_isAtEnd 12 = .ok (.ireturn, 1) := by decide +kernel
set_option maxRecDepth 20000 in
theorem ggX10_isWord_J0_length_8abf5 : GoodIn wsX10_isWord wsJ0_length_8abf5 := goodIn_r _ [8, 9, 10, 11, 12, 7, 13, 14, 15] (by decide +kernel) (by decide +kernel)
set_option maxRecDepth 20000 in
theorem gX10_isWord_J0_length_8abf5 : GoodIn wsX10_isWord (wsV RX10 68 RJ0 yJ0_length_8abf5 wsJ0_length_8abf5) := goodIn_app (goodIn_of _ (by decide +kernel)) ggX10_isWord_J0_length_8abf5
set_option maxRecDepth 20000 in
theorem ggX10_isWord_X10_byteAt : GoodIn wsX10_isWord wsX10_byteAt := goodIn_r _ [20, 21, 22, 60, 61, 62, 63, 64, 65, 66, 67, 68, 69, 70] (by decide +kernel) (by decide +kernel)
set_option maxRecDepth 20000 in
theorem gX10_isWord_X10_byteAt : GoodIn wsX10_isWord (wsV RX10 39 RX10 yX10_byteAt wsX10_byteAt) := goodIn_app (goodIn_of _ (by decide +kernel)) ggX10_isWord_X10_byteAt
set_option maxRecDepth 20000 in
theorem ggX10_isWord_J0_charAt_5068e : GoodIn wsX10_isWord wsJ0_charAt_5068e := goodIn_r _ [26, 9, 27, 28, 29, 7, 30, 14, 15, 31, 32, 33, 34, 35, 36, 37, 38, 39, 40, 41, 42, 43, 44, 45, 46, 47, 48, 49, 50, 51, 52, 53, 54, 55, 56, 57, 58, 59] (by decide +kernel) (by decide +kernel)
set_option maxRecDepth 20000 in
theorem gX10_isWord_J0_charAt_5068e : GoodIn wsX10_isWord (wsV RX10 73 RJ0 yJ0_charAt_5068e wsJ0_charAt_5068e) := goodIn_app (goodIn_of _ (by decide +kernel)) ggX10_isWord_J0_charAt_5068e
theorem dX10_isWord_0 : decode cX10_isWord 0 = .ok (.aload_n 0, 1) := by decide +kernel
theorem dX10_isWord_1 : decode cX10_isWord 1 = .ok (.getfield 65, 3) := by decide +kernel
theorem dX10_isWord_4 : decode cX10_isWord 4 = .ok (.iconst 1, 1) := by decide +kernel
theorem dX10_isWord_5 : decode cX10_isWord 5 = .ok (.if_icmp .ne 14, 3) := by decide +kernel
theorem dX10_isWord_8 : decode cX10_isWord 8 = .ok (.aload_n 0, 1) := by decide +kernel
theorem dX10_isWord_9 : decode cX10_isWord 9 = .ok (.getfield 62, 3) := by decide +kernel
theorem dX10_isWord_12 : decode cX10_isWord 12 = .ok (.aload_n 1, 1) := by decide +kernel
theorem dX10_isWord_13 : decode cX10_isWord 13 = .ok (.invokevirtual 68, 3) := by decide +kernel
theorem dX10_isWord_16 : decode cX10_isWord 16 = .ok (.if_icmp .eq 5, 3) := by decide +kernel
theorem dX10_isWord_19 : decode cX10_isWord 19 = .ok (.iconst 0, 1) := by decide +kernel
theorem dX10_isWord_20 : decode cX10_isWord 20 = .ok (.ireturn, 1) := by decide +kernel
theorem dX10_isWord_21 : decode cX10_isWord 21 = .ok (.iconst 0, 1) := by decide +kernel
theorem dX10_isWord_22 : decode cX10_isWord 22 = .ok (.istore_n 2, 1) := by decide +kernel
theorem dX10_isWord_23 : decode cX10_isWord 23 = .ok (.iload_n 2, 1) := by decide +kernel
theorem dX10_isWord_24 : decode cX10_isWord 24 = .ok (.aload_n 1, 1) := by decide +kernel
theorem dX10_isWord_25 : decode cX10_isWord 25 = .ok (.invokevirtual 68, 3) := by decide +kernel
theorem dX10_isWord_28 : decode cX10_isWord 28 = .ok (.if_icmp .ge 29, 3) := by decide +kernel
theorem dX10_isWord_31 : decode cX10_isWord 31 = .ok (.aload_n 0, 1) := by decide +kernel
theorem dX10_isWord_32 : decode cX10_isWord 32 = .ok (.aload_n 0, 1) := by decide +kernel
theorem dX10_isWord_33 : decode cX10_isWord 33 = .ok (.getfield 59, 3) := by decide +kernel
theorem dX10_isWord_36 : decode cX10_isWord 36 = .ok (.iload_n 2, 1) := by decide +kernel
theorem dX10_isWord_37 : decode cX10_isWord 37 = .ok (.iadd, 1) := by decide +kernel
theorem dX10_isWord_38 : decode cX10_isWord 38 = .ok (.invokevirtual 39, 3) := by decide +kernel
theorem dX10_isWord_41 : decode cX10_isWord 41 = .ok (.aload_n 1, 1) := by decide +kernel
theorem dX10_isWord_42 : decode cX10_isWord 42 = .ok (.iload_n 2, 1) := by decide +kernel
theorem dX10_isWord_43 : decode cX10_isWord 43 = .ok (.invokevirtual 73, 3) := by decide +kernel
theorem dX10_isWord_46 : decode cX10_isWord 46 = .ok (.if_icmp .eq 5, 3) := by decide +kernel
theorem dX10_isWord_49 : decode cX10_isWord 49 = .ok (.iconst 0, 1) := by decide +kernel
theorem dX10_isWord_50 : decode cX10_isWord 50 = .ok (.ireturn, 1) := by decide +kernel
theorem dX10_isWord_51 : decode cX10_isWord 51 = .ok (.iinc 2 1, 3) := by decide +kernel
theorem dX10_isWord_54 : decode cX10_isWord 54 = .ok (.goto (-31), 3) := by decide +kernel
theorem dX10_isWord_57 : decode cX10_isWord 57 = .ok (.iconst 1, 1) := by decide +kernel
theorem dX10_isWord_58 : decode cX10_isWord 58 = .ok (.ireturn, 1) := by decide +kernel
set_option maxRecDepth 20000 in
theorem ggX10_isSign_X10_byteAt : GoodIn wsX10_isSign wsX10_byteAt := goodIn_r _ [7, 8, 9, 10, 11, 12, 13, 14, 15, 16, 17, 18, 19, 20] (by decide +kernel) (by decide +kernel)
set_option maxRecDepth 20000 in
theorem gX10_isSign_X10_byteAt : GoodIn wsX10_isSign (wsV RX10 39 RX10 yX10_byteAt wsX10_byteAt) := goodIn_app (goodIn_of _ (by decide +kernel)) ggX10_isSign_X10_byteAt
theorem dX10_isSign_0 : decode cX10_isSign 0 = .ok (.aload_n 0, 1) := by decide +kernel
theorem dX10_isSign_1 : decode cX10_isSign 1 = .ok (.getfield 65, 3) := by decide +kernel
theorem dX10_isSign_4 : decode cX10_isSign 4 = .ok (.iconst 3, 1) := by decide +kernel
theorem dX10_isSign_5 : decode cX10_isSign 5 = .ok (.if_icmp .ne 19, 3) := by decide +kernel
theorem dX10_isSign_8 : decode cX10_isSign 8 = .ok (.aload_n 0, 1) := by decide +kernel
theorem dX10_isSign_9 : decode cX10_isSign 9 = .ok (.aload_n 0, 1) := by decide +kernel
theorem dX10_isSign_10 : decode cX10_isSign 10 = .ok (.getfield 59, 3) := by decide +kernel
theorem dX10_isSign_13 : decode cX10_isSign 13 = .ok (.invokevirtual 39, 3) := by decide +kernel
theorem dX10_isSign_16 : decode cX10_isSign 16 = .ok (.iload_n 1, 1) := by decide +kernel
theorem dX10_isSign_17 : decode cX10_isSign 17 = .ok (.if_icmp .ne 7, 3) := by decide +kernel
theorem dX10_isSign_20 : decode cX10_isSign 20 = .ok (.iconst 1, 1) := by decide +kernel
theorem dX10_isSign_21 : decode cX10_isSign 21 = .ok (.goto 4, 3) := by decide +kernel
theorem dX10_isSign_24 : decode cX10_isSign 24 = .ok (.iconst 0, 1) := by decide +kernel
theorem dX10_isSign_25 : decode cX10_isSign 25 = .ok (.ireturn, 1) := by decide +kernel
theorem dX10_fail_0 : decode cX10_fail 0 = .ok (.aload_n 0, 1) := by decide +kernel
theorem dX10_fail_1 : decode cX10_fail 1 = .ok (.iload_n 1, 1) := by decide +kernel
theorem dX10_fail_2 : decode cX10_fail 2 = .ok (.putfield 33, 3) := by decide +kernel
theorem dX10_fail_5 : decode cX10_fail 5 = .ok (.iconst 0, 1) := by decide +kernel
theorem dX10_fail_6 : decode cX10_fail 6 = .ok (.ireturn, 1) := by decide +kernel
set_option maxRecDepth 20000 in
theorem ggX10_takeWord_X10_isWord : GoodIn wsX10_takeWord wsX10_isWord := goodIn_r _ [5, 6, 7, 8, 9, 10, 11, 12, 13, 14, 15, 16, 17, 18, 19, 20, 21, 22, 23, 4, 24, 25, 26, 27, 28, 29, 30, 31, 32, 33, 34, 35, 36, 37, 38, 39, 40, 41, 42, 43, 44, 45, 46, 47, 48, 49, 50, 51, 52, 53, 54, 55, 56, 57, 58, 59, 60, 61, 62, 63, 78, 79, 80, 81, 82, 83, 84, 85, 86, 87, 88] (by decide +kernel) (by decide +kernel)
set_option maxRecDepth 20000 in
theorem gX10_takeWord_X10_isWord : GoodIn wsX10_takeWord (wsV RX10 77 RX10 yX10_isWord wsX10_isWord) := goodIn_app (goodIn_of _ (by decide +kernel)) ggX10_takeWord_X10_isWord
set_option maxRecDepth 20000 in
theorem ggX10_takeWord_X10_fail : GoodIn wsX10_takeWord wsX10_fail := goodIn_r _ [67, 68, 78, 79, 80, 81, 82, 83, 84, 85, 86, 87, 88] (by decide +kernel) (by decide +kernel)
set_option maxRecDepth 20000 in
theorem gX10_takeWord_X10_fail : GoodIn wsX10_takeWord (wsV RX10 81 RX10 yX10_fail wsX10_fail) := goodIn_app (goodIn_of _ (by decide +kernel)) ggX10_takeWord_X10_fail
set_option maxRecDepth 20000 in
theorem ggX10_takeWord_X10_advance : GoodIn wsX10_takeWord wsX10_advance := goodIn_r _ [72, 73, 74, 75, 25, 8, 7, 6, 76, 77, 78, 79, 80, 81, 82, 83, 84, 85, 86, 87, 88] (by decide +kernel) (by decide +kernel)
set_option maxRecDepth 20000 in
theorem gX10_takeWord_X10_advance : GoodIn wsX10_takeWord (wsV RX10 56 RX10 yX10_advance wsX10_advance) := goodIn_app (goodIn_of _ (by decide +kernel)) ggX10_takeWord_X10_advance
theorem dX10_takeWord_0 : decode cX10_takeWord 0 = .ok (.aload_n 0, 1) := by decide +kernel
theorem dX10_takeWord_1 : decode cX10_takeWord 1 = .ok (.aload_n 1, 1) := by decide +kernel
theorem dX10_takeWord_2 : decode cX10_takeWord 2 = .ok (.invokevirtual 77, 3) := by decide +kernel
theorem dX10_takeWord_5 : decode cX10_takeWord 5 = .ok (.ifCond .ne 9, 3) := by decide +kernel
theorem dX10_takeWord_8 : decode cX10_takeWord 8 = .ok (.aload_n 0, 1) := by decide +kernel
theorem dX10_takeWord_9 : decode cX10_takeWord 9 = .ok (.iconst 1, 1) := by decide +kernel
theorem dX10_takeWord_10 : decode cX10_takeWord 10 = .ok (.invokevirtual 81, 3) := by decide +kernel
theorem dX10_takeWord_13 : decode cX10_takeWord 13 = .ok (.ireturn, 1) := by decide +kernel
theorem dX10_takeWord_14 : decode cX10_takeWord 14 = .ok (.aload_n 0, 1) := by decide +kernel
theorem dX10_takeWord_15 : decode cX10_takeWord 15 = .ok (.invokevirtual 56, 3) := by decide +kernel
theorem dX10_takeWord_18 : decode cX10_takeWord 18 = .ok (.iconst 1, 1) := by decide +kernel
theorem dX10_takeWord_19 : decode cX10_takeWord 19 = .ok (.ireturn, 1) := by decide +kernel
set_option maxRecDepth 20000 in
theorem ggX10_takeSign_X10_isSign : GoodIn wsX10_takeSign wsX10_isSign := goodIn_r _ [5, 6, 7, 8, 9, 10, 4, 11, 12, 13, 29, 30, 31, 32, 33, 34, 35, 36, 37, 38, 39] (by decide +kernel) (by decide +kernel)
set_option maxRecDepth 20000 in
theorem gX10_takeSign_X10_isSign : GoodIn wsX10_takeSign (wsV RX10 85 RX10 yX10_isSign wsX10_isSign) := goodIn_app (goodIn_of _ (by decide +kernel)) ggX10_takeSign_X10_isSign
set_option maxRecDepth 20000 in
theorem ggX10_takeSign_X10_fail : GoodIn wsX10_takeSign wsX10_fail := goodIn_r _ [17, 18, 29, 30, 31, 32, 33, 34, 35, 36, 37, 38, 39] (by decide +kernel) (by decide +kernel)
set_option maxRecDepth 20000 in
theorem gX10_takeSign_X10_fail : GoodIn wsX10_takeSign (wsV RX10 81 RX10 yX10_fail wsX10_fail) := goodIn_app (goodIn_of _ (by decide +kernel)) ggX10_takeSign_X10_fail
set_option maxRecDepth 20000 in
theorem ggX10_takeSign_X10_advance : GoodIn wsX10_takeSign wsX10_advance := goodIn_r _ [22, 23, 24, 25, 12, 7, 26, 6, 27, 28, 29, 30, 31, 32, 33, 34, 35, 36, 37, 38, 39] (by decide +kernel) (by decide +kernel)
set_option maxRecDepth 20000 in
theorem gX10_takeSign_X10_advance : GoodIn wsX10_takeSign (wsV RX10 56 RX10 yX10_advance wsX10_advance) := goodIn_app (goodIn_of _ (by decide +kernel)) ggX10_takeSign_X10_advance
theorem dX10_takeSign_0 : decode cX10_takeSign 0 = .ok (.aload_n 0, 1) := by decide +kernel
theorem dX10_takeSign_1 : decode cX10_takeSign 1 = .ok (.iload_n 1, 1) := by decide +kernel
theorem dX10_takeSign_2 : decode cX10_takeSign 2 = .ok (.invokevirtual 85, 3) := by decide +kernel
theorem dX10_takeSign_5 : decode cX10_takeSign 5 = .ok (.ifCond .ne 9, 3) := by decide +kernel
theorem dX10_takeSign_8 : decode cX10_takeSign 8 = .ok (.aload_n 0, 1) := by decide +kernel
theorem dX10_takeSign_9 : decode cX10_takeSign 9 = .ok (.iconst 1, 1) := by decide +kernel
theorem dX10_takeSign_10 : decode cX10_takeSign 10 = .ok (.invokevirtual 81, 3) := by decide +kernel
theorem dX10_takeSign_13 : decode cX10_takeSign 13 = .ok (.ireturn, 1) := by decide +kernel
theorem dX10_takeSign_14 : decode cX10_takeSign 14 = .ok (.aload_n 0, 1) := by decide +kernel
theorem dX10_takeSign_15 : decode cX10_takeSign 15 = .ok (.invokevirtual 56, 3) := by decide +kernel
theorem dX10_takeSign_18 : decode cX10_takeSign 18 = .ok (.iconst 1, 1) := by decide +kernel
theorem dX10_takeSign_19 : decode cX10_takeSign 19 = .ok (.ireturn, 1) := by decide +kernel
set_option maxRecDepth 20000 in
theorem ggX10_takeNumber_X10_byteAt : GoodIn wsX10_takeNumber wsX10_byteAt := goodIn_r _ [9, 10, 11, 21, 22, 23, 24, 25, 26, 27, 28, 29, 30, 31] (by decide +kernel) (by decide +kernel)
set_option maxRecDepth 20000 in
theorem gX10_takeNumber_X10_byteAt : GoodIn wsX10_takeNumber (wsV RX10 39 RX10 yX10_byteAt wsX10_byteAt) := goodIn_app (goodIn_of _ (by decide +kernel)) ggX10_takeNumber_X10_byteAt
set_option maxRecDepth 20000 in
theorem ggX10_takeNumber_X10_advance : GoodIn wsX10_takeNumber wsX10_advance := goodIn_r _ [15, 16, 17, 18, 10, 4, 3, 1, 19, 20, 21, 22, 23, 24, 25, 26, 27, 28, 29, 30, 31] (by decide +kernel) (by decide +kernel)
set_option maxRecDepth 20000 in
theorem gX10_takeNumber_X10_advance : GoodIn wsX10_takeNumber (wsV RX10 56 RX10 yX10_advance wsX10_advance) := goodIn_app (goodIn_of _ (by decide +kernel)) ggX10_takeNumber_X10_advance
theorem dX10_takeNumber_0 : decode cX10_takeNumber 0 = .ok (.aload_n 0, 1) := by decide +kernel
theorem dX10_takeNumber_1 : decode cX10_takeNumber 1 = .ok (.getfield 65, 3) := by decide +kernel
theorem dX10_takeNumber_4 : decode cX10_takeNumber 4 = .ok (.iconst 2, 1) := by decide +kernel
theorem dX10_takeNumber_5 : decode cX10_takeNumber 5 = .ok (.if_icmp .eq 10, 3) := by decide +kernel
theorem dX10_takeNumber_8 : decode cX10_takeNumber 8 = .ok (.aload_n 0, 1) := by decide +kernel
theorem dX10_takeNumber_9 : decode cX10_takeNumber 9 = .ok (.iconst 1, 1) := by decide +kernel
theorem dX10_takeNumber_10 : decode cX10_takeNumber 10 = .ok (.putfield 33, 3) := by decide +kernel
theorem dX10_takeNumber_13 : decode cX10_takeNumber 13 = .ok (.iconst (-1), 1) := by decide +kernel
theorem dX10_takeNumber_14 : decode cX10_takeNumber 14 = .ok (.ireturn, 1) := by decide +kernel
theorem dX10_takeNumber_15 : decode cX10_takeNumber 15 = .ok (.iconst 0, 1) := by decide +kernel
theorem dX10_takeNumber_16 : decode cX10_takeNumber 16 = .ok (.istore_n 3, 1) := by decide +kernel
theorem dX10_takeNumber_17 : decode cX10_takeNumber 17 = .ok (.iconst 0, 1) := by decide +kernel
theorem dX10_takeNumber_18 : decode cX10_takeNumber 18 = .ok (.istore 4, 2) := by decide +kernel
theorem dX10_takeNumber_20 : decode cX10_takeNumber 20 = .ok (.iload 4, 2) := by decide +kernel
theorem dX10_takeNumber_22 : decode cX10_takeNumber 22 = .ok (.aload_n 0, 1) := by decide +kernel
theorem dX10_takeNumber_23 : decode cX10_takeNumber 23 = .ok (.getfield 62, 3) := by decide +kernel
theorem dX10_takeNumber_26 : decode cX10_takeNumber 26 = .ok (.if_icmp .ge 29, 3) := by decide +kernel
theorem dX10_takeNumber_29 : decode cX10_takeNumber 29 = .ok (.iload_n 3, 1) := by decide +kernel
theorem dX10_takeNumber_30 : decode cX10_takeNumber 30 = .ok (.bipush 10, 2) := by decide +kernel
theorem dX10_takeNumber_32 : decode cX10_takeNumber 32 = .ok (.imul, 1) := by decide +kernel
theorem dX10_takeNumber_33 : decode cX10_takeNumber 33 = .ok (.aload_n 0, 1) := by decide +kernel
theorem dX10_takeNumber_34 : decode cX10_takeNumber 34 = .ok (.aload_n 0, 1) := by decide +kernel
theorem dX10_takeNumber_35 : decode cX10_takeNumber 35 = .ok (.getfield 59, 3) := by decide +kernel
theorem dX10_takeNumber_38 : decode cX10_takeNumber 38 = .ok (.iload 4, 2) := by decide +kernel
theorem dX10_takeNumber_40 : decode cX10_takeNumber 40 = .ok (.iadd, 1) := by decide +kernel
theorem dX10_takeNumber_41 : decode cX10_takeNumber 41 = .ok (.invokevirtual 39, 3) := by decide +kernel
theorem dX10_takeNumber_44 : decode cX10_takeNumber 44 = .ok (.bipush 48, 2) := by decide +kernel
theorem dX10_takeNumber_46 : decode cX10_takeNumber 46 = .ok (.isub, 1) := by decide +kernel
theorem dX10_takeNumber_47 : decode cX10_takeNumber 47 = .ok (.iadd, 1) := by decide +kernel
theorem dX10_takeNumber_48 : decode cX10_takeNumber 48 = .ok (.istore_n 3, 1) := by decide +kernel
theorem dX10_takeNumber_49 : decode cX10_takeNumber 49 = .ok (.iinc 4 1, 3) := by decide +kernel
theorem dX10_takeNumber_52 : decode cX10_takeNumber 52 = .ok (.goto (-32), 3) := by decide +kernel
theorem dX10_takeNumber_55 : decode cX10_takeNumber 55 = .ok (.iload_n 3, 1) := by decide +kernel
theorem dX10_takeNumber_56 : decode cX10_takeNumber 56 = .ok (.iload_n 1, 1) := by decide +kernel
theorem dX10_takeNumber_57 : decode cX10_takeNumber 57 = .ok (.if_icmp .lt 8, 3) := by decide +kernel
theorem dX10_takeNumber_60 : decode cX10_takeNumber 60 = .ok (.iload_n 3, 1) := by decide +kernel
theorem dX10_takeNumber_61 : decode cX10_takeNumber 61 = .ok (.iload_n 2, 1) := by decide +kernel
theorem dX10_takeNumber_62 : decode cX10_takeNumber 62 = .ok (.if_icmp .le 10, 3) := by decide +kernel
theorem dX10_takeNumber_65 : decode cX10_takeNumber 65 = .ok (.aload_n 0, 1) := by decide +kernel
theorem dX10_takeNumber_66 : decode cX10_takeNumber 66 = .ok (.iconst 2, 1) := by decide +kernel
theorem dX10_takeNumber_67 : decode cX10_takeNumber 67 = .ok (.putfield 33, 3) := by decide +kernel
theorem dX10_takeNumber_70 : decode cX10_takeNumber 70 = .ok (.iconst (-1), 1) := by decide +kernel
theorem dX10_takeNumber_71 : decode cX10_takeNumber 71 = .ok (.ireturn, 1) := by decide +kernel
theorem dX10_takeNumber_72 : decode cX10_takeNumber 72 = .ok (.aload_n 0, 1) := by decide +kernel
theorem dX10_takeNumber_73 : decode cX10_takeNumber 73 = .ok (.invokevirtual 56, 3) := by decide +kernel
theorem dX10_takeNumber_76 : decode cX10_takeNumber 76 = .ok (.iload_n 3, 1) := by decide +kernel
theorem dX10_takeNumber_77 : decode cX10_takeNumber 77 = .ok (.ireturn, 1) := by decide +kernel
theorem dX11_init_0 : decode cX11_init 0 = .ok (.aload_n 0, 1) := by decide +kernel
theorem dX11_init_1 : decode cX11_init 1 = .ok (.invokespecial 3, 3) := by decide +kernel
theorem dX11_init_4 : decode cX11_init 4 = .ok (.aload_n 0, 1) := by decide +kernel
theorem dX11_init_5 : decode cX11_init 5 = .ok (.sipush 192, 3) := by decide +kernel
theorem dX11_init_8 : decode cX11_init 8 = .ok (.newarray .boolean, 2) := by decide +kernel
theorem dX11_init_10 : decode cX11_init 10 = .ok (.putfield 9, 3) := by decide +kernel
theorem dX11_init_13 : decode cX11_init 13 = .ok (.return_, 1) := by decide +kernel
set_option maxRecDepth 20000 in
theorem ggX11_isNarrow_X5_heightAt : GoodIn wsX11_isNarrow wsX5_heightAt := goodIn_r _ [7, 8, 9, 10, 19, 20, 21, 22, 23, 24, 25, 26, 27, 28] (by decide +kernel) (by decide +kernel)
set_option maxRecDepth 20000 in
theorem gX11_isNarrow_X5_heightAt : GoodIn wsX11_isNarrow (wsV RX11 15 RX5 yX5_heightAt wsX5_heightAt) := goodIn_app (goodIn_of _ (by decide +kernel)) ggX11_isNarrow_X5_heightAt
set_option maxRecDepth 20000 in
theorem ggX11_isNarrow_X11_runThrough : GoodIn wsX11_isNarrow wsX11_runThrough := goodIn_r _ [14, 2, 3, 4, 5, 6, 7, 8, 9, 10, 15, 16, 17, 18, 19, 20, 21, 22, 23, 24, 25, 26, 27, 28] (by decide +kernel) (by decide +kernel)
set_option maxRecDepth 20000 in
theorem gX11_isNarrow_X11_runThrough : GoodIn wsX11_isNarrow (va_wsS RX11 25 yX11_runThrough wsX11_runThrough) := goodIn_app (goodIn_of _ (by decide +kernel)) ggX11_isNarrow_X11_runThrough
theorem dX11_isNarrow_0 : decode cX11_isNarrow 0 = .ok (.aload_n 0, 1) := by decide +kernel
theorem dX11_isNarrow_1 : decode cX11_isNarrow 1 = .ok (.iload_n 1, 1) := by decide +kernel
theorem dX11_isNarrow_2 : decode cX11_isNarrow 2 = .ok (.iload_n 2, 1) := by decide +kernel
theorem dX11_isNarrow_3 : decode cX11_isNarrow 3 = .ok (.invokevirtual 15, 3) := by decide +kernel
theorem dX11_isNarrow_6 : decode cX11_isNarrow 6 = .ok (.aload_n 0, 1) := by decide +kernel
theorem dX11_isNarrow_7 : decode cX11_isNarrow 7 = .ok (.getfield 21, 3) := by decide +kernel
theorem dX11_isNarrow_10 : decode cX11_isNarrow 10 = .ok (.if_icmp .le 37, 3) := by decide +kernel
theorem dX11_isNarrow_13 : decode cX11_isNarrow 13 = .ok (.aload_n 0, 1) := by decide +kernel
theorem dX11_isNarrow_14 : decode cX11_isNarrow 14 = .ok (.iload_n 1, 1) := by decide +kernel
theorem dX11_isNarrow_15 : decode cX11_isNarrow 15 = .ok (.iload_n 2, 1) := by decide +kernel
theorem dX11_isNarrow_16 : decode cX11_isNarrow 16 = .ok (.iconst 1, 1) := by decide +kernel
theorem dX11_isNarrow_17 : decode cX11_isNarrow 17 = .ok (.iconst 0, 1) := by decide +kernel
theorem dX11_isNarrow_18 : decode cX11_isNarrow 18 = .ok (.invokestatic 25, 3) := by decide +kernel
theorem dX11_isNarrow_21 : decode cX11_isNarrow 21 = .ok (.aload_n 0, 1) := by decide +kernel
theorem dX11_isNarrow_22 : decode cX11_isNarrow 22 = .ok (.getfield 29, 3) := by decide +kernel
theorem dX11_isNarrow_25 : decode cX11_isNarrow 25 = .ok (.if_icmp .ge 22, 3) := by decide +kernel
theorem dX11_isNarrow_28 : decode cX11_isNarrow 28 = .ok (.aload_n 0, 1) := by decide +kernel
theorem dX11_isNarrow_29 : decode cX11_isNarrow 29 = .ok (.iload_n 1, 1) := by decide +kernel
theorem dX11_isNarrow_30 : decode cX11_isNarrow 30 = .ok (.iload_n 2, 1) := by decide +kernel
theorem dX11_isNarrow_31 : decode cX11_isNarrow 31 = .ok (.iconst 0, 1) := by decide +kernel
theorem dX11_isNarrow_32 : decode cX11_isNarrow 32 = .ok (.iconst 1, 1) := by decide +kernel
theorem dX11_isNarrow_33 : decode cX11_isNarrow 33 = .ok (.invokestatic 25, 3) := by decide +kernel
theorem dX11_isNarrow_36 : decode cX11_isNarrow 36 = .ok (.aload_n 0, 1) := by decide +kernel
theorem dX11_isNarrow_37 : decode cX11_isNarrow 37 = .ok (.getfield 29, 3) := by decide +kernel
theorem dX11_isNarrow_40 : decode cX11_isNarrow 40 = .ok (.if_icmp .ge 7, 3) := by decide +kernel
theorem dX11_isNarrow_43 : decode cX11_isNarrow 43 = .ok (.iconst 1, 1) := by decide +kernel
theorem dX11_isNarrow_44 : decode cX11_isNarrow 44 = .ok (.goto 4, 3) := by decide +kernel
theorem dX11_isNarrow_47 : decode cX11_isNarrow 47 = .ok (.iconst 0, 1) := by decide +kernel
theorem dX11_isNarrow_48 : decode cX11_isNarrow 48 = .ok (.ireturn, 1) := by decide +kernel
set_option maxRecDepth 20000 in
theorem ggX11_runThrough_X5_heightAt : GoodIn wsX11_runThrough wsX5_heightAt := goodIn_r _ [6, 7, 8, 9, 14, 15, 16, 17, 18, 19, 20, 21, 22, 23] (by decide +kernel) (by decide +kernel)
set_option maxRecDepth 20000 in
theorem gX11_runThrough_X5_heightAt : GoodIn wsX11_runThrough (wsV RX11 15 RX5 yX5_heightAt wsX5_heightAt) := goodIn_app (goodIn_of _ (by decide +kernel)) ggX11_runThrough_X5_heightAt
set_option maxRecDepth 20000 in
theorem ggX11_runThrough_X5_reaches : GoodIn wsX11_runThrough wsX5_reaches := goodIn_r _ [13, 7, 8, 9, 14, 15, 16, 17, 18, 19, 20, 21, 22, 23] (by decide +kernel) (by decide +kernel)
set_option maxRecDepth 20000 in
theorem gX11_runThrough_X5_reaches : GoodIn wsX11_runThrough (wsV RX11 32 RX5 yX5_reaches wsX5_reaches) := goodIn_app (goodIn_of _ (by decide +kernel)) ggX11_runThrough_X5_reaches
theorem dX11_runThrough_0 : decode cX11_runThrough 0 = .ok (.aload_n 0, 1) := by decide +kernel
theorem dX11_runThrough_1 : decode cX11_runThrough 1 = .ok (.iload_n 1, 1) := by decide +kernel
theorem dX11_runThrough_2 : decode cX11_runThrough 2 = .ok (.iload_n 2, 1) := by decide +kernel
theorem dX11_runThrough_3 : decode cX11_runThrough 3 = .ok (.invokevirtual 15, 3) := by decide +kernel
theorem dX11_runThrough_6 : decode cX11_runThrough 6 = .ok (.istore 5, 2) := by decide +kernel
theorem dX11_runThrough_8 : decode cX11_runThrough 8 = .ok (.iconst 1, 1) := by decide +kernel
theorem dX11_runThrough_9 : decode cX11_runThrough 9 = .ok (.istore 6, 2) := by decide +kernel
theorem dX11_runThrough_11 : decode cX11_runThrough 11 = .ok (.iconst 1, 1) := by decide +kernel
theorem dX11_runThrough_12 : decode cX11_runThrough 12 = .ok (.istore 7, 2) := by decide +kernel
theorem dX11_runThrough_14 : decode cX11_runThrough 14 = .ok (.iload 7, 2) := by decide +kernel
theorem dX11_runThrough_16 : decode cX11_runThrough 16 = .ok (.aload_n 0, 1) := by decide +kernel
theorem dX11_runThrough_17 : decode cX11_runThrough 17 = .ok (.getfield 29, 3) := by decide +kernel
theorem dX11_runThrough_20 : decode cX11_runThrough 20 = .ok (.if_icmp .ge 34, 3) := by decide +kernel
theorem dX11_runThrough_23 : decode cX11_runThrough 23 = .ok (.aload_n 0, 1) := by decide +kernel
theorem dX11_runThrough_24 : decode cX11_runThrough 24 = .ok (.iload_n 1, 1) := by decide +kernel
theorem dX11_runThrough_25 : decode cX11_runThrough 25 = .ok (.iload 7, 2) := by decide +kernel
theorem dX11_runThrough_27 : decode cX11_runThrough 27 = .ok (.iload_n 3, 1) := by decide +kernel
theorem dX11_runThrough_28 : decode cX11_runThrough 28 = .ok (.imul, 1) := by decide +kernel
theorem dX11_runThrough_29 : decode cX11_runThrough 29 = .ok (.iadd, 1) := by decide +kernel
theorem dX11_runThrough_30 : decode cX11_runThrough 30 = .ok (.iload_n 2, 1) := by decide +kernel
theorem dX11_runThrough_31 : decode cX11_runThrough 31 = .ok (.iload 7, 2) := by decide +kernel
theorem dX11_runThrough_33 : decode cX11_runThrough 33 = .ok (.iload 4, 2) := by decide +kernel
theorem dX11_runThrough_35 : decode cX11_runThrough 35 = .ok (.imul, 1) := by decide +kernel
theorem dX11_runThrough_36 : decode cX11_runThrough 36 = .ok (.iadd, 1) := by decide +kernel
theorem dX11_runThrough_37 : decode cX11_runThrough 37 = .ok (.iload 5, 2) := by decide +kernel
theorem dX11_runThrough_39 : decode cX11_runThrough 39 = .ok (.invokevirtual 32, 3) := by decide +kernel
theorem dX11_runThrough_42 : decode cX11_runThrough 42 = .ok (.ifCond .eq 12, 3) := by decide +kernel
theorem dX11_runThrough_45 : decode cX11_runThrough 45 = .ok (.iinc 6 1, 3) := by decide +kernel
theorem dX11_runThrough_48 : decode cX11_runThrough 48 = .ok (.iinc 7 1, 3) := by decide +kernel
theorem dX11_runThrough_51 : decode cX11_runThrough 51 = .ok (.goto (-37), 3) := by decide +kernel
theorem dX11_runThrough_54 : decode cX11_runThrough 54 = .ok (.iconst 1, 1) := by decide +kernel
theorem dX11_runThrough_55 : decode cX11_runThrough 55 = .ok (.istore 7, 2) := by decide +kernel
theorem dX11_runThrough_57 : decode cX11_runThrough 57 = .ok (.iload 7, 2) := by decide +kernel
theorem dX11_runThrough_59 : decode cX11_runThrough 59 = .ok (.aload_n 0, 1) := by decide +kernel
theorem dX11_runThrough_60 : decode cX11_runThrough 60 = .ok (.getfield 29, 3) := by decide +kernel
theorem dX11_runThrough_63 : decode cX11_runThrough 63 = .ok (.if_icmp .ge 34, 3) := by decide +kernel
theorem dX11_runThrough_66 : decode cX11_runThrough 66 = .ok (.aload_n 0, 1) := by decide +kernel
theorem dX11_runThrough_67 : decode cX11_runThrough 67 = .ok (.iload_n 1, 1) := by decide +kernel
theorem dX11_runThrough_68 : decode cX11_runThrough 68 = .ok (.iload 7, 2) := by decide +kernel
theorem dX11_runThrough_70 : decode cX11_runThrough 70 = .ok (.iload_n 3, 1) := by decide +kernel
theorem dX11_runThrough_71 : decode cX11_runThrough 71 = .ok (.imul, 1) := by decide +kernel
theorem dX11_runThrough_72 : decode cX11_runThrough 72 = .ok (.isub, 1) := by decide +kernel
theorem dX11_runThrough_73 : decode cX11_runThrough 73 = .ok (.iload_n 2, 1) := by decide +kernel
theorem dX11_runThrough_74 : decode cX11_runThrough 74 = .ok (.iload 7, 2) := by decide +kernel
theorem dX11_runThrough_76 : decode cX11_runThrough 76 = .ok (.iload 4, 2) := by decide +kernel
theorem dX11_runThrough_78 : decode cX11_runThrough 78 = .ok (.imul, 1) := by decide +kernel
theorem dX11_runThrough_79 : decode cX11_runThrough 79 = .ok (.isub, 1) := by decide +kernel
theorem dX11_runThrough_80 : decode cX11_runThrough 80 = .ok (.iload 5, 2) := by decide +kernel
theorem dX11_runThrough_82 : decode cX11_runThrough 82 = .ok (.invokevirtual 32, 3) := by decide +kernel
theorem dX11_runThrough_85 : decode cX11_runThrough 85 = .ok (.ifCond .eq 12, 3) := by decide +kernel
theorem dX11_runThrough_88 : decode cX11_runThrough 88 = .ok (.iinc 6 1, 3) := by decide +kernel
theorem dX11_runThrough_91 : decode cX11_runThrough 91 = .ok (.iinc 7 1, 3) := by decide +kernel
theorem dX11_runThrough_94 : decode cX11_runThrough 94 = .ok (.goto (-37), 3) := by decide +kernel
theorem dX11_runThrough_97 : decode cX11_runThrough 97 = .ok (.iload 6, 2) := by decide +kernel
theorem dX11_runThrough_99 : decode cX11_runThrough 99 = .ok (.ireturn, 1) := by decide +kernel
set_option maxRecDepth 20000 in
theorem ggX11_mark_X11_isNarrow : GoodIn wsX11_mark wsX11_isNarrow := goodIn_r _ [6, 7, 8, 9, 10, 11, 12, 13, 14, 15, 16, 17, 18, 5, 19, 20, 21, 22, 23, 29, 30, 31, 32, 33, 34, 35, 36, 37, 38] (by decide +kernel) (by decide +kernel)
set_option maxRecDepth 20000 in
theorem gX11_mark_X11_isNarrow : GoodIn wsX11_mark (va_wsS RX11 42 yX11_isNarrow wsX11_isNarrow) := goodIn_app (goodIn_of _ (by decide +kernel)) ggX11_mark_X11_isNarrow
set_option maxRecDepth 20000 in
theorem ggX11_mark_X11_setMark : GoodIn wsX11_mark wsX11_setMark := goodIn_r _ [27, 28, 39] (by decide +kernel) (by decide +kernel)
set_option maxRecDepth 20000 in
theorem gX11_mark_X11_setMark : GoodIn wsX11_mark (wsV RX11 46 RX11 yX11_setMark wsX11_setMark) := goodIn_app (goodIn_of _ (by decide +kernel)) ggX11_mark_X11_setMark
theorem dX11_mark_0 : decode cX11_mark 0 = .ok (.iconst 0, 1) := by decide +kernel
theorem dX11_mark_1 : decode cX11_mark 1 = .ok (.istore_n 2, 1) := by decide +kernel
theorem dX11_mark_2 : decode cX11_mark 2 = .ok (.iconst 0, 1) := by decide +kernel
theorem dX11_mark_3 : decode cX11_mark 3 = .ok (.istore_n 3, 1) := by decide +kernel
theorem dX11_mark_4 : decode cX11_mark 4 = .ok (.iload_n 3, 1) := by decide +kernel
theorem dX11_mark_5 : decode cX11_mark 5 = .ok (.aload_n 1, 1) := by decide +kernel
theorem dX11_mark_6 : decode cX11_mark 6 = .ok (.getfield 36, 3) := by decide +kernel
theorem dX11_mark_9 : decode cX11_mark 9 = .ok (.if_icmp .ge 58, 3) := by decide +kernel
theorem dX11_mark_12 : decode cX11_mark 12 = .ok (.iconst 0, 1) := by decide +kernel
theorem dX11_mark_13 : decode cX11_mark 13 = .ok (.istore 4, 2) := by decide +kernel
theorem dX11_mark_15 : decode cX11_mark 15 = .ok (.iload 4, 2) := by decide +kernel
theorem dX11_mark_17 : decode cX11_mark 17 = .ok (.aload_n 1, 1) := by decide +kernel
theorem dX11_mark_18 : decode cX11_mark 18 = .ok (.getfield 39, 3) := by decide +kernel
theorem dX11_mark_21 : decode cX11_mark 21 = .ok (.if_icmp .ge 40, 3) := by decide +kernel
theorem dX11_mark_24 : decode cX11_mark 24 = .ok (.aload_n 1, 1) := by decide +kernel
theorem dX11_mark_25 : decode cX11_mark 25 = .ok (.iload 4, 2) := by decide +kernel
theorem dX11_mark_27 : decode cX11_mark 27 = .ok (.iload_n 3, 1) := by decide +kernel
theorem dX11_mark_28 : decode cX11_mark 28 = .ok (.invokestatic 42, 3) := by decide +kernel
theorem dX11_mark_31 : decode cX11_mark 31 = .ok (.istore 5, 2) := by decide +kernel
theorem dX11_mark_33 : decode cX11_mark 33 = .ok (.aload_n 0, 1) := by decide +kernel
theorem dX11_mark_34 : decode cX11_mark 34 = .ok (.iload 4, 2) := by decide +kernel
theorem dX11_mark_36 : decode cX11_mark 36 = .ok (.iload_n 3, 1) := by decide +kernel
theorem dX11_mark_37 : decode cX11_mark 37 = .ok (.iload 5, 2) := by decide +kernel
theorem dX11_mark_39 : decode cX11_mark 39 = .ok (.invokevirtual 46, 3) := by decide +kernel
theorem dX11_mark_42 : decode cX11_mark 42 = .ok (.iload_n 2, 1) := by decide +kernel
theorem dX11_mark_43 : decode cX11_mark 43 = .ok (.iload 5, 2) := by decide +kernel
theorem dX11_mark_45 : decode cX11_mark 45 = .ok (.ifCond .eq 7, 3) := by decide +kernel
theorem dX11_mark_48 : decode cX11_mark 48 = .ok (.iconst 1, 1) := by decide +kernel
theorem dX11_mark_49 : decode cX11_mark 49 = .ok (.goto 4, 3) := by decide +kernel
theorem dX11_mark_52 : decode cX11_mark 52 = .ok (.iconst 0, 1) := by decide +kernel
theorem dX11_mark_53 : decode cX11_mark 53 = .ok (.iadd, 1) := by decide +kernel
theorem dX11_mark_54 : decode cX11_mark 54 = .ok (.istore_n 2, 1) := by decide +kernel
theorem dX11_mark_55 : decode cX11_mark 55 = .ok (.iinc 4 1, 3) := by decide +kernel
theorem dX11_mark_58 : decode cX11_mark 58 = .ok (.goto (-43), 3) := by decide +kernel
theorem dX11_mark_61 : decode cX11_mark 61 = .ok (.iinc 3 1, 3) := by decide +kernel
theorem dX11_mark_64 : decode cX11_mark 64 = .ok (.goto (-60), 3) := by decide +kernel
theorem dX11_mark_67 : decode cX11_mark 67 = .ok (.iload_n 2, 1) := by decide +kernel
theorem dX11_mark_68 : decode cX11_mark 68 = .ok (.ireturn, 1) := by decide +kernel
theorem dX11_setMark_0 : decode cX11_setMark 0 = .ok (.iload_n 2, 1) := by decide +kernel
theorem dX11_setMark_1 : decode cX11_setMark 1 = .ok (.bipush 16, 2) := by decide +kernel
theorem dX11_setMark_3 : decode cX11_setMark 3 = .ok (.imul, 1) := by decide +kernel
theorem dX11_setMark_4 : decode cX11_setMark 4 = .ok (.iload_n 1, 1) := by decide +kernel
theorem dX11_setMark_5 : decode cX11_setMark 5 = .ok (.iadd, 1) := by decide +kernel
theorem dX11_setMark_6 : decode cX11_setMark 6 = .ok (.istore 4, 2) := by decide +kernel
theorem dX11_setMark_8 : decode cX11_setMark 8 = .ok (.iload 4, 2) := by decide +kernel
theorem dX11_setMark_10 : decode cX11_setMark 10 = .ok (.ifCond .lt 21, 3) := by decide +kernel
theorem dX11_setMark_13 : decode cX11_setMark 13 = .ok (.iload 4, 2) := by decide +kernel
theorem dX11_setMark_15 : decode cX11_setMark 15 = .ok (.aload_n 0, 1) := by decide +kernel
theorem dX11_setMark_16 : decode cX11_setMark 16 = .ok (.getfield 9, 3) := by decide +kernel
theorem dX11_setMark_19 : decode cX11_setMark 19 = .ok (.arraylength, 1) := by decide +kernel
theorem dX11_setMark_20 : decode cX11_setMark 20 = .ok (.if_icmp .ge 11, 3) := by decide +kernel
theorem dX11_setMark_23 : decode cX11_setMark 23 = .ok (.aload_n 0, 1) := by decide +kernel
theorem dX11_setMark_24 : decode cX11_setMark 24 = .ok (.getfield 9, 3) := by decide +kernel
theorem dX11_setMark_27 : decode cX11_setMark 27 = .ok (.iload 4, 2) := by decide +kernel
theorem dX11_setMark_29 : decode cX11_setMark 29 = .ok (.iload_n 3, 1) := by decide +kernel
theorem dX11_setMark_30 : decode cX11_setMark 30 = .ok (.bastore, 1) := by decide +kernel
theorem dX11_setMark_31 : decode cX11_setMark 31 = .ok (.return_, 1) := by decide +kernel
theorem dX11_hasMark_0 : decode cX11_hasMark 0 = .ok (.iload_n 2, 1) := by decide +kernel
theorem dX11_hasMark_1 : decode cX11_hasMark 1 = .ok (.bipush 16, 2) := by decide +kernel
theorem dX11_hasMark_3 : decode cX11_hasMark 3 = .ok (.imul, 1) := by decide +kernel
theorem dX11_hasMark_4 : decode cX11_hasMark 4 = .ok (.iload_n 1, 1) := by decide +kernel
theorem dX11_hasMark_5 : decode cX11_hasMark 5 = .ok (.iadd, 1) := by decide +kernel
theorem dX11_hasMark_6 : decode cX11_hasMark 6 = .ok (.istore_n 3, 1) := by decide +kernel
theorem dX11_hasMark_7 : decode cX11_hasMark 7 = .ok (.iload_n 3, 1) := by decide +kernel
theorem dX11_hasMark_8 : decode cX11_hasMark 8 = .ok (.ifCond .lt 25, 3) := by decide +kernel
theorem dX11_hasMark_11 : decode cX11_hasMark 11 = .ok (.iload_n 3, 1) := by decide +kernel
theorem dX11_hasMark_12 : decode cX11_hasMark 12 = .ok (.aload_n 0, 1) := by decide +kernel
theorem dX11_hasMark_13 : decode cX11_hasMark 13 = .ok (.getfield 9, 3) := by decide +kernel
theorem dX11_hasMark_16 : decode cX11_hasMark 16 = .ok (.arraylength, 1) := by decide +kernel
theorem dX11_hasMark_17 : decode cX11_hasMark 17 = .ok (.if_icmp .ge 16, 3) := by decide +kernel
theorem dX11_hasMark_20 : decode cX11_hasMark 20 = .ok (.aload_n 0, 1) := by decide +kernel
theorem dX11_hasMark_21 : decode cX11_hasMark 21 = .ok (.getfield 9, 3) := by decide +kernel
theorem dX11_hasMark_24 : decode cX11_hasMark 24 = .ok (.iload_n 3, 1) := by decide +kernel
theorem dX11_hasMark_25 : decode cX11_hasMark 25 = .ok (.baload, 1) := by decide +kernel
theorem dX11_hasMark_26 : decode cX11_hasMark 26 = .ok (.ifCond .eq 7, 3) := by decide +kernel
theorem dX11_hasMark_29 : decode cX11_hasMark 29 = .ok (.iconst 1, 1) := by decide +kernel
theorem dX11_hasMark_30 : decode cX11_hasMark 30 = .ok (.goto 4, 3) := by decide +kernel
theorem dX11_hasMark_33 : decode cX11_hasMark 33 = .ok (.iconst 0, 1) := by decide +kernel
theorem dX11_hasMark_34 : decode cX11_hasMark 34 = .ok (.ireturn, 1) := by decide +kernel
set_option maxRecDepth 20000 in
theorem ggX11_lowerMarked_X11_hasMark : GoodIn wsX11_lowerMarked wsX11_hasMark := goodIn_r _ [7, 8, 35] (by decide +kernel) (by decide +kernel)
set_option maxRecDepth 20000 in
theorem gX11_lowerMarked_X11_hasMark : GoodIn wsX11_lowerMarked (wsV RX11 50 RX11 yX11_hasMark wsX11_hasMark) := goodIn_app (goodIn_of _ (by decide +kernel)) ggX11_lowerMarked_X11_hasMark
set_option maxRecDepth 20000 in
theorem ggX11_lowerMarked_X5_heightAt : GoodIn wsX11_lowerMarked wsX5_heightAt := goodIn_r _ [13, 14, 15, 16, 25, 26, 27, 28, 29, 30, 31, 32, 33, 34] (by decide +kernel) (by decide +kernel)
set_option maxRecDepth 20000 in
theorem gX11_lowerMarked_X5_heightAt : GoodIn wsX11_lowerMarked (wsV RX11 15 RX5 yX5_heightAt wsX5_heightAt) := goodIn_app (goodIn_of _ (by decide +kernel)) ggX11_lowerMarked_X5_heightAt
set_option maxRecDepth 20000 in
theorem ggX11_lowerMarked_X5_build : GoodIn wsX11_lowerMarked wsX5_build := goodIn_r _ [20, 16, 21, 22, 23, 12, 24, 14, 15, 25, 26, 27, 28, 29, 30, 31, 32, 33, 34] (by decide +kernel) (by decide +kernel)
set_option maxRecDepth 20000 in
theorem gX11_lowerMarked_X5_build : GoodIn wsX11_lowerMarked (wsV RX11 54 RX5 yX5_build wsX5_build) := goodIn_app (goodIn_of _ (by decide +kernel)) ggX11_lowerMarked_X5_build
theorem dX11_lowerMarked_0 : decode cX11_lowerMarked 0 = .ok (.iconst 0, 1) := by decide +kernel
theorem dX11_lowerMarked_1 : decode cX11_lowerMarked 1 = .ok (.istore_n 2, 1) := by decide +kernel
theorem dX11_lowerMarked_2 : decode cX11_lowerMarked 2 = .ok (.iload_n 2, 1) := by decide +kernel
theorem dX11_lowerMarked_3 : decode cX11_lowerMarked 3 = .ok (.aload_n 1, 1) := by decide +kernel
theorem dX11_lowerMarked_4 : decode cX11_lowerMarked 4 = .ok (.getfield 36, 3) := by decide +kernel
theorem dX11_lowerMarked_7 : decode cX11_lowerMarked 7 = .ok (.if_icmp .ge 49, 3) := by decide +kernel
theorem dX11_lowerMarked_10 : decode cX11_lowerMarked 10 = .ok (.iconst 0, 1) := by decide +kernel
theorem dX11_lowerMarked_11 : decode cX11_lowerMarked 11 = .ok (.istore_n 3, 1) := by decide +kernel
theorem dX11_lowerMarked_12 : decode cX11_lowerMarked 12 = .ok (.iload_n 3, 1) := by decide +kernel
theorem dX11_lowerMarked_13 : decode cX11_lowerMarked 13 = .ok (.aload_n 1, 1) := by decide +kernel
theorem dX11_lowerMarked_14 : decode cX11_lowerMarked 14 = .ok (.getfield 39, 3) := by decide +kernel
theorem dX11_lowerMarked_17 : decode cX11_lowerMarked 17 = .ok (.if_icmp .ge 33, 3) := by decide +kernel
theorem dX11_lowerMarked_20 : decode cX11_lowerMarked 20 = .ok (.aload_n 0, 1) := by decide +kernel
theorem dX11_lowerMarked_21 : decode cX11_lowerMarked 21 = .ok (.iload_n 3, 1) := by decide +kernel
theorem dX11_lowerMarked_22 : decode cX11_lowerMarked 22 = .ok (.iload_n 2, 1) := by decide +kernel
theorem dX11_lowerMarked_23 : decode cX11_lowerMarked 23 = .ok (.invokevirtual 50, 3) := by decide +kernel
theorem dX11_lowerMarked_26 : decode cX11_lowerMarked 26 = .ok (.ifCond .eq 18, 3) := by decide +kernel
theorem dX11_lowerMarked_29 : decode cX11_lowerMarked 29 = .ok (.aload_n 1, 1) := by decide +kernel
theorem dX11_lowerMarked_30 : decode cX11_lowerMarked 30 = .ok (.iload_n 3, 1) := by decide +kernel
theorem dX11_lowerMarked_31 : decode cX11_lowerMarked 31 = .ok (.iload_n 2, 1) := by decide +kernel
theorem dX11_lowerMarked_32 : decode cX11_lowerMarked 32 = .ok (.aload_n 1, 1) := by decide +kernel
theorem dX11_lowerMarked_33 : decode cX11_lowerMarked 33 = .ok (.iload_n 3, 1) := by decide +kernel
theorem dX11_lowerMarked_34 : decode cX11_lowerMarked 34 = .ok (.iload_n 2, 1) := by decide +kernel
theorem dX11_lowerMarked_35 : decode cX11_lowerMarked 35 = .ok (.invokevirtual 15, 3) := by decide +kernel
theorem dX11_lowerMarked_38 : decode cX11_lowerMarked 38 = .ok (.iconst 1, 1) := by decide +kernel
theorem dX11_lowerMarked_39 : decode cX11_lowerMarked 39 = .ok (.isub, 1) := by decide +kernel
theorem dX11_lowerMarked_40 : decode cX11_lowerMarked 40 = .ok (.invokevirtual 54, 3) := by decide +kernel
theorem dX11_lowerMarked_43 : decode cX11_lowerMarked 43 = .ok (.pop, 1) := by decide +kernel
theorem dX11_lowerMarked_44 : decode cX11_lowerMarked 44 = .ok (.iinc 3 1, 3) := by decide +kernel
theorem dX11_lowerMarked_47 : decode cX11_lowerMarked 47 = .ok (.goto (-35), 3) := by decide +kernel
theorem dX11_lowerMarked_50 : decode cX11_lowerMarked 50 = .ok (.iinc 2 1, 3) := by decide +kernel
theorem dX11_lowerMarked_53 : decode cX11_lowerMarked 53 = .ok (.goto (-51), 3) := by decide +kernel
theorem dX11_lowerMarked_56 : decode cX11_lowerMarked 56 = .ok (.return_, 1) := by decide +kernel
set_option maxRecDepth 20000 in
theorem ggX11_takeDown_X11_mark : GoodIn wsX11_takeDown wsX11_mark := goodIn_r _ [5, 6, 7, 8, 9, 4, 10, 11, 12, 13, 14, 15, 16, 17, 18, 19, 20, 21, 22, 23, 24, 25, 26, 27, 28, 29, 30, 31, 32, 49, 50, 51, 52, 53, 54, 55, 56, 57, 58, 59] (by decide +kernel) (by decide +kernel)
set_option maxRecDepth 20000 in
theorem gX11_takeDown_X11_mark : GoodIn wsX11_takeDown (wsV RX11 58 RX11 yX11_mark wsX11_mark) := goodIn_app (goodIn_of _ (by decide +kernel)) ggX11_takeDown_X11_mark
set_option maxRecDepth 20000 in
theorem ggX11_takeDown_X11_lowerMarked : GoodIn wsX11_takeDown wsX11_lowerMarked := goodIn_r _ [36, 6, 7, 37, 38, 39, 4, 40, 32, 13, 14, 15, 16, 17, 18, 19, 20, 41, 42, 43, 44, 45, 46, 47, 48, 49, 50, 51, 52, 53, 54, 55, 56, 57, 58, 59] (by decide +kernel) (by decide +kernel)
set_option maxRecDepth 20000 in
theorem gX11_takeDown_X11_lowerMarked : GoodIn wsX11_takeDown (wsV RX11 62 RX11 yX11_lowerMarked wsX11_lowerMarked) := goodIn_app (goodIn_of _ (by decide +kernel)) ggX11_takeDown_X11_lowerMarked
theorem dX11_takeDown_0 : decode cX11_takeDown 0 = .ok (.iconst 0, 1) := by decide +kernel
theorem dX11_takeDown_1 : decode cX11_takeDown 1 = .ok (.istore_n 2, 1) := by decide +kernel
theorem dX11_takeDown_2 : decode cX11_takeDown 2 = .ok (.iconst 0, 1) := by decide +kernel
theorem dX11_takeDown_3 : decode cX11_takeDown 3 = .ok (.istore_n 3, 1) := by decide +kernel
theorem dX11_takeDown_4 : decode cX11_takeDown 4 = .ok (.iload_n 3, 1) := by decide +kernel
theorem dX11_takeDown_5 : decode cX11_takeDown 5 = .ok (.sipush 3840, 3) := by decide +kernel
theorem dX11_takeDown_8 : decode cX11_takeDown 8 = .ok (.if_icmp .ge 25, 3) := by decide +kernel
theorem dX11_takeDown_11 : decode cX11_takeDown 11 = .ok (.aload_n 0, 1) := by decide +kernel
theorem dX11_takeDown_12 : decode cX11_takeDown 12 = .ok (.aload_n 1, 1) := by decide +kernel
theorem dX11_takeDown_13 : decode cX11_takeDown 13 = .ok (.invokevirtual 58, 3) := by decide +kernel
theorem dX11_takeDown_16 : decode cX11_takeDown 16 = .ok (.ifCond .le 17, 3) := by decide +kernel
theorem dX11_takeDown_19 : decode cX11_takeDown 19 = .ok (.aload_n 0, 1) := by decide +kernel
theorem dX11_takeDown_20 : decode cX11_takeDown 20 = .ok (.aload_n 1, 1) := by decide +kernel
theorem dX11_takeDown_21 : decode cX11_takeDown 21 = .ok (.invokevirtual 62, 3) := by decide +kernel
theorem dX11_takeDown_24 : decode cX11_takeDown 24 = .ok (.iinc 2 1, 3) := by decide +kernel
theorem dX11_takeDown_27 : decode cX11_takeDown 27 = .ok (.iinc 3 1, 3) := by decide +kernel
theorem dX11_takeDown_30 : decode cX11_takeDown 30 = .ok (.goto (-26), 3) := by decide +kernel
theorem dX11_takeDown_33 : decode cX11_takeDown 33 = .ok (.iload_n 2, 1) := by decide +kernel
theorem dX11_takeDown_34 : decode cX11_takeDown 34 = .ok (.ireturn, 1) := by decide +kernel
theorem dX11_isLimit_0 : decode cX11_isLimit 0 = .ok (.iload_n 0, 1) := by decide +kernel
theorem dX11_isLimit_1 : decode cX11_isLimit 1 = .ok (.iconst 1, 1) := by decide +kernel
theorem dX11_isLimit_2 : decode cX11_isLimit 2 = .ok (.if_icmp .lt 13, 3) := by decide +kernel
theorem dX11_isLimit_5 : decode cX11_isLimit 5 = .ok (.iload_n 0, 1) := by decide +kernel
theorem dX11_isLimit_6 : decode cX11_isLimit 6 = .ok (.bipush 20, 2) := by decide +kernel
theorem dX11_isLimit_8 : decode cX11_isLimit 8 = .ok (.if_icmp .gt 7, 3) := by decide +kernel
theorem dX11_isLimit_11 : decode cX11_isLimit 11 = .ok (.iconst 1, 1) := by decide +kernel
theorem dX11_isLimit_12 : decode cX11_isLimit 12 = .ok (.goto 4, 3) := by decide +kernel
theorem dX11_isLimit_15 : decode cX11_isLimit 15 = .ok (.iconst 0, 1) := by decide +kernel
theorem dX11_isLimit_16 : decode cX11_isLimit 16 = .ok (.ireturn, 1) := by decide +kernel
set_option maxRecDepth 20000 in
theorem ggX11_flatten_X5_copyFrom : GoodIn wsX11_flatten wsX5_copyFrom := goodIn_r _ [7, 8, 9, 10, 11, 12, 13, 14, 15, 16, 17, 18, 19, 20, 21, 22, 23, 6, 24, 25, 52, 53, 54, 55, 56, 57, 58, 59, 60, 61] (by decide +kernel) (by decide +kernel)
set_option maxRecDepth 20000 in
theorem gX11_flatten_X5_copyFrom : GoodIn wsX11_flatten (wsV RX11 66 RX5 yX5_copyFrom wsX5_copyFrom) := goodIn_app (goodIn_of _ (by decide +kernel)) ggX11_flatten_X5_copyFrom
set_option maxRecDepth 20000 in
theorem ggX11_flatten_X11_raiseBeside : GoodIn wsX11_flatten wsX11_raiseBeside := goodIn_r _ [29, 30, 31, 32, 33, 34, 35, 36, 6, 37, 8, 9, 38, 39, 40, 41, 25, 42, 43, 44, 45, 46, 52, 53, 54, 55, 56, 57, 58, 59, 60, 61] (by decide +kernel) (by decide +kernel)
set_option maxRecDepth 20000 in
theorem gX11_flatten_X11_raiseBeside : GoodIn wsX11_flatten (va_wsS RX11 69 yX11_raiseBeside wsX11_raiseBeside) := goodIn_app (goodIn_of _ (by decide +kernel)) ggX11_flatten_X11_raiseBeside
set_option maxRecDepth 20000 in
theorem ggX11_flatten_X5_differencesTo : GoodIn wsX11_flatten wsX5_differencesTo := goodIn_r _ [50, 9, 8, 51, 39, 40, 6, 41, 25, 52, 53, 54, 55, 56, 57, 58, 59, 60, 61] (by decide +kernel) (by decide +kernel)
set_option maxRecDepth 20000 in
theorem gX11_flatten_X5_differencesTo : GoodIn wsX11_flatten (wsV RX11 73 RX5 yX5_differencesTo wsX5_differencesTo) := goodIn_app (goodIn_of _ (by decide +kernel)) ggX11_flatten_X5_differencesTo
theorem dX11_flatten_0 : decode cX11_flatten 0 = .ok (.aload_n 1, 1) := by decide +kernel
theorem dX11_flatten_1 : decode cX11_flatten 1 = .ok (.aload_n 0, 1) := by decide +kernel
theorem dX11_flatten_2 : decode cX11_flatten 2 = .ok (.invokevirtual 66, 3) := by decide +kernel
theorem dX11_flatten_5 : decode cX11_flatten 5 = .ok (.iconst 0, 1) := by decide +kernel
theorem dX11_flatten_6 : decode cX11_flatten 6 = .ok (.istore_n 3, 1) := by decide +kernel
theorem dX11_flatten_7 : decode cX11_flatten 7 = .ok (.iload_n 3, 1) := by decide +kernel
theorem dX11_flatten_8 : decode cX11_flatten 8 = .ok (.aload_n 0, 1) := by decide +kernel
theorem dX11_flatten_9 : decode cX11_flatten 9 = .ok (.getfield 36, 3) := by decide +kernel
theorem dX11_flatten_12 : decode cX11_flatten 12 = .ok (.if_icmp .ge 53, 3) := by decide +kernel
theorem dX11_flatten_15 : decode cX11_flatten 15 = .ok (.iconst 0, 1) := by decide +kernel
theorem dX11_flatten_16 : decode cX11_flatten 16 = .ok (.istore 4, 2) := by decide +kernel
theorem dX11_flatten_18 : decode cX11_flatten 18 = .ok (.iload 4, 2) := by decide +kernel
theorem dX11_flatten_20 : decode cX11_flatten 20 = .ok (.aload_n 0, 1) := by decide +kernel
theorem dX11_flatten_21 : decode cX11_flatten 21 = .ok (.getfield 39, 3) := by decide +kernel
theorem dX11_flatten_24 : decode cX11_flatten 24 = .ok (.if_icmp .ge 35, 3) := by decide +kernel
theorem dX11_flatten_27 : decode cX11_flatten 27 = .ok (.aload_n 0, 1) := by decide +kernel
theorem dX11_flatten_28 : decode cX11_flatten 28 = .ok (.iload 4, 2) := by decide +kernel
theorem dX11_flatten_30 : decode cX11_flatten 30 = .ok (.iload_n 3, 1) := by decide +kernel
theorem dX11_flatten_31 : decode cX11_flatten 31 = .ok (.iload 4, 2) := by decide +kernel
theorem dX11_flatten_33 : decode cX11_flatten 33 = .ok (.iconst 1, 1) := by decide +kernel
theorem dX11_flatten_34 : decode cX11_flatten 34 = .ok (.isub, 1) := by decide +kernel
theorem dX11_flatten_35 : decode cX11_flatten 35 = .ok (.iload_n 3, 1) := by decide +kernel
theorem dX11_flatten_36 : decode cX11_flatten 36 = .ok (.iload_n 2, 1) := by decide +kernel
theorem dX11_flatten_37 : decode cX11_flatten 37 = .ok (.invokestatic 69, 3) := by decide +kernel
theorem dX11_flatten_40 : decode cX11_flatten 40 = .ok (.aload_n 0, 1) := by decide +kernel
theorem dX11_flatten_41 : decode cX11_flatten 41 = .ok (.iload 4, 2) := by decide +kernel
theorem dX11_flatten_43 : decode cX11_flatten 43 = .ok (.iload_n 3, 1) := by decide +kernel
theorem dX11_flatten_44 : decode cX11_flatten 44 = .ok (.iload 4, 2) := by decide +kernel
theorem dX11_flatten_46 : decode cX11_flatten 46 = .ok (.iload_n 3, 1) := by decide +kernel
theorem dX11_flatten_47 : decode cX11_flatten 47 = .ok (.iconst 1, 1) := by decide +kernel
theorem dX11_flatten_48 : decode cX11_flatten 48 = .ok (.isub, 1) := by decide +kernel
theorem dX11_flatten_49 : decode cX11_flatten 49 = .ok (.iload_n 2, 1) := by decide +kernel
theorem dX11_flatten_50 : decode cX11_flatten 50 = .ok (.invokestatic 69, 3) := by decide +kernel
theorem dX11_flatten_53 : decode cX11_flatten 53 = .ok (.iinc 4 1, 3) := by decide +kernel
theorem dX11_flatten_56 : decode cX11_flatten 56 = .ok (.goto (-38), 3) := by decide +kernel
theorem dX11_flatten_59 : decode cX11_flatten 59 = .ok (.iinc 3 1, 3) := by decide +kernel
theorem dX11_flatten_62 : decode cX11_flatten 62 = .ok (.goto (-55), 3) := by decide +kernel
theorem dX11_flatten_65 : decode cX11_flatten 65 = .ok (.aload_n 0, 1) := by decide +kernel
theorem dX11_flatten_66 : decode cX11_flatten 66 = .ok (.getfield 36, 3) := by decide +kernel
theorem dX11_flatten_69 : decode cX11_flatten 69 = .ok (.iconst 1, 1) := by decide +kernel
theorem dX11_flatten_70 : decode cX11_flatten 70 = .ok (.isub, 1) := by decide +kernel
theorem dX11_flatten_71 : decode cX11_flatten 71 = .ok (.istore_n 3, 1) := by decide +kernel
theorem dX11_flatten_72 : decode cX11_flatten 72 = .ok (.iload_n 3, 1) := by decide +kernel
theorem dX11_flatten_73 : decode cX11_flatten 73 = .ok (.ifCond .lt 54, 3) := by decide +kernel
theorem dX11_flatten_76 : decode cX11_flatten 76 = .ok (.aload_n 0, 1) := by decide +kernel
theorem dX11_flatten_77 : decode cX11_flatten 77 = .ok (.getfield 39, 3) := by decide +kernel
theorem dX11_flatten_80 : decode cX11_flatten 80 = .ok (.iconst 1, 1) := by decide +kernel
theorem dX11_flatten_81 : decode cX11_flatten 81 = .ok (.isub, 1) := by decide +kernel
theorem dX11_flatten_82 : decode cX11_flatten 82 = .ok (.istore 4, 2) := by decide +kernel
theorem dX11_flatten_84 : decode cX11_flatten 84 = .ok (.iload 4, 2) := by decide +kernel
theorem dX11_flatten_86 : decode cX11_flatten 86 = .ok (.ifCond .lt 35, 3) := by decide +kernel
theorem dX11_flatten_89 : decode cX11_flatten 89 = .ok (.aload_n 0, 1) := by decide +kernel
theorem dX11_flatten_90 : decode cX11_flatten 90 = .ok (.iload 4, 2) := by decide +kernel
theorem dX11_flatten_92 : decode cX11_flatten 92 = .ok (.iload_n 3, 1) := by decide +kernel
theorem dX11_flatten_93 : decode cX11_flatten 93 = .ok (.iload 4, 2) := by decide +kernel
theorem dX11_flatten_95 : decode cX11_flatten 95 = .ok (.iconst 1, 1) := by decide +kernel
theorem dX11_flatten_96 : decode cX11_flatten 96 = .ok (.iadd, 1) := by decide +kernel
theorem dX11_flatten_97 : decode cX11_flatten 97 = .ok (.iload_n 3, 1) := by decide +kernel
theorem dX11_flatten_98 : decode cX11_flatten 98 = .ok (.iload_n 2, 1) := by decide +kernel
theorem dX11_flatten_99 : decode cX11_flatten 99 = .ok (.invokestatic 69, 3) := by decide +kernel
theorem dX11_flatten_102 : decode cX11_flatten 102 = .ok (.aload_n 0, 1) := by decide +kernel
theorem dX11_flatten_103 : decode cX11_flatten 103 = .ok (.iload 4, 2) := by decide +kernel
theorem dX11_flatten_105 : decode cX11_flatten 105 = .ok (.iload_n 3, 1) := by decide +kernel
theorem dX11_flatten_106 : decode cX11_flatten 106 = .ok (.iload 4, 2) := by decide +kernel
theorem dX11_flatten_108 : decode cX11_flatten 108 = .ok (.iload_n 3, 1) := by decide +kernel
theorem dX11_flatten_109 : decode cX11_flatten 109 = .ok (.iconst 1, 1) := by decide +kernel
theorem dX11_flatten_110 : decode cX11_flatten 110 = .ok (.iadd, 1) := by decide +kernel
theorem dX11_flatten_111 : decode cX11_flatten 111 = .ok (.iload_n 2, 1) := by decide +kernel
theorem dX11_flatten_112 : decode cX11_flatten 112 = .ok (.invokestatic 69, 3) := by decide +kernel
theorem dX11_flatten_115 : decode cX11_flatten 115 = .ok (.iinc 4 (-1), 3) := by decide +kernel
theorem dX11_flatten_118 : decode cX11_flatten 118 = .ok (.goto (-34), 3) := by decide +kernel
theorem dX11_flatten_121 : decode cX11_flatten 121 = .ok (.iinc 3 (-1), 3) := by decide +kernel
theorem dX11_flatten_124 : decode cX11_flatten 124 = .ok (.goto (-52), 3) := by decide +kernel
theorem dX11_flatten_127 : decode cX11_flatten 127 = .ok (.aload_n 0, 1) := by decide +kernel
theorem dX11_flatten_128 : decode cX11_flatten 128 = .ok (.aload_n 1, 1) := by decide +kernel
theorem dX11_flatten_129 : decode cX11_flatten 129 = .ok (.invokevirtual 73, 3) := by decide +kernel
theorem dX11_flatten_132 : decode cX11_flatten 132 = .ok (.ireturn, 1) := by decide +kernel
set_option maxRecDepth 20000 in
theorem ggX11_raiseBeside_X5_has : GoodIn wsX11_raiseBeside wsX5_has := goodIn_r _ [9, 10, 11, 22, 23, 24, 25, 26, 27, 28, 29, 30, 31] (by decide +kernel) (by decide +kernel)
set_option maxRecDepth 20000 in
theorem gX11_raiseBeside_X5_has : GoodIn wsX11_raiseBeside (wsV RX11 76 RX5 yX5_has wsX5_has) := goodIn_app (goodIn_of _ (by decide +kernel)) ggX11_raiseBeside_X5_has
set_option maxRecDepth 20000 in
theorem ggX11_raiseBeside_X5_heightAt : GoodIn wsX11_raiseBeside wsX5_heightAt := goodIn_r _ [15, 10, 11, 16, 22, 23, 24, 25, 26, 27, 28, 29, 30, 31] (by decide +kernel) (by decide +kernel)
set_option maxRecDepth 20000 in
theorem gX11_raiseBeside_X5_heightAt : GoodIn wsX11_raiseBeside (wsV RX11 15 RX5 yX5_heightAt wsX5_heightAt) := goodIn_app (goodIn_of _ (by decide +kernel)) ggX11_raiseBeside_X5_heightAt
set_option maxRecDepth 20000 in
theorem ggX11_raiseBeside_X5_build : GoodIn wsX11_raiseBeside wsX5_build := goodIn_r _ [20, 16, 21, 6, 7, 8, 9, 10, 11, 22, 23, 24, 25, 26, 27, 28, 29, 30, 31] (by decide +kernel) (by decide +kernel)
set_option maxRecDepth 20000 in
theorem gX11_raiseBeside_X5_build : GoodIn wsX11_raiseBeside (wsV RX11 54 RX5 yX5_build wsX5_build) := goodIn_app (goodIn_of _ (by decide +kernel)) ggX11_raiseBeside_X5_build
theorem dX11_raiseBeside_0 : decode cX11_raiseBeside 0 = .ok (.aload_n 0, 1) := by decide +kernel
theorem dX11_raiseBeside_1 : decode cX11_raiseBeside 1 = .ok (.iload_n 3, 1) := by decide +kernel
theorem dX11_raiseBeside_2 : decode cX11_raiseBeside 2 = .ok (.iload 4, 2) := by decide +kernel
theorem dX11_raiseBeside_4 : decode cX11_raiseBeside 4 = .ok (.invokevirtual 76, 3) := by decide +kernel
theorem dX11_raiseBeside_7 : decode cX11_raiseBeside 7 = .ok (.ifCond .eq 33, 3) := by decide +kernel
theorem dX11_raiseBeside_10 : decode cX11_raiseBeside 10 = .ok (.aload_n 0, 1) := by decide +kernel
theorem dX11_raiseBeside_11 : decode cX11_raiseBeside 11 = .ok (.iload_n 3, 1) := by decide +kernel
theorem dX11_raiseBeside_12 : decode cX11_raiseBeside 12 = .ok (.iload 4, 2) := by decide +kernel
theorem dX11_raiseBeside_14 : decode cX11_raiseBeside 14 = .ok (.invokevirtual 15, 3) := by decide +kernel
theorem dX11_raiseBeside_17 : decode cX11_raiseBeside 17 = .ok (.iload 5, 2) := by decide +kernel
theorem dX11_raiseBeside_19 : decode cX11_raiseBeside 19 = .ok (.isub, 1) := by decide +kernel
theorem dX11_raiseBeside_20 : decode cX11_raiseBeside 20 = .ok (.istore 6, 2) := by decide +kernel
theorem dX11_raiseBeside_22 : decode cX11_raiseBeside 22 = .ok (.aload_n 0, 1) := by decide +kernel
theorem dX11_raiseBeside_23 : decode cX11_raiseBeside 23 = .ok (.iload_n 1, 1) := by decide +kernel
theorem dX11_raiseBeside_24 : decode cX11_raiseBeside 24 = .ok (.iload_n 2, 1) := by decide +kernel
theorem dX11_raiseBeside_25 : decode cX11_raiseBeside 25 = .ok (.aload_n 0, 1) := by decide +kernel
theorem dX11_raiseBeside_26 : decode cX11_raiseBeside 26 = .ok (.iload_n 1, 1) := by decide +kernel
theorem dX11_raiseBeside_27 : decode cX11_raiseBeside 27 = .ok (.iload_n 2, 1) := by decide +kernel
theorem dX11_raiseBeside_28 : decode cX11_raiseBeside 28 = .ok (.invokevirtual 15, 3) := by decide +kernel
theorem dX11_raiseBeside_31 : decode cX11_raiseBeside 31 = .ok (.iload 6, 2) := by decide +kernel
theorem dX11_raiseBeside_33 : decode cX11_raiseBeside 33 = .ok (.invokestatic 79, 3) := by decide +kernel
theorem dX11_raiseBeside_36 : decode cX11_raiseBeside 36 = .ok (.invokevirtual 54, 3) := by decide +kernel
theorem dX11_raiseBeside_39 : decode cX11_raiseBeside 39 = .ok (.pop, 1) := by decide +kernel
theorem dX11_raiseBeside_40 : decode cX11_raiseBeside 40 = .ok (.return_, 1) := by decide +kernel
