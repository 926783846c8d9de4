theorem dX2_glowAt_0 : decode cX2_glowAt 0 = .ok (.aload_n 0, 1) := by decide +kernel
theorem dX2_glowAt_1 : decode cX2_glowAt 1 = .ok (.iload_n 1, 1) := by decide +kernel
theorem dX2_glowAt_2 : decode cX2_glowAt 2 = .ok (.iload_n 2, 1) := by decide +kernel
theorem dX2_glowAt_3 : decode cX2_glowAt 3 = .ok (.fconst 0, 1) := by decide +kernel
theorem dX2_glowAt_4 : decode cX2_glowAt 4 = .ok (.invokevirtual 9, 3) := by decide +kernel
theorem dX2_glowAt_7 : decode cX2_glowAt 7 = .ok (.fstore_n 3, 1) := by decide +kernel
theorem dX2_glowAt_8 : decode cX2_glowAt 8 = .ok (.fload_n 3, 1) := by decide +kernel
theorem dX2_glowAt_9 : decode cX2_glowAt 9 = .ok (.ldc 15, 2) := by decide +kernel
theorem dX2_glowAt_11 : decode cX2_glowAt 11 = .ok (.fmul, 1) := by decide +kernel
theorem dX2_glowAt_12 : decode cX2_glowAt 12 = .ok (.fstore 4, 2) := by decide +kernel
theorem dX2_glowAt_14 : decode cX2_glowAt 14 = .ok (.fload 4, 2) := by decide +kernel
theorem dX2_glowAt_16 : decode cX2_glowAt 16 = .ok (.aload_n 0, 1) := by decide +kernel
theorem dX2_glowAt_17 : decode cX2_glowAt 17 = .ok (.iload_n 1, 1) := by decide +kernel
theorem dX2_glowAt_18 : decode cX2_glowAt 18 = .ok (.iconst 1, 1) := by decide +kernel
theorem dX2_glowAt_19 : decode cX2_glowAt 19 = .ok (.isub, 1) := by decide +kernel
theorem dX2_glowAt_20 : decode cX2_glowAt 20 = .ok (.iload_n 2, 1) := by decide +kernel
theorem dX2_glowAt_21 : decode cX2_glowAt 21 = .ok (.fload_n 3, 1) := by decide +kernel
theorem dX2_glowAt_22 : decode cX2_glowAt 22 = .ok (.invokevirtual 9, 3) := by decide +kernel
theorem dX2_glowAt_25 : decode cX2_glowAt 25 = .ok (.fadd, 1) := by decide +kernel
theorem dX2_glowAt_26 : decode cX2_glowAt 26 = .ok (.fstore 4, 2) := by decide +kernel
theorem dX2_glowAt_28 : decode cX2_glowAt 28 = .ok (.fload 4, 2) := by decide +kernel
theorem dX2_glowAt_30 : decode cX2_glowAt 30 = .ok (.aload_n 0, 1) := by decide +kernel
theorem dX2_glowAt_31 : decode cX2_glowAt 31 = .ok (.iload_n 1, 1) := by decide +kernel
theorem dX2_glowAt_32 : decode cX2_glowAt 32 = .ok (.iconst 1, 1) := by decide +kernel
theorem dX2_glowAt_33 : decode cX2_glowAt 33 = .ok (.iadd, 1) := by decide +kernel
theorem dX2_glowAt_34 : decode cX2_glowAt 34 = .ok (.iload_n 2, 1) := by decide +kernel
theorem dX2_glowAt_35 : decode cX2_glowAt 35 = .ok (.fload_n 3, 1) := by decide +kernel
theorem dX2_glowAt_36 : decode cX2_glowAt 36 = .ok (.invokevirtual 9, 3) := by decide +kernel
theorem dX2_glowAt_39 : decode cX2_glowAt 39 = .ok (.fadd, 1) := by decide +kernel
theorem dX2_glowAt_40 : decode cX2_glowAt 40 = .ok (.fstore 4, 2) := by decide +kernel
theorem dX2_glowAt_42 : decode cX2_glowAt 42 = .ok (.fload 4, 2) := by decide +kernel
theorem dX2_glowAt_44 : decode cX2_glowAt 44 = .ok (.aload_n 0, 1) := by decide +kernel
theorem dX2_glowAt_45 : decode cX2_glowAt 45 = .ok (.iload_n 1, 1) := by decide +kernel
theorem dX2_glowAt_46 : decode cX2_glowAt 46 = .ok (.iload_n 2, 1) := by decide +kernel
theorem dX2_glowAt_47 : decode cX2_glowAt 47 = .ok (.iconst 1, 1) := by decide +kernel
theorem dX2_glowAt_48 : decode cX2_glowAt 48 = .ok (.isub, 1) := by decide +kernel
theorem dX2_glowAt_49 : decode cX2_glowAt 49 = .ok (.fload_n 3, 1) := by decide +kernel
theorem dX2_glowAt_50 : decode cX2_glowAt 50 = .ok (.invokevirtual 9, 3) := by decide +kernel
theorem dX2_glowAt_53 : decode cX2_glowAt 53 = .ok (.fadd, 1) := by decide +kernel
theorem dX2_glowAt_54 : decode cX2_glowAt 54 = .ok (.fstore 4, 2) := by decide +kernel
theorem dX2_glowAt_56 : decode cX2_glowAt 56 = .ok (.fload 4, 2) := by decide +kernel
theorem dX2_glowAt_58 : decode cX2_glowAt 58 = .ok (.aload_n 0, 1) := by decide +kernel
theorem dX2_glowAt_59 : decode cX2_glowAt 59 = .ok (.iload_n 1, 1) := by decide +kernel
theorem dX2_glowAt_60 : decode cX2_glowAt 60 = .ok (.iload_n 2, 1) := by decide +kernel
theorem dX2_glowAt_61 : decode cX2_glowAt 61 = .ok (.iconst 1, 1) := by decide +kernel
theorem dX2_glowAt_62 : decode cX2_glowAt 62 = .ok (.iadd, 1) := by decide +kernel
theorem dX2_glowAt_63 : decode cX2_glowAt 63 = .ok (.fload_n 3, 1) := by decide +kernel
theorem dX2_glowAt_64 : decode cX2_glowAt 64 = .ok (.invokevirtual 9, 3) := by decide +kernel
theorem dX2_glowAt_67 : decode cX2_glowAt 67 = .ok (.fadd, 1) := by decide +kernel
theorem dX2_glowAt_68 : decode cX2_glowAt 68 = .ok (.fstore 4, 2) := by decide +kernel
theorem dX2_glowAt_70 : decode cX2_glowAt 70 = .ok (.fload 4, 2) := by decide +kernel
theorem dX2_glowAt_72 : decode cX2_glowAt 72 = .ok (.ldc 16, 2) := by decide +kernel
theorem dX2_glowAt_74 : decode cX2_glowAt 74 = .ok (.fdiv, 1) := by decide +kernel
theorem dX2_glowAt_75 : decode cX2_glowAt 75 = .ok (.freturn, 1) := by decide +kernel
theorem dX2_sizeOfMiss_0 : decode cX2_sizeOfMiss 0 = .ok (.aload_n 0, 1) := by decide +kernel
theorem dX2_sizeOfMiss_1 : decode cX2_sizeOfMiss 1 = .ok (.iload_n 1, 1) := by decide +kernel
theorem dX2_sizeOfMiss_2 : decode cX2_sizeOfMiss 2 = .ok (.iload_n 2, 1) := by decide +kernel
theorem dX2_sizeOfMiss_3 : decode cX2_sizeOfMiss 3 = .ok (.invokevirtual 27, 3) := by decide +kernel
theorem dX2_sizeOfMiss_6 : decode cX2_sizeOfMiss 6 = .ok (.ifCond .ne 5, 3) := by decide +kernel
theorem dX2_sizeOfMiss_9 : decode cX2_sizeOfMiss 9 = .ok (.fconst 0, 1) := by decide +kernel
theorem dX2_sizeOfMiss_10 : decode cX2_sizeOfMiss 10 = .ok (.freturn, 1) := by decide +kernel
theorem dX2_sizeOfMiss_11 : decode cX2_sizeOfMiss 11 = .ok (.aload_n 0, 1) := by decide +kernel
theorem dX2_sizeOfMiss_12 : decode cX2_sizeOfMiss 12 = .ok (.iload_n 1, 1) := by decide +kernel
theorem dX2_sizeOfMiss_13 : decode cX2_sizeOfMiss 13 = .ok (.iload_n 2, 1) := by decide +kernel
theorem dX2_sizeOfMiss_14 : decode cX2_sizeOfMiss 14 = .ok (.invokestatic 17, 3) := by decide +kernel
theorem dX2_sizeOfMiss_17 : decode cX2_sizeOfMiss 17 = .ok (.aload_n 0, 1) := by decide +kernel
theorem dX2_sizeOfMiss_18 : decode cX2_sizeOfMiss 18 = .ok (.iload_n 1, 1) := by decide +kernel
theorem dX2_sizeOfMiss_19 : decode cX2_sizeOfMiss 19 = .ok (.iload_n 2, 1) := by decide +kernel
theorem dX2_sizeOfMiss_20 : decode cX2_sizeOfMiss 20 = .ok (.invokevirtual 23, 3) := by decide +kernel
theorem dX2_sizeOfMiss_23 : decode cX2_sizeOfMiss 23 = .ok (.fsub, 1) := by decide +kernel
theorem dX2_sizeOfMiss_24 : decode cX2_sizeOfMiss 24 = .ok (.fstore_n 3, 1) := by decide +kernel
theorem dX2_sizeOfMiss_25 : decode cX2_sizeOfMiss 25 = .ok (.fload_n 3, 1) := by decide +kernel
theorem dX2_sizeOfMiss_26 : decode cX2_sizeOfMiss 26 = .ok (.fconst 0, 1) := by decide +kernel
theorem dX2_sizeOfMiss_27 : decode cX2_sizeOfMiss 27 = .ok (.fcmp .g, 1) := by decide +kernel
theorem dX2_sizeOfMiss_28 : decode cX2_sizeOfMiss 28 = .ok (.ifCond .ge 8, 3) := by decide +kernel
theorem dX2_sizeOfMiss_31 : decode cX2_sizeOfMiss 31 = .ok (.fload_n 3, 1) := by decide +kernel
theorem dX2_sizeOfMiss_32 : decode cX2_sizeOfMiss 32 = .ok (.fneg, 1) := by decide +kernel
theorem dX2_sizeOfMiss_33 : decode cX2_sizeOfMiss 33 = .ok (.goto 4, 3) := by decide +kernel
theorem dX2_sizeOfMiss_36 : decode cX2_sizeOfMiss 36 = .ok (.fload_n 3, 1) := by decide +kernel
theorem dX2_sizeOfMiss_37 : decode cX2_sizeOfMiss 37 = .ok (.freturn, 1) := by decide +kernel
theorem dX2_hash_0 : decode cX2_hash 0 = .ok (.bipush 17, 2) := by decide +kernel
theorem dX2_hash_2 : decode cX2_hash 2 = .ok (.istore_n 1, 1) := by decide +kernel
theorem dX2_hash_3 : decode cX2_hash 3 = .ok (.iconst 0, 1) := by decide +kernel
theorem dX2_hash_4 : decode cX2_hash 4 = .ok (.istore_n 2, 1) := by decide +kernel
theorem dX2_hash_5 : decode cX2_hash 5 = .ok (.iload_n 2, 1) := by decide +kernel
theorem dX2_hash_6 : decode cX2_hash 6 = .ok (.aload_n 0, 1) := by decide +kernel
theorem dX2_hash_7 : decode cX2_hash 7 = .ok (.getfield 31, 3) := by decide +kernel
theorem dX2_hash_10 : decode cX2_hash 10 = .ok (.if_icmp .ge 40, 3) := by decide +kernel
theorem dX2_hash_13 : decode cX2_hash 13 = .ok (.iconst 0, 1) := by decide +kernel
theorem dX2_hash_14 : decode cX2_hash 14 = .ok (.istore_n 3, 1) := by decide +kernel
theorem dX2_hash_15 : decode cX2_hash 15 = .ok (.iload_n 3, 1) := by decide +kernel
theorem dX2_hash_16 : decode cX2_hash 16 = .ok (.aload_n 0, 1) := by decide +kernel
theorem dX2_hash_17 : decode cX2_hash 17 = .ok (.getfield 35, 3) := by decide +kernel
theorem dX2_hash_20 : decode cX2_hash 20 = .ok (.if_icmp .ge 24, 3) := by decide +kernel
theorem dX2_hash_23 : decode cX2_hash 23 = .ok (.iload_n 1, 1) := by decide +kernel
theorem dX2_hash_24 : decode cX2_hash 24 = .ok (.bipush 31, 2) := by decide +kernel
theorem dX2_hash_26 : decode cX2_hash 26 = .ok (.imul, 1) := by decide +kernel
theorem dX2_hash_27 : decode cX2_hash 27 = .ok (.aload_n 0, 1) := by decide +kernel
theorem dX2_hash_28 : decode cX2_hash 28 = .ok (.iload_n 3, 1) := by decide +kernel
theorem dX2_hash_29 : decode cX2_hash 29 = .ok (.iload_n 2, 1) := by decide +kernel
theorem dX2_hash_30 : decode cX2_hash 30 = .ok (.invokestatic 17, 3) := by decide +kernel
theorem dX2_hash_33 : decode cX2_hash 33 = .ok (.invokestatic 41, 3) := by decide +kernel
theorem dX2_hash_36 : decode cX2_hash 36 = .ok (.iadd, 1) := by decide +kernel
theorem dX2_hash_37 : decode cX2_hash 37 = .ok (.istore_n 1, 1) := by decide +kernel
theorem dX2_hash_38 : decode cX2_hash 38 = .ok (.iinc 3 1, 3) := by decide +kernel
theorem dX2_hash_41 : decode cX2_hash 41 = .ok (.goto (-26), 3) := by decide +kernel
theorem dX2_hash_44 : decode cX2_hash 44 = .ok (.iinc 2 1, 3) := by decide +kernel
theorem dX2_hash_47 : decode cX2_hash 47 = .ok (.goto (-42), 3) := by decide +kernel
theorem dX2_hash_50 : decode cX2_hash 50 = .ok (.iload_n 1, 1) := by decide +kernel
theorem dX2_hash_51 : decode cX2_hash 51 = .ok (.ireturn, 1) := by decide +kernel
theorem dX2_bitsOf_0 : decode cX2_bitsOf 0 = .ok (.fload_n 0, 1) := by decide +kernel
theorem dX2_bitsOf_1 : decode cX2_bitsOf 1 = .ok (.fstore_n 1, 1) := by decide +kernel
theorem dX2_bitsOf_2 : decode cX2_bitsOf 2 = .ok (.bipush 127, 2) := by decide +kernel
theorem dX2_bitsOf_4 : decode cX2_bitsOf 4 = .ok (.istore_n 2, 1) := by decide +kernel
theorem dX2_bitsOf_5 : decode cX2_bitsOf 5 = .ok (.iconst 0, 1) := by decide +kernel
theorem dX2_bitsOf_6 : decode cX2_bitsOf 6 = .ok (.istore_n 3, 1) := by decide +kernel
theorem dX2_bitsOf_7 : decode cX2_bitsOf 7 = .ok (.iload_n 3, 1) := by decide +kernel
theorem dX2_bitsOf_8 : decode cX2_bitsOf 8 = .ok (.bipush 127, 2) := by decide +kernel
theorem dX2_bitsOf_10 : decode cX2_bitsOf 10 = .ok (.if_icmp .ge 22, 3) := by decide +kernel
theorem dX2_bitsOf_13 : decode cX2_bitsOf 13 = .ok (.fload_n 1, 1) := by decide +kernel
theorem dX2_bitsOf_14 : decode cX2_bitsOf 14 = .ok (.fconst 1, 1) := by decide +kernel
theorem dX2_bitsOf_15 : decode cX2_bitsOf 15 = .ok (.fcmp .g, 1) := by decide +kernel
theorem dX2_bitsOf_16 : decode cX2_bitsOf 16 = .ok (.ifCond .ge 16, 3) := by decide +kernel
theorem dX2_bitsOf_19 : decode cX2_bitsOf 19 = .ok (.fload_n 1, 1) := by decide +kernel
theorem dX2_bitsOf_20 : decode cX2_bitsOf 20 = .ok (.fconst 2, 1) := by decide +kernel
theorem dX2_bitsOf_21 : decode cX2_bitsOf 21 = .ok (.fmul, 1) := by decide +kernel
theorem dX2_bitsOf_22 : decode cX2_bitsOf 22 = .ok (.fstore_n 1, 1) := by decide +kernel
theorem dX2_bitsOf_23 : decode cX2_bitsOf 23 = .ok (.iinc 2 (-1), 3) := by decide +kernel
theorem dX2_bitsOf_26 : decode cX2_bitsOf 26 = .ok (.iinc 3 1, 3) := by decide +kernel
theorem dX2_bitsOf_29 : decode cX2_bitsOf 29 = .ok (.goto (-22), 3) := by decide +kernel
theorem dX2_bitsOf_32 : decode cX2_bitsOf 32 = .ok (.iload_n 2, 1) := by decide +kernel
theorem dX2_bitsOf_33 : decode cX2_bitsOf 33 = .ok (.bipush 23, 2) := by decide +kernel
theorem dX2_bitsOf_35 : decode cX2_bitsOf 35 = .ok (.ishl, 1) := by decide +kernel
theorem dX2_bitsOf_36 : decode cX2_bitsOf 36 = .ok (.fload_n 1, 1) := by decide +kernel
theorem dX2_bitsOf_37 : decode cX2_bitsOf 37 = .ok (.fconst 1, 1) := by decide +kernel
theorem dX2_bitsOf_38 : decode cX2_bitsOf 38 = .ok (.fsub, 1) := by decide +kernel
theorem dX2_bitsOf_39 : decode cX2_bitsOf 39 = .ok (.ldc 45, 2) := by decide +kernel
theorem dX2_bitsOf_41 : decode cX2_bitsOf 41 = .ok (.fmul, 1) := by decide +kernel
theorem dX2_bitsOf_42 : decode cX2_bitsOf 42 = .ok (.f2i, 1) := by decide +kernel
theorem dX2_bitsOf_43 : decode cX2_bitsOf 43 = .ok (.iadd, 1) := by decide +kernel
theorem dX2_bitsOf_44 : decode cX2_bitsOf 44 = .ok (.ireturn, 1) := by decide +kernel
theorem dX2_spread_0 : decode cX2_spread 0 = .ok (.iconst 0, 1) := by decide +kernel
theorem dX2_spread_1 : decode cX2_spread 1 = .ok (.istore_n 1, 1) := by decide +kernel
theorem dX2_spread_2 : decode cX2_spread 2 = .ok (.iconst 0, 1) := by decide +kernel
theorem dX2_spread_3 : decode cX2_spread 3 = .ok (.istore_n 2, 1) := by decide +kernel
theorem dX2_spread_4 : decode cX2_spread 4 = .ok (.iload_n 2, 1) := by decide +kernel
theorem dX2_spread_5 : decode cX2_spread 5 = .ok (.aload_n 0, 1) := by decide +kernel
theorem dX2_spread_6 : decode cX2_spread 6 = .ok (.getfield 31, 3) := by decide +kernel
theorem dX2_spread_9 : decode cX2_spread 9 = .ok (.if_icmp .ge 70, 3) := by decide +kernel
theorem dX2_spread_12 : decode cX2_spread 12 = .ok (.fconst 0, 1) := by decide +kernel
theorem dX2_spread_13 : decode cX2_spread 13 = .ok (.fstore_n 3, 1) := by decide +kernel
theorem dX2_spread_14 : decode cX2_spread 14 = .ok (.iconst 0, 1) := by decide +kernel
theorem dX2_spread_15 : decode cX2_spread 15 = .ok (.istore 4, 2) := by decide +kernel
theorem dX2_spread_17 : decode cX2_spread 17 = .ok (.iload 4, 2) := by decide +kernel
theorem dX2_spread_19 : decode cX2_spread 19 = .ok (.aload_n 0, 1) := by decide +kernel
theorem dX2_spread_20 : decode cX2_spread 20 = .ok (.getfield 35, 3) := by decide +kernel
theorem dX2_spread_23 : decode cX2_spread 23 = .ok (.if_icmp .ge 50, 3) := by decide +kernel
theorem dX2_spread_26 : decode cX2_spread 26 = .ok (.aload_n 0, 1) := by decide +kernel
theorem dX2_spread_27 : decode cX2_spread 27 = .ok (.iload 4, 2) := by decide +kernel
theorem dX2_spread_29 : decode cX2_spread 29 = .ok (.iload_n 2, 1) := by decide +kernel
theorem dX2_spread_30 : decode cX2_spread 30 = .ok (.invokevirtual 23, 3) := by decide +kernel
theorem dX2_spread_33 : decode cX2_spread 33 = .ok (.fload_n 3, 1) := by decide +kernel
theorem dX2_spread_34 : decode cX2_spread 34 = .ok (.fadd, 1) := by decide +kernel
theorem dX2_spread_35 : decode cX2_spread 35 = .ok (.fstore 5, 2) := by decide +kernel
theorem dX2_spread_37 : decode cX2_spread 37 = .ok (.aload_n 0, 1) := by decide +kernel
theorem dX2_spread_38 : decode cX2_spread 38 = .ok (.fload 5, 2) := by decide +kernel
theorem dX2_spread_40 : decode cX2_spread 40 = .ok (.invokevirtual 50, 3) := by decide +kernel
theorem dX2_spread_43 : decode cX2_spread 43 = .ok (.istore 6, 2) := by decide +kernel
theorem dX2_spread_45 : decode cX2_spread 45 = .ok (.iload_n 1, 1) := by decide +kernel
theorem dX2_spread_46 : decode cX2_spread 46 = .ok (.aload_n 0, 1) := by decide +kernel
theorem dX2_spread_47 : decode cX2_spread 47 = .ok (.iload 4, 2) := by decide +kernel
theorem dX2_spread_49 : decode cX2_spread 49 = .ok (.iload_n 2, 1) := by decide +kernel
theorem dX2_spread_50 : decode cX2_spread 50 = .ok (.iload 6, 2) := by decide +kernel
theorem dX2_spread_52 : decode cX2_spread 52 = .ok (.invokevirtual 53, 3) := by decide +kernel
theorem dX2_spread_55 : decode cX2_spread 55 = .ok (.iadd, 1) := by decide +kernel
theorem dX2_spread_56 : decode cX2_spread 56 = .ok (.istore_n 1, 1) := by decide +kernel
theorem dX2_spread_57 : decode cX2_spread 57 = .ok (.fload 5, 2) := by decide +kernel
theorem dX2_spread_59 : decode cX2_spread 59 = .ok (.aload_n 0, 1) := by decide +kernel
theorem dX2_spread_60 : decode cX2_spread 60 = .ok (.iload 6, 2) := by decide +kernel
theorem dX2_spread_62 : decode cX2_spread 62 = .ok (.invokevirtual 57, 3) := by decide +kernel
theorem dX2_spread_65 : decode cX2_spread 65 = .ok (.fsub, 1) := by decide +kernel
theorem dX2_spread_66 : decode cX2_spread 66 = .ok (.fstore_n 3, 1) := by decide +kernel
theorem dX2_spread_67 : decode cX2_spread 67 = .ok (.iinc 4 1, 3) := by decide +kernel
theorem dX2_spread_70 : decode cX2_spread 70 = .ok (.goto (-53), 3) := by decide +kernel
theorem dX2_spread_73 : decode cX2_spread 73 = .ok (.iinc 2 1, 3) := by decide +kernel
theorem dX2_spread_76 : decode cX2_spread 76 = .ok (.goto (-72), 3) := by decide +kernel
theorem dX2_spread_79 : decode cX2_spread 79 = .ok (.iload_n 1, 1) := by decide +kernel
theorem dX2_spread_80 : decode cX2_spread 80 = .ok (.ireturn, 1) := by decide +kernel
theorem dX2_refine_0 : decode cX2_refine 0 = .ok (.iconst 0, 1) := by decide +kernel
theorem dX2_refine_1 : decode cX2_refine 1 = .ok (.istore_n 1, 1) := by decide +kernel
theorem dX2_refine_2 : decode cX2_refine 2 = .ok (.iconst 0, 1) := by decide +kernel
theorem dX2_refine_3 : decode cX2_refine 3 = .ok (.istore_n 2, 1) := by decide +kernel
theorem dX2_refine_4 : decode cX2_refine 4 = .ok (.iload_n 2, 1) := by decide +kernel
theorem dX2_refine_5 : decode cX2_refine 5 = .ok (.aload_n 0, 1) := by decide +kernel
theorem dX2_refine_6 : decode cX2_refine 6 = .ok (.getfield 31, 3) := by decide +kernel
theorem dX2_refine_9 : decode cX2_refine 9 = .ok (.if_icmp .ge 34, 3) := by decide +kernel
theorem dX2_refine_12 : decode cX2_refine 12 = .ok (.iconst 0, 1) := by decide +kernel
theorem dX2_refine_13 : decode cX2_refine 13 = .ok (.istore_n 3, 1) := by decide +kernel
theorem dX2_refine_14 : decode cX2_refine 14 = .ok (.iload_n 3, 1) := by decide +kernel
theorem dX2_refine_15 : decode cX2_refine 15 = .ok (.aload_n 0, 1) := by decide +kernel
theorem dX2_refine_16 : decode cX2_refine 16 = .ok (.getfield 35, 3) := by decide +kernel
theorem dX2_refine_19 : decode cX2_refine 19 = .ok (.if_icmp .ge 18, 3) := by decide +kernel
theorem dX2_refine_22 : decode cX2_refine 22 = .ok (.iload_n 1, 1) := by decide +kernel
theorem dX2_refine_23 : decode cX2_refine 23 = .ok (.aload_n 0, 1) := by decide +kernel
theorem dX2_refine_24 : decode cX2_refine 24 = .ok (.iload_n 3, 1) := by decide +kernel
theorem dX2_refine_25 : decode cX2_refine 25 = .ok (.iload_n 2, 1) := by decide +kernel
theorem dX2_refine_26 : decode cX2_refine 26 = .ok (.invokestatic 61, 3) := by decide +kernel
theorem dX2_refine_29 : decode cX2_refine 29 = .ok (.iadd, 1) := by decide +kernel
theorem dX2_refine_30 : decode cX2_refine 30 = .ok (.istore_n 1, 1) := by decide +kernel
theorem dX2_refine_31 : decode cX2_refine 31 = .ok (.iinc 3 1, 3) := by decide +kernel
theorem dX2_refine_34 : decode cX2_refine 34 = .ok (.goto (-20), 3) := by decide +kernel
theorem dX2_refine_37 : decode cX2_refine 37 = .ok (.iinc 2 1, 3) := by decide +kernel
theorem dX2_refine_40 : decode cX2_refine 40 = .ok (.goto (-36), 3) := by decide +kernel
theorem dX2_refine_43 : decode cX2_refine 43 = .ok (.iload_n 1, 1) := by decide +kernel
theorem dX2_refine_44 : decode cX2_refine 44 = .ok (.ireturn, 1) := by decide +kernel
theorem dX2_refineCell_0 : decode cX2_refineCell 0 = .ok (.aload_n 0, 1) := by decide +kernel
theorem dX2_refineCell_1 : decode cX2_refineCell 1 = .ok (.iload_n 1, 1) := by decide +kernel
theorem dX2_refineCell_2 : decode cX2_refineCell 2 = .ok (.iload_n 2, 1) := by decide +kernel
theorem dX2_refineCell_3 : decode cX2_refineCell 3 = .ok (.invokevirtual 65, 3) := by decide +kernel
theorem dX2_refineCell_6 : decode cX2_refineCell 6 = .ok (.istore_n 3, 1) := by decide +kernel
theorem dX2_refineCell_7 : decode cX2_refineCell 7 = .ok (.iload_n 3, 1) := by decide +kernel
theorem dX2_refineCell_8 : decode cX2_refineCell 8 = .ok (.iconst 1, 1) := by decide +kernel
theorem dX2_refineCell_9 : decode cX2_refineCell 9 = .ok (.isub, 1) := by decide +kernel
theorem dX2_refineCell_10 : decode cX2_refineCell 10 = .ok (.aload_n 0, 1) := by decide +kernel
theorem dX2_refineCell_11 : decode cX2_refineCell 11 = .ok (.getfield 69, 3) := by decide +kernel
theorem dX2_refineCell_14 : decode cX2_refineCell 14 = .ok (.invokestatic 72, 3) := by decide +kernel
theorem dX2_refineCell_17 : decode cX2_refineCell 17 = .ok (.istore 4, 2) := by decide +kernel
theorem dX2_refineCell_19 : decode cX2_refineCell 19 = .ok (.iload_n 3, 1) := by decide +kernel
theorem dX2_refineCell_20 : decode cX2_refineCell 20 = .ok (.iconst 1, 1) := by decide +kernel
theorem dX2_refineCell_21 : decode cX2_refineCell 21 = .ok (.iadd, 1) := by decide +kernel
theorem dX2_refineCell_22 : decode cX2_refineCell 22 = .ok (.aload_n 0, 1) := by decide +kernel
theorem dX2_refineCell_23 : decode cX2_refineCell 23 = .ok (.getfield 77, 3) := by decide +kernel
theorem dX2_refineCell_26 : decode cX2_refineCell 26 = .ok (.invokestatic 80, 3) := by decide +kernel
theorem dX2_refineCell_29 : decode cX2_refineCell 29 = .ok (.istore 5, 2) := by decide +kernel
theorem dX2_refineCell_31 : decode cX2_refineCell 31 = .ok (.iload 4, 2) := by decide +kernel
theorem dX2_refineCell_33 : decode cX2_refineCell 33 = .ok (.istore 6, 2) := by decide +kernel
theorem dX2_refineCell_35 : decode cX2_refineCell 35 = .ok (.fconst 0, 1) := by decide +kernel
theorem dX2_refineCell_36 : decode cX2_refineCell 36 = .ok (.fstore 7, 2) := by decide +kernel
theorem dX2_refineCell_38 : decode cX2_refineCell 38 = .ok (.iload 4, 2) := by decide +kernel
theorem dX2_refineCell_40 : decode cX2_refineCell 40 = .ok (.istore 8, 2) := by decide +kernel
theorem dX2_refineCell_42 : decode cX2_refineCell 42 = .ok (.iload 8, 2) := by decide +kernel
theorem dX2_refineCell_44 : decode cX2_refineCell 44 = .ok (.iload 5, 2) := by decide +kernel
theorem dX2_refineCell_46 : decode cX2_refineCell 46 = .ok (.if_icmp .gt 107, 3) := by decide +kernel
theorem dX2_refineCell_49 : decode cX2_refineCell 49 = .ok (.aload_n 0, 1) := by decide +kernel
theorem dX2_refineCell_50 : decode cX2_refineCell 50 = .ok (.iload_n 1, 1) := by decide +kernel
theorem dX2_refineCell_51 : decode cX2_refineCell 51 = .ok (.iload_n 2, 1) := by decide +kernel
theorem dX2_refineCell_52 : decode cX2_refineCell 52 = .ok (.iload 8, 2) := by decide +kernel
theorem dX2_refineCell_54 : decode cX2_refineCell 54 = .ok (.invokevirtual 53, 3) := by decide +kernel
theorem dX2_refineCell_57 : decode cX2_refineCell 57 = .ok (.pop, 1) := by decide +kernel
theorem dX2_refineCell_58 : decode cX2_refineCell 58 = .ok (.fconst 0, 1) := by decide +kernel
theorem dX2_refineCell_59 : decode cX2_refineCell 59 = .ok (.fstore 9, 2) := by decide +kernel
theorem dX2_refineCell_61 : decode cX2_refineCell 61 = .ok (.fload 9, 2) := by decide +kernel
theorem dX2_refineCell_63 : decode cX2_refineCell 63 = .ok (.aload_n 0, 1) := by decide +kernel
theorem dX2_refineCell_64 : decode cX2_refineCell 64 = .ok (.iload_n 1, 1) := by decide +kernel
theorem dX2_refineCell_65 : decode cX2_refineCell 65 = .ok (.iload_n 2, 1) := by decide +kernel
theorem dX2_refineCell_66 : decode cX2_refineCell 66 = .ok (.invokestatic 38, 3) := by decide +kernel
theorem dX2_refineCell_69 : decode cX2_refineCell 69 = .ok (.fadd, 1) := by decide +kernel
theorem dX2_refineCell_70 : decode cX2_refineCell 70 = .ok (.fstore 9, 2) := by decide +kernel
theorem dX2_refineCell_72 : decode cX2_refineCell 72 = .ok (.fload 9, 2) := by decide +kernel
theorem dX2_refineCell_74 : decode cX2_refineCell 74 = .ok (.aload_n 0, 1) := by decide +kernel
theorem dX2_refineCell_75 : decode cX2_refineCell 75 = .ok (.iload_n 1, 1) := by decide +kernel
theorem dX2_refineCell_76 : decode cX2_refineCell 76 = .ok (.iconst 1, 1) := by decide +kernel
theorem dX2_refineCell_77 : decode cX2_refineCell 77 = .ok (.isub, 1) := by decide +kernel
theorem dX2_refineCell_78 : decode cX2_refineCell 78 = .ok (.iload_n 2, 1) := by decide +kernel
theorem dX2_refineCell_79 : decode cX2_refineCell 79 = .ok (.invokestatic 38, 3) := by decide +kernel
theorem dX2_refineCell_82 : decode cX2_refineCell 82 = .ok (.fadd, 1) := by decide +kernel
theorem dX2_refineCell_83 : decode cX2_refineCell 83 = .ok (.fstore 9, 2) := by decide +kernel
theorem dX2_refineCell_85 : decode cX2_refineCell 85 = .ok (.fload 9, 2) := by decide +kernel
theorem dX2_refineCell_87 : decode cX2_refineCell 87 = .ok (.aload_n 0, 1) := by decide +kernel
theorem dX2_refineCell_88 : decode cX2_refineCell 88 = .ok (.iload_n 1, 1) := by decide +kernel
theorem dX2_refineCell_89 : decode cX2_refineCell 89 = .ok (.iconst 1, 1) := by decide +kernel
theorem dX2_refineCell_90 : decode cX2_refineCell 90 = .ok (.iadd, 1) := by decide +kernel
theorem dX2_refineCell_91 : decode cX2_refineCell 91 = .ok (.iload_n 2, 1) := by decide +kernel
theorem dX2_refineCell_92 : decode cX2_refineCell 92 = .ok (.invokestatic 38, 3) := by decide +kernel
theorem dX2_refineCell_95 : decode cX2_refineCell 95 = .ok (.fadd, 1) := by decide +kernel
theorem dX2_refineCell_96 : decode cX2_refineCell 96 = .ok (.fstore 9, 2) := by decide +kernel
theorem dX2_refineCell_98 : decode cX2_refineCell 98 = .ok (.fload 9, 2) := by decide +kernel
theorem dX2_refineCell_100 : decode cX2_refineCell 100 = .ok (.aload_n 0, 1) := by decide +kernel
theorem dX2_refineCell_101 : decode cX2_refineCell 101 = .ok (.iload_n 1, 1) := by decide +kernel
theorem dX2_refineCell_102 : decode cX2_refineCell 102 = .ok (.iload_n 2, 1) := by decide +kernel
theorem dX2_refineCell_103 : decode cX2_refineCell 103 = .ok (.iconst 1, 1) := by decide +kernel
theorem dX2_refineCell_104 : decode cX2_refineCell 104 = .ok (.isub, 1) := by decide +kernel
theorem dX2_refineCell_105 : decode cX2_refineCell 105 = .ok (.invokestatic 38, 3) := by decide +kernel
theorem dX2_refineCell_108 : decode cX2_refineCell 108 = .ok (.fadd, 1) := by decide +kernel
theorem dX2_refineCell_109 : decode cX2_refineCell 109 = .ok (.fstore 9, 2) := by decide +kernel
theorem dX2_refineCell_111 : decode cX2_refineCell 111 = .ok (.fload 9, 2) := by decide +kernel
theorem dX2_refineCell_113 : decode cX2_refineCell 113 = .ok (.aload_n 0, 1) := by decide +kernel
theorem dX2_refineCell_114 : decode cX2_refineCell 114 = .ok (.iload_n 1, 1) := by decide +kernel
theorem dX2_refineCell_115 : decode cX2_refineCell 115 = .ok (.iload_n 2, 1) := by decide +kernel
theorem dX2_refineCell_116 : decode cX2_refineCell 116 = .ok (.iconst 1, 1) := by decide +kernel
theorem dX2_refineCell_117 : decode cX2_refineCell 117 = .ok (.iadd, 1) := by decide +kernel
theorem dX2_refineCell_118 : decode cX2_refineCell 118 = .ok (.invokestatic 38, 3) := by decide +kernel
theorem dX2_refineCell_121 : decode cX2_refineCell 121 = .ok (.fadd, 1) := by decide +kernel
theorem dX2_refineCell_122 : decode cX2_refineCell 122 = .ok (.fstore 9, 2) := by decide +kernel
theorem dX2_refineCell_124 : decode cX2_refineCell 124 = .ok (.iload 8, 2) := by decide +kernel
theorem dX2_refineCell_126 : decode cX2_refineCell 126 = .ok (.iload 4, 2) := by decide +kernel
theorem dX2_refineCell_128 : decode cX2_refineCell 128 = .ok (.if_icmp .eq 11, 3) := by decide +kernel
theorem dX2_refineCell_131 : decode cX2_refineCell 131 = .ok (.fload 9, 2) := by decide +kernel
theorem dX2_refineCell_133 : decode cX2_refineCell 133 = .ok (.fload 7, 2) := by decide +kernel
theorem dX2_refineCell_135 : decode cX2_refineCell 135 = .ok (.fcmp .g, 1) := by decide +kernel
theorem dX2_refineCell_136 : decode cX2_refineCell 136 = .ok (.ifCond .ge 11, 3) := by decide +kernel
theorem dX2_refineCell_139 : decode cX2_refineCell 139 = .ok (.fload 9, 2) := by decide +kernel
theorem dX2_refineCell_141 : decode cX2_refineCell 141 = .ok (.fstore 7, 2) := by decide +kernel
theorem dX2_refineCell_143 : decode cX2_refineCell 143 = .ok (.iload 8, 2) := by decide +kernel
theorem dX2_refineCell_145 : decode cX2_refineCell 145 = .ok (.istore 6, 2) := by decide +kernel
theorem dX2_refineCell_147 : decode cX2_refineCell 147 = .ok (.iinc 8 1, 3) := by decide +kernel
theorem dX2_refineCell_150 : decode cX2_refineCell 150 = .ok (.goto (-108), 3) := by decide +kernel
theorem dX2_refineCell_153 : decode cX2_refineCell 153 = .ok (.aload_n 0, 1) := by decide +kernel
theorem dX2_refineCell_154 : decode cX2_refineCell 154 = .ok (.iload_n 1, 1) := by decide +kernel
theorem dX2_refineCell_155 : decode cX2_refineCell 155 = .ok (.iload_n 2, 1) := by decide +kernel
theorem dX2_refineCell_156 : decode cX2_refineCell 156 = .ok (.iload 6, 2) := by decide +kernel
theorem dX2_refineCell_158 : decode cX2_refineCell 158 = .ok (.invokevirtual 53, 3) := by decide +kernel
theorem dX2_refineCell_161 : decode cX2_refineCell 161 = .ok (.pop, 1) := by decide +kernel
theorem dX2_refineCell_162 : decode cX2_refineCell 162 = .ok (.iload 6, 2) := by decide +kernel
theorem dX2_refineCell_164 : decode cX2_refineCell 164 = .ok (.iload_n 3, 1) := by decide +kernel
theorem dX2_refineCell_165 : decode cX2_refineCell 165 = .ok (.if_icmp .ne 7, 3) := by decide +kernel
theorem dX2_refineCell_168 : decode cX2_refineCell 168 = .ok (.iconst 0, 1) := by decide +kernel
theorem dX2_refineCell_169 : decode cX2_refineCell 169 = .ok (.goto 4, 3) := by decide +kernel
theorem dX2_refineCell_172 : decode cX2_refineCell 172 = .ok (.iconst 1, 1) := by decide +kernel
theorem dX2_refineCell_173 : decode cX2_refineCell 173 = .ok (.ireturn, 1) := by decide +kernel
theorem dX3_init_0 : decode cX3_init 0 = .ok (.aload_n 0, 1) := by decide +kernel
theorem dX3_init_1 : decode cX3_init 1 = .ok (.invokespecial 3, 3) := by decide +kernel
theorem dX3_init_4 : decode cX3_init 4 = .ok (.aload_n 0, 1) := by decide +kernel
theorem dX3_init_5 : decode cX3_init 5 = .ok (.bipush 7, 2) := by decide +kernel
theorem dX3_init_7 : decode cX3_init 7 = .ok (.anewarray 9, 3) := by decide +kernel
theorem dX3_init_10 : decode cX3_init 10 = .ok (.putfield 11, 3) := by decide +kernel
theorem dX3_init_13 : decode cX3_init 13 = .ok (.iconst 0, 1) := by decide +kernel
theorem dX3_init_14 : decode cX3_init 14 = .ok (.istore_n 1, 1) := by decide +kernel
theorem dX3_init_15 : decode cX3_init 15 = .ok (.iload_n 1, 1) := by decide +kernel
theorem dX3_init_16 : decode cX3_init 16 = .ok (.bipush 7, 2) := by decide +kernel
theorem dX3_init_18 : decode cX3_init 18 = .ok (.if_icmp .ge 22, 3) := by decide +kernel
theorem dX3_init_21 : decode cX3_init 21 = .ok (.aload_n 0, 1) := by decide +kernel
theorem dX3_init_22 : decode cX3_init 22 = .ok (.getfield 11, 3) := by decide +kernel
theorem dX3_init_25 : decode cX3_init 25 = .ok (.iload_n 1, 1) := by decide +kernel
theorem dX3_init_26 : decode cX3_init 26 = .ok (.new 9, 3) := by decide +kernel
theorem dX3_init_29 : decode cX3_init 29 = .ok (.dup, 1) := by decide +kernel
theorem dX3_init_30 : decode cX3_init 30 = .ok (.invokespecial 15, 3) := by decide +kernel
theorem dX3_init_33 : decode cX3_init 33 = .ok (.aastore, 1) := by decide +kernel
theorem dX3_init_34 : decode cX3_init 34 = .ok (.iinc 1 1, 3) := by decide +kernel
theorem dX3_init_37 : decode cX3_init 37 = .ok (.goto (-22), 3) := by decide +kernel
theorem dX3_init_40 : decode cX3_init 40 = .ok (.return_, 1) := by decide +kernel
theorem dX3_open_0 : decode cX3_open 0 = .ok (.aload_n 0, 1) := by decide +kernel
theorem dX3_open_1 : decode cX3_open 1 = .ok (.getfield 16, 3) := by decide +kernel
theorem dX3_open_4 : decode cX3_open 4 = .ok (.ifCond .lt 25, 3) := by decide +kernel
theorem dX3_open_7 : decode cX3_open 7 = .ok (.aload_n 0, 1) := by decide +kernel
theorem dX3_open_8 : decode cX3_open 8 = .ok (.getfield 16, 3) := by decide +kernel
theorem dX3_open_11 : decode cX3_open 11 = .ok (.bipush 7, 2) := by decide +kernel
theorem dX3_open_13 : decode cX3_open 13 = .ok (.if_icmp .ge 16, 3) := by decide +kernel
theorem dX3_open_16 : decode cX3_open 16 = .ok (.aload_n 0, 1) := by decide +kernel
theorem dX3_open_17 : decode cX3_open 17 = .ok (.getfield 11, 3) := by decide +kernel
theorem dX3_open_20 : decode cX3_open 20 = .ok (.aload_n 0, 1) := by decide +kernel
theorem dX3_open_21 : decode cX3_open 21 = .ok (.getfield 16, 3) := by decide +kernel
theorem dX3_open_24 : decode cX3_open 24 = .ok (.aaload, 1) := by decide +kernel
theorem dX3_open_25 : decode cX3_open 25 = .ok (.aload_n 1, 1) := by decide +kernel
theorem dX3_open_26 : decode cX3_open 26 = .ok (.invokevirtual 20, 3) := by decide +kernel
theorem dX3_open_29 : decode cX3_open 29 = .ok (.return_, 1) := by decide +kernel
theorem dX3_close_0 : decode cX3_close 0 = .ok (.aload_n 0, 1) := by decide +kernel
theorem dX3_close_1 : decode cX3_close 1 = .ok (.getfield 16, 3) := by decide +kernel
theorem dX3_close_4 : decode cX3_close 4 = .ok (.ifCond .lt 56, 3) := by decide +kernel
theorem dX3_close_7 : decode cX3_close 7 = .ok (.aload_n 0, 1) := by decide +kernel
theorem dX3_close_8 : decode cX3_close 8 = .ok (.getfield 16, 3) := by decide +kernel
theorem dX3_close_11 : decode cX3_close 11 = .ok (.bipush 7, 2) := by decide +kernel
theorem dX3_close_13 : decode cX3_close 13 = .ok (.if_icmp .ge 47, 3) := by decide +kernel
theorem dX3_close_16 : decode cX3_close 16 = .ok (.aload_n 1, 1) := by decide +kernel
theorem dX3_close_17 : decode cX3_close 17 = .ok (.aload_n 0, 1) := by decide +kernel
theorem dX3_close_18 : decode cX3_close 18 = .ok (.getfield 11, 3) := by decide +kernel
theorem dX3_close_21 : decode cX3_close 21 = .ok (.aload_n 0, 1) := by decide +kernel
theorem dX3_close_22 : decode cX3_close 22 = .ok (.getfield 16, 3) := by decide +kernel
theorem dX3_close_25 : decode cX3_close 25 = .ok (.aaload, 1) := by decide +kernel
theorem dX3_close_26 : decode cX3_close 26 = .ok (.invokevirtual 24, 3) := by decide +kernel
theorem dX3_close_29 : decode cX3_close 29 = .ok (.ifCond .ne 31, 3) := by decide +kernel
theorem dX3_close_32 : decode cX3_close 32 = .ok (.aload_n 0, 1) := by decide +kernel
theorem dX3_close_33 : decode cX3_close 33 = .ok (.aload_n 0, 1) := by decide +kernel
theorem dX3_close_34 : decode cX3_close 34 = .ok (.getfield 16, 3) := by decide +kernel
theorem dX3_close_37 : decode cX3_close 37 = .ok (.iconst 1, 1) := by decide +kernel
theorem dX3_close_38 : decode cX3_close 38 = .ok (.iadd, 1) := by decide +kernel
theorem dX3_close_39 : decode cX3_close 39 = .ok (.bipush 7, 2) := by decide +kernel
theorem dX3_close_41 : decode cX3_close 41 = .ok (.irem, 1) := by decide +kernel
theorem dX3_close_42 : decode cX3_close 42 = .ok (.putfield 16, 3) := by decide +kernel
theorem dX3_close_45 : decode cX3_close 45 = .ok (.aload_n 0, 1) := by decide +kernel
theorem dX3_close_46 : decode cX3_close 46 = .ok (.aload_n 0, 1) := by decide +kernel
theorem dX3_close_47 : decode cX3_close 47 = .ok (.getfield 28, 3) := by decide +kernel
theorem dX3_close_50 : decode cX3_close 50 = .ok (.iconst 1, 1) := by decide +kernel
theorem dX3_close_51 : decode cX3_close 51 = .ok (.iadd, 1) := by decide +kernel
theorem dX3_close_52 : decode cX3_close 52 = .ok (.bipush 6, 2) := by decide +kernel
theorem dX3_close_54 : decode cX3_close 54 = .ok (.invokestatic 31, 3) := by decide +kernel
theorem dX3_close_57 : decode cX3_close 57 = .ok (.putfield 28, 3) := by decide +kernel
theorem dX3_close_60 : decode cX3_close 60 = .ok (.return_, 1) := by decide +kernel
theorem dX3_forget_0 : decode cX3_forget 0 = .ok (.aload_n 0, 1) := by decide +kernel
theorem dX3_forget_1 : decode cX3_forget 1 = .ok (.iconst 0, 1) := by decide +kernel
theorem dX3_forget_2 : decode cX3_forget 2 = .ok (.putfield 28, 3) := by decide +kernel
theorem dX3_forget_5 : decode cX3_forget 5 = .ok (.return_, 1) := by decide +kernel
theorem dX4_init_0 : decode cX4_init 0 = .ok (.aload_n 0, 1) := by decide +kernel
theorem dX4_init_1 : decode cX4_init 1 = .ok (.invokespecial 3, 3) := by decide +kernel
theorem dX4_init_4 : decode cX4_init 4 = .ok (.aload_n 0, 1) := by decide +kernel
theorem dX4_init_5 : decode cX4_init 5 = .ok (.sipush 192, 3) := by decide +kernel
theorem dX4_init_8 : decode cX4_init 8 = .ok (.newarray .int, 2) := by decide +kernel
theorem dX4_init_10 : decode cX4_init 10 = .ok (.putfield 9, 3) := by decide +kernel
theorem dX4_init_13 : decode cX4_init 13 = .ok (.aload_n 0, 1) := by decide +kernel
theorem dX4_init_14 : decode cX4_init 14 = .ok (.sipush 192, 3) := by decide +kernel
theorem dX4_init_17 : decode cX4_init 17 = .ok (.newarray .boolean, 2) := by decide +kernel
theorem dX4_init_19 : decode cX4_init 19 = .ok (.putfield 15, 3) := by decide +kernel
theorem dX4_init_22 : decode cX4_init 22 = .ok (.aload_n 0, 1) := by decide +kernel
theorem dX4_init_23 : decode cX4_init 23 = .ok (.aload_n 1, 1) := by decide +kernel
theorem dX4_init_24 : decode cX4_init 24 = .ok (.putfield 19, 3) := by decide +kernel
theorem dX4_init_27 : decode cX4_init 27 = .ok (.return_, 1) := by decide +kernel
theorem dX4_countOfCells_0 : decode cX4_countOfCells 0 = .ok (.iconst 0, 1) := by decide +kernel
theorem dX4_countOfCells_1 : decode cX4_countOfCells 1 = .ok (.istore_n 2, 1) := by decide +kernel
theorem dX4_countOfCells_2 : decode cX4_countOfCells 2 = .ok (.iconst 0, 1) := by decide +kernel
theorem dX4_countOfCells_3 : decode cX4_countOfCells 3 = .ok (.istore_n 3, 1) := by decide +kernel
theorem dX4_countOfCells_4 : decode cX4_countOfCells 4 = .ok (.iload_n 3, 1) := by decide +kernel
theorem dX4_countOfCells_5 : decode cX4_countOfCells 5 = .ok (.aload_n 0, 1) := by decide +kernel
theorem dX4_countOfCells_6 : decode cX4_countOfCells 6 = .ok (.getfield 19, 3) := by decide +kernel
theorem dX4_countOfCells_9 : decode cX4_countOfCells 9 = .ok (.getfield 23, 3) := by decide +kernel
theorem dX4_countOfCells_12 : decode cX4_countOfCells 12 = .ok (.if_icmp .ge 52, 3) := by decide +kernel
theorem dX4_countOfCells_15 : decode cX4_countOfCells 15 = .ok (.iconst 0, 1) := by decide +kernel
theorem dX4_countOfCells_16 : decode cX4_countOfCells 16 = .ok (.istore 4, 2) := by decide +kernel
theorem dX4_countOfCells_18 : decode cX4_countOfCells 18 = .ok (.iload 4, 2) := by decide +kernel
theorem dX4_countOfCells_20 : decode cX4_countOfCells 20 = .ok (.aload_n 0, 1) := by decide +kernel
theorem dX4_countOfCells_21 : decode cX4_countOfCells 21 = .ok (.getfield 19, 3) := by decide +kernel
theorem dX4_countOfCells_24 : decode cX4_countOfCells 24 = .ok (.getfield 29, 3) := by decide +kernel
theorem dX4_countOfCells_27 : decode cX4_countOfCells 27 = .ok (.if_icmp .ge 31, 3) := by decide +kernel
theorem dX4_countOfCells_30 : decode cX4_countOfCells 30 = .ok (.iload_n 2, 1) := by decide +kernel
theorem dX4_countOfCells_31 : decode cX4_countOfCells 31 = .ok (.aload_n 0, 1) := by decide +kernel
theorem dX4_countOfCells_32 : decode cX4_countOfCells 32 = .ok (.getfield 19, 3) := by decide +kernel
theorem dX4_countOfCells_35 : decode cX4_countOfCells 35 = .ok (.iload 4, 2) := by decide +kernel
theorem dX4_countOfCells_37 : decode cX4_countOfCells 37 = .ok (.iload_n 3, 1) := by decide +kernel
theorem dX4_countOfCells_38 : decode cX4_countOfCells 38 = .ok (.iload_n 1, 1) := by decide +kernel
theorem dX4_countOfCells_39 : decode cX4_countOfCells 39 = .ok (.invokevirtual 32, 3) := by decide +kernel
theorem dX4_countOfCells_42 : decode cX4_countOfCells 42 = .ok (.ifCond .eq 7, 3) := by decide +kernel
theorem dX4_countOfCells_45 : decode cX4_countOfCells 45 = .ok (.iconst 1, 1) := by decide +kernel
theorem dX4_countOfCells_46 : decode cX4_countOfCells 46 = .ok (.goto 4, 3) := by decide +kernel
theorem dX4_countOfCells_49 : decode cX4_countOfCells 49 = .ok (.iconst 0, 1) := by decide +kernel
theorem dX4_countOfCells_50 : decode cX4_countOfCells 50 = .ok (.iadd, 1) := by decide +kernel
theorem dX4_countOfCells_51 : decode cX4_countOfCells 51 = .ok (.istore_n 2, 1) := by decide +kernel
theorem dX4_countOfCells_52 : decode cX4_countOfCells 52 = .ok (.iinc 4 1, 3) := by decide +kernel
theorem dX4_countOfCells_55 : decode cX4_countOfCells 55 = .ok (.goto (-37), 3) := by decide +kernel
theorem dX4_countOfCells_58 : decode cX4_countOfCells 58 = .ok (.iinc 3 1, 3) := by decide +kernel
theorem dX4_countOfCells_61 : decode cX4_countOfCells 61 = .ok (.goto (-57), 3) := by decide +kernel
theorem dX4_countOfCells_64 : decode cX4_countOfCells 64 = .ok (.iload_n 2, 1) := by decide +kernel
theorem dX4_countOfCells_65 : decode cX4_countOfCells 65 = .ok (.ireturn, 1) := by decide +kernel
theorem dX4_beginsRun_0 : decode cX4_beginsRun 0 = .ok (.aload_n 0, 1) := by decide +kernel
theorem dX4_beginsRun_1 : decode cX4_beginsRun 1 = .ok (.getfield 19, 3) := by decide +kernel
theorem dX4_beginsRun_4 : decode cX4_beginsRun 4 = .ok (.iload_n 2, 1) := by decide +kernel
theorem dX4_beginsRun_5 : decode cX4_beginsRun 5 = .ok (.iload_n 3, 1) := by decide +kernel
theorem dX4_beginsRun_6 : decode cX4_beginsRun 6 = .ok (.iload_n 1, 1) := by decide +kernel
theorem dX4_beginsRun_7 : decode cX4_beginsRun 7 = .ok (.invokevirtual 32, 3) := by decide +kernel
theorem dX4_beginsRun_10 : decode cX4_beginsRun 10 = .ok (.ifCond .eq 22, 3) := by decide +kernel
theorem dX4_beginsRun_13 : decode cX4_beginsRun 13 = .ok (.aload_n 0, 1) := by decide +kernel
theorem dX4_beginsRun_14 : decode cX4_beginsRun 14 = .ok (.getfield 19, 3) := by decide +kernel
theorem dX4_beginsRun_17 : decode cX4_beginsRun 17 = .ok (.iload_n 2, 1) := by decide +kernel
theorem dX4_beginsRun_18 : decode cX4_beginsRun 18 = .ok (.iconst 1, 1) := by decide +kernel
theorem dX4_beginsRun_19 : decode cX4_beginsRun 19 = .ok (.isub, 1) := by decide +kernel
theorem dX4_beginsRun_20 : decode cX4_beginsRun 20 = .ok (.iload_n 3, 1) := by decide +kernel
theorem dX4_beginsRun_21 : decode cX4_beginsRun 21 = .ok (.iload_n 1, 1) := by decide +kernel
theorem dX4_beginsRun_22 : decode cX4_beginsRun 22 = .ok (.invokevirtual 32, 3) := by decide +kernel
theorem dX4_beginsRun_25 : decode cX4_beginsRun 25 = .ok (.ifCond .ne 7, 3) := by decide +kernel
theorem dX4_beginsRun_28 : decode cX4_beginsRun 28 = .ok (.iconst 1, 1) := by decide +kernel
theorem dX4_beginsRun_29 : decode cX4_beginsRun 29 = .ok (.goto 4, 3) := by decide +kernel
theorem dX4_beginsRun_32 : decode cX4_beginsRun 32 = .ok (.iconst 0, 1) := by decide +kernel
theorem dX4_beginsRun_33 : decode cX4_beginsRun 33 = .ok (.ireturn, 1) := by decide +kernel
theorem dX4_runFrom_0 : decode cX4_runFrom 0 = .ok (.iload_n 2, 1) := by decide +kernel
theorem dX4_runFrom_1 : decode cX4_runFrom 1 = .ok (.istore 4, 2) := by decide +kernel
theorem dX4_runFrom_3 : decode cX4_runFrom 3 = .ok (.iconst 0, 1) := by decide +kernel
theorem dX4_runFrom_4 : decode cX4_runFrom 4 = .ok (.istore 5, 2) := by decide +kernel
theorem dX4_runFrom_6 : decode cX4_runFrom 6 = .ok (.iload 5, 2) := by decide +kernel
theorem dX4_runFrom_8 : decode cX4_runFrom 8 = .ok (.bipush 16, 2) := by decide +kernel
theorem dX4_runFrom_10 : decode cX4_runFrom 10 = .ok (.if_icmp .ge 26, 3) := by decide +kernel
theorem dX4_runFrom_13 : decode cX4_runFrom 13 = .ok (.aload_n 0, 1) := by decide +kernel
theorem dX4_runFrom_14 : decode cX4_runFrom 14 = .ok (.getfield 19, 3) := by decide +kernel
theorem dX4_runFrom_17 : decode cX4_runFrom 17 = .ok (.iload 4, 2) := by decide +kernel
theorem dX4_runFrom_19 : decode cX4_runFrom 19 = .ok (.iload_n 3, 1) := by decide +kernel
theorem dX4_runFrom_20 : decode cX4_runFrom 20 = .ok (.iload_n 1, 1) := by decide +kernel
theorem dX4_runFrom_21 : decode cX4_runFrom 21 = .ok (.invokevirtual 32, 3) := by decide +kernel
theorem dX4_runFrom_24 : decode cX4_runFrom 24 = .ok (.ifCond .eq 12, 3) := by decide +kernel
theorem dX4_runFrom_27 : decode cX4_runFrom 27 = .ok (.iinc 4 1, 3) := by decide +kernel
theorem dX4_runFrom_30 : decode cX4_runFrom 30 = .ok (.iinc 5 1, 3) := by decide +kernel
theorem dX4_runFrom_33 : decode cX4_runFrom 33 = .ok (.goto (-27), 3) := by decide +kernel
theorem dX4_runFrom_36 : decode cX4_runFrom 36 = .ok (.iload 4, 2) := by decide +kernel
theorem dX4_runFrom_38 : decode cX4_runFrom 38 = .ok (.iload_n 2, 1) := by decide +kernel
theorem dX4_runFrom_39 : decode cX4_runFrom 39 = .ok (.isub, 1) := by decide +kernel
theorem dX4_runFrom_40 : decode cX4_runFrom 40 = .ok (.ireturn, 1) := by decide +kernel
theorem dX4_countOfRuns_0 : decode cX4_countOfRuns 0 = .ok (.iconst 0, 1) := by decide +kernel
theorem dX4_countOfRuns_1 : decode cX4_countOfRuns 1 = .ok (.istore_n 2, 1) := by decide +kernel
theorem dX4_countOfRuns_2 : decode cX4_countOfRuns 2 = .ok (.iconst 0, 1) := by decide +kernel
theorem dX4_countOfRuns_3 : decode cX4_countOfRuns 3 = .ok (.istore_n 3, 1) := by decide +kernel
theorem dX4_countOfRuns_4 : decode cX4_countOfRuns 4 = .ok (.iload_n 3, 1) := by decide +kernel
theorem dX4_countOfRuns_5 : decode cX4_countOfRuns 5 = .ok (.aload_n 0, 1) := by decide +kernel
theorem dX4_countOfRuns_6 : decode cX4_countOfRuns 6 = .ok (.getfield 19, 3) := by decide +kernel
theorem dX4_countOfRuns_9 : decode cX4_countOfRuns 9 = .ok (.getfield 23, 3) := by decide +kernel
theorem dX4_countOfRuns_12 : decode cX4_countOfRuns 12 = .ok (.if_icmp .ge 49, 3) := by decide +kernel
theorem dX4_countOfRuns_15 : decode cX4_countOfRuns 15 = .ok (.iconst 0, 1) := by decide +kernel
theorem dX4_countOfRuns_16 : decode cX4_countOfRuns 16 = .ok (.istore 4, 2) := by decide +kernel
theorem dX4_countOfRuns_18 : decode cX4_countOfRuns 18 = .ok (.iload 4, 2) := by decide +kernel
theorem dX4_countOfRuns_20 : decode cX4_countOfRuns 20 = .ok (.aload_n 0, 1) := by decide +kernel
theorem dX4_countOfRuns_21 : decode cX4_countOfRuns 21 = .ok (.getfield 19, 3) := by decide +kernel
theorem dX4_countOfRuns_24 : decode cX4_countOfRuns 24 = .ok (.getfield 29, 3) := by decide +kernel
theorem dX4_countOfRuns_27 : decode cX4_countOfRuns 27 = .ok (.if_icmp .ge 28, 3) := by decide +kernel
theorem dX4_countOfRuns_30 : decode cX4_countOfRuns 30 = .ok (.iload_n 2, 1) := by decide +kernel
theorem dX4_countOfRuns_31 : decode cX4_countOfRuns 31 = .ok (.aload_n 0, 1) := by decide +kernel
theorem dX4_countOfRuns_32 : decode cX4_countOfRuns 32 = .ok (.iload_n 1, 1) := by decide +kernel
theorem dX4_countOfRuns_33 : decode cX4_countOfRuns 33 = .ok (.iload 4, 2) := by decide +kernel
theorem dX4_countOfRuns_35 : decode cX4_countOfRuns 35 = .ok (.iload_n 3, 1) := by decide +kernel
theorem dX4_countOfRuns_36 : decode cX4_countOfRuns 36 = .ok (.invokevirtual 36, 3) := by decide +kernel
theorem dX4_countOfRuns_39 : decode cX4_countOfRuns 39 = .ok (.ifCond .eq 7, 3) := by decide +kernel
theorem dX4_countOfRuns_42 : decode cX4_countOfRuns 42 = .ok (.iconst 1, 1) := by decide +kernel
theorem dX4_countOfRuns_43 : decode cX4_countOfRuns 43 = .ok (.goto 4, 3) := by decide +kernel
theorem dX4_countOfRuns_46 : decode cX4_countOfRuns 46 = .ok (.iconst 0, 1) := by decide +kernel
theorem dX4_countOfRuns_47 : decode cX4_countOfRuns 47 = .ok (.iadd, 1) := by decide +kernel
theorem dX4_countOfRuns_48 : decode cX4_countOfRuns 48 = .ok (.istore_n 2, 1) := by decide +kernel
theorem dX4_countOfRuns_49 : decode cX4_countOfRuns 49 = .ok (.iinc 4 1, 3) := by decide +kernel
theorem dX4_countOfRuns_52 : decode cX4_countOfRuns 52 = .ok (.goto (-34), 3) := by decide +kernel
theorem dX4_countOfRuns_55 : decode cX4_countOfRuns 55 = .ok (.iinc 3 1, 3) := by decide +kernel
theorem dX4_countOfRuns_58 : decode cX4_countOfRuns 58 = .ok (.goto (-54), 3) := by decide +kernel
theorem dX4_countOfRuns_61 : decode cX4_countOfRuns 61 = .ok (.iload_n 2, 1) := by decide +kernel
theorem dX4_countOfRuns_62 : decode cX4_countOfRuns 62 = .ok (.ireturn, 1) := by decide +kernel
theorem dX4_isRun_0 : decode cX4_isRun 0 = .ok (.aload_n 0, 1) := by decide +kernel
theorem dX4_isRun_1 : decode cX4_isRun 1 = .ok (.iload_n 1, 1) := by decide +kernel
theorem dX4_isRun_2 : decode cX4_isRun 2 = .ok (.iload_n 2, 1) := by decide +kernel
theorem dX4_isRun_3 : decode cX4_isRun 3 = .ok (.iload_n 3, 1) := by decide +kernel
theorem dX4_isRun_4 : decode cX4_isRun 4 = .ok (.invokevirtual 36, 3) := by decide +kernel
theorem dX4_isRun_7 : decode cX4_isRun 7 = .ok (.ifCond .eq 19, 3) := by decide +kernel
theorem dX4_isRun_10 : decode cX4_isRun 10 = .ok (.aload_n 0, 1) := by decide +kernel
theorem dX4_isRun_11 : decode cX4_isRun 11 = .ok (.iload_n 1, 1) := by decide +kernel
theorem dX4_isRun_12 : decode cX4_isRun 12 = .ok (.iload_n 2, 1) := by decide +kernel
theorem dX4_isRun_13 : decode cX4_isRun 13 = .ok (.iload_n 3, 1) := by decide +kernel
theorem dX4_isRun_14 : decode cX4_isRun 14 = .ok (.invokevirtual 39, 3) := by decide +kernel
theorem dX4_isRun_17 : decode cX4_isRun 17 = .ok (.iload 4, 2) := by decide +kernel
theorem dX4_isRun_19 : decode cX4_isRun 19 = .ok (.if_icmp .ne 7, 3) := by decide +kernel
theorem dX4_isRun_22 : decode cX4_isRun 22 = .ok (.iconst 1, 1) := by decide +kernel
theorem dX4_isRun_23 : decode cX4_isRun 23 = .ok (.goto 4, 3) := by decide +kernel
theorem dX4_isRun_26 : decode cX4_isRun 26 = .ok (.iconst 0, 1) := by decide +kernel
theorem dX4_isRun_27 : decode cX4_isRun 27 = .ok (.ireturn, 1) := by decide +kernel
theorem dX4_beginsBlock_0 : decode cX4_beginsBlock 0 = .ok (.aload_n 0, 1) := by decide +kernel
theorem dX4_beginsBlock_1 : decode cX4_beginsBlock 1 = .ok (.iload_n 1, 1) := by decide +kernel
theorem dX4_beginsBlock_2 : decode cX4_beginsBlock 2 = .ok (.iload_n 2, 1) := by decide +kernel
theorem dX4_beginsBlock_3 : decode cX4_beginsBlock 3 = .ok (.iload_n 3, 1) := by decide +kernel
theorem dX4_beginsBlock_4 : decode cX4_beginsBlock 4 = .ok (.invokevirtual 36, 3) := by decide +kernel
theorem dX4_beginsBlock_7 : decode cX4_beginsBlock 7 = .ok (.ifCond .eq 26, 3) := by decide +kernel
theorem dX4_beginsBlock_10 : decode cX4_beginsBlock 10 = .ok (.aload_n 0, 1) := by decide +kernel
theorem dX4_beginsBlock_11 : decode cX4_beginsBlock 11 = .ok (.iload_n 1, 1) := by decide +kernel
theorem dX4_beginsBlock_12 : decode cX4_beginsBlock 12 = .ok (.iload_n 2, 1) := by decide +kernel
theorem dX4_beginsBlock_13 : decode cX4_beginsBlock 13 = .ok (.iload_n 3, 1) := by decide +kernel
theorem dX4_beginsBlock_14 : decode cX4_beginsBlock 14 = .ok (.iconst 1, 1) := by decide +kernel
theorem dX4_beginsBlock_15 : decode cX4_beginsBlock 15 = .ok (.isub, 1) := by decide +kernel
theorem dX4_beginsBlock_16 : decode cX4_beginsBlock 16 = .ok (.aload_n 0, 1) := by decide +kernel
theorem dX4_beginsBlock_17 : decode cX4_beginsBlock 17 = .ok (.iload_n 1, 1) := by decide +kernel
theorem dX4_beginsBlock_18 : decode cX4_beginsBlock 18 = .ok (.iload_n 2, 1) := by decide +kernel
theorem dX4_beginsBlock_19 : decode cX4_beginsBlock 19 = .ok (.iload_n 3, 1) := by decide +kernel
theorem dX4_beginsBlock_20 : decode cX4_beginsBlock 20 = .ok (.invokevirtual 39, 3) := by decide +kernel
theorem dX4_beginsBlock_23 : decode cX4_beginsBlock 23 = .ok (.invokevirtual 49, 3) := by decide +kernel
theorem dX4_beginsBlock_26 : decode cX4_beginsBlock 26 = .ok (.ifCond .ne 7, 3) := by decide +kernel
theorem dX4_beginsBlock_29 : decode cX4_beginsBlock 29 = .ok (.iconst 1, 1) := by decide +kernel
theorem dX4_beginsBlock_30 : decode cX4_beginsBlock 30 = .ok (.goto 4, 3) := by decide +kernel
theorem dX4_beginsBlock_33 : decode cX4_beginsBlock 33 = .ok (.iconst 0, 1) := by decide +kernel
theorem dX4_beginsBlock_34 : decode cX4_beginsBlock 34 = .ok (.ireturn, 1) := by decide +kernel
theorem dX4_countOfBlocks_0 : decode cX4_countOfBlocks 0 = .ok (.aload_n 0, 1) := by decide +kernel
theorem dX4_countOfBlocks_1 : decode cX4_countOfBlocks 1 = .ok (.iload_n 1, 1) := by decide +kernel
theorem dX4_countOfBlocks_2 : decode cX4_countOfBlocks 2 = .ok (.aload_n 0, 1) := by decide +kernel
theorem dX4_countOfBlocks_3 : decode cX4_countOfBlocks 3 = .ok (.getfield 19, 3) := by decide +kernel
theorem dX4_countOfBlocks_6 : decode cX4_countOfBlocks 6 = .ok (.getfield 29, 3) := by decide +kernel
theorem dX4_countOfBlocks_9 : decode cX4_countOfBlocks 9 = .ok (.aload_n 0, 1) := by decide +kernel
theorem dX4_countOfBlocks_10 : decode cX4_countOfBlocks 10 = .ok (.getfield 19, 3) := by decide +kernel
theorem dX4_countOfBlocks_13 : decode cX4_countOfBlocks 13 = .ok (.getfield 23, 3) := by decide +kernel
theorem dX4_countOfBlocks_16 : decode cX4_countOfBlocks 16 = .ok (.iconst 1, 1) := by decide +kernel
theorem dX4_countOfBlocks_17 : decode cX4_countOfBlocks 17 = .ok (.isub, 1) := by decide +kernel
theorem dX4_countOfBlocks_18 : decode cX4_countOfBlocks 18 = .ok (.invokevirtual 53, 3) := by decide +kernel
theorem dX4_countOfBlocks_21 : decode cX4_countOfBlocks 21 = .ok (.ireturn, 1) := by decide +kernel
theorem dX4_blocksAhead_0 : decode cX4_blocksAhead 0 = .ok (.iconst 0, 1) := by decide +kernel
theorem dX4_blocksAhead_1 : decode cX4_blocksAhead 1 = .ok (.istore 4, 2) := by decide +kernel
theorem dX4_blocksAhead_3 : decode cX4_blocksAhead 3 = .ok (.iconst 0, 1) := by decide +kernel
theorem dX4_blocksAhead_4 : decode cX4_blocksAhead 4 = .ok (.istore 5, 2) := by decide +kernel
theorem dX4_blocksAhead_6 : decode cX4_blocksAhead 6 = .ok (.iload 5, 2) := by decide +kernel
theorem dX4_blocksAhead_8 : decode cX4_blocksAhead 8 = .ok (.iload_n 3, 1) := by decide +kernel
theorem dX4_blocksAhead_9 : decode cX4_blocksAhead 9 = .ok (.if_icmp .gt 66, 3) := by decide +kernel
theorem dX4_blocksAhead_12 : decode cX4_blocksAhead 12 = .ok (.iload 5, 2) := by decide +kernel
theorem dX4_blocksAhead_14 : decode cX4_blocksAhead 14 = .ok (.iload_n 3, 1) := by decide +kernel
theorem dX4_blocksAhead_15 : decode cX4_blocksAhead 15 = .ok (.if_icmp .ge 13, 3) := by decide +kernel
theorem dX4_blocksAhead_18 : decode cX4_blocksAhead 18 = .ok (.aload_n 0, 1) := by decide +kernel
theorem dX4_blocksAhead_19 : decode cX4_blocksAhead 19 = .ok (.getfield 19, 3) := by decide +kernel
theorem dX4_blocksAhead_22 : decode cX4_blocksAhead 22 = .ok (.getfield 29, 3) := by decide +kernel
theorem dX4_blocksAhead_25 : decode cX4_blocksAhead 25 = .ok (.goto 4, 3) := by decide +kernel
theorem dX4_blocksAhead_28 : decode cX4_blocksAhead 28 = .ok (.iload_n 2, 1) := by decide +kernel
theorem dX4_blocksAhead_29 : decode cX4_blocksAhead 29 = .ok (.istore 6, 2) := by decide +kernel
theorem dX4_blocksAhead_31 : decode cX4_blocksAhead 31 = .ok (.iconst 0, 1) := by decide +kernel
theorem dX4_blocksAhead_32 : decode cX4_blocksAhead 32 = .ok (.istore 7, 2) := by decide +kernel
theorem dX4_blocksAhead_34 : decode cX4_blocksAhead 34 = .ok (.iload 7, 2) := by decide +kernel
theorem dX4_blocksAhead_36 : decode cX4_blocksAhead 36 = .ok (.iload 6, 2) := by decide +kernel
theorem dX4_blocksAhead_38 : decode cX4_blocksAhead 38 = .ok (.if_icmp .ge 31, 3) := by decide +kernel
theorem dX4_blocksAhead_41 : decode cX4_blocksAhead 41 = .ok (.iload 4, 2) := by decide +kernel
theorem dX4_blocksAhead_43 : decode cX4_blocksAhead 43 = .ok (.aload_n 0, 1) := by decide +kernel
theorem dX4_blocksAhead_44 : decode cX4_blocksAhead 44 = .ok (.iload_n 1, 1) := by decide +kernel
theorem dX4_blocksAhead_45 : decode cX4_blocksAhead 45 = .ok (.iload 7, 2) := by decide +kernel
theorem dX4_blocksAhead_47 : decode cX4_blocksAhead 47 = .ok (.iload 5, 2) := by decide +kernel
theorem dX4_blocksAhead_49 : decode cX4_blocksAhead 49 = .ok (.invokevirtual 56, 3) := by decide +kernel
theorem dX4_blocksAhead_52 : decode cX4_blocksAhead 52 = .ok (.ifCond .eq 7, 3) := by decide +kernel
theorem dX4_blocksAhead_55 : decode cX4_blocksAhead 55 = .ok (.iconst 1, 1) := by decide +kernel
theorem dX4_blocksAhead_56 : decode cX4_blocksAhead 56 = .ok (.goto 4, 3) := by decide +kernel
theorem dX4_blocksAhead_59 : decode cX4_blocksAhead 59 = .ok (.iconst 0, 1) := by decide +kernel
theorem dX4_blocksAhead_60 : decode cX4_blocksAhead 60 = .ok (.iadd, 1) := by decide +kernel
theorem dX4_blocksAhead_61 : decode cX4_blocksAhead 61 = .ok (.istore 4, 2) := by decide +kernel
theorem dX4_blocksAhead_63 : decode cX4_blocksAhead 63 = .ok (.iinc 7 1, 3) := by decide +kernel
theorem dX4_blocksAhead_66 : decode cX4_blocksAhead 66 = .ok (.goto (-32), 3) := by decide +kernel
theorem dX4_blocksAhead_69 : decode cX4_blocksAhead 69 = .ok (.iinc 5 1, 3) := by decide +kernel
theorem dX4_blocksAhead_72 : decode cX4_blocksAhead 72 = .ok (.goto (-66), 3) := by decide +kernel
theorem dX4_blocksAhead_75 : decode cX4_blocksAhead 75 = .ok (.iload 4, 2) := by decide +kernel
theorem dX4_blocksAhead_77 : decode cX4_blocksAhead 77 = .ok (.ireturn, 1) := by decide +kernel
theorem dX4_countOfSides_0 : decode cX4_countOfSides 0 = .ok (.iconst 0, 1) := by decide +kernel
theorem dX4_countOfSides_1 : decode cX4_countOfSides 1 = .ok (.istore_n 2, 1) := by decide +kernel
theorem dX4_countOfSides_2 : decode cX4_countOfSides 2 = .ok (.iconst 0, 1) := by decide +kernel
theorem dX4_countOfSides_3 : decode cX4_countOfSides 3 = .ok (.istore_n 3, 1) := by decide +kernel
theorem dX4_countOfSides_4 : decode cX4_countOfSides 4 = .ok (.iload_n 3, 1) := by decide +kernel
theorem dX4_countOfSides_5 : decode cX4_countOfSides 5 = .ok (.aload_n 0, 1) := by decide +kernel
theorem dX4_countOfSides_6 : decode cX4_countOfSides 6 = .ok (.getfield 19, 3) := by decide +kernel
theorem dX4_countOfSides_9 : decode cX4_countOfSides 9 = .ok (.getfield 23, 3) := by decide +kernel
theorem dX4_countOfSides_12 : decode cX4_countOfSides 12 = .ok (.if_icmp .ge 59, 3) := by decide +kernel
theorem dX4_countOfSides_15 : decode cX4_countOfSides 15 = .ok (.iconst 0, 1) := by decide +kernel
theorem dX4_countOfSides_16 : decode cX4_countOfSides 16 = .ok (.istore 4, 2) := by decide +kernel
theorem dX4_countOfSides_18 : decode cX4_countOfSides 18 = .ok (.iload 4, 2) := by decide +kernel
theorem dX4_countOfSides_20 : decode cX4_countOfSides 20 = .ok (.aload_n 0, 1) := by decide +kernel
theorem dX4_countOfSides_21 : decode cX4_countOfSides 21 = .ok (.getfield 19, 3) := by decide +kernel
theorem dX4_countOfSides_24 : decode cX4_countOfSides 24 = .ok (.getfield 29, 3) := by decide +kernel
theorem dX4_countOfSides_27 : decode cX4_countOfSides 27 = .ok (.if_icmp .ge 38, 3) := by decide +kernel
theorem dX4_countOfSides_30 : decode cX4_countOfSides 30 = .ok (.iload_n 2, 1) := by decide +kernel
theorem dX4_countOfSides_31 : decode cX4_countOfSides 31 = .ok (.aload_n 0, 1) := by decide +kernel
theorem dX4_countOfSides_32 : decode cX4_countOfSides 32 = .ok (.getfield 19, 3) := by decide +kernel
theorem dX4_countOfSides_35 : decode cX4_countOfSides 35 = .ok (.iload 4, 2) := by decide +kernel
theorem dX4_countOfSides_37 : decode cX4_countOfSides 37 = .ok (.iload_n 3, 1) := by decide +kernel
theorem dX4_countOfSides_38 : decode cX4_countOfSides 38 = .ok (.iload_n 1, 1) := by decide +kernel
theorem dX4_countOfSides_39 : decode cX4_countOfSides 39 = .ok (.invokevirtual 32, 3) := by decide +kernel
theorem dX4_countOfSides_42 : decode cX4_countOfSides 42 = .ok (.ifCond .eq 14, 3) := by decide +kernel
theorem dX4_countOfSides_45 : decode cX4_countOfSides 45 = .ok (.aload_n 0, 1) := by decide +kernel
theorem dX4_countOfSides_46 : decode cX4_countOfSides 46 = .ok (.iload_n 1, 1) := by decide +kernel
theorem dX4_countOfSides_47 : decode cX4_countOfSides 47 = .ok (.iload 4, 2) := by decide +kernel
theorem dX4_countOfSides_49 : decode cX4_countOfSides 49 = .ok (.iload_n 3, 1) := by decide +kernel
theorem dX4_countOfSides_50 : decode cX4_countOfSides 50 = .ok (.invokevirtual 62, 3) := by decide +kernel
theorem dX4_countOfSides_53 : decode cX4_countOfSides 53 = .ok (.goto 4, 3) := by decide +kernel
theorem dX4_countOfSides_56 : decode cX4_countOfSides 56 = .ok (.iconst 0, 1) := by decide +kernel
theorem dX4_countOfSides_57 : decode cX4_countOfSides 57 = .ok (.iadd, 1) := by decide +kernel
theorem dX4_countOfSides_58 : decode cX4_countOfSides 58 = .ok (.istore_n 2, 1) := by decide +kernel
theorem dX4_countOfSides_59 : decode cX4_countOfSides 59 = .ok (.iinc 4 1, 3) := by decide +kernel
theorem dX4_countOfSides_62 : decode cX4_countOfSides 62 = .ok (.goto (-44), 3) := by decide +kernel
theorem dX4_countOfSides_65 : decode cX4_countOfSides 65 = .ok (.iinc 3 1, 3) := by decide +kernel
theorem dX4_countOfSides_68 : decode cX4_countOfSides 68 = .ok (.goto (-64), 3) := by decide +kernel
theorem dX4_countOfSides_71 : decode cX4_countOfSides 71 = .ok (.iload_n 2, 1) := by decide +kernel
theorem dX4_countOfSides_72 : decode cX4_countOfSides 72 = .ok (.ireturn, 1) := by decide +kernel
theorem dX4_freeSides_0 : decode cX4_freeSides 0 = .ok (.aload_n 0, 1) := by decide +kernel
theorem dX4_freeSides_1 : decode cX4_freeSides 1 = .ok (.getfield 19, 3) := by decide +kernel
theorem dX4_freeSides_4 : decode cX4_freeSides 4 = .ok (.iload_n 2, 1) := by decide +kernel
theorem dX4_freeSides_5 : decode cX4_freeSides 5 = .ok (.iconst 1, 1) := by decide +kernel
theorem dX4_freeSides_6 : decode cX4_freeSides 6 = .ok (.isub, 1) := by decide +kernel
theorem dX4_freeSides_7 : decode cX4_freeSides 7 = .ok (.iload_n 3, 1) := by decide +kernel
theorem dX4_freeSides_8 : decode cX4_freeSides 8 = .ok (.iload_n 1, 1) := by decide +kernel
theorem dX4_freeSides_9 : decode cX4_freeSides 9 = .ok (.invokevirtual 32, 3) := by decide +kernel
theorem dX4_freeSides_12 : decode cX4_freeSides 12 = .ok (.ifCond .eq 7, 3) := by decide +kernel
theorem dX4_freeSides_15 : decode cX4_freeSides 15 = .ok (.iconst 0, 1) := by decide +kernel
theorem dX4_freeSides_16 : decode cX4_freeSides 16 = .ok (.goto 4, 3) := by decide +kernel
theorem dX4_freeSides_19 : decode cX4_freeSides 19 = .ok (.iconst 1, 1) := by decide +kernel
theorem dX4_freeSides_20 : decode cX4_freeSides 20 = .ok (.istore 4, 2) := by decide +kernel
theorem dX4_freeSides_22 : decode cX4_freeSides 22 = .ok (.aload_n 0, 1) := by decide +kernel
theorem dX4_freeSides_23 : decode cX4_freeSides 23 = .ok (.getfield 19, 3) := by decide +kernel
theorem dX4_freeSides_26 : decode cX4_freeSides 26 = .ok (.iload_n 2, 1) := by decide +kernel
theorem dX4_freeSides_27 : decode cX4_freeSides 27 = .ok (.iconst 1, 1) := by decide +kernel
theorem dX4_freeSides_28 : decode cX4_freeSides 28 = .ok (.iadd, 1) := by decide +kernel
theorem dX4_freeSides_29 : decode cX4_freeSides 29 = .ok (.iload_n 3, 1) := by decide +kernel
theorem dX4_freeSides_30 : decode cX4_freeSides 30 = .ok (.iload_n 1, 1) := by decide +kernel
theorem dX4_freeSides_31 : decode cX4_freeSides 31 = .ok (.invokevirtual 32, 3) := by decide +kernel
theorem dX4_freeSides_34 : decode cX4_freeSides 34 = .ok (.ifCond .eq 7, 3) := by decide +kernel
theorem dX4_freeSides_37 : decode cX4_freeSides 37 = .ok (.iconst 0, 1) := by decide +kernel
theorem dX4_freeSides_38 : decode cX4_freeSides 38 = .ok (.goto 4, 3) := by decide +kernel
theorem dX4_freeSides_41 : decode cX4_freeSides 41 = .ok (.iconst 1, 1) := by decide +kernel
theorem dX4_freeSides_42 : decode cX4_freeSides 42 = .ok (.istore 5, 2) := by decide +kernel
theorem dX4_freeSides_44 : decode cX4_freeSides 44 = .ok (.aload_n 0, 1) := by decide +kernel
theorem dX4_freeSides_45 : decode cX4_freeSides 45 = .ok (.getfield 19, 3) := by decide +kernel
theorem dX4_freeSides_48 : decode cX4_freeSides 48 = .ok (.iload_n 2, 1) := by decide +kernel
theorem dX4_freeSides_49 : decode cX4_freeSides 49 = .ok (.iload_n 3, 1) := by decide +kernel
theorem dX4_freeSides_50 : decode cX4_freeSides 50 = .ok (.iconst 1, 1) := by decide +kernel
theorem dX4_freeSides_51 : decode cX4_freeSides 51 = .ok (.isub, 1) := by decide +kernel
theorem dX4_freeSides_52 : decode cX4_freeSides 52 = .ok (.iload_n 1, 1) := by decide +kernel
theorem dX4_freeSides_53 : decode cX4_freeSides 53 = .ok (.invokevirtual 32, 3) := by decide +kernel
theorem dX4_freeSides_56 : decode cX4_freeSides 56 = .ok (.ifCond .eq 7, 3) := by decide +kernel
theorem dX4_freeSides_59 : decode cX4_freeSides 59 = .ok (.iconst 0, 1) := by decide +kernel
theorem dX4_freeSides_60 : decode cX4_freeSides 60 = .ok (.goto 4, 3) := by decide +kernel
theorem dX4_freeSides_63 : decode cX4_freeSides 63 = .ok (.iconst 1, 1) := by decide +kernel
theorem dX4_freeSides_64 : decode cX4_freeSides 64 = .ok (.istore 6, 2) := by decide +kernel
theorem dX4_freeSides_66 : decode cX4_freeSides 66 = .ok (.aload_n 0, 1) := by decide +kernel
theorem dX4_freeSides_67 : decode cX4_freeSides 67 = .ok (.getfield 19, 3) := by decide +kernel
theorem dX4_freeSides_70 : decode cX4_freeSides 70 = .ok (.iload_n 2, 1) := by decide +kernel
theorem dX4_freeSides_71 : decode cX4_freeSides 71 = .ok (.iload_n 3, 1) := by decide +kernel
theorem dX4_freeSides_72 : decode cX4_freeSides 72 = .ok (.iconst 1, 1) := by decide +kernel
theorem dX4_freeSides_73 : decode cX4_freeSides 73 = .ok (.iadd, 1) := by decide +kernel
theorem dX4_freeSides_74 : decode cX4_freeSides 74 = .ok (.iload_n 1, 1) := by decide +kernel
theorem dX4_freeSides_75 : decode cX4_freeSides 75 = .ok (.invokevirtual 32, 3) := by decide +kernel
theorem dX4_freeSides_78 : decode cX4_freeSides 78 = .ok (.ifCond .eq 7, 3) := by decide +kernel
theorem dX4_freeSides_81 : decode cX4_freeSides 81 = .ok (.iconst 0, 1) := by decide +kernel
theorem dX4_freeSides_82 : decode cX4_freeSides 82 = .ok (.goto 4, 3) := by decide +kernel
theorem dX4_freeSides_85 : decode cX4_freeSides 85 = .ok (.iconst 1, 1) := by decide +kernel
theorem dX4_freeSides_86 : decode cX4_freeSides 86 = .ok (.istore 7, 2) := by decide +kernel
theorem dX4_freeSides_88 : decode cX4_freeSides 88 = .ok (.iload 4, 2) := by decide +kernel
theorem dX4_freeSides_90 : decode cX4_freeSides 90 = .ok (.iload 5, 2) := by decide +kernel
theorem dX4_freeSides_92 : decode cX4_freeSides 92 = .ok (.iadd, 1) := by decide +kernel
theorem dX4_freeSides_93 : decode cX4_freeSides 93 = .ok (.iload 6, 2) := by decide +kernel
theorem dX4_freeSides_95 : decode cX4_freeSides 95 = .ok (.iadd, 1) := by decide +kernel
theorem dX4_freeSides_96 : decode cX4_freeSides 96 = .ok (.iload 7, 2) := by decide +kernel
theorem dX4_freeSides_98 : decode cX4_freeSides 98 = .ok (.iadd, 1) := by decide +kernel
theorem dX4_freeSides_99 : decode cX4_freeSides 99 = .ok (.ireturn, 1) := by decide +kernel
theorem dX4_countOfParts_0 : decode cX4_countOfParts 0 = .ok (.aload_n 0, 1) := by decide +kernel
theorem dX4_countOfParts_1 : decode cX4_countOfParts 1 = .ok (.iload_n 1, 1) := by decide +kernel
theorem dX4_countOfParts_2 : decode cX4_countOfParts 2 = .ok (.iconst 1, 1) := by decide +kernel
theorem dX4_countOfParts_3 : decode cX4_countOfParts 3 = .ok (.invokevirtual 65, 3) := by decide +kernel
theorem dX4_countOfParts_6 : decode cX4_countOfParts 6 = .ok (.ireturn, 1) := by decide +kernel
theorem dX4_countOfGroups_0 : decode cX4_countOfGroups 0 = .ok (.iconst 0, 1) := by decide +kernel
theorem dX4_countOfGroups_1 : decode cX4_countOfGroups 1 = .ok (.istore_n 3, 1) := by decide +kernel
theorem dX4_countOfGroups_2 : decode cX4_countOfGroups 2 = .ok (.iload_n 3, 1) := by decide +kernel
theorem dX4_countOfGroups_3 : decode cX4_countOfGroups 3 = .ok (.aload_n 0, 1) := by decide +kernel
theorem dX4_countOfGroups_4 : decode cX4_countOfGroups 4 = .ok (.getfield 15, 3) := by decide +kernel
theorem dX4_countOfGroups_7 : decode cX4_countOfGroups 7 = .ok (.arraylength, 1) := by decide +kernel
theorem dX4_countOfGroups_8 : decode cX4_countOfGroups 8 = .ok (.if_icmp .ge 16, 3) := by decide +kernel
theorem dX4_countOfGroups_11 : decode cX4_countOfGroups 11 = .ok (.aload_n 0, 1) := by decide +kernel
theorem dX4_countOfGroups_12 : decode cX4_countOfGroups 12 = .ok (.getfield 15, 3) := by decide +kernel
theorem dX4_countOfGroups_15 : decode cX4_countOfGroups 15 = .ok (.iload_n 3, 1) := by decide +kernel
theorem dX4_countOfGroups_16 : decode cX4_countOfGroups 16 = .ok (.iconst 0, 1) := by decide +kernel
theorem dX4_countOfGroups_17 : decode cX4_countOfGroups 17 = .ok (.bastore, 1) := by decide +kernel
theorem dX4_countOfGroups_18 : decode cX4_countOfGroups 18 = .ok (.iinc 3 1, 3) := by decide +kernel
theorem dX4_countOfGroups_21 : decode cX4_countOfGroups 21 = .ok (.goto (-19), 3) := by decide +kernel
theorem dX4_countOfGroups_24 : decode cX4_countOfGroups 24 = .ok (.iconst 0, 1) := by decide +kernel
theorem dX4_countOfGroups_25 : decode cX4_countOfGroups 25 = .ok (.istore_n 3, 1) := by decide +kernel
theorem dX4_countOfGroups_26 : decode cX4_countOfGroups 26 = .ok (.iconst 0, 1) := by decide +kernel
theorem dX4_countOfGroups_27 : decode cX4_countOfGroups 27 = .ok (.istore 4, 2) := by decide +kernel
theorem dX4_countOfGroups_29 : decode cX4_countOfGroups 29 = .ok (.iload 4, 2) := by decide +kernel
theorem dX4_countOfGroups_31 : decode cX4_countOfGroups 31 = .ok (.aload_n 0, 1) := by decide +kernel
theorem dX4_countOfGroups_32 : decode cX4_countOfGroups 32 = .ok (.getfield 19, 3) := by decide +kernel
theorem dX4_countOfGroups_35 : decode cX4_countOfGroups 35 = .ok (.getfield 23, 3) := by decide +kernel
theorem dX4_countOfGroups_38 : decode cX4_countOfGroups 38 = .ok (.if_icmp .ge 86, 3) := by decide +kernel
theorem dX4_countOfGroups_41 : decode cX4_countOfGroups 41 = .ok (.iconst 0, 1) := by decide +kernel
theorem dX4_countOfGroups_42 : decode cX4_countOfGroups 42 = .ok (.istore 5, 2) := by decide +kernel
theorem dX4_countOfGroups_44 : decode cX4_countOfGroups 44 = .ok (.iload 5, 2) := by decide +kernel
theorem dX4_countOfGroups_46 : decode cX4_countOfGroups 46 = .ok (.aload_n 0, 1) := by decide +kernel
theorem dX4_countOfGroups_47 : decode cX4_countOfGroups 47 = .ok (.getfield 19, 3) := by decide +kernel
theorem dX4_countOfGroups_50 : decode cX4_countOfGroups 50 = .ok (.getfield 29, 3) := by decide +kernel
theorem dX4_countOfGroups_53 : decode cX4_countOfGroups 53 = .ok (.if_icmp .ge 65, 3) := by decide +kernel
theorem dX4_countOfGroups_56 : decode cX4_countOfGroups 56 = .ok (.aload_n 0, 1) := by decide +kernel
theorem dX4_countOfGroups_57 : decode cX4_countOfGroups 57 = .ok (.getfield 19, 3) := by decide +kernel
theorem dX4_countOfGroups_60 : decode cX4_countOfGroups 60 = .ok (.iload 5, 2) := by decide +kernel
theorem dX4_countOfGroups_62 : decode cX4_countOfGroups 62 = .ok (.iload 4, 2) := by decide +kernel
theorem dX4_countOfGroups_64 : decode cX4_countOfGroups 64 = .ok (.iload_n 1, 1) := by decide +kernel
theorem dX4_countOfGroups_65 : decode cX4_countOfGroups 65 = .ok (.invokevirtual 32, 3) := by decide +kernel
theorem dX4_countOfGroups_68 : decode cX4_countOfGroups 68 = .ok (.iload_n 2, 1) := by decide +kernel
theorem dX4_countOfGroups_69 : decode cX4_countOfGroups 69 = .ok (.if_icmp .ne 43, 3) := by decide +kernel
theorem dX4_countOfGroups_72 : decode cX4_countOfGroups 72 = .ok (.aload_n 0, 1) := by decide +kernel
theorem dX4_countOfGroups_73 : decode cX4_countOfGroups 73 = .ok (.iload 5, 2) := by decide +kernel
theorem dX4_countOfGroups_75 : decode cX4_countOfGroups 75 = .ok (.iload 4, 2) := by decide +kernel
theorem dX4_countOfGroups_77 : decode cX4_countOfGroups 77 = .ok (.invokevirtual 69, 3) := by decide +kernel
theorem dX4_countOfGroups_80 : decode cX4_countOfGroups 80 = .ok (.ifCond .ne 32, 3) := by decide +kernel
theorem dX4_countOfGroups_83 : decode cX4_countOfGroups 83 = .ok (.aload_n 0, 1) := by decide +kernel
theorem dX4_countOfGroups_84 : decode cX4_countOfGroups 84 = .ok (.iload_n 1, 1) := by decide +kernel
theorem dX4_countOfGroups_85 : decode cX4_countOfGroups 85 = .ok (.iload 5, 2) := by decide +kernel
theorem dX4_countOfGroups_87 : decode cX4_countOfGroups 87 = .ok (.iload 4, 2) := by decide +kernel
theorem dX4_countOfGroups_89 : decode cX4_countOfGroups 89 = .ok (.iload_n 2, 1) := by decide +kernel
theorem dX4_countOfGroups_90 : decode cX4_countOfGroups 90 = .ok (.invokevirtual 73, 3) := by decide +kernel
theorem dX4_countOfGroups_93 : decode cX4_countOfGroups 93 = .ok (.istore 6, 2) := by decide +kernel
theorem dX4_countOfGroups_95 : decode cX4_countOfGroups 95 = .ok (.iload_n 3, 1) := by decide +kernel
theorem dX4_countOfGroups_96 : decode cX4_countOfGroups 96 = .ok (.iload_n 2, 1) := by decide +kernel
theorem dX4_countOfGroups_97 : decode cX4_countOfGroups 97 = .ok (.ifCond .ne 8, 3) := by decide +kernel
theorem dX4_countOfGroups_100 : decode cX4_countOfGroups 100 = .ok (.iload 6, 2) := by decide +kernel
theorem dX4_countOfGroups_102 : decode cX4_countOfGroups 102 = .ok (.ifCond .ne 7, 3) := by decide +kernel
theorem dX4_countOfGroups_105 : decode cX4_countOfGroups 105 = .ok (.iconst 1, 1) := by decide +kernel
theorem dX4_countOfGroups_106 : decode cX4_countOfGroups 106 = .ok (.goto 4, 3) := by decide +kernel
theorem dX4_countOfGroups_109 : decode cX4_countOfGroups 109 = .ok (.iconst 0, 1) := by decide +kernel
theorem dX4_countOfGroups_110 : decode cX4_countOfGroups 110 = .ok (.iadd, 1) := by decide +kernel
theorem dX4_countOfGroups_111 : decode cX4_countOfGroups 111 = .ok (.istore_n 3, 1) := by decide +kernel
theorem dX4_countOfGroups_112 : decode cX4_countOfGroups 112 = .ok (.iinc 5 1, 3) := by decide +kernel
theorem dX4_countOfGroups_115 : decode cX4_countOfGroups 115 = .ok (.goto (-71), 3) := by decide +kernel
theorem dX4_countOfGroups_118 : decode cX4_countOfGroups 118 = .ok (.iinc 4 1, 3) := by decide +kernel
theorem dX4_countOfGroups_121 : decode cX4_countOfGroups 121 = .ok (.goto (-92), 3) := by decide +kernel
theorem dX4_countOfGroups_124 : decode cX4_countOfGroups 124 = .ok (.iload_n 3, 1) := by decide +kernel
theorem dX4_countOfGroups_125 : decode cX4_countOfGroups 125 = .ok (.ireturn, 1) := by decide +kernel
theorem dX4_visitGroup_0 : decode cX4_visitGroup 0 = .ok (.iconst 0, 1) := by decide +kernel
theorem dX4_visitGroup_1 : decode cX4_visitGroup 1 = .ok (.istore 5, 2) := by decide +kernel
theorem dX4_visitGroup_3 : decode cX4_visitGroup 3 = .ok (.aload_n 0, 1) := by decide +kernel
theorem dX4_visitGroup_4 : decode cX4_visitGroup 4 = .ok (.iconst 0, 1) := by decide +kernel
theorem dX4_visitGroup_5 : decode cX4_visitGroup 5 = .ok (.putfield 77, 3) := by decide +kernel
theorem dX4_visitGroup_8 : decode cX4_visitGroup 8 = .ok (.aload_n 0, 1) := by decide +kernel
theorem dX4_visitGroup_9 : decode cX4_visitGroup 9 = .ok (.iload_n 1, 1) := by decide +kernel
theorem dX4_visitGroup_10 : decode cX4_visitGroup 10 = .ok (.iload_n 2, 1) := by decide +kernel
theorem dX4_visitGroup_11 : decode cX4_visitGroup 11 = .ok (.iload_n 3, 1) := by decide +kernel
theorem dX4_visitGroup_12 : decode cX4_visitGroup 12 = .ok (.iload 4, 2) := by decide +kernel
theorem dX4_visitGroup_14 : decode cX4_visitGroup 14 = .ok (.invokevirtual 80, 3) := by decide +kernel
theorem dX4_visitGroup_17 : decode cX4_visitGroup 17 = .ok (.iconst 0, 1) := by decide +kernel
theorem dX4_visitGroup_18 : decode cX4_visitGroup 18 = .ok (.istore 6, 2) := by decide +kernel
theorem dX4_visitGroup_20 : decode cX4_visitGroup 20 = .ok (.iload 6, 2) := by decide +kernel
theorem dX4_visitGroup_22 : decode cX4_visitGroup 22 = .ok (.aload_n 0, 1) := by decide +kernel
theorem dX4_visitGroup_23 : decode cX4_visitGroup 23 = .ok (.getfield 77, 3) := by decide +kernel
theorem dX4_visitGroup_26 : decode cX4_visitGroup 26 = .ok (.if_icmp .ge 118, 3) := by decide +kernel
theorem dX4_visitGroup_29 : decode cX4_visitGroup 29 = .ok (.iload 6, 2) := by decide +kernel
theorem dX4_visitGroup_31 : decode cX4_visitGroup 31 = .ok (.aload_n 0, 1) := by decide +kernel
theorem dX4_visitGroup_32 : decode cX4_visitGroup 32 = .ok (.getfield 9, 3) := by decide +kernel
theorem dX4_visitGroup_35 : decode cX4_visitGroup 35 = .ok (.arraylength, 1) := by decide +kernel
theorem dX4_visitGroup_36 : decode cX4_visitGroup 36 = .ok (.if_icmp .ge 108, 3) := by decide +kernel
theorem dX4_visitGroup_39 : decode cX4_visitGroup 39 = .ok (.aload_n 0, 1) := by decide +kernel
theorem dX4_visitGroup_40 : decode cX4_visitGroup 40 = .ok (.getfield 9, 3) := by decide +kernel
theorem dX4_visitGroup_43 : decode cX4_visitGroup 43 = .ok (.iload 6, 2) := by decide +kernel
theorem dX4_visitGroup_45 : decode cX4_visitGroup 45 = .ok (.iaload, 1) := by decide +kernel
theorem dX4_visitGroup_46 : decode cX4_visitGroup 46 = .ok (.bipush 16, 2) := by decide +kernel
theorem dX4_visitGroup_48 : decode cX4_visitGroup 48 = .ok (.irem, 1) := by decide +kernel
theorem dX4_visitGroup_49 : decode cX4_visitGroup 49 = .ok (.istore 7, 2) := by decide +kernel
theorem dX4_visitGroup_51 : decode cX4_visitGroup 51 = .ok (.aload_n 0, 1) := by decide +kernel
theorem dX4_visitGroup_52 : decode cX4_visitGroup 52 = .ok (.getfield 9, 3) := by decide +kernel
theorem dX4_visitGroup_55 : decode cX4_visitGroup 55 = .ok (.iload 6, 2) := by decide +kernel
theorem dX4_visitGroup_57 : decode cX4_visitGroup 57 = .ok (.iaload, 1) := by decide +kernel
theorem dX4_visitGroup_58 : decode cX4_visitGroup 58 = .ok (.bipush 16, 2) := by decide +kernel
theorem dX4_visitGroup_60 : decode cX4_visitGroup 60 = .ok (.idiv, 1) := by decide +kernel
theorem dX4_visitGroup_61 : decode cX4_visitGroup 61 = .ok (.istore 8, 2) := by decide +kernel
theorem dX4_visitGroup_63 : decode cX4_visitGroup 63 = .ok (.iload 5, 2) := by decide +kernel
theorem dX4_visitGroup_65 : decode cX4_visitGroup 65 = .ok (.ifCond .ne 14, 3) := by decide +kernel
theorem dX4_visitGroup_68 : decode cX4_visitGroup 68 = .ok (.aload_n 0, 1) := by decide +kernel
theorem dX4_visitGroup_69 : decode cX4_visitGroup 69 = .ok (.iload 7, 2) := by decide +kernel
theorem dX4_visitGroup_71 : decode cX4_visitGroup 71 = .ok (.iload 8, 2) := by decide +kernel
theorem dX4_visitGroup_73 : decode cX4_visitGroup 73 = .ok (.invokevirtual 84, 3) := by decide +kernel
theorem dX4_visitGroup_76 : decode cX4_visitGroup 76 = .ok (.ifCond .eq 7, 3) := by decide +kernel
theorem dX4_visitGroup_79 : decode cX4_visitGroup 79 = .ok (.iconst 1, 1) := by decide +kernel
theorem dX4_visitGroup_80 : decode cX4_visitGroup 80 = .ok (.goto 4, 3) := by decide +kernel
theorem dX4_visitGroup_83 : decode cX4_visitGroup 83 = .ok (.iconst 0, 1) := by decide +kernel
theorem dX4_visitGroup_84 : decode cX4_visitGroup 84 = .ok (.istore 5, 2) := by decide +kernel
theorem dX4_visitGroup_86 : decode cX4_visitGroup 86 = .ok (.aload_n 0, 1) := by decide +kernel
theorem dX4_visitGroup_87 : decode cX4_visitGroup 87 = .ok (.iload_n 1, 1) := by decide +kernel
theorem dX4_visitGroup_88 : decode cX4_visitGroup 88 = .ok (.iload 7, 2) := by decide +kernel
theorem dX4_visitGroup_90 : decode cX4_visitGroup 90 = .ok (.iconst 1, 1) := by decide +kernel
theorem dX4_visitGroup_91 : decode cX4_visitGroup 91 = .ok (.isub, 1) := by decide +kernel
theorem dX4_visitGroup_92 : decode cX4_visitGroup 92 = .ok (.iload 8, 2) := by decide +kernel
theorem dX4_visitGroup_94 : decode cX4_visitGroup 94 = .ok (.iload 4, 2) := by decide +kernel
theorem dX4_visitGroup_96 : decode cX4_visitGroup 96 = .ok (.invokevirtual 80, 3) := by decide +kernel
theorem dX4_visitGroup_99 : decode cX4_visitGroup 99 = .ok (.aload_n 0, 1) := by decide +kernel
theorem dX4_visitGroup_100 : decode cX4_visitGroup 100 = .ok (.iload_n 1, 1) := by decide +kernel
theorem dX4_visitGroup_101 : decode cX4_visitGroup 101 = .ok (.iload 7, 2) := by decide +kernel
theorem dX4_visitGroup_103 : decode cX4_visitGroup 103 = .ok (.iconst 1, 1) := by decide +kernel
theorem dX4_visitGroup_104 : decode cX4_visitGroup 104 = .ok (.iadd, 1) := by decide +kernel
theorem dX4_visitGroup_105 : decode cX4_visitGroup 105 = .ok (.iload 8, 2) := by decide +kernel
theorem dX4_visitGroup_107 : decode cX4_visitGroup 107 = .ok (.iload 4, 2) := by decide +kernel
theorem dX4_visitGroup_109 : decode cX4_visitGroup 109 = .ok (.invokevirtual 80, 3) := by decide +kernel
theorem dX4_visitGroup_112 : decode cX4_visitGroup 112 = .ok (.aload_n 0, 1) := by decide +kernel
theorem dX4_visitGroup_113 : decode cX4_visitGroup 113 = .ok (.iload_n 1, 1) := by decide +kernel
theorem dX4_visitGroup_114 : decode cX4_visitGroup 114 = .ok (.iload 7, 2) := by decide +kernel
theorem dX4_visitGroup_116 : decode cX4_visitGroup 116 = .ok (.iload 8, 2) := by decide +kernel
theorem dX4_visitGroup_118 : decode cX4_visitGroup 118 = .ok (.iconst 1, 1) := by decide +kernel
theorem dX4_visitGroup_119 : decode cX4_visitGroup 119 = .ok (.isub, 1) := by decide +kernel
theorem dX4_visitGroup_120 : decode cX4_visitGroup 120 = .ok (.iload 4, 2) := by decide +kernel
theorem dX4_visitGroup_122 : decode cX4_visitGroup 122 = .ok (.invokevirtual 80, 3) := by decide +kernel
theorem dX4_visitGroup_125 : decode cX4_visitGroup 125 = .ok (.aload_n 0, 1) := by decide +kernel
theorem dX4_visitGroup_126 : decode cX4_visitGroup 126 = .ok (.iload_n 1, 1) := by decide +kernel
theorem dX4_visitGroup_127 : decode cX4_visitGroup 127 = .ok (.iload 7, 2) := by decide +kernel
theorem dX4_visitGroup_129 : decode cX4_visitGroup 129 = .ok (.iload 8, 2) := by decide +kernel
theorem dX4_visitGroup_131 : decode cX4_visitGroup 131 = .ok (.iconst 1, 1) := by decide +kernel
theorem dX4_visitGroup_132 : decode cX4_visitGroup 132 = .ok (.iadd, 1) := by decide +kernel
theorem dX4_visitGroup_133 : decode cX4_visitGroup 133 = .ok (.iload 4, 2) := by decide +kernel
theorem dX4_visitGroup_135 : decode cX4_visitGroup 135 = .ok (.invokevirtual 80, 3) := by decide +kernel
theorem dX4_visitGroup_138 : decode cX4_visitGroup 138 = .ok (.iinc 6 1, 3) := by decide +kernel
theorem dX4_visitGroup_141 : decode cX4_visitGroup 141 = .ok (.goto (-121), 3) := by decide +kernel
theorem dX4_visitGroup_144 : decode cX4_visitGroup 144 = .ok (.iload 5, 2) := by decide +kernel
theorem dX4_visitGroup_146 : decode cX4_visitGroup 146 = .ok (.ireturn, 1) := by decide +kernel
theorem dX4_visit_0 : decode cX4_visit 0 = .ok (.aload_n 0, 1) := by decide +kernel
theorem dX4_visit_1 : decode cX4_visit 1 = .ok (.getfield 19, 3) := by decide +kernel
theorem dX4_visit_4 : decode cX4_visit 4 = .ok (.iload_n 2, 1) := by decide +kernel
theorem dX4_visit_5 : decode cX4_visit 5 = .ok (.iload_n 3, 1) := by decide +kernel
theorem dX4_visit_6 : decode cX4_visit 6 = .ok (.invokevirtual 87, 3) := by decide +kernel
theorem dX4_visit_9 : decode cX4_visit 9 = .ok (.ifCond .eq 27, 3) := by decide +kernel
theorem dX4_visit_12 : decode cX4_visit 12 = .ok (.aload_n 0, 1) := by decide +kernel
theorem dX4_visit_13 : decode cX4_visit 13 = .ok (.getfield 19, 3) := by decide +kernel
theorem dX4_visit_16 : decode cX4_visit 16 = .ok (.iload_n 2, 1) := by decide +kernel
theorem dX4_visit_17 : decode cX4_visit 17 = .ok (.iload_n 3, 1) := by decide +kernel
theorem dX4_visit_18 : decode cX4_visit 18 = .ok (.iload_n 1, 1) := by decide +kernel
theorem dX4_visit_19 : decode cX4_visit 19 = .ok (.invokevirtual 32, 3) := by decide +kernel
theorem dX4_visit_22 : decode cX4_visit 22 = .ok (.iload 4, 2) := by decide +kernel
theorem dX4_visit_24 : decode cX4_visit 24 = .ok (.if_icmp .ne 12, 3) := by decide +kernel
theorem dX4_visit_27 : decode cX4_visit 27 = .ok (.aload_n 0, 1) := by decide +kernel
theorem dX4_visit_28 : decode cX4_visit 28 = .ok (.iload_n 2, 1) := by decide +kernel
theorem dX4_visit_29 : decode cX4_visit 29 = .ok (.iload_n 3, 1) := by decide +kernel
theorem dX4_visit_30 : decode cX4_visit 30 = .ok (.invokevirtual 69, 3) := by decide +kernel
theorem dX4_visit_33 : decode cX4_visit 33 = .ok (.ifCond .eq 4, 3) := by decide +kernel
theorem dX4_visit_36 : decode cX4_visit 36 = .ok (.return_, 1) := by decide +kernel
theorem dX4_visit_37 : decode cX4_visit 37 = .ok (.iload_n 3, 1) := by decide +kernel
theorem dX4_visit_38 : decode cX4_visit 38 = .ok (.bipush 16, 2) := by decide +kernel
theorem dX4_visit_40 : decode cX4_visit 40 = .ok (.imul, 1) := by decide +kernel
theorem dX4_visit_41 : decode cX4_visit 41 = .ok (.iload_n 2, 1) := by decide +kernel
theorem dX4_visit_42 : decode cX4_visit 42 = .ok (.iadd, 1) := by decide +kernel
theorem dX4_visit_43 : decode cX4_visit 43 = .ok (.istore 5, 2) := by decide +kernel
theorem dX4_visit_45 : decode cX4_visit 45 = .ok (.aload_n 0, 1) := by decide +kernel
theorem dX4_visit_46 : decode cX4_visit 46 = .ok (.getfield 77, 3) := by decide +kernel
theorem dX4_visit_49 : decode cX4_visit 49 = .ok (.ifCond .lt 59, 3) := by decide +kernel
theorem dX4_visit_52 : decode cX4_visit 52 = .ok (.aload_n 0, 1) := by decide +kernel
theorem dX4_visit_53 : decode cX4_visit 53 = .ok (.getfield 77, 3) := by decide +kernel
theorem dX4_visit_56 : decode cX4_visit 56 = .ok (.aload_n 0, 1) := by decide +kernel
theorem dX4_visit_57 : decode cX4_visit 57 = .ok (.getfield 9, 3) := by decide +kernel
theorem dX4_visit_60 : decode cX4_visit 60 = .ok (.arraylength, 1) := by decide +kernel
theorem dX4_visit_61 : decode cX4_visit 61 = .ok (.if_icmp .ge 47, 3) := by decide +kernel
theorem dX4_visit_64 : decode cX4_visit 64 = .ok (.iload 5, 2) := by decide +kernel
theorem dX4_visit_66 : decode cX4_visit 66 = .ok (.ifCond .lt 42, 3) := by decide +kernel
theorem dX4_visit_69 : decode cX4_visit 69 = .ok (.iload 5, 2) := by decide +kernel
theorem dX4_visit_71 : decode cX4_visit 71 = .ok (.aload_n 0, 1) := by decide +kernel
theorem dX4_visit_72 : decode cX4_visit 72 = .ok (.getfield 15, 3) := by decide +kernel
theorem dX4_visit_75 : decode cX4_visit 75 = .ok (.arraylength, 1) := by decide +kernel
theorem dX4_visit_76 : decode cX4_visit 76 = .ok (.if_icmp .ge 32, 3) := by decide +kernel
theorem dX4_visit_79 : decode cX4_visit 79 = .ok (.aload_n 0, 1) := by decide +kernel
theorem dX4_visit_80 : decode cX4_visit 80 = .ok (.getfield 15, 3) := by decide +kernel
theorem dX4_visit_83 : decode cX4_visit 83 = .ok (.iload 5, 2) := by decide +kernel
theorem dX4_visit_85 : decode cX4_visit 85 = .ok (.iconst 1, 1) := by decide +kernel
theorem dX4_visit_86 : decode cX4_visit 86 = .ok (.bastore, 1) := by decide +kernel
theorem dX4_visit_87 : decode cX4_visit 87 = .ok (.aload_n 0, 1) := by decide +kernel
theorem dX4_visit_88 : decode cX4_visit 88 = .ok (.getfield 9, 3) := by decide +kernel
theorem dX4_visit_91 : decode cX4_visit 91 = .ok (.aload_n 0, 1) := by decide +kernel
theorem dX4_visit_92 : decode cX4_visit 92 = .ok (.getfield 77, 3) := by decide +kernel
theorem dX4_visit_95 : decode cX4_visit 95 = .ok (.iload 5, 2) := by decide +kernel
theorem dX4_visit_97 : decode cX4_visit 97 = .ok (.iastore, 1) := by decide +kernel
theorem dX4_visit_98 : decode cX4_visit 98 = .ok (.aload_n 0, 1) := by decide +kernel
theorem dX4_visit_99 : decode cX4_visit 99 = .ok (.dup, 1) := by decide +kernel
theorem dX4_visit_100 : decode cX4_visit 100 = .ok (.getfield 77, 3) := by decide +kernel
theorem dX4_visit_103 : decode cX4_visit 103 = .ok (.iconst 1, 1) := by decide +kernel
theorem dX4_visit_104 : decode cX4_visit 104 = .ok (.iadd, 1) := by decide +kernel
theorem dX4_visit_105 : decode cX4_visit 105 = .ok (.putfield 77, 3) := by decide +kernel
theorem dX4_visit_108 : decode cX4_visit 108 = .ok (.return_, 1) := by decide +kernel
theorem dX4_wasQueued_0 : decode cX4_wasQueued 0 = .ok (.iload_n 2, 1) := by decide +kernel
theorem dX4_wasQueued_1 : decode cX4_wasQueued 1 = .ok (.bipush 16, 2) := by decide +kernel
theorem dX4_wasQueued_3 : decode cX4_wasQueued 3 = .ok (.imul, 1) := by decide +kernel
theorem dX4_wasQueued_4 : decode cX4_wasQueued 4 = .ok (.iload_n 1, 1) := by decide +kernel
theorem dX4_wasQueued_5 : decode cX4_wasQueued 5 = .ok (.iadd, 1) := by decide +kernel
theorem dX4_wasQueued_6 : decode cX4_wasQueued 6 = .ok (.istore_n 3, 1) := by decide +kernel
theorem dX4_wasQueued_7 : decode cX4_wasQueued 7 = .ok (.iload_n 3, 1) := by decide +kernel
theorem dX4_wasQueued_8 : decode cX4_wasQueued 8 = .ok (.ifCond .lt 25, 3) := by decide +kernel
theorem dX4_wasQueued_11 : decode cX4_wasQueued 11 = .ok (.iload_n 3, 1) := by decide +kernel
theorem dX4_wasQueued_12 : decode cX4_wasQueued 12 = .ok (.aload_n 0, 1) := by decide +kernel
theorem dX4_wasQueued_13 : decode cX4_wasQueued 13 = .ok (.getfield 15, 3) := by decide +kernel
theorem dX4_wasQueued_16 : decode cX4_wasQueued 16 = .ok (.arraylength, 1) := by decide +kernel
theorem dX4_wasQueued_17 : decode cX4_wasQueued 17 = .ok (.if_icmp .ge 16, 3) := by decide +kernel
theorem dX4_wasQueued_20 : decode cX4_wasQueued 20 = .ok (.aload_n 0, 1) := by decide +kernel
theorem dX4_wasQueued_21 : decode cX4_wasQueued 21 = .ok (.getfield 15, 3) := by decide +kernel
theorem dX4_wasQueued_24 : decode cX4_wasQueued 24 = .ok (.iload_n 3, 1) := by decide +kernel
theorem dX4_wasQueued_25 : decode cX4_wasQueued 25 = .ok (.baload, 1) := by decide +kernel
theorem dX4_wasQueued_26 : decode cX4_wasQueued 26 = .ok (.ifCond .eq 7, 3) := by decide +kernel
theorem dX4_wasQueued_29 : decode cX4_wasQueued 29 = .ok (.iconst 1, 1) := by decide +kernel
theorem dX4_wasQueued_30 : decode cX4_wasQueued 30 = .ok (.goto 4, 3) := by decide +kernel
theorem dX4_wasQueued_33 : decode cX4_wasQueued 33 = .ok (.iconst 0, 1) := by decide +kernel
theorem dX4_wasQueued_34 : decode cX4_wasQueued 34 = .ok (.ireturn, 1) := by decide +kernel
theorem dX4_isAtEdge_0 : decode cX4_isAtEdge 0 = .ok (.iload_n 1, 1) := by decide +kernel
theorem dX4_isAtEdge_1 : decode cX4_isAtEdge 1 = .ok (.ifCond .eq 33, 3) := by decide +kernel
theorem dX4_isAtEdge_4 : decode cX4_isAtEdge 4 = .ok (.iload_n 2, 1) := by decide +kernel
theorem dX4_isAtEdge_5 : decode cX4_isAtEdge 5 = .ok (.ifCond .eq 29, 3) := by decide +kernel
theorem dX4_isAtEdge_8 : decode cX4_isAtEdge 8 = .ok (.iload_n 1, 1) := by decide +kernel
theorem dX4_isAtEdge_9 : decode cX4_isAtEdge 9 = .ok (.aload_n 0, 1) := by decide +kernel
theorem dX4_isAtEdge_10 : decode cX4_isAtEdge 10 = .ok (.getfield 19, 3) := by decide +kernel
theorem dX4_isAtEdge_13 : decode cX4_isAtEdge 13 = .ok (.getfield 29, 3) := by decide +kernel
theorem dX4_isAtEdge_16 : decode cX4_isAtEdge 16 = .ok (.iconst 1, 1) := by decide +kernel
theorem dX4_isAtEdge_17 : decode cX4_isAtEdge 17 = .ok (.isub, 1) := by decide +kernel
theorem dX4_isAtEdge_18 : decode cX4_isAtEdge 18 = .ok (.if_icmp .eq 16, 3) := by decide +kernel
theorem dX4_isAtEdge_21 : decode cX4_isAtEdge 21 = .ok (.iload_n 2, 1) := by decide +kernel
theorem dX4_isAtEdge_22 : decode cX4_isAtEdge 22 = .ok (.aload_n 0, 1) := by decide +kernel
theorem dX4_isAtEdge_23 : decode cX4_isAtEdge 23 = .ok (.getfield 19, 3) := by decide +kernel
theorem dX4_isAtEdge_26 : decode cX4_isAtEdge 26 = .ok (.getfield 23, 3) := by decide +kernel
theorem dX4_isAtEdge_29 : decode cX4_isAtEdge 29 = .ok (.iconst 1, 1) := by decide +kernel
theorem dX4_isAtEdge_30 : decode cX4_isAtEdge 30 = .ok (.isub, 1) := by decide +kernel
theorem dX4_isAtEdge_31 : decode cX4_isAtEdge 31 = .ok (.if_icmp .ne 7, 3) := by decide +kernel
theorem dX4_isAtEdge_34 : decode cX4_isAtEdge 34 = .ok (.iconst 1, 1) := by decide +kernel
theorem dX4_isAtEdge_35 : decode cX4_isAtEdge 35 = .ok (.goto 4, 3) := by decide +kernel
theorem dX4_isAtEdge_38 : decode cX4_isAtEdge 38 = .ok (.iconst 0, 1) := by decide +kernel
theorem dX4_isAtEdge_39 : decode cX4_isAtEdge 39 = .ok (.ireturn, 1) := by decide +kernel
theorem dX5_init_0 : decode cX5_init 0 = .ok (.aload_n 0, 1) := by decide +kernel
theorem dX5_init_1 : decode cX5_init 1 = .ok (.invokespecial 3, 3) := by decide +kernel
theorem dX5_init_4 : decode cX5_init 4 = .ok (.aload_n 0, 1) := by decide +kernel
theorem dX5_init_5 : decode cX5_init 5 = .ok (.sipush 192, 3) := by decide +kernel
theorem dX5_init_8 : decode cX5_init 8 = .ok (.newarray .int, 2) := by decide +kernel
theorem dX5_init_10 : decode cX5_init 10 = .ok (.putfield 9, 3) := by decide +kernel
theorem dX5_init_13 : decode cX5_init 13 = .ok (.aload_n 0, 1) := by decide +kernel
theorem dX5_init_14 : decode cX5_init 14 = .ok (.sipush 192, 3) := by decide +kernel
theorem dX5_init_17 : decode cX5_init 17 = .ok (.newarray .int, 2) := by decide +kernel
theorem dX5_init_19 : decode cX5_init 19 = .ok (.putfield 15, 3) := by decide +kernel
theorem dX5_init_22 : decode cX5_init 22 = .ok (.aload_n 0, 1) := by decide +kernel
theorem dX5_init_23 : decode cX5_init 23 = .ok (.bipush 21, 2) := by decide +kernel
theorem dX5_init_25 : decode cX5_init 25 = .ok (.newarray .float, 2) := by decide +kernel
theorem dX5_init_27 : decode cX5_init 27 = .ok (.putfield 18, 3) := by decide +kernel
theorem dX5_init_30 : decode cX5_init 30 = .ok (.aload_n 0, 1) := by decide +kernel
theorem dX5_init_31 : decode cX5_init 31 = .ok (.invokevirtual 22, 3) := by decide +kernel
theorem dX5_init_34 : decode cX5_init 34 = .ok (.aload_n 0, 1) := by decide +kernel
theorem dX5_init_35 : decode cX5_init 35 = .ok (.invokevirtual 25, 3) := by decide +kernel
theorem dX5_init_38 : decode cX5_init 38 = .ok (.return_, 1) := by decide +kernel
theorem dX5_clear_0 : decode cX5_clear 0 = .ok (.aload_n 0, 1) := by decide +kernel
theorem dX5_clear_1 : decode cX5_clear 1 = .ok (.iconst 4, 1) := by decide +kernel
theorem dX5_clear_2 : decode cX5_clear 2 = .ok (.putfield 28, 3) := by decide +kernel
theorem dX5_clear_5 : decode cX5_clear 5 = .ok (.aload_n 0, 1) := by decide +kernel
theorem dX5_clear_6 : decode cX5_clear 6 = .ok (.iconst 4, 1) := by decide +kernel
theorem dX5_clear_7 : decode cX5_clear 7 = .ok (.putfield 32, 3) := by decide +kernel
theorem dX5_clear_10 : decode cX5_clear 10 = .ok (.aload_n 0, 1) := by decide +kernel
theorem dX5_clear_11 : decode cX5_clear 11 = .ok (.bipush 8, 2) := by decide +kernel
theorem dX5_clear_13 : decode cX5_clear 13 = .ok (.putfield 35, 3) := by decide +kernel
theorem dX5_clear_16 : decode cX5_clear 16 = .ok (.aload_n 0, 1) := by decide +kernel
theorem dX5_clear_17 : decode cX5_clear 17 = .ok (.bipush 80, 2) := by decide +kernel
theorem dX5_clear_19 : decode cX5_clear 19 = .ok (.putfield 38, 3) := by decide +kernel
theorem dX5_clear_22 : decode cX5_clear 22 = .ok (.aload_n 0, 1) := by decide +kernel
theorem dX5_clear_23 : decode cX5_clear 23 = .ok (.iconst 1, 1) := by decide +kernel
theorem dX5_clear_24 : decode cX5_clear 24 = .ok (.putfield 41, 3) := by decide +kernel
theorem dX5_clear_27 : decode cX5_clear 27 = .ok (.aload_n 0, 1) := by decide +kernel
theorem dX5_clear_28 : decode cX5_clear 28 = .ok (.iconst 2, 1) := by decide +kernel
theorem dX5_clear_29 : decode cX5_clear 29 = .ok (.putfield 44, 3) := by decide +kernel
theorem dX5_clear_32 : decode cX5_clear 32 = .ok (.aload_n 0, 1) := by decide +kernel
theorem dX5_clear_33 : decode cX5_clear 33 = .ok (.iconst 1, 1) := by decide +kernel
theorem dX5_clear_34 : decode cX5_clear 34 = .ok (.putfield 47, 3) := by decide +kernel
theorem dX5_clear_37 : decode cX5_clear 37 = .ok (.aload_n 0, 1) := by decide +kernel
theorem dX5_clear_38 : decode cX5_clear 38 = .ok (.getfield 9, 3) := by decide +kernel
theorem dX5_clear_41 : decode cX5_clear 41 = .ok (.sipush 255, 3) := by decide +kernel
theorem dX5_clear_44 : decode cX5_clear 44 = .ok (.invokestatic 50, 3) := by decide +kernel
theorem dX5_clear_47 : decode cX5_clear 47 = .ok (.return_, 1) := by decide +kernel
theorem dX5_develop_0 : decode cX5_develop 0 = .ok (.aload_n 0, 1) := by decide +kernel
theorem dX5_develop_1 : decode cX5_develop 1 = .ok (.getfield 38, 3) := by decide +kernel
theorem dX5_develop_4 : decode cX5_develop 4 = .ok (.i2f, 1) := by decide +kernel
theorem dX5_develop_5 : decode cX5_develop 5 = .ok (.ldc 56, 2) := by decide +kernel
theorem dX5_develop_7 : decode cX5_develop 7 = .ok (.fdiv, 1) := by decide +kernel
theorem dX5_develop_8 : decode cX5_develop 8 = .ok (.fstore_n 1, 1) := by decide +kernel
theorem dX5_develop_9 : decode cX5_develop 9 = .ok (.fconst 1, 1) := by decide +kernel
theorem dX5_develop_10 : decode cX5_develop 10 = .ok (.fstore_n 2, 1) := by decide +kernel
theorem dX5_develop_11 : decode cX5_develop 11 = .ok (.iconst 0, 1) := by decide +kernel
theorem dX5_develop_12 : decode cX5_develop 12 = .ok (.istore_n 3, 1) := by decide +kernel
theorem dX5_develop_13 : decode cX5_develop 13 = .ok (.iload_n 3, 1) := by decide +kernel
theorem dX5_develop_14 : decode cX5_develop 14 = .ok (.aload_n 0, 1) := by decide +kernel
theorem dX5_develop_15 : decode cX5_develop 15 = .ok (.getfield 18, 3) := by decide +kernel
theorem dX5_develop_18 : decode cX5_develop 18 = .ok (.arraylength, 1) := by decide +kernel
theorem dX5_develop_19 : decode cX5_develop 19 = .ok (.if_icmp .ge 20, 3) := by decide +kernel
theorem dX5_develop_22 : decode cX5_develop 22 = .ok (.aload_n 0, 1) := by decide +kernel
theorem dX5_develop_23 : decode cX5_develop 23 = .ok (.getfield 18, 3) := by decide +kernel
theorem dX5_develop_26 : decode cX5_develop 26 = .ok (.iload_n 3, 1) := by decide +kernel
theorem dX5_develop_27 : decode cX5_develop 27 = .ok (.fload_n 2, 1) := by decide +kernel
theorem dX5_develop_28 : decode cX5_develop 28 = .ok (.fastore, 1) := by decide +kernel
theorem dX5_develop_29 : decode cX5_develop 29 = .ok (.fload_n 2, 1) := by decide +kernel
theorem dX5_develop_30 : decode cX5_develop 30 = .ok (.fload_n 1, 1) := by decide +kernel
theorem dX5_develop_31 : decode cX5_develop 31 = .ok (.fmul, 1) := by decide +kernel
theorem dX5_develop_32 : decode cX5_develop 32 = .ok (.fstore_n 2, 1) := by decide +kernel
theorem dX5_develop_33 : decode cX5_develop 33 = .ok (.iinc 3 1, 3) := by decide +kernel
theorem dX5_develop_36 : decode cX5_develop 36 = .ok (.goto (-23), 3) := by decide +kernel
theorem dX5_develop_39 : decode cX5_develop 39 = .ok (.aload_n 0, 1) := by decide +kernel
theorem dX5_develop_40 : decode cX5_develop 40 = .ok (.invokevirtual 57, 3) := by decide +kernel
theorem dX5_develop_43 : decode cX5_develop 43 = .ok (.pop, 1) := by decide +kernel
theorem dX5_develop_44 : decode cX5_develop 44 = .ok (.return_, 1) := by decide +kernel
theorem dX5_copyFrom_0 : decode cX5_copyFrom 0 = .ok (.aload_n 0, 1) := by decide +kernel
theorem dX5_copyFrom_1 : decode cX5_copyFrom 1 = .ok (.aload_n 1, 1) := by decide +kernel
theorem dX5_copyFrom_2 : decode cX5_copyFrom 2 = .ok (.getfield 28, 3) := by decide +kernel
theorem dX5_copyFrom_5 : decode cX5_copyFrom 5 = .ok (.putfield 28, 3) := by decide +kernel
theorem dX5_copyFrom_8 : decode cX5_copyFrom 8 = .ok (.aload_n 0, 1) := by decide +kernel
theorem dX5_copyFrom_9 : decode cX5_copyFrom 9 = .ok (.aload_n 1, 1) := by decide +kernel
theorem dX5_copyFrom_10 : decode cX5_copyFrom 10 = .ok (.getfield 32, 3) := by decide +kernel
theorem dX5_copyFrom_13 : decode cX5_copyFrom 13 = .ok (.putfield 32, 3) := by decide +kernel
theorem dX5_copyFrom_16 : decode cX5_copyFrom 16 = .ok (.aload_n 0, 1) := by decide +kernel
theorem dX5_copyFrom_17 : decode cX5_copyFrom 17 = .ok (.aload_n 1, 1) := by decide +kernel
theorem dX5_copyFrom_18 : decode cX5_copyFrom 18 = .ok (.getfield 35, 3) := by decide +kernel
theorem dX5_copyFrom_21 : decode cX5_copyFrom 21 = .ok (.putfield 35, 3) := by decide +kernel
theorem dX5_copyFrom_24 : decode cX5_copyFrom 24 = .ok (.aload_n 0, 1) := by decide +kernel
theorem dX5_copyFrom_25 : decode cX5_copyFrom 25 = .ok (.aload_n 1, 1) := by decide +kernel
theorem dX5_copyFrom_26 : decode cX5_copyFrom 26 = .ok (.getfield 38, 3) := by decide +kernel
theorem dX5_copyFrom_29 : decode cX5_copyFrom 29 = .ok (.putfield 38, 3) := by decide +kernel
theorem dX5_copyFrom_32 : decode cX5_copyFrom 32 = .ok (.aload_n 0, 1) := by decide +kernel
theorem dX5_copyFrom_33 : decode cX5_copyFrom 33 = .ok (.aload_n 1, 1) := by decide +kernel
theorem dX5_copyFrom_34 : decode cX5_copyFrom 34 = .ok (.getfield 41, 3) := by decide +kernel
theorem dX5_copyFrom_37 : decode cX5_copyFrom 37 = .ok (.putfield 41, 3) := by decide +kernel
theorem dX5_copyFrom_40 : decode cX5_copyFrom 40 = .ok (.aload_n 0, 1) := by decide +kernel
theorem dX5_copyFrom_41 : decode cX5_copyFrom 41 = .ok (.aload_n 1, 1) := by decide +kernel
theorem dX5_copyFrom_42 : decode cX5_copyFrom 42 = .ok (.getfield 44, 3) := by decide +kernel
theorem dX5_copyFrom_45 : decode cX5_copyFrom 45 = .ok (.putfield 44, 3) := by decide +kernel
theorem dX5_copyFrom_48 : decode cX5_copyFrom 48 = .ok (.aload_n 0, 1) := by decide +kernel
theorem dX5_copyFrom_49 : decode cX5_copyFrom 49 = .ok (.aload_n 1, 1) := by decide +kernel
theorem dX5_copyFrom_50 : decode cX5_copyFrom 50 = .ok (.getfield 47, 3) := by decide +kernel
theorem dX5_copyFrom_53 : decode cX5_copyFrom 53 = .ok (.putfield 47, 3) := by decide +kernel
theorem dX5_copyFrom_56 : decode cX5_copyFrom 56 = .ok (.aload_n 1, 1) := by decide +kernel
theorem dX5_copyFrom_57 : decode cX5_copyFrom 57 = .ok (.getfield 9, 3) := by decide +kernel
theorem dX5_copyFrom_60 : decode cX5_copyFrom 60 = .ok (.iconst 0, 1) := by decide +kernel
theorem dX5_copyFrom_61 : decode cX5_copyFrom 61 = .ok (.aload_n 0, 1) := by decide +kernel
theorem dX5_copyFrom_62 : decode cX5_copyFrom 62 = .ok (.getfield 9, 3) := by decide +kernel
theorem dX5_copyFrom_65 : decode cX5_copyFrom 65 = .ok (.iconst 0, 1) := by decide +kernel
theorem dX5_copyFrom_66 : decode cX5_copyFrom 66 = .ok (.sipush 192, 3) := by decide +kernel
theorem dX5_copyFrom_69 : decode cX5_copyFrom 69 = .ok (.invokestatic 61, 3) := by decide +kernel
theorem dX5_copyFrom_72 : decode cX5_copyFrom 72 = .ok (.aload_n 1, 1) := by decide +kernel
theorem dX5_copyFrom_73 : decode cX5_copyFrom 73 = .ok (.getfield 18, 3) := by decide +kernel
theorem dX5_copyFrom_76 : decode cX5_copyFrom 76 = .ok (.iconst 0, 1) := by decide +kernel
theorem dX5_copyFrom_77 : decode cX5_copyFrom 77 = .ok (.aload_n 0, 1) := by decide +kernel
theorem dX5_copyFrom_78 : decode cX5_copyFrom 78 = .ok (.getfield 18, 3) := by decide +kernel
theorem dX5_copyFrom_81 : decode cX5_copyFrom 81 = .ok (.iconst 0, 1) := by decide +kernel
theorem dX5_copyFrom_82 : decode cX5_copyFrom 82 = .ok (.bipush 21, 2) := by decide +kernel
theorem dX5_copyFrom_84 : decode cX5_copyFrom 84 = .ok (.invokestatic 61, 3) := by decide +kernel
theorem dX5_copyFrom_87 : decode cX5_copyFrom 87 = .ok (.aload_n 0, 1) := by decide +kernel
theorem dX5_copyFrom_88 : decode cX5_copyFrom 88 = .ok (.aload_n 1, 1) := by decide +kernel
theorem dX5_copyFrom_89 : decode cX5_copyFrom 89 = .ok (.invokevirtual 67, 3) := by decide +kernel
theorem dX5_copyFrom_92 : decode cX5_copyFrom 92 = .ok (.return_, 1) := by decide +kernel
theorem dX5_copyHeightsFrom_0 : decode cX5_copyHeightsFrom 0 = .ok (.aload_n 1, 1) := by decide +kernel
theorem dX5_copyHeightsFrom_1 : decode cX5_copyHeightsFrom 1 = .ok (.getfield 15, 3) := by decide +kernel
theorem dX5_copyHeightsFrom_4 : decode cX5_copyHeightsFrom 4 = .ok (.iconst 0, 1) := by decide +kernel
theorem dX5_copyHeightsFrom_5 : decode cX5_copyHeightsFrom 5 = .ok (.aload_n 0, 1) := by decide +kernel
theorem dX5_copyHeightsFrom_6 : decode cX5_copyHeightsFrom 6 = .ok (.getfield 15, 3) := by decide +kernel
theorem dX5_copyHeightsFrom_9 : decode cX5_copyHeightsFrom 9 = .ok (.iconst 0, 1) := by decide +kernel
theorem dX5_copyHeightsFrom_10 : decode cX5_copyHeightsFrom 10 = .ok (.sipush 192, 3) := by decide +kernel
theorem dX5_copyHeightsFrom_13 : decode cX5_copyHeightsFrom 13 = .ok (.invokestatic 61, 3) := by decide +kernel
theorem dX5_copyHeightsFrom_16 : decode cX5_copyHeightsFrom 16 = .ok (.return_, 1) := by decide +kernel
theorem dX5_has_0 : decode cX5_has 0 = .ok (.iload_n 1, 1) := by decide +kernel
theorem dX5_has_1 : decode cX5_has 1 = .ok (.ifCond .lt 27, 3) := by decide +kernel
theorem dX5_has_4 : decode cX5_has 4 = .ok (.iload_n 1, 1) := by decide +kernel
theorem dX5_has_5 : decode cX5_has 5 = .ok (.aload_n 0, 1) := by decide +kernel
theorem dX5_has_6 : decode cX5_has 6 = .ok (.getfield 28, 3) := by decide +kernel
theorem dX5_has_9 : decode cX5_has 9 = .ok (.if_icmp .ge 19, 3) := by decide +kernel
theorem dX5_has_12 : decode cX5_has 12 = .ok (.iload_n 2, 1) := by decide +kernel
theorem dX5_has_13 : decode cX5_has 13 = .ok (.ifCond .lt 15, 3) := by decide +kernel
theorem dX5_has_16 : decode cX5_has 16 = .ok (.iload_n 2, 1) := by decide +kernel
theorem dX5_has_17 : decode cX5_has 17 = .ok (.aload_n 0, 1) := by decide +kernel
theorem dX5_has_18 : decode cX5_has 18 = .ok (.getfield 32, 3) := by decide +kernel
theorem dX5_has_21 : decode cX5_has 21 = .ok (.if_icmp .ge 7, 3) := by decide +kernel
theorem dX5_has_24 : decode cX5_has 24 = .ok (.iconst 1, 1) := by decide +kernel
theorem dX5_has_25 : decode cX5_has 25 = .ok (.goto 4, 3) := by decide +kernel
theorem dX5_has_28 : decode cX5_has 28 = .ok (.iconst 0, 1) := by decide +kernel
theorem dX5_has_29 : decode cX5_has 29 = .ok (.ireturn, 1) := by decide +kernel
theorem dX5_fits_0 : decode cX5_fits 0 = .ok (.iload_n 3, 1) := by decide +kernel
theorem dX5_fits_1 : decode cX5_fits 1 = .ok (.iconst 1, 1) := by decide +kernel
theorem dX5_fits_2 : decode cX5_fits 2 = .ok (.if_icmp .lt 34, 3) := by decide +kernel
theorem dX5_fits_5 : decode cX5_fits 5 = .ok (.iload_n 3, 1) := by decide +kernel
theorem dX5_fits_6 : decode cX5_fits 6 = .ok (.aload_n 0, 1) := by decide +kernel
theorem dX5_fits_7 : decode cX5_fits 7 = .ok (.getfield 28, 3) := by decide +kernel
theorem dX5_fits_10 : decode cX5_fits 10 = .ok (.iload_n 1, 1) := by decide +kernel
theorem dX5_fits_11 : decode cX5_fits 11 = .ok (.isub, 1) := by decide +kernel
theorem dX5_fits_12 : decode cX5_fits 12 = .ok (.if_icmp .gt 24, 3) := by decide +kernel
theorem dX5_fits_15 : decode cX5_fits 15 = .ok (.iload 4, 2) := by decide +kernel
theorem dX5_fits_17 : decode cX5_fits 17 = .ok (.iconst 1, 1) := by decide +kernel
theorem dX5_fits_18 : decode cX5_fits 18 = .ok (.if_icmp .lt 18, 3) := by decide +kernel
theorem dX5_fits_21 : decode cX5_fits 21 = .ok (.iload 4, 2) := by decide +kernel
theorem dX5_fits_23 : decode cX5_fits 23 = .ok (.aload_n 0, 1) := by decide +kernel
theorem dX5_fits_24 : decode cX5_fits 24 = .ok (.getfield 32, 3) := by decide +kernel
theorem dX5_fits_27 : decode cX5_fits 27 = .ok (.iload_n 2, 1) := by decide +kernel
theorem dX5_fits_28 : decode cX5_fits 28 = .ok (.isub, 1) := by decide +kernel
theorem dX5_fits_29 : decode cX5_fits 29 = .ok (.if_icmp .gt 7, 3) := by decide +kernel
theorem dX5_fits_32 : decode cX5_fits 32 = .ok (.iconst 1, 1) := by decide +kernel
theorem dX5_fits_33 : decode cX5_fits 33 = .ok (.goto 4, 3) := by decide +kernel
theorem dX5_fits_36 : decode cX5_fits 36 = .ok (.iconst 0, 1) := by decide +kernel
theorem dX5_fits_37 : decode cX5_fits 37 = .ok (.ireturn, 1) := by decide +kernel
theorem dX5_allows_0 : decode cX5_allows 0 = .ok (.iload_n 1, 1) := by decide +kernel
theorem dX5_allows_1 : decode cX5_allows 1 = .ok (.aload_n 0, 1) := by decide +kernel
theorem dX5_allows_2 : decode cX5_allows 2 = .ok (.getfield 41, 3) := by decide +kernel
theorem dX5_allows_5 : decode cX5_allows 5 = .ok (.if_icmp .lt 15, 3) := by decide +kernel
theorem dX5_allows_8 : decode cX5_allows 8 = .ok (.iload_n 1, 1) := by decide +kernel
theorem dX5_allows_9 : decode cX5_allows 9 = .ok (.aload_n 0, 1) := by decide +kernel
theorem dX5_allows_10 : decode cX5_allows 10 = .ok (.getfield 35, 3) := by decide +kernel
theorem dX5_allows_13 : decode cX5_allows 13 = .ok (.if_icmp .gt 7, 3) := by decide +kernel
theorem dX5_allows_16 : decode cX5_allows 16 = .ok (.iconst 1, 1) := by decide +kernel
theorem dX5_allows_17 : decode cX5_allows 17 = .ok (.goto 4, 3) := by decide +kernel
theorem dX5_allows_20 : decode cX5_allows 20 = .ok (.iconst 0, 1) := by decide +kernel
theorem dX5_allows_21 : decode cX5_allows 21 = .ok (.ireturn, 1) := by decide +kernel
theorem dX5_isTone_0 : decode cX5_isTone 0 = .ok (.iload_n 0, 1) := by decide +kernel
theorem dX5_isTone_1 : decode cX5_isTone 1 = .ok (.ifCond .lt 14, 3) := by decide +kernel
theorem dX5_isTone_4 : decode cX5_isTone 4 = .ok (.iload_n 0, 1) := by decide +kernel
theorem dX5_isTone_5 : decode cX5_isTone 5 = .ok (.sipush 255, 3) := by decide +kernel
theorem dX5_isTone_8 : decode cX5_isTone 8 = .ok (.if_icmp .gt 7, 3) := by decide +kernel
theorem dX5_isTone_11 : decode cX5_isTone 11 = .ok (.iconst 1, 1) := by decide +kernel
theorem dX5_isTone_12 : decode cX5_isTone 12 = .ok (.goto 4, 3) := by decide +kernel
theorem dX5_isTone_15 : decode cX5_isTone 15 = .ok (.iconst 0, 1) := by decide +kernel
theorem dX5_isTone_16 : decode cX5_isTone 16 = .ok (.ireturn, 1) := by decide +kernel
theorem dX5_toneAt_0 : decode cX5_toneAt 0 = .ok (.iload_n 1, 1) := by decide +kernel
theorem dX5_toneAt_1 : decode cX5_toneAt 1 = .ok (.ifCond .lt 37, 3) := by decide +kernel
theorem dX5_toneAt_4 : decode cX5_toneAt 4 = .ok (.iload_n 1, 1) := by decide +kernel
theorem dX5_toneAt_5 : decode cX5_toneAt 5 = .ok (.aload_n 0, 1) := by decide +kernel
theorem dX5_toneAt_6 : decode cX5_toneAt 6 = .ok (.getfield 28, 3) := by decide +kernel
theorem dX5_toneAt_9 : decode cX5_toneAt 9 = .ok (.if_icmp .ge 29, 3) := by decide +kernel
theorem dX5_toneAt_12 : decode cX5_toneAt 12 = .ok (.iload_n 2, 1) := by decide +kernel
theorem dX5_toneAt_13 : decode cX5_toneAt 13 = .ok (.ifCond .lt 25, 3) := by decide +kernel
theorem dX5_toneAt_16 : decode cX5_toneAt 16 = .ok (.iload_n 2, 1) := by decide +kernel
theorem dX5_toneAt_17 : decode cX5_toneAt 17 = .ok (.aload_n 0, 1) := by decide +kernel
theorem dX5_toneAt_18 : decode cX5_toneAt 18 = .ok (.getfield 32, 3) := by decide +kernel
theorem dX5_toneAt_21 : decode cX5_toneAt 21 = .ok (.if_icmp .ge 17, 3) := by decide +kernel
theorem dX5_toneAt_24 : decode cX5_toneAt 24 = .ok (.aload_n 0, 1) := by decide +kernel
theorem dX5_toneAt_25 : decode cX5_toneAt 25 = .ok (.getfield 9, 3) := by decide +kernel
theorem dX5_toneAt_28 : decode cX5_toneAt 28 = .ok (.iload_n 2, 1) := by decide +kernel
theorem dX5_toneAt_29 : decode cX5_toneAt 29 = .ok (.bipush 16, 2) := by decide +kernel
theorem dX5_toneAt_31 : decode cX5_toneAt 31 = .ok (.imul, 1) := by decide +kernel
theorem dX5_toneAt_32 : decode cX5_toneAt 32 = .ok (.iload_n 1, 1) := by decide +kernel
theorem dX5_toneAt_33 : decode cX5_toneAt 33 = .ok (.iadd, 1) := by decide +kernel
theorem dX5_toneAt_34 : decode cX5_toneAt 34 = .ok (.iaload, 1) := by decide +kernel
theorem dX5_toneAt_35 : decode cX5_toneAt 35 = .ok (.goto 6, 3) := by decide +kernel
theorem dX5_toneAt_38 : decode cX5_toneAt 38 = .ok (.sipush 255, 3) := by decide +kernel
theorem dX5_toneAt_41 : decode cX5_toneAt 41 = .ok (.ireturn, 1) := by decide +kernel
theorem dX5_heightAt_0 : decode cX5_heightAt 0 = .ok (.iload_n 1, 1) := by decide +kernel
theorem dX5_heightAt_1 : decode cX5_heightAt 1 = .ok (.ifCond .lt 37, 3) := by decide +kernel
theorem dX5_heightAt_4 : decode cX5_heightAt 4 = .ok (.iload_n 1, 1) := by decide +kernel
theorem dX5_heightAt_5 : decode cX5_heightAt 5 = .ok (.aload_n 0, 1) := by decide +kernel
theorem dX5_heightAt_6 : decode cX5_heightAt 6 = .ok (.getfield 28, 3) := by decide +kernel
theorem dX5_heightAt_9 : decode cX5_heightAt 9 = .ok (.if_icmp .ge 29, 3) := by decide +kernel
theorem dX5_heightAt_12 : decode cX5_heightAt 12 = .ok (.iload_n 2, 1) := by decide +kernel
theorem dX5_heightAt_13 : decode cX5_heightAt 13 = .ok (.ifCond .lt 25, 3) := by decide +kernel
theorem dX5_heightAt_16 : decode cX5_heightAt 16 = .ok (.iload_n 2, 1) := by decide +kernel
theorem dX5_heightAt_17 : decode cX5_heightAt 17 = .ok (.aload_n 0, 1) := by decide +kernel
theorem dX5_heightAt_18 : decode cX5_heightAt 18 = .ok (.getfield 32, 3) := by decide +kernel
theorem dX5_heightAt_21 : decode cX5_heightAt 21 = .ok (.if_icmp .ge 17, 3) := by decide +kernel
theorem dX5_heightAt_24 : decode cX5_heightAt 24 = .ok (.aload_n 0, 1) := by decide +kernel
theorem dX5_heightAt_25 : decode cX5_heightAt 25 = .ok (.getfield 15, 3) := by decide +kernel
theorem dX5_heightAt_28 : decode cX5_heightAt 28 = .ok (.iload_n 2, 1) := by decide +kernel
theorem dX5_heightAt_29 : decode cX5_heightAt 29 = .ok (.bipush 16, 2) := by decide +kernel
theorem dX5_heightAt_31 : decode cX5_heightAt 31 = .ok (.imul, 1) := by decide +kernel
theorem dX5_heightAt_32 : decode cX5_heightAt 32 = .ok (.iload_n 1, 1) := by decide +kernel
theorem dX5_heightAt_33 : decode cX5_heightAt 33 = .ok (.iadd, 1) := by decide +kernel
theorem dX5_heightAt_34 : decode cX5_heightAt 34 = .ok (.iaload, 1) := by decide +kernel
theorem dX5_heightAt_35 : decode cX5_heightAt 35 = .ok (.goto 4, 3) := by decide +kernel
theorem dX5_heightAt_38 : decode cX5_heightAt 38 = .ok (.iconst (-1), 1) := by decide +kernel
theorem dX5_heightAt_39 : decode cX5_heightAt 39 = .ok (.ireturn, 1) := by decide +kernel
theorem dX5_reaches_0 : decode cX5_reaches 0 = .ok (.iload_n 1, 1) := by decide +kernel
theorem dX5_reaches_1 : decode cX5_reaches 1 = .ok (.ifCond .lt 42, 3) := by decide +kernel
theorem dX5_reaches_4 : decode cX5_reaches 4 = .ok (.iload_n 1, 1) := by decide +kernel
theorem dX5_reaches_5 : decode cX5_reaches 5 = .ok (.aload_n 0, 1) := by decide +kernel
theorem dX5_reaches_6 : decode cX5_reaches 6 = .ok (.getfield 28, 3) := by decide +kernel
theorem dX5_reaches_9 : decode cX5_reaches 9 = .ok (.if_icmp .ge 34, 3) := by decide +kernel
theorem dX5_reaches_12 : decode cX5_reaches 12 = .ok (.iload_n 2, 1) := by decide +kernel
theorem dX5_reaches_13 : decode cX5_reaches 13 = .ok (.ifCond .lt 30, 3) := by decide +kernel
theorem dX5_reaches_16 : decode cX5_reaches 16 = .ok (.iload_n 2, 1) := by decide +kernel
theorem dX5_reaches_17 : decode cX5_reaches 17 = .ok (.aload_n 0, 1) := by decide +kernel
theorem dX5_reaches_18 : decode cX5_reaches 18 = .ok (.getfield 32, 3) := by decide +kernel
theorem dX5_reaches_21 : decode cX5_reaches 21 = .ok (.if_icmp .ge 22, 3) := by decide +kernel
theorem dX5_reaches_24 : decode cX5_reaches 24 = .ok (.aload_n 0, 1) := by decide +kernel
theorem dX5_reaches_25 : decode cX5_reaches 25 = .ok (.getfield 15, 3) := by decide +kernel
theorem dX5_reaches_28 : decode cX5_reaches 28 = .ok (.iload_n 2, 1) := by decide +kernel
theorem dX5_reaches_29 : decode cX5_reaches 29 = .ok (.bipush 16, 2) := by decide +kernel
theorem dX5_reaches_31 : decode cX5_reaches 31 = .ok (.imul, 1) := by decide +kernel
theorem dX5_reaches_32 : decode cX5_reaches 32 = .ok (.iload_n 1, 1) := by decide +kernel
theorem dX5_reaches_33 : decode cX5_reaches 33 = .ok (.iadd, 1) := by decide +kernel
theorem dX5_reaches_34 : decode cX5_reaches 34 = .ok (.iaload, 1) := by decide +kernel
theorem dX5_reaches_35 : decode cX5_reaches 35 = .ok (.iload_n 3, 1) := by decide +kernel
theorem dX5_reaches_36 : decode cX5_reaches 36 = .ok (.if_icmp .lt 7, 3) := by decide +kernel
theorem dX5_reaches_39 : decode cX5_reaches 39 = .ok (.iconst 1, 1) := by decide +kernel
theorem dX5_reaches_40 : decode cX5_reaches 40 = .ok (.goto 4, 3) := by decide +kernel
theorem dX5_reaches_43 : decode cX5_reaches 43 = .ok (.iconst 0, 1) := by decide +kernel
theorem dX5_reaches_44 : decode cX5_reaches 44 = .ok (.ireturn, 1) := by decide +kernel
theorem dX5_lightAt_0 : decode cX5_lightAt 0 = .ok (.iload_n 1, 1) := by decide +kernel
theorem dX5_lightAt_1 : decode cX5_lightAt 1 = .ok (.ifCond .lt 23, 3) := by decide +kernel
theorem dX5_lightAt_4 : decode cX5_lightAt 4 = .ok (.iload_n 1, 1) := by decide +kernel
theorem dX5_lightAt_5 : decode cX5_lightAt 5 = .ok (.aload_n 0, 1) := by decide +kernel
theorem dX5_lightAt_6 : decode cX5_lightAt 6 = .ok (.getfield 28, 3) := by decide +kernel
theorem dX5_lightAt_9 : decode cX5_lightAt 9 = .ok (.if_icmp .ge 15, 3) := by decide +kernel
theorem dX5_lightAt_12 : decode cX5_lightAt 12 = .ok (.iload_n 2, 1) := by decide +kernel
theorem dX5_lightAt_13 : decode cX5_lightAt 13 = .ok (.ifCond .lt 11, 3) := by decide +kernel
theorem dX5_lightAt_16 : decode cX5_lightAt 16 = .ok (.iload_n 2, 1) := by decide +kernel
theorem dX5_lightAt_17 : decode cX5_lightAt 17 = .ok (.aload_n 0, 1) := by decide +kernel
theorem dX5_lightAt_18 : decode cX5_lightAt 18 = .ok (.getfield 32, 3) := by decide +kernel
theorem dX5_lightAt_21 : decode cX5_lightAt 21 = .ok (.if_icmp .lt 5, 3) := by decide +kernel
theorem dX5_lightAt_24 : decode cX5_lightAt 24 = .ok (.fload_n 3, 1) := by decide +kernel
theorem dX5_lightAt_25 : decode cX5_lightAt 25 = .ok (.freturn, 1) := by decide +kernel
theorem dX5_lightAt_26 : decode cX5_lightAt 26 = .ok (.aload_n 0, 1) := by decide +kernel
theorem dX5_lightAt_27 : decode cX5_lightAt 27 = .ok (.getfield 15, 3) := by decide +kernel
theorem dX5_lightAt_30 : decode cX5_lightAt 30 = .ok (.iload_n 2, 1) := by decide +kernel
theorem dX5_lightAt_31 : decode cX5_lightAt 31 = .ok (.bipush 16, 2) := by decide +kernel
theorem dX5_lightAt_33 : decode cX5_lightAt 33 = .ok (.imul, 1) := by decide +kernel
theorem dX5_lightAt_34 : decode cX5_lightAt 34 = .ok (.iload_n 1, 1) := by decide +kernel
theorem dX5_lightAt_35 : decode cX5_lightAt 35 = .ok (.iadd, 1) := by decide +kernel
theorem dX5_lightAt_36 : decode cX5_lightAt 36 = .ok (.iaload, 1) := by decide +kernel
theorem dX5_lightAt_37 : decode cX5_lightAt 37 = .ok (.istore 4, 2) := by decide +kernel
theorem dX5_lightAt_39 : decode cX5_lightAt 39 = .ok (.iload 4, 2) := by decide +kernel
theorem dX5_lightAt_41 : decode cX5_lightAt 41 = .ok (.ifCond .lt 23, 3) := by decide +kernel
theorem dX5_lightAt_44 : decode cX5_lightAt 44 = .ok (.iload 4, 2) := by decide +kernel
theorem dX5_lightAt_46 : decode cX5_lightAt 46 = .ok (.aload_n 0, 1) := by decide +kernel
theorem dX5_lightAt_47 : decode cX5_lightAt 47 = .ok (.getfield 18, 3) := by decide +kernel
theorem dX5_lightAt_50 : decode cX5_lightAt 50 = .ok (.arraylength, 1) := by decide +kernel
theorem dX5_lightAt_51 : decode cX5_lightAt 51 = .ok (.if_icmp .ge 13, 3) := by decide +kernel
theorem dX5_lightAt_54 : decode cX5_lightAt 54 = .ok (.aload_n 0, 1) := by decide +kernel
theorem dX5_lightAt_55 : decode cX5_lightAt 55 = .ok (.getfield 18, 3) := by decide +kernel
theorem dX5_lightAt_58 : decode cX5_lightAt 58 = .ok (.iload 4, 2) := by decide +kernel
theorem dX5_lightAt_60 : decode cX5_lightAt 60 = .ok (.faload, 1) := by decide +kernel
theorem dX5_lightAt_61 : decode cX5_lightAt 61 = .ok (.goto 4, 3) := by decide +kernel
theorem dX5_lightAt_64 : decode cX5_lightAt 64 = .ok (.fload_n 3, 1) := by decide +kernel
theorem dX5_lightAt_65 : decode cX5_lightAt 65 = .ok (.freturn, 1) := by decide +kernel
theorem dX5_dye_0 : decode cX5_dye 0 = .ok (.aload_n 0, 1) := by decide +kernel
theorem dX5_dye_1 : decode cX5_dye 1 = .ok (.iload_n 1, 1) := by decide +kernel
theorem dX5_dye_2 : decode cX5_dye 2 = .ok (.iload_n 2, 1) := by decide +kernel
theorem dX5_dye_3 : decode cX5_dye 3 = .ok (.invokevirtual 71, 3) := by decide +kernel
theorem dX5_dye_6 : decode cX5_dye 6 = .ok (.ifCond .eq 15, 3) := by decide +kernel
theorem dX5_dye_9 : decode cX5_dye 9 = .ok (.aload_n 0, 1) := by decide +kernel
theorem dX5_dye_10 : decode cX5_dye 10 = .ok (.getfield 9, 3) := by decide +kernel
theorem dX5_dye_13 : decode cX5_dye 13 = .ok (.iload_n 2, 1) := by decide +kernel
theorem dX5_dye_14 : decode cX5_dye 14 = .ok (.bipush 16, 2) := by decide +kernel
theorem dX5_dye_16 : decode cX5_dye 16 = .ok (.imul, 1) := by decide +kernel
theorem dX5_dye_17 : decode cX5_dye 17 = .ok (.iload_n 1, 1) := by decide +kernel
theorem dX5_dye_18 : decode cX5_dye 18 = .ok (.iadd, 1) := by decide +kernel
theorem dX5_dye_19 : decode cX5_dye 19 = .ok (.iload_n 3, 1) := by decide +kernel
theorem dX5_dye_20 : decode cX5_dye 20 = .ok (.iastore, 1) := by decide +kernel
theorem dX5_dye_21 : decode cX5_dye 21 = .ok (.return_, 1) := by decide +kernel
theorem dX5_build_0 : decode cX5_build 0 = .ok (.aload_n 0, 1) := by decide +kernel
theorem dX5_build_1 : decode cX5_build 1 = .ok (.iload_n 1, 1) := by decide +kernel
theorem dX5_build_2 : decode cX5_build 2 = .ok (.iload_n 2, 1) := by decide +kernel
theorem dX5_build_3 : decode cX5_build 3 = .ok (.invokevirtual 71, 3) := by decide +kernel
theorem dX5_build_6 : decode cX5_build 6 = .ok (.ifCond .eq 18, 3) := by decide +kernel
theorem dX5_build_9 : decode cX5_build 9 = .ok (.aload_n 0, 1) := by decide +kernel
theorem dX5_build_10 : decode cX5_build 10 = .ok (.getfield 15, 3) := by decide +kernel
theorem dX5_build_13 : decode cX5_build 13 = .ok (.iload_n 2, 1) := by decide +kernel
theorem dX5_build_14 : decode cX5_build 14 = .ok (.bipush 16, 2) := by decide +kernel
theorem dX5_build_16 : decode cX5_build 16 = .ok (.imul, 1) := by decide +kernel
theorem dX5_build_17 : decode cX5_build 17 = .ok (.iload_n 1, 1) := by decide +kernel
theorem dX5_build_18 : decode cX5_build 18 = .ok (.iadd, 1) := by decide +kernel
theorem dX5_build_19 : decode cX5_build 19 = .ok (.iaload, 1) := by decide +kernel
theorem dX5_build_20 : decode cX5_build 20 = .ok (.iload_n 3, 1) := by decide +kernel
theorem dX5_build_21 : decode cX5_build 21 = .ok (.if_icmp .ne 5, 3) := by decide +kernel
theorem dX5_build_24 : decode cX5_build 24 = .ok (.iconst 0, 1) := by decide +kernel
theorem dX5_build_25 : decode cX5_build 25 = .ok (.ireturn, 1) := by decide +kernel
theorem dX5_build_26 : decode cX5_build 26 = .ok (.aload_n 0, 1) := by decide +kernel
theorem dX5_build_27 : decode cX5_build 27 = .ok (.getfield 15, 3) := by decide +kernel
theorem dX5_build_30 : decode cX5_build 30 = .ok (.iload_n 2, 1) := by decide +kernel
theorem dX5_build_31 : decode cX5_build 31 = .ok (.bipush 16, 2) := by decide +kernel
theorem dX5_build_33 : decode cX5_build 33 = .ok (.imul, 1) := by decide +kernel
theorem dX5_build_34 : decode cX5_build 34 = .ok (.iload_n 1, 1) := by decide +kernel
theorem dX5_build_35 : decode cX5_build 35 = .ok (.iadd, 1) := by decide +kernel
theorem dX5_build_36 : decode cX5_build 36 = .ok (.iload_n 3, 1) := by decide +kernel
theorem dX5_build_37 : decode cX5_build 37 = .ok (.iastore, 1) := by decide +kernel
theorem dX5_build_38 : decode cX5_build 38 = .ok (.iconst 1, 1) := by decide +kernel
theorem dX5_build_39 : decode cX5_build 39 = .ok (.ireturn, 1) := by decide +kernel
theorem dX5_lightOf_0 : decode cX5_lightOf 0 = .ok (.iload_n 1, 1) := by decide +kernel
theorem dX5_lightOf_1 : decode cX5_lightOf 1 = .ok (.ifCond .lt 21, 3) := by decide +kernel
theorem dX5_lightOf_4 : decode cX5_lightOf 4 = .ok (.iload_n 1, 1) := by decide +kernel
theorem dX5_lightOf_5 : decode cX5_lightOf 5 = .ok (.aload_n 0, 1) := by decide +kernel
theorem dX5_lightOf_6 : decode cX5_lightOf 6 = .ok (.getfield 18, 3) := by decide +kernel
theorem dX5_lightOf_9 : decode cX5_lightOf 9 = .ok (.arraylength, 1) := by decide +kernel
theorem dX5_lightOf_10 : decode cX5_lightOf 10 = .ok (.if_icmp .ge 12, 3) := by decide +kernel
theorem dX5_lightOf_13 : decode cX5_lightOf 13 = .ok (.aload_n 0, 1) := by decide +kernel
theorem dX5_lightOf_14 : decode cX5_lightOf 14 = .ok (.getfield 18, 3) := by decide +kernel
theorem dX5_lightOf_17 : decode cX5_lightOf 17 = .ok (.iload_n 1, 1) := by decide +kernel
theorem dX5_lightOf_18 : decode cX5_lightOf 18 = .ok (.faload, 1) := by decide +kernel
theorem dX5_lightOf_19 : decode cX5_lightOf 19 = .ok (.goto 4, 3) := by decide +kernel
theorem dX5_lightOf_22 : decode cX5_lightOf 22 = .ok (.fconst 0, 1) := by decide +kernel
theorem dX5_lightOf_23 : decode cX5_lightOf 23 = .ok (.freturn, 1) := by decide +kernel
theorem dX5_wish_0 : decode cX5_wish 0 = .ok (.iload_n 0, 1) := by decide +kernel
theorem dX5_wish_1 : decode cX5_wish 1 = .ok (.i2f, 1) := by decide +kernel
theorem dX5_wish_2 : decode cX5_wish 2 = .ok (.ldc 75, 2) := by decide +kernel
theorem dX5_wish_4 : decode cX5_wish 4 = .ok (.fdiv, 1) := by decide +kernel
theorem dX5_wish_5 : decode cX5_wish 5 = .ok (.freturn, 1) := by decide +kernel
theorem dX5_wishAt_0 : decode cX5_wishAt 0 = .ok (.aload_n 0, 1) := by decide +kernel
theorem dX5_wishAt_1 : decode cX5_wishAt 1 = .ok (.iload_n 1, 1) := by decide +kernel
theorem dX5_wishAt_2 : decode cX5_wishAt 2 = .ok (.iload_n 2, 1) := by decide +kernel
theorem dX5_wishAt_3 : decode cX5_wishAt 3 = .ok (.invokevirtual 76, 3) := by decide +kernel
theorem dX5_wishAt_6 : decode cX5_wishAt 6 = .ok (.invokestatic 80, 3) := by decide +kernel
theorem dX5_wishAt_9 : decode cX5_wishAt 9 = .ok (.freturn, 1) := by decide +kernel
theorem dX5_stepFor_0 : decode cX5_stepFor 0 = .ok (.aload_n 0, 1) := by decide +kernel
theorem dX5_stepFor_1 : decode cX5_stepFor 1 = .ok (.getfield 41, 3) := by decide +kernel
theorem dX5_stepFor_4 : decode cX5_stepFor 4 = .ok (.istore_n 2, 1) := by decide +kernel
theorem dX5_stepFor_5 : decode cX5_stepFor 5 = .ok (.aload_n 0, 1) := by decide +kernel
theorem dX5_stepFor_6 : decode cX5_stepFor 6 = .ok (.aload_n 0, 1) := by decide +kernel
theorem dX5_stepFor_7 : decode cX5_stepFor 7 = .ok (.getfield 41, 3) := by decide +kernel
theorem dX5_stepFor_10 : decode cX5_stepFor 10 = .ok (.invokevirtual 84, 3) := by decide +kernel
theorem dX5_stepFor_13 : decode cX5_stepFor 13 = .ok (.fload_n 1, 1) := by decide +kernel
theorem dX5_stepFor_14 : decode cX5_stepFor 14 = .ok (.invokestatic 87, 3) := by decide +kernel
theorem dX5_stepFor_17 : decode cX5_stepFor 17 = .ok (.fstore_n 3, 1) := by decide +kernel
theorem dX5_stepFor_18 : decode cX5_stepFor 18 = .ok (.aload_n 0, 1) := by decide +kernel
theorem dX5_stepFor_19 : decode cX5_stepFor 19 = .ok (.getfield 41, 3) := by decide +kernel
theorem dX5_stepFor_22 : decode cX5_stepFor 22 = .ok (.iconst 1, 1) := by decide +kernel
theorem dX5_stepFor_23 : decode cX5_stepFor 23 = .ok (.iadd, 1) := by decide +kernel
theorem dX5_stepFor_24 : decode cX5_stepFor 24 = .ok (.istore 4, 2) := by decide +kernel
theorem dX5_stepFor_26 : decode cX5_stepFor 26 = .ok (.iload 4, 2) := by decide +kernel
theorem dX5_stepFor_28 : decode cX5_stepFor 28 = .ok (.aload_n 0, 1) := by decide +kernel
theorem dX5_stepFor_29 : decode cX5_stepFor 29 = .ok (.getfield 35, 3) := by decide +kernel
theorem dX5_stepFor_32 : decode cX5_stepFor 32 = .ok (.if_icmp .gt 34, 3) := by decide +kernel
theorem dX5_stepFor_35 : decode cX5_stepFor 35 = .ok (.aload_n 0, 1) := by decide +kernel
theorem dX5_stepFor_36 : decode cX5_stepFor 36 = .ok (.iload 4, 2) := by decide +kernel
theorem dX5_stepFor_38 : decode cX5_stepFor 38 = .ok (.invokevirtual 84, 3) := by decide +kernel
theorem dX5_stepFor_41 : decode cX5_stepFor 41 = .ok (.fload_n 1, 1) := by decide +kernel
theorem dX5_stepFor_42 : decode cX5_stepFor 42 = .ok (.invokestatic 87, 3) := by decide +kernel
theorem dX5_stepFor_45 : decode cX5_stepFor 45 = .ok (.fstore 5, 2) := by decide +kernel
theorem dX5_stepFor_47 : decode cX5_stepFor 47 = .ok (.fload 5, 2) := by decide +kernel
theorem dX5_stepFor_49 : decode cX5_stepFor 49 = .ok (.fload_n 3, 1) := by decide +kernel
theorem dX5_stepFor_50 : decode cX5_stepFor 50 = .ok (.fcmp .g, 1) := by decide +kernel
theorem dX5_stepFor_51 : decode cX5_stepFor 51 = .ok (.ifCond .ge 9, 3) := by decide +kernel
theorem dX5_stepFor_54 : decode cX5_stepFor 54 = .ok (.fload 5, 2) := by decide +kernel
theorem dX5_stepFor_56 : decode cX5_stepFor 56 = .ok (.fstore_n 3, 1) := by decide +kernel
theorem dX5_stepFor_57 : decode cX5_stepFor 57 = .ok (.iload 4, 2) := by decide +kernel
theorem dX5_stepFor_59 : decode cX5_stepFor 59 = .ok (.istore_n 2, 1) := by decide +kernel
theorem dX5_stepFor_60 : decode cX5_stepFor 60 = .ok (.iinc 4 1, 3) := by decide +kernel
theorem dX5_stepFor_63 : decode cX5_stepFor 63 = .ok (.goto (-37), 3) := by decide +kernel
theorem dX5_stepFor_66 : decode cX5_stepFor 66 = .ok (.iload_n 2, 1) := by decide +kernel
theorem dX5_stepFor_67 : decode cX5_stepFor 67 = .ok (.ireturn, 1) := by decide +kernel
theorem dX5_distance_0 : decode cX5_distance 0 = .ok (.fload_n 0, 1) := by decide +kernel
theorem dX5_distance_1 : decode cX5_distance 1 = .ok (.fload_n 1, 1) := by decide +kernel
theorem dX5_distance_2 : decode cX5_distance 2 = .ok (.fcmp .g, 1) := by decide +kernel
theorem dX5_distance_3 : decode cX5_distance 3 = .ok (.ifCond .ge 9, 3) := by decide +kernel
theorem dX5_distance_6 : decode cX5_distance 6 = .ok (.fload_n 1, 1) := by decide +kernel
theorem dX5_distance_7 : decode cX5_distance 7 = .ok (.fload_n 0, 1) := by decide +kernel
theorem dX5_distance_8 : decode cX5_distance 8 = .ok (.fsub, 1) := by decide +kernel
theorem dX5_distance_9 : decode cX5_distance 9 = .ok (.goto 6, 3) := by decide +kernel
theorem dX5_distance_12 : decode cX5_distance 12 = .ok (.fload_n 0, 1) := by decide +kernel
theorem dX5_distance_13 : decode cX5_distance 13 = .ok (.fload_n 1, 1) := by decide +kernel
theorem dX5_distance_14 : decode cX5_distance 14 = .ok (.fsub, 1) := by decide +kernel
theorem dX5_distance_15 : decode cX5_distance 15 = .ok (.freturn, 1) := by decide +kernel
theorem dX5_paint_0 : decode cX5_paint 0 = .ok (.aload_n 0, 1) := by decide +kernel
theorem dX5_paint_1 : decode cX5_paint 1 = .ok (.iload_n 1, 1) := by decide +kernel
theorem dX5_paint_2 : decode cX5_paint 2 = .ok (.iload_n 2, 1) := by decide +kernel
theorem dX5_paint_3 : decode cX5_paint 3 = .ok (.iload_n 3, 1) := by decide +kernel
theorem dX5_paint_4 : decode cX5_paint 4 = .ok (.invokevirtual 91, 3) := by decide +kernel
theorem dX5_paint_7 : decode cX5_paint 7 = .ok (.aload_n 0, 1) := by decide +kernel
theorem dX5_paint_8 : decode cX5_paint 8 = .ok (.iload_n 1, 1) := by decide +kernel
theorem dX5_paint_9 : decode cX5_paint 9 = .ok (.iload_n 2, 1) := by decide +kernel
theorem dX5_paint_10 : decode cX5_paint 10 = .ok (.aload_n 0, 1) := by decide +kernel
theorem dX5_paint_11 : decode cX5_paint 11 = .ok (.iload_n 3, 1) := by decide +kernel
theorem dX5_paint_12 : decode cX5_paint 12 = .ok (.invokestatic 80, 3) := by decide +kernel
theorem dX5_paint_15 : decode cX5_paint 15 = .ok (.invokevirtual 95, 3) := by decide +kernel
theorem dX5_paint_18 : decode cX5_paint 18 = .ok (.invokevirtual 99, 3) := by decide +kernel
theorem dX5_paint_21 : decode cX5_paint 21 = .ok (.pop, 1) := by decide +kernel
theorem dX5_paint_22 : decode cX5_paint 22 = .ok (.return_, 1) := by decide +kernel
theorem dX5_followTones_0 : decode cX5_followTones 0 = .ok (.iconst 0, 1) := by decide +kernel
theorem dX5_followTones_1 : decode cX5_followTones 1 = .ok (.istore_n 1, 1) := by decide +kernel
theorem dX5_followTones_2 : decode cX5_followTones 2 = .ok (.iconst 0, 1) := by decide +kernel
theorem dX5_followTones_3 : decode cX5_followTones 3 = .ok (.istore_n 2, 1) := by decide +kernel
theorem dX5_followTones_4 : decode cX5_followTones 4 = .ok (.iload_n 2, 1) := by decide +kernel
theorem dX5_followTones_5 : decode cX5_followTones 5 = .ok (.aload_n 0, 1) := by decide +kernel
theorem dX5_followTones_6 : decode cX5_followTones 6 = .ok (.getfield 32, 3) := by decide +kernel
theorem dX5_followTones_9 : decode cX5_followTones 9 = .ok (.if_icmp .ge 44, 3) := by decide +kernel
theorem dX5_followTones_12 : decode cX5_followTones 12 = .ok (.iconst 0, 1) := by decide +kernel
theorem dX5_followTones_13 : decode cX5_followTones 13 = .ok (.istore_n 3, 1) := by decide +kernel
theorem dX5_followTones_14 : decode cX5_followTones 14 = .ok (.iload_n 3, 1) := by decide +kernel
theorem dX5_followTones_15 : decode cX5_followTones 15 = .ok (.aload_n 0, 1) := by decide +kernel
theorem dX5_followTones_16 : decode cX5_followTones 16 = .ok (.getfield 28, 3) := by decide +kernel
theorem dX5_followTones_19 : decode cX5_followTones 19 = .ok (.if_icmp .ge 28, 3) := by decide +kernel
theorem dX5_followTones_22 : decode cX5_followTones 22 = .ok (.iload_n 1, 1) := by decide +kernel
theorem dX5_followTones_23 : decode cX5_followTones 23 = .ok (.aload_n 0, 1) := by decide +kernel
theorem dX5_followTones_24 : decode cX5_followTones 24 = .ok (.iload_n 3, 1) := by decide +kernel
theorem dX5_followTones_25 : decode cX5_followTones 25 = .ok (.iload_n 2, 1) := by decide +kernel
theorem dX5_followTones_26 : decode cX5_followTones 26 = .ok (.aload_n 0, 1) := by decide +kernel
theorem dX5_followTones_27 : decode cX5_followTones 27 = .ok (.aload_n 0, 1) := by decide +kernel
theorem dX5_followTones_28 : decode cX5_followTones 28 = .ok (.iload_n 3, 1) := by decide +kernel
theorem dX5_followTones_29 : decode cX5_followTones 29 = .ok (.iload_n 2, 1) := by decide +kernel
theorem dX5_followTones_30 : decode cX5_followTones 30 = .ok (.invokevirtual 103, 3) := by decide +kernel
theorem dX5_followTones_33 : decode cX5_followTones 33 = .ok (.invokevirtual 95, 3) := by decide +kernel
theorem dX5_followTones_36 : decode cX5_followTones 36 = .ok (.invokevirtual 99, 3) := by decide +kernel
theorem dX5_followTones_39 : decode cX5_followTones 39 = .ok (.iadd, 1) := by decide +kernel
theorem dX5_followTones_40 : decode cX5_followTones 40 = .ok (.istore_n 1, 1) := by decide +kernel
theorem dX5_followTones_41 : decode cX5_followTones 41 = .ok (.iinc 3 1, 3) := by decide +kernel
theorem dX5_followTones_44 : decode cX5_followTones 44 = .ok (.goto (-30), 3) := by decide +kernel
theorem dX5_followTones_47 : decode cX5_followTones 47 = .ok (.iinc 2 1, 3) := by decide +kernel
theorem dX5_followTones_50 : decode cX5_followTones 50 = .ok (.goto (-46), 3) := by decide +kernel
theorem dX5_followTones_53 : decode cX5_followTones 53 = .ok (.iload_n 1, 1) := by decide +kernel
theorem dX5_followTones_54 : decode cX5_followTones 54 = .ok (.ireturn, 1) := by decide +kernel
theorem dX5_cover_0 : decode cX5_cover 0 = .ok (.iconst 0, 1) := by decide +kernel
theorem dX5_cover_1 : decode cX5_cover 1 = .ok (.istore 6, 2) := by decide +kernel
theorem dX5_cover_3 : decode cX5_cover 3 = .ok (.iconst 0, 1) := by decide +kernel
theorem dX5_cover_4 : decode cX5_cover 4 = .ok (.istore 7, 2) := by decide +kernel
theorem dX5_cover_6 : decode cX5_cover 6 = .ok (.iload 7, 2) := by decide +kernel
theorem dX5_cover_8 : decode cX5_cover 8 = .ok (.iload 4, 2) := by decide +kernel
theorem dX5_cover_10 : decode cX5_cover 10 = .ok (.if_icmp .ge 43, 3) := by decide +kernel
theorem dX5_cover_13 : decode cX5_cover 13 = .ok (.iconst 0, 1) := by decide +kernel
theorem dX5_cover_14 : decode cX5_cover 14 = .ok (.istore 8, 2) := by decide +kernel
theorem dX5_cover_16 : decode cX5_cover 16 = .ok (.iload 8, 2) := by decide +kernel
theorem dX5_cover_18 : decode cX5_cover 18 = .ok (.iload_n 3, 1) := by decide +kernel
theorem dX5_cover_19 : decode cX5_cover 19 = .ok (.if_icmp .ge 28, 3) := by decide +kernel
theorem dX5_cover_22 : decode cX5_cover 22 = .ok (.iload 6, 2) := by decide +kernel
theorem dX5_cover_24 : decode cX5_cover 24 = .ok (.aload_n 0, 1) := by decide +kernel
theorem dX5_cover_25 : decode cX5_cover 25 = .ok (.iload_n 1, 1) := by decide +kernel
theorem dX5_cover_26 : decode cX5_cover 26 = .ok (.iload 8, 2) := by decide +kernel
theorem dX5_cover_28 : decode cX5_cover 28 = .ok (.iadd, 1) := by decide +kernel
theorem dX5_cover_29 : decode cX5_cover 29 = .ok (.iload_n 2, 1) := by decide +kernel
theorem dX5_cover_30 : decode cX5_cover 30 = .ok (.iload 7, 2) := by decide +kernel
theorem dX5_cover_32 : decode cX5_cover 32 = .ok (.iadd, 1) := by decide +kernel
theorem dX5_cover_33 : decode cX5_cover 33 = .ok (.iload 5, 2) := by decide +kernel
theorem dX5_cover_35 : decode cX5_cover 35 = .ok (.invokevirtual 99, 3) := by decide +kernel
theorem dX5_cover_38 : decode cX5_cover 38 = .ok (.iadd, 1) := by decide +kernel
theorem dX5_cover_39 : decode cX5_cover 39 = .ok (.istore 6, 2) := by decide +kernel
theorem dX5_cover_41 : decode cX5_cover 41 = .ok (.iinc 8 1, 3) := by decide +kernel
theorem dX5_cover_44 : decode cX5_cover 44 = .ok (.goto (-28), 3) := by decide +kernel
theorem dX5_cover_47 : decode cX5_cover 47 = .ok (.iinc 7 1, 3) := by decide +kernel
theorem dX5_cover_50 : decode cX5_cover 50 = .ok (.goto (-44), 3) := by decide +kernel
theorem dX5_cover_53 : decode cX5_cover 53 = .ok (.iload 6, 2) := by decide +kernel
theorem dX5_cover_55 : decode cX5_cover 55 = .ok (.ireturn, 1) := by decide +kernel
theorem dX5_negate_0 : decode cX5_negate 0 = .ok (.iconst 0, 1) := by decide +kernel
theorem dX5_negate_1 : decode cX5_negate 1 = .ok (.istore_n 1, 1) := by decide +kernel
theorem dX5_negate_2 : decode cX5_negate 2 = .ok (.iload_n 1, 1) := by decide +kernel
theorem dX5_negate_3 : decode cX5_negate 3 = .ok (.aload_n 0, 1) := by decide +kernel
theorem dX5_negate_4 : decode cX5_negate 4 = .ok (.getfield 32, 3) := by decide +kernel
theorem dX5_negate_7 : decode cX5_negate 7 = .ok (.if_icmp .ge 41, 3) := by decide +kernel
theorem dX5_negate_10 : decode cX5_negate 10 = .ok (.iconst 0, 1) := by decide +kernel
theorem dX5_negate_11 : decode cX5_negate 11 = .ok (.istore_n 2, 1) := by decide +kernel
theorem dX5_negate_12 : decode cX5_negate 12 = .ok (.iload_n 2, 1) := by decide +kernel
theorem dX5_negate_13 : decode cX5_negate 13 = .ok (.aload_n 0, 1) := by decide +kernel
theorem dX5_negate_14 : decode cX5_negate 14 = .ok (.getfield 28, 3) := by decide +kernel
theorem dX5_negate_17 : decode cX5_negate 17 = .ok (.if_icmp .ge 25, 3) := by decide +kernel
theorem dX5_negate_20 : decode cX5_negate 20 = .ok (.aload_n 0, 1) := by decide +kernel
theorem dX5_negate_21 : decode cX5_negate 21 = .ok (.iload_n 2, 1) := by decide +kernel
theorem dX5_negate_22 : decode cX5_negate 22 = .ok (.iload_n 1, 1) := by decide +kernel
theorem dX5_negate_23 : decode cX5_negate 23 = .ok (.sipush 255, 3) := by decide +kernel
theorem dX5_negate_26 : decode cX5_negate 26 = .ok (.aload_n 0, 1) := by decide +kernel
theorem dX5_negate_27 : decode cX5_negate 27 = .ok (.iload_n 2, 1) := by decide +kernel
theorem dX5_negate_28 : decode cX5_negate 28 = .ok (.iload_n 1, 1) := by decide +kernel
theorem dX5_negate_29 : decode cX5_negate 29 = .ok (.invokevirtual 76, 3) := by decide +kernel
theorem dX5_negate_32 : decode cX5_negate 32 = .ok (.isub, 1) := by decide +kernel
theorem dX5_negate_33 : decode cX5_negate 33 = .ok (.invokevirtual 91, 3) := by decide +kernel
theorem dX5_negate_36 : decode cX5_negate 36 = .ok (.iinc 2 1, 3) := by decide +kernel
theorem dX5_negate_39 : decode cX5_negate 39 = .ok (.goto (-27), 3) := by decide +kernel
theorem dX5_negate_42 : decode cX5_negate 42 = .ok (.iinc 1 1, 3) := by decide +kernel
theorem dX5_negate_45 : decode cX5_negate 45 = .ok (.goto (-43), 3) := by decide +kernel
theorem dX5_negate_48 : decode cX5_negate 48 = .ok (.aload_n 0, 1) := by decide +kernel
theorem dX5_negate_49 : decode cX5_negate 49 = .ok (.invokevirtual 57, 3) := by decide +kernel
theorem dX5_negate_52 : decode cX5_negate 52 = .ok (.ireturn, 1) := by decide +kernel
theorem dX5_brighten_0 : decode cX5_brighten 0 = .ok (.iconst 0, 1) := by decide +kernel
theorem dX5_brighten_1 : decode cX5_brighten 1 = .ok (.istore_n 2, 1) := by decide +kernel
theorem dX5_brighten_2 : decode cX5_brighten 2 = .ok (.iload_n 2, 1) := by decide +kernel
theorem dX5_brighten_3 : decode cX5_brighten 3 = .ok (.aload_n 0, 1) := by decide +kernel
theorem dX5_brighten_4 : decode cX5_brighten 4 = .ok (.getfield 32, 3) := by decide +kernel
theorem dX5_brighten_7 : decode cX5_brighten 7 = .ok (.if_icmp .ge 49, 3) := by decide +kernel
theorem dX5_brighten_10 : decode cX5_brighten 10 = .ok (.iconst 0, 1) := by decide +kernel
theorem dX5_brighten_11 : decode cX5_brighten 11 = .ok (.istore_n 3, 1) := by decide +kernel
theorem dX5_brighten_12 : decode cX5_brighten 12 = .ok (.iload_n 3, 1) := by decide +kernel
theorem dX5_brighten_13 : decode cX5_brighten 13 = .ok (.aload_n 0, 1) := by decide +kernel
theorem dX5_brighten_14 : decode cX5_brighten 14 = .ok (.getfield 28, 3) := by decide +kernel
theorem dX5_brighten_17 : decode cX5_brighten 17 = .ok (.if_icmp .ge 33, 3) := by decide +kernel
theorem dX5_brighten_20 : decode cX5_brighten 20 = .ok (.aload_n 0, 1) := by decide +kernel
theorem dX5_brighten_21 : decode cX5_brighten 21 = .ok (.iload_n 3, 1) := by decide +kernel
theorem dX5_brighten_22 : decode cX5_brighten 22 = .ok (.iload_n 2, 1) := by decide +kernel
theorem dX5_brighten_23 : decode cX5_brighten 23 = .ok (.iconst 0, 1) := by decide +kernel
theorem dX5_brighten_24 : decode cX5_brighten 24 = .ok (.sipush 255, 3) := by decide +kernel
theorem dX5_brighten_27 : decode cX5_brighten 27 = .ok (.aload_n 0, 1) := by decide +kernel
theorem dX5_brighten_28 : decode cX5_brighten 28 = .ok (.iload_n 3, 1) := by decide +kernel
theorem dX5_brighten_29 : decode cX5_brighten 29 = .ok (.iload_n 2, 1) := by decide +kernel
theorem dX5_brighten_30 : decode cX5_brighten 30 = .ok (.invokevirtual 76, 3) := by decide +kernel
theorem dX5_brighten_33 : decode cX5_brighten 33 = .ok (.iload_n 1, 1) := by decide +kernel
theorem dX5_brighten_34 : decode cX5_brighten 34 = .ok (.iadd, 1) := by decide +kernel
theorem dX5_brighten_35 : decode cX5_brighten 35 = .ok (.invokestatic 107, 3) := by decide +kernel
theorem dX5_brighten_38 : decode cX5_brighten 38 = .ok (.invokestatic 112, 3) := by decide +kernel
theorem dX5_brighten_41 : decode cX5_brighten 41 = .ok (.invokevirtual 91, 3) := by decide +kernel
theorem dX5_brighten_44 : decode cX5_brighten 44 = .ok (.iinc 3 1, 3) := by decide +kernel
theorem dX5_brighten_47 : decode cX5_brighten 47 = .ok (.goto (-35), 3) := by decide +kernel
theorem dX5_brighten_50 : decode cX5_brighten 50 = .ok (.iinc 2 1, 3) := by decide +kernel
theorem dX5_brighten_53 : decode cX5_brighten 53 = .ok (.goto (-51), 3) := by decide +kernel
theorem dX5_brighten_56 : decode cX5_brighten 56 = .ok (.aload_n 0, 1) := by decide +kernel
theorem dX5_brighten_57 : decode cX5_brighten 57 = .ok (.invokevirtual 57, 3) := by decide +kernel
theorem dX5_brighten_60 : decode cX5_brighten 60 = .ok (.ireturn, 1) := by decide +kernel
theorem dX5_turn_0 : decode cX5_turn 0 = .ok (.iconst 0, 1) := by decide +kernel
theorem dX5_turn_1 : decode cX5_turn 1 = .ok (.istore_n 1, 1) := by decide +kernel
theorem dX5_turn_2 : decode cX5_turn 2 = .ok (.iconst 0, 1) := by decide +kernel
theorem dX5_turn_3 : decode cX5_turn 3 = .ok (.istore_n 2, 1) := by decide +kernel
theorem dX5_turn_4 : decode cX5_turn 4 = .ok (.iload_n 2, 1) := by decide +kernel
theorem dX5_turn_5 : decode cX5_turn 5 = .ok (.aload_n 0, 1) := by decide +kernel
theorem dX5_turn_6 : decode cX5_turn 6 = .ok (.getfield 32, 3) := by decide +kernel
theorem dX5_turn_9 : decode cX5_turn 9 = .ok (.if_icmp .ge 44, 3) := by decide +kernel
theorem dX5_turn_12 : decode cX5_turn 12 = .ok (.iconst 0, 1) := by decide +kernel
theorem dX5_turn_13 : decode cX5_turn 13 = .ok (.istore_n 3, 1) := by decide +kernel
theorem dX5_turn_14 : decode cX5_turn 14 = .ok (.iload_n 3, 1) := by decide +kernel
theorem dX5_turn_15 : decode cX5_turn 15 = .ok (.aload_n 0, 1) := by decide +kernel
theorem dX5_turn_16 : decode cX5_turn 16 = .ok (.getfield 28, 3) := by decide +kernel
theorem dX5_turn_19 : decode cX5_turn 19 = .ok (.iconst 2, 1) := by decide +kernel
theorem dX5_turn_20 : decode cX5_turn 20 = .ok (.idiv, 1) := by decide +kernel
theorem dX5_turn_21 : decode cX5_turn 21 = .ok (.if_icmp .ge 26, 3) := by decide +kernel
theorem dX5_turn_24 : decode cX5_turn 24 = .ok (.iload_n 1, 1) := by decide +kernel
theorem dX5_turn_25 : decode cX5_turn 25 = .ok (.aload_n 0, 1) := by decide +kernel
theorem dX5_turn_26 : decode cX5_turn 26 = .ok (.iload_n 3, 1) := by decide +kernel
theorem dX5_turn_27 : decode cX5_turn 27 = .ok (.aload_n 0, 1) := by decide +kernel
theorem dX5_turn_28 : decode cX5_turn 28 = .ok (.getfield 28, 3) := by decide +kernel
theorem dX5_turn_31 : decode cX5_turn 31 = .ok (.iconst 1, 1) := by decide +kernel
theorem dX5_turn_32 : decode cX5_turn 32 = .ok (.isub, 1) := by decide +kernel
theorem dX5_turn_33 : decode cX5_turn 33 = .ok (.iload_n 3, 1) := by decide +kernel
theorem dX5_turn_34 : decode cX5_turn 34 = .ok (.isub, 1) := by decide +kernel
theorem dX5_turn_35 : decode cX5_turn 35 = .ok (.iload_n 2, 1) := by decide +kernel
theorem dX5_turn_36 : decode cX5_turn 36 = .ok (.invokevirtual 115, 3) := by decide +kernel
theorem dX5_turn_39 : decode cX5_turn 39 = .ok (.iadd, 1) := by decide +kernel
theorem dX5_turn_40 : decode cX5_turn 40 = .ok (.istore_n 1, 1) := by decide +kernel
theorem dX5_turn_41 : decode cX5_turn 41 = .ok (.iinc 3 1, 3) := by decide +kernel
theorem dX5_turn_44 : decode cX5_turn 44 = .ok (.goto (-30), 3) := by decide +kernel
theorem dX5_turn_47 : decode cX5_turn 47 = .ok (.iinc 2 1, 3) := by decide +kernel
theorem dX5_turn_50 : decode cX5_turn 50 = .ok (.goto (-46), 3) := by decide +kernel
theorem dX5_turn_53 : decode cX5_turn 53 = .ok (.iload_n 1, 1) := by decide +kernel
theorem dX5_turn_54 : decode cX5_turn 54 = .ok (.ireturn, 1) := by decide +kernel
theorem dX5_exchange_0 : decode cX5_exchange 0 = .ok (.aload_n 0, 1) := by decide +kernel
theorem dX5_exchange_1 : decode cX5_exchange 1 = .ok (.iload_n 1, 1) := by decide +kernel
theorem dX5_exchange_2 : decode cX5_exchange 2 = .ok (.iload_n 3, 1) := by decide +kernel
theorem dX5_exchange_3 : decode cX5_exchange 3 = .ok (.invokevirtual 76, 3) := by decide +kernel
theorem dX5_exchange_6 : decode cX5_exchange 6 = .ok (.istore 4, 2) := by decide +kernel
theorem dX5_exchange_8 : decode cX5_exchange 8 = .ok (.aload_n 0, 1) := by decide +kernel
theorem dX5_exchange_9 : decode cX5_exchange 9 = .ok (.iload_n 1, 1) := by decide +kernel
theorem dX5_exchange_10 : decode cX5_exchange 10 = .ok (.iload_n 3, 1) := by decide +kernel
theorem dX5_exchange_11 : decode cX5_exchange 11 = .ok (.invokevirtual 118, 3) := by decide +kernel
theorem dX5_exchange_14 : decode cX5_exchange 14 = .ok (.istore 5, 2) := by decide +kernel
theorem dX5_exchange_16 : decode cX5_exchange 16 = .ok (.aload_n 0, 1) := by decide +kernel
theorem dX5_exchange_17 : decode cX5_exchange 17 = .ok (.iload_n 1, 1) := by decide +kernel
theorem dX5_exchange_18 : decode cX5_exchange 18 = .ok (.iload_n 3, 1) := by decide +kernel
theorem dX5_exchange_19 : decode cX5_exchange 19 = .ok (.aload_n 0, 1) := by decide +kernel
theorem dX5_exchange_20 : decode cX5_exchange 20 = .ok (.iload_n 2, 1) := by decide +kernel
theorem dX5_exchange_21 : decode cX5_exchange 21 = .ok (.iload_n 3, 1) := by decide +kernel
theorem dX5_exchange_22 : decode cX5_exchange 22 = .ok (.invokevirtual 76, 3) := by decide +kernel
theorem dX5_exchange_25 : decode cX5_exchange 25 = .ok (.invokevirtual 91, 3) := by decide +kernel
theorem dX5_exchange_28 : decode cX5_exchange 28 = .ok (.aload_n 0, 1) := by decide +kernel
theorem dX5_exchange_29 : decode cX5_exchange 29 = .ok (.iload_n 2, 1) := by decide +kernel
theorem dX5_exchange_30 : decode cX5_exchange 30 = .ok (.iload_n 3, 1) := by decide +kernel
theorem dX5_exchange_31 : decode cX5_exchange 31 = .ok (.iload 4, 2) := by decide +kernel
theorem dX5_exchange_33 : decode cX5_exchange 33 = .ok (.invokevirtual 91, 3) := by decide +kernel
theorem dX5_exchange_36 : decode cX5_exchange 36 = .ok (.aload_n 0, 1) := by decide +kernel
theorem dX5_exchange_37 : decode cX5_exchange 37 = .ok (.iload_n 1, 1) := by decide +kernel
theorem dX5_exchange_38 : decode cX5_exchange 38 = .ok (.iload_n 3, 1) := by decide +kernel
theorem dX5_exchange_39 : decode cX5_exchange 39 = .ok (.aload_n 0, 1) := by decide +kernel
theorem dX5_exchange_40 : decode cX5_exchange 40 = .ok (.iload_n 2, 1) := by decide +kernel
theorem dX5_exchange_41 : decode cX5_exchange 41 = .ok (.iload_n 3, 1) := by decide +kernel
theorem dX5_exchange_42 : decode cX5_exchange 42 = .ok (.invokevirtual 118, 3) := by decide +kernel
theorem dX5_exchange_45 : decode cX5_exchange 45 = .ok (.invokevirtual 99, 3) := by decide +kernel
theorem dX5_exchange_48 : decode cX5_exchange 48 = .ok (.aload_n 0, 1) := by decide +kernel
theorem dX5_exchange_49 : decode cX5_exchange 49 = .ok (.iload_n 2, 1) := by decide +kernel
theorem dX5_exchange_50 : decode cX5_exchange 50 = .ok (.iload_n 3, 1) := by decide +kernel
theorem dX5_exchange_51 : decode cX5_exchange 51 = .ok (.iload 5, 2) := by decide +kernel
theorem dX5_exchange_53 : decode cX5_exchange 53 = .ok (.invokevirtual 99, 3) := by decide +kernel
theorem dX5_exchange_56 : decode cX5_exchange 56 = .ok (.iadd, 1) := by decide +kernel
theorem dX5_exchange_57 : decode cX5_exchange 57 = .ok (.ireturn, 1) := by decide +kernel
theorem dX5_sumOfHeights_0 : decode cX5_sumOfHeights 0 = .ok (.iconst 0, 1) := by decide +kernel
theorem dX5_sumOfHeights_1 : decode cX5_sumOfHeights 1 = .ok (.istore_n 1, 1) := by decide +kernel
theorem dX5_sumOfHeights_2 : decode cX5_sumOfHeights 2 = .ok (.iconst 0, 1) := by decide +kernel
theorem dX5_sumOfHeights_3 : decode cX5_sumOfHeights 3 = .ok (.istore_n 2, 1) := by decide +kernel
theorem dX5_sumOfHeights_4 : decode cX5_sumOfHeights 4 = .ok (.iload_n 2, 1) := by decide +kernel
theorem dX5_sumOfHeights_5 : decode cX5_sumOfHeights 5 = .ok (.aload_n 0, 1) := by decide +kernel
theorem dX5_sumOfHeights_6 : decode cX5_sumOfHeights 6 = .ok (.getfield 32, 3) := by decide +kernel
theorem dX5_sumOfHeights_9 : decode cX5_sumOfHeights 9 = .ok (.if_icmp .ge 34, 3) := by decide +kernel
theorem dX5_sumOfHeights_12 : decode cX5_sumOfHeights 12 = .ok (.iconst 0, 1) := by decide +kernel
theorem dX5_sumOfHeights_13 : decode cX5_sumOfHeights 13 = .ok (.istore_n 3, 1) := by decide +kernel
theorem dX5_sumOfHeights_14 : decode cX5_sumOfHeights 14 = .ok (.iload_n 3, 1) := by decide +kernel
theorem dX5_sumOfHeights_15 : decode cX5_sumOfHeights 15 = .ok (.aload_n 0, 1) := by decide +kernel
theorem dX5_sumOfHeights_16 : decode cX5_sumOfHeights 16 = .ok (.getfield 28, 3) := by decide +kernel
theorem dX5_sumOfHeights_19 : decode cX5_sumOfHeights 19 = .ok (.if_icmp .ge 18, 3) := by decide +kernel
theorem dX5_sumOfHeights_22 : decode cX5_sumOfHeights 22 = .ok (.iload_n 1, 1) := by decide +kernel
theorem dX5_sumOfHeights_23 : decode cX5_sumOfHeights 23 = .ok (.aload_n 0, 1) := by decide +kernel
theorem dX5_sumOfHeights_24 : decode cX5_sumOfHeights 24 = .ok (.iload_n 3, 1) := by decide +kernel
theorem dX5_sumOfHeights_25 : decode cX5_sumOfHeights 25 = .ok (.iload_n 2, 1) := by decide +kernel
theorem dX5_sumOfHeights_26 : decode cX5_sumOfHeights 26 = .ok (.invokevirtual 118, 3) := by decide +kernel
theorem dX5_sumOfHeights_29 : decode cX5_sumOfHeights 29 = .ok (.iadd, 1) := by decide +kernel
theorem dX5_sumOfHeights_30 : decode cX5_sumOfHeights 30 = .ok (.istore_n 1, 1) := by decide +kernel
theorem dX5_sumOfHeights_31 : decode cX5_sumOfHeights 31 = .ok (.iinc 3 1, 3) := by decide +kernel
theorem dX5_sumOfHeights_34 : decode cX5_sumOfHeights 34 = .ok (.goto (-20), 3) := by decide +kernel
theorem dX5_sumOfHeights_37 : decode cX5_sumOfHeights 37 = .ok (.iinc 2 1, 3) := by decide +kernel
theorem dX5_sumOfHeights_40 : decode cX5_sumOfHeights 40 = .ok (.goto (-36), 3) := by decide +kernel
theorem dX5_sumOfHeights_43 : decode cX5_sumOfHeights 43 = .ok (.iload_n 1, 1) := by decide +kernel
theorem dX5_sumOfHeights_44 : decode cX5_sumOfHeights 44 = .ok (.ireturn, 1) := by decide +kernel
theorem dX5_countOf_0 : decode cX5_countOf 0 = .ok (.iconst 0, 1) := by decide +kernel
theorem dX5_countOf_1 : decode cX5_countOf 1 = .ok (.istore_n 2, 1) := by decide +kernel
theorem dX5_countOf_2 : decode cX5_countOf 2 = .ok (.iconst 0, 1) := by decide +kernel
theorem dX5_countOf_3 : decode cX5_countOf 3 = .ok (.istore_n 3, 1) := by decide +kernel
theorem dX5_countOf_4 : decode cX5_countOf 4 = .ok (.iload_n 3, 1) := by decide +kernel
theorem dX5_countOf_5 : decode cX5_countOf 5 = .ok (.aload_n 0, 1) := by decide +kernel
theorem dX5_countOf_6 : decode cX5_countOf 6 = .ok (.getfield 32, 3) := by decide +kernel
theorem dX5_countOf_9 : decode cX5_countOf 9 = .ok (.if_icmp .ge 41, 3) := by decide +kernel
theorem dX5_countOf_12 : decode cX5_countOf 12 = .ok (.iconst 0, 1) := by decide +kernel
theorem dX5_countOf_13 : decode cX5_countOf 13 = .ok (.istore 4, 2) := by decide +kernel
theorem dX5_countOf_15 : decode cX5_countOf 15 = .ok (.iload 4, 2) := by decide +kernel
theorem dX5_countOf_17 : decode cX5_countOf 17 = .ok (.aload_n 0, 1) := by decide +kernel
theorem dX5_countOf_18 : decode cX5_countOf 18 = .ok (.getfield 28, 3) := by decide +kernel
theorem dX5_countOf_21 : decode cX5_countOf 21 = .ok (.if_icmp .ge 23, 3) := by decide +kernel
theorem dX5_countOf_24 : decode cX5_countOf 24 = .ok (.aload_n 0, 1) := by decide +kernel
theorem dX5_countOf_25 : decode cX5_countOf 25 = .ok (.iload 4, 2) := by decide +kernel
theorem dX5_countOf_27 : decode cX5_countOf 27 = .ok (.iload_n 3, 1) := by decide +kernel
theorem dX5_countOf_28 : decode cX5_countOf 28 = .ok (.invokevirtual 118, 3) := by decide +kernel
theorem dX5_countOf_31 : decode cX5_countOf 31 = .ok (.iload_n 1, 1) := by decide +kernel
theorem dX5_countOf_32 : decode cX5_countOf 32 = .ok (.if_icmp .ne 6, 3) := by decide +kernel
theorem dX5_countOf_35 : decode cX5_countOf 35 = .ok (.iinc 2 1, 3) := by decide +kernel
theorem dX5_countOf_38 : decode cX5_countOf 38 = .ok (.iinc 4 1, 3) := by decide +kernel
theorem dX5_countOf_41 : decode cX5_countOf 41 = .ok (.goto (-26), 3) := by decide +kernel
theorem dX5_countOf_44 : decode cX5_countOf 44 = .ok (.iinc 3 1, 3) := by decide +kernel
theorem dX5_countOf_47 : decode cX5_countOf 47 = .ok (.goto (-43), 3) := by decide +kernel
theorem dX5_countOf_50 : decode cX5_countOf 50 = .ok (.iload_n 2, 1) := by decide +kernel
theorem dX5_countOf_51 : decode cX5_countOf 51 = .ok (.ireturn, 1) := by decide +kernel
theorem dX5_greatestStep_0 : decode cX5_greatestStep 0 = .ok (.iconst 0, 1) := by decide +kernel
theorem dX5_greatestStep_1 : decode cX5_greatestStep 1 = .ok (.istore_n 1, 1) := by decide +kernel
theorem dX5_greatestStep_2 : decode cX5_greatestStep 2 = .ok (.iconst 0, 1) := by decide +kernel
theorem dX5_greatestStep_3 : decode cX5_greatestStep 3 = .ok (.istore_n 2, 1) := by decide +kernel
theorem dX5_greatestStep_4 : decode cX5_greatestStep 4 = .ok (.iload_n 2, 1) := by decide +kernel
theorem dX5_greatestStep_5 : decode cX5_greatestStep 5 = .ok (.aload_n 0, 1) := by decide +kernel
theorem dX5_greatestStep_6 : decode cX5_greatestStep 6 = .ok (.getfield 32, 3) := by decide +kernel
theorem dX5_greatestStep_9 : decode cX5_greatestStep 9 = .ok (.if_icmp .ge 107, 3) := by decide +kernel
theorem dX5_greatestStep_12 : decode cX5_greatestStep 12 = .ok (.iconst 0, 1) := by decide +kernel
theorem dX5_greatestStep_13 : decode cX5_greatestStep 13 = .ok (.istore_n 3, 1) := by decide +kernel
theorem dX5_greatestStep_14 : decode cX5_greatestStep 14 = .ok (.iload_n 3, 1) := by decide +kernel
theorem dX5_greatestStep_15 : decode cX5_greatestStep 15 = .ok (.aload_n 0, 1) := by decide +kernel
theorem dX5_greatestStep_16 : decode cX5_greatestStep 16 = .ok (.getfield 28, 3) := by decide +kernel
theorem dX5_greatestStep_19 : decode cX5_greatestStep 19 = .ok (.if_icmp .ge 91, 3) := by decide +kernel
theorem dX5_greatestStep_22 : decode cX5_greatestStep 22 = .ok (.aload_n 0, 1) := by decide +kernel
theorem dX5_greatestStep_23 : decode cX5_greatestStep 23 = .ok (.iload_n 3, 1) := by decide +kernel
theorem dX5_greatestStep_24 : decode cX5_greatestStep 24 = .ok (.iconst 1, 1) := by decide +kernel
theorem dX5_greatestStep_25 : decode cX5_greatestStep 25 = .ok (.iadd, 1) := by decide +kernel
theorem dX5_greatestStep_26 : decode cX5_greatestStep 26 = .ok (.iload_n 2, 1) := by decide +kernel
theorem dX5_greatestStep_27 : decode cX5_greatestStep 27 = .ok (.invokevirtual 71, 3) := by decide +kernel
theorem dX5_greatestStep_30 : decode cX5_greatestStep 30 = .ok (.ifCond .eq 24, 3) := by decide +kernel
theorem dX5_greatestStep_33 : decode cX5_greatestStep 33 = .ok (.aload_n 0, 1) := by decide +kernel
theorem dX5_greatestStep_34 : decode cX5_greatestStep 34 = .ok (.iload_n 3, 1) := by decide +kernel
theorem dX5_greatestStep_35 : decode cX5_greatestStep 35 = .ok (.iload_n 2, 1) := by decide +kernel
theorem dX5_greatestStep_36 : decode cX5_greatestStep 36 = .ok (.invokevirtual 118, 3) := by decide +kernel
theorem dX5_greatestStep_39 : decode cX5_greatestStep 39 = .ok (.aload_n 0, 1) := by decide +kernel
theorem dX5_greatestStep_40 : decode cX5_greatestStep 40 = .ok (.iload_n 3, 1) := by decide +kernel
theorem dX5_greatestStep_41 : decode cX5_greatestStep 41 = .ok (.iconst 1, 1) := by decide +kernel
theorem dX5_greatestStep_42 : decode cX5_greatestStep 42 = .ok (.iadd, 1) := by decide +kernel
theorem dX5_greatestStep_43 : decode cX5_greatestStep 43 = .ok (.iload_n 2, 1) := by decide +kernel
theorem dX5_greatestStep_44 : decode cX5_greatestStep 44 = .ok (.invokevirtual 118, 3) := by decide +kernel
theorem dX5_greatestStep_47 : decode cX5_greatestStep 47 = .ok (.isub, 1) := by decide +kernel
theorem dX5_greatestStep_48 : decode cX5_greatestStep 48 = .ok (.invokestatic 121, 3) := by decide +kernel
theorem dX5_greatestStep_51 : decode cX5_greatestStep 51 = .ok (.goto 4, 3) := by decide +kernel
theorem dX5_greatestStep_54 : decode cX5_greatestStep 54 = .ok (.iconst 0, 1) := by decide +kernel
theorem dX5_greatestStep_55 : decode cX5_greatestStep 55 = .ok (.istore 4, 2) := by decide +kernel
theorem dX5_greatestStep_57 : decode cX5_greatestStep 57 = .ok (.aload_n 0, 1) := by decide +kernel
theorem dX5_greatestStep_58 : decode cX5_greatestStep 58 = .ok (.iload_n 3, 1) := by decide +kernel
theorem dX5_greatestStep_59 : decode cX5_greatestStep 59 = .ok (.iload_n 2, 1) := by decide +kernel
theorem dX5_greatestStep_60 : decode cX5_greatestStep 60 = .ok (.iconst 1, 1) := by decide +kernel
theorem dX5_greatestStep_61 : decode cX5_greatestStep 61 = .ok (.iadd, 1) := by decide +kernel
theorem dX5_greatestStep_62 : decode cX5_greatestStep 62 = .ok (.invokevirtual 71, 3) := by decide +kernel
theorem dX5_greatestStep_65 : decode cX5_greatestStep 65 = .ok (.ifCond .eq 24, 3) := by decide +kernel
theorem dX5_greatestStep_68 : decode cX5_greatestStep 68 = .ok (.aload_n 0, 1) := by decide +kernel
theorem dX5_greatestStep_69 : decode cX5_greatestStep 69 = .ok (.iload_n 3, 1) := by decide +kernel
theorem dX5_greatestStep_70 : decode cX5_greatestStep 70 = .ok (.iload_n 2, 1) := by decide +kernel
theorem dX5_greatestStep_71 : decode cX5_greatestStep 71 = .ok (.invokevirtual 118, 3) := by decide +kernel
theorem dX5_greatestStep_74 : decode cX5_greatestStep 74 = .ok (.aload_n 0, 1) := by decide +kernel
theorem dX5_greatestStep_75 : decode cX5_greatestStep 75 = .ok (.iload_n 3, 1) := by decide +kernel
theorem dX5_greatestStep_76 : decode cX5_greatestStep 76 = .ok (.iload_n 2, 1) := by decide +kernel
theorem dX5_greatestStep_77 : decode cX5_greatestStep 77 = .ok (.iconst 1, 1) := by decide +kernel
theorem dX5_greatestStep_78 : decode cX5_greatestStep 78 = .ok (.iadd, 1) := by decide +kernel
theorem dX5_greatestStep_79 : decode cX5_greatestStep 79 = .ok (.invokevirtual 118, 3) := by decide +kernel
theorem dX5_greatestStep_82 : decode cX5_greatestStep 82 = .ok (.isub, 1) := by decide +kernel
theorem dX5_greatestStep_83 : decode cX5_greatestStep 83 = .ok (.invokestatic 121, 3) := by decide +kernel
theorem dX5_greatestStep_86 : decode cX5_greatestStep 86 = .ok (.goto 4, 3) := by decide +kernel
theorem dX5_greatestStep_89 : decode cX5_greatestStep 89 = .ok (.iconst 0, 1) := by decide +kernel
theorem dX5_greatestStep_90 : decode cX5_greatestStep 90 = .ok (.istore 5, 2) := by decide +kernel
theorem dX5_greatestStep_92 : decode cX5_greatestStep 92 = .ok (.iload_n 1, 1) := by decide +kernel
theorem dX5_greatestStep_93 : decode cX5_greatestStep 93 = .ok (.iload 4, 2) := by decide +kernel
theorem dX5_greatestStep_95 : decode cX5_greatestStep 95 = .ok (.iload 5, 2) := by decide +kernel
theorem dX5_greatestStep_97 : decode cX5_greatestStep 97 = .ok (.invokestatic 112, 3) := by decide +kernel
theorem dX5_greatestStep_100 : decode cX5_greatestStep 100 = .ok (.invokestatic 112, 3) := by decide +kernel
theorem dX5_greatestStep_103 : decode cX5_greatestStep 103 = .ok (.istore_n 1, 1) := by decide +kernel
theorem dX5_greatestStep_104 : decode cX5_greatestStep 104 = .ok (.iinc 3 1, 3) := by decide +kernel
theorem dX5_greatestStep_107 : decode cX5_greatestStep 107 = .ok (.goto (-93), 3) := by decide +kernel
theorem dX5_greatestStep_110 : decode cX5_greatestStep 110 = .ok (.iinc 2 1, 3) := by decide +kernel
theorem dX5_greatestStep_113 : decode cX5_greatestStep 113 = .ok (.goto (-109), 3) := by decide +kernel
theorem dX5_greatestStep_116 : decode cX5_greatestStep 116 = .ok (.iload_n 1, 1) := by decide +kernel
theorem dX5_greatestStep_117 : decode cX5_greatestStep 117 = .ok (.ireturn, 1) := by decide +kernel
theorem dX5_differencesTo_0 : decode cX5_differencesTo 0 = .ok (.iconst 0, 1) := by decide +kernel
theorem dX5_differencesTo_1 : decode cX5_differencesTo 1 = .ok (.istore_n 2, 1) := by decide +kernel
theorem dX5_differencesTo_2 : decode cX5_differencesTo 2 = .ok (.iconst 0, 1) := by decide +kernel
theorem dX5_differencesTo_3 : decode cX5_differencesTo 3 = .ok (.istore_n 3, 1) := by decide +kernel
theorem dX5_differencesTo_4 : decode cX5_differencesTo 4 = .ok (.iload_n 3, 1) := by decide +kernel
theorem dX5_differencesTo_5 : decode cX5_differencesTo 5 = .ok (.aload_n 0, 1) := by decide +kernel
theorem dX5_differencesTo_6 : decode cX5_differencesTo 6 = .ok (.getfield 32, 3) := by decide +kernel
theorem dX5_differencesTo_9 : decode cX5_differencesTo 9 = .ok (.if_icmp .ge 47, 3) := by decide +kernel
theorem dX5_differencesTo_12 : decode cX5_differencesTo 12 = .ok (.iconst 0, 1) := by decide +kernel
theorem dX5_differencesTo_13 : decode cX5_differencesTo 13 = .ok (.istore 4, 2) := by decide +kernel
theorem dX5_differencesTo_15 : decode cX5_differencesTo 15 = .ok (.iload 4, 2) := by decide +kernel
theorem dX5_differencesTo_17 : decode cX5_differencesTo 17 = .ok (.aload_n 0, 1) := by decide +kernel
theorem dX5_differencesTo_18 : decode cX5_differencesTo 18 = .ok (.getfield 28, 3) := by decide +kernel
theorem dX5_differencesTo_21 : decode cX5_differencesTo 21 = .ok (.if_icmp .ge 29, 3) := by decide +kernel
theorem dX5_differencesTo_24 : decode cX5_differencesTo 24 = .ok (.aload_n 0, 1) := by decide +kernel
theorem dX5_differencesTo_25 : decode cX5_differencesTo 25 = .ok (.iload 4, 2) := by decide +kernel
theorem dX5_differencesTo_27 : decode cX5_differencesTo 27 = .ok (.iload_n 3, 1) := by decide +kernel
theorem dX5_differencesTo_28 : decode cX5_differencesTo 28 = .ok (.invokevirtual 118, 3) := by decide +kernel
theorem dX5_differencesTo_31 : decode cX5_differencesTo 31 = .ok (.aload_n 1, 1) := by decide +kernel
theorem dX5_differencesTo_32 : decode cX5_differencesTo 32 = .ok (.iload 4, 2) := by decide +kernel
theorem dX5_differencesTo_34 : decode cX5_differencesTo 34 = .ok (.iload_n 3, 1) := by decide +kernel
theorem dX5_differencesTo_35 : decode cX5_differencesTo 35 = .ok (.invokevirtual 118, 3) := by decide +kernel
theorem dX5_differencesTo_38 : decode cX5_differencesTo 38 = .ok (.if_icmp .eq 6, 3) := by decide +kernel
theorem dX5_differencesTo_41 : decode cX5_differencesTo 41 = .ok (.iinc 2 1, 3) := by decide +kernel
theorem dX5_differencesTo_44 : decode cX5_differencesTo 44 = .ok (.iinc 4 1, 3) := by decide +kernel
theorem dX5_differencesTo_47 : decode cX5_differencesTo 47 = .ok (.goto (-32), 3) := by decide +kernel
theorem dX5_differencesTo_50 : decode cX5_differencesTo 50 = .ok (.iinc 3 1, 3) := by decide +kernel
theorem dX5_differencesTo_53 : decode cX5_differencesTo 53 = .ok (.goto (-49), 3) := by decide +kernel
theorem dX5_differencesTo_56 : decode cX5_differencesTo 56 = .ok (.iload_n 2, 1) := by decide +kernel
theorem dX5_differencesTo_57 : decode cX5_differencesTo 57 = .ok (.ireturn, 1) := by decide +kernel
theorem dX5_looksLike_0 : decode cX5_looksLike 0 = .ok (.iconst 0, 1) := by decide +kernel
theorem dX5_looksLike_1 : decode cX5_looksLike 1 = .ok (.istore_n 2, 1) := by decide +kernel
theorem dX5_looksLike_2 : decode cX5_looksLike 2 = .ok (.iload_n 2, 1) := by decide +kernel
theorem dX5_looksLike_3 : decode cX5_looksLike 3 = .ok (.aload_n 0, 1) := by decide +kernel
theorem dX5_looksLike_4 : decode cX5_looksLike 4 = .ok (.getfield 32, 3) := by decide +kernel
theorem dX5_looksLike_7 : decode cX5_looksLike 7 = .ok (.if_icmp .ge 57, 3) := by decide +kernel
theorem dX5_looksLike_10 : decode cX5_looksLike 10 = .ok (.iconst 0, 1) := by decide +kernel
theorem dX5_looksLike_11 : decode cX5_looksLike 11 = .ok (.istore_n 3, 1) := by decide +kernel
theorem dX5_looksLike_12 : decode cX5_looksLike 12 = .ok (.iload_n 3, 1) := by decide +kernel
theorem dX5_looksLike_13 : decode cX5_looksLike 13 = .ok (.aload_n 0, 1) := by decide +kernel
theorem dX5_looksLike_14 : decode cX5_looksLike 14 = .ok (.getfield 28, 3) := by decide +kernel
theorem dX5_looksLike_17 : decode cX5_looksLike 17 = .ok (.if_icmp .ge 41, 3) := by decide +kernel
theorem dX5_looksLike_20 : decode cX5_looksLike 20 = .ok (.aload_n 0, 1) := by decide +kernel
theorem dX5_looksLike_21 : decode cX5_looksLike 21 = .ok (.iload_n 3, 1) := by decide +kernel
theorem dX5_looksLike_22 : decode cX5_looksLike 22 = .ok (.iload_n 2, 1) := by decide +kernel
theorem dX5_looksLike_23 : decode cX5_looksLike 23 = .ok (.invokevirtual 118, 3) := by decide +kernel
theorem dX5_looksLike_26 : decode cX5_looksLike 26 = .ok (.aload_n 1, 1) := by decide +kernel
theorem dX5_looksLike_27 : decode cX5_looksLike 27 = .ok (.iload_n 3, 1) := by decide +kernel
theorem dX5_looksLike_28 : decode cX5_looksLike 28 = .ok (.iload_n 2, 1) := by decide +kernel
theorem dX5_looksLike_29 : decode cX5_looksLike 29 = .ok (.invokevirtual 118, 3) := by decide +kernel
theorem dX5_looksLike_32 : decode cX5_looksLike 32 = .ok (.if_icmp .ne 18, 3) := by decide +kernel
theorem dX5_looksLike_35 : decode cX5_looksLike 35 = .ok (.aload_n 0, 1) := by decide +kernel
theorem dX5_looksLike_36 : decode cX5_looksLike 36 = .ok (.iload_n 3, 1) := by decide +kernel
theorem dX5_looksLike_37 : decode cX5_looksLike 37 = .ok (.iload_n 2, 1) := by decide +kernel
theorem dX5_looksLike_38 : decode cX5_looksLike 38 = .ok (.invokevirtual 76, 3) := by decide +kernel
theorem dX5_looksLike_41 : decode cX5_looksLike 41 = .ok (.aload_n 1, 1) := by decide +kernel
theorem dX5_looksLike_42 : decode cX5_looksLike 42 = .ok (.iload_n 3, 1) := by decide +kernel
theorem dX5_looksLike_43 : decode cX5_looksLike 43 = .ok (.iload_n 2, 1) := by decide +kernel
theorem dX5_looksLike_44 : decode cX5_looksLike 44 = .ok (.invokevirtual 76, 3) := by decide +kernel
theorem dX5_looksLike_47 : decode cX5_looksLike 47 = .ok (.if_icmp .eq 5, 3) := by decide +kernel
theorem dX5_looksLike_50 : decode cX5_looksLike 50 = .ok (.iconst 0, 1) := by decide +kernel
theorem dX5_looksLike_51 : decode cX5_looksLike 51 = .ok (.ireturn, 1) := by decide +kernel
theorem dX5_looksLike_52 : decode cX5_looksLike 52 = .ok (.iinc 3 1, 3) := by decide +kernel
theorem dX5_looksLike_55 : decode cX5_looksLike 55 = .ok (.goto (-43), 3) := by decide +kernel
theorem dX5_looksLike_58 : decode cX5_looksLike 58 = .ok (.iinc 2 1, 3) := by decide +kernel
theorem dX5_looksLike_61 : decode cX5_looksLike 61 = .ok (.goto (-59), 3) := by decide +kernel
theorem dX5_looksLike_64 : decode cX5_looksLike 64 = .ok (.iconst 1, 1) := by decide +kernel
theorem dX5_looksLike_65 : decode cX5_looksLike 65 = .ok (.ireturn, 1) := by decide +kernel
theorem dX6_init_0 : decode cX6_init 0 = .ok (.aload_n 0, 1) := by decide +kernel
theorem dX6_init_1 : decode cX6_init 1 = .ok (.invokespecial 3, 3) := by decide +kernel
theorem dX6_init_4 : decode cX6_init 4 = .ok (.aload_n 0, 1) := by decide +kernel
theorem dX6_init_5 : decode cX6_init 5 = .ok (.bipush 12, 2) := by decide +kernel
theorem dX6_init_7 : decode cX6_init 7 = .ok (.newarray .int, 2) := by decide +kernel
theorem dX6_init_9 : decode cX6_init 9 = .ok (.putfield 11, 3) := by decide +kernel
theorem dX6_init_12 : decode cX6_init 12 = .ok (.aload_n 0, 1) := by decide +kernel
theorem dX6_init_13 : decode cX6_init 13 = .ok (.getfield 11, 3) := by decide +kernel
theorem dX6_init_16 : decode cX6_init 16 = .ok (.iconst (-1), 1) := by decide +kernel
theorem dX6_init_17 : decode cX6_init 17 = .ok (.invokestatic 15, 3) := by decide +kernel
theorem dX6_init_20 : decode cX6_init 20 = .ok (.return_, 1) := by decide +kernel
theorem dX7_init_0 : decode cX7_init 0 = .ok (.aload_n 0, 1) := by decide +kernel
theorem dX7_init_1 : decode cX7_init 1 = .ok (.invokespecial 3, 3) := by decide +kernel
theorem dX7_init_4 : decode cX7_init 4 = .ok (.aload_n 0, 1) := by decide +kernel
theorem dX7_init_5 : decode cX7_init 5 = .ok (.aload_n 1, 1) := by decide +kernel
theorem dX7_init_6 : decode cX7_init 6 = .ok (.putfield 9, 3) := by decide +kernel
theorem dX7_init_9 : decode cX7_init 9 = .ok (.aload_n 0, 1) := by decide +kernel
theorem dX7_init_10 : decode cX7_init 10 = .ok (.aload_n 2, 1) := by decide +kernel
theorem dX7_init_11 : decode cX7_init 11 = .ok (.putfield 15, 3) := by decide +kernel
theorem dX7_init_14 : decode cX7_init 14 = .ok (.return_, 1) := by decide +kernel
theorem dX7_readDraft_0 : decode cX7_readDraft 0 = .ok (.aload_n 0, 1) := by decide +kernel
theorem dX7_readDraft_1 : decode cX7_readDraft 1 = .ok (.getfield 15, 3) := by decide +kernel
theorem dX7_readDraft_4 : decode cX7_readDraft 4 = .ok (.invokevirtual 19, 3) := by decide +kernel
theorem dX7_readDraft_7 : decode cX7_readDraft 7 = .ok (.aload_n 0, 1) := by decide +kernel
theorem dX7_readDraft_8 : decode cX7_readDraft 8 = .ok (.iconst 0, 1) := by decide +kernel
theorem dX7_readDraft_9 : decode cX7_readDraft 9 = .ok (.putfield 24, 3) := by decide +kernel
theorem dX7_readDraft_12 : decode cX7_readDraft 12 = .ok (.aload_n 0, 1) := by decide +kernel
theorem dX7_readDraft_13 : decode cX7_readDraft 13 = .ok (.iconst 0, 1) := by decide +kernel
theorem dX7_readDraft_14 : decode cX7_readDraft 14 = .ok (.putfield 28, 3) := by decide +kernel
theorem dX7_readDraft_17 : decode cX7_readDraft 17 = .ok (.aload_n 0, 1) := by decide +kernel
theorem dX7_readDraft_18 : decode cX7_readDraft 18 = .ok (.iconst 0, 1) := by decide +kernel
theorem dX7_readDraft_19 : decode cX7_readDraft 19 = .ok (.putfield 31, 3) := by decide +kernel
theorem dX7_readDraft_22 : decode cX7_readDraft 22 = .ok (.aload_n 0, 1) := by decide +kernel
theorem dX7_readDraft_23 : decode cX7_readDraft 23 = .ok (.iconst 0, 1) := by decide +kernel
theorem dX7_readDraft_24 : decode cX7_readDraft 24 = .ok (.putfield 34, 3) := by decide +kernel
theorem dX7_readDraft_27 : decode cX7_readDraft 27 = .ok (.aload_n 0, 1) := by decide +kernel
theorem dX7_readDraft_28 : decode cX7_readDraft 28 = .ok (.iconst 0, 1) := by decide +kernel
theorem dX7_readDraft_29 : decode cX7_readDraft 29 = .ok (.putfield 37, 3) := by decide +kernel
theorem dX7_readDraft_32 : decode cX7_readDraft 32 = .ok (.aload_n 0, 1) := by decide +kernel
theorem dX7_readDraft_33 : decode cX7_readDraft 33 = .ok (.iconst 0, 1) := by decide +kernel
theorem dX7_readDraft_34 : decode cX7_readDraft 34 = .ok (.putfield 41, 3) := by decide +kernel
theorem dX7_readDraft_37 : decode cX7_readDraft 37 = .ok (.aload_n 0, 1) := by decide +kernel
theorem dX7_readDraft_38 : decode cX7_readDraft 38 = .ok (.getfield 9, 3) := by decide +kernel
theorem dX7_readDraft_41 : decode cX7_readDraft 41 = .ok (.invokevirtual 44, 3) := by decide +kernel
theorem dX7_readDraft_44 : decode cX7_readDraft 44 = .ok (.iconst 0, 1) := by decide +kernel
theorem dX7_readDraft_45 : decode cX7_readDraft 45 = .ok (.istore_n 1, 1) := by decide +kernel
theorem dX7_readDraft_46 : decode cX7_readDraft 46 = .ok (.iload_n 1, 1) := by decide +kernel
theorem dX7_readDraft_47 : decode cX7_readDraft 47 = .ok (.sipush 900, 3) := by decide +kernel
theorem dX7_readDraft_50 : decode cX7_readDraft 50 = .ok (.if_icmp .ge 50, 3) := by decide +kernel
theorem dX7_readDraft_53 : decode cX7_readDraft 53 = .ok (.aload_n 0, 1) := by decide +kernel
theorem dX7_readDraft_54 : decode cX7_readDraft 54 = .ok (.getfield 9, 3) := by decide +kernel
theorem dX7_readDraft_57 : decode cX7_readDraft 57 = .ok (.invokevirtual 49, 3) := by decide +kernel
theorem dX7_readDraft_60 : decode cX7_readDraft 60 = .ok (.ifCond .ne 40, 3) := by decide +kernel
theorem dX7_readDraft_63 : decode cX7_readDraft 63 = .ok (.aload_n 0, 1) := by decide +kernel
theorem dX7_readDraft_64 : decode cX7_readDraft 64 = .ok (.invokevirtual 53, 3) := by decide +kernel
theorem dX7_readDraft_67 : decode cX7_readDraft 67 = .ok (.ifCond .eq 15, 3) := by decide +kernel
theorem dX7_readDraft_70 : decode cX7_readDraft 70 = .ok (.aload_n 0, 1) := by decide +kernel
theorem dX7_readDraft_71 : decode cX7_readDraft 71 = .ok (.getfield 9, 3) := by decide +kernel
theorem dX7_readDraft_74 : decode cX7_readDraft 74 = .ok (.bipush 59, 2) := by decide +kernel
theorem dX7_readDraft_76 : decode cX7_readDraft 76 = .ok (.invokevirtual 56, 3) := by decide +kernel
theorem dX7_readDraft_79 : decode cX7_readDraft 79 = .ok (.ifCond .ne 5, 3) := by decide +kernel
theorem dX7_readDraft_82 : decode cX7_readDraft 82 = .ok (.iconst 0, 1) := by decide +kernel
theorem dX7_readDraft_83 : decode cX7_readDraft 83 = .ok (.ireturn, 1) := by decide +kernel
theorem dX7_readDraft_84 : decode cX7_readDraft 84 = .ok (.aload_n 0, 1) := by decide +kernel
theorem dX7_readDraft_85 : decode cX7_readDraft 85 = .ok (.dup, 1) := by decide +kernel
theorem dX7_readDraft_86 : decode cX7_readDraft 86 = .ok (.getfield 41, 3) := by decide +kernel
theorem dX7_readDraft_89 : decode cX7_readDraft 89 = .ok (.iconst 1, 1) := by decide +kernel
theorem dX7_readDraft_90 : decode cX7_readDraft 90 = .ok (.iadd, 1) := by decide +kernel
theorem dX7_readDraft_91 : decode cX7_readDraft 91 = .ok (.putfield 41, 3) := by decide +kernel
theorem dX7_readDraft_94 : decode cX7_readDraft 94 = .ok (.iinc 1 1, 3) := by decide +kernel
theorem dX7_readDraft_97 : decode cX7_readDraft 97 = .ok (.goto (-51), 3) := by decide +kernel
theorem dX7_readDraft_100 : decode cX7_readDraft 100 = .ok (.aload_n 0, 1) := by decide +kernel
theorem dX7_readDraft_101 : decode cX7_readDraft 101 = .ok (.getfield 15, 3) := by decide +kernel
theorem dX7_readDraft_104 : decode cX7_readDraft 104 = .ok (.invokevirtual 60, 3) := by decide +kernel
theorem dX7_readDraft_107 : decode cX7_readDraft 107 = .ok (.iconst 1, 1) := by decide +kernel
theorem dX7_readDraft_108 : decode cX7_readDraft 108 = .ok (.ireturn, 1) := by decide +kernel
theorem dX7_readStatement_0 : decode cX7_readStatement 0 = .ok (.aload_n 0, 1) := by decide +kernel
theorem dX7_readStatement_1 : decode cX7_readStatement 1 = .ok (.getfield 9, 3) := by decide +kernel
theorem dX7_readStatement_4 : decode cX7_readStatement 4 = .ok (.ldc 63, 2) := by decide +kernel
theorem dX7_readStatement_6 : decode cX7_readStatement 6 = .ok (.invokevirtual 65, 3) := by decide +kernel
theorem dX7_readStatement_9 : decode cX7_readStatement 9 = .ok (.ifCond .eq 8, 3) := by decide +kernel
theorem dX7_readStatement_12 : decode cX7_readStatement 12 = .ok (.aload_n 0, 1) := by decide +kernel
theorem dX7_readStatement_13 : decode cX7_readStatement 13 = .ok (.invokevirtual 69, 3) := by decide +kernel
theorem dX7_readStatement_16 : decode cX7_readStatement 16 = .ok (.ireturn, 1) := by decide +kernel
theorem dX7_readStatement_17 : decode cX7_readStatement 17 = .ok (.aload_n 0, 1) := by decide +kernel
theorem dX7_readStatement_18 : decode cX7_readStatement 18 = .ok (.getfield 9, 3) := by decide +kernel
theorem dX7_readStatement_21 : decode cX7_readStatement 21 = .ok (.ldc 72, 2) := by decide +kernel
