theorem dX7_readStatement_23 : decode cX7_readStatement 23 = .ok (.invokevirtual 65, 3) := by decide +kernel
theorem dX7_readStatement_26 : decode cX7_readStatement 26 = .ok (.ifCond .eq 8, 3) := by decide +kernel
theorem dX7_readStatement_29 : decode cX7_readStatement 29 = .ok (.aload_n 0, 1) := by decide +kernel
theorem dX7_readStatement_30 : decode cX7_readStatement 30 = .ok (.invokevirtual 74, 3) := by decide +kernel
theorem dX7_readStatement_33 : decode cX7_readStatement 33 = .ok (.ireturn, 1) := by decide +kernel
theorem dX7_readStatement_34 : decode cX7_readStatement 34 = .ok (.aload_n 0, 1) := by decide +kernel
theorem dX7_readStatement_35 : decode cX7_readStatement 35 = .ok (.getfield 9, 3) := by decide +kernel
theorem dX7_readStatement_38 : decode cX7_readStatement 38 = .ok (.ldc 77, 2) := by decide +kernel
theorem dX7_readStatement_40 : decode cX7_readStatement 40 = .ok (.invokevirtual 65, 3) := by decide +kernel
theorem dX7_readStatement_43 : decode cX7_readStatement 43 = .ok (.ifCond .eq 8, 3) := by decide +kernel
theorem dX7_readStatement_46 : decode cX7_readStatement 46 = .ok (.aload_n 0, 1) := by decide +kernel
theorem dX7_readStatement_47 : decode cX7_readStatement 47 = .ok (.invokevirtual 79, 3) := by decide +kernel
theorem dX7_readStatement_50 : decode cX7_readStatement 50 = .ok (.ireturn, 1) := by decide +kernel
theorem dX7_readStatement_51 : decode cX7_readStatement 51 = .ok (.aload_n 0, 1) := by decide +kernel
theorem dX7_readStatement_52 : decode cX7_readStatement 52 = .ok (.getfield 9, 3) := by decide +kernel
theorem dX7_readStatement_55 : decode cX7_readStatement 55 = .ok (.ldc 82, 2) := by decide +kernel
theorem dX7_readStatement_57 : decode cX7_readStatement 57 = .ok (.invokevirtual 65, 3) := by decide +kernel
theorem dX7_readStatement_60 : decode cX7_readStatement 60 = .ok (.ifCond .eq 8, 3) := by decide +kernel
theorem dX7_readStatement_63 : decode cX7_readStatement 63 = .ok (.aload_n 0, 1) := by decide +kernel
theorem dX7_readStatement_64 : decode cX7_readStatement 64 = .ok (.invokevirtual 84, 3) := by decide +kernel
theorem dX7_readStatement_67 : decode cX7_readStatement 67 = .ok (.ireturn, 1) := by decide +kernel
theorem dX7_readStatement_68 : decode cX7_readStatement 68 = .ok (.aload_n 0, 1) := by decide +kernel
theorem dX7_readStatement_69 : decode cX7_readStatement 69 = .ok (.getfield 9, 3) := by decide +kernel
theorem dX7_readStatement_72 : decode cX7_readStatement 72 = .ok (.ldc 87, 2) := by decide +kernel
theorem dX7_readStatement_74 : decode cX7_readStatement 74 = .ok (.invokevirtual 65, 3) := by decide +kernel
theorem dX7_readStatement_77 : decode cX7_readStatement 77 = .ok (.ifCond .eq 8, 3) := by decide +kernel
theorem dX7_readStatement_80 : decode cX7_readStatement 80 = .ok (.aload_n 0, 1) := by decide +kernel
theorem dX7_readStatement_81 : decode cX7_readStatement 81 = .ok (.invokevirtual 89, 3) := by decide +kernel
theorem dX7_readStatement_84 : decode cX7_readStatement 84 = .ok (.ireturn, 1) := by decide +kernel
theorem dX7_readStatement_85 : decode cX7_readStatement 85 = .ok (.aload_n 0, 1) := by decide +kernel
theorem dX7_readStatement_86 : decode cX7_readStatement 86 = .ok (.getfield 9, 3) := by decide +kernel
theorem dX7_readStatement_89 : decode cX7_readStatement 89 = .ok (.iconst 1, 1) := by decide +kernel
theorem dX7_readStatement_90 : decode cX7_readStatement 90 = .ok (.invokevirtual 92, 3) := by decide +kernel
theorem dX7_readStatement_93 : decode cX7_readStatement 93 = .ok (.ireturn, 1) := by decide +kernel
theorem dX7_readPanel_0 : decode cX7_readPanel 0 = .ok (.aload_n 0, 1) := by decide +kernel
theorem dX7_readPanel_1 : decode cX7_readPanel 1 = .ok (.getfield 24, 3) := by decide +kernel
theorem dX7_readPanel_4 : decode cX7_readPanel 4 = .ok (.ifCond .ne 10, 3) := by decide +kernel
theorem dX7_readPanel_7 : decode cX7_readPanel 7 = .ok (.aload_n 0, 1) := by decide +kernel
theorem dX7_readPanel_8 : decode cX7_readPanel 8 = .ok (.getfield 37, 3) := by decide +kernel
theorem dX7_readPanel_11 : decode cX7_readPanel 11 = .ok (.ifCond .le 12, 3) := by decide +kernel
theorem dX7_readPanel_14 : decode cX7_readPanel 14 = .ok (.aload_n 0, 1) := by decide +kernel
theorem dX7_readPanel_15 : decode cX7_readPanel 15 = .ok (.getfield 9, 3) := by decide +kernel
theorem dX7_readPanel_18 : decode cX7_readPanel 18 = .ok (.iconst 3, 1) := by decide +kernel
theorem dX7_readPanel_19 : decode cX7_readPanel 19 = .ok (.invokevirtual 92, 3) := by decide +kernel
theorem dX7_readPanel_22 : decode cX7_readPanel 22 = .ok (.ireturn, 1) := by decide +kernel
theorem dX7_readPanel_23 : decode cX7_readPanel 23 = .ok (.aload_n 0, 1) := by decide +kernel
theorem dX7_readPanel_24 : decode cX7_readPanel 24 = .ok (.iconst 1, 1) := by decide +kernel
theorem dX7_readPanel_25 : decode cX7_readPanel 25 = .ok (.putfield 24, 3) := by decide +kernel
theorem dX7_readPanel_28 : decode cX7_readPanel 28 = .ok (.aload_n 0, 1) := by decide +kernel
theorem dX7_readPanel_29 : decode cX7_readPanel 29 = .ok (.getfield 9, 3) := by decide +kernel
theorem dX7_readPanel_32 : decode cX7_readPanel 32 = .ok (.invokevirtual 96, 3) := by decide +kernel
theorem dX7_readPanel_35 : decode cX7_readPanel 35 = .ok (.aload_n 0, 1) := by decide +kernel
theorem dX7_readPanel_36 : decode cX7_readPanel 36 = .ok (.getfield 15, 3) := by decide +kernel
theorem dX7_readPanel_39 : decode cX7_readPanel 39 = .ok (.aload_n 0, 1) := by decide +kernel
theorem dX7_readPanel_40 : decode cX7_readPanel 40 = .ok (.getfield 9, 3) := by decide +kernel
theorem dX7_readPanel_43 : decode cX7_readPanel 43 = .ok (.iconst 1, 1) := by decide +kernel
theorem dX7_readPanel_44 : decode cX7_readPanel 44 = .ok (.bipush 16, 2) := by decide +kernel
theorem dX7_readPanel_46 : decode cX7_readPanel 46 = .ok (.invokevirtual 99, 3) := by decide +kernel
theorem dX7_readPanel_49 : decode cX7_readPanel 49 = .ok (.putfield 103, 3) := by decide +kernel
theorem dX7_readPanel_52 : decode cX7_readPanel 52 = .ok (.aload_n 0, 1) := by decide +kernel
theorem dX7_readPanel_53 : decode cX7_readPanel 53 = .ok (.getfield 15, 3) := by decide +kernel
theorem dX7_readPanel_56 : decode cX7_readPanel 56 = .ok (.getfield 103, 3) := by decide +kernel
theorem dX7_readPanel_59 : decode cX7_readPanel 59 = .ok (.iconst (-1), 1) := by decide +kernel
theorem dX7_readPanel_60 : decode cX7_readPanel 60 = .ok (.if_icmp .ne 5, 3) := by decide +kernel
theorem dX7_readPanel_63 : decode cX7_readPanel 63 = .ok (.iconst 0, 1) := by decide +kernel
theorem dX7_readPanel_64 : decode cX7_readPanel 64 = .ok (.ireturn, 1) := by decide +kernel
theorem dX7_readPanel_65 : decode cX7_readPanel 65 = .ok (.aload_n 0, 1) := by decide +kernel
theorem dX7_readPanel_66 : decode cX7_readPanel 66 = .ok (.getfield 15, 3) := by decide +kernel
theorem dX7_readPanel_69 : decode cX7_readPanel 69 = .ok (.aload_n 0, 1) := by decide +kernel
theorem dX7_readPanel_70 : decode cX7_readPanel 70 = .ok (.getfield 9, 3) := by decide +kernel
theorem dX7_readPanel_73 : decode cX7_readPanel 73 = .ok (.iconst 1, 1) := by decide +kernel
theorem dX7_readPanel_74 : decode cX7_readPanel 74 = .ok (.bipush 12, 2) := by decide +kernel
theorem dX7_readPanel_76 : decode cX7_readPanel 76 = .ok (.invokevirtual 99, 3) := by decide +kernel
theorem dX7_readPanel_79 : decode cX7_readPanel 79 = .ok (.putfield 106, 3) := by decide +kernel
theorem dX7_readPanel_82 : decode cX7_readPanel 82 = .ok (.aload_n 0, 1) := by decide +kernel
theorem dX7_readPanel_83 : decode cX7_readPanel 83 = .ok (.getfield 15, 3) := by decide +kernel
theorem dX7_readPanel_86 : decode cX7_readPanel 86 = .ok (.getfield 106, 3) := by decide +kernel
theorem dX7_readPanel_89 : decode cX7_readPanel 89 = .ok (.iconst (-1), 1) := by decide +kernel
theorem dX7_readPanel_90 : decode cX7_readPanel 90 = .ok (.if_icmp .eq 7, 3) := by decide +kernel
theorem dX7_readPanel_93 : decode cX7_readPanel 93 = .ok (.iconst 1, 1) := by decide +kernel
theorem dX7_readPanel_94 : decode cX7_readPanel 94 = .ok (.goto 4, 3) := by decide +kernel
theorem dX7_readPanel_97 : decode cX7_readPanel 97 = .ok (.iconst 0, 1) := by decide +kernel
theorem dX7_readPanel_98 : decode cX7_readPanel 98 = .ok (.ireturn, 1) := by decide +kernel
theorem dX7_readSteps_0 : decode cX7_readSteps 0 = .ok (.aload_n 0, 1) := by decide +kernel
theorem dX7_readSteps_1 : decode cX7_readSteps 1 = .ok (.getfield 28, 3) := by decide +kernel
theorem dX7_readSteps_4 : decode cX7_readSteps 4 = .ok (.ifCond .eq 12, 3) := by decide +kernel
theorem dX7_readSteps_7 : decode cX7_readSteps 7 = .ok (.aload_n 0, 1) := by decide +kernel
theorem dX7_readSteps_8 : decode cX7_readSteps 8 = .ok (.getfield 9, 3) := by decide +kernel
theorem dX7_readSteps_11 : decode cX7_readSteps 11 = .ok (.iconst 3, 1) := by decide +kernel
theorem dX7_readSteps_12 : decode cX7_readSteps 12 = .ok (.invokevirtual 92, 3) := by decide +kernel
theorem dX7_readSteps_15 : decode cX7_readSteps 15 = .ok (.ireturn, 1) := by decide +kernel
theorem dX7_readSteps_16 : decode cX7_readSteps 16 = .ok (.aload_n 0, 1) := by decide +kernel
theorem dX7_readSteps_17 : decode cX7_readSteps 17 = .ok (.iconst 1, 1) := by decide +kernel
theorem dX7_readSteps_18 : decode cX7_readSteps 18 = .ok (.putfield 28, 3) := by decide +kernel
theorem dX7_readSteps_21 : decode cX7_readSteps 21 = .ok (.aload_n 0, 1) := by decide +kernel
theorem dX7_readSteps_22 : decode cX7_readSteps 22 = .ok (.getfield 9, 3) := by decide +kernel
theorem dX7_readSteps_25 : decode cX7_readSteps 25 = .ok (.invokevirtual 96, 3) := by decide +kernel
theorem dX7_readSteps_28 : decode cX7_readSteps 28 = .ok (.aload_n 0, 1) := by decide +kernel
theorem dX7_readSteps_29 : decode cX7_readSteps 29 = .ok (.getfield 15, 3) := by decide +kernel
theorem dX7_readSteps_32 : decode cX7_readSteps 32 = .ok (.aload_n 0, 1) := by decide +kernel
theorem dX7_readSteps_33 : decode cX7_readSteps 33 = .ok (.getfield 9, 3) := by decide +kernel
theorem dX7_readSteps_36 : decode cX7_readSteps 36 = .ok (.iconst 1, 1) := by decide +kernel
theorem dX7_readSteps_37 : decode cX7_readSteps 37 = .ok (.bipush 20, 2) := by decide +kernel
theorem dX7_readSteps_39 : decode cX7_readSteps 39 = .ok (.invokevirtual 99, 3) := by decide +kernel
theorem dX7_readSteps_42 : decode cX7_readSteps 42 = .ok (.putfield 109, 3) := by decide +kernel
theorem dX7_readSteps_45 : decode cX7_readSteps 45 = .ok (.aload_n 0, 1) := by decide +kernel
theorem dX7_readSteps_46 : decode cX7_readSteps 46 = .ok (.getfield 15, 3) := by decide +kernel
theorem dX7_readSteps_49 : decode cX7_readSteps 49 = .ok (.getfield 109, 3) := by decide +kernel
theorem dX7_readSteps_52 : decode cX7_readSteps 52 = .ok (.iconst (-1), 1) := by decide +kernel
theorem dX7_readSteps_53 : decode cX7_readSteps 53 = .ok (.if_icmp .eq 15, 3) := by decide +kernel
theorem dX7_readSteps_56 : decode cX7_readSteps 56 = .ok (.aload_n 0, 1) := by decide +kernel
theorem dX7_readSteps_57 : decode cX7_readSteps 57 = .ok (.getfield 9, 3) := by decide +kernel
theorem dX7_readSteps_60 : decode cX7_readSteps 60 = .ok (.ldc 112, 2) := by decide +kernel
theorem dX7_readSteps_62 : decode cX7_readSteps 62 = .ok (.invokevirtual 114, 3) := by decide +kernel
theorem dX7_readSteps_65 : decode cX7_readSteps 65 = .ok (.ifCond .ne 5, 3) := by decide +kernel
theorem dX7_readSteps_68 : decode cX7_readSteps 68 = .ok (.iconst 0, 1) := by decide +kernel
theorem dX7_readSteps_69 : decode cX7_readSteps 69 = .ok (.ireturn, 1) := by decide +kernel
theorem dX7_readSteps_70 : decode cX7_readSteps 70 = .ok (.aload_n 0, 1) := by decide +kernel
theorem dX7_readSteps_71 : decode cX7_readSteps 71 = .ok (.getfield 15, 3) := by decide +kernel
theorem dX7_readSteps_74 : decode cX7_readSteps 74 = .ok (.aload_n 0, 1) := by decide +kernel
theorem dX7_readSteps_75 : decode cX7_readSteps 75 = .ok (.getfield 9, 3) := by decide +kernel
theorem dX7_readSteps_78 : decode cX7_readSteps 78 = .ok (.bipush 10, 2) := by decide +kernel
theorem dX7_readSteps_80 : decode cX7_readSteps 80 = .ok (.bipush 99, 2) := by decide +kernel
theorem dX7_readSteps_82 : decode cX7_readSteps 82 = .ok (.invokevirtual 99, 3) := by decide +kernel
theorem dX7_readSteps_85 : decode cX7_readSteps 85 = .ok (.putfield 117, 3) := by decide +kernel
theorem dX7_readSteps_88 : decode cX7_readSteps 88 = .ok (.aload_n 0, 1) := by decide +kernel
theorem dX7_readSteps_89 : decode cX7_readSteps 89 = .ok (.getfield 15, 3) := by decide +kernel
theorem dX7_readSteps_92 : decode cX7_readSteps 92 = .ok (.getfield 117, 3) := by decide +kernel
theorem dX7_readSteps_95 : decode cX7_readSteps 95 = .ok (.iconst (-1), 1) := by decide +kernel
theorem dX7_readSteps_96 : decode cX7_readSteps 96 = .ok (.if_icmp .eq 15, 3) := by decide +kernel
theorem dX7_readSteps_99 : decode cX7_readSteps 99 = .ok (.aload_n 0, 1) := by decide +kernel
theorem dX7_readSteps_100 : decode cX7_readSteps 100 = .ok (.getfield 9, 3) := by decide +kernel
theorem dX7_readSteps_103 : decode cX7_readSteps 103 = .ok (.ldc 119, 2) := by decide +kernel
theorem dX7_readSteps_105 : decode cX7_readSteps 105 = .ok (.invokevirtual 114, 3) := by decide +kernel
theorem dX7_readSteps_108 : decode cX7_readSteps 108 = .ok (.ifCond .ne 5, 3) := by decide +kernel
theorem dX7_readSteps_111 : decode cX7_readSteps 111 = .ok (.iconst 0, 1) := by decide +kernel
theorem dX7_readSteps_112 : decode cX7_readSteps 112 = .ok (.ireturn, 1) := by decide +kernel
theorem dX7_readSteps_113 : decode cX7_readSteps 113 = .ok (.aload_n 0, 1) := by decide +kernel
theorem dX7_readSteps_114 : decode cX7_readSteps 114 = .ok (.getfield 15, 3) := by decide +kernel
theorem dX7_readSteps_117 : decode cX7_readSteps 117 = .ok (.aload_n 0, 1) := by decide +kernel
theorem dX7_readSteps_118 : decode cX7_readSteps 118 = .ok (.getfield 9, 3) := by decide +kernel
theorem dX7_readSteps_121 : decode cX7_readSteps 121 = .ok (.iconst 0, 1) := by decide +kernel
theorem dX7_readSteps_122 : decode cX7_readSteps 122 = .ok (.aload_n 0, 1) := by decide +kernel
theorem dX7_readSteps_123 : decode cX7_readSteps 123 = .ok (.getfield 15, 3) := by decide +kernel
theorem dX7_readSteps_126 : decode cX7_readSteps 126 = .ok (.getfield 109, 3) := by decide +kernel
theorem dX7_readSteps_129 : decode cX7_readSteps 129 = .ok (.invokevirtual 99, 3) := by decide +kernel
theorem dX7_readSteps_132 : decode cX7_readSteps 132 = .ok (.putfield 121, 3) := by decide +kernel
theorem dX7_readSteps_135 : decode cX7_readSteps 135 = .ok (.aload_n 0, 1) := by decide +kernel
theorem dX7_readSteps_136 : decode cX7_readSteps 136 = .ok (.getfield 15, 3) := by decide +kernel
theorem dX7_readSteps_139 : decode cX7_readSteps 139 = .ok (.getfield 121, 3) := by decide +kernel
theorem dX7_readSteps_142 : decode cX7_readSteps 142 = .ok (.iconst (-1), 1) := by decide +kernel
theorem dX7_readSteps_143 : decode cX7_readSteps 143 = .ok (.if_icmp .eq 7, 3) := by decide +kernel
theorem dX7_readSteps_146 : decode cX7_readSteps 146 = .ok (.iconst 1, 1) := by decide +kernel
theorem dX7_readSteps_147 : decode cX7_readSteps 147 = .ok (.goto 4, 3) := by decide +kernel
theorem dX7_readSteps_150 : decode cX7_readSteps 150 = .ok (.iconst 0, 1) := by decide +kernel
theorem dX7_readSteps_151 : decode cX7_readSteps 151 = .ok (.ireturn, 1) := by decide +kernel
theorem dX7_readWall_0 : decode cX7_readWall 0 = .ok (.aload_n 0, 1) := by decide +kernel
theorem dX7_readWall_1 : decode cX7_readWall 1 = .ok (.getfield 31, 3) := by decide +kernel
theorem dX7_readWall_4 : decode cX7_readWall 4 = .ok (.ifCond .eq 12, 3) := by decide +kernel
theorem dX7_readWall_7 : decode cX7_readWall 7 = .ok (.aload_n 0, 1) := by decide +kernel
theorem dX7_readWall_8 : decode cX7_readWall 8 = .ok (.getfield 9, 3) := by decide +kernel
theorem dX7_readWall_11 : decode cX7_readWall 11 = .ok (.iconst 3, 1) := by decide +kernel
theorem dX7_readWall_12 : decode cX7_readWall 12 = .ok (.invokevirtual 92, 3) := by decide +kernel
theorem dX7_readWall_15 : decode cX7_readWall 15 = .ok (.ireturn, 1) := by decide +kernel
theorem dX7_readWall_16 : decode cX7_readWall 16 = .ok (.aload_n 0, 1) := by decide +kernel
theorem dX7_readWall_17 : decode cX7_readWall 17 = .ok (.iconst 1, 1) := by decide +kernel
theorem dX7_readWall_18 : decode cX7_readWall 18 = .ok (.putfield 31, 3) := by decide +kernel
theorem dX7_readWall_21 : decode cX7_readWall 21 = .ok (.aload_n 0, 1) := by decide +kernel
theorem dX7_readWall_22 : decode cX7_readWall 22 = .ok (.getfield 9, 3) := by decide +kernel
theorem dX7_readWall_25 : decode cX7_readWall 25 = .ok (.invokevirtual 96, 3) := by decide +kernel
theorem dX7_readWall_28 : decode cX7_readWall 28 = .ok (.aload_n 0, 1) := by decide +kernel
theorem dX7_readWall_29 : decode cX7_readWall 29 = .ok (.getfield 15, 3) := by decide +kernel
theorem dX7_readWall_32 : decode cX7_readWall 32 = .ok (.aload_n 0, 1) := by decide +kernel
theorem dX7_readWall_33 : decode cX7_readWall 33 = .ok (.getfield 9, 3) := by decide +kernel
theorem dX7_readWall_36 : decode cX7_readWall 36 = .ok (.iconst 1, 1) := by decide +kernel
theorem dX7_readWall_37 : decode cX7_readWall 37 = .ok (.iconst 4, 1) := by decide +kernel
theorem dX7_readWall_38 : decode cX7_readWall 38 = .ok (.invokevirtual 99, 3) := by decide +kernel
theorem dX7_readWall_41 : decode cX7_readWall 41 = .ok (.putfield 123, 3) := by decide +kernel
theorem dX7_readWall_44 : decode cX7_readWall 44 = .ok (.aload_n 0, 1) := by decide +kernel
theorem dX7_readWall_45 : decode cX7_readWall 45 = .ok (.getfield 15, 3) := by decide +kernel
theorem dX7_readWall_48 : decode cX7_readWall 48 = .ok (.getfield 123, 3) := by decide +kernel
theorem dX7_readWall_51 : decode cX7_readWall 51 = .ok (.iconst (-1), 1) := by decide +kernel
theorem dX7_readWall_52 : decode cX7_readWall 52 = .ok (.if_icmp .eq 7, 3) := by decide +kernel
theorem dX7_readWall_55 : decode cX7_readWall 55 = .ok (.iconst 1, 1) := by decide +kernel
theorem dX7_readWall_56 : decode cX7_readWall 56 = .ok (.goto 4, 3) := by decide +kernel
theorem dX7_readWall_59 : decode cX7_readWall 59 = .ok (.iconst 0, 1) := by decide +kernel
theorem dX7_readWall_60 : decode cX7_readWall 60 = .ok (.ireturn, 1) := by decide +kernel
theorem dX7_readSlope_0 : decode cX7_readSlope 0 = .ok (.aload_n 0, 1) := by decide +kernel
theorem dX7_readSlope_1 : decode cX7_readSlope 1 = .ok (.getfield 34, 3) := by decide +kernel
theorem dX7_readSlope_4 : decode cX7_readSlope 4 = .ok (.ifCond .eq 12, 3) := by decide +kernel
theorem dX7_readSlope_7 : decode cX7_readSlope 7 = .ok (.aload_n 0, 1) := by decide +kernel
theorem dX7_readSlope_8 : decode cX7_readSlope 8 = .ok (.getfield 9, 3) := by decide +kernel
theorem dX7_readSlope_11 : decode cX7_readSlope 11 = .ok (.iconst 3, 1) := by decide +kernel
theorem dX7_readSlope_12 : decode cX7_readSlope 12 = .ok (.invokevirtual 92, 3) := by decide +kernel
theorem dX7_readSlope_15 : decode cX7_readSlope 15 = .ok (.ireturn, 1) := by decide +kernel
theorem dX7_readSlope_16 : decode cX7_readSlope 16 = .ok (.aload_n 0, 1) := by decide +kernel
theorem dX7_readSlope_17 : decode cX7_readSlope 17 = .ok (.iconst 1, 1) := by decide +kernel
theorem dX7_readSlope_18 : decode cX7_readSlope 18 = .ok (.putfield 34, 3) := by decide +kernel
theorem dX7_readSlope_21 : decode cX7_readSlope 21 = .ok (.aload_n 0, 1) := by decide +kernel
theorem dX7_readSlope_22 : decode cX7_readSlope 22 = .ok (.getfield 9, 3) := by decide +kernel
theorem dX7_readSlope_25 : decode cX7_readSlope 25 = .ok (.invokevirtual 96, 3) := by decide +kernel
theorem dX7_readSlope_28 : decode cX7_readSlope 28 = .ok (.aload_n 0, 1) := by decide +kernel
theorem dX7_readSlope_29 : decode cX7_readSlope 29 = .ok (.getfield 15, 3) := by decide +kernel
theorem dX7_readSlope_32 : decode cX7_readSlope 32 = .ok (.aload_n 0, 1) := by decide +kernel
theorem dX7_readSlope_33 : decode cX7_readSlope 33 = .ok (.getfield 9, 3) := by decide +kernel
theorem dX7_readSlope_36 : decode cX7_readSlope 36 = .ok (.iconst 0, 1) := by decide +kernel
theorem dX7_readSlope_37 : decode cX7_readSlope 37 = .ok (.bipush 9, 2) := by decide +kernel
theorem dX7_readSlope_39 : decode cX7_readSlope 39 = .ok (.invokevirtual 99, 3) := by decide +kernel
theorem dX7_readSlope_42 : decode cX7_readSlope 42 = .ok (.putfield 125, 3) := by decide +kernel
theorem dX7_readSlope_45 : decode cX7_readSlope 45 = .ok (.aload_n 0, 1) := by decide +kernel
theorem dX7_readSlope_46 : decode cX7_readSlope 46 = .ok (.getfield 15, 3) := by decide +kernel
theorem dX7_readSlope_49 : decode cX7_readSlope 49 = .ok (.getfield 125, 3) := by decide +kernel
theorem dX7_readSlope_52 : decode cX7_readSlope 52 = .ok (.iconst (-1), 1) := by decide +kernel
theorem dX7_readSlope_53 : decode cX7_readSlope 53 = .ok (.if_icmp .eq 7, 3) := by decide +kernel
theorem dX7_readSlope_56 : decode cX7_readSlope 56 = .ok (.iconst 1, 1) := by decide +kernel
theorem dX7_readSlope_57 : decode cX7_readSlope 57 = .ok (.goto 4, 3) := by decide +kernel
theorem dX7_readSlope_60 : decode cX7_readSlope 60 = .ok (.iconst 0, 1) := by decide +kernel
theorem dX7_readSlope_61 : decode cX7_readSlope 61 = .ok (.ireturn, 1) := by decide +kernel
theorem dX7_readRow_0 : decode cX7_readRow 0 = .ok (.aload_n 0, 1) := by decide +kernel
theorem dX7_readRow_1 : decode cX7_readRow 1 = .ok (.getfield 37, 3) := by decide +kernel
theorem dX7_readRow_4 : decode cX7_readRow 4 = .ok (.aload_n 0, 1) := by decide +kernel
theorem dX7_readRow_5 : decode cX7_readRow 5 = .ok (.getfield 15, 3) := by decide +kernel
theorem dX7_readRow_8 : decode cX7_readRow 8 = .ok (.getfield 106, 3) := by decide +kernel
theorem dX7_readRow_11 : decode cX7_readRow 11 = .ok (.if_icmp .lt 12, 3) := by decide +kernel
theorem dX7_readRow_14 : decode cX7_readRow 14 = .ok (.aload_n 0, 1) := by decide +kernel
theorem dX7_readRow_15 : decode cX7_readRow 15 = .ok (.getfield 9, 3) := by decide +kernel
theorem dX7_readRow_18 : decode cX7_readRow 18 = .ok (.iconst 5, 1) := by decide +kernel
theorem dX7_readRow_19 : decode cX7_readRow 19 = .ok (.invokevirtual 92, 3) := by decide +kernel
theorem dX7_readRow_22 : decode cX7_readRow 22 = .ok (.ireturn, 1) := by decide +kernel
theorem dX7_readRow_23 : decode cX7_readRow 23 = .ok (.aload_n 0, 1) := by decide +kernel
theorem dX7_readRow_24 : decode cX7_readRow 24 = .ok (.getfield 9, 3) := by decide +kernel
theorem dX7_readRow_27 : decode cX7_readRow 27 = .ok (.invokevirtual 96, 3) := by decide +kernel
theorem dX7_readRow_30 : decode cX7_readRow 30 = .ok (.iconst 0, 1) := by decide +kernel
theorem dX7_readRow_31 : decode cX7_readRow 31 = .ok (.istore_n 1, 1) := by decide +kernel
theorem dX7_readRow_32 : decode cX7_readRow 32 = .ok (.iload_n 1, 1) := by decide +kernel
theorem dX7_readRow_33 : decode cX7_readRow 33 = .ok (.aload_n 0, 1) := by decide +kernel
theorem dX7_readRow_34 : decode cX7_readRow 34 = .ok (.getfield 15, 3) := by decide +kernel
theorem dX7_readRow_37 : decode cX7_readRow 37 = .ok (.getfield 103, 3) := by decide +kernel
theorem dX7_readRow_40 : decode cX7_readRow 40 = .ok (.if_icmp .ge 41, 3) := by decide +kernel
theorem dX7_readRow_43 : decode cX7_readRow 43 = .ok (.aload_n 0, 1) := by decide +kernel
theorem dX7_readRow_44 : decode cX7_readRow 44 = .ok (.getfield 9, 3) := by decide +kernel
theorem dX7_readRow_47 : decode cX7_readRow 47 = .ok (.iconst 0, 1) := by decide +kernel
theorem dX7_readRow_48 : decode cX7_readRow 48 = .ok (.sipush 255, 3) := by decide +kernel
theorem dX7_readRow_51 : decode cX7_readRow 51 = .ok (.invokevirtual 99, 3) := by decide +kernel
theorem dX7_readRow_54 : decode cX7_readRow 54 = .ok (.istore_n 2, 1) := by decide +kernel
theorem dX7_readRow_55 : decode cX7_readRow 55 = .ok (.iload_n 2, 1) := by decide +kernel
theorem dX7_readRow_56 : decode cX7_readRow 56 = .ok (.iconst (-1), 1) := by decide +kernel
theorem dX7_readRow_57 : decode cX7_readRow 57 = .ok (.if_icmp .ne 5, 3) := by decide +kernel
theorem dX7_readRow_60 : decode cX7_readRow 60 = .ok (.iconst 0, 1) := by decide +kernel
theorem dX7_readRow_61 : decode cX7_readRow 61 = .ok (.ireturn, 1) := by decide +kernel
theorem dX7_readRow_62 : decode cX7_readRow 62 = .ok (.aload_n 0, 1) := by decide +kernel
theorem dX7_readRow_63 : decode cX7_readRow 63 = .ok (.getfield 15, 3) := by decide +kernel
theorem dX7_readRow_66 : decode cX7_readRow 66 = .ok (.iload_n 1, 1) := by decide +kernel
theorem dX7_readRow_67 : decode cX7_readRow 67 = .ok (.aload_n 0, 1) := by decide +kernel
theorem dX7_readRow_68 : decode cX7_readRow 68 = .ok (.getfield 37, 3) := by decide +kernel
theorem dX7_readRow_71 : decode cX7_readRow 71 = .ok (.iload_n 2, 1) := by decide +kernel
theorem dX7_readRow_72 : decode cX7_readRow 72 = .ok (.invokevirtual 127, 3) := by decide +kernel
theorem dX7_readRow_75 : decode cX7_readRow 75 = .ok (.iinc 1 1, 3) := by decide +kernel
theorem dX7_readRow_78 : decode cX7_readRow 78 = .ok (.goto (-46), 3) := by decide +kernel
theorem dX7_readRow_81 : decode cX7_readRow 81 = .ok (.aload_n 0, 1) := by decide +kernel
theorem dX7_readRow_82 : decode cX7_readRow 82 = .ok (.dup, 1) := by decide +kernel
theorem dX7_readRow_83 : decode cX7_readRow 83 = .ok (.getfield 37, 3) := by decide +kernel
theorem dX7_readRow_86 : decode cX7_readRow 86 = .ok (.iconst 1, 1) := by decide +kernel
theorem dX7_readRow_87 : decode cX7_readRow 87 = .ok (.iadd, 1) := by decide +kernel
theorem dX7_readRow_88 : decode cX7_readRow 88 = .ok (.putfield 37, 3) := by decide +kernel
theorem dX7_readRow_91 : decode cX7_readRow 91 = .ok (.iconst 1, 1) := by decide +kernel
theorem dX7_readRow_92 : decode cX7_readRow 92 = .ok (.ireturn, 1) := by decide +kernel
theorem dX8_init_0 : decode cX8_init 0 = .ok (.aload_n 0, 1) := by decide +kernel
theorem dX8_init_1 : decode cX8_init 1 = .ok (.invokespecial 3, 3) := by decide +kernel
theorem dX8_init_4 : decode cX8_init 4 = .ok (.aload_n 0, 1) := by decide +kernel
theorem dX8_init_5 : decode cX8_init 5 = .ok (.bipush 30, 2) := by decide +kernel
theorem dX8_init_7 : decode cX8_init 7 = .ok (.anewarray 11, 3) := by decide +kernel
theorem dX8_init_10 : decode cX8_init 10 = .ok (.putfield 13, 3) := by decide +kernel
theorem dX8_init_13 : decode cX8_init 13 = .ok (.aload_n 0, 1) := by decide +kernel
theorem dX8_init_14 : decode cX8_init 14 = .ok (.sipush 150, 3) := by decide +kernel
theorem dX8_init_17 : decode cX8_init 17 = .ok (.newarray .int, 2) := by decide +kernel
theorem dX8_init_19 : decode cX8_init 19 = .ok (.putfield 17, 3) := by decide +kernel
theorem dX8_init_22 : decode cX8_init 22 = .ok (.aload_n 0, 1) := by decide +kernel
theorem dX8_init_23 : decode cX8_init 23 = .ok (.bipush 30, 2) := by decide +kernel
theorem dX8_init_25 : decode cX8_init 25 = .ok (.newarray .int, 2) := by decide +kernel
theorem dX8_init_27 : decode cX8_init 27 = .ok (.putfield 21, 3) := by decide +kernel
theorem dX8_init_30 : decode cX8_init 30 = .ok (.aload_n 0, 1) := by decide +kernel
theorem dX8_init_31 : decode cX8_init 31 = .ok (.bipush 60, 2) := by decide +kernel
theorem dX8_init_33 : decode cX8_init 33 = .ok (.newarray .int, 2) := by decide +kernel
theorem dX8_init_35 : decode cX8_init 35 = .ok (.putfield 24, 3) := by decide +kernel
theorem dX8_init_38 : decode cX8_init 38 = .ok (.aload_n 0, 1) := by decide +kernel
theorem dX8_init_39 : decode cX8_init 39 = .ok (.aload_n 1, 1) := by decide +kernel
theorem dX8_init_40 : decode cX8_init 40 = .ok (.putfield 27, 3) := by decide +kernel
theorem dX8_init_43 : decode cX8_init 43 = .ok (.return_, 1) := by decide +kernel
theorem dX9_excess_0 : decode cX9_excess 0 = .ok (.iload_n 2, 1) := by decide +kernel
theorem dX9_excess_1 : decode cX9_excess 1 = .ok (.ifCond .gt 5, 3) := by decide +kernel
theorem dX9_excess_4 : decode cX9_excess 4 = .ok (.iconst 0, 1) := by decide +kernel
theorem dX9_excess_5 : decode cX9_excess 5 = .ok (.ireturn, 1) := by decide +kernel
theorem dX9_excess_6 : decode cX9_excess 6 = .ok (.iconst 0, 1) := by decide +kernel
theorem dX9_excess_7 : decode cX9_excess 7 = .ok (.aload_n 0, 1) := by decide +kernel
theorem dX9_excess_8 : decode cX9_excess 8 = .ok (.iload_n 1, 1) := by decide +kernel
theorem dX9_excess_9 : decode cX9_excess 9 = .ok (.iload_n 2, 1) := by decide +kernel
theorem dX9_excess_10 : decode cX9_excess 10 = .ok (.invokevirtual 7, 3) := by decide +kernel
theorem dX9_excess_13 : decode cX9_excess 13 = .ok (.aload_n 0, 1) := by decide +kernel
theorem dX9_excess_14 : decode cX9_excess 14 = .ok (.iload_n 1, 1) := by decide +kernel
theorem dX9_excess_15 : decode cX9_excess 15 = .ok (.iload_n 2, 1) := by decide +kernel
theorem dX9_excess_16 : decode cX9_excess 16 = .ok (.iconst 1, 1) := by decide +kernel
theorem dX9_excess_17 : decode cX9_excess 17 = .ok (.isub, 1) := by decide +kernel
theorem dX9_excess_18 : decode cX9_excess 18 = .ok (.invokevirtual 7, 3) := by decide +kernel
theorem dX9_excess_21 : decode cX9_excess 21 = .ok (.aload_n 0, 1) := by decide +kernel
theorem dX9_excess_22 : decode cX9_excess 22 = .ok (.getfield 13, 3) := by decide +kernel
theorem dX9_excess_25 : decode cX9_excess 25 = .ok (.iadd, 1) := by decide +kernel
theorem dX9_excess_26 : decode cX9_excess 26 = .ok (.isub, 1) := by decide +kernel
theorem dX9_excess_27 : decode cX9_excess 27 = .ok (.invokestatic 17, 3) := by decide +kernel
theorem dX9_excess_30 : decode cX9_excess 30 = .ok (.ireturn, 1) := by decide +kernel
theorem dX9_lengthOf_0 : decode cX9_lengthOf 0 = .ok (.iload_n 3, 1) := by decide +kernel
theorem dX9_lengthOf_1 : decode cX9_lengthOf 1 = .ok (.aload_n 0, 1) := by decide +kernel
theorem dX9_lengthOf_2 : decode cX9_lengthOf 2 = .ok (.iload_n 1, 1) := by decide +kernel
theorem dX9_lengthOf_3 : decode cX9_lengthOf 3 = .ok (.iload_n 2, 1) := by decide +kernel
theorem dX9_lengthOf_4 : decode cX9_lengthOf 4 = .ok (.invokevirtual 7, 3) := by decide +kernel
theorem dX9_lengthOf_7 : decode cX9_lengthOf 7 = .ok (.aload_n 0, 1) := by decide +kernel
theorem dX9_lengthOf_8 : decode cX9_lengthOf 8 = .ok (.iload_n 1, 1) := by decide +kernel
theorem dX9_lengthOf_9 : decode cX9_lengthOf 9 = .ok (.iload_n 2, 1) := by decide +kernel
theorem dX9_lengthOf_10 : decode cX9_lengthOf 10 = .ok (.invokestatic 22, 3) := by decide +kernel
theorem dX9_lengthOf_13 : decode cX9_lengthOf 13 = .ok (.isub, 1) := by decide +kernel
theorem dX9_lengthOf_14 : decode cX9_lengthOf 14 = .ok (.if_icmp .gt 5, 3) := by decide +kernel
theorem dX9_lengthOf_17 : decode cX9_lengthOf 17 = .ok (.iconst 0, 1) := by decide +kernel
theorem dX9_lengthOf_18 : decode cX9_lengthOf 18 = .ok (.ireturn, 1) := by decide +kernel
theorem dX9_lengthOf_19 : decode cX9_lengthOf 19 = .ok (.iconst 0, 1) := by decide +kernel
theorem dX9_lengthOf_20 : decode cX9_lengthOf 20 = .ok (.istore 4, 2) := by decide +kernel
theorem dX9_lengthOf_22 : decode cX9_lengthOf 22 = .ok (.iload_n 2, 1) := by decide +kernel
theorem dX9_lengthOf_23 : decode cX9_lengthOf 23 = .ok (.iconst 1, 1) := by decide +kernel
theorem dX9_lengthOf_24 : decode cX9_lengthOf 24 = .ok (.isub, 1) := by decide +kernel
theorem dX9_lengthOf_25 : decode cX9_lengthOf 25 = .ok (.istore 5, 2) := by decide +kernel
theorem dX9_lengthOf_27 : decode cX9_lengthOf 27 = .ok (.iload 5, 2) := by decide +kernel
theorem dX9_lengthOf_29 : decode cX9_lengthOf 29 = .ok (.ifCond .lt 23, 3) := by decide +kernel
theorem dX9_lengthOf_32 : decode cX9_lengthOf 32 = .ok (.aload_n 0, 1) := by decide +kernel
theorem dX9_lengthOf_33 : decode cX9_lengthOf 33 = .ok (.iload_n 1, 1) := by decide +kernel
theorem dX9_lengthOf_34 : decode cX9_lengthOf 34 = .ok (.iload 5, 2) := by decide +kernel
theorem dX9_lengthOf_36 : decode cX9_lengthOf 36 = .ok (.invokevirtual 7, 3) := by decide +kernel
theorem dX9_lengthOf_39 : decode cX9_lengthOf 39 = .ok (.iload_n 3, 1) := by decide +kernel
theorem dX9_lengthOf_40 : decode cX9_lengthOf 40 = .ok (.if_icmp .ge 12, 3) := by decide +kernel
theorem dX9_lengthOf_43 : decode cX9_lengthOf 43 = .ok (.iinc 4 1, 3) := by decide +kernel
theorem dX9_lengthOf_46 : decode cX9_lengthOf 46 = .ok (.iinc 5 (-1), 3) := by decide +kernel
theorem dX9_lengthOf_49 : decode cX9_lengthOf 49 = .ok (.goto (-22), 3) := by decide +kernel
theorem dX9_lengthOf_52 : decode cX9_lengthOf 52 = .ok (.iload 4, 2) := by decide +kernel
theorem dX9_lengthOf_54 : decode cX9_lengthOf 54 = .ok (.ireturn, 1) := by decide +kernel
theorem dX9_countOfCells_0 : decode cX9_countOfCells 0 = .ok (.iconst 0, 1) := by decide +kernel
theorem dX9_countOfCells_1 : decode cX9_countOfCells 1 = .ok (.istore_n 1, 1) := by decide +kernel
theorem dX9_countOfCells_2 : decode cX9_countOfCells 2 = .ok (.iconst 1, 1) := by decide +kernel
theorem dX9_countOfCells_3 : decode cX9_countOfCells 3 = .ok (.istore_n 2, 1) := by decide +kernel
theorem dX9_countOfCells_4 : decode cX9_countOfCells 4 = .ok (.iload_n 2, 1) := by decide +kernel
theorem dX9_countOfCells_5 : decode cX9_countOfCells 5 = .ok (.aload_n 0, 1) := by decide +kernel
theorem dX9_countOfCells_6 : decode cX9_countOfCells 6 = .ok (.getfield 28, 3) := by decide +kernel
theorem dX9_countOfCells_9 : decode cX9_countOfCells 9 = .ok (.if_icmp .ge 42, 3) := by decide +kernel
theorem dX9_countOfCells_12 : decode cX9_countOfCells 12 = .ok (.iconst 0, 1) := by decide +kernel
theorem dX9_countOfCells_13 : decode cX9_countOfCells 13 = .ok (.istore_n 3, 1) := by decide +kernel
theorem dX9_countOfCells_14 : decode cX9_countOfCells 14 = .ok (.iload_n 3, 1) := by decide +kernel
theorem dX9_countOfCells_15 : decode cX9_countOfCells 15 = .ok (.aload_n 0, 1) := by decide +kernel
theorem dX9_countOfCells_16 : decode cX9_countOfCells 16 = .ok (.getfield 31, 3) := by decide +kernel
theorem dX9_countOfCells_19 : decode cX9_countOfCells 19 = .ok (.if_icmp .ge 26, 3) := by decide +kernel
theorem dX9_countOfCells_22 : decode cX9_countOfCells 22 = .ok (.iload_n 1, 1) := by decide +kernel
theorem dX9_countOfCells_23 : decode cX9_countOfCells 23 = .ok (.aload_n 0, 1) := by decide +kernel
theorem dX9_countOfCells_24 : decode cX9_countOfCells 24 = .ok (.iload_n 3, 1) := by decide +kernel
theorem dX9_countOfCells_25 : decode cX9_countOfCells 25 = .ok (.iload_n 2, 1) := by decide +kernel
theorem dX9_countOfCells_26 : decode cX9_countOfCells 26 = .ok (.invokestatic 22, 3) := by decide +kernel
theorem dX9_countOfCells_29 : decode cX9_countOfCells 29 = .ok (.ifCond .le 7, 3) := by decide +kernel
theorem dX9_countOfCells_32 : decode cX9_countOfCells 32 = .ok (.iconst 1, 1) := by decide +kernel
theorem dX9_countOfCells_33 : decode cX9_countOfCells 33 = .ok (.goto 4, 3) := by decide +kernel
theorem dX9_countOfCells_36 : decode cX9_countOfCells 36 = .ok (.iconst 0, 1) := by decide +kernel
theorem dX9_countOfCells_37 : decode cX9_countOfCells 37 = .ok (.iadd, 1) := by decide +kernel
theorem dX9_countOfCells_38 : decode cX9_countOfCells 38 = .ok (.istore_n 1, 1) := by decide +kernel
theorem dX9_countOfCells_39 : decode cX9_countOfCells 39 = .ok (.iinc 3 1, 3) := by decide +kernel
theorem dX9_countOfCells_42 : decode cX9_countOfCells 42 = .ok (.goto (-28), 3) := by decide +kernel
theorem dX9_countOfCells_45 : decode cX9_countOfCells 45 = .ok (.iinc 2 1, 3) := by decide +kernel
theorem dX9_countOfCells_48 : decode cX9_countOfCells 48 = .ok (.goto (-44), 3) := by decide +kernel
theorem dX9_countOfCells_51 : decode cX9_countOfCells 51 = .ok (.iload_n 1, 1) := by decide +kernel
theorem dX9_countOfCells_52 : decode cX9_countOfCells 52 = .ok (.ireturn, 1) := by decide +kernel
theorem dX9_sumOfLengths_0 : decode cX9_sumOfLengths 0 = .ok (.iconst 0, 1) := by decide +kernel
theorem dX9_sumOfLengths_1 : decode cX9_sumOfLengths 1 = .ok (.istore_n 1, 1) := by decide +kernel
theorem dX9_sumOfLengths_2 : decode cX9_sumOfLengths 2 = .ok (.iconst 1, 1) := by decide +kernel
theorem dX9_sumOfLengths_3 : decode cX9_sumOfLengths 3 = .ok (.istore_n 2, 1) := by decide +kernel
theorem dX9_sumOfLengths_4 : decode cX9_sumOfLengths 4 = .ok (.iload_n 2, 1) := by decide +kernel
theorem dX9_sumOfLengths_5 : decode cX9_sumOfLengths 5 = .ok (.aload_n 0, 1) := by decide +kernel
theorem dX9_sumOfLengths_6 : decode cX9_sumOfLengths 6 = .ok (.getfield 28, 3) := by decide +kernel
theorem dX9_sumOfLengths_9 : decode cX9_sumOfLengths 9 = .ok (.if_icmp .ge 34, 3) := by decide +kernel
theorem dX9_sumOfLengths_12 : decode cX9_sumOfLengths 12 = .ok (.iconst 0, 1) := by decide +kernel
theorem dX9_sumOfLengths_13 : decode cX9_sumOfLengths 13 = .ok (.istore_n 3, 1) := by decide +kernel
theorem dX9_sumOfLengths_14 : decode cX9_sumOfLengths 14 = .ok (.iload_n 3, 1) := by decide +kernel
theorem dX9_sumOfLengths_15 : decode cX9_sumOfLengths 15 = .ok (.aload_n 0, 1) := by decide +kernel
theorem dX9_sumOfLengths_16 : decode cX9_sumOfLengths 16 = .ok (.getfield 31, 3) := by decide +kernel
theorem dX9_sumOfLengths_19 : decode cX9_sumOfLengths 19 = .ok (.if_icmp .ge 18, 3) := by decide +kernel
theorem dX9_sumOfLengths_22 : decode cX9_sumOfLengths 22 = .ok (.iload_n 1, 1) := by decide +kernel
theorem dX9_sumOfLengths_23 : decode cX9_sumOfLengths 23 = .ok (.aload_n 0, 1) := by decide +kernel
theorem dX9_sumOfLengths_24 : decode cX9_sumOfLengths 24 = .ok (.iload_n 3, 1) := by decide +kernel
theorem dX9_sumOfLengths_25 : decode cX9_sumOfLengths 25 = .ok (.iload_n 2, 1) := by decide +kernel
theorem dX9_sumOfLengths_26 : decode cX9_sumOfLengths 26 = .ok (.invokestatic 34, 3) := by decide +kernel
theorem dX9_sumOfLengths_29 : decode cX9_sumOfLengths 29 = .ok (.iadd, 1) := by decide +kernel
theorem dX9_sumOfLengths_30 : decode cX9_sumOfLengths 30 = .ok (.istore_n 1, 1) := by decide +kernel
theorem dX9_sumOfLengths_31 : decode cX9_sumOfLengths 31 = .ok (.iinc 3 1, 3) := by decide +kernel
theorem dX9_sumOfLengths_34 : decode cX9_sumOfLengths 34 = .ok (.goto (-20), 3) := by decide +kernel
theorem dX9_sumOfLengths_37 : decode cX9_sumOfLengths 37 = .ok (.iinc 2 1, 3) := by decide +kernel
theorem dX9_sumOfLengths_40 : decode cX9_sumOfLengths 40 = .ok (.goto (-36), 3) := by decide +kernel
theorem dX9_sumOfLengths_43 : decode cX9_sumOfLengths 43 = .ok (.iload_n 1, 1) := by decide +kernel
theorem dX9_sumOfLengths_44 : decode cX9_sumOfLengths 44 = .ok (.ireturn, 1) := by decide +kernel
theorem dX9_sumOfCell_0 : decode cX9_sumOfCell 0 = .ok (.iconst 0, 1) := by decide +kernel
theorem dX9_sumOfCell_1 : decode cX9_sumOfCell 1 = .ok (.istore_n 3, 1) := by decide +kernel
theorem dX9_sumOfCell_2 : decode cX9_sumOfCell 2 = .ok (.aload_n 0, 1) := by decide +kernel
theorem dX9_sumOfCell_3 : decode cX9_sumOfCell 3 = .ok (.iload_n 1, 1) := by decide +kernel
theorem dX9_sumOfCell_4 : decode cX9_sumOfCell 4 = .ok (.iload_n 2, 1) := by decide +kernel
theorem dX9_sumOfCell_5 : decode cX9_sumOfCell 5 = .ok (.invokevirtual 7, 3) := by decide +kernel
theorem dX9_sumOfCell_8 : decode cX9_sumOfCell 8 = .ok (.istore 4, 2) := by decide +kernel
theorem dX9_sumOfCell_10 : decode cX9_sumOfCell 10 = .ok (.iload 4, 2) := by decide +kernel
theorem dX9_sumOfCell_12 : decode cX9_sumOfCell 12 = .ok (.aload_n 0, 1) := by decide +kernel
theorem dX9_sumOfCell_13 : decode cX9_sumOfCell 13 = .ok (.iload_n 1, 1) := by decide +kernel
theorem dX9_sumOfCell_14 : decode cX9_sumOfCell 14 = .ok (.iload_n 2, 1) := by decide +kernel
theorem dX9_sumOfCell_15 : decode cX9_sumOfCell 15 = .ok (.invokestatic 22, 3) := by decide +kernel
theorem dX9_sumOfCell_18 : decode cX9_sumOfCell 18 = .ok (.isub, 1) := by decide +kernel
theorem dX9_sumOfCell_19 : decode cX9_sumOfCell 19 = .ok (.iconst 1, 1) := by decide +kernel
theorem dX9_sumOfCell_20 : decode cX9_sumOfCell 20 = .ok (.iadd, 1) := by decide +kernel
theorem dX9_sumOfCell_21 : decode cX9_sumOfCell 21 = .ok (.istore 5, 2) := by decide +kernel
theorem dX9_sumOfCell_23 : decode cX9_sumOfCell 23 = .ok (.iload 5, 2) := by decide +kernel
theorem dX9_sumOfCell_25 : decode cX9_sumOfCell 25 = .ok (.iload 4, 2) := by decide +kernel
theorem dX9_sumOfCell_27 : decode cX9_sumOfCell 27 = .ok (.if_icmp .gt 20, 3) := by decide +kernel
theorem dX9_sumOfCell_30 : decode cX9_sumOfCell 30 = .ok (.iload_n 3, 1) := by decide +kernel
theorem dX9_sumOfCell_31 : decode cX9_sumOfCell 31 = .ok (.aload_n 0, 1) := by decide +kernel
theorem dX9_sumOfCell_32 : decode cX9_sumOfCell 32 = .ok (.iload_n 1, 1) := by decide +kernel
theorem dX9_sumOfCell_33 : decode cX9_sumOfCell 33 = .ok (.iload_n 2, 1) := by decide +kernel
theorem dX9_sumOfCell_34 : decode cX9_sumOfCell 34 = .ok (.iload 5, 2) := by decide +kernel
theorem dX9_sumOfCell_36 : decode cX9_sumOfCell 36 = .ok (.invokestatic 37, 3) := by decide +kernel
theorem dX9_sumOfCell_39 : decode cX9_sumOfCell 39 = .ok (.iadd, 1) := by decide +kernel
theorem dX9_sumOfCell_40 : decode cX9_sumOfCell 40 = .ok (.istore_n 3, 1) := by decide +kernel
theorem dX9_sumOfCell_41 : decode cX9_sumOfCell 41 = .ok (.iinc 5 1, 3) := by decide +kernel
theorem dX9_sumOfCell_44 : decode cX9_sumOfCell 44 = .ok (.goto (-21), 3) := by decide +kernel
theorem dX9_sumOfCell_47 : decode cX9_sumOfCell 47 = .ok (.iload_n 3, 1) := by decide +kernel
theorem dX9_sumOfCell_48 : decode cX9_sumOfCell 48 = .ok (.ireturn, 1) := by decide +kernel
theorem dX9_settle_0 : decode cX9_settle 0 = .ok (.iconst 0, 1) := by decide +kernel
theorem dX9_settle_1 : decode cX9_settle 1 = .ok (.istore_n 1, 1) := by decide +kernel
theorem dX9_settle_2 : decode cX9_settle 2 = .ok (.iconst 1, 1) := by decide +kernel
theorem dX9_settle_3 : decode cX9_settle 3 = .ok (.istore_n 2, 1) := by decide +kernel
theorem dX9_settle_4 : decode cX9_settle 4 = .ok (.iload_n 2, 1) := by decide +kernel
theorem dX9_settle_5 : decode cX9_settle 5 = .ok (.aload_n 0, 1) := by decide +kernel
theorem dX9_settle_6 : decode cX9_settle 6 = .ok (.getfield 28, 3) := by decide +kernel
theorem dX9_settle_9 : decode cX9_settle 9 = .ok (.if_icmp .ge 47, 3) := by decide +kernel
theorem dX9_settle_12 : decode cX9_settle 12 = .ok (.iconst 0, 1) := by decide +kernel
theorem dX9_settle_13 : decode cX9_settle 13 = .ok (.istore_n 3, 1) := by decide +kernel
theorem dX9_settle_14 : decode cX9_settle 14 = .ok (.iload_n 3, 1) := by decide +kernel
theorem dX9_settle_15 : decode cX9_settle 15 = .ok (.aload_n 0, 1) := by decide +kernel
theorem dX9_settle_16 : decode cX9_settle 16 = .ok (.getfield 31, 3) := by decide +kernel
theorem dX9_settle_19 : decode cX9_settle 19 = .ok (.if_icmp .ge 31, 3) := by decide +kernel
theorem dX9_settle_22 : decode cX9_settle 22 = .ok (.iload_n 1, 1) := by decide +kernel
theorem dX9_settle_23 : decode cX9_settle 23 = .ok (.aload_n 0, 1) := by decide +kernel
theorem dX9_settle_24 : decode cX9_settle 24 = .ok (.iload_n 3, 1) := by decide +kernel
theorem dX9_settle_25 : decode cX9_settle 25 = .ok (.iload_n 2, 1) := by decide +kernel
theorem dX9_settle_26 : decode cX9_settle 26 = .ok (.aload_n 0, 1) := by decide +kernel
theorem dX9_settle_27 : decode cX9_settle 27 = .ok (.iload_n 3, 1) := by decide +kernel
theorem dX9_settle_28 : decode cX9_settle 28 = .ok (.iload_n 2, 1) := by decide +kernel
theorem dX9_settle_29 : decode cX9_settle 29 = .ok (.invokevirtual 7, 3) := by decide +kernel
theorem dX9_settle_32 : decode cX9_settle 32 = .ok (.aload_n 0, 1) := by decide +kernel
theorem dX9_settle_33 : decode cX9_settle 33 = .ok (.iload_n 3, 1) := by decide +kernel
theorem dX9_settle_34 : decode cX9_settle 34 = .ok (.iload_n 2, 1) := by decide +kernel
theorem dX9_settle_35 : decode cX9_settle 35 = .ok (.invokestatic 22, 3) := by decide +kernel
theorem dX9_settle_38 : decode cX9_settle 38 = .ok (.isub, 1) := by decide +kernel
theorem dX9_settle_39 : decode cX9_settle 39 = .ok (.invokevirtual 41, 3) := by decide +kernel
theorem dX9_settle_42 : decode cX9_settle 42 = .ok (.iadd, 1) := by decide +kernel
theorem dX9_settle_43 : decode cX9_settle 43 = .ok (.istore_n 1, 1) := by decide +kernel
theorem dX9_settle_44 : decode cX9_settle 44 = .ok (.iinc 3 1, 3) := by decide +kernel
theorem dX9_settle_47 : decode cX9_settle 47 = .ok (.goto (-33), 3) := by decide +kernel
theorem dX9_settle_50 : decode cX9_settle 50 = .ok (.iinc 2 1, 3) := by decide +kernel
theorem dX9_settle_53 : decode cX9_settle 53 = .ok (.goto (-49), 3) := by decide +kernel
theorem dX9_settle_56 : decode cX9_settle 56 = .ok (.iload_n 1, 1) := by decide +kernel
theorem dX9_settle_57 : decode cX9_settle 57 = .ok (.ireturn, 1) := by decide +kernel
theorem dX9_leastSlope_0 : decode cX9_leastSlope 0 = .ok (.iconst 0, 1) := by decide +kernel
theorem dX9_leastSlope_1 : decode cX9_leastSlope 1 = .ok (.istore_n 1, 1) := by decide +kernel
theorem dX9_leastSlope_2 : decode cX9_leastSlope 2 = .ok (.iconst 1, 1) := by decide +kernel
theorem dX9_leastSlope_3 : decode cX9_leastSlope 3 = .ok (.istore_n 2, 1) := by decide +kernel
theorem dX9_leastSlope_4 : decode cX9_leastSlope 4 = .ok (.iload_n 2, 1) := by decide +kernel
theorem dX9_leastSlope_5 : decode cX9_leastSlope 5 = .ok (.aload_n 0, 1) := by decide +kernel
theorem dX9_leastSlope_6 : decode cX9_leastSlope 6 = .ok (.getfield 28, 3) := by decide +kernel
theorem dX9_leastSlope_9 : decode cX9_leastSlope 9 = .ok (.if_icmp .ge 45, 3) := by decide +kernel
theorem dX9_leastSlope_12 : decode cX9_leastSlope 12 = .ok (.iconst 0, 1) := by decide +kernel
theorem dX9_leastSlope_13 : decode cX9_leastSlope 13 = .ok (.istore_n 3, 1) := by decide +kernel
theorem dX9_leastSlope_14 : decode cX9_leastSlope 14 = .ok (.iload_n 3, 1) := by decide +kernel
theorem dX9_leastSlope_15 : decode cX9_leastSlope 15 = .ok (.aload_n 0, 1) := by decide +kernel
theorem dX9_leastSlope_16 : decode cX9_leastSlope 16 = .ok (.getfield 31, 3) := by decide +kernel
theorem dX9_leastSlope_19 : decode cX9_leastSlope 19 = .ok (.if_icmp .ge 29, 3) := by decide +kernel
theorem dX9_leastSlope_22 : decode cX9_leastSlope 22 = .ok (.iload_n 1, 1) := by decide +kernel
theorem dX9_leastSlope_23 : decode cX9_leastSlope 23 = .ok (.aload_n 0, 1) := by decide +kernel
theorem dX9_leastSlope_24 : decode cX9_leastSlope 24 = .ok (.iload_n 3, 1) := by decide +kernel
theorem dX9_leastSlope_25 : decode cX9_leastSlope 25 = .ok (.iload_n 2, 1) := by decide +kernel
theorem dX9_leastSlope_26 : decode cX9_leastSlope 26 = .ok (.invokevirtual 7, 3) := by decide +kernel
theorem dX9_leastSlope_29 : decode cX9_leastSlope 29 = .ok (.aload_n 0, 1) := by decide +kernel
theorem dX9_leastSlope_30 : decode cX9_leastSlope 30 = .ok (.iload_n 3, 1) := by decide +kernel
theorem dX9_leastSlope_31 : decode cX9_leastSlope 31 = .ok (.iload_n 2, 1) := by decide +kernel
theorem dX9_leastSlope_32 : decode cX9_leastSlope 32 = .ok (.iconst 1, 1) := by decide +kernel
theorem dX9_leastSlope_33 : decode cX9_leastSlope 33 = .ok (.isub, 1) := by decide +kernel
theorem dX9_leastSlope_34 : decode cX9_leastSlope 34 = .ok (.invokevirtual 7, 3) := by decide +kernel
theorem dX9_leastSlope_37 : decode cX9_leastSlope 37 = .ok (.isub, 1) := by decide +kernel
theorem dX9_leastSlope_38 : decode cX9_leastSlope 38 = .ok (.invokestatic 17, 3) := by decide +kernel
theorem dX9_leastSlope_41 : decode cX9_leastSlope 41 = .ok (.istore_n 1, 1) := by decide +kernel
theorem dX9_leastSlope_42 : decode cX9_leastSlope 42 = .ok (.iinc 3 1, 3) := by decide +kernel
theorem dX9_leastSlope_45 : decode cX9_leastSlope 45 = .ok (.goto (-31), 3) := by decide +kernel
theorem dX9_leastSlope_48 : decode cX9_leastSlope 48 = .ok (.iinc 2 1, 3) := by decide +kernel
theorem dX9_leastSlope_51 : decode cX9_leastSlope 51 = .ok (.goto (-47), 3) := by decide +kernel
theorem dX9_leastSlope_54 : decode cX9_leastSlope 54 = .ok (.iload_n 1, 1) := by decide +kernel
theorem dX9_leastSlope_55 : decode cX9_leastSlope 55 = .ok (.ireturn, 1) := by decide +kernel
theorem dX10_init_0 : decode cX10_init 0 = .ok (.aload_n 0, 1) := by decide +kernel
theorem dX10_init_1 : decode cX10_init 1 = .ok (.invokespecial 3, 3) := by decide +kernel
theorem dX10_init_4 : decode cX10_init 4 = .ok (.aload_n 0, 1) := by decide +kernel
theorem dX10_init_5 : decode cX10_init 5 = .ok (.sipush 900, 3) := by decide +kernel
theorem dX10_init_8 : decode cX10_init 8 = .ok (.newarray .byte, 2) := by decide +kernel
theorem dX10_init_10 : decode cX10_init 10 = .ok (.putfield 11, 3) := by decide +kernel
theorem dX10_init_13 : decode cX10_init 13 = .ok (.aload_n 0, 1) := by decide +kernel
theorem dX10_init_14 : decode cX10_init 14 = .ok (.sipush 900, 3) := by decide +kernel
theorem dX10_init_17 : decode cX10_init 17 = .ok (.newarray .int, 2) := by decide +kernel
theorem dX10_init_19 : decode cX10_init 19 = .ok (.putfield 15, 3) := by decide +kernel
theorem dX10_init_22 : decode cX10_init 22 = .ok (.aload_n 0, 1) := by decide +kernel
theorem dX10_init_23 : decode cX10_init 23 = .ok (.sipush 900, 3) := by decide +kernel
theorem dX10_init_26 : decode cX10_init 26 = .ok (.newarray .int, 2) := by decide +kernel
theorem dX10_init_28 : decode cX10_init 28 = .ok (.putfield 19, 3) := by decide +kernel
theorem dX10_init_31 : decode cX10_init 31 = .ok (.aload_n 0, 1) := by decide +kernel
theorem dX10_init_32 : decode cX10_init 32 = .ok (.sipush 900, 3) := by decide +kernel
theorem dX10_init_35 : decode cX10_init 35 = .ok (.newarray .int, 2) := by decide +kernel
theorem dX10_init_37 : decode cX10_init 37 = .ok (.putfield 22, 3) := by decide +kernel
theorem dX10_init_40 : decode cX10_init 40 = .ok (.return_, 1) := by decide +kernel
theorem dX10_hasRoomFor_0 : decode cX10_hasRoomFor 0 = .ok (.aload_n 0, 1) := by decide +kernel
theorem dX10_hasRoomFor_1 : decode cX10_hasRoomFor 1 = .ok (.getfield 25, 3) := by decide +kernel
theorem dX10_hasRoomFor_4 : decode cX10_hasRoomFor 4 = .ok (.iload_n 1, 1) := by decide +kernel
theorem dX10_hasRoomFor_5 : decode cX10_hasRoomFor 5 = .ok (.iadd, 1) := by decide +kernel
theorem dX10_hasRoomFor_6 : decode cX10_hasRoomFor 6 = .ok (.sipush 900, 3) := by decide +kernel
theorem dX10_hasRoomFor_9 : decode cX10_hasRoomFor 9 = .ok (.if_icmp .gt 7, 3) := by decide +kernel
theorem dX10_hasRoomFor_12 : decode cX10_hasRoomFor 12 = .ok (.iconst 1, 1) := by decide +kernel
theorem dX10_hasRoomFor_13 : decode cX10_hasRoomFor 13 = .ok (.goto 4, 3) := by decide +kernel
theorem dX10_hasRoomFor_16 : decode cX10_hasRoomFor 16 = .ok (.iconst 0, 1) := by decide +kernel
theorem dX10_hasRoomFor_17 : decode cX10_hasRoomFor 17 = .ok (.ireturn, 1) := by decide +kernel
theorem dX10_append_0 : decode cX10_append 0 = .ok (.aload_n 0, 1) := by decide +kernel
theorem dX10_append_1 : decode cX10_append 1 = .ok (.iload_n 1, 1) := by decide +kernel
theorem dX10_append_2 : decode cX10_append 2 = .ok (.bipush 24, 2) := by decide +kernel
theorem dX10_append_4 : decode cX10_append 4 = .ok (.iushr, 1) := by decide +kernel
theorem dX10_append_5 : decode cX10_append 5 = .ok (.invokevirtual 29, 3) := by decide +kernel
theorem dX10_append_8 : decode cX10_append 8 = .ok (.aload_n 0, 1) := by decide +kernel
theorem dX10_append_9 : decode cX10_append 9 = .ok (.iload_n 1, 1) := by decide +kernel
theorem dX10_append_10 : decode cX10_append 10 = .ok (.bipush 16, 2) := by decide +kernel
theorem dX10_append_12 : decode cX10_append 12 = .ok (.iushr, 1) := by decide +kernel
theorem dX10_append_13 : decode cX10_append 13 = .ok (.invokevirtual 29, 3) := by decide +kernel
theorem dX10_append_16 : decode cX10_append 16 = .ok (.aload_n 0, 1) := by decide +kernel
theorem dX10_append_17 : decode cX10_append 17 = .ok (.iload_n 1, 1) := by decide +kernel
theorem dX10_append_18 : decode cX10_append 18 = .ok (.bipush 8, 2) := by decide +kernel
theorem dX10_append_20 : decode cX10_append 20 = .ok (.iushr, 1) := by decide +kernel
theorem dX10_append_21 : decode cX10_append 21 = .ok (.invokevirtual 29, 3) := by decide +kernel
theorem dX10_append_24 : decode cX10_append 24 = .ok (.aload_n 0, 1) := by decide +kernel
theorem dX10_append_25 : decode cX10_append 25 = .ok (.iload_n 1, 1) := by decide +kernel
theorem dX10_append_26 : decode cX10_append 26 = .ok (.invokevirtual 29, 3) := by decide +kernel
theorem dX10_append_29 : decode cX10_append 29 = .ok (.return_, 1) := by decide +kernel
theorem dX10_appendByte_0 : decode cX10_appendByte 0 = .ok (.aload_n 0, 1) := by decide +kernel
theorem dX10_appendByte_1 : decode cX10_appendByte 1 = .ok (.getfield 25, 3) := by decide +kernel
theorem dX10_appendByte_4 : decode cX10_appendByte 4 = .ok (.ifCond .lt 34, 3) := by decide +kernel
theorem dX10_appendByte_7 : decode cX10_appendByte 7 = .ok (.aload_n 0, 1) := by decide +kernel
theorem dX10_appendByte_8 : decode cX10_appendByte 8 = .ok (.getfield 25, 3) := by decide +kernel
theorem dX10_appendByte_11 : decode cX10_appendByte 11 = .ok (.sipush 900, 3) := by decide +kernel
theorem dX10_appendByte_14 : decode cX10_appendByte 14 = .ok (.if_icmp .ge 24, 3) := by decide +kernel
theorem dX10_appendByte_17 : decode cX10_appendByte 17 = .ok (.aload_n 0, 1) := by decide +kernel
theorem dX10_appendByte_18 : decode cX10_appendByte 18 = .ok (.getfield 11, 3) := by decide +kernel
theorem dX10_appendByte_21 : decode cX10_appendByte 21 = .ok (.aload_n 0, 1) := by decide +kernel
theorem dX10_appendByte_22 : decode cX10_appendByte 22 = .ok (.getfield 25, 3) := by decide +kernel
theorem dX10_appendByte_25 : decode cX10_appendByte 25 = .ok (.iload_n 1, 1) := by decide +kernel
theorem dX10_appendByte_26 : decode cX10_appendByte 26 = .ok (.i2b, 1) := by decide +kernel
theorem dX10_appendByte_27 : decode cX10_appendByte 27 = .ok (.bastore, 1) := by decide +kernel
theorem dX10_appendByte_28 : decode cX10_appendByte 28 = .ok (.aload_n 0, 1) := by decide +kernel
theorem dX10_appendByte_29 : decode cX10_appendByte 29 = .ok (.dup, 1) := by decide +kernel
theorem dX10_appendByte_30 : decode cX10_appendByte 30 = .ok (.getfield 25, 3) := by decide +kernel
theorem dX10_appendByte_33 : decode cX10_appendByte 33 = .ok (.iconst 1, 1) := by decide +kernel
theorem dX10_appendByte_34 : decode cX10_appendByte 34 = .ok (.iadd, 1) := by decide +kernel
theorem dX10_appendByte_35 : decode cX10_appendByte 35 = .ok (.putfield 25, 3) := by decide +kernel
theorem dX10_appendByte_38 : decode cX10_appendByte 38 = .ok (.return_, 1) := by decide +kernel
theorem dX10_byteAt_0 : decode cX10_byteAt 0 = .ok (.iload_n 1, 1) := by decide +kernel
theorem dX10_byteAt_1 : decode cX10_byteAt 1 = .ok (.ifCond .lt 27, 3) := by decide +kernel
theorem dX10_byteAt_4 : decode cX10_byteAt 4 = .ok (.iload_n 1, 1) := by decide +kernel
theorem dX10_byteAt_5 : decode cX10_byteAt 5 = .ok (.aload_n 0, 1) := by decide +kernel
theorem dX10_byteAt_6 : decode cX10_byteAt 6 = .ok (.getfield 25, 3) := by decide +kernel
theorem dX10_byteAt_9 : decode cX10_byteAt 9 = .ok (.if_icmp .ge 19, 3) := by decide +kernel
theorem dX10_byteAt_12 : decode cX10_byteAt 12 = .ok (.iload_n 1, 1) := by decide +kernel
theorem dX10_byteAt_13 : decode cX10_byteAt 13 = .ok (.sipush 900, 3) := by decide +kernel
theorem dX10_byteAt_16 : decode cX10_byteAt 16 = .ok (.if_icmp .ge 12, 3) := by decide +kernel
theorem dX10_byteAt_19 : decode cX10_byteAt 19 = .ok (.aload_n 0, 1) := by decide +kernel
theorem dX10_byteAt_20 : decode cX10_byteAt 20 = .ok (.getfield 11, 3) := by decide +kernel
theorem dX10_byteAt_23 : decode cX10_byteAt 23 = .ok (.iload_n 1, 1) := by decide +kernel
theorem dX10_byteAt_24 : decode cX10_byteAt 24 = .ok (.baload, 1) := by decide +kernel
theorem dX10_byteAt_25 : decode cX10_byteAt 25 = .ok (.goto 4, 3) := by decide +kernel
theorem dX10_byteAt_28 : decode cX10_byteAt 28 = .ok (.iconst (-1), 1) := by decide +kernel
theorem dX10_byteAt_29 : decode cX10_byteAt 29 = .ok (.ireturn, 1) := by decide +kernel
theorem dX10_begin_0 : decode cX10_begin 0 = .ok (.aload_n 0, 1) := by decide +kernel
theorem dX10_begin_1 : decode cX10_begin 1 = .ok (.iconst 0, 1) := by decide +kernel
theorem dX10_begin_2 : decode cX10_begin 2 = .ok (.putfield 33, 3) := by decide +kernel
theorem dX10_begin_5 : decode cX10_begin 5 = .ok (.aload_n 0, 1) := by decide +kernel
theorem dX10_begin_6 : decode cX10_begin 6 = .ok (.iconst 0, 1) := by decide +kernel
theorem dX10_begin_7 : decode cX10_begin 7 = .ok (.putfield 36, 3) := by decide +kernel
theorem dX10_begin_10 : decode cX10_begin 10 = .ok (.iconst 4, 1) := by decide +kernel
theorem dX10_begin_11 : decode cX10_begin 11 = .ok (.istore_n 1, 1) := by decide +kernel
theorem dX10_begin_12 : decode cX10_begin 12 = .ok (.iconst 0, 1) := by decide +kernel
theorem dX10_begin_13 : decode cX10_begin 13 = .ok (.istore_n 2, 1) := by decide +kernel
theorem dX10_begin_14 : decode cX10_begin 14 = .ok (.iload_n 2, 1) := by decide +kernel
theorem dX10_begin_15 : decode cX10_begin 15 = .ok (.aload_n 0, 1) := by decide +kernel
theorem dX10_begin_16 : decode cX10_begin 16 = .ok (.getfield 25, 3) := by decide +kernel
theorem dX10_begin_19 : decode cX10_begin 19 = .ok (.if_icmp .ge 53, 3) := by decide +kernel
theorem dX10_begin_22 : decode cX10_begin 22 = .ok (.aload_n 0, 1) := by decide +kernel
theorem dX10_begin_23 : decode cX10_begin 23 = .ok (.iload_n 2, 1) := by decide +kernel
theorem dX10_begin_24 : decode cX10_begin 24 = .ok (.invokevirtual 39, 3) := by decide +kernel
theorem dX10_begin_27 : decode cX10_begin 27 = .ok (.invokestatic 43, 3) := by decide +kernel
theorem dX10_begin_30 : decode cX10_begin 30 = .ok (.istore_n 3, 1) := by decide +kernel
theorem dX10_begin_31 : decode cX10_begin 31 = .ok (.iload_n 3, 1) := by decide +kernel
theorem dX10_begin_32 : decode cX10_begin 32 = .ok (.iload_n 1, 1) := by decide +kernel
theorem dX10_begin_33 : decode cX10_begin 33 = .ok (.if_icmp .ne 20, 3) := by decide +kernel
theorem dX10_begin_36 : decode cX10_begin 36 = .ok (.iload_n 3, 1) := by decide +kernel
theorem dX10_begin_37 : decode cX10_begin 37 = .ok (.iconst 1, 1) := by decide +kernel
theorem dX10_begin_38 : decode cX10_begin 38 = .ok (.if_icmp .eq 8, 3) := by decide +kernel
theorem dX10_begin_41 : decode cX10_begin 41 = .ok (.iload_n 3, 1) := by decide +kernel
theorem dX10_begin_42 : decode cX10_begin 42 = .ok (.iconst 2, 1) := by decide +kernel
theorem dX10_begin_43 : decode cX10_begin 43 = .ok (.if_icmp .ne 10, 3) := by decide +kernel
theorem dX10_begin_46 : decode cX10_begin 46 = .ok (.aload_n 0, 1) := by decide +kernel
theorem dX10_begin_47 : decode cX10_begin 47 = .ok (.invokevirtual 46, 3) := by decide +kernel
theorem dX10_begin_50 : decode cX10_begin 50 = .ok (.goto 14, 3) := by decide +kernel
theorem dX10_begin_53 : decode cX10_begin 53 = .ok (.iload_n 3, 1) := by decide +kernel
theorem dX10_begin_54 : decode cX10_begin 54 = .ok (.iconst 4, 1) := by decide +kernel
theorem dX10_begin_55 : decode cX10_begin 55 = .ok (.if_icmp .eq 9, 3) := by decide +kernel
theorem dX10_begin_58 : decode cX10_begin 58 = .ok (.aload_n 0, 1) := by decide +kernel
theorem dX10_begin_59 : decode cX10_begin 59 = .ok (.iload_n 2, 1) := by decide +kernel
theorem dX10_begin_60 : decode cX10_begin 60 = .ok (.iload_n 3, 1) := by decide +kernel
theorem dX10_begin_61 : decode cX10_begin 61 = .ok (.invokevirtual 49, 3) := by decide +kernel
theorem dX10_begin_64 : decode cX10_begin 64 = .ok (.iload_n 3, 1) := by decide +kernel
theorem dX10_begin_65 : decode cX10_begin 65 = .ok (.istore_n 1, 1) := by decide +kernel
theorem dX10_begin_66 : decode cX10_begin 66 = .ok (.iinc 2 1, 3) := by decide +kernel
theorem dX10_begin_69 : decode cX10_begin 69 = .ok (.goto (-55), 3) := by decide +kernel
theorem dX10_begin_72 : decode cX10_begin 72 = .ok (.aload_n 0, 1) := by decide +kernel
theorem dX10_begin_73 : decode cX10_begin 73 = .ok (.iconst (-1), 1) := by decide +kernel
theorem dX10_begin_74 : decode cX10_begin 74 = .ok (.putfield 53, 3) := by decide +kernel
theorem dX10_begin_77 : decode cX10_begin 77 = .ok (.aload_n 0, 1) := by decide +kernel
theorem dX10_begin_78 : decode cX10_begin 78 = .ok (.invokevirtual 56, 3) := by decide +kernel
theorem dX10_begin_81 : decode cX10_begin 81 = .ok (.return_, 1) := by decide +kernel
theorem dX10_kindOf_0 : decode cX10_kindOf 0 = .ok (.iload_n 0, 1) := by decide +kernel
theorem dX10_kindOf_1 : decode cX10_kindOf 1 = .ok (.bipush 32, 2) := by decide +kernel
theorem dX10_kindOf_3 : decode cX10_kindOf 3 = .ok (.if_icmp .eq 9, 3) := by decide +kernel
theorem dX10_kindOf_6 : decode cX10_kindOf 6 = .ok (.iload_n 0, 1) := by decide +kernel
theorem dX10_kindOf_7 : decode cX10_kindOf 7 = .ok (.bipush 10, 2) := by decide +kernel
theorem dX10_kindOf_9 : decode cX10_kindOf 9 = .ok (.if_icmp .ne 5, 3) := by decide +kernel
theorem dX10_kindOf_12 : decode cX10_kindOf 12 = .ok (.iconst 4, 1) := by decide +kernel
theorem dX10_kindOf_13 : decode cX10_kindOf 13 = .ok (.ireturn, 1) := by decide +kernel
theorem dX10_kindOf_14 : decode cX10_kindOf 14 = .ok (.iload_n 0, 1) := by decide +kernel
theorem dX10_kindOf_15 : decode cX10_kindOf 15 = .ok (.bipush 97, 2) := by decide +kernel
theorem dX10_kindOf_17 : decode cX10_kindOf 17 = .ok (.if_icmp .lt 11, 3) := by decide +kernel
theorem dX10_kindOf_20 : decode cX10_kindOf 20 = .ok (.iload_n 0, 1) := by decide +kernel
theorem dX10_kindOf_21 : decode cX10_kindOf 21 = .ok (.bipush 122, 2) := by decide +kernel
theorem dX10_kindOf_23 : decode cX10_kindOf 23 = .ok (.if_icmp .gt 5, 3) := by decide +kernel
theorem dX10_kindOf_26 : decode cX10_kindOf 26 = .ok (.iconst 1, 1) := by decide +kernel
theorem dX10_kindOf_27 : decode cX10_kindOf 27 = .ok (.ireturn, 1) := by decide +kernel
theorem dX10_kindOf_28 : decode cX10_kindOf 28 = .ok (.iload_n 0, 1) := by decide +kernel
theorem dX10_kindOf_29 : decode cX10_kindOf 29 = .ok (.bipush 48, 2) := by decide +kernel
theorem dX10_kindOf_31 : decode cX10_kindOf 31 = .ok (.if_icmp .lt 11, 3) := by decide +kernel
theorem dX10_kindOf_34 : decode cX10_kindOf 34 = .ok (.iload_n 0, 1) := by decide +kernel
theorem dX10_kindOf_35 : decode cX10_kindOf 35 = .ok (.bipush 57, 2) := by decide +kernel
theorem dX10_kindOf_37 : decode cX10_kindOf 37 = .ok (.if_icmp .gt 5, 3) := by decide +kernel
theorem dX10_kindOf_40 : decode cX10_kindOf 40 = .ok (.iconst 2, 1) := by decide +kernel
theorem dX10_kindOf_41 : decode cX10_kindOf 41 = .ok (.ireturn, 1) := by decide +kernel
theorem dX10_kindOf_42 : decode cX10_kindOf 42 = .ok (.iload_n 0, 1) := by decide +kernel
theorem dX10_kindOf_43 : decode cX10_kindOf 43 = .ok (.bipush 59, 2) := by decide +kernel
theorem dX10_kindOf_45 : decode cX10_kindOf 45 = .ok (.if_icmp .eq 15, 3) := by decide +kernel
theorem dX10_kindOf_48 : decode cX10_kindOf 48 = .ok (.iload_n 0, 1) := by decide +kernel
theorem dX10_kindOf_49 : decode cX10_kindOf 49 = .ok (.bipush 40, 2) := by decide +kernel
theorem dX10_kindOf_51 : decode cX10_kindOf 51 = .ok (.if_icmp .eq 9, 3) := by decide +kernel
theorem dX10_kindOf_54 : decode cX10_kindOf 54 = .ok (.iload_n 0, 1) := by decide +kernel
theorem dX10_kindOf_55 : decode cX10_kindOf 55 = .ok (.bipush 41, 2) := by decide +kernel
theorem dX10_kindOf_57 : decode cX10_kindOf 57 = .ok (.if_icmp .ne 7, 3) := by decide +kernel
theorem dX10_kindOf_60 : decode cX10_kindOf 60 = .ok (.iconst 3, 1) := by decide +kernel
theorem dX10_kindOf_61 : decode cX10_kindOf 61 = .ok (.goto 4, 3) := by decide +kernel
theorem dX10_kindOf_64 : decode cX10_kindOf 64 = .ok (.iconst 5, 1) := by decide +kernel
theorem dX10_kindOf_65 : decode cX10_kindOf 65 = .ok (.ireturn, 1) := by decide +kernel
theorem dX10_addToken_0 : decode cX10_addToken 0 = .ok (.aload_n 0, 1) := by decide +kernel
theorem dX10_addToken_1 : decode cX10_addToken 1 = .ok (.getfield 36, 3) := by decide +kernel
theorem dX10_addToken_4 : decode cX10_addToken 4 = .ok (.ifCond .lt 55, 3) := by decide +kernel
theorem dX10_addToken_7 : decode cX10_addToken 7 = .ok (.aload_n 0, 1) := by decide +kernel
theorem dX10_addToken_8 : decode cX10_addToken 8 = .ok (.getfield 36, 3) := by decide +kernel
theorem dX10_addToken_11 : decode cX10_addToken 11 = .ok (.aload_n 0, 1) := by decide +kernel
theorem dX10_addToken_12 : decode cX10_addToken 12 = .ok (.getfield 22, 3) := by decide +kernel
theorem dX10_addToken_15 : decode cX10_addToken 15 = .ok (.arraylength, 1) := by decide +kernel
theorem dX10_addToken_16 : decode cX10_addToken 16 = .ok (.if_icmp .ge 43, 3) := by decide +kernel
theorem dX10_addToken_19 : decode cX10_addToken 19 = .ok (.aload_n 0, 1) := by decide +kernel
theorem dX10_addToken_20 : decode cX10_addToken 20 = .ok (.getfield 15, 3) := by decide +kernel
theorem dX10_addToken_23 : decode cX10_addToken 23 = .ok (.aload_n 0, 1) := by decide +kernel
theorem dX10_addToken_24 : decode cX10_addToken 24 = .ok (.getfield 36, 3) := by decide +kernel
theorem dX10_addToken_27 : decode cX10_addToken 27 = .ok (.iload_n 1, 1) := by decide +kernel
theorem dX10_addToken_28 : decode cX10_addToken 28 = .ok (.iastore, 1) := by decide +kernel
theorem dX10_addToken_29 : decode cX10_addToken 29 = .ok (.aload_n 0, 1) := by decide +kernel
theorem dX10_addToken_30 : decode cX10_addToken 30 = .ok (.getfield 19, 3) := by decide +kernel
theorem dX10_addToken_33 : decode cX10_addToken 33 = .ok (.aload_n 0, 1) := by decide +kernel
theorem dX10_addToken_34 : decode cX10_addToken 34 = .ok (.getfield 36, 3) := by decide +kernel
theorem dX10_addToken_37 : decode cX10_addToken 37 = .ok (.iconst 1, 1) := by decide +kernel
theorem dX10_addToken_38 : decode cX10_addToken 38 = .ok (.iastore, 1) := by decide +kernel
theorem dX10_addToken_39 : decode cX10_addToken 39 = .ok (.aload_n 0, 1) := by decide +kernel
theorem dX10_addToken_40 : decode cX10_addToken 40 = .ok (.getfield 22, 3) := by decide +kernel
theorem dX10_addToken_43 : decode cX10_addToken 43 = .ok (.aload_n 0, 1) := by decide +kernel
theorem dX10_addToken_44 : decode cX10_addToken 44 = .ok (.getfield 36, 3) := by decide +kernel
theorem dX10_addToken_47 : decode cX10_addToken 47 = .ok (.iload_n 2, 1) := by decide +kernel
theorem dX10_addToken_48 : decode cX10_addToken 48 = .ok (.iastore, 1) := by decide +kernel
theorem dX10_addToken_49 : decode cX10_addToken 49 = .ok (.aload_n 0, 1) := by decide +kernel
theorem dX10_addToken_50 : decode cX10_addToken 50 = .ok (.dup, 1) := by decide +kernel
theorem dX10_addToken_51 : decode cX10_addToken 51 = .ok (.getfield 36, 3) := by decide +kernel
theorem dX10_addToken_54 : decode cX10_addToken 54 = .ok (.iconst 1, 1) := by decide +kernel
theorem dX10_addToken_55 : decode cX10_addToken 55 = .ok (.iadd, 1) := by decide +kernel
theorem dX10_addToken_56 : decode cX10_addToken 56 = .ok (.putfield 36, 3) := by decide +kernel
theorem dX10_addToken_59 : decode cX10_addToken 59 = .ok (.return_, 1) := by decide +kernel
theorem dX10_lengthenToken_0 : decode cX10_lengthenToken 0 = .ok (.aload_n 0, 1) := by decide +kernel
theorem dX10_lengthenToken_1 : decode cX10_lengthenToken 1 = .ok (.getfield 36, 3) := by decide +kernel
theorem dX10_lengthenToken_4 : decode cX10_lengthenToken 4 = .ok (.iconst 1, 1) := by decide +kernel
theorem dX10_lengthenToken_5 : decode cX10_lengthenToken 5 = .ok (.isub, 1) := by decide +kernel
theorem dX10_lengthenToken_6 : decode cX10_lengthenToken 6 = .ok (.istore_n 1, 1) := by decide +kernel
theorem dX10_lengthenToken_7 : decode cX10_lengthenToken 7 = .ok (.iload_n 1, 1) := by decide +kernel
theorem dX10_lengthenToken_8 : decode cX10_lengthenToken 8 = .ok (.ifCond .lt 22, 3) := by decide +kernel
theorem dX10_lengthenToken_11 : decode cX10_lengthenToken 11 = .ok (.iload_n 1, 1) := by decide +kernel
theorem dX10_lengthenToken_12 : decode cX10_lengthenToken 12 = .ok (.aload_n 0, 1) := by decide +kernel
theorem dX10_lengthenToken_13 : decode cX10_lengthenToken 13 = .ok (.getfield 22, 3) := by decide +kernel
theorem dX10_lengthenToken_16 : decode cX10_lengthenToken 16 = .ok (.arraylength, 1) := by decide +kernel
theorem dX10_lengthenToken_17 : decode cX10_lengthenToken 17 = .ok (.if_icmp .ge 13, 3) := by decide +kernel
theorem dX10_lengthenToken_20 : decode cX10_lengthenToken 20 = .ok (.aload_n 0, 1) := by decide +kernel
theorem dX10_lengthenToken_21 : decode cX10_lengthenToken 21 = .ok (.getfield 19, 3) := by decide +kernel
theorem dX10_lengthenToken_24 : decode cX10_lengthenToken 24 = .ok (.iload_n 1, 1) := by decide +kernel
theorem dX10_lengthenToken_25 : decode cX10_lengthenToken 25 = .ok (.dup2, 1) := by decide +kernel
theorem dX10_lengthenToken_26 : decode cX10_lengthenToken 26 = .ok (.iaload, 1) := by decide +kernel
theorem dX10_lengthenToken_27 : decode cX10_lengthenToken 27 = .ok (.iconst 1, 1) := by decide +kernel
theorem dX10_lengthenToken_28 : decode cX10_lengthenToken 28 = .ok (.iadd, 1) := by decide +kernel
theorem dX10_lengthenToken_29 : decode cX10_lengthenToken 29 = .ok (.iastore, 1) := by decide +kernel
theorem dX10_lengthenToken_30 : decode cX10_lengthenToken 30 = .ok (.return_, 1) := by decide +kernel
theorem dX10_advance_0 : decode cX10_advance 0 = .ok (.aload_n 0, 1) := by decide +kernel
theorem dX10_advance_1 : decode cX10_advance 1 = .ok (.dup, 1) := by decide +kernel
theorem dX10_advance_2 : decode cX10_advance 2 = .ok (.getfield 53, 3) := by decide +kernel
theorem dX10_advance_5 : decode cX10_advance 5 = .ok (.iconst 1, 1) := by decide +kernel
theorem dX10_advance_6 : decode cX10_advance 6 = .ok (.iadd, 1) := by decide +kernel
theorem dX10_advance_7 : decode cX10_advance 7 = .ok (.putfield 53, 3) := by decide +kernel
theorem dX10_advance_10 : decode cX10_advance 10 = .ok (.aload_n 0, 1) := by decide +kernel
theorem dX10_advance_11 : decode cX10_advance 11 = .ok (.getfield 53, 3) := by decide +kernel
theorem dX10_advance_14 : decode cX10_advance 14 = .ok (.ifCond .lt 26, 3) := by decide +kernel
theorem dX10_advance_17 : decode cX10_advance 17 = .ok (.aload_n 0, 1) := by decide +kernel
theorem dX10_advance_18 : decode cX10_advance 18 = .ok (.getfield 53, 3) := by decide +kernel
theorem dX10_advance_21 : decode cX10_advance 21 = .ok (.aload_n 0, 1) := by decide +kernel
theorem dX10_advance_22 : decode cX10_advance 22 = .ok (.getfield 36, 3) := by decide +kernel
theorem dX10_advance_25 : decode cX10_advance 25 = .ok (.if_icmp .ge 15, 3) := by decide +kernel
theorem dX10_advance_28 : decode cX10_advance 28 = .ok (.aload_n 0, 1) := by decide +kernel
theorem dX10_advance_29 : decode cX10_advance 29 = .ok (.getfield 53, 3) := by decide +kernel
theorem dX10_advance_32 : decode cX10_advance 32 = .ok (.aload_n 0, 1) := by decide +kernel
theorem dX10_advance_33 : decode cX10_advance 33 = .ok (.getfield 22, 3) := by decide +kernel
theorem dX10_advance_36 : decode cX10_advance 36 = .ok (.arraylength, 1) := by decide +kernel
theorem dX10_advance_37 : decode cX10_advance 37 = .ok (.if_icmp .lt 22, 3) := by decide +kernel
theorem dX10_advance_40 : decode cX10_advance 40 = .ok (.aload_n 0, 1) := by decide +kernel
theorem dX10_advance_41 : decode cX10_advance 41 = .ok (.aload_n 0, 1) := by decide +kernel
theorem dX10_advance_42 : decode cX10_advance 42 = .ok (.getfield 25, 3) := by decide +kernel
theorem dX10_advance_45 : decode cX10_advance 45 = .ok (.putfield 59, 3) := by decide +kernel
theorem dX10_advance_48 : decode cX10_advance 48 = .ok (.aload_n 0, 1) := by decide +kernel
theorem dX10_advance_49 : decode cX10_advance 49 = .ok (.iconst 0, 1) := by decide +kernel
theorem dX10_advance_50 : decode cX10_advance 50 = .ok (.putfield 62, 3) := by decide +kernel
theorem dX10_advance_53 : decode cX10_advance 53 = .ok (.aload_n 0, 1) := by decide +kernel
theorem dX10_advance_54 : decode cX10_advance 54 = .ok (.iconst 0, 1) := by decide +kernel
theorem dX10_advance_55 : decode cX10_advance 55 = .ok (.putfield 65, 3) := by decide +kernel
theorem dX10_advance_58 : decode cX10_advance 58 = .ok (.return_, 1) := by decide +kernel
theorem dX10_advance_59 : decode cX10_advance 59 = .ok (.aload_n 0, 1) := by decide +kernel
theorem dX10_advance_60 : decode cX10_advance 60 = .ok (.aload_n 0, 1) := by decide +kernel
theorem dX10_advance_61 : decode cX10_advance 61 = .ok (.getfield 15, 3) := by decide +kernel
theorem dX10_advance_64 : decode cX10_advance 64 = .ok (.aload_n 0, 1) := by decide +kernel
theorem dX10_advance_65 : decode cX10_advance 65 = .ok (.getfield 53, 3) := by decide +kernel
theorem dX10_advance_68 : decode cX10_advance 68 = .ok (.iaload, 1) := by decide +kernel
theorem dX10_advance_69 : decode cX10_advance 69 = .ok (.putfield 59, 3) := by decide +kernel
theorem dX10_advance_72 : decode cX10_advance 72 = .ok (.aload_n 0, 1) := by decide +kernel
theorem dX10_advance_73 : decode cX10_advance 73 = .ok (.aload_n 0, 1) := by decide +kernel
theorem dX10_advance_74 : decode cX10_advance 74 = .ok (.getfield 19, 3) := by decide +kernel
theorem dX10_advance_77 : decode cX10_advance 77 = .ok (.aload_n 0, 1) := by decide +kernel
theorem dX10_advance_78 : decode cX10_advance 78 = .ok (.getfield 53, 3) := by decide +kernel
theorem dX10_advance_81 : decode cX10_advance 81 = .ok (.iaload, 1) := by decide +kernel
theorem dX10_advance_82 : decode cX10_advance 82 = .ok (.putfield 62, 3) := by decide +kernel
theorem dX10_advance_85 : decode cX10_advance 85 = .ok (.aload_n 0, 1) := by decide +kernel
theorem dX10_advance_86 : decode cX10_advance 86 = .ok (.aload_n 0, 1) := by decide +kernel
theorem dX10_advance_87 : decode cX10_advance 87 = .ok (.getfield 22, 3) := by decide +kernel
theorem dX10_advance_90 : decode cX10_advance 90 = .ok (.aload_n 0, 1) := by decide +kernel
theorem dX10_advance_91 : decode cX10_advance 91 = .ok (.getfield 53, 3) := by decide +kernel
theorem dX10_advance_94 : decode cX10_advance 94 = .ok (.iaload, 1) := by decide +kernel
theorem dX10_advance_95 : decode cX10_advance 95 = .ok (.putfield 65, 3) := by decide +kernel
theorem dX10_advance_98 : decode cX10_advance 98 = .ok (.aload_n 0, 1) := by decide +kernel
theorem dX10_advance_99 : decode cX10_advance 99 = .ok (.getfield 65, 3) := by decide +kernel
theorem dX10_advance_102 : decode cX10_advance 102 = .ok (.iconst 1, 1) := by decide +kernel
theorem dX10_advance_103 : decode cX10_advance 103 = .ok (.if_icmp .ne 12, 3) := by decide +kernel
theorem dX10_advance_106 : decode cX10_advance 106 = .ok (.aload_n 0, 1) := by decide +kernel
theorem dX10_advance_107 : decode cX10_advance 107 = .ok (.getfield 62, 3) := by decide +kernel
theorem dX10_advance_110 : decode cX10_advance 110 = .ok (.bipush 8, 2) := by decide +kernel
theorem dX10_advance_112 : decode cX10_advance 112 = .ok (.if_icmp .gt 19, 3) := by decide +kernel
theorem dX10_advance_115 : decode cX10_advance 115 = .ok (.aload_n 0, 1) := by decide +kernel
theorem dX10_advance_116 : decode cX10_advance 116 = .ok (.getfield 65, 3) := by decide +kernel
theorem dX10_advance_119 : decode cX10_advance 119 = .ok (.iconst 2, 1) := by decide +kernel
theorem dX10_advance_120 : decode cX10_advance 120 = .ok (.if_icmp .ne 16, 3) := by decide +kernel
theorem dX10_advance_123 : decode cX10_advance 123 = .ok (.aload_n 0, 1) := by decide +kernel
theorem dX10_advance_124 : decode cX10_advance 124 = .ok (.getfield 62, 3) := by decide +kernel
theorem dX10_advance_127 : decode cX10_advance 127 = .ok (.iconst 4, 1) := by decide +kernel
theorem dX10_advance_128 : decode cX10_advance 128 = .ok (.if_icmp .le 8, 3) := by decide +kernel
theorem dX10_advance_131 : decode cX10_advance 131 = .ok (.aload_n 0, 1) := by decide +kernel
theorem dX10_advance_132 : decode cX10_advance 132 = .ok (.iconst 5, 1) := by decide +kernel
theorem dX10_advance_133 : decode cX10_advance 133 = .ok (.putfield 65, 3) := by decide +kernel
theorem dX10_advance_136 : decode cX10_advance 136 = .ok (.return_, 1) := by decide +kernel
theorem dX10_isAtEnd_0 : decode cX10_isAtEnd 0 = .ok (.aload_n 0, 1) := by decide +kernel
theorem dX10_isAtEnd_1 : decode cX10_isAtEnd 1 = .ok (.getfield 65, 3) := by decide +kernel
theorem dX10_isAtEnd_4 : decode cX10_isAtEnd 4 = .ok (.ifCond .ne 7, 3) := by decide +kernel
theorem dX10_isAtEnd_7 : decode cX10_isAtEnd 7 = .ok (.iconst 1, 1) := by decide +kernel
theorem dX10_isAtEnd_8 : decode cX10_isAtEnd 8 = .ok (.goto 4, 3) := by decide +kernel
theorem dX10_isAtEnd_11 : decode cX10_isAtEnd 11 = .ok (.iconst 0, 1) := by decide +kernel
theorem dX10_isAtEnd_12 : decode cX10_isAtEnd 12 = .ok (.ireturn, 1) := by decide +kernel
theorem dX10_isWord_0 : decode cX10_isWord 0 = .ok (.aload_n 0, 1) := by decide +kernel
theorem dX10_isWord_1 : decode cX10_isWord 1 = .ok (.getfield 65, 3) := by decide +kernel
theorem dX10_isWord_4 : decode cX10_isWord 4 = .ok (.iconst 1, 1) := by decide +kernel
theorem dX10_isWord_5 : decode cX10_isWord 5 = .ok (.if_icmp .ne 14, 3) := by decide +kernel
theorem dX10_isWord_8 : decode cX10_isWord 8 = .ok (.aload_n 0, 1) := by decide +kernel
theorem dX10_isWord_9 : decode cX10_isWord 9 = .ok (.getfield 62, 3) := by decide +kernel
theorem dX10_isWord_12 : decode cX10_isWord 12 = .ok (.aload_n 1, 1) := by decide +kernel
theorem dX10_isWord_13 : decode cX10_isWord 13 = .ok (.invokevirtual 68, 3) := by decide +kernel
theorem dX10_isWord_16 : decode cX10_isWord 16 = .ok (.if_icmp .eq 5, 3) := by decide +kernel
theorem dX10_isWord_19 : decode cX10_isWord 19 = .ok (.iconst 0, 1) := by decide +kernel
theorem dX10_isWord_20 : decode cX10_isWord 20 = .ok (.ireturn, 1) := by decide +kernel
theorem dX10_isWord_21 : decode cX10_isWord 21 = .ok (.iconst 0, 1) := by decide +kernel
theorem dX10_isWord_22 : decode cX10_isWord 22 = .ok (.istore_n 2, 1) := by decide +kernel
theorem dX10_isWord_23 : decode cX10_isWord 23 = .ok (.iload_n 2, 1) := by decide +kernel
theorem dX10_isWord_24 : decode cX10_isWord 24 = .ok (.aload_n 1, 1) := by decide +kernel
theorem dX10_isWord_25 : decode cX10_isWord 25 = .ok (.invokevirtual 68, 3) := by decide +kernel
theorem dX10_isWord_28 : decode cX10_isWord 28 = .ok (.if_icmp .ge 29, 3) := by decide +kernel
theorem dX10_isWord_31 : decode cX10_isWord 31 = .ok (.aload_n 0, 1) := by decide +kernel
theorem dX10_isWord_32 : decode cX10_isWord 32 = .ok (.aload_n 0, 1) := by decide +kernel
theorem dX10_isWord_33 : decode cX10_isWord 33 = .ok (.getfield 59, 3) := by decide +kernel
theorem dX10_isWord_36 : decode cX10_isWord 36 = .ok (.iload_n 2, 1) := by decide +kernel
theorem dX10_isWord_37 : decode cX10_isWord 37 = .ok (.iadd, 1) := by decide +kernel
theorem dX10_isWord_38 : decode cX10_isWord 38 = .ok (.invokevirtual 39, 3) := by decide +kernel
theorem dX10_isWord_41 : decode cX10_isWord 41 = .ok (.aload_n 1, 1) := by decide +kernel
theorem dX10_isWord_42 : decode cX10_isWord 42 = .ok (.iload_n 2, 1) := by decide +kernel
theorem dX10_isWord_43 : decode cX10_isWord 43 = .ok (.invokevirtual 73, 3) := by decide +kernel
theorem dX10_isWord_46 : decode cX10_isWord 46 = .ok (.if_icmp .eq 5, 3) := by decide +kernel
theorem dX10_isWord_49 : decode cX10_isWord 49 = .ok (.iconst 0, 1) := by decide +kernel
theorem dX10_isWord_50 : decode cX10_isWord 50 = .ok (.ireturn, 1) := by decide +kernel
theorem dX10_isWord_51 : decode cX10_isWord 51 = .ok (.iinc 2 1, 3) := by decide +kernel
theorem dX10_isWord_54 : decode cX10_isWord 54 = .ok (.goto (-31), 3) := by decide +kernel
theorem dX10_isWord_57 : decode cX10_isWord 57 = .ok (.iconst 1, 1) := by decide +kernel
theorem dX10_isWord_58 : decode cX10_isWord 58 = .ok (.ireturn, 1) := by decide +kernel
theorem dX10_isSign_0 : decode cX10_isSign 0 = .ok (.aload_n 0, 1) := by decide +kernel
theorem dX10_isSign_1 : decode cX10_isSign 1 = .ok (.getfield 65, 3) := by decide +kernel
theorem dX10_isSign_4 : decode cX10_isSign 4 = .ok (.iconst 3, 1) := by decide +kernel
theorem dX10_isSign_5 : decode cX10_isSign 5 = .ok (.if_icmp .ne 19, 3) := by decide +kernel
theorem dX10_isSign_8 : decode cX10_isSign 8 = .ok (.aload_n 0, 1) := by decide +kernel
theorem dX10_isSign_9 : decode cX10_isSign 9 = .ok (.aload_n 0, 1) := by decide +kernel
theorem dX10_isSign_10 : decode cX10_isSign 10 = .ok (.getfield 59, 3) := by decide +kernel
theorem dX10_isSign_13 : decode cX10_isSign 13 = .ok (.invokevirtual 39, 3) := by decide +kernel
theorem dX10_isSign_16 : decode cX10_isSign 16 = .ok (.iload_n 1, 1) := by decide +kernel
theorem dX10_isSign_17 : decode cX10_isSign 17 = .ok (.if_icmp .ne 7, 3) := by decide +kernel
theorem dX10_isSign_20 : decode cX10_isSign 20 = .ok (.iconst 1, 1) := by decide +kernel
theorem dX10_isSign_21 : decode cX10_isSign 21 = .ok (.goto 4, 3) := by decide +kernel
theorem dX10_isSign_24 : decode cX10_isSign 24 = .ok (.iconst 0, 1) := by decide +kernel
theorem dX10_isSign_25 : decode cX10_isSign 25 = .ok (.ireturn, 1) := by decide +kernel
theorem dX10_fail_0 : decode cX10_fail 0 = .ok (.aload_n 0, 1) := by decide +kernel
theorem dX10_fail_1 : decode cX10_fail 1 = .ok (.iload_n 1, 1) := by decide +kernel
theorem dX10_fail_2 : decode cX10_fail 2 = .ok (.putfield 33, 3) := by decide +kernel
theorem dX10_fail_5 : decode cX10_fail 5 = .ok (.iconst 0, 1) := by decide +kernel
theorem dX10_fail_6 : decode cX10_fail 6 = .ok (.ireturn, 1) := by decide +kernel
theorem dX10_takeWord_0 : decode cX10_takeWord 0 = .ok (.aload_n 0, 1) := by decide +kernel
theorem dX10_takeWord_1 : decode cX10_takeWord 1 = .ok (.aload_n 1, 1) := by decide +kernel
theorem dX10_takeWord_2 : decode cX10_takeWord 2 = .ok (.invokevirtual 77, 3) := by decide +kernel
theorem dX10_takeWord_5 : decode cX10_takeWord 5 = .ok (.ifCond .ne 9, 3) := by decide +kernel
theorem dX10_takeWord_8 : decode cX10_takeWord 8 = .ok (.aload_n 0, 1) := by decide +kernel
theorem dX10_takeWord_9 : decode cX10_takeWord 9 = .ok (.iconst 1, 1) := by decide +kernel
theorem dX10_takeWord_10 : decode cX10_takeWord 10 = .ok (.invokevirtual 81, 3) := by decide +kernel
theorem dX10_takeWord_13 : decode cX10_takeWord 13 = .ok (.ireturn, 1) := by decide +kernel
theorem dX10_takeWord_14 : decode cX10_takeWord 14 = .ok (.aload_n 0, 1) := by decide +kernel
theorem dX10_takeWord_15 : decode cX10_takeWord 15 = .ok (.invokevirtual 56, 3) := by decide +kernel
theorem dX10_takeWord_18 : decode cX10_takeWord 18 = .ok (.iconst 1, 1) := by decide +kernel
theorem dX10_takeWord_19 : decode cX10_takeWord 19 = .ok (.ireturn, 1) := by decide +kernel
theorem dX10_takeSign_0 : decode cX10_takeSign 0 = .ok (.aload_n 0, 1) := by decide +kernel
theorem dX10_takeSign_1 : decode cX10_takeSign 1 = .ok (.iload_n 1, 1) := by decide +kernel
theorem dX10_takeSign_2 : decode cX10_takeSign 2 = .ok (.invokevirtual 85, 3) := by decide +kernel
theorem dX10_takeSign_5 : decode cX10_takeSign 5 = .ok (.ifCond .ne 9, 3) := by decide +kernel
theorem dX10_takeSign_8 : decode cX10_takeSign 8 = .ok (.aload_n 0, 1) := by decide +kernel
theorem dX10_takeSign_9 : decode cX10_takeSign 9 = .ok (.iconst 1, 1) := by decide +kernel
theorem dX10_takeSign_10 : decode cX10_takeSign 10 = .ok (.invokevirtual 81, 3) := by decide +kernel
theorem dX10_takeSign_13 : decode cX10_takeSign 13 = .ok (.ireturn, 1) := by decide +kernel
theorem dX10_takeSign_14 : decode cX10_takeSign 14 = .ok (.aload_n 0, 1) := by decide +kernel
theorem dX10_takeSign_15 : decode cX10_takeSign 15 = .ok (.invokevirtual 56, 3) := by decide +kernel
theorem dX10_takeSign_18 : decode cX10_takeSign 18 = .ok (.iconst 1, 1) := by decide +kernel
theorem dX10_takeSign_19 : decode cX10_takeSign 19 = .ok (.ireturn, 1) := by decide +kernel
theorem dX10_takeNumber_0 : decode cX10_takeNumber 0 = .ok (.aload_n 0, 1) := by decide +kernel
theorem dX10_takeNumber_1 : decode cX10_takeNumber 1 = .ok (.getfield 65, 3) := by decide +kernel
theorem dX10_takeNumber_4 : decode cX10_takeNumber 4 = .ok (.iconst 2, 1) := by decide +kernel
theorem dX10_takeNumber_5 : decode cX10_takeNumber 5 = .ok (.if_icmp .eq 10, 3) := by decide +kernel
theorem dX10_takeNumber_8 : decode cX10_takeNumber 8 = .ok (.aload_n 0, 1) := by decide +kernel
theorem dX10_takeNumber_9 : decode cX10_takeNumber 9 = .ok (.iconst 1, 1) := by decide +kernel
theorem dX10_takeNumber_10 : decode cX10_takeNumber 10 = .ok (.putfield 33, 3) := by decide +kernel
theorem dX10_takeNumber_13 : decode cX10_takeNumber 13 = .ok (.iconst (-1), 1) := by decide +kernel
theorem dX10_takeNumber_14 : decode cX10_takeNumber 14 = .ok (.ireturn, 1) := by decide +kernel
theorem dX10_takeNumber_15 : decode cX10_takeNumber 15 = .ok (.iconst 0, 1) := by decide +kernel
theorem dX10_takeNumber_16 : decode cX10_takeNumber 16 = .ok (.istore_n 3, 1) := by decide +kernel
theorem dX10_takeNumber_17 : decode cX10_takeNumber 17 = .ok (.iconst 0, 1) := by decide +kernel
theorem dX10_takeNumber_18 : decode cX10_takeNumber 18 = .ok (.istore 4, 2) := by decide +kernel
theorem dX10_takeNumber_20 : decode cX10_takeNumber 20 = .ok (.iload 4, 2) := by decide +kernel
theorem dX10_takeNumber_22 : decode cX10_takeNumber 22 = .ok (.aload_n 0, 1) := by decide +kernel
theorem dX10_takeNumber_23 : decode cX10_takeNumber 23 = .ok (.getfield 62, 3) := by decide +kernel
theorem dX10_takeNumber_26 : decode cX10_takeNumber 26 = .ok (.if_icmp .ge 29, 3) := by decide +kernel
theorem dX10_takeNumber_29 : decode cX10_takeNumber 29 = .ok (.iload_n 3, 1) := by decide +kernel
theorem dX10_takeNumber_30 : decode cX10_takeNumber 30 = .ok (.bipush 10, 2) := by decide +kernel
theorem dX10_takeNumber_32 : decode cX10_takeNumber 32 = .ok (.imul, 1) := by decide +kernel
theorem dX10_takeNumber_33 : decode cX10_takeNumber 33 = .ok (.aload_n 0, 1) := by decide +kernel
theorem dX10_takeNumber_34 : decode cX10_takeNumber 34 = .ok (.aload_n 0, 1) := by decide +kernel
theorem dX10_takeNumber_35 : decode cX10_takeNumber 35 = .ok (.getfield 59, 3) := by decide +kernel
theorem dX10_takeNumber_38 : decode cX10_takeNumber 38 = .ok (.iload 4, 2) := by decide +kernel
theorem dX10_takeNumber_40 : decode cX10_takeNumber 40 = .ok (.iadd, 1) := by decide +kernel
theorem dX10_takeNumber_41 : decode cX10_takeNumber 41 = .ok (.invokevirtual 39, 3) := by decide +kernel
theorem dX10_takeNumber_44 : decode cX10_takeNumber 44 = .ok (.bipush 48, 2) := by decide +kernel
theorem dX10_takeNumber_46 : decode cX10_takeNumber 46 = .ok (.isub, 1) := by decide +kernel
theorem dX10_takeNumber_47 : decode cX10_takeNumber 47 = .ok (.iadd, 1) := by decide +kernel
theorem dX10_takeNumber_48 : decode cX10_takeNumber 48 = .ok (.istore_n 3, 1) := by decide +kernel
theorem dX10_takeNumber_49 : decode cX10_takeNumber 49 = .ok (.iinc 4 1, 3) := by decide +kernel
theorem dX10_takeNumber_52 : decode cX10_takeNumber 52 = .ok (.goto (-32), 3) := by decide +kernel
theorem dX10_takeNumber_55 : decode cX10_takeNumber 55 = .ok (.iload_n 3, 1) := by decide +kernel
theorem dX10_takeNumber_56 : decode cX10_takeNumber 56 = .ok (.iload_n 1, 1) := by decide +kernel
theorem dX10_takeNumber_57 : decode cX10_takeNumber 57 = .ok (.if_icmp .lt 8, 3) := by decide +kernel
theorem dX10_takeNumber_60 : decode cX10_takeNumber 60 = .ok (.iload_n 3, 1) := by decide +kernel
theorem dX10_takeNumber_61 : decode cX10_takeNumber 61 = .ok (.iload_n 2, 1) := by decide +kernel
theorem dX10_takeNumber_62 : decode cX10_takeNumber 62 = .ok (.if_icmp .le 10, 3) := by decide +kernel
theorem dX10_takeNumber_65 : decode cX10_takeNumber 65 = .ok (.aload_n 0, 1) := by decide +kernel
theorem dX10_takeNumber_66 : decode cX10_takeNumber 66 = .ok (.iconst 2, 1) := by decide +kernel
theorem dX10_takeNumber_67 : decode cX10_takeNumber 67 = .ok (.putfield 33, 3) := by decide +kernel
theorem dX10_takeNumber_70 : decode cX10_takeNumber 70 = .ok (.iconst (-1), 1) := by decide +kernel
theorem dX10_takeNumber_71 : decode cX10_takeNumber 71 = .ok (.ireturn, 1) := by decide +kernel
theorem dX10_takeNumber_72 : decode cX10_takeNumber 72 = .ok (.aload_n 0, 1) := by decide +kernel
theorem dX10_takeNumber_73 : decode cX10_takeNumber 73 = .ok (.invokevirtual 56, 3) := by decide +kernel
theorem dX10_takeNumber_76 : decode cX10_takeNumber 76 = .ok (.iload_n 3, 1) := by decide +kernel
theorem dX10_takeNumber_77 : decode cX10_takeNumber 77 = .ok (.ireturn, 1) := by decide +kernel
theorem dX11_init_0 : decode cX11_init 0 = .ok (.aload_n 0, 1) := by decide +kernel
theorem dX11_init_1 : decode cX11_init 1 = .ok (.invokespecial 3, 3) := by decide +kernel
theorem dX11_init_4 : decode cX11_init 4 = .ok (.aload_n 0, 1) := by decide +kernel
theorem dX11_init_5 : decode cX11_init 5 = .ok (.sipush 192, 3) := by decide +kernel
theorem dX11_init_8 : decode cX11_init 8 = .ok (.newarray .boolean, 2) := by decide +kernel
theorem dX11_init_10 : decode cX11_init 10 = .ok (.putfield 9, 3) := by decide +kernel
theorem dX11_init_13 : decode cX11_init 13 = .ok (.return_, 1) := by decide +kernel
theorem dX11_isNarrow_0 : decode cX11_isNarrow 0 = .ok (.aload_n 0, 1) := by decide +kernel
theorem dX11_isNarrow_1 : decode cX11_isNarrow 1 = .ok (.iload_n 1, 1) := by decide +kernel
theorem dX11_isNarrow_2 : decode cX11_isNarrow 2 = .ok (.iload_n 2, 1) := by decide +kernel
theorem dX11_isNarrow_3 : decode cX11_isNarrow 3 = .ok (.invokevirtual 15, 3) := by decide +kernel
theorem dX11_isNarrow_6 : decode cX11_isNarrow 6 = .ok (.aload_n 0, 1) := by decide +kernel
theorem dX11_isNarrow_7 : decode cX11_isNarrow 7 = .ok (.getfield 21, 3) := by decide +kernel
theorem dX11_isNarrow_10 : decode cX11_isNarrow 10 = .ok (.if_icmp .le 37, 3) := by decide +kernel
theorem dX11_isNarrow_13 : decode cX11_isNarrow 13 = .ok (.aload_n 0, 1) := by decide +kernel
theorem dX11_isNarrow_14 : decode cX11_isNarrow 14 = .ok (.iload_n 1, 1) := by decide +kernel
theorem dX11_isNarrow_15 : decode cX11_isNarrow 15 = .ok (.iload_n 2, 1) := by decide +kernel
theorem dX11_isNarrow_16 : decode cX11_isNarrow 16 = .ok (.iconst 1, 1) := by decide +kernel
theorem dX11_isNarrow_17 : decode cX11_isNarrow 17 = .ok (.iconst 0, 1) := by decide +kernel
theorem dX11_isNarrow_18 : decode cX11_isNarrow 18 = .ok (.invokestatic 25, 3) := by decide +kernel
theorem dX11_isNarrow_21 : decode cX11_isNarrow 21 = .ok (.aload_n 0, 1) := by decide +kernel
theorem dX11_isNarrow_22 : decode cX11_isNarrow 22 = .ok (.getfield 29, 3) := by decide +kernel
theorem dX11_isNarrow_25 : decode cX11_isNarrow 25 = .ok (.if_icmp .ge 22, 3) := by decide +kernel
theorem dX11_isNarrow_28 : decode cX11_isNarrow 28 = .ok (.aload_n 0, 1) := by decide +kernel
theorem dX11_isNarrow_29 : decode cX11_isNarrow 29 = .ok (.iload_n 1, 1) := by decide +kernel
theorem dX11_isNarrow_30 : decode cX11_isNarrow 30 = .ok (.iload_n 2, 1) := by decide +kernel
theorem dX11_isNarrow_31 : decode cX11_isNarrow 31 = .ok (.iconst 0, 1) := by decide +kernel
theorem dX11_isNarrow_32 : decode cX11_isNarrow 32 = .ok (.iconst 1, 1) := by decide +kernel
theorem dX11_isNarrow_33 : decode cX11_isNarrow 33 = .ok (.invokestatic 25, 3) := by decide +kernel
theorem dX11_isNarrow_36 : decode cX11_isNarrow 36 = .ok (.aload_n 0, 1) := by decide +kernel
theorem dX11_isNarrow_37 : decode cX11_isNarrow 37 = .ok (.getfield 29, 3) := by decide +kernel
theorem dX11_isNarrow_40 : decode cX11_isNarrow 40 = .ok (.if_icmp .ge 7, 3) := by decide +kernel
theorem dX11_isNarrow_43 : decode cX11_isNarrow 43 = .ok (.iconst 1, 1) := by decide +kernel
theorem dX11_isNarrow_44 : decode cX11_isNarrow 44 = .ok (.goto 4, 3) := by decide +kernel
theorem dX11_isNarrow_47 : decode cX11_isNarrow 47 = .ok (.iconst 0, 1) := by decide +kernel
theorem dX11_isNarrow_48 : decode cX11_isNarrow 48 = .ok (.ireturn, 1) := by decide +kernel
theorem dX11_runThrough_0 : decode cX11_runThrough 0 = .ok (.aload_n 0, 1) := by decide +kernel
theorem dX11_runThrough_1 : decode cX11_runThrough 1 = .ok (.iload_n 1, 1) := by decide +kernel
theorem dX11_runThrough_2 : decode cX11_runThrough 2 = .ok (.iload_n 2, 1) := by decide +kernel
theorem dX11_runThrough_3 : decode cX11_runThrough 3 = .ok (.invokevirtual 15, 3) := by decide +kernel
theorem dX11_runThrough_6 : decode cX11_runThrough 6 = .ok (.istore 5, 2) := by decide +kernel
theorem dX11_runThrough_8 : decode cX11_runThrough 8 = .ok (.iconst 1, 1) := by decide +kernel
theorem dX11_runThrough_9 : decode cX11_runThrough 9 = .ok (.istore 6, 2) := by decide +kernel
theorem dX11_runThrough_11 : decode cX11_runThrough 11 = .ok (.iconst 1, 1) := by decide +kernel
theorem dX11_runThrough_12 : decode cX11_runThrough 12 = .ok (.istore 7, 2) := by decide +kernel
theorem dX11_runThrough_14 : decode cX11_runThrough 14 = .ok (.iload 7, 2) := by decide +kernel
theorem dX11_runThrough_16 : decode cX11_runThrough 16 = .ok (.aload_n 0, 1) := by decide +kernel
theorem dX11_runThrough_17 : decode cX11_runThrough 17 = .ok (.getfield 29, 3) := by decide +kernel
theorem dX11_runThrough_20 : decode cX11_runThrough 20 = .ok (.if_icmp .ge 34, 3) := by decide +kernel
theorem dX11_runThrough_23 : decode cX11_runThrough 23 = .ok (.aload_n 0, 1) := by decide +kernel
theorem dX11_runThrough_24 : decode cX11_runThrough 24 = .ok (.iload_n 1, 1) := by decide +kernel
theorem dX11_runThrough_25 : decode cX11_runThrough 25 = .ok (.iload 7, 2) := by decide +kernel
theorem dX11_runThrough_27 : decode cX11_runThrough 27 = .ok (.iload_n 3, 1) := by decide +kernel
theorem dX11_runThrough_28 : decode cX11_runThrough 28 = .ok (.imul, 1) := by decide +kernel
theorem dX11_runThrough_29 : decode cX11_runThrough 29 = .ok (.iadd, 1) := by decide +kernel
theorem dX11_runThrough_30 : decode cX11_runThrough 30 = .ok (.iload_n 2, 1) := by decide +kernel
theorem dX11_runThrough_31 : decode cX11_runThrough 31 = .ok (.iload 7, 2) := by decide +kernel
theorem dX11_runThrough_33 : decode cX11_runThrough 33 = .ok (.iload 4, 2) := by decide +kernel
theorem dX11_runThrough_35 : decode cX11_runThrough 35 = .ok (.imul, 1) := by decide +kernel
theorem dX11_runThrough_36 : decode cX11_runThrough 36 = .ok (.iadd, 1) := by decide +kernel
theorem dX11_runThrough_37 : decode cX11_runThrough 37 = .ok (.iload 5, 2) := by decide +kernel
theorem dX11_runThrough_39 : decode cX11_runThrough 39 = .ok (.invokevirtual 32, 3) := by decide +kernel
theorem dX11_runThrough_42 : decode cX11_runThrough 42 = .ok (.ifCond .eq 12, 3) := by decide +kernel
theorem dX11_runThrough_45 : decode cX11_runThrough 45 = .ok (.iinc 6 1, 3) := by decide +kernel
theorem dX11_runThrough_48 : decode cX11_runThrough 48 = .ok (.iinc 7 1, 3) := by decide +kernel
theorem dX11_runThrough_51 : decode cX11_runThrough 51 = .ok (.goto (-37), 3) := by decide +kernel
theorem dX11_runThrough_54 : decode cX11_runThrough 54 = .ok (.iconst 1, 1) := by decide +kernel
theorem dX11_runThrough_55 : decode cX11_runThrough 55 = .ok (.istore 7, 2) := by decide +kernel
theorem dX11_runThrough_57 : decode cX11_runThrough 57 = .ok (.iload 7, 2) := by decide +kernel
theorem dX11_runThrough_59 : decode cX11_runThrough 59 = .ok (.aload_n 0, 1) := by decide +kernel
theorem dX11_runThrough_60 : decode cX11_runThrough 60 = .ok (.getfield 29, 3) := by decide +kernel
theorem dX11_runThrough_63 : decode cX11_runThrough 63 = .ok (.if_icmp .ge 34, 3) := by decide +kernel
theorem dX11_runThrough_66 : decode cX11_runThrough 66 = .ok (.aload_n 0, 1) := by decide +kernel
theorem dX11_runThrough_67 : decode cX11_runThrough 67 = .ok (.iload_n 1, 1) := by decide +kernel
theorem dX11_runThrough_68 : decode cX11_runThrough 68 = .ok (.iload 7, 2) := by decide +kernel
theorem dX11_runThrough_70 : decode cX11_runThrough 70 = .ok (.iload_n 3, 1) := by decide +kernel
theorem dX11_runThrough_71 : decode cX11_runThrough 71 = .ok (.imul, 1) := by decide +kernel
theorem dX11_runThrough_72 : decode cX11_runThrough 72 = .ok (.isub, 1) := by decide +kernel
theorem dX11_runThrough_73 : decode cX11_runThrough 73 = .ok (.iload_n 2, 1) := by decide +kernel
theorem dX11_runThrough_74 : decode cX11_runThrough 74 = .ok (.iload 7, 2) := by decide +kernel
theorem dX11_runThrough_76 : decode cX11_runThrough 76 = .ok (.iload 4, 2) := by decide +kernel
theorem dX11_runThrough_78 : decode cX11_runThrough 78 = .ok (.imul, 1) := by decide +kernel
theorem dX11_runThrough_79 : decode cX11_runThrough 79 = .ok (.isub, 1) := by decide +kernel
theorem dX11_runThrough_80 : decode cX11_runThrough 80 = .ok (.iload 5, 2) := by decide +kernel
theorem dX11_runThrough_82 : decode cX11_runThrough 82 = .ok (.invokevirtual 32, 3) := by decide +kernel
theorem dX11_runThrough_85 : decode cX11_runThrough 85 = .ok (.ifCond .eq 12, 3) := by decide +kernel
theorem dX11_runThrough_88 : decode cX11_runThrough 88 = .ok (.iinc 6 1, 3) := by decide +kernel
theorem dX11_runThrough_91 : decode cX11_runThrough 91 = .ok (.iinc 7 1, 3) := by decide +kernel
theorem dX11_runThrough_94 : decode cX11_runThrough 94 = .ok (.goto (-37), 3) := by decide +kernel
theorem dX11_runThrough_97 : decode cX11_runThrough 97 = .ok (.iload 6, 2) := by decide +kernel
theorem dX11_runThrough_99 : decode cX11_runThrough 99 = .ok (.ireturn, 1) := by decide +kernel
theorem dX11_mark_0 : decode cX11_mark 0 = .ok (.iconst 0, 1) := by decide +kernel
theorem dX11_mark_1 : decode cX11_mark 1 = .ok (.istore_n 2, 1) := by decide +kernel
theorem dX11_mark_2 : decode cX11_mark 2 = .ok (.iconst 0, 1) := by decide +kernel
theorem dX11_mark_3 : decode cX11_mark 3 = .ok (.istore_n 3, 1) := by decide +kernel
theorem dX11_mark_4 : decode cX11_mark 4 = .ok (.iload_n 3, 1) := by decide +kernel
theorem dX11_mark_5 : decode cX11_mark 5 = .ok (.aload_n 1, 1) := by decide +kernel
theorem dX11_mark_6 : decode cX11_mark 6 = .ok (.getfield 36, 3) := by decide +kernel
theorem dX11_mark_9 : decode cX11_mark 9 = .ok (.if_icmp .ge 58, 3) := by decide +kernel
theorem dX11_mark_12 : decode cX11_mark 12 = .ok (.iconst 0, 1) := by decide +kernel
theorem dX11_mark_13 : decode cX11_mark 13 = .ok (.istore 4, 2) := by decide +kernel
theorem dX11_mark_15 : decode cX11_mark 15 = .ok (.iload 4, 2) := by decide +kernel
theorem dX11_mark_17 : decode cX11_mark 17 = .ok (.aload_n 1, 1) := by decide +kernel
theorem dX11_mark_18 : decode cX11_mark 18 = .ok (.getfield 39, 3) := by decide +kernel
theorem dX11_mark_21 : decode cX11_mark 21 = .ok (.if_icmp .ge 40, 3) := by decide +kernel
theorem dX11_mark_24 : decode cX11_mark 24 = .ok (.aload_n 1, 1) := by decide +kernel
theorem dX11_mark_25 : decode cX11_mark 25 = .ok (.iload 4, 2) := by decide +kernel
theorem dX11_mark_27 : decode cX11_mark 27 = .ok (.iload_n 3, 1) := by decide +kernel
theorem dX11_mark_28 : decode cX11_mark 28 = .ok (.invokestatic 42, 3) := by decide +kernel
theorem dX11_mark_31 : decode cX11_mark 31 = .ok (.istore 5, 2) := by decide +kernel
theorem dX11_mark_33 : decode cX11_mark 33 = .ok (.aload_n 0, 1) := by decide +kernel
theorem dX11_mark_34 : decode cX11_mark 34 = .ok (.iload 4, 2) := by decide +kernel
theorem dX11_mark_36 : decode cX11_mark 36 = .ok (.iload_n 3, 1) := by decide +kernel
theorem dX11_mark_37 : decode cX11_mark 37 = .ok (.iload 5, 2) := by decide +kernel
theorem dX11_mark_39 : decode cX11_mark 39 = .ok (.invokevirtual 46, 3) := by decide +kernel
theorem dX11_mark_42 : decode cX11_mark 42 = .ok (.iload_n 2, 1) := by decide +kernel
theorem dX11_mark_43 : decode cX11_mark 43 = .ok (.iload 5, 2) := by decide +kernel
theorem dX11_mark_45 : decode cX11_mark 45 = .ok (.ifCond .eq 7, 3) := by decide +kernel
theorem dX11_mark_48 : decode cX11_mark 48 = .ok (.iconst 1, 1) := by decide +kernel
theorem dX11_mark_49 : decode cX11_mark 49 = .ok (.goto 4, 3) := by decide +kernel
theorem dX11_mark_52 : decode cX11_mark 52 = .ok (.iconst 0, 1) := by decide +kernel
theorem dX11_mark_53 : decode cX11_mark 53 = .ok (.iadd, 1) := by decide +kernel
theorem dX11_mark_54 : decode cX11_mark 54 = .ok (.istore_n 2, 1) := by decide +kernel
theorem dX11_mark_55 : decode cX11_mark 55 = .ok (.iinc 4 1, 3) := by decide +kernel
theorem dX11_mark_58 : decode cX11_mark 58 = .ok (.goto (-43), 3) := by decide +kernel
theorem dX11_mark_61 : decode cX11_mark 61 = .ok (.iinc 3 1, 3) := by decide +kernel
theorem dX11_mark_64 : decode cX11_mark 64 = .ok (.goto (-60), 3) := by decide +kernel
theorem dX11_mark_67 : decode cX11_mark 67 = .ok (.iload_n 2, 1) := by decide +kernel
theorem dX11_mark_68 : decode cX11_mark 68 = .ok (.ireturn, 1) := by decide +kernel
theorem dX11_setMark_0 : decode cX11_setMark 0 = .ok (.iload_n 2, 1) := by decide +kernel
theorem dX11_setMark_1 : decode cX11_setMark 1 = .ok (.bipush 16, 2) := by decide +kernel
theorem dX11_setMark_3 : decode cX11_setMark 3 = .ok (.imul, 1) := by decide +kernel
theorem dX11_setMark_4 : decode cX11_setMark 4 = .ok (.iload_n 1, 1) := by decide +kernel
theorem dX11_setMark_5 : decode cX11_setMark 5 = .ok (.iadd, 1) := by decide +kernel
theorem dX11_setMark_6 : decode cX11_setMark 6 = .ok (.istore 4, 2) := by decide +kernel
theorem dX11_setMark_8 : decode cX11_setMark 8 = .ok (.iload 4, 2) := by decide +kernel
theorem dX11_setMark_10 : decode cX11_setMark 10 = .ok (.ifCond .lt 21, 3) := by decide +kernel
theorem dX11_setMark_13 : decode cX11_setMark 13 = .ok (.iload 4, 2) := by decide +kernel
theorem dX11_setMark_15 : decode cX11_setMark 15 = .ok (.aload_n 0, 1) := by decide +kernel
theorem dX11_setMark_16 : decode cX11_setMark 16 = .ok (.getfield 9, 3) := by decide +kernel
theorem dX11_setMark_19 : decode cX11_setMark 19 = .ok (.arraylength, 1) := by decide +kernel
theorem dX11_setMark_20 : decode cX11_setMark 20 = .ok (.if_icmp .ge 11, 3) := by decide +kernel
theorem dX11_setMark_23 : decode cX11_setMark 23 = .ok (.aload_n 0, 1) := by decide +kernel
theorem dX11_setMark_24 : decode cX11_setMark 24 = .ok (.getfield 9, 3) := by decide +kernel
theorem dX11_setMark_27 : decode cX11_setMark 27 = .ok (.iload 4, 2) := by decide +kernel
theorem dX11_setMark_29 : decode cX11_setMark 29 = .ok (.iload_n 3, 1) := by decide +kernel
theorem dX11_setMark_30 : decode cX11_setMark 30 = .ok (.bastore, 1) := by decide +kernel
theorem dX11_setMark_31 : decode cX11_setMark 31 = .ok (.return_, 1) := by decide +kernel
theorem dX11_hasMark_0 : decode cX11_hasMark 0 = .ok (.iload_n 2, 1) := by decide +kernel
theorem dX11_hasMark_1 : decode cX11_hasMark 1 = .ok (.bipush 16, 2) := by decide +kernel
theorem dX11_hasMark_3 : decode cX11_hasMark 3 = .ok (.imul, 1) := by decide +kernel
theorem dX11_hasMark_4 : decode cX11_hasMark 4 = .ok (.iload_n 1, 1) := by decide +kernel
theorem dX11_hasMark_5 : decode cX11_hasMark 5 = .ok (.iadd, 1) := by decide +kernel
theorem dX11_hasMark_6 : decode cX11_hasMark 6 = .ok (.istore_n 3, 1) := by decide +kernel
theorem dX11_hasMark_7 : decode cX11_hasMark 7 = .ok (.iload_n 3, 1) := by decide +kernel
theorem dX11_hasMark_8 : decode cX11_hasMark 8 = .ok (.ifCond .lt 25, 3) := by decide +kernel
theorem dX11_hasMark_11 : decode cX11_hasMark 11 = .ok (.iload_n 3, 1) := by decide +kernel
theorem dX11_hasMark_12 : decode cX11_hasMark 12 = .ok (.aload_n 0, 1) := by decide +kernel
theorem dX11_hasMark_13 : decode cX11_hasMark 13 = .ok (.getfield 9, 3) := by decide +kernel
theorem dX11_hasMark_16 : decode cX11_hasMark 16 = .ok (.arraylength, 1) := by decide +kernel
theorem dX11_hasMark_17 : decode cX11_hasMark 17 = .ok (.if_icmp .ge 16, 3) := by decide +kernel
theorem dX11_hasMark_20 : decode cX11_hasMark 20 = .ok (.aload_n 0, 1) := by decide +kernel
theorem dX11_hasMark_21 : decode cX11_hasMark 21 = .ok (.getfield 9, 3) := by decide +kernel
theorem dX11_hasMark_24 : decode cX11_hasMark 24 = .ok (.iload_n 3, 1) := by decide +kernel
theorem dX11_hasMark_25 : decode cX11_hasMark 25 = .ok (.baload, 1) := by decide +kernel
theorem dX11_hasMark_26 : decode cX11_hasMark 26 = .ok (.ifCond .eq 7, 3) := by decide +kernel
theorem dX11_hasMark_29 : decode cX11_hasMark 29 = .ok (.iconst 1, 1) := by decide +kernel
theorem dX11_hasMark_30 : decode cX11_hasMark 30 = .ok (.goto 4, 3) := by decide +kernel
theorem dX11_hasMark_33 : decode cX11_hasMark 33 = .ok (.iconst 0, 1) := by decide +kernel
theorem dX11_hasMark_34 : decode cX11_hasMark 34 = .ok (.ireturn, 1) := by decide +kernel
theorem dX11_lowerMarked_0 : decode cX11_lowerMarked 0 = .ok (.iconst 0, 1) := by decide +kernel
theorem dX11_lowerMarked_1 : decode cX11_lowerMarked 1 = .ok (.istore_n 2, 1) := by decide +kernel
theorem dX11_lowerMarked_2 : decode cX11_lowerMarked 2 = .ok (.iload_n 2, 1) := by decide +kernel
theorem dX11_lowerMarked_3 : decode cX11_lowerMarked 3 = .ok (.aload_n 1, 1) := by decide +kernel
theorem dX11_lowerMarked_4 : decode cX11_lowerMarked 4 = .ok (.getfield 36, 3) := by decide +kernel
theorem dX11_lowerMarked_7 : decode cX11_lowerMarked 7 = .ok (.if_icmp .ge 49, 3) := by decide +kernel
theorem dX11_lowerMarked_10 : decode cX11_lowerMarked 10 = .ok (.iconst 0, 1) := by decide +kernel
theorem dX11_lowerMarked_11 : decode cX11_lowerMarked 11 = .ok (.istore_n 3, 1) := by decide +kernel
theorem dX11_lowerMarked_12 : decode cX11_lowerMarked 12 = .ok (.iload_n 3, 1) := by decide +kernel
theorem dX11_lowerMarked_13 : decode cX11_lowerMarked 13 = .ok (.aload_n 1, 1) := by decide +kernel
theorem dX11_lowerMarked_14 : decode cX11_lowerMarked 14 = .ok (.getfield 39, 3) := by decide +kernel
theorem dX11_lowerMarked_17 : decode cX11_lowerMarked 17 = .ok (.if_icmp .ge 33, 3) := by decide +kernel
theorem dX11_lowerMarked_20 : decode cX11_lowerMarked 20 = .ok (.aload_n 0, 1) := by decide +kernel
theorem dX11_lowerMarked_21 : decode cX11_lowerMarked 21 = .ok (.iload_n 3, 1) := by decide +kernel
theorem dX11_lowerMarked_22 : decode cX11_lowerMarked 22 = .ok (.iload_n 2, 1) := by decide +kernel
theorem dX11_lowerMarked_23 : decode cX11_lowerMarked 23 = .ok (.invokevirtual 50, 3) := by decide +kernel
theorem dX11_lowerMarked_26 : decode cX11_lowerMarked 26 = .ok (.ifCond .eq 18, 3) := by decide +kernel
theorem dX11_lowerMarked_29 : decode cX11_lowerMarked 29 = .ok (.aload_n 1, 1) := by decide +kernel
theorem dX11_lowerMarked_30 : decode cX11_lowerMarked 30 = .ok (.iload_n 3, 1) := by decide +kernel
theorem dX11_lowerMarked_31 : decode cX11_lowerMarked 31 = .ok (.iload_n 2, 1) := by decide +kernel
theorem dX11_lowerMarked_32 : decode cX11_lowerMarked 32 = .ok (.aload_n 1, 1) := by decide +kernel
theorem dX11_lowerMarked_33 : decode cX11_lowerMarked 33 = .ok (.iload_n 3, 1) := by decide +kernel
theorem dX11_lowerMarked_34 : decode cX11_lowerMarked 34 = .ok (.iload_n 2, 1) := by decide +kernel
theorem dX11_lowerMarked_35 : decode cX11_lowerMarked 35 = .ok (.invokevirtual 15, 3) := by decide +kernel
theorem dX11_lowerMarked_38 : decode cX11_lowerMarked 38 = .ok (.iconst 1, 1) := by decide +kernel
theorem dX11_lowerMarked_39 : decode cX11_lowerMarked 39 = .ok (.isub, 1) := by decide +kernel
theorem dX11_lowerMarked_40 : decode cX11_lowerMarked 40 = .ok (.invokevirtual 54, 3) := by decide +kernel
theorem dX11_lowerMarked_43 : decode cX11_lowerMarked 43 = .ok (.pop, 1) := by decide +kernel
theorem dX11_lowerMarked_44 : decode cX11_lowerMarked 44 = .ok (.iinc 3 1, 3) := by decide +kernel
theorem dX11_lowerMarked_47 : decode cX11_lowerMarked 47 = .ok (.goto (-35), 3) := by decide +kernel
theorem dX11_lowerMarked_50 : decode cX11_lowerMarked 50 = .ok (.iinc 2 1, 3) := by decide +kernel
theorem dX11_lowerMarked_53 : decode cX11_lowerMarked 53 = .ok (.goto (-51), 3) := by decide +kernel
theorem dX11_lowerMarked_56 : decode cX11_lowerMarked 56 = .ok (.return_, 1) := by decide +kernel
theorem dX11_takeDown_0 : decode cX11_takeDown 0 = .ok (.iconst 0, 1) := by decide +kernel
theorem dX11_takeDown_1 : decode cX11_takeDown 1 = .ok (.istore_n 2, 1) := by decide +kernel
theorem dX11_takeDown_2 : decode cX11_takeDown 2 = .ok (.iconst 0, 1) := by decide +kernel
theorem dX11_takeDown_3 : decode cX11_takeDown 3 = .ok (.istore_n 3, 1) := by decide +kernel
theorem dX11_takeDown_4 : decode cX11_takeDown 4 = .ok (.iload_n 3, 1) := by decide +kernel
theorem dX11_takeDown_5 : decode cX11_takeDown 5 = .ok (.sipush 3840, 3) := by decide +kernel
theorem dX11_takeDown_8 : decode cX11_takeDown 8 = .ok (.if_icmp .ge 25, 3) := by decide +kernel
theorem dX11_takeDown_11 : decode cX11_takeDown 11 = .ok (.aload_n 0, 1) := by decide +kernel
theorem dX11_takeDown_12 : decode cX11_takeDown 12 = .ok (.aload_n 1, 1) := by decide +kernel
theorem dX11_takeDown_13 : decode cX11_takeDown 13 = .ok (.invokevirtual 58, 3) := by decide +kernel
theorem dX11_takeDown_16 : decode cX11_takeDown 16 = .ok (.ifCond .le 17, 3) := by decide +kernel
theorem dX11_takeDown_19 : decode cX11_takeDown 19 = .ok (.aload_n 0, 1) := by decide +kernel
theorem dX11_takeDown_20 : decode cX11_takeDown 20 = .ok (.aload_n 1, 1) := by decide +kernel
theorem dX11_takeDown_21 : decode cX11_takeDown 21 = .ok (.invokevirtual 62, 3) := by decide +kernel
theorem dX11_takeDown_24 : decode cX11_takeDown 24 = .ok (.iinc 2 1, 3) := by decide +kernel
theorem dX11_takeDown_27 : decode cX11_takeDown 27 = .ok (.iinc 3 1, 3) := by decide +kernel
theorem dX11_takeDown_30 : decode cX11_takeDown 30 = .ok (.goto (-26), 3) := by decide +kernel
theorem dX11_takeDown_33 : decode cX11_takeDown 33 = .ok (.iload_n 2, 1) := by decide +kernel
theorem dX11_takeDown_34 : decode cX11_takeDown 34 = .ok (.ireturn, 1) := by decide +kernel
theorem dX11_isLimit_0 : decode cX11_isLimit 0 = .ok (.iload_n 0, 1) := by decide +kernel
theorem dX11_isLimit_1 : decode cX11_isLimit 1 = .ok (.iconst 1, 1) := by decide +kernel
theorem dX11_isLimit_2 : decode cX11_isLimit 2 = .ok (.if_icmp .lt 13, 3) := by decide +kernel
theorem dX11_isLimit_5 : decode cX11_isLimit 5 = .ok (.iload_n 0, 1) := by decide +kernel
theorem dX11_isLimit_6 : decode cX11_isLimit 6 = .ok (.bipush 20, 2) := by decide +kernel
theorem dX11_isLimit_8 : decode cX11_isLimit 8 = .ok (.if_icmp .gt 7, 3) := by decide +kernel
theorem dX11_isLimit_11 : decode cX11_isLimit 11 = .ok (.iconst 1, 1) := by decide +kernel
theorem dX11_isLimit_12 : decode cX11_isLimit 12 = .ok (.goto 4, 3) := by decide +kernel
theorem dX11_isLimit_15 : decode cX11_isLimit 15 = .ok (.iconst 0, 1) := by decide +kernel
theorem dX11_isLimit_16 : decode cX11_isLimit 16 = .ok (.ireturn, 1) := by decide +kernel
theorem dX11_flatten_0 : decode cX11_flatten 0 = .ok (.aload_n 1, 1) := by decide +kernel
theorem dX11_flatten_1 : decode cX11_flatten 1 = .ok (.aload_n 0, 1) := by decide +kernel
theorem dX11_flatten_2 : decode cX11_flatten 2 = .ok (.invokevirtual 66, 3) := by decide +kernel
theorem dX11_flatten_5 : decode cX11_flatten 5 = .ok (.iconst 0, 1) := by decide +kernel
theorem dX11_flatten_6 : decode cX11_flatten 6 = .ok (.istore_n 3, 1) := by decide +kernel
theorem dX11_flatten_7 : decode cX11_flatten 7 = .ok (.iload_n 3, 1) := by decide +kernel
theorem dX11_flatten_8 : decode cX11_flatten 8 = .ok (.aload_n 0, 1) := by decide +kernel
theorem dX11_flatten_9 : decode cX11_flatten 9 = .ok (.getfield 36, 3) := by decide +kernel
theorem dX11_flatten_12 : decode cX11_flatten 12 = .ok (.if_icmp .ge 53, 3) := by decide +kernel
theorem dX11_flatten_15 : decode cX11_flatten 15 = .ok (.iconst 0, 1) := by decide +kernel
theorem dX11_flatten_16 : decode cX11_flatten 16 = .ok (.istore 4, 2) := by decide +kernel
theorem dX11_flatten_18 : decode cX11_flatten 18 = .ok (.iload 4, 2) := by decide +kernel
theorem dX11_flatten_20 : decode cX11_flatten 20 = .ok (.aload_n 0, 1) := by decide +kernel
theorem dX11_flatten_21 : decode cX11_flatten 21 = .ok (.getfield 39, 3) := by decide +kernel
theorem dX11_flatten_24 : decode cX11_flatten 24 = .ok (.if_icmp .ge 35, 3) := by decide +kernel
theorem dX11_flatten_27 : decode cX11_flatten 27 = .ok (.aload_n 0, 1) := by decide +kernel
theorem dX11_flatten_28 : decode cX11_flatten 28 = .ok (.iload 4, 2) := by decide +kernel
theorem dX11_flatten_30 : decode cX11_flatten 30 = .ok (.iload_n 3, 1) := by decide +kernel
theorem dX11_flatten_31 : decode cX11_flatten 31 = .ok (.iload 4, 2) := by decide +kernel
theorem dX11_flatten_33 : decode cX11_flatten 33 = .ok (.iconst 1, 1) := by decide +kernel
theorem dX11_flatten_34 : decode cX11_flatten 34 = .ok (.isub, 1) := by decide +kernel
theorem dX11_flatten_35 : decode cX11_flatten 35 = .ok (.iload_n 3, 1) := by decide +kernel
theorem dX11_flatten_36 : decode cX11_flatten 36 = .ok (.iload_n 2, 1) := by decide +kernel
theorem dX11_flatten_37 : decode cX11_flatten 37 = .ok (.invokestatic 69, 3) := by decide +kernel
theorem dX11_flatten_40 : decode cX11_flatten 40 = .ok (.aload_n 0, 1) := by decide +kernel
theorem dX11_flatten_41 : decode cX11_flatten 41 = .ok (.iload 4, 2) := by decide +kernel
theorem dX11_flatten_43 : decode cX11_flatten 43 = .ok (.iload_n 3, 1) := by decide +kernel
theorem dX11_flatten_44 : decode cX11_flatten 44 = .ok (.iload 4, 2) := by decide +kernel
theorem dX11_flatten_46 : decode cX11_flatten 46 = .ok (.iload_n 3, 1) := by decide +kernel
theorem dX11_flatten_47 : decode cX11_flatten 47 = .ok (.iconst 1, 1) := by decide +kernel
theorem dX11_flatten_48 : decode cX11_flatten 48 = .ok (.isub, 1) := by decide +kernel
theorem dX11_flatten_49 : decode cX11_flatten 49 = .ok (.iload_n 2, 1) := by decide +kernel
theorem dX11_flatten_50 : decode cX11_flatten 50 = .ok (.invokestatic 69, 3) := by decide +kernel
theorem dX11_flatten_53 : decode cX11_flatten 53 = .ok (.iinc 4 1, 3) := by decide +kernel
theorem dX11_flatten_56 : decode cX11_flatten 56 = .ok (.goto (-38), 3) := by decide +kernel
theorem dX11_flatten_59 : decode cX11_flatten 59 = .ok (.iinc 3 1, 3) := by decide +kernel
theorem dX11_flatten_62 : decode cX11_flatten 62 = .ok (.goto (-55), 3) := by decide +kernel
theorem dX11_flatten_65 : decode cX11_flatten 65 = .ok (.aload_n 0, 1) := by decide +kernel
theorem dX11_flatten_66 : decode cX11_flatten 66 = .ok (.getfield 36, 3) := by decide +kernel
theorem dX11_flatten_69 : decode cX11_flatten 69 = .ok (.iconst 1, 1) := by decide +kernel
theorem dX11_flatten_70 : decode cX11_flatten 70 = .ok (.isub, 1) := by decide +kernel
theorem dX11_flatten_71 : decode cX11_flatten 71 = .ok (.istore_n 3, 1) := by decide +kernel
theorem dX11_flatten_72 : decode cX11_flatten 72 = .ok (.iload_n 3, 1) := by decide +kernel
theorem dX11_flatten_73 : decode cX11_flatten 73 = .ok (.ifCond .lt 54, 3) := by decide +kernel
theorem dX11_flatten_76 : decode cX11_flatten 76 = .ok (.aload_n 0, 1) := by decide +kernel
theorem dX11_flatten_77 : decode cX11_flatten 77 = .ok (.getfield 39, 3) := by decide +kernel
theorem dX11_flatten_80 : decode cX11_flatten 80 = .ok (.iconst 1, 1) := by decide +kernel
theorem dX11_flatten_81 : decode cX11_flatten 81 = .ok (.isub, 1) := by decide +kernel
theorem dX11_flatten_82 : decode cX11_flatten 82 = .ok (.istore 4, 2) := by decide +kernel
theorem dX11_flatten_84 : decode cX11_flatten 84 = .ok (.iload 4, 2) := by decide +kernel
theorem dX11_flatten_86 : decode cX11_flatten 86 = .ok (.ifCond .lt 35, 3) := by decide +kernel
theorem dX11_flatten_89 : decode cX11_flatten 89 = .ok (.aload_n 0, 1) := by decide +kernel
theorem dX11_flatten_90 : decode cX11_flatten 90 = .ok (.iload 4, 2) := by decide +kernel
theorem dX11_flatten_92 : decode cX11_flatten 92 = .ok (.iload_n 3, 1) := by decide +kernel
theorem dX11_flatten_93 : decode cX11_flatten 93 = .ok (.iload 4, 2) := by decide +kernel
theorem dX11_flatten_95 : decode cX11_flatten 95 = .ok (.iconst 1, 1) := by decide +kernel
theorem dX11_flatten_96 : decode cX11_flatten 96 = .ok (.iadd, 1) := by decide +kernel
theorem dX11_flatten_97 : decode cX11_flatten 97 = .ok (.iload_n 3, 1) := by decide +kernel
theorem dX11_flatten_98 : decode cX11_flatten 98 = .ok (.iload_n 2, 1) := by decide +kernel
theorem dX11_flatten_99 : decode cX11_flatten 99 = .ok (.invokestatic 69, 3) := by decide +kernel
theorem dX11_flatten_102 : decode cX11_flatten 102 = .ok (.aload_n 0, 1) := by decide +kernel
theorem dX11_flatten_103 : decode cX11_flatten 103 = .ok (.iload 4, 2) := by decide +kernel
theorem dX11_flatten_105 : decode cX11_flatten 105 = .ok (.iload_n 3, 1) := by decide +kernel
theorem dX11_flatten_106 : decode cX11_flatten 106 = .ok (.iload 4, 2) := by decide +kernel
theorem dX11_flatten_108 : decode cX11_flatten 108 = .ok (.iload_n 3, 1) := by decide +kernel
theorem dX11_flatten_109 : decode cX11_flatten 109 = .ok (.iconst 1, 1) := by decide +kernel
theorem dX11_flatten_110 : decode cX11_flatten 110 = .ok (.iadd, 1) := by decide +kernel
theorem dX11_flatten_111 : decode cX11_flatten 111 = .ok (.iload_n 2, 1) := by decide +kernel
theorem dX11_flatten_112 : decode cX11_flatten 112 = .ok (.invokestatic 69, 3) := by decide +kernel
theorem dX11_flatten_115 : decode cX11_flatten 115 = .ok (.iinc 4 (-1), 3) := by decide +kernel
theorem dX11_flatten_118 : decode cX11_flatten 118 = .ok (.goto (-34), 3) := by decide +kernel
theorem dX11_flatten_121 : decode cX11_flatten 121 = .ok (.iinc 3 (-1), 3) := by decide +kernel
theorem dX11_flatten_124 : decode cX11_flatten 124 = .ok (.goto (-52), 3) := by decide +kernel
theorem dX11_flatten_127 : decode cX11_flatten 127 = .ok (.aload_n 0, 1) := by decide +kernel
theorem dX11_flatten_128 : decode cX11_flatten 128 = .ok (.aload_n 1, 1) := by decide +kernel
theorem dX11_flatten_129 : decode cX11_flatten 129 = .ok (.invokevirtual 73, 3) := by decide +kernel
theorem dX11_flatten_132 : decode cX11_flatten 132 = .ok (.ireturn, 1) := by decide +kernel
theorem dX11_raiseBeside_0 : decode cX11_raiseBeside 0 = .ok (.aload_n 0, 1) := by decide +kernel
theorem dX11_raiseBeside_1 : decode cX11_raiseBeside 1 = .ok (.iload_n 3, 1) := by decide +kernel
theorem dX11_raiseBeside_2 : decode cX11_raiseBeside 2 = .ok (.iload 4, 2) := by decide +kernel
theorem dX11_raiseBeside_4 : decode cX11_raiseBeside 4 = .ok (.invokevirtual 76, 3) := by decide +kernel
theorem dX11_raiseBeside_7 : decode cX11_raiseBeside 7 = .ok (.ifCond .eq 33, 3) := by decide +kernel
theorem dX11_raiseBeside_10 : decode cX11_raiseBeside 10 = .ok (.aload_n 0, 1) := by decide +kernel
theorem dX11_raiseBeside_11 : decode cX11_raiseBeside 11 = .ok (.iload_n 3, 1) := by decide +kernel
theorem dX11_raiseBeside_12 : decode cX11_raiseBeside 12 = .ok (.iload 4, 2) := by decide +kernel
theorem dX11_raiseBeside_14 : decode cX11_raiseBeside 14 = .ok (.invokevirtual 15, 3) := by decide +kernel
theorem dX11_raiseBeside_17 : decode cX11_raiseBeside 17 = .ok (.iload 5, 2) := by decide +kernel
theorem dX11_raiseBeside_19 : decode cX11_raiseBeside 19 = .ok (.isub, 1) := by decide +kernel
theorem dX11_raiseBeside_20 : decode cX11_raiseBeside 20 = .ok (.istore 6, 2) := by decide +kernel
theorem dX11_raiseBeside_22 : decode cX11_raiseBeside 22 = .ok (.aload_n 0, 1) := by decide +kernel
theorem dX11_raiseBeside_23 : decode cX11_raiseBeside 23 = .ok (.iload_n 1, 1) := by decide +kernel
theorem dX11_raiseBeside_24 : decode cX11_raiseBeside 24 = .ok (.iload_n 2, 1) := by decide +kernel
theorem dX11_raiseBeside_25 : decode cX11_raiseBeside 25 = .ok (.aload_n 0, 1) := by decide +kernel
theorem dX11_raiseBeside_26 : decode cX11_raiseBeside 26 = .ok (.iload_n 1, 1) := by decide +kernel
theorem dX11_raiseBeside_27 : decode cX11_raiseBeside 27 = .ok (.iload_n 2, 1) := by decide +kernel
theorem dX11_raiseBeside_28 : decode cX11_raiseBeside 28 = .ok (.invokevirtual 15, 3) := by decide +kernel
theorem dX11_raiseBeside_31 : decode cX11_raiseBeside 31 = .ok (.iload 6, 2) := by decide +kernel
theorem dX11_raiseBeside_33 : decode cX11_raiseBeside 33 = .ok (.invokestatic 79, 3) := by decide +kernel
theorem dX11_raiseBeside_36 : decode cX11_raiseBeside 36 = .ok (.invokevirtual 54, 3) := by decide +kernel
theorem dX11_raiseBeside_39 : decode cX11_raiseBeside 39 = .ok (.pop, 1) := by decide +kernel
theorem dX11_raiseBeside_40 : decode cX11_raiseBeside 40 = .ok (.return_, 1) := by decide +kernel
theorem dX12_init_0 : decode cX12_init 0 = .ok (.aload_n 0, 1) := by decide +kernel
theorem dX12_init_1 : decode cX12_init 1 = .ok (.invokespecial 3, 3) := by decide +kernel
theorem dX12_init_4 : decode cX12_init 4 = .ok (.aload_n 0, 1) := by decide +kernel
theorem dX12_init_5 : decode cX12_init 5 = .ok (.new 9, 3) := by decide +kernel
theorem dX12_init_8 : decode cX12_init 8 = .ok (.dup, 1) := by decide +kernel
theorem dX12_init_9 : decode cX12_init 9 = .ok (.invokespecial 11, 3) := by decide +kernel
theorem dX12_init_12 : decode cX12_init 12 = .ok (.putfield 12, 3) := by decide +kernel
theorem dX12_init_15 : decode cX12_init 15 = .ok (.aload_n 0, 1) := by decide +kernel
theorem dX12_init_16 : decode cX12_init 16 = .ok (.new 9, 3) := by decide +kernel
theorem dX12_init_19 : decode cX12_init 19 = .ok (.dup, 1) := by decide +kernel
theorem dX12_init_20 : decode cX12_init 20 = .ok (.invokespecial 11, 3) := by decide +kernel
theorem dX12_init_23 : decode cX12_init 23 = .ok (.putfield 16, 3) := by decide +kernel
theorem dX12_init_26 : decode cX12_init 26 = .ok (.aload_n 0, 1) := by decide +kernel
theorem dX12_init_27 : decode cX12_init 27 = .ok (.iconst 2, 1) := by decide +kernel
theorem dX12_init_28 : decode cX12_init 28 = .ok (.anewarray 9, 3) := by decide +kernel
theorem dX12_init_31 : decode cX12_init 31 = .ok (.putfield 19, 3) := by decide +kernel
theorem dX12_init_34 : decode cX12_init 34 = .ok (.iconst 0, 1) := by decide +kernel
theorem dX12_init_35 : decode cX12_init 35 = .ok (.istore_n 1, 1) := by decide +kernel
theorem dX12_init_36 : decode cX12_init 36 = .ok (.iload_n 1, 1) := by decide +kernel
theorem dX12_init_37 : decode cX12_init 37 = .ok (.iconst 2, 1) := by decide +kernel
theorem dX12_init_38 : decode cX12_init 38 = .ok (.if_icmp .ge 22, 3) := by decide +kernel
theorem dX12_init_41 : decode cX12_init 41 = .ok (.aload_n 0, 1) := by decide +kernel
theorem dX12_init_42 : decode cX12_init 42 = .ok (.getfield 19, 3) := by decide +kernel
theorem dX12_init_45 : decode cX12_init 45 = .ok (.iload_n 1, 1) := by decide +kernel
theorem dX12_init_46 : decode cX12_init 46 = .ok (.new 9, 3) := by decide +kernel
theorem dX12_init_49 : decode cX12_init 49 = .ok (.dup, 1) := by decide +kernel
theorem dX12_init_50 : decode cX12_init 50 = .ok (.invokespecial 11, 3) := by decide +kernel
theorem dX12_init_53 : decode cX12_init 53 = .ok (.aastore, 1) := by decide +kernel
theorem dX12_init_54 : decode cX12_init 54 = .ok (.iinc 1 1, 3) := by decide +kernel
theorem dX12_init_57 : decode cX12_init 57 = .ok (.goto (-21), 3) := by decide +kernel
theorem dX12_init_60 : decode cX12_init 60 = .ok (.aload_n 0, 1) := by decide +kernel
theorem dX12_init_61 : decode cX12_init 61 = .ok (.iconst 2, 1) := by decide +kernel
theorem dX12_init_62 : decode cX12_init 62 = .ok (.newarray .boolean, 2) := by decide +kernel
theorem dX12_init_64 : decode cX12_init 64 = .ok (.putfield 23, 3) := by decide +kernel
theorem dX12_init_67 : decode cX12_init 67 = .ok (.aload_n 0, 1) := by decide +kernel
theorem dX12_init_68 : decode cX12_init 68 = .ok (.new 27, 3) := by decide +kernel
theorem dX12_init_71 : decode cX12_init 71 = .ok (.dup, 1) := by decide +kernel
theorem dX12_init_72 : decode cX12_init 72 = .ok (.invokespecial 29, 3) := by decide +kernel
theorem dX12_init_75 : decode cX12_init 75 = .ok (.putfield 30, 3) := by decide +kernel
theorem dX12_init_78 : decode cX12_init 78 = .ok (.aload_n 0, 1) := by decide +kernel
theorem dX12_init_79 : decode cX12_init 79 = .ok (.new 34, 3) := by decide +kernel
theorem dX12_init_82 : decode cX12_init 82 = .ok (.dup, 1) := by decide +kernel
theorem dX12_init_83 : decode cX12_init 83 = .ok (.invokespecial 36, 3) := by decide +kernel
theorem dX12_init_86 : decode cX12_init 86 = .ok (.putfield 37, 3) := by decide +kernel
theorem dX12_init_89 : decode cX12_init 89 = .ok (.aload_n 0, 1) := by decide +kernel
theorem dX12_init_90 : decode cX12_init 90 = .ok (.new 41, 3) := by decide +kernel
theorem dX12_init_93 : decode cX12_init 93 = .ok (.dup, 1) := by decide +kernel
theorem dX12_init_94 : decode cX12_init 94 = .ok (.aload_n 0, 1) := by decide +kernel
theorem dX12_init_95 : decode cX12_init 95 = .ok (.getfield 12, 3) := by decide +kernel
theorem dX12_init_98 : decode cX12_init 98 = .ok (.invokespecial 43, 3) := by decide +kernel
theorem dX12_init_101 : decode cX12_init 101 = .ok (.putfield 46, 3) := by decide +kernel
theorem dX12_init_104 : decode cX12_init 104 = .ok (.aload_n 0, 1) := by decide +kernel
theorem dX12_init_105 : decode cX12_init 105 = .ok (.new 50, 3) := by decide +kernel
theorem dX12_init_108 : decode cX12_init 108 = .ok (.dup, 1) := by decide +kernel
theorem dX12_init_109 : decode cX12_init 109 = .ok (.invokespecial 52, 3) := by decide +kernel
theorem dX12_init_112 : decode cX12_init 112 = .ok (.putfield 53, 3) := by decide +kernel
theorem dX12_init_115 : decode cX12_init 115 = .ok (.aload_n 0, 1) := by decide +kernel
theorem dX12_init_116 : decode cX12_init 116 = .ok (.new 57, 3) := by decide +kernel
theorem dX12_init_119 : decode cX12_init 119 = .ok (.dup, 1) := by decide +kernel
theorem dX12_init_120 : decode cX12_init 120 = .ok (.invokespecial 59, 3) := by decide +kernel
theorem dX12_init_123 : decode cX12_init 123 = .ok (.putfield 60, 3) := by decide +kernel
theorem dX12_init_126 : decode cX12_init 126 = .ok (.aload_n 0, 1) := by decide +kernel
theorem dX12_init_127 : decode cX12_init 127 = .ok (.new 64, 3) := by decide +kernel
theorem dX12_init_130 : decode cX12_init 130 = .ok (.dup, 1) := by decide +kernel
theorem dX12_init_131 : decode cX12_init 131 = .ok (.aload_n 0, 1) := by decide +kernel
theorem dX12_init_132 : decode cX12_init 132 = .ok (.getfield 60, 3) := by decide +kernel
theorem dX12_init_135 : decode cX12_init 135 = .ok (.aload_n 0, 1) := by decide +kernel
theorem dX12_init_136 : decode cX12_init 136 = .ok (.getfield 16, 3) := by decide +kernel
theorem dX12_init_139 : decode cX12_init 139 = .ok (.invokespecial 66, 3) := by decide +kernel
theorem dX12_init_142 : decode cX12_init 142 = .ok (.putfield 69, 3) := by decide +kernel
theorem dX12_init_145 : decode cX12_init 145 = .ok (.aload_n 0, 1) := by decide +kernel
theorem dX12_init_146 : decode cX12_init 146 = .ok (.new 73, 3) := by decide +kernel
theorem dX12_init_149 : decode cX12_init 149 = .ok (.dup, 1) := by decide +kernel
theorem dX12_init_150 : decode cX12_init 150 = .ok (.aload_n 0, 1) := by decide +kernel
theorem dX12_init_151 : decode cX12_init 151 = .ok (.getfield 60, 3) := by decide +kernel
theorem dX12_init_154 : decode cX12_init 154 = .ok (.invokespecial 75, 3) := by decide +kernel
theorem dX12_init_157 : decode cX12_init 157 = .ok (.putfield 78, 3) := by decide +kernel
theorem dX12_init_160 : decode cX12_init 160 = .ok (.aload_n 0, 1) := by decide +kernel
theorem dX12_init_161 : decode cX12_init 161 = .ok (.sipush 576, 3) := by decide +kernel
theorem dX12_init_164 : decode cX12_init 164 = .ok (.newarray .byte, 2) := by decide +kernel
theorem dX12_init_166 : decode cX12_init 166 = .ok (.putfield 82, 3) := by decide +kernel
theorem dX12_init_169 : decode cX12_init 169 = .ok (.aload_n 0, 1) := by decide +kernel
theorem dX12_init_170 : decode cX12_init 170 = .ok (.iconst (-1), 1) := by decide +kernel
theorem dX12_init_171 : decode cX12_init 171 = .ok (.putfield 86, 3) := by decide +kernel
theorem dX12_init_174 : decode cX12_init 174 = .ok (.return_, 1) := by decide +kernel
theorem dX12_feed_0 : decode cX12_feed 0 = .ok (.aload_n 0, 1) := by decide +kernel
theorem dX12_feed_1 : decode cX12_feed 1 = .ok (.getfield 60, 3) := by decide +kernel
theorem dX12_feed_4 : decode cX12_feed 4 = .ok (.bipush 20, 2) := by decide +kernel
theorem dX12_feed_6 : decode cX12_feed 6 = .ok (.invokevirtual 90, 3) := by decide +kernel
theorem dX12_feed_9 : decode cX12_feed 9 = .ok (.ifCond .ne 11, 3) := by decide +kernel
theorem dX12_feed_12 : decode cX12_feed 12 = .ok (.new 94, 3) := by decide +kernel
theorem dX12_feed_15 : decode cX12_feed 15 = .ok (.dup, 1) := by decide +kernel
theorem dX12_feed_16 : decode cX12_feed 16 = .ok (.invokespecial 96, 3) := by decide +kernel
theorem dX12_feed_19 : decode cX12_feed 19 = .ok (.athrow, 1) := by decide +kernel
theorem dX12_feed_20 : decode cX12_feed 20 = .ok (.aload_n 0, 1) := by decide +kernel
theorem dX12_feed_21 : decode cX12_feed 21 = .ok (.getfield 60, 3) := by decide +kernel
theorem dX12_feed_24 : decode cX12_feed 24 = .ok (.iload_n 1, 1) := by decide +kernel
theorem dX12_feed_25 : decode cX12_feed 25 = .ok (.invokevirtual 97, 3) := by decide +kernel
theorem dX12_feed_28 : decode cX12_feed 28 = .ok (.aload_n 0, 1) := by decide +kernel
theorem dX12_feed_29 : decode cX12_feed 29 = .ok (.getfield 60, 3) := by decide +kernel
theorem dX12_feed_32 : decode cX12_feed 32 = .ok (.iload_n 2, 1) := by decide +kernel
theorem dX12_feed_33 : decode cX12_feed 33 = .ok (.invokevirtual 97, 3) := by decide +kernel
theorem dX12_feed_36 : decode cX12_feed 36 = .ok (.aload_n 0, 1) := by decide +kernel
theorem dX12_feed_37 : decode cX12_feed 37 = .ok (.getfield 60, 3) := by decide +kernel
theorem dX12_feed_40 : decode cX12_feed 40 = .ok (.iload_n 3, 1) := by decide +kernel
theorem dX12_feed_41 : decode cX12_feed 41 = .ok (.invokevirtual 97, 3) := by decide +kernel
theorem dX12_feed_44 : decode cX12_feed 44 = .ok (.aload_n 0, 1) := by decide +kernel
theorem dX12_feed_45 : decode cX12_feed 45 = .ok (.getfield 60, 3) := by decide +kernel
theorem dX12_feed_48 : decode cX12_feed 48 = .ok (.iload 4, 2) := by decide +kernel
theorem dX12_feed_50 : decode cX12_feed 50 = .ok (.invokevirtual 97, 3) := by decide +kernel
theorem dX12_feed_53 : decode cX12_feed 53 = .ok (.aload_n 0, 1) := by decide +kernel
theorem dX12_feed_54 : decode cX12_feed 54 = .ok (.getfield 60, 3) := by decide +kernel
theorem dX12_feed_57 : decode cX12_feed 57 = .ok (.iload 5, 2) := by decide +kernel
theorem dX12_feed_59 : decode cX12_feed 59 = .ok (.invokevirtual 97, 3) := by decide +kernel
theorem dX12_feed_62 : decode cX12_feed 62 = .ok (.aload_n 0, 1) := by decide +kernel
theorem dX12_feed_63 : decode cX12_feed 63 = .ok (.getfield 60, 3) := by decide +kernel
theorem dX12_feed_66 : decode cX12_feed 66 = .ok (.getfield 101, 3) := by decide +kernel
theorem dX12_feed_69 : decode cX12_feed 69 = .ok (.ireturn, 1) := by decide +kernel
theorem dX12_truncate_0 : decode cX12_truncate 0 = .ok (.iload_n 1, 1) := by decide +kernel
theorem dX12_truncate_1 : decode cX12_truncate 1 = .ok (.ifCond .lt 14, 3) := by decide +kernel
theorem dX12_truncate_4 : decode cX12_truncate 4 = .ok (.iload_n 1, 1) := by decide +kernel
theorem dX12_truncate_5 : decode cX12_truncate 5 = .ok (.aload_n 0, 1) := by decide +kernel
theorem dX12_truncate_6 : decode cX12_truncate 6 = .ok (.getfield 60, 3) := by decide +kernel
theorem dX12_truncate_9 : decode cX12_truncate 9 = .ok (.getfield 101, 3) := by decide +kernel
theorem dX12_truncate_12 : decode cX12_truncate 12 = .ok (.if_icmp .le 11, 3) := by decide +kernel
theorem dX12_truncate_15 : decode cX12_truncate 15 = .ok (.new 104, 3) := by decide +kernel
theorem dX12_truncate_18 : decode cX12_truncate 18 = .ok (.dup, 1) := by decide +kernel
theorem dX12_truncate_19 : decode cX12_truncate 19 = .ok (.invokespecial 106, 3) := by decide +kernel
theorem dX12_truncate_22 : decode cX12_truncate 22 = .ok (.athrow, 1) := by decide +kernel
theorem dX12_truncate_23 : decode cX12_truncate 23 = .ok (.aload_n 0, 1) := by decide +kernel
theorem dX12_truncate_24 : decode cX12_truncate 24 = .ok (.getfield 60, 3) := by decide +kernel
theorem dX12_truncate_27 : decode cX12_truncate 27 = .ok (.iload_n 1, 1) := by decide +kernel
theorem dX12_truncate_28 : decode cX12_truncate 28 = .ok (.putfield 101, 3) := by decide +kernel
theorem dX12_truncate_31 : decode cX12_truncate 31 = .ok (.iload_n 1, 1) := by decide +kernel
theorem dX12_truncate_32 : decode cX12_truncate 32 = .ok (.ireturn, 1) := by decide +kernel
theorem dX12_readText_0 : decode cX12_readText 0 = .ok (.aload_n 0, 1) := by decide +kernel
theorem dX12_readText_1 : decode cX12_readText 1 = .ok (.getfield 69, 3) := by decide +kernel
theorem dX12_readText_4 : decode cX12_readText 4 = .ok (.invokevirtual 107, 3) := by decide +kernel
theorem dX12_readText_7 : decode cX12_readText 7 = .ok (.istore_n 1, 1) := by decide +kernel
theorem dX12_readText_8 : decode cX12_readText 8 = .ok (.aload_n 0, 1) := by decide +kernel
theorem dX12_readText_9 : decode cX12_readText 9 = .ok (.invokevirtual 111, 3) := by decide +kernel
theorem dX12_readText_12 : decode cX12_readText 12 = .ok (.iload_n 1, 1) := by decide +kernel
theorem dX12_readText_13 : decode cX12_readText 13 = .ok (.ifCond .ne 11, 3) := by decide +kernel
theorem dX12_readText_16 : decode cX12_readText 16 = .ok (.new 104, 3) := by decide +kernel
theorem dX12_readText_19 : decode cX12_readText 19 = .ok (.dup, 1) := by decide +kernel
theorem dX12_readText_20 : decode cX12_readText 20 = .ok (.invokespecial 106, 3) := by decide +kernel
theorem dX12_readText_23 : decode cX12_readText 23 = .ok (.athrow, 1) := by decide +kernel
theorem dX12_readText_24 : decode cX12_readText 24 = .ok (.aload_n 0, 1) := by decide +kernel
theorem dX12_readText_25 : decode cX12_readText 25 = .ok (.getfield 12, 3) := by decide +kernel
theorem dX12_readText_28 : decode cX12_readText 28 = .ok (.aload_n 0, 1) := by decide +kernel
theorem dX12_readText_29 : decode cX12_readText 29 = .ok (.getfield 16, 3) := by decide +kernel
theorem dX12_readText_32 : decode cX12_readText 32 = .ok (.invokevirtual 114, 3) := by decide +kernel
theorem dX12_readText_35 : decode cX12_readText 35 = .ok (.aload_n 0, 1) := by decide +kernel
theorem dX12_readText_36 : decode cX12_readText 36 = .ok (.getfield 30, 3) := by decide +kernel
theorem dX12_readText_39 : decode cX12_readText 39 = .ok (.invokevirtual 117, 3) := by decide +kernel
theorem dX12_readText_42 : decode cX12_readText 42 = .ok (.aload_n 0, 1) := by decide +kernel
theorem dX12_readText_43 : decode cX12_readText 43 = .ok (.getfield 69, 3) := by decide +kernel
theorem dX12_readText_46 : decode cX12_readText 46 = .ok (.getfield 120, 3) := by decide +kernel
theorem dX12_readText_49 : decode cX12_readText 49 = .ok (.ireturn, 1) := by decide +kernel
theorem dX12_endText_0 : decode cX12_endText 0 = .ok (.aload_n 0, 1) := by decide +kernel
theorem dX12_endText_1 : decode cX12_endText 1 = .ok (.aload_n 0, 1) := by decide +kernel
theorem dX12_endText_2 : decode cX12_endText 2 = .ok (.getfield 60, 3) := by decide +kernel
theorem dX12_endText_5 : decode cX12_endText 5 = .ok (.getfield 142, 3) := by decide +kernel
theorem dX12_endText_8 : decode cX12_endText 8 = .ok (.putfield 145, 3) := by decide +kernel
theorem dX12_endText_11 : decode cX12_endText 11 = .ok (.aload_n 0, 1) := by decide +kernel
theorem dX12_endText_12 : decode cX12_endText 12 = .ok (.aload_n 0, 1) := by decide +kernel
theorem dX12_endText_13 : decode cX12_endText 13 = .ok (.getfield 60, 3) := by decide +kernel
theorem dX12_endText_16 : decode cX12_endText 16 = .ok (.getfield 142, 3) := by decide +kernel
theorem dX12_endText_19 : decode cX12_endText 19 = .ok (.ifCond .ne 7, 3) := by decide +kernel
theorem dX12_endText_22 : decode cX12_endText 22 = .ok (.iconst (-1), 1) := by decide +kernel
theorem dX12_endText_23 : decode cX12_endText 23 = .ok (.goto 10, 3) := by decide +kernel
theorem dX12_endText_26 : decode cX12_endText 26 = .ok (.aload_n 0, 1) := by decide +kernel
theorem dX12_endText_27 : decode cX12_endText 27 = .ok (.getfield 60, 3) := by decide +kernel
theorem dX12_endText_30 : decode cX12_endText 30 = .ok (.getfield 148, 3) := by decide +kernel
theorem dX12_endText_33 : decode cX12_endText 33 = .ok (.putfield 86, 3) := by decide +kernel
theorem dX12_endText_36 : decode cX12_endText 36 = .ok (.aload_n 0, 1) := by decide +kernel
theorem dX12_endText_37 : decode cX12_endText 37 = .ok (.getfield 60, 3) := by decide +kernel
theorem dX12_endText_40 : decode cX12_endText 40 = .ok (.iconst 0, 1) := by decide +kernel
theorem dX12_endText_41 : decode cX12_endText 41 = .ok (.putfield 101, 3) := by decide +kernel
theorem dX12_endText_44 : decode cX12_endText 44 = .ok (.return_, 1) := by decide +kernel
theorem dX12_tone_0 : decode cX12_tone 0 = .ok (.aload_n 0, 1) := by decide +kernel
theorem dX12_tone_1 : decode cX12_tone 1 = .ok (.iload_n 1, 1) := by decide +kernel
theorem dX12_tone_2 : decode cX12_tone 2 = .ok (.iload_n 2, 1) := by decide +kernel
theorem dX12_tone_3 : decode cX12_tone 3 = .ok (.invokevirtual 268, 3) := by decide +kernel
theorem dX12_tone_6 : decode cX12_tone 6 = .ok (.aload_n 0, 1) := by decide +kernel
theorem dX12_tone_7 : decode cX12_tone 7 = .ok (.getfield 12, 3) := by decide +kernel
theorem dX12_tone_10 : decode cX12_tone 10 = .ok (.iload_n 1, 1) := by decide +kernel
theorem dX12_tone_11 : decode cX12_tone 11 = .ok (.iload_n 2, 1) := by decide +kernel
theorem dX12_tone_12 : decode cX12_tone 12 = .ok (.invokevirtual 272, 3) := by decide +kernel
theorem dX12_tone_15 : decode cX12_tone 15 = .ok (.ireturn, 1) := by decide +kernel
theorem dX12_height_0 : decode cX12_height 0 = .ok (.aload_n 0, 1) := by decide +kernel
theorem dX12_height_1 : decode cX12_height 1 = .ok (.iload_n 1, 1) := by decide +kernel
theorem dX12_height_2 : decode cX12_height 2 = .ok (.iload_n 2, 1) := by decide +kernel
theorem dX12_height_3 : decode cX12_height 3 = .ok (.invokevirtual 268, 3) := by decide +kernel
theorem dX12_height_6 : decode cX12_height 6 = .ok (.aload_n 0, 1) := by decide +kernel
theorem dX12_height_7 : decode cX12_height 7 = .ok (.getfield 12, 3) := by decide +kernel
theorem dX12_height_10 : decode cX12_height 10 = .ok (.iload_n 1, 1) := by decide +kernel
theorem dX12_height_11 : decode cX12_height 11 = .ok (.iload_n 2, 1) := by decide +kernel
theorem dX12_height_12 : decode cX12_height 12 = .ok (.invokevirtual 275, 3) := by decide +kernel
theorem dX12_height_15 : decode cX12_height 15 = .ok (.ireturn, 1) := by decide +kernel
theorem dX12_volume_0 : decode cX12_volume 0 = .ok (.aload_n 0, 1) := by decide +kernel
theorem dX12_volume_1 : decode cX12_volume 1 = .ok (.getfield 12, 3) := by decide +kernel
theorem dX12_volume_4 : decode cX12_volume 4 = .ok (.invokevirtual 278, 3) := by decide +kernel
theorem dX12_volume_7 : decode cX12_volume 7 = .ok (.ireturn, 1) := by decide +kernel
theorem dX12_cellsOf_0 : decode cX12_cellsOf 0 = .ok (.aload_n 0, 1) := by decide +kernel
theorem dX12_cellsOf_1 : decode cX12_cellsOf 1 = .ok (.iload_n 1, 1) := by decide +kernel
theorem dX12_cellsOf_2 : decode cX12_cellsOf 2 = .ok (.invokevirtual 281, 3) := by decide +kernel
theorem dX12_cellsOf_5 : decode cX12_cellsOf 5 = .ok (.aload_n 0, 1) := by decide +kernel
theorem dX12_cellsOf_6 : decode cX12_cellsOf 6 = .ok (.getfield 12, 3) := by decide +kernel
theorem dX12_cellsOf_9 : decode cX12_cellsOf 9 = .ok (.iload_n 1, 1) := by decide +kernel
theorem dX12_cellsOf_10 : decode cX12_cellsOf 10 = .ok (.invokevirtual 284, 3) := by decide +kernel
theorem dX12_cellsOf_13 : decode cX12_cellsOf 13 = .ok (.ireturn, 1) := by decide +kernel
theorem dX12_steepest_0 : decode cX12_steepest 0 = .ok (.aload_n 0, 1) := by decide +kernel
theorem dX12_steepest_1 : decode cX12_steepest 1 = .ok (.getfield 12, 3) := by decide +kernel
theorem dX12_steepest_4 : decode cX12_steepest 4 = .ok (.invokevirtual 287, 3) := by decide +kernel
theorem dX12_steepest_7 : decode cX12_steepest 7 = .ok (.ireturn, 1) := by decide +kernel
theorem dX12_checkCell_0 : decode cX12_checkCell 0 = .ok (.aload_n 0, 1) := by decide +kernel
theorem dX12_checkCell_1 : decode cX12_checkCell 1 = .ok (.getfield 12, 3) := by decide +kernel
theorem dX12_checkCell_4 : decode cX12_checkCell 4 = .ok (.iload_n 1, 1) := by decide +kernel
theorem dX12_checkCell_5 : decode cX12_checkCell 5 = .ok (.iload_n 2, 1) := by decide +kernel
theorem dX12_checkCell_6 : decode cX12_checkCell 6 = .ok (.invokevirtual 209, 3) := by decide +kernel
theorem dX12_checkCell_9 : decode cX12_checkCell 9 = .ok (.ifCond .ne 11, 3) := by decide +kernel
theorem dX12_checkCell_12 : decode cX12_checkCell 12 = .ok (.new 290, 3) := by decide +kernel
theorem dX12_checkCell_15 : decode cX12_checkCell 15 = .ok (.dup, 1) := by decide +kernel
theorem dX12_checkCell_16 : decode cX12_checkCell 16 = .ok (.invokespecial 292, 3) := by decide +kernel
theorem dX12_checkCell_19 : decode cX12_checkCell 19 = .ok (.athrow, 1) := by decide +kernel
theorem dX12_checkCell_20 : decode cX12_checkCell 20 = .ok (.return_, 1) := by decide +kernel
theorem dX12_checkStep_0 : decode cX12_checkStep 0 = .ok (.iload_n 1, 1) := by decide +kernel
theorem dX12_checkStep_1 : decode cX12_checkStep 1 = .ok (.ifCond .lt 14, 3) := by decide +kernel
theorem dX12_checkStep_4 : decode cX12_checkStep 4 = .ok (.iload_n 1, 1) := by decide +kernel
theorem dX12_checkStep_5 : decode cX12_checkStep 5 = .ok (.aload_n 0, 1) := by decide +kernel
theorem dX12_checkStep_6 : decode cX12_checkStep 6 = .ok (.getfield 12, 3) := by decide +kernel
theorem dX12_checkStep_9 : decode cX12_checkStep 9 = .ok (.getfield 253, 3) := by decide +kernel
theorem dX12_checkStep_12 : decode cX12_checkStep 12 = .ok (.if_icmp .le 11, 3) := by decide +kernel
theorem dX12_checkStep_15 : decode cX12_checkStep 15 = .ok (.new 104, 3) := by decide +kernel
theorem dX12_checkStep_18 : decode cX12_checkStep 18 = .ok (.dup, 1) := by decide +kernel
theorem dX12_checkStep_19 : decode cX12_checkStep 19 = .ok (.invokespecial 106, 3) := by decide +kernel
theorem dX12_checkStep_22 : decode cX12_checkStep 22 = .ok (.athrow, 1) := by decide +kernel
theorem dX12_checkStep_23 : decode cX12_checkStep 23 = .ok (.return_, 1) := by decide +kernel
theorem dX12_checkTone_0 : decode cX12_checkTone 0 = .ok (.iload_n 1, 1) := by decide +kernel
theorem dX12_checkTone_1 : decode cX12_checkTone 1 = .ok (.invokestatic 213, 3) := by decide +kernel
theorem dX12_checkTone_4 : decode cX12_checkTone 4 = .ok (.ifCond .ne 11, 3) := by decide +kernel
theorem dX12_checkTone_7 : decode cX12_checkTone 7 = .ok (.new 104, 3) := by decide +kernel
theorem dX12_checkTone_10 : decode cX12_checkTone 10 = .ok (.dup, 1) := by decide +kernel
theorem dX12_checkTone_11 : decode cX12_checkTone 11 = .ok (.invokespecial 106, 3) := by decide +kernel
theorem dX12_checkTone_14 : decode cX12_checkTone 14 = .ok (.athrow, 1) := by decide +kernel
theorem dX12_checkTone_15 : decode cX12_checkTone 15 = .ok (.return_, 1) := by decide +kernel
theorem dX12_checkLayer_0 : decode cX12_checkLayer 0 = .ok (.iload_n 1, 1) := by decide +kernel
theorem dX12_checkLayer_1 : decode cX12_checkLayer 1 = .ok (.iconst 1, 1) := by decide +kernel
theorem dX12_checkLayer_2 : decode cX12_checkLayer 2 = .ok (.if_icmp .lt 14, 3) := by decide +kernel
theorem dX12_checkLayer_5 : decode cX12_checkLayer 5 = .ok (.iload_n 1, 1) := by decide +kernel
theorem dX12_checkLayer_6 : decode cX12_checkLayer 6 = .ok (.aload_n 0, 1) := by decide +kernel
theorem dX12_checkLayer_7 : decode cX12_checkLayer 7 = .ok (.getfield 12, 3) := by decide +kernel
theorem dX12_checkLayer_10 : decode cX12_checkLayer 10 = .ok (.getfield 253, 3) := by decide +kernel
theorem dX12_checkLayer_13 : decode cX12_checkLayer 13 = .ok (.if_icmp .le 11, 3) := by decide +kernel
theorem dX12_checkLayer_16 : decode cX12_checkLayer 16 = .ok (.new 104, 3) := by decide +kernel
theorem dX12_checkLayer_19 : decode cX12_checkLayer 19 = .ok (.dup, 1) := by decide +kernel
theorem dX12_checkLayer_20 : decode cX12_checkLayer 20 = .ok (.invokespecial 106, 3) := by decide +kernel
theorem dX12_checkLayer_23 : decode cX12_checkLayer 23 = .ok (.athrow, 1) := by decide +kernel
theorem dX12_checkLayer_24 : decode cX12_checkLayer 24 = .ok (.return_, 1) := by decide +kernel
theorem dX12_heightFor_0 : decode cX12_heightFor 0 = .ok (.aload_n 0, 1) := by decide +kernel
theorem dX12_heightFor_1 : decode cX12_heightFor 1 = .ok (.iload_n 1, 1) := by decide +kernel
theorem dX12_heightFor_2 : decode cX12_heightFor 2 = .ok (.invokevirtual 297, 3) := by decide +kernel
theorem dX12_heightFor_5 : decode cX12_heightFor 5 = .ok (.aload_n 0, 1) := by decide +kernel
theorem dX12_heightFor_6 : decode cX12_heightFor 6 = .ok (.getfield 12, 3) := by decide +kernel
theorem dX12_heightFor_9 : decode cX12_heightFor 9 = .ok (.iload_n 1, 1) := by decide +kernel
theorem dX12_heightFor_10 : decode cX12_heightFor 10 = .ok (.invokestatic 300, 3) := by decide +kernel
theorem dX12_heightFor_13 : decode cX12_heightFor 13 = .ok (.invokevirtual 303, 3) := by decide +kernel
theorem dX12_heightFor_16 : decode cX12_heightFor 16 = .ok (.ireturn, 1) := by decide +kernel
theorem dX12_fingerprint_0 : decode cX12_fingerprint 0 = .ok (.aload_n 0, 1) := by decide +kernel
theorem dX12_fingerprint_1 : decode cX12_fingerprint 1 = .ok (.getfield 12, 3) := by decide +kernel
theorem dX12_fingerprint_4 : decode cX12_fingerprint 4 = .ok (.invokestatic 325, 3) := by decide +kernel
theorem dX12_fingerprint_7 : decode cX12_fingerprint 7 = .ok (.ireturn, 1) := by decide +kernel
theorem dX12_thinCells_0 : decode cX12_thinCells 0 = .ok (.aload_n 0, 1) := by decide +kernel
theorem dX12_thinCells_1 : decode cX12_thinCells 1 = .ok (.getfield 37, 3) := by decide +kernel
theorem dX12_thinCells_4 : decode cX12_thinCells 4 = .ok (.aload_n 0, 1) := by decide +kernel
theorem dX12_thinCells_5 : decode cX12_thinCells 5 = .ok (.getfield 12, 3) := by decide +kernel
theorem dX12_thinCells_8 : decode cX12_thinCells 8 = .ok (.invokevirtual 341, 3) := by decide +kernel
theorem dX12_thinCells_11 : decode cX12_thinCells 11 = .ok (.ireturn, 1) := by decide +kernel
theorem dX12_repair_0 : decode cX12_repair 0 = .ok (.aload_n 0, 1) := by decide +kernel
theorem dX12_repair_1 : decode cX12_repair 1 = .ok (.getfield 30, 3) := by decide +kernel
theorem dX12_repair_4 : decode cX12_repair 4 = .ok (.aload_n 0, 1) := by decide +kernel
theorem dX12_repair_5 : decode cX12_repair 5 = .ok (.getfield 12, 3) := by decide +kernel
theorem dX12_repair_8 : decode cX12_repair 8 = .ok (.invokevirtual 126, 3) := by decide +kernel
theorem dX12_repair_11 : decode cX12_repair 11 = .ok (.aload_n 0, 1) := by decide +kernel
theorem dX12_repair_12 : decode cX12_repair 12 = .ok (.getfield 37, 3) := by decide +kernel
theorem dX12_repair_15 : decode cX12_repair 15 = .ok (.aload_n 0, 1) := by decide +kernel
theorem dX12_repair_16 : decode cX12_repair 16 = .ok (.getfield 12, 3) := by decide +kernel
theorem dX12_repair_19 : decode cX12_repair 19 = .ok (.invokevirtual 186, 3) := by decide +kernel
theorem dX12_repair_22 : decode cX12_repair 22 = .ok (.istore_n 1, 1) := by decide +kernel
theorem dX12_repair_23 : decode cX12_repair 23 = .ok (.aload_n 0, 1) := by decide +kernel
theorem dX12_repair_24 : decode cX12_repair 24 = .ok (.getfield 30, 3) := by decide +kernel
theorem dX12_repair_27 : decode cX12_repair 27 = .ok (.aload_n 0, 1) := by decide +kernel
theorem dX12_repair_28 : decode cX12_repair 28 = .ok (.getfield 12, 3) := by decide +kernel
theorem dX12_repair_31 : decode cX12_repair 31 = .ok (.invokevirtual 139, 3) := by decide +kernel
theorem dX12_repair_34 : decode cX12_repair 34 = .ok (.iload_n 1, 1) := by decide +kernel
theorem dX12_repair_35 : decode cX12_repair 35 = .ok (.ireturn, 1) := by decide +kernel
theorem dX12_smooth_0 : decode cX12_smooth 0 = .ok (.iload_n 1, 1) := by decide +kernel
theorem dX12_smooth_1 : decode cX12_smooth 1 = .ok (.invokestatic 240, 3) := by decide +kernel
theorem dX12_smooth_4 : decode cX12_smooth 4 = .ok (.ifCond .ne 11, 3) := by decide +kernel
theorem dX12_smooth_7 : decode cX12_smooth 7 = .ok (.new 104, 3) := by decide +kernel
theorem dX12_smooth_10 : decode cX12_smooth 10 = .ok (.dup, 1) := by decide +kernel
theorem dX12_smooth_11 : decode cX12_smooth 11 = .ok (.invokespecial 106, 3) := by decide +kernel
theorem dX12_smooth_14 : decode cX12_smooth 14 = .ok (.athrow, 1) := by decide +kernel
theorem dX12_smooth_15 : decode cX12_smooth 15 = .ok (.aload_n 0, 1) := by decide +kernel
theorem dX12_smooth_16 : decode cX12_smooth 16 = .ok (.getfield 30, 3) := by decide +kernel
theorem dX12_smooth_19 : decode cX12_smooth 19 = .ok (.aload_n 0, 1) := by decide +kernel
theorem dX12_smooth_20 : decode cX12_smooth 20 = .ok (.getfield 12, 3) := by decide +kernel
theorem dX12_smooth_23 : decode cX12_smooth 23 = .ok (.invokevirtual 126, 3) := by decide +kernel
theorem dX12_smooth_26 : decode cX12_smooth 26 = .ok (.aload_n 0, 1) := by decide +kernel
theorem dX12_smooth_27 : decode cX12_smooth 27 = .ok (.getfield 12, 3) := by decide +kernel
theorem dX12_smooth_30 : decode cX12_smooth 30 = .ok (.aload_n 0, 1) := by decide +kernel
theorem dX12_smooth_31 : decode cX12_smooth 31 = .ok (.getfield 16, 3) := by decide +kernel
theorem dX12_smooth_34 : decode cX12_smooth 34 = .ok (.iload_n 1, 1) := by decide +kernel
theorem dX12_smooth_35 : decode cX12_smooth 35 = .ok (.invokestatic 243, 3) := by decide +kernel
theorem dX12_smooth_38 : decode cX12_smooth 38 = .ok (.istore_n 2, 1) := by decide +kernel
theorem dX12_smooth_39 : decode cX12_smooth 39 = .ok (.aload_n 0, 1) := by decide +kernel
theorem dX12_smooth_40 : decode cX12_smooth 40 = .ok (.getfield 30, 3) := by decide +kernel
theorem dX12_smooth_43 : decode cX12_smooth 43 = .ok (.aload_n 0, 1) := by decide +kernel
theorem dX12_smooth_44 : decode cX12_smooth 44 = .ok (.getfield 12, 3) := by decide +kernel
theorem dX12_smooth_47 : decode cX12_smooth 47 = .ok (.invokevirtual 139, 3) := by decide +kernel
theorem dX12_smooth_50 : decode cX12_smooth 50 = .ok (.iload_n 2, 1) := by decide +kernel
theorem dX12_smooth_51 : decode cX12_smooth 51 = .ok (.ireturn, 1) := by decide +kernel
theorem dX12_repairLoss_0 : decode cX12_repairLoss 0 = .ok (.aload_n 0, 1) := by decide +kernel
theorem dX12_repairLoss_1 : decode cX12_repairLoss 1 = .ok (.getfield 16, 3) := by decide +kernel
theorem dX12_repairLoss_4 : decode cX12_repairLoss 4 = .ok (.aload_n 0, 1) := by decide +kernel
theorem dX12_repairLoss_5 : decode cX12_repairLoss 5 = .ok (.getfield 12, 3) := by decide +kernel
theorem dX12_repairLoss_8 : decode cX12_repairLoss 8 = .ok (.invokevirtual 114, 3) := by decide +kernel
theorem dX12_repairLoss_11 : decode cX12_repairLoss 11 = .ok (.aload_n 0, 1) := by decide +kernel
theorem dX12_repairLoss_12 : decode cX12_repairLoss 12 = .ok (.getfield 37, 3) := by decide +kernel
theorem dX12_repairLoss_15 : decode cX12_repairLoss 15 = .ok (.aload_n 0, 1) := by decide +kernel
theorem dX12_repairLoss_16 : decode cX12_repairLoss 16 = .ok (.getfield 16, 3) := by decide +kernel
theorem dX12_repairLoss_19 : decode cX12_repairLoss 19 = .ok (.invokevirtual 186, 3) := by decide +kernel
theorem dX12_repairLoss_22 : decode cX12_repairLoss 22 = .ok (.pop, 1) := by decide +kernel
theorem dX12_repairLoss_23 : decode cX12_repairLoss 23 = .ok (.aload_n 0, 1) := by decide +kernel
theorem dX12_repairLoss_24 : decode cX12_repairLoss 24 = .ok (.getfield 12, 3) := by decide +kernel
theorem dX12_repairLoss_27 : decode cX12_repairLoss 27 = .ok (.invokevirtual 278, 3) := by decide +kernel
theorem dX12_repairLoss_30 : decode cX12_repairLoss 30 = .ok (.aload_n 0, 1) := by decide +kernel
theorem dX12_repairLoss_31 : decode cX12_repairLoss 31 = .ok (.getfield 16, 3) := by decide +kernel
theorem dX12_repairLoss_34 : decode cX12_repairLoss 34 = .ok (.invokevirtual 278, 3) := by decide +kernel
theorem dX12_repairLoss_37 : decode cX12_repairLoss 37 = .ok (.isub, 1) := by decide +kernel
theorem dX12_repairLoss_38 : decode cX12_repairLoss 38 = .ok (.ireturn, 1) := by decide +kernel
theorem dX12_supportedCells_0 : decode cX12_supportedCells 0 = .ok (.aload_n 0, 1) := by decide +kernel
theorem dX12_supportedCells_1 : decode cX12_supportedCells 1 = .ok (.getfield 12, 3) := by decide +kernel
theorem dX12_supportedCells_4 : decode cX12_supportedCells 4 = .ok (.invokestatic 351, 3) := by decide +kernel
theorem dX12_supportedCells_7 : decode cX12_supportedCells 7 = .ok (.ireturn, 1) := by decide +kernel
theorem dX12_supportVolume_0 : decode cX12_supportVolume 0 = .ok (.aload_n 0, 1) := by decide +kernel
theorem dX12_supportVolume_1 : decode cX12_supportVolume 1 = .ok (.getfield 12, 3) := by decide +kernel
theorem dX12_supportVolume_4 : decode cX12_supportVolume 4 = .ok (.invokestatic 354, 3) := by decide +kernel
theorem dX12_supportVolume_7 : decode cX12_supportVolume 7 = .ok (.ireturn, 1) := by decide +kernel
theorem dX12_ease_0 : decode cX12_ease 0 = .ok (.aload_n 0, 1) := by decide +kernel
theorem dX12_ease_1 : decode cX12_ease 1 = .ok (.getfield 30, 3) := by decide +kernel
theorem dX12_ease_4 : decode cX12_ease 4 = .ok (.aload_n 0, 1) := by decide +kernel
theorem dX12_ease_5 : decode cX12_ease 5 = .ok (.getfield 12, 3) := by decide +kernel
theorem dX12_ease_8 : decode cX12_ease 8 = .ok (.invokevirtual 126, 3) := by decide +kernel
theorem dX12_ease_11 : decode cX12_ease 11 = .ok (.aload_n 0, 1) := by decide +kernel
theorem dX12_ease_12 : decode cX12_ease 12 = .ok (.getfield 12, 3) := by decide +kernel
theorem dX12_ease_15 : decode cX12_ease 15 = .ok (.invokestatic 190, 3) := by decide +kernel
theorem dX12_ease_18 : decode cX12_ease 18 = .ok (.istore_n 1, 1) := by decide +kernel
theorem dX12_ease_19 : decode cX12_ease 19 = .ok (.aload_n 0, 1) := by decide +kernel
theorem dX12_ease_20 : decode cX12_ease 20 = .ok (.getfield 30, 3) := by decide +kernel
theorem dX12_ease_23 : decode cX12_ease 23 = .ok (.aload_n 0, 1) := by decide +kernel
theorem dX12_ease_24 : decode cX12_ease 24 = .ok (.getfield 12, 3) := by decide +kernel
theorem dX12_ease_27 : decode cX12_ease 27 = .ok (.invokevirtual 139, 3) := by decide +kernel
theorem dX12_ease_30 : decode cX12_ease 30 = .ok (.iload_n 1, 1) := by decide +kernel
theorem dX12_ease_31 : decode cX12_ease 31 = .ok (.ireturn, 1) := by decide +kernel
theorem dX12_safeSlope_0 : decode cX12_safeSlope 0 = .ok (.aload_n 0, 1) := by decide +kernel
theorem dX12_safeSlope_1 : decode cX12_safeSlope 1 = .ok (.getfield 12, 3) := by decide +kernel
theorem dX12_safeSlope_4 : decode cX12_safeSlope 4 = .ok (.invokestatic 357, 3) := by decide +kernel
theorem dX12_safeSlope_7 : decode cX12_safeSlope 7 = .ok (.ireturn, 1) := by decide +kernel
theorem dX12_layerCells_0 : decode cX12_layerCells 0 = .ok (.aload_n 0, 1) := by decide +kernel
theorem dX12_layerCells_1 : decode cX12_layerCells 1 = .ok (.iload_n 1, 1) := by decide +kernel
theorem dX12_layerCells_2 : decode cX12_layerCells 2 = .ok (.invokevirtual 360, 3) := by decide +kernel
theorem dX12_layerCells_5 : decode cX12_layerCells 5 = .ok (.aload_n 0, 1) := by decide +kernel
theorem dX12_layerCells_6 : decode cX12_layerCells 6 = .ok (.getfield 46, 3) := by decide +kernel
theorem dX12_layerCells_9 : decode cX12_layerCells 9 = .ok (.iload_n 1, 1) := by decide +kernel
theorem dX12_layerCells_10 : decode cX12_layerCells 10 = .ok (.invokevirtual 363, 3) := by decide +kernel
theorem dX12_layerCells_13 : decode cX12_layerCells 13 = .ok (.ireturn, 1) := by decide +kernel
theorem dX12_runs_0 : decode cX12_runs 0 = .ok (.aload_n 0, 1) := by decide +kernel
theorem dX12_runs_1 : decode cX12_runs 1 = .ok (.iload_n 1, 1) := by decide +kernel
theorem dX12_runs_2 : decode cX12_runs 2 = .ok (.invokevirtual 360, 3) := by decide +kernel
theorem dX12_runs_5 : decode cX12_runs 5 = .ok (.aload_n 0, 1) := by decide +kernel
theorem dX12_runs_6 : decode cX12_runs 6 = .ok (.getfield 46, 3) := by decide +kernel
theorem dX12_runs_9 : decode cX12_runs 9 = .ok (.iload_n 1, 1) := by decide +kernel
theorem dX12_runs_10 : decode cX12_runs 10 = .ok (.invokevirtual 365, 3) := by decide +kernel
theorem dX12_runs_13 : decode cX12_runs 13 = .ok (.ireturn, 1) := by decide +kernel
theorem dX12_rectangles_0 : decode cX12_rectangles 0 = .ok (.aload_n 0, 1) := by decide +kernel
theorem dX12_rectangles_1 : decode cX12_rectangles 1 = .ok (.iload_n 1, 1) := by decide +kernel
theorem dX12_rectangles_2 : decode cX12_rectangles 2 = .ok (.invokevirtual 360, 3) := by decide +kernel
theorem dX12_rectangles_5 : decode cX12_rectangles 5 = .ok (.aload_n 0, 1) := by decide +kernel
theorem dX12_rectangles_6 : decode cX12_rectangles 6 = .ok (.getfield 46, 3) := by decide +kernel
theorem dX12_rectangles_9 : decode cX12_rectangles 9 = .ok (.iload_n 1, 1) := by decide +kernel
theorem dX12_rectangles_10 : decode cX12_rectangles 10 = .ok (.invokevirtual 368, 3) := by decide +kernel
theorem dX12_rectangles_13 : decode cX12_rectangles 13 = .ok (.ireturn, 1) := by decide +kernel
theorem dX12_parts_0 : decode cX12_parts 0 = .ok (.aload_n 0, 1) := by decide +kernel
theorem dX12_parts_1 : decode cX12_parts 1 = .ok (.iload_n 1, 1) := by decide +kernel
theorem dX12_parts_2 : decode cX12_parts 2 = .ok (.invokevirtual 360, 3) := by decide +kernel
theorem dX12_parts_5 : decode cX12_parts 5 = .ok (.aload_n 0, 1) := by decide +kernel
theorem dX12_parts_6 : decode cX12_parts 6 = .ok (.getfield 46, 3) := by decide +kernel
theorem dX12_parts_9 : decode cX12_parts 9 = .ok (.iload_n 1, 1) := by decide +kernel
theorem dX12_parts_10 : decode cX12_parts 10 = .ok (.invokevirtual 387, 3) := by decide +kernel
theorem dX12_parts_13 : decode cX12_parts 13 = .ok (.ireturn, 1) := by decide +kernel
theorem dX12_outline_0 : decode cX12_outline 0 = .ok (.aload_n 0, 1) := by decide +kernel
theorem dX12_outline_1 : decode cX12_outline 1 = .ok (.iload_n 1, 1) := by decide +kernel
theorem dX12_outline_2 : decode cX12_outline 2 = .ok (.invokevirtual 360, 3) := by decide +kernel
theorem dX12_outline_5 : decode cX12_outline 5 = .ok (.aload_n 0, 1) := by decide +kernel
theorem dX12_outline_6 : decode cX12_outline 6 = .ok (.getfield 46, 3) := by decide +kernel
theorem dX12_outline_9 : decode cX12_outline 9 = .ok (.iload_n 1, 1) := by decide +kernel
theorem dX12_outline_10 : decode cX12_outline 10 = .ok (.invokevirtual 390, 3) := by decide +kernel
theorem dX12_outline_13 : decode cX12_outline 13 = .ok (.ireturn, 1) := by decide +kernel
theorem dX12_setTone_0 : decode cX12_setTone 0 = .ok (.aload_n 0, 1) := by decide +kernel
theorem dX12_setTone_1 : decode cX12_setTone 1 = .ok (.iload_n 1, 1) := by decide +kernel
theorem dX12_setTone_2 : decode cX12_setTone 2 = .ok (.iload_n 2, 1) := by decide +kernel
theorem dX12_setTone_3 : decode cX12_setTone 3 = .ok (.invokevirtual 268, 3) := by decide +kernel
theorem dX12_setTone_6 : decode cX12_setTone 6 = .ok (.aload_n 0, 1) := by decide +kernel
theorem dX12_setTone_7 : decode cX12_setTone 7 = .ok (.iload_n 3, 1) := by decide +kernel
theorem dX12_setTone_8 : decode cX12_setTone 8 = .ok (.invokevirtual 297, 3) := by decide +kernel
theorem dX12_setTone_11 : decode cX12_setTone 11 = .ok (.aload_n 0, 1) := by decide +kernel
theorem dX12_setTone_12 : decode cX12_setTone 12 = .ok (.getfield 30, 3) := by decide +kernel
theorem dX12_setTone_15 : decode cX12_setTone 15 = .ok (.aload_n 0, 1) := by decide +kernel
theorem dX12_setTone_16 : decode cX12_setTone 16 = .ok (.getfield 12, 3) := by decide +kernel
theorem dX12_setTone_19 : decode cX12_setTone 19 = .ok (.invokevirtual 126, 3) := by decide +kernel
theorem dX12_setTone_22 : decode cX12_setTone 22 = .ok (.aload_n 0, 1) := by decide +kernel
theorem dX12_setTone_23 : decode cX12_setTone 23 = .ok (.getfield 12, 3) := by decide +kernel
theorem dX12_setTone_26 : decode cX12_setTone 26 = .ok (.iload_n 1, 1) := by decide +kernel
theorem dX12_setTone_27 : decode cX12_setTone 27 = .ok (.iload_n 2, 1) := by decide +kernel
theorem dX12_setTone_28 : decode cX12_setTone 28 = .ok (.iload_n 3, 1) := by decide +kernel
theorem dX12_setTone_29 : decode cX12_setTone 29 = .ok (.invokevirtual 216, 3) := by decide +kernel
theorem dX12_setTone_32 : decode cX12_setTone 32 = .ok (.aload_n 0, 1) := by decide +kernel
theorem dX12_setTone_33 : decode cX12_setTone 33 = .ok (.getfield 30, 3) := by decide +kernel
theorem dX12_setTone_36 : decode cX12_setTone 36 = .ok (.aload_n 0, 1) := by decide +kernel
theorem dX12_setTone_37 : decode cX12_setTone 37 = .ok (.getfield 12, 3) := by decide +kernel
theorem dX12_setTone_40 : decode cX12_setTone 40 = .ok (.invokevirtual 139, 3) := by decide +kernel
theorem dX12_setTone_43 : decode cX12_setTone 43 = .ok (.aload_n 0, 1) := by decide +kernel
theorem dX12_setTone_44 : decode cX12_setTone 44 = .ok (.getfield 12, 3) := by decide +kernel
theorem dX12_setTone_47 : decode cX12_setTone 47 = .ok (.iload_n 1, 1) := by decide +kernel
theorem dX12_setTone_48 : decode cX12_setTone 48 = .ok (.iload_n 2, 1) := by decide +kernel
theorem dX12_setTone_49 : decode cX12_setTone 49 = .ok (.invokevirtual 275, 3) := by decide +kernel
theorem dX12_setTone_52 : decode cX12_setTone 52 = .ok (.ireturn, 1) := by decide +kernel
theorem dX12_setHeight_0 : decode cX12_setHeight 0 = .ok (.aload_n 0, 1) := by decide +kernel
theorem dX12_setHeight_1 : decode cX12_setHeight 1 = .ok (.iload_n 1, 1) := by decide +kernel
theorem dX12_setHeight_2 : decode cX12_setHeight 2 = .ok (.iload_n 2, 1) := by decide +kernel
theorem dX12_setHeight_3 : decode cX12_setHeight 3 = .ok (.invokevirtual 268, 3) := by decide +kernel
theorem dX12_setHeight_6 : decode cX12_setHeight 6 = .ok (.aload_n 0, 1) := by decide +kernel
theorem dX12_setHeight_7 : decode cX12_setHeight 7 = .ok (.iload_n 3, 1) := by decide +kernel
theorem dX12_setHeight_8 : decode cX12_setHeight 8 = .ok (.invokevirtual 396, 3) := by decide +kernel
theorem dX12_setHeight_11 : decode cX12_setHeight 11 = .ok (.aload_n 0, 1) := by decide +kernel
theorem dX12_setHeight_12 : decode cX12_setHeight 12 = .ok (.getfield 12, 3) := by decide +kernel
theorem dX12_setHeight_15 : decode cX12_setHeight 15 = .ok (.iload_n 1, 1) := by decide +kernel
theorem dX12_setHeight_16 : decode cX12_setHeight 16 = .ok (.iload_n 2, 1) := by decide +kernel
theorem dX12_setHeight_17 : decode cX12_setHeight 17 = .ok (.invokevirtual 275, 3) := by decide +kernel
theorem dX12_setHeight_20 : decode cX12_setHeight 20 = .ok (.istore 4, 2) := by decide +kernel
theorem dX12_setHeight_22 : decode cX12_setHeight 22 = .ok (.aload_n 0, 1) := by decide +kernel
theorem dX12_setHeight_23 : decode cX12_setHeight 23 = .ok (.getfield 30, 3) := by decide +kernel
theorem dX12_setHeight_26 : decode cX12_setHeight 26 = .ok (.aload_n 0, 1) := by decide +kernel
theorem dX12_setHeight_27 : decode cX12_setHeight 27 = .ok (.getfield 12, 3) := by decide +kernel
theorem dX12_setHeight_30 : decode cX12_setHeight 30 = .ok (.invokevirtual 126, 3) := by decide +kernel
theorem dX12_setHeight_33 : decode cX12_setHeight 33 = .ok (.aload_n 0, 1) := by decide +kernel
theorem dX12_setHeight_34 : decode cX12_setHeight 34 = .ok (.getfield 12, 3) := by decide +kernel
theorem dX12_setHeight_37 : decode cX12_setHeight 37 = .ok (.iload_n 1, 1) := by decide +kernel
theorem dX12_setHeight_38 : decode cX12_setHeight 38 = .ok (.iload_n 2, 1) := by decide +kernel
theorem dX12_setHeight_39 : decode cX12_setHeight 39 = .ok (.iload_n 3, 1) := by decide +kernel
theorem dX12_setHeight_40 : decode cX12_setHeight 40 = .ok (.invokevirtual 399, 3) := by decide +kernel
theorem dX12_setHeight_43 : decode cX12_setHeight 43 = .ok (.pop, 1) := by decide +kernel
theorem dX12_setHeight_44 : decode cX12_setHeight 44 = .ok (.aload_n 0, 1) := by decide +kernel
theorem dX12_setHeight_45 : decode cX12_setHeight 45 = .ok (.getfield 30, 3) := by decide +kernel
theorem dX12_setHeight_48 : decode cX12_setHeight 48 = .ok (.aload_n 0, 1) := by decide +kernel
theorem dX12_setHeight_49 : decode cX12_setHeight 49 = .ok (.getfield 12, 3) := by decide +kernel
theorem dX12_setHeight_52 : decode cX12_setHeight 52 = .ok (.invokevirtual 139, 3) := by decide +kernel
theorem dX12_setHeight_55 : decode cX12_setHeight 55 = .ok (.iload 4, 2) := by decide +kernel
theorem dX12_setHeight_57 : decode cX12_setHeight 57 = .ok (.ireturn, 1) := by decide +kernel
theorem dX12_fill_0 : decode cX12_fill 0 = .ok (.aload_n 0, 1) := by decide +kernel
theorem dX12_fill_1 : decode cX12_fill 1 = .ok (.iload_n 1, 1) := by decide +kernel
theorem dX12_fill_2 : decode cX12_fill 2 = .ok (.iload_n 2, 1) := by decide +kernel
theorem dX12_fill_3 : decode cX12_fill 3 = .ok (.invokevirtual 268, 3) := by decide +kernel
theorem dX12_fill_6 : decode cX12_fill 6 = .ok (.aload_n 0, 1) := by decide +kernel
theorem dX12_fill_7 : decode cX12_fill 7 = .ok (.getfield 12, 3) := by decide +kernel
theorem dX12_fill_10 : decode cX12_fill 10 = .ok (.iload_n 1, 1) := by decide +kernel
theorem dX12_fill_11 : decode cX12_fill 11 = .ok (.iload_n 2, 1) := by decide +kernel
theorem dX12_fill_12 : decode cX12_fill 12 = .ok (.iload_n 3, 1) := by decide +kernel
theorem dX12_fill_13 : decode cX12_fill 13 = .ok (.iload 4, 2) := by decide +kernel
theorem dX12_fill_15 : decode cX12_fill 15 = .ok (.invokevirtual 220, 3) := by decide +kernel
theorem dX12_fill_18 : decode cX12_fill 18 = .ok (.ifCond .ne 11, 3) := by decide +kernel
theorem dX12_fill_21 : decode cX12_fill 21 = .ok (.new 104, 3) := by decide +kernel
theorem dX12_fill_24 : decode cX12_fill 24 = .ok (.dup, 1) := by decide +kernel
theorem dX12_fill_25 : decode cX12_fill 25 = .ok (.invokespecial 106, 3) := by decide +kernel
theorem dX12_fill_28 : decode cX12_fill 28 = .ok (.athrow, 1) := by decide +kernel
theorem dX12_fill_29 : decode cX12_fill 29 = .ok (.aload_n 0, 1) := by decide +kernel
theorem dX12_fill_30 : decode cX12_fill 30 = .ok (.iload 5, 2) := by decide +kernel
theorem dX12_fill_32 : decode cX12_fill 32 = .ok (.invokevirtual 396, 3) := by decide +kernel
theorem dX12_fill_35 : decode cX12_fill 35 = .ok (.aload_n 0, 1) := by decide +kernel
theorem dX12_fill_36 : decode cX12_fill 36 = .ok (.getfield 30, 3) := by decide +kernel
theorem dX12_fill_39 : decode cX12_fill 39 = .ok (.aload_n 0, 1) := by decide +kernel
theorem dX12_fill_40 : decode cX12_fill 40 = .ok (.getfield 12, 3) := by decide +kernel
theorem dX12_fill_43 : decode cX12_fill 43 = .ok (.invokevirtual 126, 3) := by decide +kernel
theorem dX12_fill_46 : decode cX12_fill 46 = .ok (.aload_n 0, 1) := by decide +kernel
theorem dX12_fill_47 : decode cX12_fill 47 = .ok (.getfield 12, 3) := by decide +kernel
theorem dX12_fill_50 : decode cX12_fill 50 = .ok (.iload_n 1, 1) := by decide +kernel
theorem dX12_fill_51 : decode cX12_fill 51 = .ok (.iload_n 2, 1) := by decide +kernel
theorem dX12_fill_52 : decode cX12_fill 52 = .ok (.iload_n 3, 1) := by decide +kernel
theorem dX12_fill_53 : decode cX12_fill 53 = .ok (.iload 4, 2) := by decide +kernel
theorem dX12_fill_55 : decode cX12_fill 55 = .ok (.iload 5, 2) := by decide +kernel
theorem dX12_fill_57 : decode cX12_fill 57 = .ok (.invokevirtual 226, 3) := by decide +kernel
theorem dX12_fill_60 : decode cX12_fill 60 = .ok (.istore 6, 2) := by decide +kernel
theorem dX12_fill_62 : decode cX12_fill 62 = .ok (.aload_n 0, 1) := by decide +kernel
theorem dX12_fill_63 : decode cX12_fill 63 = .ok (.getfield 30, 3) := by decide +kernel
theorem dX12_fill_66 : decode cX12_fill 66 = .ok (.aload_n 0, 1) := by decide +kernel
theorem dX12_fill_67 : decode cX12_fill 67 = .ok (.getfield 12, 3) := by decide +kernel
theorem dX12_fill_70 : decode cX12_fill 70 = .ok (.invokevirtual 139, 3) := by decide +kernel
theorem dX12_fill_73 : decode cX12_fill 73 = .ok (.iload 6, 2) := by decide +kernel
theorem dX12_fill_75 : decode cX12_fill 75 = .ok (.ireturn, 1) := by decide +kernel
theorem dX12_checkAllowed_0 : decode cX12_checkAllowed 0 = .ok (.aload_n 0, 1) := by decide +kernel
theorem dX12_checkAllowed_1 : decode cX12_checkAllowed 1 = .ok (.getfield 12, 3) := by decide +kernel
theorem dX12_checkAllowed_4 : decode cX12_checkAllowed 4 = .ok (.iload_n 1, 1) := by decide +kernel
theorem dX12_checkAllowed_5 : decode cX12_checkAllowed 5 = .ok (.invokevirtual 223, 3) := by decide +kernel
theorem dX12_checkAllowed_8 : decode cX12_checkAllowed 8 = .ok (.ifCond .ne 11, 3) := by decide +kernel
theorem dX12_checkAllowed_11 : decode cX12_checkAllowed 11 = .ok (.new 104, 3) := by decide +kernel
theorem dX12_checkAllowed_14 : decode cX12_checkAllowed 14 = .ok (.dup, 1) := by decide +kernel
theorem dX12_checkAllowed_15 : decode cX12_checkAllowed 15 = .ok (.invokespecial 106, 3) := by decide +kernel
theorem dX12_checkAllowed_18 : decode cX12_checkAllowed 18 = .ok (.athrow, 1) := by decide +kernel
theorem dX12_checkAllowed_19 : decode cX12_checkAllowed 19 = .ok (.return_, 1) := by decide +kernel
theorem dX12_dither_0 : decode cX12_dither 0 = .ok (.aload_n 0, 1) := by decide +kernel
theorem dX12_dither_1 : decode cX12_dither 1 = .ok (.getfield 30, 3) := by decide +kernel
theorem dX12_dither_4 : decode cX12_dither 4 = .ok (.aload_n 0, 1) := by decide +kernel
theorem dX12_dither_5 : decode cX12_dither 5 = .ok (.getfield 12, 3) := by decide +kernel
theorem dX12_dither_8 : decode cX12_dither 8 = .ok (.invokevirtual 126, 3) := by decide +kernel
theorem dX12_dither_11 : decode cX12_dither 11 = .ok (.aload_n 0, 1) := by decide +kernel
theorem dX12_dither_12 : decode cX12_dither 12 = .ok (.getfield 12, 3) := by decide +kernel
theorem dX12_dither_15 : decode cX12_dither 15 = .ok (.invokestatic 195, 3) := by decide +kernel
theorem dX12_dither_18 : decode cX12_dither 18 = .ok (.istore_n 1, 1) := by decide +kernel
theorem dX12_dither_19 : decode cX12_dither 19 = .ok (.aload_n 0, 1) := by decide +kernel
theorem dX12_dither_20 : decode cX12_dither 20 = .ok (.getfield 30, 3) := by decide +kernel
theorem dX12_dither_23 : decode cX12_dither 23 = .ok (.aload_n 0, 1) := by decide +kernel
theorem dX12_dither_24 : decode cX12_dither 24 = .ok (.getfield 12, 3) := by decide +kernel
theorem dX12_dither_27 : decode cX12_dither 27 = .ok (.invokevirtual 139, 3) := by decide +kernel
theorem dX12_dither_30 : decode cX12_dither 30 = .ok (.iload_n 1, 1) := by decide +kernel
theorem dX12_dither_31 : decode cX12_dither 31 = .ok (.ireturn, 1) := by decide +kernel
theorem dX12_polish_0 : decode cX12_polish 0 = .ok (.aload_n 0, 1) := by decide +kernel
theorem dX12_polish_1 : decode cX12_polish 1 = .ok (.getfield 30, 3) := by decide +kernel
theorem dX12_polish_4 : decode cX12_polish 4 = .ok (.aload_n 0, 1) := by decide +kernel
theorem dX12_polish_5 : decode cX12_polish 5 = .ok (.getfield 12, 3) := by decide +kernel
theorem dX12_polish_8 : decode cX12_polish 8 = .ok (.invokevirtual 126, 3) := by decide +kernel
theorem dX12_polish_11 : decode cX12_polish 11 = .ok (.aload_n 0, 1) := by decide +kernel
theorem dX12_polish_12 : decode cX12_polish 12 = .ok (.getfield 12, 3) := by decide +kernel
theorem dX12_polish_15 : decode cX12_polish 15 = .ok (.invokestatic 200, 3) := by decide +kernel
theorem dX12_polish_18 : decode cX12_polish 18 = .ok (.istore_n 1, 1) := by decide +kernel
theorem dX12_polish_19 : decode cX12_polish 19 = .ok (.aload_n 0, 1) := by decide +kernel
theorem dX12_polish_20 : decode cX12_polish 20 = .ok (.getfield 30, 3) := by decide +kernel
theorem dX12_polish_23 : decode cX12_polish 23 = .ok (.aload_n 0, 1) := by decide +kernel
theorem dX12_polish_24 : decode cX12_polish 24 = .ok (.getfield 12, 3) := by decide +kernel
theorem dX12_polish_27 : decode cX12_polish 27 = .ok (.invokevirtual 139, 3) := by decide +kernel
theorem dX12_polish_30 : decode cX12_polish 30 = .ok (.iload_n 1, 1) := by decide +kernel
theorem dX12_polish_31 : decode cX12_polish 31 = .ok (.ireturn, 1) := by decide +kernel
theorem dX12_invert_0 : decode cX12_invert 0 = .ok (.aload_n 0, 1) := by decide +kernel
theorem dX12_invert_1 : decode cX12_invert 1 = .ok (.getfield 30, 3) := by decide +kernel
theorem dX12_invert_4 : decode cX12_invert 4 = .ok (.aload_n 0, 1) := by decide +kernel
theorem dX12_invert_5 : decode cX12_invert 5 = .ok (.getfield 12, 3) := by decide +kernel
theorem dX12_invert_8 : decode cX12_invert 8 = .ok (.invokevirtual 126, 3) := by decide +kernel
theorem dX12_invert_11 : decode cX12_invert 11 = .ok (.aload_n 0, 1) := by decide +kernel
theorem dX12_invert_12 : decode cX12_invert 12 = .ok (.getfield 12, 3) := by decide +kernel
theorem dX12_invert_15 : decode cX12_invert 15 = .ok (.invokevirtual 203, 3) := by decide +kernel
theorem dX12_invert_18 : decode cX12_invert 18 = .ok (.istore_n 1, 1) := by decide +kernel
theorem dX12_invert_19 : decode cX12_invert 19 = .ok (.aload_n 0, 1) := by decide +kernel
theorem dX12_invert_20 : decode cX12_invert 20 = .ok (.getfield 30, 3) := by decide +kernel
theorem dX12_invert_23 : decode cX12_invert 23 = .ok (.aload_n 0, 1) := by decide +kernel
theorem dX12_invert_24 : decode cX12_invert 24 = .ok (.getfield 12, 3) := by decide +kernel
theorem dX12_invert_27 : decode cX12_invert 27 = .ok (.invokevirtual 139, 3) := by decide +kernel
theorem dX12_invert_30 : decode cX12_invert 30 = .ok (.iload_n 1, 1) := by decide +kernel
theorem dX12_invert_31 : decode cX12_invert 31 = .ok (.ireturn, 1) := by decide +kernel
theorem dX12_lighten_0 : decode cX12_lighten 0 = .ok (.iload_n 1, 1) := by decide +kernel
theorem dX12_lighten_1 : decode cX12_lighten 1 = .ok (.sipush (-255), 3) := by decide +kernel
theorem dX12_lighten_4 : decode cX12_lighten 4 = .ok (.if_icmp .lt 10, 3) := by decide +kernel
theorem dX12_lighten_7 : decode cX12_lighten 7 = .ok (.iload_n 1, 1) := by decide +kernel
theorem dX12_lighten_8 : decode cX12_lighten 8 = .ok (.sipush 255, 3) := by decide +kernel
theorem dX12_lighten_11 : decode cX12_lighten 11 = .ok (.if_icmp .le 11, 3) := by decide +kernel
theorem dX12_lighten_14 : decode cX12_lighten 14 = .ok (.new 104, 3) := by decide +kernel
theorem dX12_lighten_17 : decode cX12_lighten 17 = .ok (.dup, 1) := by decide +kernel
theorem dX12_lighten_18 : decode cX12_lighten 18 = .ok (.invokespecial 106, 3) := by decide +kernel
theorem dX12_lighten_21 : decode cX12_lighten 21 = .ok (.athrow, 1) := by decide +kernel
theorem dX12_lighten_22 : decode cX12_lighten 22 = .ok (.aload_n 0, 1) := by decide +kernel
theorem dX12_lighten_23 : decode cX12_lighten 23 = .ok (.getfield 30, 3) := by decide +kernel
theorem dX12_lighten_26 : decode cX12_lighten 26 = .ok (.aload_n 0, 1) := by decide +kernel
theorem dX12_lighten_27 : decode cX12_lighten 27 = .ok (.getfield 12, 3) := by decide +kernel
theorem dX12_lighten_30 : decode cX12_lighten 30 = .ok (.invokevirtual 126, 3) := by decide +kernel
theorem dX12_lighten_33 : decode cX12_lighten 33 = .ok (.aload_n 0, 1) := by decide +kernel
theorem dX12_lighten_34 : decode cX12_lighten 34 = .ok (.getfield 12, 3) := by decide +kernel
theorem dX12_lighten_37 : decode cX12_lighten 37 = .ok (.iload_n 1, 1) := by decide +kernel
theorem dX12_lighten_38 : decode cX12_lighten 38 = .ok (.invokevirtual 402, 3) := by decide +kernel
theorem dX12_lighten_41 : decode cX12_lighten 41 = .ok (.istore_n 2, 1) := by decide +kernel
theorem dX12_lighten_42 : decode cX12_lighten 42 = .ok (.aload_n 0, 1) := by decide +kernel
theorem dX12_lighten_43 : decode cX12_lighten 43 = .ok (.getfield 30, 3) := by decide +kernel
theorem dX12_lighten_46 : decode cX12_lighten 46 = .ok (.aload_n 0, 1) := by decide +kernel
theorem dX12_lighten_47 : decode cX12_lighten 47 = .ok (.getfield 12, 3) := by decide +kernel
theorem dX12_lighten_50 : decode cX12_lighten 50 = .ok (.invokevirtual 139, 3) := by decide +kernel
theorem dX12_lighten_53 : decode cX12_lighten 53 = .ok (.iload_n 2, 1) := by decide +kernel
theorem dX12_lighten_54 : decode cX12_lighten 54 = .ok (.ireturn, 1) := by decide +kernel
theorem dX12_mirror_0 : decode cX12_mirror 0 = .ok (.aload_n 0, 1) := by decide +kernel
theorem dX12_mirror_1 : decode cX12_mirror 1 = .ok (.getfield 30, 3) := by decide +kernel
theorem dX12_mirror_4 : decode cX12_mirror 4 = .ok (.aload_n 0, 1) := by decide +kernel
theorem dX12_mirror_5 : decode cX12_mirror 5 = .ok (.getfield 12, 3) := by decide +kernel
theorem dX12_mirror_8 : decode cX12_mirror 8 = .ok (.invokevirtual 126, 3) := by decide +kernel
theorem dX12_mirror_11 : decode cX12_mirror 11 = .ok (.aload_n 0, 1) := by decide +kernel
theorem dX12_mirror_12 : decode cX12_mirror 12 = .ok (.getfield 12, 3) := by decide +kernel
theorem dX12_mirror_15 : decode cX12_mirror 15 = .ok (.invokevirtual 206, 3) := by decide +kernel
theorem dX12_mirror_18 : decode cX12_mirror 18 = .ok (.istore_n 1, 1) := by decide +kernel
theorem dX12_mirror_19 : decode cX12_mirror 19 = .ok (.aload_n 0, 1) := by decide +kernel
theorem dX12_mirror_20 : decode cX12_mirror 20 = .ok (.getfield 30, 3) := by decide +kernel
theorem dX12_mirror_23 : decode cX12_mirror 23 = .ok (.aload_n 0, 1) := by decide +kernel
theorem dX12_mirror_24 : decode cX12_mirror 24 = .ok (.getfield 12, 3) := by decide +kernel
theorem dX12_mirror_27 : decode cX12_mirror 27 = .ok (.invokevirtual 139, 3) := by decide +kernel
theorem dX12_mirror_30 : decode cX12_mirror 30 = .ok (.iload_n 1, 1) := by decide +kernel
theorem dX12_mirror_31 : decode cX12_mirror 31 = .ok (.ireturn, 1) := by decide +kernel
