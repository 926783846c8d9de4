set_option maxRecDepth 20000 in
theorem gX13_runs0_X13_does : GoodIn wsX13_runs0 (wsV RX13 479 RX13 yX13_does wsX13_does) := goodIn_app (goodIn_of _ (by decide +kernel)) ggX13_runs0_X13_does
theorem dX13_runs0_0 : decode cX13_runs0 0 = .ok (.iconst 0, 1) := by decide +kernel
theorem dX13_runs0_1 : decode cX13_runs0 1 = .ok (.istore_n 1, 1) := by decide +kernel
theorem dX13_runs0_2 : decode cX13_runs0 2 = .ok (.iconst 0, 1) := by decide +kernel
theorem dX13_runs0_3 : decode cX13_runs0 3 = .ok (.istore_n 2, 1) := by decide +kernel
theorem dX13_runs0_4 : decode cX13_runs0 4 = .ok (.iconst 0, 1) := by decide +kernel
theorem dX13_runs0_5 : decode cX13_runs0 5 = .ok (.istore_n 3, 1) := by decide +kernel
theorem dX13_runs0_6 : decode cX13_runs0 6 = .ok (.iconst 1, 1) := by decide +kernel
theorem dX13_runs0_7 : decode cX13_runs0 7 = .ok (.istore 4, 2) := by decide +kernel
theorem dX13_runs0_9 : decode cX13_runs0 9 = .ok (.iload 4, 2) := by decide +kernel
theorem dX13_runs0_11 : decode cX13_runs0 11 = .ok (.ifCond .eq 169, 3) := by decide +kernel
theorem dX13_runs0_14 : decode cX13_runs0 14 = .ok (.iload_n 3, 1) := by decide +kernel
theorem dX13_runs0_15 : decode cX13_runs0 15 = .ok (.aload_n 0, 1) := by decide +kernel
theorem dX13_runs0_16 : decode cX13_runs0 16 = .ok (.getfield 464, 3) := by decide +kernel
theorem dX13_runs0_19 : decode cX13_runs0 19 = .ok (.if_icmp .ge 161, 3) := by decide +kernel
theorem dX13_runs0_22 : decode cX13_runs0 22 = .ok (.iload_n 1, 1) := by decide +kernel
theorem dX13_runs0_23 : decode cX13_runs0 23 = .ok (.bipush 60, 2) := by decide +kernel
theorem dX13_runs0_25 : decode cX13_runs0 25 = .ok (.if_icmp .ge 155, 3) := by decide +kernel
theorem dX13_runs0_28 : decode cX13_runs0 28 = .ok (.aload_n 0, 1) := by decide +kernel
theorem dX13_runs0_29 : decode cX13_runs0 29 = .ok (.getfield 57, 3) := by decide +kernel
theorem dX13_runs0_32 : decode cX13_runs0 32 = .ok (.iload_n 3, 1) := by decide +kernel
theorem dX13_runs0_33 : decode cX13_runs0 33 = .ok (.iaload, 1) := by decide +kernel
theorem dX13_runs0_34 : decode cX13_runs0 34 = .ok (.bipush 11, 2) := by decide +kernel
theorem dX13_runs0_36 : decode cX13_runs0 36 = .ok (.if_icmp .ne 33, 3) := by decide +kernel
theorem dX13_runs0_39 : decode cX13_runs0 39 = .ok (.aload_n 0, 1) := by decide +kernel
theorem dX13_runs0_40 : decode cX13_runs0 40 = .ok (.getfield 63, 3) := by decide +kernel
theorem dX13_runs0_43 : decode cX13_runs0 43 = .ok (.iload_n 2, 1) := by decide +kernel
theorem dX13_runs0_44 : decode cX13_runs0 44 = .ok (.iload_n 3, 1) := by decide +kernel
theorem dX13_runs0_45 : decode cX13_runs0 45 = .ok (.iastore, 1) := by decide +kernel
theorem dX13_runs0_46 : decode cX13_runs0 46 = .ok (.aload_n 0, 1) := by decide +kernel
theorem dX13_runs0_47 : decode cX13_runs0 47 = .ok (.getfield 66, 3) := by decide +kernel
theorem dX13_runs0_50 : decode cX13_runs0 50 = .ok (.iload_n 2, 1) := by decide +kernel
theorem dX13_runs0_51 : decode cX13_runs0 51 = .ok (.aload_n 0, 1) := by decide +kernel
theorem dX13_runs0_52 : decode cX13_runs0 52 = .ok (.getfield 60, 3) := by decide +kernel
theorem dX13_runs0_55 : decode cX13_runs0 55 = .ok (.iconst 5, 1) := by decide +kernel
theorem dX13_runs0_56 : decode cX13_runs0 56 = .ok (.iload_n 3, 1) := by decide +kernel
theorem dX13_runs0_57 : decode cX13_runs0 57 = .ok (.imul, 1) := by decide +kernel
theorem dX13_runs0_58 : decode cX13_runs0 58 = .ok (.iaload, 1) := by decide +kernel
theorem dX13_runs0_59 : decode cX13_runs0 59 = .ok (.iastore, 1) := by decide +kernel
theorem dX13_runs0_60 : decode cX13_runs0 60 = .ok (.iinc 2 1, 3) := by decide +kernel
theorem dX13_runs0_63 : decode cX13_runs0 63 = .ok (.iinc 3 1, 3) := by decide +kernel
theorem dX13_runs0_66 : decode cX13_runs0 66 = .ok (.goto (-57), 3) := by decide +kernel
theorem dX13_runs0_69 : decode cX13_runs0 69 = .ok (.aload_n 0, 1) := by decide +kernel
theorem dX13_runs0_70 : decode cX13_runs0 70 = .ok (.getfield 57, 3) := by decide +kernel
theorem dX13_runs0_73 : decode cX13_runs0 73 = .ok (.iload_n 3, 1) := by decide +kernel
theorem dX13_runs0_74 : decode cX13_runs0 74 = .ok (.iaload, 1) := by decide +kernel
theorem dX13_runs0_75 : decode cX13_runs0 75 = .ok (.bipush 12, 2) := by decide +kernel
theorem dX13_runs0_77 : decode cX13_runs0 77 = .ok (.if_icmp .ne 74, 3) := by decide +kernel
theorem dX13_runs0_80 : decode cX13_runs0 80 = .ok (.aload_n 0, 1) := by decide +kernel
theorem dX13_runs0_81 : decode cX13_runs0 81 = .ok (.getfield 66, 3) := by decide +kernel
theorem dX13_runs0_84 : decode cX13_runs0 84 = .ok (.iload_n 2, 1) := by decide +kernel
theorem dX13_runs0_85 : decode cX13_runs0 85 = .ok (.iconst 1, 1) := by decide +kernel
theorem dX13_runs0_86 : decode cX13_runs0 86 = .ok (.isub, 1) := by decide +kernel
theorem dX13_runs0_87 : decode cX13_runs0 87 = .ok (.dup2, 1) := by decide +kernel
theorem dX13_runs0_88 : decode cX13_runs0 88 = .ok (.iaload, 1) := by decide +kernel
theorem dX13_runs0_89 : decode cX13_runs0 89 = .ok (.iconst 1, 1) := by decide +kernel
theorem dX13_runs0_90 : decode cX13_runs0 90 = .ok (.isub, 1) := by decide +kernel
theorem dX13_runs0_91 : decode cX13_runs0 91 = .ok (.iastore, 1) := by decide +kernel
theorem dX13_runs0_92 : decode cX13_runs0 92 = .ok (.aload_n 0, 1) := by decide +kernel
theorem dX13_runs0_93 : decode cX13_runs0 93 = .ok (.getfield 66, 3) := by decide +kernel
theorem dX13_runs0_96 : decode cX13_runs0 96 = .ok (.iload_n 2, 1) := by decide +kernel
theorem dX13_runs0_97 : decode cX13_runs0 97 = .ok (.iconst 1, 1) := by decide +kernel
theorem dX13_runs0_98 : decode cX13_runs0 98 = .ok (.isub, 1) := by decide +kernel
theorem dX13_runs0_99 : decode cX13_runs0 99 = .ok (.iaload, 1) := by decide +kernel
theorem dX13_runs0_100 : decode cX13_runs0 100 = .ok (.ifCond .le 7, 3) := by decide +kernel
theorem dX13_runs0_103 : decode cX13_runs0 103 = .ok (.iconst 1, 1) := by decide +kernel
theorem dX13_runs0_104 : decode cX13_runs0 104 = .ok (.goto 4, 3) := by decide +kernel
theorem dX13_runs0_107 : decode cX13_runs0 107 = .ok (.iconst 0, 1) := by decide +kernel
theorem dX13_runs0_108 : decode cX13_runs0 108 = .ok (.istore 5, 2) := by decide +kernel
theorem dX13_runs0_110 : decode cX13_runs0 110 = .ok (.iload 5, 2) := by decide +kernel
theorem dX13_runs0_112 : decode cX13_runs0 112 = .ok (.ifCond .eq 16, 3) := by decide +kernel
theorem dX13_runs0_115 : decode cX13_runs0 115 = .ok (.aload_n 0, 1) := by decide +kernel
theorem dX13_runs0_116 : decode cX13_runs0 116 = .ok (.getfield 63, 3) := by decide +kernel
theorem dX13_runs0_119 : decode cX13_runs0 119 = .ok (.iload_n 2, 1) := by decide +kernel
theorem dX13_runs0_120 : decode cX13_runs0 120 = .ok (.iconst 1, 1) := by decide +kernel
theorem dX13_runs0_121 : decode cX13_runs0 121 = .ok (.isub, 1) := by decide +kernel
theorem dX13_runs0_122 : decode cX13_runs0 122 = .ok (.iaload, 1) := by decide +kernel
theorem dX13_runs0_123 : decode cX13_runs0 123 = .ok (.iconst 1, 1) := by decide +kernel
theorem dX13_runs0_124 : decode cX13_runs0 124 = .ok (.iadd, 1) := by decide +kernel
theorem dX13_runs0_125 : decode cX13_runs0 125 = .ok (.goto 6, 3) := by decide +kernel
theorem dX13_runs0_128 : decode cX13_runs0 128 = .ok (.iload_n 3, 1) := by decide +kernel
theorem dX13_runs0_129 : decode cX13_runs0 129 = .ok (.iconst 1, 1) := by decide +kernel
theorem dX13_runs0_130 : decode cX13_runs0 130 = .ok (.iadd, 1) := by decide +kernel
theorem dX13_runs0_131 : decode cX13_runs0 131 = .ok (.istore_n 3, 1) := by decide +kernel
theorem dX13_runs0_132 : decode cX13_runs0 132 = .ok (.iload_n 2, 1) := by decide +kernel
theorem dX13_runs0_133 : decode cX13_runs0 133 = .ok (.iload 5, 2) := by decide +kernel
theorem dX13_runs0_135 : decode cX13_runs0 135 = .ok (.ifCond .ne 7, 3) := by decide +kernel
theorem dX13_runs0_138 : decode cX13_runs0 138 = .ok (.iconst 1, 1) := by decide +kernel
theorem dX13_runs0_139 : decode cX13_runs0 139 = .ok (.goto 4, 3) := by decide +kernel
theorem dX13_runs0_142 : decode cX13_runs0 142 = .ok (.iconst 0, 1) := by decide +kernel
theorem dX13_runs0_143 : decode cX13_runs0 143 = .ok (.invokestatic 96, 3) := by decide +kernel
theorem dX13_runs0_146 : decode cX13_runs0 146 = .ok (.isub, 1) := by decide +kernel
theorem dX13_runs0_147 : decode cX13_runs0 147 = .ok (.istore_n 2, 1) := by decide +kernel
theorem dX13_runs0_148 : decode cX13_runs0 148 = .ok (.goto (-139), 3) := by decide +kernel
theorem dX13_runs0_151 : decode cX13_runs0 151 = .ok (.aload_n 0, 1) := by decide +kernel
theorem dX13_runs0_152 : decode cX13_runs0 152 = .ok (.aload_n 0, 1) := by decide +kernel
theorem dX13_runs0_153 : decode cX13_runs0 153 = .ok (.getfield 57, 3) := by decide +kernel
theorem dX13_runs0_156 : decode cX13_runs0 156 = .ok (.iload_n 3, 1) := by decide +kernel
theorem dX13_runs0_157 : decode cX13_runs0 157 = .ok (.iaload, 1) := by decide +kernel
theorem dX13_runs0_158 : decode cX13_runs0 158 = .ok (.iconst 5, 1) := by decide +kernel
theorem dX13_runs0_159 : decode cX13_runs0 159 = .ok (.iload_n 3, 1) := by decide +kernel
theorem dX13_runs0_160 : decode cX13_runs0 160 = .ok (.imul, 1) := by decide +kernel
theorem dX13_runs0_161 : decode cX13_runs0 161 = .ok (.invokevirtual 479, 3) := by decide +kernel
theorem dX13_runs0_164 : decode cX13_runs0 164 = .ok (.istore 4, 2) := by decide +kernel
theorem dX13_runs0_166 : decode cX13_runs0 166 = .ok (.iload_n 1, 1) := by decide +kernel
theorem dX13_runs0_167 : decode cX13_runs0 167 = .ok (.iload 4, 2) := by decide +kernel
theorem dX13_runs0_169 : decode cX13_runs0 169 = .ok (.invokestatic 96, 3) := by decide +kernel
theorem dX13_runs0_172 : decode cX13_runs0 172 = .ok (.iadd, 1) := by decide +kernel
theorem dX13_runs0_173 : decode cX13_runs0 173 = .ok (.istore_n 1, 1) := by decide +kernel
theorem dX13_runs0_174 : decode cX13_runs0 174 = .ok (.iinc 3 1, 3) := by decide +kernel
theorem dX13_runs0_177 : decode cX13_runs0 177 = .ok (.goto (-168), 3) := by decide +kernel
theorem dX13_runs0_180 : decode cX13_runs0 180 = .ok (.iload_n 1, 1) := by decide +kernel
theorem dX13_runs0_181 : decode cX13_runs0 181 = .ok (.ireturn, 1) := by decide +kernel
theorem dX13_tell_0 : decode cX13_tell 0 = .ok (.aload_n 0, 1) := by decide +kernel
theorem dX13_tell_1 : decode cX13_tell 1 = .ok (.getfield 75, 3) := by decide +kernel
theorem dX13_tell_4 : decode cX13_tell 4 = .ok (.aload_n 0, 1) := by decide +kernel
theorem dX13_tell_5 : decode cX13_tell 5 = .ok (.getfield 482, 3) := by decide +kernel
theorem dX13_tell_8 : decode cX13_tell 8 = .ok (.iload_n 1, 1) := by decide +kernel
theorem dX13_tell_9 : decode cX13_tell 9 = .ok (.iastore, 1) := by decide +kernel
theorem dX13_tell_10 : decode cX13_tell 10 = .ok (.aload_n 0, 1) := by decide +kernel
theorem dX13_tell_11 : decode cX13_tell 11 = .ok (.dup, 1) := by decide +kernel
theorem dX13_tell_12 : decode cX13_tell 12 = .ok (.getfield 482, 3) := by decide +kernel
theorem dX13_tell_15 : decode cX13_tell 15 = .ok (.iconst 1, 1) := by decide +kernel
theorem dX13_tell_16 : decode cX13_tell 16 = .ok (.iadd, 1) := by decide +kernel
theorem dX13_tell_17 : decode cX13_tell 17 = .ok (.putfield 482, 3) := by decide +kernel
theorem dX13_tell_20 : decode cX13_tell 20 = .ok (.return_, 1) := by decide +kernel
set_option maxRecDepth 20000 in
theorem ggX13_report_X13_tell : GoodIn wsX13_report wsX13_tell := goodIn_r _ [10, 11, 2, 12, 13, 14, 15, 16, 17, 18, 19, 20, 21, 22, 23, 24, 25, 26, 27, 28, 29, 30, 31, 32, 33, 34, 35, 36, 37, 38, 39, 40, 41, 42, 43, 44, 45, 46, 47, 48, 49, 50, 51, 52, 53, 54, 55, 56, 57, 58, 59] (by decide +kernel) (by decide +kernel)
set_option maxRecDepth 20000 in
theorem gX13_report_X13_tell : GoodIn wsX13_report (wsV RX13 488 RX13 yX13_tell wsX13_tell) := goodIn_app (goodIn_of _ (by decide +kernel)) ggX13_report_X13_tell
theorem dX13_report_0 : decode cX13_report 0 = .ok (.aload_n 0, 1) := by decide +kernel
theorem dX13_report_1 : decode cX13_report 1 = .ok (.iconst 0, 1) := by decide +kernel
theorem dX13_report_2 : decode cX13_report 2 = .ok (.putfield 93, 3) := by decide +kernel
theorem dX13_report_5 : decode cX13_report 5 = .ok (.aload_n 0, 1) := by decide +kernel
theorem dX13_report_6 : decode cX13_report 6 = .ok (.iconst 0, 1) := by decide +kernel
theorem dX13_report_7 : decode cX13_report 7 = .ok (.putfield 482, 3) := by decide +kernel
theorem dX13_report_10 : decode cX13_report 10 = .ok (.aload_n 0, 1) := by decide +kernel
theorem dX13_report_11 : decode cX13_report 11 = .ok (.iconst 1, 1) := by decide +kernel
theorem dX13_report_12 : decode cX13_report 12 = .ok (.putfield 485, 3) := by decide +kernel
theorem dX13_report_15 : decode cX13_report 15 = .ok (.aload_n 0, 1) := by decide +kernel
theorem dX13_report_16 : decode cX13_report 16 = .ok (.getfield 20, 3) := by decide +kernel
theorem dX13_report_19 : decode cX13_report 19 = .ok (.iconst 1, 1) := by decide +kernel
theorem dX13_report_20 : decode cX13_report 20 = .ok (.iaload, 1) := by decide +kernel
theorem dX13_report_21 : decode cX13_report 21 = .ok (.iconst 1, 1) := by decide +kernel
theorem dX13_report_22 : decode cX13_report 22 = .ok (.isub, 1) := by decide +kernel
theorem dX13_report_23 : decode cX13_report 23 = .ok (.istore_n 1, 1) := by decide +kernel
theorem dX13_report_24 : decode cX13_report 24 = .ok (.iload_n 1, 1) := by decide +kernel
theorem dX13_report_25 : decode cX13_report 25 = .ok (.ifCond .lt 83, 3) := by decide +kernel
theorem dX13_report_28 : decode cX13_report 28 = .ok (.iconst 0, 1) := by decide +kernel
theorem dX13_report_29 : decode cX13_report 29 = .ok (.istore_n 2, 1) := by decide +kernel
theorem dX13_report_30 : decode cX13_report 30 = .ok (.iload_n 2, 1) := by decide +kernel
theorem dX13_report_31 : decode cX13_report 31 = .ok (.aload_n 0, 1) := by decide +kernel
theorem dX13_report_32 : decode cX13_report 32 = .ok (.getfield 20, 3) := by decide +kernel
theorem dX13_report_35 : decode cX13_report 35 = .ok (.iconst 0, 1) := by decide +kernel
theorem dX13_report_36 : decode cX13_report 36 = .ok (.iaload, 1) := by decide +kernel
theorem dX13_report_37 : decode cX13_report 37 = .ok (.if_icmp .ge 59, 3) := by decide +kernel
theorem dX13_report_40 : decode cX13_report 40 = .ok (.aload_n 0, 1) := by decide +kernel
theorem dX13_report_41 : decode cX13_report 41 = .ok (.getfield 29, 3) := by decide +kernel
theorem dX13_report_44 : decode cX13_report 44 = .ok (.bipush 16, 2) := by decide +kernel
theorem dX13_report_46 : decode cX13_report 46 = .ok (.iload_n 1, 1) := by decide +kernel
theorem dX13_report_47 : decode cX13_report 47 = .ok (.imul, 1) := by decide +kernel
theorem dX13_report_48 : decode cX13_report 48 = .ok (.iload_n 2, 1) := by decide +kernel
theorem dX13_report_49 : decode cX13_report 49 = .ok (.iadd, 1) := by decide +kernel
theorem dX13_report_50 : decode cX13_report 50 = .ok (.iaload, 1) := by decide +kernel
theorem dX13_report_51 : decode cX13_report 51 = .ok (.istore_n 3, 1) := by decide +kernel
theorem dX13_report_52 : decode cX13_report 52 = .ok (.iload_n 2, 1) := by decide +kernel
theorem dX13_report_53 : decode cX13_report 53 = .ok (.ifCond .le 9, 3) := by decide +kernel
theorem dX13_report_56 : decode cX13_report 56 = .ok (.aload_n 0, 1) := by decide +kernel
theorem dX13_report_57 : decode cX13_report 57 = .ok (.bipush 32, 2) := by decide +kernel
theorem dX13_report_59 : decode cX13_report 59 = .ok (.invokevirtual 488, 3) := by decide +kernel
theorem dX13_report_62 : decode cX13_report 62 = .ok (.iload_n 3, 1) := by decide +kernel
theorem dX13_report_63 : decode cX13_report 63 = .ok (.bipush 9, 2) := by decide +kernel
theorem dX13_report_65 : decode cX13_report 65 = .ok (.if_icmp .le 14, 3) := by decide +kernel
theorem dX13_report_68 : decode cX13_report 68 = .ok (.aload_n 0, 1) := by decide +kernel
theorem dX13_report_69 : decode cX13_report 69 = .ok (.bipush 48, 2) := by decide +kernel
theorem dX13_report_71 : decode cX13_report 71 = .ok (.iload_n 3, 1) := by decide +kernel
theorem dX13_report_72 : decode cX13_report 72 = .ok (.bipush 10, 2) := by decide +kernel
theorem dX13_report_74 : decode cX13_report 74 = .ok (.idiv, 1) := by decide +kernel
theorem dX13_report_75 : decode cX13_report 75 = .ok (.iadd, 1) := by decide +kernel
theorem dX13_report_76 : decode cX13_report 76 = .ok (.invokevirtual 488, 3) := by decide +kernel
theorem dX13_report_79 : decode cX13_report 79 = .ok (.aload_n 0, 1) := by decide +kernel
theorem dX13_report_80 : decode cX13_report 80 = .ok (.bipush 48, 2) := by decide +kernel
theorem dX13_report_82 : decode cX13_report 82 = .ok (.iload_n 3, 1) := by decide +kernel
theorem dX13_report_83 : decode cX13_report 83 = .ok (.bipush 10, 2) := by decide +kernel
theorem dX13_report_85 : decode cX13_report 85 = .ok (.irem, 1) := by decide +kernel
theorem dX13_report_86 : decode cX13_report 86 = .ok (.iadd, 1) := by decide +kernel
theorem dX13_report_87 : decode cX13_report 87 = .ok (.invokevirtual 488, 3) := by decide +kernel
theorem dX13_report_90 : decode cX13_report 90 = .ok (.iinc 2 1, 3) := by decide +kernel
theorem dX13_report_93 : decode cX13_report 93 = .ok (.goto (-63), 3) := by decide +kernel
theorem dX13_report_96 : decode cX13_report 96 = .ok (.aload_n 0, 1) := by decide +kernel
theorem dX13_report_97 : decode cX13_report 97 = .ok (.bipush 10, 2) := by decide +kernel
theorem dX13_report_99 : decode cX13_report 99 = .ok (.invokevirtual 488, 3) := by decide +kernel
theorem dX13_report_102 : decode cX13_report 102 = .ok (.iinc 1 (-1), 3) := by decide +kernel
theorem dX13_report_105 : decode cX13_report 105 = .ok (.goto (-81), 3) := by decide +kernel
theorem dX13_report_108 : decode cX13_report 108 = .ok (.aload_n 0, 1) := by decide +kernel
theorem dX13_report_109 : decode cX13_report 109 = .ok (.getfield 482, 3) := by decide +kernel
theorem dX13_report_112 : decode cX13_report 112 = .ok (.ireturn, 1) := by decide +kernel
set_option maxRecDepth 20000 in
theorem ggX13_reportByte_X13_isIn : GoodIn wsX13_reportByte wsX13_isIn := goodIn_r _ [7] (by decide +kernel) (by decide +kernel)
set_option maxRecDepth 20000 in
theorem gX13_reportByte_X13_isIn : GoodIn wsX13_reportByte (va_wsS RX13 111 yX13_isIn wsX13_isIn) := goodIn_app (goodIn_of _ (by decide +kernel)) ggX13_reportByte_X13_isIn
set_option maxRecDepth 20000 in
theorem ggX13_reportByte_X13_goes : GoodIn wsX13_reportByte wsX13_goes := goodIn_r _ [11, 12, 13, 14, 6, 15, 16, 17, 18, 19, 20, 21, 22, 23, 24, 25, 26, 27, 28, 29, 30, 31, 32, 33, 34, 35, 36, 37, 38, 39, 40, 41, 42, 43, 44, 45, 46, 47, 48, 49, 50, 51, 52, 53, 54, 55, 56, 57, 58, 59, 60, 61, 62, 63] (by decide +kernel) (by decide +kernel)
set_option maxRecDepth 20000 in
theorem gX13_reportByte_X13_goes : GoodIn wsX13_reportByte (wsV RX13 103 RX13 yX13_goes wsX13_goes) := goodIn_app (goodIn_of _ (by decide +kernel)) ggX13_reportByte_X13_goes
theorem dX13_reportByte_0 : decode cX13_reportByte 0 = .ok (.aload_n 0, 1) := by decide +kernel
theorem dX13_reportByte_1 : decode cX13_reportByte 1 = .ok (.aload_n 0, 1) := by decide +kernel
theorem dX13_reportByte_2 : decode cX13_reportByte 2 = .ok (.getfield 485, 3) := by decide +kernel
theorem dX13_reportByte_5 : decode cX13_reportByte 5 = .ok (.ifCond .eq 23, 3) := by decide +kernel
theorem dX13_reportByte_8 : decode cX13_reportByte 8 = .ok (.iload_n 1, 1) := by decide +kernel
theorem dX13_reportByte_9 : decode cX13_reportByte 9 = .ok (.i2l, 1) := by decide +kernel
theorem dX13_reportByte_10 : decode cX13_reportByte 10 = .ok (.lconst 0, 1) := by decide +kernel
theorem dX13_reportByte_11 : decode cX13_reportByte 11 = .ok (.aload_n 0, 1) := by decide +kernel
theorem dX13_reportByte_12 : decode cX13_reportByte 12 = .ok (.getfield 482, 3) := by decide +kernel
theorem dX13_reportByte_15 : decode cX13_reportByte 15 = .ok (.iconst 1, 1) := by decide +kernel
theorem dX13_reportByte_16 : decode cX13_reportByte 16 = .ok (.isub, 1) := by decide +kernel
theorem dX13_reportByte_17 : decode cX13_reportByte 17 = .ok (.i2l, 1) := by decide +kernel
theorem dX13_reportByte_18 : decode cX13_reportByte 18 = .ok (.invokestatic 111, 3) := by decide +kernel
theorem dX13_reportByte_21 : decode cX13_reportByte 21 = .ok (.ifCond .eq 7, 3) := by decide +kernel
theorem dX13_reportByte_24 : decode cX13_reportByte 24 = .ok (.iconst 1, 1) := by decide +kernel
theorem dX13_reportByte_25 : decode cX13_reportByte 25 = .ok (.goto 4, 3) := by decide +kernel
theorem dX13_reportByte_28 : decode cX13_reportByte 28 = .ok (.iconst 0, 1) := by decide +kernel
theorem dX13_reportByte_29 : decode cX13_reportByte 29 = .ok (.invokevirtual 103, 3) := by decide +kernel
theorem dX13_reportByte_32 : decode cX13_reportByte 32 = .ok (.ifCond .eq 12, 3) := by decide +kernel
theorem dX13_reportByte_35 : decode cX13_reportByte 35 = .ok (.aload_n 0, 1) := by decide +kernel
theorem dX13_reportByte_36 : decode cX13_reportByte 36 = .ok (.getfield 75, 3) := by decide +kernel
theorem dX13_reportByte_39 : decode cX13_reportByte 39 = .ok (.iload_n 1, 1) := by decide +kernel
theorem dX13_reportByte_40 : decode cX13_reportByte 40 = .ok (.iaload, 1) := by decide +kernel
theorem dX13_reportByte_41 : decode cX13_reportByte 41 = .ok (.goto 4, 3) := by decide +kernel
theorem dX13_reportByte_44 : decode cX13_reportByte 44 = .ok (.iconst 0, 1) := by decide +kernel
theorem dX13_reportByte_45 : decode cX13_reportByte 45 = .ok (.ireturn, 1) := by decide +kernel
set_option maxRecDepth 20000 in
theorem ggX13_save_X13_isIn : GoodIn wsX13_save wsX13_isIn := goodIn_r _ [9] (by decide +kernel) (by decide +kernel)
set_option maxRecDepth 20000 in
theorem gX13_save_X13_isIn : GoodIn wsX13_save (va_wsS RX13 111 yX13_isIn wsX13_isIn) := goodIn_app (goodIn_of _ (by decide +kernel)) ggX13_save_X13_isIn
set_option maxRecDepth 20000 in
theorem ggX13_save_X13_goes : GoodIn wsX13_save wsX13_goes := goodIn_r _ [13, 14, 15, 16, 8, 17, 30, 31, 32, 33, 34, 35, 36, 37, 38, 39, 40, 41, 42, 43, 44, 45, 46, 47, 48, 49, 50, 51, 52, 53, 54, 55, 56, 57, 58, 59, 60, 61, 62, 63, 64, 65, 66, 67, 68, 69, 70, 71, 72, 73, 74, 75, 76, 77] (by decide +kernel) (by decide +kernel)
set_option maxRecDepth 20000 in
theorem gX13_save_X13_goes : GoodIn wsX13_save (wsV RX13 103 RX13 yX13_goes wsX13_goes) := goodIn_app (goodIn_of _ (by decide +kernel)) ggX13_save_X13_goes
set_option maxRecDepth 20000 in
theorem ggX13_save_X13_volumeNow : GoodIn wsX13_save wsX13_volumeNow := goodIn_r _ [21, 2, 22, 23, 24, 8, 25, 4, 26, 27, 28, 29, 30, 31, 32, 33, 34, 35, 36, 37, 38, 39, 40, 41, 42, 43, 44, 45, 46, 47, 48, 49, 50, 51, 52, 53, 54, 55, 56, 57, 58, 59, 60, 61, 62, 63, 64, 65, 66, 67, 68, 69, 70, 71, 72, 73, 74, 75, 76, 77] (by decide +kernel) (by decide +kernel)
set_option maxRecDepth 20000 in
theorem gX13_save_X13_volumeNow : GoodIn wsX13_save (wsV RX13 258 RX13 yX13_volumeNow wsX13_volumeNow) := goodIn_app (goodIn_of _ (by decide +kernel)) ggX13_save_X13_volumeNow
theorem dX13_save_0 : decode cX13_save 0 = .ok (.aload_n 0, 1) := by decide +kernel
theorem dX13_save_1 : decode cX13_save 1 = .ok (.iload_n 1, 1) := by decide +kernel
theorem dX13_save_2 : decode cX13_save 2 = .ok (.i2l, 1) := by decide +kernel
theorem dX13_save_3 : decode cX13_save 3 = .ok (.lconst 0, 1) := by decide +kernel
theorem dX13_save_4 : decode cX13_save 4 = .ok (.lconst 1, 1) := by decide +kernel
theorem dX13_save_5 : decode cX13_save 5 = .ok (.invokestatic 111, 3) := by decide +kernel
theorem dX13_save_8 : decode cX13_save 8 = .ok (.invokevirtual 103, 3) := by decide +kernel
theorem dX13_save_11 : decode cX13_save 11 = .ok (.ifCond .ne 5, 3) := by decide +kernel
theorem dX13_save_14 : decode cX13_save 14 = .ok (.iconst 0, 1) := by decide +kernel
theorem dX13_save_15 : decode cX13_save 15 = .ok (.ireturn, 1) := by decide +kernel
theorem dX13_save_16 : decode cX13_save 16 = .ok (.iconst 0, 1) := by decide +kernel
theorem dX13_save_17 : decode cX13_save 17 = .ok (.istore_n 2, 1) := by decide +kernel
theorem dX13_save_18 : decode cX13_save 18 = .ok (.iload_n 2, 1) := by decide +kernel
theorem dX13_save_19 : decode cX13_save 19 = .ok (.sipush 192, 3) := by decide +kernel
theorem dX13_save_22 : decode cX13_save 22 = .ok (.if_icmp .ge 27, 3) := by decide +kernel
theorem dX13_save_25 : decode cX13_save 25 = .ok (.aload_n 0, 1) := by decide +kernel
theorem dX13_save_26 : decode cX13_save 26 = .ok (.getfield 78, 3) := by decide +kernel
theorem dX13_save_29 : decode cX13_save 29 = .ok (.sipush 192, 3) := by decide +kernel
theorem dX13_save_32 : decode cX13_save 32 = .ok (.iload_n 1, 1) := by decide +kernel
theorem dX13_save_33 : decode cX13_save 33 = .ok (.imul, 1) := by decide +kernel
theorem dX13_save_34 : decode cX13_save 34 = .ok (.iload_n 2, 1) := by decide +kernel
theorem dX13_save_35 : decode cX13_save 35 = .ok (.iadd, 1) := by decide +kernel
theorem dX13_save_36 : decode cX13_save 36 = .ok (.aload_n 0, 1) := by decide +kernel
theorem dX13_save_37 : decode cX13_save 37 = .ok (.getfield 29, 3) := by decide +kernel
theorem dX13_save_40 : decode cX13_save 40 = .ok (.iload_n 2, 1) := by decide +kernel
theorem dX13_save_41 : decode cX13_save 41 = .ok (.iaload, 1) := by decide +kernel
theorem dX13_save_42 : decode cX13_save 42 = .ok (.iastore, 1) := by decide +kernel
theorem dX13_save_43 : decode cX13_save 43 = .ok (.iinc 2 1, 3) := by decide +kernel
theorem dX13_save_46 : decode cX13_save 46 = .ok (.goto (-28), 3) := by decide +kernel
theorem dX13_save_49 : decode cX13_save 49 = .ok (.aload_n 0, 1) := by decide +kernel
theorem dX13_save_50 : decode cX13_save 50 = .ok (.getfield 81, 3) := by decide +kernel
theorem dX13_save_53 : decode cX13_save 53 = .ok (.iconst 4, 1) := by decide +kernel
theorem dX13_save_54 : decode cX13_save 54 = .ok (.iload_n 1, 1) := by decide +kernel
theorem dX13_save_55 : decode cX13_save 55 = .ok (.imul, 1) := by decide +kernel
theorem dX13_save_56 : decode cX13_save 56 = .ok (.aload_n 0, 1) := by decide +kernel
theorem dX13_save_57 : decode cX13_save 57 = .ok (.getfield 20, 3) := by decide +kernel
theorem dX13_save_60 : decode cX13_save 60 = .ok (.iconst 0, 1) := by decide +kernel
theorem dX13_save_61 : decode cX13_save 61 = .ok (.iaload, 1) := by decide +kernel
theorem dX13_save_62 : decode cX13_save 62 = .ok (.iastore, 1) := by decide +kernel
theorem dX13_save_63 : decode cX13_save 63 = .ok (.aload_n 0, 1) := by decide +kernel
theorem dX13_save_64 : decode cX13_save 64 = .ok (.getfield 81, 3) := by decide +kernel
theorem dX13_save_67 : decode cX13_save 67 = .ok (.iconst 4, 1) := by decide +kernel
theorem dX13_save_68 : decode cX13_save 68 = .ok (.iload_n 1, 1) := by decide +kernel
theorem dX13_save_69 : decode cX13_save 69 = .ok (.imul, 1) := by decide +kernel
theorem dX13_save_70 : decode cX13_save 70 = .ok (.iconst 1, 1) := by decide +kernel
theorem dX13_save_71 : decode cX13_save 71 = .ok (.iadd, 1) := by decide +kernel
theorem dX13_save_72 : decode cX13_save 72 = .ok (.aload_n 0, 1) := by decide +kernel
theorem dX13_save_73 : decode cX13_save 73 = .ok (.getfield 20, 3) := by decide +kernel
theorem dX13_save_76 : decode cX13_save 76 = .ok (.iconst 1, 1) := by decide +kernel
theorem dX13_save_77 : decode cX13_save 77 = .ok (.iaload, 1) := by decide +kernel
theorem dX13_save_78 : decode cX13_save 78 = .ok (.iastore, 1) := by decide +kernel
theorem dX13_save_79 : decode cX13_save 79 = .ok (.aload_n 0, 1) := by decide +kernel
theorem dX13_save_80 : decode cX13_save 80 = .ok (.getfield 81, 3) := by decide +kernel
theorem dX13_save_83 : decode cX13_save 83 = .ok (.iconst 4, 1) := by decide +kernel
theorem dX13_save_84 : decode cX13_save 84 = .ok (.iload_n 1, 1) := by decide +kernel
theorem dX13_save_85 : decode cX13_save 85 = .ok (.imul, 1) := by decide +kernel
theorem dX13_save_86 : decode cX13_save 86 = .ok (.iconst 2, 1) := by decide +kernel
theorem dX13_save_87 : decode cX13_save 87 = .ok (.iadd, 1) := by decide +kernel
theorem dX13_save_88 : decode cX13_save 88 = .ok (.aload_n 0, 1) := by decide +kernel
theorem dX13_save_89 : decode cX13_save 89 = .ok (.getfield 20, 3) := by decide +kernel
theorem dX13_save_92 : decode cX13_save 92 = .ok (.iconst 2, 1) := by decide +kernel
theorem dX13_save_93 : decode cX13_save 93 = .ok (.iaload, 1) := by decide +kernel
theorem dX13_save_94 : decode cX13_save 94 = .ok (.iastore, 1) := by decide +kernel
theorem dX13_save_95 : decode cX13_save 95 = .ok (.aload_n 0, 1) := by decide +kernel
theorem dX13_save_96 : decode cX13_save 96 = .ok (.getfield 81, 3) := by decide +kernel
theorem dX13_save_99 : decode cX13_save 99 = .ok (.iconst 4, 1) := by decide +kernel
theorem dX13_save_100 : decode cX13_save 100 = .ok (.iload_n 1, 1) := by decide +kernel
theorem dX13_save_101 : decode cX13_save 101 = .ok (.imul, 1) := by decide +kernel
theorem dX13_save_102 : decode cX13_save 102 = .ok (.iconst 3, 1) := by decide +kernel
theorem dX13_save_103 : decode cX13_save 103 = .ok (.iadd, 1) := by decide +kernel
theorem dX13_save_104 : decode cX13_save 104 = .ok (.aload_n 0, 1) := by decide +kernel
theorem dX13_save_105 : decode cX13_save 105 = .ok (.getfield 20, 3) := by decide +kernel
theorem dX13_save_108 : decode cX13_save 108 = .ok (.iconst 4, 1) := by decide +kernel
theorem dX13_save_109 : decode cX13_save 109 = .ok (.iaload, 1) := by decide +kernel
theorem dX13_save_110 : decode cX13_save 110 = .ok (.iastore, 1) := by decide +kernel
theorem dX13_save_111 : decode cX13_save 111 = .ok (.aload_n 0, 1) := by decide +kernel
theorem dX13_save_112 : decode cX13_save 112 = .ok (.getfield 84, 3) := by decide +kernel
theorem dX13_save_115 : decode cX13_save 115 = .ok (.iload_n 1, 1) := by decide +kernel
theorem dX13_save_116 : decode cX13_save 116 = .ok (.iconst 1, 1) := by decide +kernel
theorem dX13_save_117 : decode cX13_save 117 = .ok (.bastore, 1) := by decide +kernel
theorem dX13_save_118 : decode cX13_save 118 = .ok (.aload_n 0, 1) := by decide +kernel
theorem dX13_save_119 : decode cX13_save 119 = .ok (.invokevirtual 258, 3) := by decide +kernel
theorem dX13_save_122 : decode cX13_save 122 = .ok (.ireturn, 1) := by decide +kernel
theorem dX13_canRestore_0 : decode cX13_canRestore 0 = .ok (.aload_n 0, 1) := by decide +kernel
theorem dX13_canRestore_1 : decode cX13_canRestore 1 = .ok (.getfield 84, 3) := by decide +kernel
theorem dX13_canRestore_4 : decode cX13_canRestore 4 = .ok (.iload_n 1, 1) := by decide +kernel
theorem dX13_canRestore_5 : decode cX13_canRestore 5 = .ok (.baload, 1) := by decide +kernel
theorem dX13_canRestore_6 : decode cX13_canRestore 6 = .ok (.ifCond .eq 81, 3) := by decide +kernel
theorem dX13_canRestore_9 : decode cX13_canRestore 9 = .ok (.aload_n 0, 1) := by decide +kernel
theorem dX13_canRestore_10 : decode cX13_canRestore 10 = .ok (.getfield 81, 3) := by decide +kernel
theorem dX13_canRestore_13 : decode cX13_canRestore 13 = .ok (.iconst 4, 1) := by decide +kernel
theorem dX13_canRestore_14 : decode cX13_canRestore 14 = .ok (.iload_n 1, 1) := by decide +kernel
theorem dX13_canRestore_15 : decode cX13_canRestore 15 = .ok (.imul, 1) := by decide +kernel
theorem dX13_canRestore_16 : decode cX13_canRestore 16 = .ok (.iaload, 1) := by decide +kernel
theorem dX13_canRestore_17 : decode cX13_canRestore 17 = .ok (.aload_n 0, 1) := by decide +kernel
theorem dX13_canRestore_18 : decode cX13_canRestore 18 = .ok (.getfield 20, 3) := by decide +kernel
theorem dX13_canRestore_21 : decode cX13_canRestore 21 = .ok (.iconst 0, 1) := by decide +kernel
theorem dX13_canRestore_22 : decode cX13_canRestore 22 = .ok (.iaload, 1) := by decide +kernel
theorem dX13_canRestore_23 : decode cX13_canRestore 23 = .ok (.if_icmp .ne 64, 3) := by decide +kernel
theorem dX13_canRestore_26 : decode cX13_canRestore 26 = .ok (.aload_n 0, 1) := by decide +kernel
theorem dX13_canRestore_27 : decode cX13_canRestore 27 = .ok (.getfield 81, 3) := by decide +kernel
theorem dX13_canRestore_30 : decode cX13_canRestore 30 = .ok (.iconst 4, 1) := by decide +kernel
theorem dX13_canRestore_31 : decode cX13_canRestore 31 = .ok (.iload_n 1, 1) := by decide +kernel
theorem dX13_canRestore_32 : decode cX13_canRestore 32 = .ok (.imul, 1) := by decide +kernel
theorem dX13_canRestore_33 : decode cX13_canRestore 33 = .ok (.iconst 1, 1) := by decide +kernel
theorem dX13_canRestore_34 : decode cX13_canRestore 34 = .ok (.iadd, 1) := by decide +kernel
theorem dX13_canRestore_35 : decode cX13_canRestore 35 = .ok (.iaload, 1) := by decide +kernel
theorem dX13_canRestore_36 : decode cX13_canRestore 36 = .ok (.aload_n 0, 1) := by decide +kernel
theorem dX13_canRestore_37 : decode cX13_canRestore 37 = .ok (.getfield 20, 3) := by decide +kernel
theorem dX13_canRestore_40 : decode cX13_canRestore 40 = .ok (.iconst 1, 1) := by decide +kernel
theorem dX13_canRestore_41 : decode cX13_canRestore 41 = .ok (.iaload, 1) := by decide +kernel
theorem dX13_canRestore_42 : decode cX13_canRestore 42 = .ok (.if_icmp .ne 45, 3) := by decide +kernel
theorem dX13_canRestore_45 : decode cX13_canRestore 45 = .ok (.aload_n 0, 1) := by decide +kernel
theorem dX13_canRestore_46 : decode cX13_canRestore 46 = .ok (.getfield 81, 3) := by decide +kernel
theorem dX13_canRestore_49 : decode cX13_canRestore 49 = .ok (.iconst 4, 1) := by decide +kernel
theorem dX13_canRestore_50 : decode cX13_canRestore 50 = .ok (.iload_n 1, 1) := by decide +kernel
theorem dX13_canRestore_51 : decode cX13_canRestore 51 = .ok (.imul, 1) := by decide +kernel
theorem dX13_canRestore_52 : decode cX13_canRestore 52 = .ok (.iconst 2, 1) := by decide +kernel
theorem dX13_canRestore_53 : decode cX13_canRestore 53 = .ok (.iadd, 1) := by decide +kernel
theorem dX13_canRestore_54 : decode cX13_canRestore 54 = .ok (.iaload, 1) := by decide +kernel
theorem dX13_canRestore_55 : decode cX13_canRestore 55 = .ok (.aload_n 0, 1) := by decide +kernel
theorem dX13_canRestore_56 : decode cX13_canRestore 56 = .ok (.getfield 20, 3) := by decide +kernel
theorem dX13_canRestore_59 : decode cX13_canRestore 59 = .ok (.iconst 2, 1) := by decide +kernel
theorem dX13_canRestore_60 : decode cX13_canRestore 60 = .ok (.iaload, 1) := by decide +kernel
theorem dX13_canRestore_61 : decode cX13_canRestore 61 = .ok (.if_icmp .ne 26, 3) := by decide +kernel
theorem dX13_canRestore_64 : decode cX13_canRestore 64 = .ok (.aload_n 0, 1) := by decide +kernel
theorem dX13_canRestore_65 : decode cX13_canRestore 65 = .ok (.getfield 81, 3) := by decide +kernel
theorem dX13_canRestore_68 : decode cX13_canRestore 68 = .ok (.iconst 4, 1) := by decide +kernel
theorem dX13_canRestore_69 : decode cX13_canRestore 69 = .ok (.iload_n 1, 1) := by decide +kernel
theorem dX13_canRestore_70 : decode cX13_canRestore 70 = .ok (.imul, 1) := by decide +kernel
theorem dX13_canRestore_71 : decode cX13_canRestore 71 = .ok (.iconst 3, 1) := by decide +kernel
theorem dX13_canRestore_72 : decode cX13_canRestore 72 = .ok (.iadd, 1) := by decide +kernel
theorem dX13_canRestore_73 : decode cX13_canRestore 73 = .ok (.iaload, 1) := by decide +kernel
theorem dX13_canRestore_74 : decode cX13_canRestore 74 = .ok (.aload_n 0, 1) := by decide +kernel
theorem dX13_canRestore_75 : decode cX13_canRestore 75 = .ok (.getfield 20, 3) := by decide +kernel
theorem dX13_canRestore_78 : decode cX13_canRestore 78 = .ok (.iconst 4, 1) := by decide +kernel
theorem dX13_canRestore_79 : decode cX13_canRestore 79 = .ok (.iaload, 1) := by decide +kernel
theorem dX13_canRestore_80 : decode cX13_canRestore 80 = .ok (.if_icmp .ne 7, 3) := by decide +kernel
theorem dX13_canRestore_83 : decode cX13_canRestore 83 = .ok (.iconst 1, 1) := by decide +kernel
theorem dX13_canRestore_84 : decode cX13_canRestore 84 = .ok (.goto 4, 3) := by decide +kernel
theorem dX13_canRestore_87 : decode cX13_canRestore 87 = .ok (.iconst 0, 1) := by decide +kernel
theorem dX13_canRestore_88 : decode cX13_canRestore 88 = .ok (.ireturn, 1) := by decide +kernel
set_option maxRecDepth 20000 in
theorem ggX13_restore_X13_isIn : GoodIn wsX13_restore wsX13_isIn := goodIn_r _ [8] (by decide +kernel) (by decide +kernel)
set_option maxRecDepth 20000 in
theorem gX13_restore_X13_isIn : GoodIn wsX13_restore (va_wsS RX13 111 yX13_isIn wsX13_isIn) := goodIn_app (goodIn_of _ (by decide +kernel)) ggX13_restore_X13_isIn
set_option maxRecDepth 20000 in
theorem ggX13_restore_X13_canRestore : GoodIn wsX13_restore wsX13_canRestore := goodIn_r _ [12, 13, 14, 15, 19, 20, 21, 22, 23, 24, 25, 26, 27, 28, 29, 30, 31, 32, 33, 34, 35, 36, 37, 38, 39, 40, 41, 42, 43, 44, 45, 46, 47, 48, 49, 50, 51, 52, 53, 54, 55, 56, 57, 58, 59, 60, 61, 62, 63, 64, 65, 66] (by decide +kernel) (by decide +kernel)
set_option maxRecDepth 20000 in
theorem gX13_restore_X13_canRestore : GoodIn wsX13_restore (wsV RX13 491 RX13 yX13_canRestore wsX13_canRestore) := goodIn_app (goodIn_of _ (by decide +kernel)) ggX13_restore_X13_canRestore
set_option maxRecDepth 20000 in
theorem ggX13_restore_X13_truth : GoodIn wsX13_restore wsX13_truth := goodIn_r _ [18] (by decide +kernel) (by decide +kernel)
set_option maxRecDepth 20000 in
theorem gX13_restore_X13_truth : GoodIn wsX13_restore (va_wsS RX13 96 yX13_truth wsX13_truth) := goodIn_app (goodIn_of _ (by decide +kernel)) ggX13_restore_X13_truth
theorem dX13_restore_0 : decode cX13_restore 0 = .ok (.iload_n 1, 1) := by decide +kernel
theorem dX13_restore_1 : decode cX13_restore 1 = .ok (.i2l, 1) := by decide +kernel
theorem dX13_restore_2 : decode cX13_restore 2 = .ok (.lconst 0, 1) := by decide +kernel
theorem dX13_restore_3 : decode cX13_restore 3 = .ok (.lconst 1, 1) := by decide +kernel
theorem dX13_restore_4 : decode cX13_restore 4 = .ok (.invokestatic 111, 3) := by decide +kernel
theorem dX13_restore_7 : decode cX13_restore 7 = .ok (.istore_n 2, 1) := by decide +kernel
theorem dX13_restore_8 : decode cX13_restore 8 = .ok (.aload_n 0, 1) := by decide +kernel
theorem dX13_restore_9 : decode cX13_restore 9 = .ok (.iload_n 2, 1) := by decide +kernel
theorem dX13_restore_10 : decode cX13_restore 10 = .ok (.ifCond .ne 7, 3) := by decide +kernel
theorem dX13_restore_13 : decode cX13_restore 13 = .ok (.iconst 1, 1) := by decide +kernel
theorem dX13_restore_14 : decode cX13_restore 14 = .ok (.goto 21, 3) := by decide +kernel
theorem dX13_restore_17 : decode cX13_restore 17 = .ok (.aload_n 0, 1) := by decide +kernel
theorem dX13_restore_18 : decode cX13_restore 18 = .ok (.iload_n 1, 1) := by decide +kernel
theorem dX13_restore_19 : decode cX13_restore 19 = .ok (.invokevirtual 491, 3) := by decide +kernel
theorem dX13_restore_22 : decode cX13_restore 22 = .ok (.ifCond .ne 7, 3) := by decide +kernel
theorem dX13_restore_25 : decode cX13_restore 25 = .ok (.iconst 1, 1) := by decide +kernel
theorem dX13_restore_26 : decode cX13_restore 26 = .ok (.goto 4, 3) := by decide +kernel
theorem dX13_restore_29 : decode cX13_restore 29 = .ok (.iconst 0, 1) := by decide +kernel
theorem dX13_restore_30 : decode cX13_restore 30 = .ok (.invokestatic 96, 3) := by decide +kernel
theorem dX13_restore_33 : decode cX13_restore 33 = .ok (.iconst 2, 1) := by decide +kernel
theorem dX13_restore_34 : decode cX13_restore 34 = .ok (.imul, 1) := by decide +kernel
theorem dX13_restore_35 : decode cX13_restore 35 = .ok (.putfield 93, 3) := by decide +kernel
theorem dX13_restore_38 : decode cX13_restore 38 = .ok (.aload_n 0, 1) := by decide +kernel
theorem dX13_restore_39 : decode cX13_restore 39 = .ok (.getfield 93, 3) := by decide +kernel
theorem dX13_restore_42 : decode cX13_restore 42 = .ok (.ifCond .le 5, 3) := by decide +kernel
theorem dX13_restore_45 : decode cX13_restore 45 = .ok (.iconst 0, 1) := by decide +kernel
theorem dX13_restore_46 : decode cX13_restore 46 = .ok (.ireturn, 1) := by decide +kernel
theorem dX13_restore_47 : decode cX13_restore 47 = .ok (.iconst 0, 1) := by decide +kernel
theorem dX13_restore_48 : decode cX13_restore 48 = .ok (.istore_n 3, 1) := by decide +kernel
theorem dX13_restore_49 : decode cX13_restore 49 = .ok (.iconst 0, 1) := by decide +kernel
theorem dX13_restore_50 : decode cX13_restore 50 = .ok (.istore 4, 2) := by decide +kernel
theorem dX13_restore_52 : decode cX13_restore 52 = .ok (.iload 4, 2) := by decide +kernel
theorem dX13_restore_54 : decode cX13_restore 54 = .ok (.sipush 192, 3) := by decide +kernel
theorem dX13_restore_57 : decode cX13_restore 57 = .ok (.if_icmp .ge 63, 3) := by decide +kernel
theorem dX13_restore_60 : decode cX13_restore 60 = .ok (.iload_n 3, 1) := by decide +kernel
theorem dX13_restore_61 : decode cX13_restore 61 = .ok (.aload_n 0, 1) := by decide +kernel
theorem dX13_restore_62 : decode cX13_restore 62 = .ok (.getfield 29, 3) := by decide +kernel
theorem dX13_restore_65 : decode cX13_restore 65 = .ok (.iload 4, 2) := by decide +kernel
theorem dX13_restore_67 : decode cX13_restore 67 = .ok (.iaload, 1) := by decide +kernel
theorem dX13_restore_68 : decode cX13_restore 68 = .ok (.aload_n 0, 1) := by decide +kernel
theorem dX13_restore_69 : decode cX13_restore 69 = .ok (.getfield 78, 3) := by decide +kernel
theorem dX13_restore_72 : decode cX13_restore 72 = .ok (.sipush 192, 3) := by decide +kernel
theorem dX13_restore_75 : decode cX13_restore 75 = .ok (.iload_n 1, 1) := by decide +kernel
theorem dX13_restore_76 : decode cX13_restore 76 = .ok (.imul, 1) := by decide +kernel
theorem dX13_restore_77 : decode cX13_restore 77 = .ok (.iload 4, 2) := by decide +kernel
theorem dX13_restore_79 : decode cX13_restore 79 = .ok (.iadd, 1) := by decide +kernel
theorem dX13_restore_80 : decode cX13_restore 80 = .ok (.iaload, 1) := by decide +kernel
theorem dX13_restore_81 : decode cX13_restore 81 = .ok (.if_icmp .eq 7, 3) := by decide +kernel
theorem dX13_restore_84 : decode cX13_restore 84 = .ok (.iconst 1, 1) := by decide +kernel
theorem dX13_restore_85 : decode cX13_restore 85 = .ok (.goto 4, 3) := by decide +kernel
theorem dX13_restore_88 : decode cX13_restore 88 = .ok (.iconst 0, 1) := by decide +kernel
theorem dX13_restore_89 : decode cX13_restore 89 = .ok (.invokestatic 96, 3) := by decide +kernel
theorem dX13_restore_92 : decode cX13_restore 92 = .ok (.iadd, 1) := by decide +kernel
theorem dX13_restore_93 : decode cX13_restore 93 = .ok (.istore_n 3, 1) := by decide +kernel
theorem dX13_restore_94 : decode cX13_restore 94 = .ok (.aload_n 0, 1) := by decide +kernel
theorem dX13_restore_95 : decode cX13_restore 95 = .ok (.getfield 29, 3) := by decide +kernel
theorem dX13_restore_98 : decode cX13_restore 98 = .ok (.iload 4, 2) := by decide +kernel
theorem dX13_restore_100 : decode cX13_restore 100 = .ok (.aload_n 0, 1) := by decide +kernel
theorem dX13_restore_101 : decode cX13_restore 101 = .ok (.getfield 78, 3) := by decide +kernel
theorem dX13_restore_104 : decode cX13_restore 104 = .ok (.sipush 192, 3) := by decide +kernel
theorem dX13_restore_107 : decode cX13_restore 107 = .ok (.iload_n 1, 1) := by decide +kernel
theorem dX13_restore_108 : decode cX13_restore 108 = .ok (.imul, 1) := by decide +kernel
theorem dX13_restore_109 : decode cX13_restore 109 = .ok (.iload 4, 2) := by decide +kernel
theorem dX13_restore_111 : decode cX13_restore 111 = .ok (.iadd, 1) := by decide +kernel
theorem dX13_restore_112 : decode cX13_restore 112 = .ok (.iaload, 1) := by decide +kernel
theorem dX13_restore_113 : decode cX13_restore 113 = .ok (.iastore, 1) := by decide +kernel
theorem dX13_restore_114 : decode cX13_restore 114 = .ok (.iinc 4 1, 3) := by decide +kernel
theorem dX13_restore_117 : decode cX13_restore 117 = .ok (.goto (-65), 3) := by decide +kernel
theorem dX13_restore_120 : decode cX13_restore 120 = .ok (.aload_n 0, 1) := by decide +kernel
theorem dX13_restore_121 : decode cX13_restore 121 = .ok (.iconst 0, 1) := by decide +kernel
theorem dX13_restore_122 : decode cX13_restore 122 = .ok (.putfield 207, 3) := by decide +kernel
theorem dX13_restore_125 : decode cX13_restore 125 = .ok (.iload_n 3, 1) := by decide +kernel
theorem dX13_restore_126 : decode cX13_restore 126 = .ok (.ireturn, 1) := by decide +kernel
