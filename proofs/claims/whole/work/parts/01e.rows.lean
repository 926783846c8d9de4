set_option maxRecDepth 20000 in
theorem ggX13_init_X13_begins : GoodIn wsX13_init wsX13_begins := goodIn_r _ [35, 9, 12, 36, 37, 38, 39, 40, 41, 70, 71, 72, 73, 74, 75, 76, 77, 78, 79, 80, 81, 82, 83, 84, 85, 86, 87, 88, 89, 90, 91, 92, 93, 94, 95, 96, 97, 98, 99, 100, 101, 102, 103, 104, 105, 106, 107, 108, 109, 110, 111, 112, 113, 114, 115, 116, 117] (by decide +kernel) (by decide +kernel)
set_option maxRecDepth 20000 in
theorem gX13_init_X13_begins : GoodIn wsX13_init (wsV RX13 87 RX13 yX13_begins wsX13_begins) := goodIn_app (goodIn_of _ (by decide +kernel)) ggX13_init_X13_begins
set_option maxRecDepth 20000 in
theorem ggX13_init_X13_lays : GoodIn wsX13_init wsX13_lays := goodIn_r _ [45, 8, 9, 10, 12, 11, 46, 47, 48, 49, 34, 50, 51, 52, 53, 54, 55, 56, 57, 58, 59, 60, 61, 62, 63, 64, 65, 66, 67, 68, 69, 70, 71, 72, 73, 74, 75, 76, 77, 78, 79, 80, 81, 82, 83, 84, 85, 86, 87, 88, 89, 90, 91, 92, 93, 94, 95, 96, 97, 98, 99, 100, 101, 102, 103, 104, 105, 106, 107, 108, 109, 110, 111, 112, 113, 114, 115, 116, 117] (by decide +kernel) (by decide +kernel)
set_option maxRecDepth 20000 in
theorem gX13_init_X13_lays : GoodIn wsX13_init (wsV RX13 90 RX13 yX13_lays wsX13_lays) := goodIn_app (goodIn_of _ (by decide +kernel)) ggX13_init_X13_lays
theorem dX13_init_0 : decode cX13_init 0 = .ok (.aload_n 0, 1) := by decide +kernel
theorem dX13_init_1 : decode cX13_init 1 = .ok (.invokespecial 1, 3) := by decide +kernel
theorem dX13_init_4 : decode cX13_init 4 = .ok (.aload_n 0, 1) := by decide +kernel
theorem dX13_init_5 : decode cX13_init 5 = .ok (.sipush 900, 3) := by decide +kernel
theorem dX13_init_8 : decode cX13_init 8 = .ok (.newarray .int, 2) := by decide +kernel
theorem dX13_init_10 : decode cX13_init 10 = .ok (.putfield 7, 3) := by decide +kernel
theorem dX13_init_13 : decode cX13_init 13 = .ok (.aload_n 0, 1) := by decide +kernel
theorem dX13_init_14 : decode cX13_init 14 = .ok (.iconst (-1), 1) := by decide +kernel
theorem dX13_init_15 : decode cX13_init 15 = .ok (.putfield 13, 3) := by decide +kernel
theorem dX13_init_18 : decode cX13_init 18 = .ok (.aload_n 0, 1) := by decide +kernel
theorem dX13_init_19 : decode cX13_init 19 = .ok (.iconst (-1), 1) := by decide +kernel
theorem dX13_init_20 : decode cX13_init 20 = .ok (.putfield 17, 3) := by decide +kernel
theorem dX13_init_23 : decode cX13_init 23 = .ok (.aload_n 0, 1) := by decide +kernel
theorem dX13_init_24 : decode cX13_init 24 = .ok (.bipush 7, 2) := by decide +kernel
theorem dX13_init_26 : decode cX13_init 26 = .ok (.newarray .int, 2) := by decide +kernel
theorem dX13_init_28 : decode cX13_init 28 = .ok (.putfield 20, 3) := by decide +kernel
theorem dX13_init_31 : decode cX13_init 31 = .ok (.aload_n 0, 1) := by decide +kernel
theorem dX13_init_32 : decode cX13_init 32 = .ok (.bipush 7, 2) := by decide +kernel
theorem dX13_init_34 : decode cX13_init 34 = .ok (.newarray .int, 2) := by decide +kernel
theorem dX13_init_36 : decode cX13_init 36 = .ok (.putfield 23, 3) := by decide +kernel
theorem dX13_init_39 : decode cX13_init 39 = .ok (.aload_n 0, 1) := by decide +kernel
theorem dX13_init_40 : decode cX13_init 40 = .ok (.sipush 192, 3) := by decide +kernel
theorem dX13_init_43 : decode cX13_init 43 = .ok (.newarray .int, 2) := by decide +kernel
theorem dX13_init_45 : decode cX13_init 45 = .ok (.putfield 26, 3) := by decide +kernel
theorem dX13_init_48 : decode cX13_init 48 = .ok (.aload_n 0, 1) := by decide +kernel
theorem dX13_init_49 : decode cX13_init 49 = .ok (.sipush 192, 3) := by decide +kernel
theorem dX13_init_52 : decode cX13_init 52 = .ok (.newarray .int, 2) := by decide +kernel
theorem dX13_init_54 : decode cX13_init 54 = .ok (.putfield 29, 3) := by decide +kernel
theorem dX13_init_57 : decode cX13_init 57 = .ok (.aload_n 0, 1) := by decide +kernel
theorem dX13_init_58 : decode cX13_init 58 = .ok (.sipush 192, 3) := by decide +kernel
theorem dX13_init_61 : decode cX13_init 61 = .ok (.newarray .int, 2) := by decide +kernel
theorem dX13_init_63 : decode cX13_init 63 = .ok (.putfield 32, 3) := by decide +kernel
theorem dX13_init_66 : decode cX13_init 66 = .ok (.aload_n 0, 1) := by decide +kernel
theorem dX13_init_67 : decode cX13_init 67 = .ok (.sipush 192, 3) := by decide +kernel
theorem dX13_init_70 : decode cX13_init 70 = .ok (.newarray .boolean, 2) := by decide +kernel
theorem dX13_init_72 : decode cX13_init 72 = .ok (.putfield 35, 3) := by decide +kernel
theorem dX13_init_75 : decode cX13_init 75 = .ok (.aload_n 0, 1) := by decide +kernel
theorem dX13_init_76 : decode cX13_init 76 = .ok (.sipush 192, 3) := by decide +kernel
theorem dX13_init_79 : decode cX13_init 79 = .ok (.newarray .int, 2) := by decide +kernel
theorem dX13_init_81 : decode cX13_init 81 = .ok (.putfield 39, 3) := by decide +kernel
theorem dX13_init_84 : decode cX13_init 84 = .ok (.aload_n 0, 1) := by decide +kernel
theorem dX13_init_85 : decode cX13_init 85 = .ok (.sipush 192, 3) := by decide +kernel
theorem dX13_init_88 : decode cX13_init 88 = .ok (.newarray .int, 2) := by decide +kernel
theorem dX13_init_90 : decode cX13_init 90 = .ok (.putfield 42, 3) := by decide +kernel
theorem dX13_init_93 : decode cX13_init 93 = .ok (.aload_n 0, 1) := by decide +kernel
theorem dX13_init_94 : decode cX13_init 94 = .ok (.sipush 192, 3) := by decide +kernel
theorem dX13_init_97 : decode cX13_init 97 = .ok (.newarray .int, 2) := by decide +kernel
theorem dX13_init_99 : decode cX13_init 99 = .ok (.putfield 45, 3) := by decide +kernel
theorem dX13_init_102 : decode cX13_init 102 = .ok (.aload_n 0, 1) := by decide +kernel
theorem dX13_init_103 : decode cX13_init 103 = .ok (.sipush 2304, 3) := by decide +kernel
theorem dX13_init_106 : decode cX13_init 106 = .ok (.newarray .int, 2) := by decide +kernel
theorem dX13_init_108 : decode cX13_init 108 = .ok (.putfield 48, 3) := by decide +kernel
theorem dX13_init_111 : decode cX13_init 111 = .ok (.aload_n 0, 1) := by decide +kernel
theorem dX13_init_112 : decode cX13_init 112 = .ok (.sipush 192, 3) := by decide +kernel
theorem dX13_init_115 : decode cX13_init 115 = .ok (.newarray .int, 2) := by decide +kernel
theorem dX13_init_117 : decode cX13_init 117 = .ok (.putfield 51, 3) := by decide +kernel
theorem dX13_init_120 : decode cX13_init 120 = .ok (.aload_n 0, 1) := by decide +kernel
theorem dX13_init_121 : decode cX13_init 121 = .ok (.bipush 12, 2) := by decide +kernel
theorem dX13_init_123 : decode cX13_init 123 = .ok (.newarray .int, 2) := by decide +kernel
theorem dX13_init_125 : decode cX13_init 125 = .ok (.dup, 1) := by decide +kernel
theorem dX13_init_126 : decode cX13_init 126 = .ok (.iconst 0, 1) := by decide +kernel
theorem dX13_init_127 : decode cX13_init 127 = .ok (.iconst (-1), 1) := by decide +kernel
theorem dX13_init_128 : decode cX13_init 128 = .ok (.iastore, 1) := by decide +kernel
theorem dX13_init_129 : decode cX13_init 129 = .ok (.dup, 1) := by decide +kernel
theorem dX13_init_130 : decode cX13_init 130 = .ok (.iconst 1, 1) := by decide +kernel
theorem dX13_init_131 : decode cX13_init 131 = .ok (.iconst (-1), 1) := by decide +kernel
theorem dX13_init_132 : decode cX13_init 132 = .ok (.iastore, 1) := by decide +kernel
theorem dX13_init_133 : decode cX13_init 133 = .ok (.dup, 1) := by decide +kernel
theorem dX13_init_134 : decode cX13_init 134 = .ok (.iconst 2, 1) := by decide +kernel
theorem dX13_init_135 : decode cX13_init 135 = .ok (.iconst (-1), 1) := by decide +kernel
theorem dX13_init_136 : decode cX13_init 136 = .ok (.iastore, 1) := by decide +kernel
theorem dX13_init_137 : decode cX13_init 137 = .ok (.dup, 1) := by decide +kernel
theorem dX13_init_138 : decode cX13_init 138 = .ok (.iconst 3, 1) := by decide +kernel
theorem dX13_init_139 : decode cX13_init 139 = .ok (.iconst (-1), 1) := by decide +kernel
theorem dX13_init_140 : decode cX13_init 140 = .ok (.iastore, 1) := by decide +kernel
theorem dX13_init_141 : decode cX13_init 141 = .ok (.dup, 1) := by decide +kernel
theorem dX13_init_142 : decode cX13_init 142 = .ok (.iconst 4, 1) := by decide +kernel
theorem dX13_init_143 : decode cX13_init 143 = .ok (.iconst (-1), 1) := by decide +kernel
theorem dX13_init_144 : decode cX13_init 144 = .ok (.iastore, 1) := by decide +kernel
theorem dX13_init_145 : decode cX13_init 145 = .ok (.dup, 1) := by decide +kernel
theorem dX13_init_146 : decode cX13_init 146 = .ok (.iconst 5, 1) := by decide +kernel
theorem dX13_init_147 : decode cX13_init 147 = .ok (.iconst (-1), 1) := by decide +kernel
theorem dX13_init_148 : decode cX13_init 148 = .ok (.iastore, 1) := by decide +kernel
theorem dX13_init_149 : decode cX13_init 149 = .ok (.dup, 1) := by decide +kernel
theorem dX13_init_150 : decode cX13_init 150 = .ok (.bipush 6, 2) := by decide +kernel
theorem dX13_init_152 : decode cX13_init 152 = .ok (.iconst (-1), 1) := by decide +kernel
theorem dX13_init_153 : decode cX13_init 153 = .ok (.iastore, 1) := by decide +kernel
theorem dX13_init_154 : decode cX13_init 154 = .ok (.dup, 1) := by decide +kernel
theorem dX13_init_155 : decode cX13_init 155 = .ok (.bipush 7, 2) := by decide +kernel
theorem dX13_init_157 : decode cX13_init 157 = .ok (.iconst (-1), 1) := by decide +kernel
theorem dX13_init_158 : decode cX13_init 158 = .ok (.iastore, 1) := by decide +kernel
theorem dX13_init_159 : decode cX13_init 159 = .ok (.dup, 1) := by decide +kernel
theorem dX13_init_160 : decode cX13_init 160 = .ok (.bipush 8, 2) := by decide +kernel
theorem dX13_init_162 : decode cX13_init 162 = .ok (.iconst (-1), 1) := by decide +kernel
theorem dX13_init_163 : decode cX13_init 163 = .ok (.iastore, 1) := by decide +kernel
theorem dX13_init_164 : decode cX13_init 164 = .ok (.dup, 1) := by decide +kernel
theorem dX13_init_165 : decode cX13_init 165 = .ok (.bipush 9, 2) := by decide +kernel
theorem dX13_init_167 : decode cX13_init 167 = .ok (.iconst (-1), 1) := by decide +kernel
theorem dX13_init_168 : decode cX13_init 168 = .ok (.iastore, 1) := by decide +kernel
theorem dX13_init_169 : decode cX13_init 169 = .ok (.dup, 1) := by decide +kernel
theorem dX13_init_170 : decode cX13_init 170 = .ok (.bipush 10, 2) := by decide +kernel
theorem dX13_init_172 : decode cX13_init 172 = .ok (.iconst (-1), 1) := by decide +kernel
theorem dX13_init_173 : decode cX13_init 173 = .ok (.iastore, 1) := by decide +kernel
theorem dX13_init_174 : decode cX13_init 174 = .ok (.dup, 1) := by decide +kernel
theorem dX13_init_175 : decode cX13_init 175 = .ok (.bipush 11, 2) := by decide +kernel
theorem dX13_init_177 : decode cX13_init 177 = .ok (.iconst (-1), 1) := by decide +kernel
theorem dX13_init_178 : decode cX13_init 178 = .ok (.iastore, 1) := by decide +kernel
theorem dX13_init_179 : decode cX13_init 179 = .ok (.putfield 54, 3) := by decide +kernel
theorem dX13_init_182 : decode cX13_init 182 = .ok (.aload_n 0, 1) := by decide +kernel
theorem dX13_init_183 : decode cX13_init 183 = .ok (.bipush 60, 2) := by decide +kernel
theorem dX13_init_185 : decode cX13_init 185 = .ok (.newarray .int, 2) := by decide +kernel
theorem dX13_init_187 : decode cX13_init 187 = .ok (.putfield 57, 3) := by decide +kernel
theorem dX13_init_190 : decode cX13_init 190 = .ok (.aload_n 0, 1) := by decide +kernel
theorem dX13_init_191 : decode cX13_init 191 = .ok (.sipush 300, 3) := by decide +kernel
theorem dX13_init_194 : decode cX13_init 194 = .ok (.newarray .int, 2) := by decide +kernel
theorem dX13_init_196 : decode cX13_init 196 = .ok (.putfield 60, 3) := by decide +kernel
theorem dX13_init_199 : decode cX13_init 199 = .ok (.aload_n 0, 1) := by decide +kernel
theorem dX13_init_200 : decode cX13_init 200 = .ok (.iconst 2, 1) := by decide +kernel
theorem dX13_init_201 : decode cX13_init 201 = .ok (.newarray .int, 2) := by decide +kernel
theorem dX13_init_203 : decode cX13_init 203 = .ok (.putfield 63, 3) := by decide +kernel
theorem dX13_init_206 : decode cX13_init 206 = .ok (.aload_n 0, 1) := by decide +kernel
theorem dX13_init_207 : decode cX13_init 207 = .ok (.iconst 2, 1) := by decide +kernel
theorem dX13_init_208 : decode cX13_init 208 = .ok (.newarray .int, 2) := by decide +kernel
theorem dX13_init_210 : decode cX13_init 210 = .ok (.putfield 66, 3) := by decide +kernel
theorem dX13_init_213 : decode cX13_init 213 = .ok (.aload_n 0, 1) := by decide +kernel
theorem dX13_init_214 : decode cX13_init 214 = .ok (.sipush 192, 3) := by decide +kernel
theorem dX13_init_217 : decode cX13_init 217 = .ok (.newarray .int, 2) := by decide +kernel
theorem dX13_init_219 : decode cX13_init 219 = .ok (.putfield 69, 3) := by decide +kernel
theorem dX13_init_222 : decode cX13_init 222 = .ok (.aload_n 0, 1) := by decide +kernel
theorem dX13_init_223 : decode cX13_init 223 = .ok (.sipush 192, 3) := by decide +kernel
theorem dX13_init_226 : decode cX13_init 226 = .ok (.newarray .int, 2) := by decide +kernel
theorem dX13_init_228 : decode cX13_init 228 = .ok (.putfield 72, 3) := by decide +kernel
theorem dX13_init_231 : decode cX13_init 231 = .ok (.aload_n 0, 1) := by decide +kernel
theorem dX13_init_232 : decode cX13_init 232 = .ok (.sipush 700, 3) := by decide +kernel
theorem dX13_init_235 : decode cX13_init 235 = .ok (.newarray .int, 2) := by decide +kernel
theorem dX13_init_237 : decode cX13_init 237 = .ok (.putfield 75, 3) := by decide +kernel
theorem dX13_init_240 : decode cX13_init 240 = .ok (.aload_n 0, 1) := by decide +kernel
theorem dX13_init_241 : decode cX13_init 241 = .ok (.sipush 384, 3) := by decide +kernel
theorem dX13_init_244 : decode cX13_init 244 = .ok (.newarray .int, 2) := by decide +kernel
theorem dX13_init_246 : decode cX13_init 246 = .ok (.putfield 78, 3) := by decide +kernel
theorem dX13_init_249 : decode cX13_init 249 = .ok (.aload_n 0, 1) := by decide +kernel
theorem dX13_init_250 : decode cX13_init 250 = .ok (.bipush 8, 2) := by decide +kernel
theorem dX13_init_252 : decode cX13_init 252 = .ok (.newarray .int, 2) := by decide +kernel
theorem dX13_init_254 : decode cX13_init 254 = .ok (.putfield 81, 3) := by decide +kernel
theorem dX13_init_257 : decode cX13_init 257 = .ok (.aload_n 0, 1) := by decide +kernel
theorem dX13_init_258 : decode cX13_init 258 = .ok (.iconst 2, 1) := by decide +kernel
theorem dX13_init_259 : decode cX13_init 259 = .ok (.newarray .boolean, 2) := by decide +kernel
theorem dX13_init_261 : decode cX13_init 261 = .ok (.putfield 84, 3) := by decide +kernel
theorem dX13_init_264 : decode cX13_init 264 = .ok (.aload_n 0, 1) := by decide +kernel
theorem dX13_init_265 : decode cX13_init 265 = .ok (.invokevirtual 87, 3) := by decide +kernel
theorem dX13_init_268 : decode cX13_init 268 = .ok (.aload_n 0, 1) := by decide +kernel
theorem dX13_init_269 : decode cX13_init 269 = .ok (.invokevirtual 90, 3) := by decide +kernel
theorem dX13_init_272 : decode cX13_init 272 = .ok (.return_, 1) := by decide +kernel
theorem dX13_thrown_0 : decode cX13_thrown 0 = .ok (.aload_n 0, 1) := by decide +kernel
theorem dX13_thrown_1 : decode cX13_thrown 1 = .ok (.getfield 93, 3) := by decide +kernel
theorem dX13_thrown_4 : decode cX13_thrown 4 = .ok (.ireturn, 1) := by decide +kernel
theorem dX13_isIn_0 : decode cX13_isIn 0 = .ok (.lload_n 0, 1) := by decide +kernel
theorem dX13_isIn_1 : decode cX13_isIn 1 = .ok (.lload_n 2, 1) := by decide +kernel
theorem dX13_isIn_2 : decode cX13_isIn 2 = .ok (.lcmp, 1) := by decide +kernel
theorem dX13_isIn_3 : decode cX13_isIn 3 = .ok (.ifCond .lt 14, 3) := by decide +kernel
theorem dX13_isIn_6 : decode cX13_isIn 6 = .ok (.lload_n 0, 1) := by decide +kernel
theorem dX13_isIn_7 : decode cX13_isIn 7 = .ok (.lload 4, 2) := by decide +kernel
theorem dX13_isIn_9 : decode cX13_isIn 9 = .ok (.lcmp, 1) := by decide +kernel
theorem dX13_isIn_10 : decode cX13_isIn 10 = .ok (.ifCond .gt 7, 3) := by decide +kernel
theorem dX13_isIn_13 : decode cX13_isIn 13 = .ok (.iconst 1, 1) := by decide +kernel
theorem dX13_isIn_14 : decode cX13_isIn 14 = .ok (.goto 4, 3) := by decide +kernel
theorem dX13_isIn_17 : decode cX13_isIn 17 = .ok (.iconst 0, 1) := by decide +kernel
theorem dX13_isIn_18 : decode cX13_isIn 18 = .ok (.ireturn, 1) := by decide +kernel
theorem dX13_truth_0 : decode cX13_truth 0 = .ok (.iload_n 0, 1) := by decide +kernel
theorem dX13_truth_1 : decode cX13_truth 1 = .ok (.ifCond .eq 7, 3) := by decide +kernel
theorem dX13_truth_4 : decode cX13_truth 4 = .ok (.iconst 1, 1) := by decide +kernel
theorem dX13_truth_5 : decode cX13_truth 5 = .ok (.goto 4, 3) := by decide +kernel
theorem dX13_truth_8 : decode cX13_truth 8 = .ok (.iconst 0, 1) := by decide +kernel
theorem dX13_truth_9 : decode cX13_truth 9 = .ok (.ireturn, 1) := by decide +kernel
theorem dX13_less_0 : decode cX13_less 0 = .ok (.iload_n 0, 1) := by decide +kernel
theorem dX13_less_1 : decode cX13_less 1 = .ok (.iload_n 1, 1) := by decide +kernel
theorem dX13_less_2 : decode cX13_less 2 = .ok (.if_icmp .ge 7, 3) := by decide +kernel
theorem dX13_less_5 : decode cX13_less 5 = .ok (.iload_n 0, 1) := by decide +kernel
theorem dX13_less_6 : decode cX13_less 6 = .ok (.goto 4, 3) := by decide +kernel
theorem dX13_less_9 : decode cX13_less 9 = .ok (.iload_n 1, 1) := by decide +kernel
theorem dX13_less_10 : decode cX13_less 10 = .ok (.ireturn, 1) := by decide +kernel
theorem dX13_more_0 : decode cX13_more 0 = .ok (.iload_n 0, 1) := by decide +kernel
theorem dX13_more_1 : decode cX13_more 1 = .ok (.iload_n 1, 1) := by decide +kernel
theorem dX13_more_2 : decode cX13_more 2 = .ok (.if_icmp .le 7, 3) := by decide +kernel
theorem dX13_more_5 : decode cX13_more 5 = .ok (.iload_n 0, 1) := by decide +kernel
theorem dX13_more_6 : decode cX13_more 6 = .ok (.goto 4, 3) := by decide +kernel
theorem dX13_more_9 : decode cX13_more 9 = .ok (.iload_n 1, 1) := by decide +kernel
theorem dX13_more_10 : decode cX13_more 10 = .ok (.ireturn, 1) := by decide +kernel
set_option maxRecDepth 20000 in
theorem ggX13_goes_X13_truth : GoodIn wsX13_goes wsX13_truth := goodIn_r _ [5] (by decide +kernel) (by decide +kernel)
set_option maxRecDepth 20000 in
theorem gX13_goes_X13_truth : GoodIn wsX13_goes (va_wsS RX13 96 yX13_truth wsX13_truth) := goodIn_app (goodIn_of _ (by decide +kernel)) ggX13_goes_X13_truth
theorem dX13_goes_0 : decode cX13_goes 0 = .ok (.aload_n 0, 1) := by decide +kernel
theorem dX13_goes_1 : decode cX13_goes 1 = .ok (.iload_n 1, 1) := by decide +kernel
theorem dX13_goes_2 : decode cX13_goes 2 = .ok (.ifCond .ne 7, 3) := by decide +kernel
theorem dX13_goes_5 : decode cX13_goes 5 = .ok (.iconst 1, 1) := by decide +kernel
theorem dX13_goes_6 : decode cX13_goes 6 = .ok (.goto 4, 3) := by decide +kernel
theorem dX13_goes_9 : decode cX13_goes 9 = .ok (.iconst 0, 1) := by decide +kernel
theorem dX13_goes_10 : decode cX13_goes 10 = .ok (.invokestatic 96, 3) := by decide +kernel
theorem dX13_goes_13 : decode cX13_goes 13 = .ok (.putfield 93, 3) := by decide +kernel
theorem dX13_goes_16 : decode cX13_goes 16 = .ok (.iload_n 1, 1) := by decide +kernel
theorem dX13_goes_17 : decode cX13_goes 17 = .ok (.ireturn, 1) := by decide +kernel
set_option maxRecDepth 20000 in
theorem ggX13_feed_X13_goes : GoodIn wsX13_feed wsX13_goes := goodIn_r _ [6, 7, 8, 9, 5, 10, 16, 17, 18, 19, 20, 21, 22, 23, 24, 25, 26, 27, 28, 29, 30, 31, 32, 33, 34, 35, 36, 37, 38, 39, 40, 41, 42, 43, 44, 45, 46, 47, 48, 49, 50, 51, 52, 53, 54, 55, 56, 57, 58, 59, 60, 61, 62, 63] (by decide +kernel) (by decide +kernel)
set_option maxRecDepth 20000 in
theorem gX13_feed_X13_goes : GoodIn wsX13_feed (wsV RX13 103 RX13 yX13_goes wsX13_goes) := goodIn_app (goodIn_of _ (by decide +kernel)) ggX13_feed_X13_goes
set_option maxRecDepth 20000 in
theorem ggX13_feed_X13_four : GoodIn wsX13_feed wsX13_four := goodIn_r _ [14, 15, 1, 16, 17, 18, 19, 20, 21, 22, 23, 24, 25, 26, 27, 28, 29, 30, 31, 32, 33, 34, 35, 36, 37, 38, 39, 40, 41, 42, 43, 44, 45, 46, 47, 48, 49, 50, 51, 52, 53, 54, 55, 56, 57, 58, 59, 60, 61, 62, 63] (by decide +kernel) (by decide +kernel)
set_option maxRecDepth 20000 in
theorem gX13_feed_X13_four : GoodIn wsX13_feed (wsV RX13 107 RX13 yX13_four wsX13_four) := goodIn_app (goodIn_of _ (by decide +kernel)) ggX13_feed_X13_four
theorem dX13_feed_0 : decode cX13_feed 0 = .ok (.aload_n 0, 1) := by decide +kernel
theorem dX13_feed_1 : decode cX13_feed 1 = .ok (.aload_n 0, 1) := by decide +kernel
theorem dX13_feed_2 : decode cX13_feed 2 = .ok (.getfield 100, 3) := by decide +kernel
theorem dX13_feed_5 : decode cX13_feed 5 = .ok (.bipush 20, 2) := by decide +kernel
theorem dX13_feed_7 : decode cX13_feed 7 = .ok (.iadd, 1) := by decide +kernel
theorem dX13_feed_8 : decode cX13_feed 8 = .ok (.sipush 900, 3) := by decide +kernel
theorem dX13_feed_11 : decode cX13_feed 11 = .ok (.if_icmp .gt 7, 3) := by decide +kernel
theorem dX13_feed_14 : decode cX13_feed 14 = .ok (.iconst 1, 1) := by decide +kernel
theorem dX13_feed_15 : decode cX13_feed 15 = .ok (.goto 4, 3) := by decide +kernel
theorem dX13_feed_18 : decode cX13_feed 18 = .ok (.iconst 0, 1) := by decide +kernel
theorem dX13_feed_19 : decode cX13_feed 19 = .ok (.invokevirtual 103, 3) := by decide +kernel
theorem dX13_feed_22 : decode cX13_feed 22 = .ok (.ifCond .ne 5, 3) := by decide +kernel
theorem dX13_feed_25 : decode cX13_feed 25 = .ok (.iconst 0, 1) := by decide +kernel
theorem dX13_feed_26 : decode cX13_feed 26 = .ok (.ireturn, 1) := by decide +kernel
theorem dX13_feed_27 : decode cX13_feed 27 = .ok (.aload_n 0, 1) := by decide +kernel
theorem dX13_feed_28 : decode cX13_feed 28 = .ok (.iload_n 1, 1) := by decide +kernel
theorem dX13_feed_29 : decode cX13_feed 29 = .ok (.invokevirtual 107, 3) := by decide +kernel
theorem dX13_feed_32 : decode cX13_feed 32 = .ok (.aload_n 0, 1) := by decide +kernel
theorem dX13_feed_33 : decode cX13_feed 33 = .ok (.iload_n 2, 1) := by decide +kernel
theorem dX13_feed_34 : decode cX13_feed 34 = .ok (.invokevirtual 107, 3) := by decide +kernel
theorem dX13_feed_37 : decode cX13_feed 37 = .ok (.aload_n 0, 1) := by decide +kernel
theorem dX13_feed_38 : decode cX13_feed 38 = .ok (.iload_n 3, 1) := by decide +kernel
theorem dX13_feed_39 : decode cX13_feed 39 = .ok (.invokevirtual 107, 3) := by decide +kernel
theorem dX13_feed_42 : decode cX13_feed 42 = .ok (.aload_n 0, 1) := by decide +kernel
theorem dX13_feed_43 : decode cX13_feed 43 = .ok (.iload 4, 2) := by decide +kernel
theorem dX13_feed_45 : decode cX13_feed 45 = .ok (.invokevirtual 107, 3) := by decide +kernel
theorem dX13_feed_48 : decode cX13_feed 48 = .ok (.aload_n 0, 1) := by decide +kernel
theorem dX13_feed_49 : decode cX13_feed 49 = .ok (.iload 5, 2) := by decide +kernel
theorem dX13_feed_51 : decode cX13_feed 51 = .ok (.invokevirtual 107, 3) := by decide +kernel
theorem dX13_feed_54 : decode cX13_feed 54 = .ok (.aload_n 0, 1) := by decide +kernel
theorem dX13_feed_55 : decode cX13_feed 55 = .ok (.getfield 100, 3) := by decide +kernel
theorem dX13_feed_58 : decode cX13_feed 58 = .ok (.ireturn, 1) := by decide +kernel
theorem dX13_four_0 : decode cX13_four 0 = .ok (.bipush 24, 2) := by decide +kernel
theorem dX13_four_2 : decode cX13_four 2 = .ok (.istore_n 2, 1) := by decide +kernel
theorem dX13_four_3 : decode cX13_four 3 = .ok (.iload_n 2, 1) := by decide +kernel
theorem dX13_four_4 : decode cX13_four 4 = .ok (.ifCond .lt 35, 3) := by decide +kernel
theorem dX13_four_7 : decode cX13_four 7 = .ok (.aload_n 0, 1) := by decide +kernel
theorem dX13_four_8 : decode cX13_four 8 = .ok (.getfield 7, 3) := by decide +kernel
theorem dX13_four_11 : decode cX13_four 11 = .ok (.aload_n 0, 1) := by decide +kernel
theorem dX13_four_12 : decode cX13_four 12 = .ok (.getfield 100, 3) := by decide +kernel
theorem dX13_four_15 : decode cX13_four 15 = .ok (.iload_n 1, 1) := by decide +kernel
theorem dX13_four_16 : decode cX13_four 16 = .ok (.iload_n 2, 1) := by decide +kernel
theorem dX13_four_17 : decode cX13_four 17 = .ok (.ishr, 1) := by decide +kernel
theorem dX13_four_18 : decode cX13_four 18 = .ok (.sipush 255, 3) := by decide +kernel
theorem dX13_four_21 : decode cX13_four 21 = .ok (.iand, 1) := by decide +kernel
theorem dX13_four_22 : decode cX13_four 22 = .ok (.iastore, 1) := by decide +kernel
theorem dX13_four_23 : decode cX13_four 23 = .ok (.aload_n 0, 1) := by decide +kernel
theorem dX13_four_24 : decode cX13_four 24 = .ok (.dup, 1) := by decide +kernel
theorem dX13_four_25 : decode cX13_four 25 = .ok (.getfield 100, 3) := by decide +kernel
theorem dX13_four_28 : decode cX13_four 28 = .ok (.iconst 1, 1) := by decide +kernel
theorem dX13_four_29 : decode cX13_four 29 = .ok (.iadd, 1) := by decide +kernel
theorem dX13_four_30 : decode cX13_four 30 = .ok (.putfield 100, 3) := by decide +kernel
theorem dX13_four_33 : decode cX13_four 33 = .ok (.iinc 2 (-8), 3) := by decide +kernel
theorem dX13_four_36 : decode cX13_four 36 = .ok (.goto (-33), 3) := by decide +kernel
theorem dX13_four_39 : decode cX13_four 39 = .ok (.return_, 1) := by decide +kernel
set_option maxRecDepth 20000 in
theorem ggX13_truncate_X13_isIn : GoodIn wsX13_truncate wsX13_isIn := goodIn_r _ [5] (by decide +kernel) (by decide +kernel)
set_option maxRecDepth 20000 in
theorem gX13_truncate_X13_isIn : GoodIn wsX13_truncate (va_wsS RX13 111 yX13_isIn wsX13_isIn) := goodIn_app (goodIn_of _ (by decide +kernel)) ggX13_truncate_X13_isIn
set_option maxRecDepth 20000 in
theorem ggX13_truncate_X13_goes : GoodIn wsX13_truncate wsX13_goes := goodIn_r _ [9, 10, 11, 12, 4, 13, 14, 15, 16, 17, 18, 19, 20, 21, 22, 23, 24, 25, 26, 27, 28, 29, 30, 31, 32, 33, 34, 35, 36, 37, 38, 39, 40, 41, 42, 43, 44, 45, 46, 47, 48, 49, 50, 51, 52, 53, 54, 55, 56, 57, 58, 59, 60, 61] (by decide +kernel) (by decide +kernel)
set_option maxRecDepth 20000 in
theorem gX13_truncate_X13_goes : GoodIn wsX13_truncate (wsV RX13 103 RX13 yX13_goes wsX13_goes) := goodIn_app (goodIn_of _ (by decide +kernel)) ggX13_truncate_X13_goes
theorem dX13_truncate_0 : decode cX13_truncate 0 = .ok (.aload_n 0, 1) := by decide +kernel
theorem dX13_truncate_1 : decode cX13_truncate 1 = .ok (.iload_n 1, 1) := by decide +kernel
theorem dX13_truncate_2 : decode cX13_truncate 2 = .ok (.i2l, 1) := by decide +kernel
theorem dX13_truncate_3 : decode cX13_truncate 3 = .ok (.lconst 0, 1) := by decide +kernel
theorem dX13_truncate_4 : decode cX13_truncate 4 = .ok (.aload_n 0, 1) := by decide +kernel
theorem dX13_truncate_5 : decode cX13_truncate 5 = .ok (.getfield 100, 3) := by decide +kernel
theorem dX13_truncate_8 : decode cX13_truncate 8 = .ok (.i2l, 1) := by decide +kernel
theorem dX13_truncate_9 : decode cX13_truncate 9 = .ok (.invokestatic 111, 3) := by decide +kernel
theorem dX13_truncate_12 : decode cX13_truncate 12 = .ok (.invokevirtual 103, 3) := by decide +kernel
theorem dX13_truncate_15 : decode cX13_truncate 15 = .ok (.ifCond .ne 5, 3) := by decide +kernel
theorem dX13_truncate_18 : decode cX13_truncate 18 = .ok (.iconst 0, 1) := by decide +kernel
theorem dX13_truncate_19 : decode cX13_truncate 19 = .ok (.ireturn, 1) := by decide +kernel
theorem dX13_truncate_20 : decode cX13_truncate 20 = .ok (.aload_n 0, 1) := by decide +kernel
theorem dX13_truncate_21 : decode cX13_truncate 21 = .ok (.iload_n 1, 1) := by decide +kernel
theorem dX13_truncate_22 : decode cX13_truncate 22 = .ok (.putfield 100, 3) := by decide +kernel
theorem dX13_truncate_25 : decode cX13_truncate 25 = .ok (.iload_n 1, 1) := by decide +kernel
theorem dX13_truncate_26 : decode cX13_truncate 26 = .ok (.ireturn, 1) := by decide +kernel
theorem dX13_here_0 : decode cX13_here 0 = .ok (.aload_n 0, 1) := by decide +kernel
theorem dX13_here_1 : decode cX13_here 1 = .ok (.getfield 115, 3) := by decide +kernel
theorem dX13_here_4 : decode cX13_here 4 = .ok (.iload_n 1, 1) := by decide +kernel
theorem dX13_here_5 : decode cX13_here 5 = .ok (.iadd, 1) := by decide +kernel
theorem dX13_here_6 : decode cX13_here 6 = .ok (.aload_n 0, 1) := by decide +kernel
theorem dX13_here_7 : decode cX13_here 7 = .ok (.getfield 118, 3) := by decide +kernel
theorem dX13_here_10 : decode cX13_here 10 = .ok (.if_icmp .ge 17, 3) := by decide +kernel
theorem dX13_here_13 : decode cX13_here 13 = .ok (.aload_n 0, 1) := by decide +kernel
theorem dX13_here_14 : decode cX13_here 14 = .ok (.getfield 7, 3) := by decide +kernel
theorem dX13_here_17 : decode cX13_here 17 = .ok (.aload_n 0, 1) := by decide +kernel
theorem dX13_here_18 : decode cX13_here 18 = .ok (.getfield 115, 3) := by decide +kernel
theorem dX13_here_21 : decode cX13_here 21 = .ok (.iload_n 1, 1) := by decide +kernel
theorem dX13_here_22 : decode cX13_here 22 = .ok (.iadd, 1) := by decide +kernel
theorem dX13_here_23 : decode cX13_here 23 = .ok (.iaload, 1) := by decide +kernel
theorem dX13_here_24 : decode cX13_here 24 = .ok (.goto 4, 3) := by decide +kernel
theorem dX13_here_27 : decode cX13_here 27 = .ok (.iconst (-1), 1) := by decide +kernel
theorem dX13_here_28 : decode cX13_here 28 = .ok (.ireturn, 1) := by decide +kernel
theorem dX13_isLetter_0 : decode cX13_isLetter 0 = .ok (.iload_n 0, 1) := by decide +kernel
theorem dX13_isLetter_1 : decode cX13_isLetter 1 = .ok (.bipush 97, 2) := by decide +kernel
theorem dX13_isLetter_3 : decode cX13_isLetter 3 = .ok (.if_icmp .lt 13, 3) := by decide +kernel
theorem dX13_isLetter_6 : decode cX13_isLetter 6 = .ok (.iload_n 0, 1) := by decide +kernel
theorem dX13_isLetter_7 : decode cX13_isLetter 7 = .ok (.bipush 122, 2) := by decide +kernel
theorem dX13_isLetter_9 : decode cX13_isLetter 9 = .ok (.if_icmp .gt 7, 3) := by decide +kernel
theorem dX13_isLetter_12 : decode cX13_isLetter 12 = .ok (.iconst 1, 1) := by decide +kernel
theorem dX13_isLetter_13 : decode cX13_isLetter 13 = .ok (.goto 4, 3) := by decide +kernel
theorem dX13_isLetter_16 : decode cX13_isLetter 16 = .ok (.iconst 0, 1) := by decide +kernel
theorem dX13_isLetter_17 : decode cX13_isLetter 17 = .ok (.ireturn, 1) := by decide +kernel
theorem dX13_isDigit_0 : decode cX13_isDigit 0 = .ok (.iload_n 0, 1) := by decide +kernel
theorem dX13_isDigit_1 : decode cX13_isDigit 1 = .ok (.bipush 48, 2) := by decide +kernel
theorem dX13_isDigit_3 : decode cX13_isDigit 3 = .ok (.if_icmp .lt 13, 3) := by decide +kernel
theorem dX13_isDigit_6 : decode cX13_isDigit 6 = .ok (.iload_n 0, 1) := by decide +kernel
theorem dX13_isDigit_7 : decode cX13_isDigit 7 = .ok (.bipush 57, 2) := by decide +kernel
theorem dX13_isDigit_9 : decode cX13_isDigit 9 = .ok (.if_icmp .gt 7, 3) := by decide +kernel
theorem dX13_isDigit_12 : decode cX13_isDigit 12 = .ok (.iconst 1, 1) := by decide +kernel
theorem dX13_isDigit_13 : decode cX13_isDigit 13 = .ok (.goto 4, 3) := by decide +kernel
theorem dX13_isDigit_16 : decode cX13_isDigit 16 = .ok (.iconst 0, 1) := by decide +kernel
theorem dX13_isDigit_17 : decode cX13_isDigit 17 = .ok (.ireturn, 1) := by decide +kernel
set_option maxRecDepth 20000 in
theorem ggX13_goOn_X13_here : GoodIn wsX13_goOn wsX13_here := goodIn_r _ [10, 1, 11, 12, 19, 20, 21, 22, 23, 24, 25, 26, 27, 28, 29, 30, 31, 32, 33, 34, 35, 36, 37, 38, 39, 40, 41, 42, 43, 44, 45, 46, 47, 48, 49, 50, 51, 52, 53, 54, 55, 56, 57, 58, 59, 60, 61, 62, 63, 64, 65, 66] (by decide +kernel) (by decide +kernel)
set_option maxRecDepth 20000 in
theorem gX13_goOn_X13_here : GoodIn wsX13_goOn (wsV RX13 121 RX13 yX13_here wsX13_here) := goodIn_app (goodIn_of _ (by decide +kernel)) ggX13_goOn_X13_here
set_option maxRecDepth 20000 in
theorem ggX13_goOn_X13_isLetter : GoodIn wsX13_goOn wsX13_isLetter := goodIn_r _ [15] (by decide +kernel) (by decide +kernel)
set_option maxRecDepth 20000 in
theorem gX13_goOn_X13_isLetter : GoodIn wsX13_goOn (va_wsS RX13 138 yX13_isLetter wsX13_isLetter) := goodIn_app (goodIn_of _ (by decide +kernel)) ggX13_goOn_X13_isLetter
set_option maxRecDepth 20000 in
theorem ggX13_goOn_X13_isDigit : GoodIn wsX13_goOn wsX13_isDigit := goodIn_r _ [18] (by decide +kernel) (by decide +kernel)
set_option maxRecDepth 20000 in
theorem gX13_goOn_X13_isDigit : GoodIn wsX13_goOn (va_wsS RX13 142 yX13_isDigit wsX13_isDigit) := goodIn_app (goodIn_of _ (by decide +kernel)) ggX13_goOn_X13_isDigit
theorem dX13_goOn_0 : decode cX13_goOn 0 = .ok (.aload_n 0, 1) := by decide +kernel
theorem dX13_goOn_1 : decode cX13_goOn 1 = .ok (.iconst 0, 1) := by decide +kernel
theorem dX13_goOn_2 : decode cX13_goOn 2 = .ok (.invokevirtual 121, 3) := by decide +kernel
theorem dX13_goOn_5 : decode cX13_goOn 5 = .ok (.bipush 32, 2) := by decide +kernel
theorem dX13_goOn_7 : decode cX13_goOn 7 = .ok (.if_icmp .eq 13, 3) := by decide +kernel
theorem dX13_goOn_10 : decode cX13_goOn 10 = .ok (.aload_n 0, 1) := by decide +kernel
theorem dX13_goOn_11 : decode cX13_goOn 11 = .ok (.iconst 0, 1) := by decide +kernel
theorem dX13_goOn_12 : decode cX13_goOn 12 = .ok (.invokevirtual 121, 3) := by decide +kernel
theorem dX13_goOn_15 : decode cX13_goOn 15 = .ok (.bipush 10, 2) := by decide +kernel
theorem dX13_goOn_17 : decode cX13_goOn 17 = .ok (.if_icmp .ne 16, 3) := by decide +kernel
theorem dX13_goOn_20 : decode cX13_goOn 20 = .ok (.aload_n 0, 1) := by decide +kernel
theorem dX13_goOn_21 : decode cX13_goOn 21 = .ok (.dup, 1) := by decide +kernel
theorem dX13_goOn_22 : decode cX13_goOn 22 = .ok (.getfield 115, 3) := by decide +kernel
theorem dX13_goOn_25 : decode cX13_goOn 25 = .ok (.iconst 1, 1) := by decide +kernel
theorem dX13_goOn_26 : decode cX13_goOn 26 = .ok (.iadd, 1) := by decide +kernel
theorem dX13_goOn_27 : decode cX13_goOn 27 = .ok (.putfield 115, 3) := by decide +kernel
theorem dX13_goOn_30 : decode cX13_goOn 30 = .ok (.goto (-30), 3) := by decide +kernel
theorem dX13_goOn_33 : decode cX13_goOn 33 = .ok (.aload_n 0, 1) := by decide +kernel
theorem dX13_goOn_34 : decode cX13_goOn 34 = .ok (.aload_n 0, 1) := by decide +kernel
theorem dX13_goOn_35 : decode cX13_goOn 35 = .ok (.getfield 115, 3) := by decide +kernel
theorem dX13_goOn_38 : decode cX13_goOn 38 = .ok (.putfield 125, 3) := by decide +kernel
theorem dX13_goOn_41 : decode cX13_goOn 41 = .ok (.aload_n 0, 1) := by decide +kernel
theorem dX13_goOn_42 : decode cX13_goOn 42 = .ok (.lconst 0, 1) := by decide +kernel
theorem dX13_goOn_43 : decode cX13_goOn 43 = .ok (.putfield 128, 3) := by decide +kernel
theorem dX13_goOn_46 : decode cX13_goOn 46 = .ok (.aload_n 0, 1) := by decide +kernel
theorem dX13_goOn_47 : decode cX13_goOn 47 = .ok (.iconst 0, 1) := by decide +kernel
theorem dX13_goOn_48 : decode cX13_goOn 48 = .ok (.putfield 132, 3) := by decide +kernel
theorem dX13_goOn_51 : decode cX13_goOn 51 = .ok (.aload_n 0, 1) := by decide +kernel
theorem dX13_goOn_52 : decode cX13_goOn 52 = .ok (.iconst 0, 1) := by decide +kernel
theorem dX13_goOn_53 : decode cX13_goOn 53 = .ok (.invokevirtual 121, 3) := by decide +kernel
theorem dX13_goOn_56 : decode cX13_goOn 56 = .ok (.istore_n 1, 1) := by decide +kernel
theorem dX13_goOn_57 : decode cX13_goOn 57 = .ok (.iconst 0, 1) := by decide +kernel
theorem dX13_goOn_58 : decode cX13_goOn 58 = .ok (.istore_n 2, 1) := by decide +kernel
theorem dX13_goOn_59 : decode cX13_goOn 59 = .ok (.iload_n 1, 1) := by decide +kernel
theorem dX13_goOn_60 : decode cX13_goOn 60 = .ok (.ifCond .ge 9, 3) := by decide +kernel
theorem dX13_goOn_63 : decode cX13_goOn 63 = .ok (.aload_n 0, 1) := by decide +kernel
theorem dX13_goOn_64 : decode cX13_goOn 64 = .ok (.iconst 0, 1) := by decide +kernel
theorem dX13_goOn_65 : decode cX13_goOn 65 = .ok (.putfield 135, 3) := by decide +kernel
theorem dX13_goOn_68 : decode cX13_goOn 68 = .ok (.return_, 1) := by decide +kernel
theorem dX13_goOn_69 : decode cX13_goOn 69 = .ok (.iload_n 1, 1) := by decide +kernel
theorem dX13_goOn_70 : decode cX13_goOn 70 = .ok (.invokestatic 138, 3) := by decide +kernel
theorem dX13_goOn_73 : decode cX13_goOn 73 = .ok (.ifCond .eq 66, 3) := by decide +kernel
theorem dX13_goOn_76 : decode cX13_goOn 76 = .ok (.aload_n 0, 1) := by decide +kernel
theorem dX13_goOn_77 : decode cX13_goOn 77 = .ok (.iload_n 2, 1) := by decide +kernel
theorem dX13_goOn_78 : decode cX13_goOn 78 = .ok (.invokevirtual 121, 3) := by decide +kernel
theorem dX13_goOn_81 : decode cX13_goOn 81 = .ok (.invokestatic 138, 3) := by decide +kernel
theorem dX13_goOn_84 : decode cX13_goOn 84 = .ok (.ifCond .eq 37, 3) := by decide +kernel
theorem dX13_goOn_87 : decode cX13_goOn 87 = .ok (.iload_n 2, 1) := by decide +kernel
theorem dX13_goOn_88 : decode cX13_goOn 88 = .ok (.bipush 8, 2) := by decide +kernel
theorem dX13_goOn_90 : decode cX13_goOn 90 = .ok (.if_icmp .ge 25, 3) := by decide +kernel
theorem dX13_goOn_93 : decode cX13_goOn 93 = .ok (.aload_n 0, 1) := by decide +kernel
theorem dX13_goOn_94 : decode cX13_goOn 94 = .ok (.aload_n 0, 1) := by decide +kernel
theorem dX13_goOn_95 : decode cX13_goOn 95 = .ok (.getfield 128, 3) := by decide +kernel
theorem dX13_goOn_98 : decode cX13_goOn 98 = .ok (.iconst 5, 1) := by decide +kernel
theorem dX13_goOn_99 : decode cX13_goOn 99 = .ok (.lshl, 1) := by decide +kernel
theorem dX13_goOn_100 : decode cX13_goOn 100 = .ok (.aload_n 0, 1) := by decide +kernel
theorem dX13_goOn_101 : decode cX13_goOn 101 = .ok (.iload_n 2, 1) := by decide +kernel
theorem dX13_goOn_102 : decode cX13_goOn 102 = .ok (.invokevirtual 121, 3) := by decide +kernel
theorem dX13_goOn_105 : decode cX13_goOn 105 = .ok (.bipush 97, 2) := by decide +kernel
theorem dX13_goOn_107 : decode cX13_goOn 107 = .ok (.isub, 1) := by decide +kernel
theorem dX13_goOn_108 : decode cX13_goOn 108 = .ok (.iconst 1, 1) := by decide +kernel
theorem dX13_goOn_109 : decode cX13_goOn 109 = .ok (.iadd, 1) := by decide +kernel
theorem dX13_goOn_110 : decode cX13_goOn 110 = .ok (.i2l, 1) := by decide +kernel
theorem dX13_goOn_111 : decode cX13_goOn 111 = .ok (.lor, 1) := by decide +kernel
theorem dX13_goOn_112 : decode cX13_goOn 112 = .ok (.putfield 128, 3) := by decide +kernel
theorem dX13_goOn_115 : decode cX13_goOn 115 = .ok (.iinc 2 1, 3) := by decide +kernel
theorem dX13_goOn_118 : decode cX13_goOn 118 = .ok (.goto (-42), 3) := by decide +kernel
theorem dX13_goOn_121 : decode cX13_goOn 121 = .ok (.aload_n 0, 1) := by decide +kernel
theorem dX13_goOn_122 : decode cX13_goOn 122 = .ok (.iload_n 2, 1) := by decide +kernel
theorem dX13_goOn_123 : decode cX13_goOn 123 = .ok (.bipush 8, 2) := by decide +kernel
theorem dX13_goOn_125 : decode cX13_goOn 125 = .ok (.if_icmp .le 7, 3) := by decide +kernel
theorem dX13_goOn_128 : decode cX13_goOn 128 = .ok (.iconst 4, 1) := by decide +kernel
theorem dX13_goOn_129 : decode cX13_goOn 129 = .ok (.goto 4, 3) := by decide +kernel
theorem dX13_goOn_132 : decode cX13_goOn 132 = .ok (.iconst 1, 1) := by decide +kernel
theorem dX13_goOn_133 : decode cX13_goOn 133 = .ok (.putfield 135, 3) := by decide +kernel
theorem dX13_goOn_136 : decode cX13_goOn 136 = .ok (.goto 103, 3) := by decide +kernel
theorem dX13_goOn_139 : decode cX13_goOn 139 = .ok (.iload_n 1, 1) := by decide +kernel
theorem dX13_goOn_140 : decode cX13_goOn 140 = .ok (.invokestatic 142, 3) := by decide +kernel
theorem dX13_goOn_143 : decode cX13_goOn 143 = .ok (.ifCond .eq 62, 3) := by decide +kernel
theorem dX13_goOn_146 : decode cX13_goOn 146 = .ok (.aload_n 0, 1) := by decide +kernel
theorem dX13_goOn_147 : decode cX13_goOn 147 = .ok (.iload_n 2, 1) := by decide +kernel
theorem dX13_goOn_148 : decode cX13_goOn 148 = .ok (.invokevirtual 121, 3) := by decide +kernel
theorem dX13_goOn_151 : decode cX13_goOn 151 = .ok (.invokestatic 142, 3) := by decide +kernel
theorem dX13_goOn_154 : decode cX13_goOn 154 = .ok (.ifCond .eq 34, 3) := by decide +kernel
theorem dX13_goOn_157 : decode cX13_goOn 157 = .ok (.iload_n 2, 1) := by decide +kernel
theorem dX13_goOn_158 : decode cX13_goOn 158 = .ok (.iconst 4, 1) := by decide +kernel
theorem dX13_goOn_159 : decode cX13_goOn 159 = .ok (.if_icmp .ge 23, 3) := by decide +kernel
theorem dX13_goOn_162 : decode cX13_goOn 162 = .ok (.aload_n 0, 1) := by decide +kernel
theorem dX13_goOn_163 : decode cX13_goOn 163 = .ok (.bipush 10, 2) := by decide +kernel
theorem dX13_goOn_165 : decode cX13_goOn 165 = .ok (.aload_n 0, 1) := by decide +kernel
theorem dX13_goOn_166 : decode cX13_goOn 166 = .ok (.getfield 132, 3) := by decide +kernel
theorem dX13_goOn_169 : decode cX13_goOn 169 = .ok (.imul, 1) := by decide +kernel
theorem dX13_goOn_170 : decode cX13_goOn 170 = .ok (.aload_n 0, 1) := by decide +kernel
theorem dX13_goOn_171 : decode cX13_goOn 171 = .ok (.iload_n 2, 1) := by decide +kernel
theorem dX13_goOn_172 : decode cX13_goOn 172 = .ok (.invokevirtual 121, 3) := by decide +kernel
theorem dX13_goOn_175 : decode cX13_goOn 175 = .ok (.iadd, 1) := by decide +kernel
theorem dX13_goOn_176 : decode cX13_goOn 176 = .ok (.bipush 48, 2) := by decide +kernel
theorem dX13_goOn_178 : decode cX13_goOn 178 = .ok (.isub, 1) := by decide +kernel
theorem dX13_goOn_179 : decode cX13_goOn 179 = .ok (.putfield 132, 3) := by decide +kernel
theorem dX13_goOn_182 : decode cX13_goOn 182 = .ok (.iinc 2 1, 3) := by decide +kernel
theorem dX13_goOn_185 : decode cX13_goOn 185 = .ok (.goto (-39), 3) := by decide +kernel
theorem dX13_goOn_188 : decode cX13_goOn 188 = .ok (.aload_n 0, 1) := by decide +kernel
theorem dX13_goOn_189 : decode cX13_goOn 189 = .ok (.iload_n 2, 1) := by decide +kernel
theorem dX13_goOn_190 : decode cX13_goOn 190 = .ok (.iconst 4, 1) := by decide +kernel
theorem dX13_goOn_191 : decode cX13_goOn 191 = .ok (.if_icmp .le 7, 3) := by decide +kernel
theorem dX13_goOn_194 : decode cX13_goOn 194 = .ok (.iconst 4, 1) := by decide +kernel
theorem dX13_goOn_195 : decode cX13_goOn 195 = .ok (.goto 4, 3) := by decide +kernel
theorem dX13_goOn_198 : decode cX13_goOn 198 = .ok (.iconst 2, 1) := by decide +kernel
theorem dX13_goOn_199 : decode cX13_goOn 199 = .ok (.putfield 135, 3) := by decide +kernel
theorem dX13_goOn_202 : decode cX13_goOn 202 = .ok (.goto 37, 3) := by decide +kernel
theorem dX13_goOn_205 : decode cX13_goOn 205 = .ok (.aload_n 0, 1) := by decide +kernel
theorem dX13_goOn_206 : decode cX13_goOn 206 = .ok (.iload_n 1, 1) := by decide +kernel
theorem dX13_goOn_207 : decode cX13_goOn 207 = .ok (.bipush 59, 2) := by decide +kernel
theorem dX13_goOn_209 : decode cX13_goOn 209 = .ok (.if_icmp .eq 15, 3) := by decide +kernel
theorem dX13_goOn_212 : decode cX13_goOn 212 = .ok (.iload_n 1, 1) := by decide +kernel
theorem dX13_goOn_213 : decode cX13_goOn 213 = .ok (.bipush 40, 2) := by decide +kernel
theorem dX13_goOn_215 : decode cX13_goOn 215 = .ok (.if_icmp .eq 9, 3) := by decide +kernel
theorem dX13_goOn_218 : decode cX13_goOn 218 = .ok (.iload_n 1, 1) := by decide +kernel
theorem dX13_goOn_219 : decode cX13_goOn 219 = .ok (.bipush 41, 2) := by decide +kernel
theorem dX13_goOn_221 : decode cX13_goOn 221 = .ok (.if_icmp .ne 7, 3) := by decide +kernel
theorem dX13_goOn_224 : decode cX13_goOn 224 = .ok (.iconst 3, 1) := by decide +kernel
theorem dX13_goOn_225 : decode cX13_goOn 225 = .ok (.goto 4, 3) := by decide +kernel
theorem dX13_goOn_228 : decode cX13_goOn 228 = .ok (.iconst 4, 1) := by decide +kernel
theorem dX13_goOn_229 : decode cX13_goOn 229 = .ok (.putfield 135, 3) := by decide +kernel
theorem dX13_goOn_232 : decode cX13_goOn 232 = .ok (.aload_n 0, 1) := by decide +kernel
theorem dX13_goOn_233 : decode cX13_goOn 233 = .ok (.iload_n 1, 1) := by decide +kernel
theorem dX13_goOn_234 : decode cX13_goOn 234 = .ok (.putfield 132, 3) := by decide +kernel
theorem dX13_goOn_237 : decode cX13_goOn 237 = .ok (.iconst 1, 1) := by decide +kernel
theorem dX13_goOn_238 : decode cX13_goOn 238 = .ok (.istore_n 2, 1) := by decide +kernel
theorem dX13_goOn_239 : decode cX13_goOn 239 = .ok (.aload_n 0, 1) := by decide +kernel
theorem dX13_goOn_240 : decode cX13_goOn 240 = .ok (.dup, 1) := by decide +kernel
theorem dX13_goOn_241 : decode cX13_goOn 241 = .ok (.getfield 115, 3) := by decide +kernel
theorem dX13_goOn_244 : decode cX13_goOn 244 = .ok (.iload_n 2, 1) := by decide +kernel
theorem dX13_goOn_245 : decode cX13_goOn 245 = .ok (.iadd, 1) := by decide +kernel
theorem dX13_goOn_246 : decode cX13_goOn 246 = .ok (.putfield 115, 3) := by decide +kernel
theorem dX13_goOn_249 : decode cX13_goOn 249 = .ok (.return_, 1) := by decide +kernel
theorem dX13_wrong_0 : decode cX13_wrong 0 = .ok (.aload_n 0, 1) := by decide +kernel
theorem dX13_wrong_1 : decode cX13_wrong 1 = .ok (.getfield 145, 3) := by decide +kernel
theorem dX13_wrong_4 : decode cX13_wrong 4 = .ok (.ifCond .le 4, 3) := by decide +kernel
theorem dX13_wrong_7 : decode cX13_wrong 7 = .ok (.return_, 1) := by decide +kernel
theorem dX13_wrong_8 : decode cX13_wrong 8 = .ok (.aload_n 0, 1) := by decide +kernel
theorem dX13_wrong_9 : decode cX13_wrong 9 = .ok (.aload_n 0, 1) := by decide +kernel
theorem dX13_wrong_10 : decode cX13_wrong 10 = .ok (.getfield 135, 3) := by decide +kernel
theorem dX13_wrong_13 : decode cX13_wrong 13 = .ok (.iconst 4, 1) := by decide +kernel
theorem dX13_wrong_14 : decode cX13_wrong 14 = .ok (.if_icmp .ne 7, 3) := by decide +kernel
theorem dX13_wrong_17 : decode cX13_wrong 17 = .ok (.iconst 1, 1) := by decide +kernel
theorem dX13_wrong_18 : decode cX13_wrong 18 = .ok (.goto 4, 3) := by decide +kernel
theorem dX13_wrong_21 : decode cX13_wrong 21 = .ok (.iload_n 1, 1) := by decide +kernel
theorem dX13_wrong_22 : decode cX13_wrong 22 = .ok (.putfield 145, 3) := by decide +kernel
theorem dX13_wrong_25 : decode cX13_wrong 25 = .ok (.aload_n 0, 1) := by decide +kernel
theorem dX13_wrong_26 : decode cX13_wrong 26 = .ok (.aload_n 0, 1) := by decide +kernel
theorem dX13_wrong_27 : decode cX13_wrong 27 = .ok (.getfield 125, 3) := by decide +kernel
theorem dX13_wrong_30 : decode cX13_wrong 30 = .ok (.putfield 13, 3) := by decide +kernel
theorem dX13_wrong_33 : decode cX13_wrong 33 = .ok (.return_, 1) := by decide +kernel
theorem dX13_isGood_0 : decode cX13_isGood 0 = .ok (.aload_n 0, 1) := by decide +kernel
theorem dX13_isGood_1 : decode cX13_isGood 1 = .ok (.getfield 145, 3) := by decide +kernel
theorem dX13_isGood_4 : decode cX13_isGood 4 = .ok (.ifCond .ne 7, 3) := by decide +kernel
theorem dX13_isGood_7 : decode cX13_isGood 7 = .ok (.iconst 1, 1) := by decide +kernel
theorem dX13_isGood_8 : decode cX13_isGood 8 = .ok (.goto 4, 3) := by decide +kernel
theorem dX13_isGood_11 : decode cX13_isGood 11 = .ok (.iconst 0, 1) := by decide +kernel
theorem dX13_isGood_12 : decode cX13_isGood 12 = .ok (.ireturn, 1) := by decide +kernel
theorem dX13_isWord_0 : decode cX13_isWord 0 = .ok (.aload_n 0, 1) := by decide +kernel
theorem dX13_isWord_1 : decode cX13_isWord 1 = .ok (.getfield 145, 3) := by decide +kernel
theorem dX13_isWord_4 : decode cX13_isWord 4 = .ok (.ifCond .ne 24, 3) := by decide +kernel
theorem dX13_isWord_7 : decode cX13_isWord 7 = .ok (.aload_n 0, 1) := by decide +kernel
theorem dX13_isWord_8 : decode cX13_isWord 8 = .ok (.getfield 135, 3) := by decide +kernel
theorem dX13_isWord_11 : decode cX13_isWord 11 = .ok (.iconst 1, 1) := by decide +kernel
theorem dX13_isWord_12 : decode cX13_isWord 12 = .ok (.if_icmp .ne 16, 3) := by decide +kernel
theorem dX13_isWord_15 : decode cX13_isWord 15 = .ok (.aload_n 0, 1) := by decide +kernel
theorem dX13_isWord_16 : decode cX13_isWord 16 = .ok (.getfield 128, 3) := by decide +kernel
theorem dX13_isWord_19 : decode cX13_isWord 19 = .ok (.lload_n 1, 1) := by decide +kernel
theorem dX13_isWord_20 : decode cX13_isWord 20 = .ok (.lcmp, 1) := by decide +kernel
theorem dX13_isWord_21 : decode cX13_isWord 21 = .ok (.ifCond .ne 7, 3) := by decide +kernel
theorem dX13_isWord_24 : decode cX13_isWord 24 = .ok (.iconst 1, 1) := by decide +kernel
theorem dX13_isWord_25 : decode cX13_isWord 25 = .ok (.goto 4, 3) := by decide +kernel
theorem dX13_isWord_28 : decode cX13_isWord 28 = .ok (.iconst 0, 1) := by decide +kernel
theorem dX13_isWord_29 : decode cX13_isWord 29 = .ok (.ireturn, 1) := by decide +kernel
theorem dX13_isSign_0 : decode cX13_isSign 0 = .ok (.aload_n 0, 1) := by decide +kernel
theorem dX13_isSign_1 : decode cX13_isSign 1 = .ok (.getfield 145, 3) := by decide +kernel
theorem dX13_isSign_4 : decode cX13_isSign 4 = .ok (.ifCond .ne 23, 3) := by decide +kernel
theorem dX13_isSign_7 : decode cX13_isSign 7 = .ok (.aload_n 0, 1) := by decide +kernel
theorem dX13_isSign_8 : decode cX13_isSign 8 = .ok (.getfield 135, 3) := by decide +kernel
theorem dX13_isSign_11 : decode cX13_isSign 11 = .ok (.iconst 3, 1) := by decide +kernel
theorem dX13_isSign_12 : decode cX13_isSign 12 = .ok (.if_icmp .ne 15, 3) := by decide +kernel
theorem dX13_isSign_15 : decode cX13_isSign 15 = .ok (.aload_n 0, 1) := by decide +kernel
theorem dX13_isSign_16 : decode cX13_isSign 16 = .ok (.getfield 132, 3) := by decide +kernel
theorem dX13_isSign_19 : decode cX13_isSign 19 = .ok (.iload_n 1, 1) := by decide +kernel
theorem dX13_isSign_20 : decode cX13_isSign 20 = .ok (.if_icmp .ne 7, 3) := by decide +kernel
theorem dX13_isSign_23 : decode cX13_isSign 23 = .ok (.iconst 1, 1) := by decide +kernel
theorem dX13_isSign_24 : decode cX13_isSign 24 = .ok (.goto 4, 3) := by decide +kernel
theorem dX13_isSign_27 : decode cX13_isSign 27 = .ok (.iconst 0, 1) := by decide +kernel
theorem dX13_isSign_28 : decode cX13_isSign 28 = .ok (.ireturn, 1) := by decide +kernel
set_option maxRecDepth 20000 in
theorem ggX13_must_X13_isGood : GoodIn wsX13_must wsX13_isGood := goodIn_r _ [5, 6, 37, 38, 39, 40, 41, 42, 43, 44, 45, 46, 47, 48, 49, 50, 51, 52, 53, 54, 55, 56, 57, 58, 59, 60, 61, 62, 63, 64, 65, 66, 67, 68, 69, 70, 71, 72, 73, 74, 75, 76, 77, 78, 79, 80, 81, 82, 83, 84] (by decide +kernel) (by decide +kernel)
set_option maxRecDepth 20000 in
theorem gX13_must_X13_isGood : GoodIn wsX13_must (wsV RX13 148 RX13 yX13_isGood wsX13_isGood) := goodIn_app (goodIn_of _ (by decide +kernel)) ggX13_must_X13_isGood
set_option maxRecDepth 20000 in
theorem ggX13_must_X13_isWord : GoodIn wsX13_must wsX13_isWord := goodIn_r _ [10, 6, 11, 12, 37, 38, 39, 40, 41, 42, 43, 44, 45, 46, 47, 48, 49, 50, 51, 52, 53, 54, 55, 56, 57, 58, 59, 60, 61, 62, 63, 64, 65, 66, 67, 68, 69, 70, 71, 72, 73, 74, 75, 76, 77, 78, 79, 80, 81, 82, 83, 84] (by decide +kernel) (by decide +kernel)
set_option maxRecDepth 20000 in
theorem gX13_must_X13_isWord : GoodIn wsX13_must (wsV RX13 152 RX13 yX13_isWord wsX13_isWord) := goodIn_app (goodIn_of _ (by decide +kernel)) ggX13_must_X13_isWord
set_option maxRecDepth 20000 in
theorem ggX13_must_X13_wrong : GoodIn wsX13_must wsX13_wrong := goodIn_r _ [16, 6, 11, 17, 18, 37, 38, 39, 40, 41, 42, 43, 44, 45, 46, 47, 48, 49, 50, 51, 52, 53, 54, 55, 56, 57, 58, 59, 60, 61, 62, 63, 64, 65, 66, 67, 68, 69, 70, 71, 72, 73, 74, 75, 76, 77, 78, 79, 80, 81, 82, 83, 84] (by decide +kernel) (by decide +kernel)
set_option maxRecDepth 20000 in
theorem gX13_must_X13_wrong : GoodIn wsX13_must (wsV RX13 156 RX13 yX13_wrong wsX13_wrong) := goodIn_app (goodIn_of _ (by decide +kernel)) ggX13_must_X13_wrong
set_option maxRecDepth 20000 in
theorem ggX13_must_X13_goOn : GoodIn wsX13_must wsX13_goOn := goodIn_r _ [22, 23, 17, 12, 24, 11, 25, 26, 27, 4, 28, 29, 30, 31, 32, 33, 34, 35, 36, 37, 38, 39, 40, 41, 42, 43, 44, 45, 46, 47, 48, 49, 50, 51, 52, 53, 54, 55, 56, 57, 58, 59, 60, 61, 62, 63, 64, 65, 66, 67, 68, 69, 70, 71, 72, 73, 74, 75, 76, 77, 78, 79, 80, 81, 82, 83, 84] (by decide +kernel) (by decide +kernel)
set_option maxRecDepth 20000 in
theorem gX13_must_X13_goOn : GoodIn wsX13_must (wsV RX13 159 RX13 yX13_goOn wsX13_goOn) := goodIn_app (goodIn_of _ (by decide +kernel)) ggX13_must_X13_goOn
theorem dX13_must_0 : decode cX13_must 0 = .ok (.aload_n 0, 1) := by decide +kernel
theorem dX13_must_1 : decode cX13_must 1 = .ok (.invokevirtual 148, 3) := by decide +kernel
theorem dX13_must_4 : decode cX13_must 4 = .ok (.ifCond .eq 16, 3) := by decide +kernel
theorem dX13_must_7 : decode cX13_must 7 = .ok (.aload_n 0, 1) := by decide +kernel
theorem dX13_must_8 : decode cX13_must 8 = .ok (.lload_n 1, 1) := by decide +kernel
theorem dX13_must_9 : decode cX13_must 9 = .ok (.invokevirtual 152, 3) := by decide +kernel
theorem dX13_must_12 : decode cX13_must 12 = .ok (.ifCond .ne 8, 3) := by decide +kernel
theorem dX13_must_15 : decode cX13_must 15 = .ok (.aload_n 0, 1) := by decide +kernel
theorem dX13_must_16 : decode cX13_must 16 = .ok (.iconst 1, 1) := by decide +kernel
theorem dX13_must_17 : decode cX13_must 17 = .ok (.invokevirtual 156, 3) := by decide +kernel
theorem dX13_must_20 : decode cX13_must 20 = .ok (.aload_n 0, 1) := by decide +kernel
theorem dX13_must_21 : decode cX13_must 21 = .ok (.invokevirtual 148, 3) := by decide +kernel
theorem dX13_must_24 : decode cX13_must 24 = .ok (.ifCond .eq 7, 3) := by decide +kernel
theorem dX13_must_27 : decode cX13_must 27 = .ok (.aload_n 0, 1) := by decide +kernel
theorem dX13_must_28 : decode cX13_must 28 = .ok (.invokevirtual 159, 3) := by decide +kernel
theorem dX13_must_31 : decode cX13_must 31 = .ok (.return_, 1) := by decide +kernel
set_option maxRecDepth 20000 in
theorem ggX13_mustSign_X13_isGood : GoodIn wsX13_mustSign wsX13_isGood := goodIn_r _ [5, 6, 37, 38, 39, 40, 41, 42, 43, 44, 45, 46, 47, 48, 49, 50, 51, 52, 53, 54, 55, 56, 57, 58, 59, 60, 61, 62, 63, 64, 65, 66, 67, 68, 69, 70, 71, 72, 73, 74, 75, 76, 77, 78, 79, 80, 81, 82, 83, 84] (by decide +kernel) (by decide +kernel)
set_option maxRecDepth 20000 in
theorem gX13_mustSign_X13_isGood : GoodIn wsX13_mustSign (wsV RX13 148 RX13 yX13_isGood wsX13_isGood) := goodIn_app (goodIn_of _ (by decide +kernel)) ggX13_mustSign_X13_isGood
set_option maxRecDepth 20000 in
theorem ggX13_mustSign_X13_isSign : GoodIn wsX13_mustSign wsX13_isSign := goodIn_r _ [10, 6, 11, 12, 37, 38, 39, 40, 41, 42, 43, 44, 45, 46, 47, 48, 49, 50, 51, 52, 53, 54, 55, 56, 57, 58, 59, 60, 61, 62, 63, 64, 65, 66, 67, 68, 69, 70, 71, 72, 73, 74, 75, 76, 77, 78, 79, 80, 81, 82, 83, 84] (by decide +kernel) (by decide +kernel)
set_option maxRecDepth 20000 in
theorem gX13_mustSign_X13_isSign : GoodIn wsX13_mustSign (wsV RX13 162 RX13 yX13_isSign wsX13_isSign) := goodIn_app (goodIn_of _ (by decide +kernel)) ggX13_mustSign_X13_isSign
set_option maxRecDepth 20000 in
theorem ggX13_mustSign_X13_wrong : GoodIn wsX13_mustSign wsX13_wrong := goodIn_r _ [16, 6, 11, 17, 18, 37, 38, 39, 40, 41, 42, 43, 44, 45, 46, 47, 48, 49, 50, 51, 52, 53, 54, 55, 56, 57, 58, 59, 60, 61, 62, 63, 64, 65, 66, 67, 68, 69, 70, 71, 72, 73, 74, 75, 76, 77, 78, 79, 80, 81, 82, 83, 84] (by decide +kernel) (by decide +kernel)
set_option maxRecDepth 20000 in
theorem gX13_mustSign_X13_wrong : GoodIn wsX13_mustSign (wsV RX13 156 RX13 yX13_wrong wsX13_wrong) := goodIn_app (goodIn_of _ (by decide +kernel)) ggX13_mustSign_X13_wrong
set_option maxRecDepth 20000 in
theorem ggX13_mustSign_X13_goOn : GoodIn wsX13_mustSign wsX13_goOn := goodIn_r _ [22, 23, 17, 24, 12, 11, 25, 26, 27, 4, 28, 29, 30, 31, 32, 33, 34, 35, 36, 37, 38, 39, 40, 41, 42, 43, 44, 45, 46, 47, 48, 49, 50, 51, 52, 53, 54, 55, 56, 57, 58, 59, 60, 61, 62, 63, 64, 65, 66, 67, 68, 69, 70, 71, 72, 73, 74, 75, 76, 77, 78, 79, 80, 81, 82, 83, 84] (by decide +kernel) (by decide +kernel)
set_option maxRecDepth 20000 in
theorem gX13_mustSign_X13_goOn : GoodIn wsX13_mustSign (wsV RX13 159 RX13 yX13_goOn wsX13_goOn) := goodIn_app (goodIn_of _ (by decide +kernel)) ggX13_mustSign_X13_goOn
theorem dX13_mustSign_0 : decode cX13_mustSign 0 = .ok (.aload_n 0, 1) := by decide +kernel
theorem dX13_mustSign_1 : decode cX13_mustSign 1 = .ok (.invokevirtual 148, 3) := by decide +kernel
theorem dX13_mustSign_4 : decode cX13_mustSign 4 = .ok (.ifCond .eq 16, 3) := by decide +kernel
theorem dX13_mustSign_7 : decode cX13_mustSign 7 = .ok (.aload_n 0, 1) := by decide +kernel
theorem dX13_mustSign_8 : decode cX13_mustSign 8 = .ok (.iload_n 1, 1) := by decide +kernel
theorem dX13_mustSign_9 : decode cX13_mustSign 9 = .ok (.invokevirtual 162, 3) := by decide +kernel
theorem dX13_mustSign_12 : decode cX13_mustSign 12 = .ok (.ifCond .ne 8, 3) := by decide +kernel
theorem dX13_mustSign_15 : decode cX13_mustSign 15 = .ok (.aload_n 0, 1) := by decide +kernel
theorem dX13_mustSign_16 : decode cX13_mustSign 16 = .ok (.iconst 1, 1) := by decide +kernel
theorem dX13_mustSign_17 : decode cX13_mustSign 17 = .ok (.invokevirtual 156, 3) := by decide +kernel
theorem dX13_mustSign_20 : decode cX13_mustSign 20 = .ok (.aload_n 0, 1) := by decide +kernel
theorem dX13_mustSign_21 : decode cX13_mustSign 21 = .ok (.invokevirtual 148, 3) := by decide +kernel
theorem dX13_mustSign_24 : decode cX13_mustSign 24 = .ok (.ifCond .eq 7, 3) := by decide +kernel
theorem dX13_mustSign_27 : decode cX13_mustSign 27 = .ok (.aload_n 0, 1) := by decide +kernel
theorem dX13_mustSign_28 : decode cX13_mustSign 28 = .ok (.invokevirtual 159, 3) := by decide +kernel
theorem dX13_mustSign_31 : decode cX13_mustSign 31 = .ok (.return_, 1) := by decide +kernel
set_option maxRecDepth 20000 in
theorem ggX13_number_X13_isGood : GoodIn wsX13_number wsX13_isGood := goodIn_r _ [7, 8, 36, 37, 38, 39, 40, 41, 42, 43, 44, 45, 46, 47, 48, 49, 50, 51, 52, 53, 54, 55, 56, 57, 58, 59, 60, 61, 62, 63, 64, 65, 66, 67, 68, 69, 70, 71, 72, 73, 74, 75, 76, 77, 78, 79, 80, 81, 82, 83] (by decide +kernel) (by decide +kernel)
set_option maxRecDepth 20000 in
theorem gX13_number_X13_isGood : GoodIn wsX13_number (wsV RX13 148 RX13 yX13_isGood wsX13_isGood) := goodIn_app (goodIn_of _ (by decide +kernel)) ggX13_number_X13_isGood
set_option maxRecDepth 20000 in
theorem ggX13_number_X13_wrong : GoodIn wsX13_number wsX13_wrong := goodIn_r _ [12, 8, 1, 13, 14, 36, 37, 38, 39, 40, 41, 42, 43, 44, 45, 46, 47, 48, 49, 50, 51, 52, 53, 54, 55, 56, 57, 58, 59, 60, 61, 62, 63, 64, 65, 66, 67, 68, 69, 70, 71, 72, 73, 74, 75, 76, 77, 78, 79, 80, 81, 82, 83] (by decide +kernel) (by decide +kernel)
set_option maxRecDepth 20000 in
theorem gX13_number_X13_wrong : GoodIn wsX13_number (wsV RX13 156 RX13 yX13_wrong wsX13_wrong) := goodIn_app (goodIn_of _ (by decide +kernel)) ggX13_number_X13_wrong
set_option maxRecDepth 20000 in
theorem ggX13_number_X13_isIn : GoodIn wsX13_number wsX13_isIn := goodIn_r _ [17] (by decide +kernel) (by decide +kernel)
set_option maxRecDepth 20000 in
theorem gX13_number_X13_isIn : GoodIn wsX13_number (va_wsS RX13 111 yX13_isIn wsX13_isIn) := goodIn_app (goodIn_of _ (by decide +kernel)) ggX13_number_X13_isIn
set_option maxRecDepth 20000 in
theorem ggX13_number_X13_goOn : GoodIn wsX13_number wsX13_goOn := goodIn_r _ [21, 22, 13, 23, 2, 1, 24, 25, 26, 6, 27, 28, 29, 30, 31, 32, 33, 34, 35, 36, 37, 38, 39, 40, 41, 42, 43, 44, 45, 46, 47, 48, 49, 50, 51, 52, 53, 54, 55, 56, 57, 58, 59, 60, 61, 62, 63, 64, 65, 66, 67, 68, 69, 70, 71, 72, 73, 74, 75, 76, 77, 78, 79, 80, 81, 82, 83] (by decide +kernel) (by decide +kernel)
set_option maxRecDepth 20000 in
theorem gX13_number_X13_goOn : GoodIn wsX13_number (wsV RX13 159 RX13 yX13_goOn wsX13_goOn) := goodIn_app (goodIn_of _ (by decide +kernel)) ggX13_number_X13_goOn
theorem dX13_number_0 : decode cX13_number 0 = .ok (.aload_n 0, 1) := by decide +kernel
theorem dX13_number_1 : decode cX13_number 1 = .ok (.invokevirtual 148, 3) := by decide +kernel
theorem dX13_number_4 : decode cX13_number 4 = .ok (.ifCond .eq 16, 3) := by decide +kernel
theorem dX13_number_7 : decode cX13_number 7 = .ok (.aload_n 0, 1) := by decide +kernel
theorem dX13_number_8 : decode cX13_number 8 = .ok (.getfield 135, 3) := by decide +kernel
theorem dX13_number_11 : decode cX13_number 11 = .ok (.iconst 2, 1) := by decide +kernel
theorem dX13_number_12 : decode cX13_number 12 = .ok (.if_icmp .eq 8, 3) := by decide +kernel
theorem dX13_number_15 : decode cX13_number 15 = .ok (.aload_n 0, 1) := by decide +kernel
theorem dX13_number_16 : decode cX13_number 16 = .ok (.iconst 1, 1) := by decide +kernel
theorem dX13_number_17 : decode cX13_number 17 = .ok (.invokevirtual 156, 3) := by decide +kernel
theorem dX13_number_20 : decode cX13_number 20 = .ok (.aload_n 0, 1) := by decide +kernel
theorem dX13_number_21 : decode cX13_number 21 = .ok (.getfield 132, 3) := by decide +kernel
theorem dX13_number_24 : decode cX13_number 24 = .ok (.istore_n 3, 1) := by decide +kernel
theorem dX13_number_25 : decode cX13_number 25 = .ok (.aload_n 0, 1) := by decide +kernel
theorem dX13_number_26 : decode cX13_number 26 = .ok (.invokevirtual 148, 3) := by decide +kernel
theorem dX13_number_29 : decode cX13_number 29 = .ok (.ifCond .eq 20, 3) := by decide +kernel
theorem dX13_number_32 : decode cX13_number 32 = .ok (.iload_n 3, 1) := by decide +kernel
theorem dX13_number_33 : decode cX13_number 33 = .ok (.i2l, 1) := by decide +kernel
theorem dX13_number_34 : decode cX13_number 34 = .ok (.iload_n 1, 1) := by decide +kernel
theorem dX13_number_35 : decode cX13_number 35 = .ok (.i2l, 1) := by decide +kernel
theorem dX13_number_36 : decode cX13_number 36 = .ok (.iload_n 2, 1) := by decide +kernel
theorem dX13_number_37 : decode cX13_number 37 = .ok (.i2l, 1) := by decide +kernel
theorem dX13_number_38 : decode cX13_number 38 = .ok (.invokestatic 111, 3) := by decide +kernel
theorem dX13_number_41 : decode cX13_number 41 = .ok (.ifCond .ne 8, 3) := by decide +kernel
theorem dX13_number_44 : decode cX13_number 44 = .ok (.aload_n 0, 1) := by decide +kernel
theorem dX13_number_45 : decode cX13_number 45 = .ok (.iconst 2, 1) := by decide +kernel
theorem dX13_number_46 : decode cX13_number 46 = .ok (.invokevirtual 156, 3) := by decide +kernel
theorem dX13_number_49 : decode cX13_number 49 = .ok (.aload_n 0, 1) := by decide +kernel
theorem dX13_number_50 : decode cX13_number 50 = .ok (.invokevirtual 148, 3) := by decide +kernel
theorem dX13_number_53 : decode cX13_number 53 = .ok (.ifCond .eq 7, 3) := by decide +kernel
theorem dX13_number_56 : decode cX13_number 56 = .ok (.aload_n 0, 1) := by decide +kernel
theorem dX13_number_57 : decode cX13_number 57 = .ok (.invokevirtual 159, 3) := by decide +kernel
theorem dX13_number_60 : decode cX13_number 60 = .ok (.iload_n 3, 1) := by decide +kernel
theorem dX13_number_61 : decode cX13_number 61 = .ok (.ireturn, 1) := by decide +kernel
set_option maxRecDepth 20000 in
theorem ggX13_numberBehind_X13_must : GoodIn wsX13_numberBehind wsX13_must := goodIn_r _ [5, 6, 7, 8, 4, 9, 10, 11, 12, 13, 14, 15, 16, 17, 18, 19, 20, 21, 22, 23, 24, 25, 26, 27, 28, 29, 30, 31, 32, 33, 34, 35, 36, 37, 38, 39, 40, 48, 49, 50, 51, 52, 53, 54, 55, 56, 57, 58, 59, 60, 61, 62, 63, 64, 65, 66, 67, 68, 69, 70, 71, 72, 73, 74, 75, 76, 77, 78, 79, 80, 81, 82, 83, 84, 85, 86, 87, 88, 89, 90, 91, 92, 93, 94, 95] (by decide +kernel) (by decide +kernel)
set_option maxRecDepth 20000 in
theorem gX13_numberBehind_X13_must : GoodIn wsX13_numberBehind (wsV RX13 165 RX13 yX13_must wsX13_must) := goodIn_app (goodIn_of _ (by decide +kernel)) ggX13_numberBehind_X13_must
set_option maxRecDepth 20000 in
theorem ggX13_numberBehind_X13_number : GoodIn wsX13_numberBehind wsX13_number := goodIn_r _ [44, 15, 28, 6, 7, 8, 4, 9, 10, 17, 18, 19, 20, 21, 22, 45, 46, 47, 23, 24, 25, 26, 27, 16, 29, 30, 31, 32, 33, 34, 35, 36, 37, 38, 39, 40, 48, 49, 50, 51, 52, 53, 54, 55, 56, 57, 58, 59, 60, 61, 62, 63, 64, 65, 66, 67, 68, 69, 70, 71, 72, 73, 74, 75, 76, 77, 78, 79, 80, 81, 82, 83, 84, 85, 86, 87, 88, 89, 90, 91, 92, 93, 94, 95] (by decide +kernel) (by decide +kernel)
set_option maxRecDepth 20000 in
theorem gX13_numberBehind_X13_number : GoodIn wsX13_numberBehind (wsV RX13 169 RX13 yX13_number wsX13_number) := goodIn_app (goodIn_of _ (by decide +kernel)) ggX13_numberBehind_X13_number
theorem dX13_numberBehind_0 : decode cX13_numberBehind 0 = .ok (.aload_n 0, 1) := by decide +kernel
theorem dX13_numberBehind_1 : decode cX13_numberBehind 1 = .ok (.lload_n 1, 1) := by decide +kernel
theorem dX13_numberBehind_2 : decode cX13_numberBehind 2 = .ok (.invokevirtual 165, 3) := by decide +kernel
theorem dX13_numberBehind_5 : decode cX13_numberBehind 5 = .ok (.aload_n 0, 1) := by decide +kernel
theorem dX13_numberBehind_6 : decode cX13_numberBehind 6 = .ok (.iload_n 3, 1) := by decide +kernel
theorem dX13_numberBehind_7 : decode cX13_numberBehind 7 = .ok (.iload 4, 2) := by decide +kernel
theorem dX13_numberBehind_9 : decode cX13_numberBehind 9 = .ok (.invokevirtual 169, 3) := by decide +kernel
theorem dX13_numberBehind_12 : decode cX13_numberBehind 12 = .ok (.ireturn, 1) := by decide +kernel
set_option maxRecDepth 20000 in
theorem ggX13_beginsText_X13_goOn : GoodIn wsX13_beginsText wsX13_goOn := goodIn_r _ [10, 3, 11, 12, 13, 14, 15, 16, 17, 9, 18, 2, 19, 20, 21, 22, 23, 24, 25, 26, 27, 28, 29, 30, 31, 32, 33, 34, 35, 36, 37, 38, 39, 40, 41, 42, 43, 44, 45, 46, 47, 48, 49, 50, 51, 52, 53, 54, 55, 56, 57, 58, 59, 60, 61, 62, 63, 64, 65, 66, 67, 68, 69, 70, 71, 72, 73] (by decide +kernel) (by decide +kernel)
set_option maxRecDepth 20000 in
theorem gX13_beginsText_X13_goOn : GoodIn wsX13_beginsText (wsV RX13 159 RX13 yX13_goOn wsX13_goOn) := goodIn_app (goodIn_of _ (by decide +kernel)) ggX13_beginsText_X13_goOn
theorem dX13_beginsText_0 : decode cX13_beginsText 0 = .ok (.aload_n 0, 1) := by decide +kernel
theorem dX13_beginsText_1 : decode cX13_beginsText 1 = .ok (.aload_n 0, 1) := by decide +kernel
theorem dX13_beginsText_2 : decode cX13_beginsText 2 = .ok (.getfield 100, 3) := by decide +kernel
theorem dX13_beginsText_5 : decode cX13_beginsText 5 = .ok (.putfield 118, 3) := by decide +kernel
theorem dX13_beginsText_8 : decode cX13_beginsText 8 = .ok (.aload_n 0, 1) := by decide +kernel
theorem dX13_beginsText_9 : decode cX13_beginsText 9 = .ok (.iconst 0, 1) := by decide +kernel
theorem dX13_beginsText_10 : decode cX13_beginsText 10 = .ok (.putfield 100, 3) := by decide +kernel
theorem dX13_beginsText_13 : decode cX13_beginsText 13 = .ok (.aload_n 0, 1) := by decide +kernel
theorem dX13_beginsText_14 : decode cX13_beginsText 14 = .ok (.iconst 0, 1) := by decide +kernel
theorem dX13_beginsText_15 : decode cX13_beginsText 15 = .ok (.putfield 115, 3) := by decide +kernel
theorem dX13_beginsText_18 : decode cX13_beginsText 18 = .ok (.aload_n 0, 1) := by decide +kernel
theorem dX13_beginsText_19 : decode cX13_beginsText 19 = .ok (.iconst 0, 1) := by decide +kernel
theorem dX13_beginsText_20 : decode cX13_beginsText 20 = .ok (.putfield 145, 3) := by decide +kernel
theorem dX13_beginsText_23 : decode cX13_beginsText 23 = .ok (.aload_n 0, 1) := by decide +kernel
theorem dX13_beginsText_24 : decode cX13_beginsText 24 = .ok (.iconst (-1), 1) := by decide +kernel
theorem dX13_beginsText_25 : decode cX13_beginsText 25 = .ok (.putfield 13, 3) := by decide +kernel
theorem dX13_beginsText_28 : decode cX13_beginsText 28 = .ok (.aload_n 0, 1) := by decide +kernel
theorem dX13_beginsText_29 : decode cX13_beginsText 29 = .ok (.invokevirtual 159, 3) := by decide +kernel
theorem dX13_beginsText_32 : decode cX13_beginsText 32 = .ok (.return_, 1) := by decide +kernel
set_option maxRecDepth 20000 in
theorem ggX13_endsText_X13_goes : GoodIn wsX13_endsText wsX13_goes := goodIn_r _ [9, 10, 11, 12, 8, 13, 14, 15, 16, 17, 18, 19, 20, 21, 22, 23, 24, 25, 26, 27, 28, 29, 30, 31, 32, 33, 34, 35, 36, 37, 38, 39, 40, 41, 42, 43, 44, 45, 46, 47, 48, 49, 50, 51, 52, 53, 54, 55, 56, 57, 58, 59, 60, 61] (by decide +kernel) (by decide +kernel)
set_option maxRecDepth 20000 in
theorem gX13_endsText_X13_goes : GoodIn wsX13_endsText (wsV RX13 103 RX13 yX13_goes wsX13_goes) := goodIn_app (goodIn_of _ (by decide +kernel)) ggX13_endsText_X13_goes
theorem dX13_endsText_0 : decode cX13_endsText 0 = .ok (.aload_n 0, 1) := by decide +kernel
theorem dX13_endsText_1 : decode cX13_endsText 1 = .ok (.aload_n 0, 1) := by decide +kernel
theorem dX13_endsText_2 : decode cX13_endsText 2 = .ok (.getfield 145, 3) := by decide +kernel
theorem dX13_endsText_5 : decode cX13_endsText 5 = .ok (.putfield 173, 3) := by decide +kernel
theorem dX13_endsText_8 : decode cX13_endsText 8 = .ok (.aload_n 0, 1) := by decide +kernel
theorem dX13_endsText_9 : decode cX13_endsText 9 = .ok (.aload_n 0, 1) := by decide +kernel
theorem dX13_endsText_10 : decode cX13_endsText 10 = .ok (.getfield 13, 3) := by decide +kernel
theorem dX13_endsText_13 : decode cX13_endsText 13 = .ok (.putfield 17, 3) := by decide +kernel
theorem dX13_endsText_16 : decode cX13_endsText 16 = .ok (.aload_n 0, 1) := by decide +kernel
theorem dX13_endsText_17 : decode cX13_endsText 17 = .ok (.aload_n 0, 1) := by decide +kernel
theorem dX13_endsText_18 : decode cX13_endsText 18 = .ok (.getfield 145, 3) := by decide +kernel
theorem dX13_endsText_21 : decode cX13_endsText 21 = .ok (.ifCond .ne 7, 3) := by decide +kernel
theorem dX13_endsText_24 : decode cX13_endsText 24 = .ok (.iconst 1, 1) := by decide +kernel
theorem dX13_endsText_25 : decode cX13_endsText 25 = .ok (.goto 4, 3) := by decide +kernel
theorem dX13_endsText_28 : decode cX13_endsText 28 = .ok (.iconst 0, 1) := by decide +kernel
theorem dX13_endsText_29 : decode cX13_endsText 29 = .ok (.invokevirtual 103, 3) := by decide +kernel
theorem dX13_endsText_32 : decode cX13_endsText 32 = .ok (.ireturn, 1) := by decide +kernel
theorem dX13_errorCode_0 : decode cX13_errorCode 0 = .ok (.aload_n 0, 1) := by decide +kernel
theorem dX13_errorCode_1 : decode cX13_errorCode 1 = .ok (.iconst 0, 1) := by decide +kernel
theorem dX13_errorCode_2 : decode cX13_errorCode 2 = .ok (.putfield 93, 3) := by decide +kernel
theorem dX13_errorCode_5 : decode cX13_errorCode 5 = .ok (.aload_n 0, 1) := by decide +kernel
theorem dX13_errorCode_6 : decode cX13_errorCode 6 = .ok (.getfield 173, 3) := by decide +kernel
theorem dX13_errorCode_9 : decode cX13_errorCode 9 = .ok (.ireturn, 1) := by decide +kernel
theorem dX13_errorPosition_0 : decode cX13_errorPosition 0 = .ok (.aload_n 0, 1) := by decide +kernel
theorem dX13_errorPosition_1 : decode cX13_errorPosition 1 = .ok (.iconst 0, 1) := by decide +kernel
theorem dX13_errorPosition_2 : decode cX13_errorPosition 2 = .ok (.putfield 93, 3) := by decide +kernel
theorem dX13_errorPosition_5 : decode cX13_errorPosition 5 = .ok (.aload_n 0, 1) := by decide +kernel
theorem dX13_errorPosition_6 : decode cX13_errorPosition 6 = .ok (.getfield 17, 3) := by decide +kernel
theorem dX13_errorPosition_9 : decode cX13_errorPosition 9 = .ok (.ireturn, 1) := by decide +kernel
theorem dX13_begins_0 : decode cX13_begins 0 = .ok (.aload_n 0, 1) := by decide +kernel
theorem dX13_begins_1 : decode cX13_begins 1 = .ok (.getfield 23, 3) := by decide +kernel
theorem dX13_begins_4 : decode cX13_begins 4 = .ok (.iconst 0, 1) := by decide +kernel
theorem dX13_begins_5 : decode cX13_begins 5 = .ok (.iconst 4, 1) := by decide +kernel
theorem dX13_begins_6 : decode cX13_begins 6 = .ok (.iastore, 1) := by decide +kernel
theorem dX13_begins_7 : decode cX13_begins 7 = .ok (.aload_n 0, 1) := by decide +kernel
theorem dX13_begins_8 : decode cX13_begins 8 = .ok (.getfield 23, 3) := by decide +kernel
theorem dX13_begins_11 : decode cX13_begins 11 = .ok (.iconst 1, 1) := by decide +kernel
theorem dX13_begins_12 : decode cX13_begins 12 = .ok (.iconst 4, 1) := by decide +kernel
theorem dX13_begins_13 : decode cX13_begins 13 = .ok (.iastore, 1) := by decide +kernel
theorem dX13_begins_14 : decode cX13_begins 14 = .ok (.aload_n 0, 1) := by decide +kernel
theorem dX13_begins_15 : decode cX13_begins 15 = .ok (.getfield 23, 3) := by decide +kernel
theorem dX13_begins_18 : decode cX13_begins 18 = .ok (.iconst 2, 1) := by decide +kernel
theorem dX13_begins_19 : decode cX13_begins 19 = .ok (.bipush 8, 2) := by decide +kernel
theorem dX13_begins_21 : decode cX13_begins 21 = .ok (.iastore, 1) := by decide +kernel
theorem dX13_begins_22 : decode cX13_begins 22 = .ok (.aload_n 0, 1) := by decide +kernel
theorem dX13_begins_23 : decode cX13_begins 23 = .ok (.getfield 23, 3) := by decide +kernel
theorem dX13_begins_26 : decode cX13_begins 26 = .ok (.iconst 3, 1) := by decide +kernel
theorem dX13_begins_27 : decode cX13_begins 27 = .ok (.bipush 80, 2) := by decide +kernel
theorem dX13_begins_29 : decode cX13_begins 29 = .ok (.iastore, 1) := by decide +kernel
theorem dX13_begins_30 : decode cX13_begins 30 = .ok (.aload_n 0, 1) := by decide +kernel
theorem dX13_begins_31 : decode cX13_begins 31 = .ok (.getfield 23, 3) := by decide +kernel
theorem dX13_begins_34 : decode cX13_begins 34 = .ok (.iconst 4, 1) := by decide +kernel
theorem dX13_begins_35 : decode cX13_begins 35 = .ok (.iconst 1, 1) := by decide +kernel
theorem dX13_begins_36 : decode cX13_begins 36 = .ok (.iastore, 1) := by decide +kernel
theorem dX13_begins_37 : decode cX13_begins 37 = .ok (.aload_n 0, 1) := by decide +kernel
theorem dX13_begins_38 : decode cX13_begins 38 = .ok (.getfield 23, 3) := by decide +kernel
theorem dX13_begins_41 : decode cX13_begins 41 = .ok (.iconst 5, 1) := by decide +kernel
theorem dX13_begins_42 : decode cX13_begins 42 = .ok (.iconst 2, 1) := by decide +kernel
theorem dX13_begins_43 : decode cX13_begins 43 = .ok (.iastore, 1) := by decide +kernel
theorem dX13_begins_44 : decode cX13_begins 44 = .ok (.aload_n 0, 1) := by decide +kernel
theorem dX13_begins_45 : decode cX13_begins 45 = .ok (.getfield 23, 3) := by decide +kernel
theorem dX13_begins_48 : decode cX13_begins 48 = .ok (.bipush 6, 2) := by decide +kernel
theorem dX13_begins_50 : decode cX13_begins 50 = .ok (.iconst 1, 1) := by decide +kernel
theorem dX13_begins_51 : decode cX13_begins 51 = .ok (.iastore, 1) := by decide +kernel
theorem dX13_begins_52 : decode cX13_begins 52 = .ok (.iconst 0, 1) := by decide +kernel
theorem dX13_begins_53 : decode cX13_begins 53 = .ok (.istore_n 1, 1) := by decide +kernel
theorem dX13_begins_54 : decode cX13_begins 54 = .ok (.iload_n 1, 1) := by decide +kernel
theorem dX13_begins_55 : decode cX13_begins 55 = .ok (.sipush 192, 3) := by decide +kernel
theorem dX13_begins_58 : decode cX13_begins 58 = .ok (.if_icmp .ge 18, 3) := by decide +kernel
theorem dX13_begins_61 : decode cX13_begins 61 = .ok (.aload_n 0, 1) := by decide +kernel
theorem dX13_begins_62 : decode cX13_begins 62 = .ok (.getfield 32, 3) := by decide +kernel
theorem dX13_begins_65 : decode cX13_begins 65 = .ok (.iload_n 1, 1) := by decide +kernel
theorem dX13_begins_66 : decode cX13_begins 66 = .ok (.sipush 255, 3) := by decide +kernel
theorem dX13_begins_69 : decode cX13_begins 69 = .ok (.iastore, 1) := by decide +kernel
theorem dX13_begins_70 : decode cX13_begins 70 = .ok (.iinc 1 1, 3) := by decide +kernel
theorem dX13_begins_73 : decode cX13_begins 73 = .ok (.goto (-19), 3) := by decide +kernel
theorem dX13_begins_76 : decode cX13_begins 76 = .ok (.aload_n 0, 1) := by decide +kernel
theorem dX13_begins_77 : decode cX13_begins 77 = .ok (.iconst 0, 1) := by decide +kernel
theorem dX13_begins_78 : decode cX13_begins 78 = .ok (.putfield 176, 3) := by decide +kernel
theorem dX13_begins_81 : decode cX13_begins 81 = .ok (.aload_n 0, 1) := by decide +kernel
theorem dX13_begins_82 : decode cX13_begins 82 = .ok (.iconst 0, 1) := by decide +kernel
theorem dX13_begins_83 : decode cX13_begins 83 = .ok (.putfield 180, 3) := by decide +kernel
theorem dX13_begins_86 : decode cX13_begins 86 = .ok (.aload_n 0, 1) := by decide +kernel
theorem dX13_begins_87 : decode cX13_begins 87 = .ok (.iconst 0, 1) := by decide +kernel
theorem dX13_begins_88 : decode cX13_begins 88 = .ok (.putfield 183, 3) := by decide +kernel
theorem dX13_begins_91 : decode cX13_begins 91 = .ok (.aload_n 0, 1) := by decide +kernel
theorem dX13_begins_92 : decode cX13_begins 92 = .ok (.iconst 0, 1) := by decide +kernel
theorem dX13_begins_93 : decode cX13_begins 93 = .ok (.putfield 186, 3) := by decide +kernel
theorem dX13_begins_96 : decode cX13_begins 96 = .ok (.aload_n 0, 1) := by decide +kernel
theorem dX13_begins_97 : decode cX13_begins 97 = .ok (.iconst 0, 1) := by decide +kernel
theorem dX13_begins_98 : decode cX13_begins 98 = .ok (.putfield 189, 3) := by decide +kernel
theorem dX13_begins_101 : decode cX13_begins 101 = .ok (.aload_n 0, 1) := by decide +kernel
theorem dX13_begins_102 : decode cX13_begins 102 = .ok (.iconst 0, 1) := by decide +kernel
theorem dX13_begins_103 : decode cX13_begins 103 = .ok (.putfield 192, 3) := by decide +kernel
theorem dX13_begins_106 : decode cX13_begins 106 = .ok (.return_, 1) := by decide +kernel
set_option maxRecDepth 20000 in
theorem ggX13_lays_X13_isCell : GoodIn wsX13_lays wsX13_isCell := goodIn_r _ [11, 1, 12, 13, 10, 14, 31, 32, 33, 34, 35, 36, 37, 38, 39, 40, 41, 42, 43, 44, 45, 46, 47, 48, 49, 50, 51, 52, 53, 54, 55, 56, 57, 58, 59, 60, 61, 62, 63, 64, 65, 66, 67, 68, 69, 70, 71, 72, 73, 74, 75, 76, 77, 78] (by decide +kernel) (by decide +kernel)
set_option maxRecDepth 20000 in
theorem gX13_lays_X13_isCell : GoodIn wsX13_lays (wsV RX13 195 RX13 yX13_isCell wsX13_isCell) := goodIn_app (goodIn_of _ (by decide +kernel)) ggX13_lays_X13_isCell
set_option maxRecDepth 20000 in
theorem ggX13_lays_X13_wantedBy : GoodIn wsX13_lays wsX13_wantedBy := goodIn_r _ [17, 18] (by decide +kernel) (by decide +kernel)
set_option maxRecDepth 20000 in
theorem gX13_lays_X13_wantedBy : GoodIn wsX13_lays (va_wsS RX13 199 yX13_wantedBy wsX13_wantedBy) := goodIn_app (goodIn_of _ (by decide +kernel)) ggX13_lays_X13_wantedBy
set_option maxRecDepth 20000 in
theorem ggX13_lays_X13_heightBy : GoodIn wsX13_lays wsX13_heightBy := goodIn_r _ [22, 1, 23, 24, 25, 10, 26, 27, 28, 29, 30, 31, 32, 33, 34, 35, 36, 37, 38, 39, 40, 41, 42, 43, 44, 45, 46, 47, 48, 49, 50, 51, 52, 53, 54, 55, 56, 57, 58, 59, 60, 61, 62, 63, 64, 65, 66, 67, 68, 69, 70, 71, 72, 73, 74, 75, 76, 77, 78] (by decide +kernel) (by decide +kernel)
set_option maxRecDepth 20000 in
theorem gX13_lays_X13_heightBy : GoodIn wsX13_lays (wsV RX13 203 RX13 yX13_heightBy wsX13_heightBy) := goodIn_app (goodIn_of _ (by decide +kernel)) ggX13_lays_X13_heightBy
theorem dX13_lays_0 : decode cX13_lays 0 = .ok (.iconst 0, 1) := by decide +kernel
theorem dX13_lays_1 : decode cX13_lays 1 = .ok (.istore_n 1, 1) := by decide +kernel
theorem dX13_lays_2 : decode cX13_lays 2 = .ok (.iload_n 1, 1) := by decide +kernel
theorem dX13_lays_3 : decode cX13_lays 3 = .ok (.bipush 7, 2) := by decide +kernel
theorem dX13_lays_5 : decode cX13_lays 5 = .ok (.if_icmp .ge 21, 3) := by decide +kernel
theorem dX13_lays_8 : decode cX13_lays 8 = .ok (.aload_n 0, 1) := by decide +kernel
theorem dX13_lays_9 : decode cX13_lays 9 = .ok (.getfield 20, 3) := by decide +kernel
theorem dX13_lays_12 : decode cX13_lays 12 = .ok (.iload_n 1, 1) := by decide +kernel
theorem dX13_lays_13 : decode cX13_lays 13 = .ok (.aload_n 0, 1) := by decide +kernel
theorem dX13_lays_14 : decode cX13_lays 14 = .ok (.getfield 23, 3) := by decide +kernel
theorem dX13_lays_17 : decode cX13_lays 17 = .ok (.iload_n 1, 1) := by decide +kernel
theorem dX13_lays_18 : decode cX13_lays 18 = .ok (.iaload, 1) := by decide +kernel
theorem dX13_lays_19 : decode cX13_lays 19 = .ok (.iastore, 1) := by decide +kernel
theorem dX13_lays_20 : decode cX13_lays 20 = .ok (.iinc 1 1, 3) := by decide +kernel
theorem dX13_lays_23 : decode cX13_lays 23 = .ok (.goto (-21), 3) := by decide +kernel
theorem dX13_lays_26 : decode cX13_lays 26 = .ok (.iconst 0, 1) := by decide +kernel
theorem dX13_lays_27 : decode cX13_lays 27 = .ok (.istore_n 1, 1) := by decide +kernel
theorem dX13_lays_28 : decode cX13_lays 28 = .ok (.iload_n 1, 1) := by decide +kernel
theorem dX13_lays_29 : decode cX13_lays 29 = .ok (.sipush 192, 3) := by decide +kernel
theorem dX13_lays_32 : decode cX13_lays 32 = .ok (.if_icmp .ge 28, 3) := by decide +kernel
theorem dX13_lays_35 : decode cX13_lays 35 = .ok (.aload_n 0, 1) := by decide +kernel
theorem dX13_lays_36 : decode cX13_lays 36 = .ok (.getfield 26, 3) := by decide +kernel
theorem dX13_lays_39 : decode cX13_lays 39 = .ok (.iload_n 1, 1) := by decide +kernel
theorem dX13_lays_40 : decode cX13_lays 40 = .ok (.aload_n 0, 1) := by decide +kernel
theorem dX13_lays_41 : decode cX13_lays 41 = .ok (.getfield 32, 3) := by decide +kernel
theorem dX13_lays_44 : decode cX13_lays 44 = .ok (.iload_n 1, 1) := by decide +kernel
theorem dX13_lays_45 : decode cX13_lays 45 = .ok (.iaload, 1) := by decide +kernel
theorem dX13_lays_46 : decode cX13_lays 46 = .ok (.iastore, 1) := by decide +kernel
theorem dX13_lays_47 : decode cX13_lays 47 = .ok (.aload_n 0, 1) := by decide +kernel
theorem dX13_lays_48 : decode cX13_lays 48 = .ok (.getfield 29, 3) := by decide +kernel
theorem dX13_lays_51 : decode cX13_lays 51 = .ok (.iload_n 1, 1) := by decide +kernel
theorem dX13_lays_52 : decode cX13_lays 52 = .ok (.iconst 0, 1) := by decide +kernel
theorem dX13_lays_53 : decode cX13_lays 53 = .ok (.iastore, 1) := by decide +kernel
theorem dX13_lays_54 : decode cX13_lays 54 = .ok (.iinc 1 1, 3) := by decide +kernel
theorem dX13_lays_57 : decode cX13_lays 57 = .ok (.goto (-29), 3) := by decide +kernel
theorem dX13_lays_60 : decode cX13_lays 60 = .ok (.iconst 0, 1) := by decide +kernel
theorem dX13_lays_61 : decode cX13_lays 61 = .ok (.istore_n 1, 1) := by decide +kernel
theorem dX13_lays_62 : decode cX13_lays 62 = .ok (.iload_n 1, 1) := by decide +kernel
theorem dX13_lays_63 : decode cX13_lays 63 = .ok (.sipush 192, 3) := by decide +kernel
theorem dX13_lays_66 : decode cX13_lays 66 = .ok (.if_icmp .ge 43, 3) := by decide +kernel
theorem dX13_lays_69 : decode cX13_lays 69 = .ok (.aload_n 0, 1) := by decide +kernel
theorem dX13_lays_70 : decode cX13_lays 70 = .ok (.iload_n 1, 1) := by decide +kernel
theorem dX13_lays_71 : decode cX13_lays 71 = .ok (.bipush 16, 2) := by decide +kernel
theorem dX13_lays_73 : decode cX13_lays 73 = .ok (.irem, 1) := by decide +kernel
theorem dX13_lays_74 : decode cX13_lays 74 = .ok (.iload_n 1, 1) := by decide +kernel
theorem dX13_lays_75 : decode cX13_lays 75 = .ok (.bipush 16, 2) := by decide +kernel
theorem dX13_lays_77 : decode cX13_lays 77 = .ok (.idiv, 1) := by decide +kernel
theorem dX13_lays_78 : decode cX13_lays 78 = .ok (.invokevirtual 195, 3) := by decide +kernel
theorem dX13_lays_81 : decode cX13_lays 81 = .ok (.ifCond .eq 22, 3) := by decide +kernel
theorem dX13_lays_84 : decode cX13_lays 84 = .ok (.aload_n 0, 1) := by decide +kernel
theorem dX13_lays_85 : decode cX13_lays 85 = .ok (.getfield 29, 3) := by decide +kernel
theorem dX13_lays_88 : decode cX13_lays 88 = .ok (.iload_n 1, 1) := by decide +kernel
theorem dX13_lays_89 : decode cX13_lays 89 = .ok (.aload_n 0, 1) := by decide +kernel
theorem dX13_lays_90 : decode cX13_lays 90 = .ok (.aload_n 0, 1) := by decide +kernel
theorem dX13_lays_91 : decode cX13_lays 91 = .ok (.getfield 26, 3) := by decide +kernel
theorem dX13_lays_94 : decode cX13_lays 94 = .ok (.iload_n 1, 1) := by decide +kernel
theorem dX13_lays_95 : decode cX13_lays 95 = .ok (.iaload, 1) := by decide +kernel
theorem dX13_lays_96 : decode cX13_lays 96 = .ok (.invokestatic 199, 3) := by decide +kernel
theorem dX13_lays_99 : decode cX13_lays 99 = .ok (.invokevirtual 203, 3) := by decide +kernel
theorem dX13_lays_102 : decode cX13_lays 102 = .ok (.iastore, 1) := by decide +kernel
theorem dX13_lays_103 : decode cX13_lays 103 = .ok (.iinc 1 1, 3) := by decide +kernel
theorem dX13_lays_106 : decode cX13_lays 106 = .ok (.goto (-44), 3) := by decide +kernel
theorem dX13_lays_109 : decode cX13_lays 109 = .ok (.aload_n 0, 1) := by decide +kernel
theorem dX13_lays_110 : decode cX13_lays 110 = .ok (.iconst 0, 1) := by decide +kernel
theorem dX13_lays_111 : decode cX13_lays 111 = .ok (.putfield 207, 3) := by decide +kernel
theorem dX13_lays_114 : decode cX13_lays 114 = .ok (.return_, 1) := by decide +kernel
set_option maxRecDepth 20000 in
theorem ggX13_once_X13_wrong : GoodIn wsX13_once wsX13_wrong := goodIn_r _ [5, 6, 7, 8, 9, 33, 34, 35, 36, 37, 38, 39, 40, 41, 42, 43, 44, 45, 46, 47, 48, 49, 50, 51, 52, 53, 54, 55, 56, 57, 58, 59, 60, 61, 62, 63, 64, 65, 66, 67, 68, 69, 70, 71, 72, 73, 74, 75, 76, 77, 78, 79, 80] (by decide +kernel) (by decide +kernel)
set_option maxRecDepth 20000 in
theorem gX13_once_X13_wrong : GoodIn wsX13_once (wsV RX13 156 RX13 yX13_wrong wsX13_wrong) := goodIn_app (goodIn_of _ (by decide +kernel)) ggX13_once_X13_wrong
set_option maxRecDepth 20000 in
theorem ggX13_once_X13_isGood : GoodIn wsX13_once wsX13_isGood := goodIn_r _ [13, 6, 33, 34, 35, 36, 37, 38, 39, 40, 41, 42, 43, 44, 45, 46, 47, 48, 49, 50, 51, 52, 53, 54, 55, 56, 57, 58, 59, 60, 61, 62, 63, 64, 65, 66, 67, 68, 69, 70, 71, 72, 73, 74, 75, 76, 77, 78, 79, 80] (by decide +kernel) (by decide +kernel)
set_option maxRecDepth 20000 in
theorem gX13_once_X13_isGood : GoodIn wsX13_once (wsV RX13 148 RX13 yX13_isGood wsX13_isGood) := goodIn_app (goodIn_of _ (by decide +kernel)) ggX13_once_X13_isGood
set_option maxRecDepth 20000 in
theorem ggX13_once_X13_goOn : GoodIn wsX13_once wsX13_goOn := goodIn_r _ [17, 18, 8, 19, 20, 7, 21, 22, 23, 4, 24, 25, 26, 27, 28, 29, 30, 31, 32, 33, 34, 35, 36, 37, 38, 39, 40, 41, 42, 43, 44, 45, 46, 47, 48, 49, 50, 51, 52, 53, 54, 55, 56, 57, 58, 59, 60, 61, 62, 63, 64, 65, 66, 67, 68, 69, 70, 71, 72, 73, 74, 75, 76, 77, 78, 79, 80] (by decide +kernel) (by decide +kernel)
set_option maxRecDepth 20000 in
theorem gX13_once_X13_goOn : GoodIn wsX13_once (wsV RX13 159 RX13 yX13_goOn wsX13_goOn) := goodIn_app (goodIn_of _ (by decide +kernel)) ggX13_once_X13_goOn
theorem dX13_once_0 : decode cX13_once 0 = .ok (.iload_n 1, 1) := by decide +kernel
theorem dX13_once_1 : decode cX13_once 1 = .ok (.ifCond .eq 8, 3) := by decide +kernel
theorem dX13_once_4 : decode cX13_once 4 = .ok (.aload_n 0, 1) := by decide +kernel
theorem dX13_once_5 : decode cX13_once 5 = .ok (.iconst 3, 1) := by decide +kernel
theorem dX13_once_6 : decode cX13_once 6 = .ok (.invokevirtual 156, 3) := by decide +kernel
theorem dX13_once_9 : decode cX13_once 9 = .ok (.aload_n 0, 1) := by decide +kernel
theorem dX13_once_10 : decode cX13_once 10 = .ok (.invokevirtual 148, 3) := by decide +kernel
theorem dX13_once_13 : decode cX13_once 13 = .ok (.ifCond .eq 7, 3) := by decide +kernel
theorem dX13_once_16 : decode cX13_once 16 = .ok (.aload_n 0, 1) := by decide +kernel
theorem dX13_once_17 : decode cX13_once 17 = .ok (.invokevirtual 159, 3) := by decide +kernel
theorem dX13_once_20 : decode cX13_once 20 = .ok (.iconst 1, 1) := by decide +kernel
theorem dX13_once_21 : decode cX13_once 21 = .ok (.ireturn, 1) := by decide +kernel
set_option maxRecDepth 20000 in
theorem ggX13_readsRow_X13_wrong : GoodIn wsX13_readsRow wsX13_wrong := goodIn_r _ [8, 9, 10, 11, 12, 46, 47, 48, 49, 50, 51, 52, 53, 54, 55, 56, 57, 58, 59, 60, 61, 62, 63, 64, 65, 66, 67, 68, 69, 70, 71, 72, 73, 74, 75, 76, 77, 78, 79, 80, 81, 82, 83, 84, 85, 86, 87, 88, 89, 90, 91, 92, 93] (by decide +kernel) (by decide +kernel)
set_option maxRecDepth 20000 in
theorem gX13_readsRow_X13_wrong : GoodIn wsX13_readsRow (wsV RX13 156 RX13 yX13_wrong wsX13_wrong) := goodIn_app (goodIn_of _ (by decide +kernel)) ggX13_readsRow_X13_wrong
set_option maxRecDepth 20000 in
theorem ggX13_readsRow_X13_isGood : GoodIn wsX13_readsRow wsX13_isGood := goodIn_r _ [16, 9, 46, 47, 48, 49, 50, 51, 52, 53, 54, 55, 56, 57, 58, 59, 60, 61, 62, 63, 64, 65, 66, 67, 68, 69, 70, 71, 72, 73, 74, 75, 76, 77, 78, 79, 80, 81, 82, 83, 84, 85, 86, 87, 88, 89, 90, 91, 92, 93] (by decide +kernel) (by decide +kernel)
set_option maxRecDepth 20000 in
theorem gX13_readsRow_X13_isGood : GoodIn wsX13_readsRow (wsV RX13 148 RX13 yX13_isGood wsX13_isGood) := goodIn_app (goodIn_of _ (by decide +kernel)) ggX13_readsRow_X13_isGood
set_option maxRecDepth 20000 in
theorem ggX13_readsRow_X13_goOn : GoodIn wsX13_readsRow wsX13_goOn := goodIn_r _ [20, 21, 11, 22, 23, 10, 24, 25, 26, 7, 27, 28, 29, 30, 31, 32, 33, 34, 35, 46, 47, 48, 49, 50, 51, 52, 53, 54, 55, 56, 57, 58, 59, 60, 61, 62, 63, 64, 65, 66, 67, 68, 69, 70, 71, 72, 73, 74, 75, 76, 77, 78, 79, 80, 81, 82, 83, 84, 85, 86, 87, 88, 89, 90, 91, 92, 93] (by decide +kernel) (by decide +kernel)
set_option maxRecDepth 20000 in
theorem gX13_readsRow_X13_goOn : GoodIn wsX13_readsRow (wsV RX13 159 RX13 yX13_goOn wsX13_goOn) := goodIn_app (goodIn_of _ (by decide +kernel)) ggX13_readsRow_X13_goOn
set_option maxRecDepth 20000 in
theorem ggX13_readsRow_X13_less : GoodIn wsX13_readsRow wsX13_less := goodIn_r _ [38] (by decide +kernel) (by decide +kernel)
set_option maxRecDepth 20000 in
theorem gX13_readsRow_X13_less : GoodIn wsX13_readsRow (va_wsS RX13 210 yX13_less wsX13_less) := goodIn_app (goodIn_of _ (by decide +kernel)) ggX13_readsRow_X13_less
set_option maxRecDepth 20000 in
theorem ggX13_readsRow_X13_number : GoodIn wsX13_readsRow wsX13_number := goodIn_r _ [42, 10, 23, 13, 14, 15, 7, 16, 9, 4, 5, 6, 8, 11, 12, 43, 44, 45, 17, 18, 19, 20, 21, 22, 24, 25, 26, 27, 28, 29, 30, 31, 32, 33, 34, 35, 46, 47, 48, 49, 50, 51, 52, 53, 54, 55, 56, 57, 58, 59, 60, 61, 62, 63, 64, 65, 66, 67, 68, 69, 70, 71, 72, 73, 74, 75, 76, 77, 78, 79, 80, 81, 82, 83, 84, 85, 86, 87, 88, 89, 90, 91, 92, 93] (by decide +kernel) (by decide +kernel)
set_option maxRecDepth 20000 in
theorem gX13_readsRow_X13_number : GoodIn wsX13_readsRow (wsV RX13 169 RX13 yX13_number wsX13_number) := goodIn_app (goodIn_of _ (by decide +kernel)) ggX13_readsRow_X13_number
theorem dX13_readsRow_0 : decode cX13_readsRow 0 = .ok (.aload_n 0, 1) := by decide +kernel
theorem dX13_readsRow_1 : decode cX13_readsRow 1 = .ok (.getfield 189, 3) := by decide +kernel
theorem dX13_readsRow_4 : decode cX13_readsRow 4 = .ok (.aload_n 0, 1) := by decide +kernel
theorem dX13_readsRow_5 : decode cX13_readsRow 5 = .ok (.getfield 23, 3) := by decide +kernel
theorem dX13_readsRow_8 : decode cX13_readsRow 8 = .ok (.iconst 1, 1) := by decide +kernel
theorem dX13_readsRow_9 : decode cX13_readsRow 9 = .ok (.iaload, 1) := by decide +kernel
theorem dX13_readsRow_10 : decode cX13_readsRow 10 = .ok (.if_icmp .ne 8, 3) := by decide +kernel
theorem dX13_readsRow_13 : decode cX13_readsRow 13 = .ok (.aload_n 0, 1) := by decide +kernel
theorem dX13_readsRow_14 : decode cX13_readsRow 14 = .ok (.iconst 5, 1) := by decide +kernel
theorem dX13_readsRow_15 : decode cX13_readsRow 15 = .ok (.invokevirtual 156, 3) := by decide +kernel
theorem dX13_readsRow_18 : decode cX13_readsRow 18 = .ok (.aload_n 0, 1) := by decide +kernel
theorem dX13_readsRow_19 : decode cX13_readsRow 19 = .ok (.invokevirtual 148, 3) := by decide +kernel
theorem dX13_readsRow_22 : decode cX13_readsRow 22 = .ok (.ifCond .eq 7, 3) := by decide +kernel
theorem dX13_readsRow_25 : decode cX13_readsRow 25 = .ok (.aload_n 0, 1) := by decide +kernel
theorem dX13_readsRow_26 : decode cX13_readsRow 26 = .ok (.invokevirtual 159, 3) := by decide +kernel
theorem dX13_readsRow_29 : decode cX13_readsRow 29 = .ok (.iconst 0, 1) := by decide +kernel
theorem dX13_readsRow_30 : decode cX13_readsRow 30 = .ok (.istore_n 1, 1) := by decide +kernel
theorem dX13_readsRow_31 : decode cX13_readsRow 31 = .ok (.iload_n 1, 1) := by decide +kernel
theorem dX13_readsRow_32 : decode cX13_readsRow 32 = .ok (.aload_n 0, 1) := by decide +kernel
theorem dX13_readsRow_33 : decode cX13_readsRow 33 = .ok (.getfield 23, 3) := by decide +kernel
theorem dX13_readsRow_36 : decode cX13_readsRow 36 = .ok (.iconst 0, 1) := by decide +kernel
theorem dX13_readsRow_37 : decode cX13_readsRow 37 = .ok (.iaload, 1) := by decide +kernel
theorem dX13_readsRow_38 : decode cX13_readsRow 38 = .ok (.if_icmp .ge 36, 3) := by decide +kernel
theorem dX13_readsRow_41 : decode cX13_readsRow 41 = .ok (.aload_n 0, 1) := by decide +kernel
theorem dX13_readsRow_42 : decode cX13_readsRow 42 = .ok (.getfield 32, 3) := by decide +kernel
theorem dX13_readsRow_45 : decode cX13_readsRow 45 = .ok (.bipush 16, 2) := by decide +kernel
theorem dX13_readsRow_47 : decode cX13_readsRow 47 = .ok (.aload_n 0, 1) := by decide +kernel
theorem dX13_readsRow_48 : decode cX13_readsRow 48 = .ok (.getfield 189, 3) := by decide +kernel
theorem dX13_readsRow_51 : decode cX13_readsRow 51 = .ok (.bipush 11, 2) := by decide +kernel
theorem dX13_readsRow_53 : decode cX13_readsRow 53 = .ok (.invokestatic 210, 3) := by decide +kernel
theorem dX13_readsRow_56 : decode cX13_readsRow 56 = .ok (.imul, 1) := by decide +kernel
theorem dX13_readsRow_57 : decode cX13_readsRow 57 = .ok (.iload_n 1, 1) := by decide +kernel
theorem dX13_readsRow_58 : decode cX13_readsRow 58 = .ok (.iadd, 1) := by decide +kernel
theorem dX13_readsRow_59 : decode cX13_readsRow 59 = .ok (.aload_n 0, 1) := by decide +kernel
theorem dX13_readsRow_60 : decode cX13_readsRow 60 = .ok (.iconst 0, 1) := by decide +kernel
theorem dX13_readsRow_61 : decode cX13_readsRow 61 = .ok (.sipush 255, 3) := by decide +kernel
theorem dX13_readsRow_64 : decode cX13_readsRow 64 = .ok (.invokevirtual 169, 3) := by decide +kernel
theorem dX13_readsRow_67 : decode cX13_readsRow 67 = .ok (.iastore, 1) := by decide +kernel
theorem dX13_readsRow_68 : decode cX13_readsRow 68 = .ok (.iinc 1 1, 3) := by decide +kernel
theorem dX13_readsRow_71 : decode cX13_readsRow 71 = .ok (.goto (-40), 3) := by decide +kernel
theorem dX13_readsRow_74 : decode cX13_readsRow 74 = .ok (.aload_n 0, 1) := by decide +kernel
theorem dX13_readsRow_75 : decode cX13_readsRow 75 = .ok (.dup, 1) := by decide +kernel
theorem dX13_readsRow_76 : decode cX13_readsRow 76 = .ok (.getfield 189, 3) := by decide +kernel
theorem dX13_readsRow_79 : decode cX13_readsRow 79 = .ok (.iconst 1, 1) := by decide +kernel
theorem dX13_readsRow_80 : decode cX13_readsRow 80 = .ok (.iadd, 1) := by decide +kernel
theorem dX13_readsRow_81 : decode cX13_readsRow 81 = .ok (.putfield 189, 3) := by decide +kernel
theorem dX13_readsRow_84 : decode cX13_readsRow 84 = .ok (.return_, 1) := by decide +kernel
set_option maxRecDepth 20000 in
theorem ggX13_statement_X13_isWord : GoodIn wsX13_statement wsX13_isWord := goodIn_r _ [18, 19, 20, 21, 77, 78, 79, 80, 81, 82, 83, 84, 85, 86, 87, 88, 89, 90, 91, 92, 93, 94, 95, 96, 97, 98, 99, 100, 101, 102, 103, 104, 105, 106, 107, 108, 109, 110, 111, 112, 113, 114, 115, 116, 117, 118, 119, 120, 121, 122, 123, 124] (by decide +kernel) (by decide +kernel)
set_option maxRecDepth 20000 in
theorem gX13_statement_X13_isWord : GoodIn wsX13_statement (wsV RX13 152 RX13 yX13_isWord wsX13_isWord) := goodIn_app (goodIn_of _ (by decide +kernel)) ggX13_statement_X13_isWord
set_option maxRecDepth 20000 in
theorem ggX13_statement_X13_once : GoodIn wsX13_statement wsX13_once := goodIn_r _ [25, 26, 27, 28, 17, 29, 19, 20, 30, 31, 32, 33, 34, 35, 36, 37, 38, 39, 40, 21, 41, 42, 43, 44, 45, 46, 47, 48, 49, 50, 51, 52, 53, 77, 78, 79, 80, 81, 82, 83, 84, 85, 86, 87, 88, 89, 90, 91, 92, 93, 94, 95, 96, 97, 98, 99, 100, 101, 102, 103, 104, 105, 106, 107, 108, 109, 110, 111, 112, 113, 114, 115, 116, 117, 118, 119, 120, 121, 122, 123, 124] (by decide +kernel) (by decide +kernel)
set_option maxRecDepth 20000 in
theorem gX13_statement_X13_once : GoodIn wsX13_statement (wsV RX13 215 RX13 yX13_once wsX13_once) := goodIn_app (goodIn_of _ (by decide +kernel)) ggX13_statement_X13_once
set_option maxRecDepth 20000 in
theorem ggX13_statement_X13_number : GoodIn wsX13_statement wsX13_number := goodIn_r _ [57, 20, 41, 32, 33, 34, 17, 35, 19, 26, 27, 28, 29, 30, 31, 58, 59, 60, 36, 37, 38, 39, 40, 21, 42, 43, 44, 45, 46, 47, 48, 49, 50, 51, 52, 53, 77, 78, 79, 80, 81, 82, 83, 84, 85, 86, 87, 88, 89, 90, 91, 92, 93, 94, 95, 96, 97, 98, 99, 100, 101, 102, 103, 104, 105, 106, 107, 108, 109, 110, 111, 112, 113, 114, 115, 116, 117, 118, 119, 120, 121, 122, 123, 124] (by decide +kernel) (by decide +kernel)
set_option maxRecDepth 20000 in
theorem gX13_statement_X13_number : GoodIn wsX13_statement (wsV RX13 169 RX13 yX13_number wsX13_number) := goodIn_app (goodIn_of _ (by decide +kernel)) ggX13_statement_X13_number
set_option maxRecDepth 20000 in
theorem ggX13_statement_X13_numberBehind : GoodIn wsX13_statement wsX13_numberBehind := goodIn_r _ [64, 65, 66, 67, 17, 68, 32, 33, 34, 35, 19, 14, 15, 16, 18, 20, 21, 26, 27, 28, 29, 30, 31, 36, 37, 38, 39, 40, 41, 42, 43, 44, 45, 46, 47, 48, 49, 50, 51, 52, 53, 54, 55, 56, 57, 58, 59, 60, 77, 78, 79, 80, 81, 82, 83, 84, 85, 86, 87, 88, 89, 90, 91, 92, 93, 94, 95, 96, 97, 98, 99, 100, 101, 102, 103, 104, 105, 106, 107, 108, 109, 110, 111, 112, 113, 114, 115, 116, 117, 118, 119, 120, 121, 122, 123, 124] (by decide +kernel) (by decide +kernel)
set_option maxRecDepth 20000 in
theorem gX13_statement_X13_numberBehind : GoodIn wsX13_statement (wsV RX13 222 RX13 yX13_numberBehind wsX13_numberBehind) := goodIn_app (goodIn_of _ (by decide +kernel)) ggX13_statement_X13_numberBehind
set_option maxRecDepth 20000 in
theorem ggX13_statement_X13_readsRow : GoodIn wsX13_statement wsX13_readsRow := goodIn_r _ [72, 3, 4, 73, 26, 27, 28, 17, 29, 19, 20, 30, 31, 32, 33, 34, 35, 36, 37, 38, 39, 40, 21, 41, 42, 43, 44, 45, 46, 47, 48, 49, 50, 51, 52, 53, 74, 75, 76, 54, 55, 56, 57, 58, 59, 60, 77, 78, 79, 80, 81, 82, 83, 84, 85, 86, 87, 88, 89, 90, 91, 92, 93, 94, 95, 96, 97, 98, 99, 100, 101, 102, 103, 104, 105, 106, 107, 108, 109, 110, 111, 112, 113, 114, 115, 116, 117, 118, 119, 120, 121, 122, 123, 124] (by decide +kernel) (by decide +kernel)
set_option maxRecDepth 20000 in
theorem gX13_statement_X13_readsRow : GoodIn wsX13_statement (wsV RX13 234 RX13 yX13_readsRow wsX13_readsRow) := goodIn_app (goodIn_of _ (by decide +kernel)) ggX13_statement_X13_readsRow
set_option maxRecDepth 20000 in
theorem ggX13_statement_X13_wrong : GoodIn wsX13_statement wsX13_wrong := goodIn_r _ [29, 19, 20, 30, 31, 77, 78, 79, 80, 81, 82, 83, 84, 85, 86, 87, 88, 89, 90, 91, 92, 93, 94, 95, 96, 97, 98, 99, 100, 101, 102, 103, 104, 105, 106, 107, 108, 109, 110, 111, 112, 113, 114, 115, 116, 117, 118, 119, 120, 121, 122, 123, 124] (by decide +kernel) (by decide +kernel)
set_option maxRecDepth 20000 in
theorem gX13_statement_X13_wrong : GoodIn wsX13_statement (wsV RX13 156 RX13 yX13_wrong wsX13_wrong) := goodIn_app (goodIn_of _ (by decide +kernel)) ggX13_statement_X13_wrong
theorem dX13_statement_0 : decode cX13_statement 0 = .ok (.aload_n 0, 1) := by decide +kernel
theorem dX13_statement_1 : decode cX13_statement 1 = .ok (.ldc2_w 213, 3) := by decide +kernel
theorem dX13_statement_4 : decode cX13_statement 4 = .ok (.invokevirtual 152, 3) := by decide +kernel
theorem dX13_statement_7 : decode cX13_statement 7 = .ok (.ifCond .eq 59, 3) := by decide +kernel
theorem dX13_statement_10 : decode cX13_statement 10 = .ok (.aload_n 0, 1) := by decide +kernel
theorem dX13_statement_11 : decode cX13_statement 11 = .ok (.aload_n 0, 1) := by decide +kernel
theorem dX13_statement_12 : decode cX13_statement 12 = .ok (.aload_n 0, 1) := by decide +kernel
theorem dX13_statement_13 : decode cX13_statement 13 = .ok (.getfield 176, 3) := by decide +kernel
theorem dX13_statement_16 : decode cX13_statement 16 = .ok (.ifCond .ne 10, 3) := by decide +kernel
theorem dX13_statement_19 : decode cX13_statement 19 = .ok (.aload_n 0, 1) := by decide +kernel
theorem dX13_statement_20 : decode cX13_statement 20 = .ok (.getfield 189, 3) := by decide +kernel
theorem dX13_statement_23 : decode cX13_statement 23 = .ok (.ifCond .le 7, 3) := by decide +kernel
theorem dX13_statement_26 : decode cX13_statement 26 = .ok (.iconst 1, 1) := by decide +kernel
theorem dX13_statement_27 : decode cX13_statement 27 = .ok (.goto 4, 3) := by decide +kernel
theorem dX13_statement_30 : decode cX13_statement 30 = .ok (.iconst 0, 1) := by decide +kernel
theorem dX13_statement_31 : decode cX13_statement 31 = .ok (.invokevirtual 215, 3) := by decide +kernel
theorem dX13_statement_34 : decode cX13_statement 34 = .ok (.putfield 176, 3) := by decide +kernel
theorem dX13_statement_37 : decode cX13_statement 37 = .ok (.aload_n 0, 1) := by decide +kernel
theorem dX13_statement_38 : decode cX13_statement 38 = .ok (.getfield 23, 3) := by decide +kernel
theorem dX13_statement_41 : decode cX13_statement 41 = .ok (.iconst 0, 1) := by decide +kernel
theorem dX13_statement_42 : decode cX13_statement 42 = .ok (.aload_n 0, 1) := by decide +kernel
theorem dX13_statement_43 : decode cX13_statement 43 = .ok (.iconst 1, 1) := by decide +kernel
theorem dX13_statement_44 : decode cX13_statement 44 = .ok (.bipush 16, 2) := by decide +kernel
theorem dX13_statement_46 : decode cX13_statement 46 = .ok (.invokevirtual 169, 3) := by decide +kernel
theorem dX13_statement_49 : decode cX13_statement 49 = .ok (.iastore, 1) := by decide +kernel
theorem dX13_statement_50 : decode cX13_statement 50 = .ok (.aload_n 0, 1) := by decide +kernel
theorem dX13_statement_51 : decode cX13_statement 51 = .ok (.getfield 23, 3) := by decide +kernel
theorem dX13_statement_54 : decode cX13_statement 54 = .ok (.iconst 1, 1) := by decide +kernel
theorem dX13_statement_55 : decode cX13_statement 55 = .ok (.aload_n 0, 1) := by decide +kernel
theorem dX13_statement_56 : decode cX13_statement 56 = .ok (.iconst 1, 1) := by decide +kernel
theorem dX13_statement_57 : decode cX13_statement 57 = .ok (.bipush 12, 2) := by decide +kernel
theorem dX13_statement_59 : decode cX13_statement 59 = .ok (.invokevirtual 169, 3) := by decide +kernel
theorem dX13_statement_62 : decode cX13_statement 62 = .ok (.iastore, 1) := by decide +kernel
theorem dX13_statement_63 : decode cX13_statement 63 = .ok (.goto 176, 3) := by decide +kernel
theorem dX13_statement_66 : decode cX13_statement 66 = .ok (.aload_n 0, 1) := by decide +kernel
theorem dX13_statement_67 : decode cX13_statement 67 = .ok (.ldc2_w 218, 3) := by decide +kernel
theorem dX13_statement_70 : decode cX13_statement 70 = .ok (.invokevirtual 152, 3) := by decide +kernel
theorem dX13_statement_73 : decode cX13_statement 73 = .ok (.ifCond .eq 68, 3) := by decide +kernel
theorem dX13_statement_76 : decode cX13_statement 76 = .ok (.aload_n 0, 1) := by decide +kernel
theorem dX13_statement_77 : decode cX13_statement 77 = .ok (.aload_n 0, 1) := by decide +kernel
theorem dX13_statement_78 : decode cX13_statement 78 = .ok (.aload_n 0, 1) := by decide +kernel
theorem dX13_statement_79 : decode cX13_statement 79 = .ok (.getfield 180, 3) := by decide +kernel
theorem dX13_statement_82 : decode cX13_statement 82 = .ok (.invokevirtual 215, 3) := by decide +kernel
theorem dX13_statement_85 : decode cX13_statement 85 = .ok (.putfield 180, 3) := by decide +kernel
theorem dX13_statement_88 : decode cX13_statement 88 = .ok (.aload_n 0, 1) := by decide +kernel
theorem dX13_statement_89 : decode cX13_statement 89 = .ok (.getfield 23, 3) := by decide +kernel
theorem dX13_statement_92 : decode cX13_statement 92 = .ok (.iconst 2, 1) := by decide +kernel
theorem dX13_statement_93 : decode cX13_statement 93 = .ok (.aload_n 0, 1) := by decide +kernel
theorem dX13_statement_94 : decode cX13_statement 94 = .ok (.iconst 1, 1) := by decide +kernel
theorem dX13_statement_95 : decode cX13_statement 95 = .ok (.bipush 20, 2) := by decide +kernel
theorem dX13_statement_97 : decode cX13_statement 97 = .ok (.invokevirtual 169, 3) := by decide +kernel
theorem dX13_statement_100 : decode cX13_statement 100 = .ok (.iastore, 1) := by decide +kernel
theorem dX13_statement_101 : decode cX13_statement 101 = .ok (.aload_n 0, 1) := by decide +kernel
theorem dX13_statement_102 : decode cX13_statement 102 = .ok (.getfield 23, 3) := by decide +kernel
theorem dX13_statement_105 : decode cX13_statement 105 = .ok (.iconst 3, 1) := by decide +kernel
theorem dX13_statement_106 : decode cX13_statement 106 = .ok (.aload_n 0, 1) := by decide +kernel
theorem dX13_statement_107 : decode cX13_statement 107 = .ok (.ldc2_w 220, 3) := by decide +kernel
theorem dX13_statement_110 : decode cX13_statement 110 = .ok (.bipush 10, 2) := by decide +kernel
theorem dX13_statement_112 : decode cX13_statement 112 = .ok (.bipush 99, 2) := by decide +kernel
theorem dX13_statement_114 : decode cX13_statement 114 = .ok (.invokevirtual 222, 3) := by decide +kernel
theorem dX13_statement_117 : decode cX13_statement 117 = .ok (.iastore, 1) := by decide +kernel
theorem dX13_statement_118 : decode cX13_statement 118 = .ok (.aload_n 0, 1) := by decide +kernel
theorem dX13_statement_119 : decode cX13_statement 119 = .ok (.getfield 23, 3) := by decide +kernel
theorem dX13_statement_122 : decode cX13_statement 122 = .ok (.iconst 4, 1) := by decide +kernel
theorem dX13_statement_123 : decode cX13_statement 123 = .ok (.aload_n 0, 1) := by decide +kernel
theorem dX13_statement_124 : decode cX13_statement 124 = .ok (.ldc2_w 226, 3) := by decide +kernel
theorem dX13_statement_127 : decode cX13_statement 127 = .ok (.iconst 0, 1) := by decide +kernel
theorem dX13_statement_128 : decode cX13_statement 128 = .ok (.aload_n 0, 1) := by decide +kernel
theorem dX13_statement_129 : decode cX13_statement 129 = .ok (.getfield 23, 3) := by decide +kernel
theorem dX13_statement_132 : decode cX13_statement 132 = .ok (.iconst 2, 1) := by decide +kernel
theorem dX13_statement_133 : decode cX13_statement 133 = .ok (.iaload, 1) := by decide +kernel
theorem dX13_statement_134 : decode cX13_statement 134 = .ok (.invokevirtual 222, 3) := by decide +kernel
theorem dX13_statement_137 : decode cX13_statement 137 = .ok (.iastore, 1) := by decide +kernel
theorem dX13_statement_138 : decode cX13_statement 138 = .ok (.goto 101, 3) := by decide +kernel
theorem dX13_statement_141 : decode cX13_statement 141 = .ok (.aload_n 0, 1) := by decide +kernel
theorem dX13_statement_142 : decode cX13_statement 142 = .ok (.ldc2_w 228, 3) := by decide +kernel
theorem dX13_statement_145 : decode cX13_statement 145 = .ok (.invokevirtual 152, 3) := by decide +kernel
theorem dX13_statement_148 : decode cX13_statement 148 = .ok (.ifCond .eq 30, 3) := by decide +kernel
theorem dX13_statement_151 : decode cX13_statement 151 = .ok (.aload_n 0, 1) := by decide +kernel
theorem dX13_statement_152 : decode cX13_statement 152 = .ok (.aload_n 0, 1) := by decide +kernel
theorem dX13_statement_153 : decode cX13_statement 153 = .ok (.aload_n 0, 1) := by decide +kernel
theorem dX13_statement_154 : decode cX13_statement 154 = .ok (.getfield 183, 3) := by decide +kernel
theorem dX13_statement_157 : decode cX13_statement 157 = .ok (.invokevirtual 215, 3) := by decide +kernel
theorem dX13_statement_160 : decode cX13_statement 160 = .ok (.putfield 183, 3) := by decide +kernel
theorem dX13_statement_163 : decode cX13_statement 163 = .ok (.aload_n 0, 1) := by decide +kernel
theorem dX13_statement_164 : decode cX13_statement 164 = .ok (.getfield 23, 3) := by decide +kernel
theorem dX13_statement_167 : decode cX13_statement 167 = .ok (.iconst 5, 1) := by decide +kernel
theorem dX13_statement_168 : decode cX13_statement 168 = .ok (.aload_n 0, 1) := by decide +kernel
theorem dX13_statement_169 : decode cX13_statement 169 = .ok (.iconst 1, 1) := by decide +kernel
theorem dX13_statement_170 : decode cX13_statement 170 = .ok (.iconst 4, 1) := by decide +kernel
theorem dX13_statement_171 : decode cX13_statement 171 = .ok (.invokevirtual 169, 3) := by decide +kernel
theorem dX13_statement_174 : decode cX13_statement 174 = .ok (.iastore, 1) := by decide +kernel
theorem dX13_statement_175 : decode cX13_statement 175 = .ok (.goto 64, 3) := by decide +kernel
theorem dX13_statement_178 : decode cX13_statement 178 = .ok (.aload_n 0, 1) := by decide +kernel
theorem dX13_statement_179 : decode cX13_statement 179 = .ok (.ldc2_w 230, 3) := by decide +kernel
theorem dX13_statement_182 : decode cX13_statement 182 = .ok (.invokevirtual 152, 3) := by decide +kernel
theorem dX13_statement_185 : decode cX13_statement 185 = .ok (.ifCond .eq 32, 3) := by decide +kernel
theorem dX13_statement_188 : decode cX13_statement 188 = .ok (.aload_n 0, 1) := by decide +kernel
theorem dX13_statement_189 : decode cX13_statement 189 = .ok (.aload_n 0, 1) := by decide +kernel
theorem dX13_statement_190 : decode cX13_statement 190 = .ok (.aload_n 0, 1) := by decide +kernel
theorem dX13_statement_191 : decode cX13_statement 191 = .ok (.getfield 186, 3) := by decide +kernel
theorem dX13_statement_194 : decode cX13_statement 194 = .ok (.invokevirtual 215, 3) := by decide +kernel
theorem dX13_statement_197 : decode cX13_statement 197 = .ok (.putfield 186, 3) := by decide +kernel
theorem dX13_statement_200 : decode cX13_statement 200 = .ok (.aload_n 0, 1) := by decide +kernel
theorem dX13_statement_201 : decode cX13_statement 201 = .ok (.getfield 23, 3) := by decide +kernel
theorem dX13_statement_204 : decode cX13_statement 204 = .ok (.bipush 6, 2) := by decide +kernel
theorem dX13_statement_206 : decode cX13_statement 206 = .ok (.aload_n 0, 1) := by decide +kernel
theorem dX13_statement_207 : decode cX13_statement 207 = .ok (.iconst 0, 1) := by decide +kernel
theorem dX13_statement_208 : decode cX13_statement 208 = .ok (.bipush 9, 2) := by decide +kernel
theorem dX13_statement_210 : decode cX13_statement 210 = .ok (.invokevirtual 169, 3) := by decide +kernel
theorem dX13_statement_213 : decode cX13_statement 213 = .ok (.iastore, 1) := by decide +kernel
theorem dX13_statement_214 : decode cX13_statement 214 = .ok (.goto 25, 3) := by decide +kernel
theorem dX13_statement_217 : decode cX13_statement 217 = .ok (.aload_n 0, 1) := by decide +kernel
theorem dX13_statement_218 : decode cX13_statement 218 = .ok (.ldc2_w 232, 3) := by decide +kernel
theorem dX13_statement_221 : decode cX13_statement 221 = .ok (.invokevirtual 152, 3) := by decide +kernel
theorem dX13_statement_224 : decode cX13_statement 224 = .ok (.ifCond .eq 10, 3) := by decide +kernel
theorem dX13_statement_227 : decode cX13_statement 227 = .ok (.aload_n 0, 1) := by decide +kernel
theorem dX13_statement_228 : decode cX13_statement 228 = .ok (.invokevirtual 234, 3) := by decide +kernel
theorem dX13_statement_231 : decode cX13_statement 231 = .ok (.goto 8, 3) := by decide +kernel
theorem dX13_statement_234 : decode cX13_statement 234 = .ok (.aload_n 0, 1) := by decide +kernel
theorem dX13_statement_235 : decode cX13_statement 235 = .ok (.iconst 1, 1) := by decide +kernel
theorem dX13_statement_236 : decode cX13_statement 236 = .ok (.invokevirtual 156, 3) := by decide +kernel
theorem dX13_statement_239 : decode cX13_statement 239 = .ok (.return_, 1) := by decide +kernel
set_option maxRecDepth 20000 in
theorem ggX13_readText_X13_beginsText : GoodIn wsX13_readText wsX13_beginsText := goodIn_r _ [7, 8, 9, 10, 11, 12, 13, 14, 15, 6, 16, 17, 18, 19, 1, 20, 21, 22, 23, 24, 25, 26, 27, 28, 29, 30, 141, 142, 143, 144, 145, 146, 147, 148, 149, 150, 151, 152, 153, 154, 155, 156, 157, 158, 159, 160, 161, 162, 163, 164, 165, 166, 167, 168, 169, 170, 171, 172, 173, 174, 175, 176, 177, 178, 179, 180, 181, 182, 183, 184, 185, 186, 187, 188] (by decide +kernel) (by decide +kernel)
set_option maxRecDepth 20000 in
theorem gX13_readText_X13_beginsText : GoodIn wsX13_readText (wsV RX13 237 RX13 yX13_beginsText wsX13_beginsText) := goodIn_app (goodIn_of _ (by decide +kernel)) ggX13_readText_X13_beginsText
set_option maxRecDepth 20000 in
theorem ggX13_readText_X13_begins : GoodIn wsX13_readText wsX13_begins := goodIn_r _ [34, 35, 36, 37, 38, 39, 40, 41, 2, 141, 142, 143, 144, 145, 146, 147, 148, 149, 150, 151, 152, 153, 154, 155, 156, 157, 158, 159, 160, 161, 162, 163, 164, 165, 166, 167, 168, 169, 170, 171, 172, 173, 174, 175, 176, 177, 178, 179, 180, 181, 182, 183, 184, 185, 186, 187, 188] (by decide +kernel) (by decide +kernel)
set_option maxRecDepth 20000 in
theorem gX13_readText_X13_begins : GoodIn wsX13_readText (wsV RX13 87 RX13 yX13_begins wsX13_begins) := goodIn_app (goodIn_of _ (by decide +kernel)) ggX13_readText_X13_begins
set_option maxRecDepth 20000 in
theorem ggX13_readText_X13_isGood : GoodIn wsX13_readText wsX13_isGood := goodIn_r _ [45, 11, 141, 142, 143, 144, 145, 146, 147, 148, 149, 150, 151, 152, 153, 154, 155, 156, 157, 158, 159, 160, 161, 162, 163, 164, 165, 166, 167, 168, 169, 170, 171, 172, 173, 174, 175, 176, 177, 178, 179, 180, 181, 182, 183, 184, 185, 186, 187, 188] (by decide +kernel) (by decide +kernel)
set_option maxRecDepth 20000 in
theorem gX13_readText_X13_isGood : GoodIn wsX13_readText (wsV RX13 148 RX13 yX13_isGood wsX13_isGood) := goodIn_app (goodIn_of _ (by decide +kernel)) ggX13_readText_X13_isGood
set_option maxRecDepth 20000 in
theorem ggX13_readText_X13_statement : GoodIn wsX13_readText wsX13_statement := goodIn_r _ [49, 50, 37, 41, 35, 51, 38, 52, 53, 54, 39, 55, 40, 56, 57, 58, 59, 6, 60, 11, 1, 18, 61, 62, 63, 64, 65, 66, 67, 68, 17, 12, 42, 43, 44, 45, 13, 14, 15, 16, 10, 19, 20, 21, 22, 23, 9, 24, 25, 26, 27, 28, 29, 30, 69, 70, 71, 72, 73, 74, 75, 76, 77, 78, 79, 80, 81, 82, 83, 84, 85, 86, 87, 36, 88, 89, 90, 141, 142, 143, 144, 145, 146, 147, 148, 149, 150, 151, 152, 153, 154, 155, 156, 157, 158, 159, 160, 161, 162, 163, 164, 165, 166, 167, 168, 169, 170, 171, 172, 173, 174, 175, 176, 177, 178, 179, 180, 181, 182, 183, 184, 185, 186, 187, 188] (by decide +kernel) (by decide +kernel)
set_option maxRecDepth 20000 in
theorem gX13_readText_X13_statement : GoodIn wsX13_readText (wsV RX13 240 RX13 yX13_statement wsX13_statement) := goodIn_app (goodIn_of _ (by decide +kernel)) ggX13_readText_X13_statement
set_option maxRecDepth 20000 in
theorem ggX13_readText_X13_mustSign : GoodIn wsX13_readText wsX13_mustSign := goodIn_r _ [94, 42, 43, 44, 6, 45, 11, 95, 96, 97, 98, 1, 19, 65, 66, 67, 68, 17, 12, 13, 14, 15, 16, 10, 18, 20, 21, 22, 23, 9, 24, 25, 26, 27, 28, 29, 30, 141, 142, 143, 144, 145, 146, 147, 148, 149, 150, 151, 152, 153, 154, 155, 156, 157, 158, 159, 160, 161, 162, 163, 164, 165, 166, 167, 168, 169, 170, 171, 172, 173, 174, 175, 176, 177, 178, 179, 180, 181, 182, 183, 184, 185, 186, 187, 188] (by decide +kernel) (by decide +kernel)
set_option maxRecDepth 20000 in
theorem gX13_readText_X13_mustSign : GoodIn wsX13_readText (wsV RX13 243 RX13 yX13_mustSign wsX13_mustSign) := goodIn_app (goodIn_of _ (by decide +kernel)) ggX13_readText_X13_mustSign
set_option maxRecDepth 20000 in
theorem ggX13_readText_X13_endsText : GoodIn wsX13_readText wsX13_endsText := goodIn_r _ [102, 11, 103, 12, 104, 105, 106, 107, 6, 108, 109, 110, 111, 112, 141, 142, 143, 144, 145, 146, 147, 148, 149, 150, 151, 152, 153, 154, 155, 156, 157, 158, 159, 160, 161, 162, 163, 164, 165, 166, 167, 168, 169, 170, 171, 172, 173, 174, 175, 176, 177, 178, 179, 180, 181, 182, 183, 184, 185, 186, 187, 188] (by decide +kernel) (by decide +kernel)
set_option maxRecDepth 20000 in
theorem gX13_readText_X13_endsText : GoodIn wsX13_readText (wsV RX13 246 RX13 yX13_endsText wsX13_endsText) := goodIn_app (goodIn_of _ (by decide +kernel)) ggX13_readText_X13_endsText
set_option maxRecDepth 20000 in
theorem ggX13_readText_X13_lays : GoodIn wsX13_readText wsX13_lays := goodIn_r _ [116, 117, 35, 118, 36, 119, 120, 121, 122, 123, 6, 124, 73, 74, 75, 125, 126, 127, 128, 129, 130, 131, 132, 133, 134, 135, 136, 137, 138, 139, 140, 141, 142, 143, 144, 145, 146, 147, 148, 149, 150, 151, 152, 153, 154, 155, 156, 157, 158, 159, 160, 161, 162, 163, 164, 165, 166, 167, 168, 169, 170, 171, 172, 173, 174, 175, 176, 177, 178, 179, 180, 181, 182, 183, 184, 185, 186, 187, 188] (by decide +kernel) (by decide +kernel)
set_option maxRecDepth 20000 in
theorem gX13_readText_X13_lays : GoodIn wsX13_readText (wsV RX13 90 RX13 yX13_lays wsX13_lays) := goodIn_app (goodIn_of _ (by decide +kernel)) ggX13_readText_X13_lays
theorem dX13_readText_0 : decode cX13_readText 0 = .ok (.aload_n 0, 1) := by decide +kernel
theorem dX13_readText_1 : decode cX13_readText 1 = .ok (.invokevirtual 237, 3) := by decide +kernel
theorem dX13_readText_4 : decode cX13_readText 4 = .ok (.aload_n 0, 1) := by decide +kernel
theorem dX13_readText_5 : decode cX13_readText 5 = .ok (.invokevirtual 87, 3) := by decide +kernel
theorem dX13_readText_8 : decode cX13_readText 8 = .ok (.aload_n 0, 1) := by decide +kernel
theorem dX13_readText_9 : decode cX13_readText 9 = .ok (.invokevirtual 148, 3) := by decide +kernel
theorem dX13_readText_12 : decode cX13_readText 12 = .ok (.ifCond .eq 33, 3) := by decide +kernel
theorem dX13_readText_15 : decode cX13_readText 15 = .ok (.aload_n 0, 1) := by decide +kernel
theorem dX13_readText_16 : decode cX13_readText 16 = .ok (.getfield 135, 3) := by decide +kernel
theorem dX13_readText_19 : decode cX13_readText 19 = .ok (.ifCond .eq 26, 3) := by decide +kernel
theorem dX13_readText_22 : decode cX13_readText 22 = .ok (.aload_n 0, 1) := by decide +kernel
theorem dX13_readText_23 : decode cX13_readText 23 = .ok (.invokevirtual 240, 3) := by decide +kernel
theorem dX13_readText_26 : decode cX13_readText 26 = .ok (.aload_n 0, 1) := by decide +kernel
theorem dX13_readText_27 : decode cX13_readText 27 = .ok (.bipush 59, 2) := by decide +kernel
theorem dX13_readText_29 : decode cX13_readText 29 = .ok (.invokevirtual 243, 3) := by decide +kernel
theorem dX13_readText_32 : decode cX13_readText 32 = .ok (.aload_n 0, 1) := by decide +kernel
theorem dX13_readText_33 : decode cX13_readText 33 = .ok (.dup, 1) := by decide +kernel
theorem dX13_readText_34 : decode cX13_readText 34 = .ok (.getfield 192, 3) := by decide +kernel
theorem dX13_readText_37 : decode cX13_readText 37 = .ok (.iconst 1, 1) := by decide +kernel
theorem dX13_readText_38 : decode cX13_readText 38 = .ok (.iadd, 1) := by decide +kernel
theorem dX13_readText_39 : decode cX13_readText 39 = .ok (.putfield 192, 3) := by decide +kernel
theorem dX13_readText_42 : decode cX13_readText 42 = .ok (.goto (-34), 3) := by decide +kernel
theorem dX13_readText_45 : decode cX13_readText 45 = .ok (.aload_n 0, 1) := by decide +kernel
theorem dX13_readText_46 : decode cX13_readText 46 = .ok (.invokevirtual 246, 3) := by decide +kernel
theorem dX13_readText_49 : decode cX13_readText 49 = .ok (.ifCond .ne 5, 3) := by decide +kernel
theorem dX13_readText_52 : decode cX13_readText 52 = .ok (.iconst 0, 1) := by decide +kernel
theorem dX13_readText_53 : decode cX13_readText 53 = .ok (.ireturn, 1) := by decide +kernel
theorem dX13_readText_54 : decode cX13_readText 54 = .ok (.aload_n 0, 1) := by decide +kernel
theorem dX13_readText_55 : decode cX13_readText 55 = .ok (.invokevirtual 90, 3) := by decide +kernel
theorem dX13_readText_58 : decode cX13_readText 58 = .ok (.aload_n 0, 1) := by decide +kernel
theorem dX13_readText_59 : decode cX13_readText 59 = .ok (.getfield 192, 3) := by decide +kernel
theorem dX13_readText_62 : decode cX13_readText 62 = .ok (.ireturn, 1) := by decide +kernel
set_option maxRecDepth 20000 in
theorem ggX13_isCell_X13_isIn : GoodIn wsX13_isCell wsX13_isIn := goodIn_r _ [5] (by decide +kernel) (by decide +kernel)
set_option maxRecDepth 20000 in
theorem gX13_isCell_X13_isIn : GoodIn wsX13_isCell (va_wsS RX13 111 yX13_isIn wsX13_isIn) := goodIn_app (goodIn_of _ (by decide +kernel)) ggX13_isCell_X13_isIn
theorem dX13_isCell_0 : decode cX13_isCell 0 = .ok (.iload_n 1, 1) := by decide +kernel
theorem dX13_isCell_1 : decode cX13_isCell 1 = .ok (.i2l, 1) := by decide +kernel
theorem dX13_isCell_2 : decode cX13_isCell 2 = .ok (.lconst 0, 1) := by decide +kernel
theorem dX13_isCell_3 : decode cX13_isCell 3 = .ok (.aload_n 0, 1) := by decide +kernel
theorem dX13_isCell_4 : decode cX13_isCell 4 = .ok (.getfield 20, 3) := by decide +kernel
theorem dX13_isCell_7 : decode cX13_isCell 7 = .ok (.iconst 0, 1) := by decide +kernel
theorem dX13_isCell_8 : decode cX13_isCell 8 = .ok (.iaload, 1) := by decide +kernel
theorem dX13_isCell_9 : decode cX13_isCell 9 = .ok (.iconst 1, 1) := by decide +kernel
theorem dX13_isCell_10 : decode cX13_isCell 10 = .ok (.isub, 1) := by decide +kernel
theorem dX13_isCell_11 : decode cX13_isCell 11 = .ok (.i2l, 1) := by decide +kernel
theorem dX13_isCell_12 : decode cX13_isCell 12 = .ok (.invokestatic 111, 3) := by decide +kernel
theorem dX13_isCell_15 : decode cX13_isCell 15 = .ok (.ifCond .eq 25, 3) := by decide +kernel
theorem dX13_isCell_18 : decode cX13_isCell 18 = .ok (.iload_n 2, 1) := by decide +kernel
theorem dX13_isCell_19 : decode cX13_isCell 19 = .ok (.i2l, 1) := by decide +kernel
theorem dX13_isCell_20 : decode cX13_isCell 20 = .ok (.lconst 0, 1) := by decide +kernel
theorem dX13_isCell_21 : decode cX13_isCell 21 = .ok (.aload_n 0, 1) := by decide +kernel
theorem dX13_isCell_22 : decode cX13_isCell 22 = .ok (.getfield 20, 3) := by decide +kernel
theorem dX13_isCell_25 : decode cX13_isCell 25 = .ok (.iconst 1, 1) := by decide +kernel
theorem dX13_isCell_26 : decode cX13_isCell 26 = .ok (.iaload, 1) := by decide +kernel
theorem dX13_isCell_27 : decode cX13_isCell 27 = .ok (.iconst 1, 1) := by decide +kernel
theorem dX13_isCell_28 : decode cX13_isCell 28 = .ok (.isub, 1) := by decide +kernel
theorem dX13_isCell_29 : decode cX13_isCell 29 = .ok (.i2l, 1) := by decide +kernel
theorem dX13_isCell_30 : decode cX13_isCell 30 = .ok (.invokestatic 111, 3) := by decide +kernel
theorem dX13_isCell_33 : decode cX13_isCell 33 = .ok (.ifCond .eq 7, 3) := by decide +kernel
theorem dX13_isCell_36 : decode cX13_isCell 36 = .ok (.iconst 1, 1) := by decide +kernel
theorem dX13_isCell_37 : decode cX13_isCell 37 = .ok (.goto 4, 3) := by decide +kernel
theorem dX13_isCell_40 : decode cX13_isCell 40 = .ok (.iconst 0, 1) := by decide +kernel
theorem dX13_isCell_41 : decode cX13_isCell 41 = .ok (.ireturn, 1) := by decide +kernel
theorem dX13_cellMany_0 : decode cX13_cellMany 0 = .ok (.aload_n 0, 1) := by decide +kernel
theorem dX13_cellMany_1 : decode cX13_cellMany 1 = .ok (.getfield 20, 3) := by decide +kernel
theorem dX13_cellMany_4 : decode cX13_cellMany 4 = .ok (.iconst 0, 1) := by decide +kernel
theorem dX13_cellMany_5 : decode cX13_cellMany 5 = .ok (.iaload, 1) := by decide +kernel
theorem dX13_cellMany_6 : decode cX13_cellMany 6 = .ok (.aload_n 0, 1) := by decide +kernel
theorem dX13_cellMany_7 : decode cX13_cellMany 7 = .ok (.getfield 20, 3) := by decide +kernel
theorem dX13_cellMany_10 : decode cX13_cellMany 10 = .ok (.iconst 1, 1) := by decide +kernel
theorem dX13_cellMany_11 : decode cX13_cellMany 11 = .ok (.iaload, 1) := by decide +kernel
theorem dX13_cellMany_12 : decode cX13_cellMany 12 = .ok (.imul, 1) := by decide +kernel
theorem dX13_cellMany_13 : decode cX13_cellMany 13 = .ok (.ireturn, 1) := by decide +kernel
theorem dX13_cellAt_0 : decode cX13_cellAt 0 = .ok (.bipush 16, 2) := by decide +kernel
theorem dX13_cellAt_2 : decode cX13_cellAt 2 = .ok (.iload_n 1, 1) := by decide +kernel
theorem dX13_cellAt_3 : decode cX13_cellAt 3 = .ok (.aload_n 0, 1) := by decide +kernel
theorem dX13_cellAt_4 : decode cX13_cellAt 4 = .ok (.getfield 20, 3) := by decide +kernel
theorem dX13_cellAt_7 : decode cX13_cellAt 7 = .ok (.iconst 0, 1) := by decide +kernel
theorem dX13_cellAt_8 : decode cX13_cellAt 8 = .ok (.iaload, 1) := by decide +kernel
theorem dX13_cellAt_9 : decode cX13_cellAt 9 = .ok (.idiv, 1) := by decide +kernel
theorem dX13_cellAt_10 : decode cX13_cellAt 10 = .ok (.imul, 1) := by decide +kernel
theorem dX13_cellAt_11 : decode cX13_cellAt 11 = .ok (.iload_n 1, 1) := by decide +kernel
theorem dX13_cellAt_12 : decode cX13_cellAt 12 = .ok (.aload_n 0, 1) := by decide +kernel
theorem dX13_cellAt_13 : decode cX13_cellAt 13 = .ok (.getfield 20, 3) := by decide +kernel
theorem dX13_cellAt_16 : decode cX13_cellAt 16 = .ok (.iconst 0, 1) := by decide +kernel
theorem dX13_cellAt_17 : decode cX13_cellAt 17 = .ok (.iaload, 1) := by decide +kernel
theorem dX13_cellAt_18 : decode cX13_cellAt 18 = .ok (.irem, 1) := by decide +kernel
theorem dX13_cellAt_19 : decode cX13_cellAt 19 = .ok (.iadd, 1) := by decide +kernel
theorem dX13_cellAt_20 : decode cX13_cellAt 20 = .ok (.ireturn, 1) := by decide +kernel
set_option maxRecDepth 20000 in
theorem ggX13_setting_X13_isIn : GoodIn wsX13_setting wsX13_isIn := goodIn_r _ [6] (by decide +kernel) (by decide +kernel)
set_option maxRecDepth 20000 in
theorem gX13_setting_X13_isIn : GoodIn wsX13_setting (va_wsS RX13 111 yX13_isIn wsX13_isIn) := goodIn_app (goodIn_of _ (by decide +kernel)) ggX13_setting_X13_isIn
set_option maxRecDepth 20000 in
theorem ggX13_setting_X13_goes : GoodIn wsX13_setting wsX13_goes := goodIn_r _ [10, 11, 12, 13, 5, 14, 15, 16, 17, 18, 19, 20, 21, 22, 23, 24, 25, 26, 27, 28, 29, 30, 31, 32, 33, 34, 35, 36, 37, 38, 39, 40, 41, 42, 43, 44, 45, 46, 47, 48, 49, 50, 51, 52, 53, 54, 55, 56, 57, 58, 59, 60, 61, 62] (by decide +kernel) (by decide +kernel)
set_option maxRecDepth 20000 in
theorem gX13_setting_X13_goes : GoodIn wsX13_setting (wsV RX13 103 RX13 yX13_goes wsX13_goes) := goodIn_app (goodIn_of _ (by decide +kernel)) ggX13_setting_X13_goes
theorem dX13_setting_0 : decode cX13_setting 0 = .ok (.aload_n 0, 1) := by decide +kernel
theorem dX13_setting_1 : decode cX13_setting 1 = .ok (.iload_n 1, 1) := by decide +kernel
theorem dX13_setting_2 : decode cX13_setting 2 = .ok (.i2l, 1) := by decide +kernel
theorem dX13_setting_3 : decode cX13_setting 3 = .ok (.lconst 0, 1) := by decide +kernel
theorem dX13_setting_4 : decode cX13_setting 4 = .ok (.ldc2_w 249, 3) := by decide +kernel
theorem dX13_setting_7 : decode cX13_setting 7 = .ok (.invokestatic 111, 3) := by decide +kernel
theorem dX13_setting_10 : decode cX13_setting 10 = .ok (.invokevirtual 103, 3) := by decide +kernel
theorem dX13_setting_13 : decode cX13_setting 13 = .ok (.ifCond .eq 12, 3) := by decide +kernel
theorem dX13_setting_16 : decode cX13_setting 16 = .ok (.aload_n 0, 1) := by decide +kernel
theorem dX13_setting_17 : decode cX13_setting 17 = .ok (.getfield 20, 3) := by decide +kernel
theorem dX13_setting_20 : decode cX13_setting 20 = .ok (.iload_n 1, 1) := by decide +kernel
theorem dX13_setting_21 : decode cX13_setting 21 = .ok (.iaload, 1) := by decide +kernel
theorem dX13_setting_22 : decode cX13_setting 22 = .ok (.goto 4, 3) := by decide +kernel
theorem dX13_setting_25 : decode cX13_setting 25 = .ok (.iconst 0, 1) := by decide +kernel
theorem dX13_setting_26 : decode cX13_setting 26 = .ok (.ireturn, 1) := by decide +kernel
set_option maxRecDepth 20000 in
theorem ggX13_tone_X13_isCell : GoodIn wsX13_tone wsX13_isCell := goodIn_r _ [6, 7, 8, 9, 5, 10, 19, 20, 21, 22, 23, 24, 25, 26, 27, 28, 29, 30, 31, 32, 33, 34, 35, 36, 37, 38, 39, 40, 41, 42, 43, 44, 45, 46, 47, 48, 49, 50, 51, 52, 53, 54, 55, 56, 57, 58, 59, 60, 61, 62, 63, 64, 65, 66] (by decide +kernel) (by decide +kernel)
set_option maxRecDepth 20000 in
theorem gX13_tone_X13_isCell : GoodIn wsX13_tone (wsV RX13 195 RX13 yX13_isCell wsX13_isCell) := goodIn_app (goodIn_of _ (by decide +kernel)) ggX13_tone_X13_isCell
set_option maxRecDepth 20000 in
theorem ggX13_tone_X13_goes : GoodIn wsX13_tone wsX13_goes := goodIn_r _ [14, 15, 16, 17, 5, 18, 19, 20, 21, 22, 23, 24, 25, 26, 27, 28, 29, 30, 31, 32, 33, 34, 35, 36, 37, 38, 39, 40, 41, 42, 43, 44, 45, 46, 47, 48, 49, 50, 51, 52, 53, 54, 55, 56, 57, 58, 59, 60, 61, 62, 63, 64, 65, 66] (by decide +kernel) (by decide +kernel)
set_option maxRecDepth 20000 in
theorem gX13_tone_X13_goes : GoodIn wsX13_tone (wsV RX13 103 RX13 yX13_goes wsX13_goes) := goodIn_app (goodIn_of _ (by decide +kernel)) ggX13_tone_X13_goes
theorem dX13_tone_0 : decode cX13_tone 0 = .ok (.aload_n 0, 1) := by decide +kernel
theorem dX13_tone_1 : decode cX13_tone 1 = .ok (.aload_n 0, 1) := by decide +kernel
theorem dX13_tone_2 : decode cX13_tone 2 = .ok (.iload_n 1, 1) := by decide +kernel
theorem dX13_tone_3 : decode cX13_tone 3 = .ok (.iload_n 2, 1) := by decide +kernel
theorem dX13_tone_4 : decode cX13_tone 4 = .ok (.invokevirtual 195, 3) := by decide +kernel
theorem dX13_tone_7 : decode cX13_tone 7 = .ok (.invokevirtual 103, 3) := by decide +kernel
theorem dX13_tone_10 : decode cX13_tone 10 = .ok (.ifCond .eq 17, 3) := by decide +kernel
theorem dX13_tone_13 : decode cX13_tone 13 = .ok (.aload_n 0, 1) := by decide +kernel
theorem dX13_tone_14 : decode cX13_tone 14 = .ok (.getfield 26, 3) := by decide +kernel
theorem dX13_tone_17 : decode cX13_tone 17 = .ok (.bipush 16, 2) := by decide +kernel
theorem dX13_tone_19 : decode cX13_tone 19 = .ok (.iload_n 2, 1) := by decide +kernel
theorem dX13_tone_20 : decode cX13_tone 20 = .ok (.imul, 1) := by decide +kernel
theorem dX13_tone_21 : decode cX13_tone 21 = .ok (.iload_n 1, 1) := by decide +kernel
theorem dX13_tone_22 : decode cX13_tone 22 = .ok (.iadd, 1) := by decide +kernel
theorem dX13_tone_23 : decode cX13_tone 23 = .ok (.iaload, 1) := by decide +kernel
theorem dX13_tone_24 : decode cX13_tone 24 = .ok (.goto 4, 3) := by decide +kernel
theorem dX13_tone_27 : decode cX13_tone 27 = .ok (.iconst 0, 1) := by decide +kernel
theorem dX13_tone_28 : decode cX13_tone 28 = .ok (.ireturn, 1) := by decide +kernel
set_option maxRecDepth 20000 in
theorem ggX13_height_X13_isCell : GoodIn wsX13_height wsX13_isCell := goodIn_r _ [6, 7, 8, 9, 5, 10, 19, 20, 21, 22, 23, 24, 25, 26, 27, 28, 29, 30, 31, 32, 33, 34, 35, 36, 37, 38, 39, 40, 41, 42, 43, 44, 45, 46, 47, 48, 49, 50, 51, 52, 53, 54, 55, 56, 57, 58, 59, 60, 61, 62, 63, 64, 65, 66] (by decide +kernel) (by decide +kernel)
set_option maxRecDepth 20000 in
theorem gX13_height_X13_isCell : GoodIn wsX13_height (wsV RX13 195 RX13 yX13_isCell wsX13_isCell) := goodIn_app (goodIn_of _ (by decide +kernel)) ggX13_height_X13_isCell
set_option maxRecDepth 20000 in
theorem ggX13_height_X13_goes : GoodIn wsX13_height wsX13_goes := goodIn_r _ [14, 15, 16, 17, 5, 18, 19, 20, 21, 22, 23, 24, 25, 26, 27, 28, 29, 30, 31, 32, 33, 34, 35, 36, 37, 38, 39, 40, 41, 42, 43, 44, 45, 46, 47, 48, 49, 50, 51, 52, 53, 54, 55, 56, 57, 58, 59, 60, 61, 62, 63, 64, 65, 66] (by decide +kernel) (by decide +kernel)
set_option maxRecDepth 20000 in
theorem gX13_height_X13_goes : GoodIn wsX13_height (wsV RX13 103 RX13 yX13_goes wsX13_goes) := goodIn_app (goodIn_of _ (by decide +kernel)) ggX13_height_X13_goes
theorem dX13_height_0 : decode cX13_height 0 = .ok (.aload_n 0, 1) := by decide +kernel
theorem dX13_height_1 : decode cX13_height 1 = .ok (.aload_n 0, 1) := by decide +kernel
theorem dX13_height_2 : decode cX13_height 2 = .ok (.iload_n 1, 1) := by decide +kernel
theorem dX13_height_3 : decode cX13_height 3 = .ok (.iload_n 2, 1) := by decide +kernel
theorem dX13_height_4 : decode cX13_height 4 = .ok (.invokevirtual 195, 3) := by decide +kernel
theorem dX13_height_7 : decode cX13_height 7 = .ok (.invokevirtual 103, 3) := by decide +kernel
theorem dX13_height_10 : decode cX13_height 10 = .ok (.ifCond .eq 17, 3) := by decide +kernel
theorem dX13_height_13 : decode cX13_height 13 = .ok (.aload_n 0, 1) := by decide +kernel
theorem dX13_height_14 : decode cX13_height 14 = .ok (.getfield 29, 3) := by decide +kernel
theorem dX13_height_17 : decode cX13_height 17 = .ok (.bipush 16, 2) := by decide +kernel
theorem dX13_height_19 : decode cX13_height 19 = .ok (.iload_n 2, 1) := by decide +kernel
theorem dX13_height_20 : decode cX13_height 20 = .ok (.imul, 1) := by decide +kernel
theorem dX13_height_21 : decode cX13_height 21 = .ok (.iload_n 1, 1) := by decide +kernel
theorem dX13_height_22 : decode cX13_height 22 = .ok (.iadd, 1) := by decide +kernel
theorem dX13_height_23 : decode cX13_height 23 = .ok (.iaload, 1) := by decide +kernel
theorem dX13_height_24 : decode cX13_height 24 = .ok (.goto 4, 3) := by decide +kernel
theorem dX13_height_27 : decode cX13_height 27 = .ok (.iconst 0, 1) := by decide +kernel
theorem dX13_height_28 : decode cX13_height 28 = .ok (.ireturn, 1) := by decide +kernel
set_option maxRecDepth 20000 in
theorem ggX13_volumeNow_X13_cellMany : GoodIn wsX13_volumeNow wsX13_cellMany := goodIn_r _ [6, 7, 12, 13, 14, 15, 16, 17, 18, 19, 20, 21, 22, 23, 24, 25, 26, 27, 28, 29, 30, 31, 32, 33, 34, 35, 36, 37, 38, 39, 40, 41, 42, 43, 44, 45, 46, 47, 48, 49, 50, 51, 52, 53, 54, 55, 56, 57, 58, 59] (by decide +kernel) (by decide +kernel)
set_option maxRecDepth 20000 in
theorem gX13_volumeNow_X13_cellMany : GoodIn wsX13_volumeNow (wsV RX13 251 RX13 yX13_cellMany wsX13_cellMany) := goodIn_app (goodIn_of _ (by decide +kernel)) ggX13_volumeNow_X13_cellMany
set_option maxRecDepth 20000 in
theorem ggX13_volumeNow_X13_cellAt : GoodIn wsX13_volumeNow wsX13_cellAt := goodIn_r _ [11, 7, 12, 13, 14, 15, 16, 17, 18, 19, 20, 21, 22, 23, 24, 25, 26, 27, 28, 29, 30, 31, 32, 33, 34, 35, 36, 37, 38, 39, 40, 41, 42, 43, 44, 45, 46, 47, 48, 49, 50, 51, 52, 53, 54, 55, 56, 57, 58, 59] (by decide +kernel) (by decide +kernel)
set_option maxRecDepth 20000 in
theorem gX13_volumeNow_X13_cellAt : GoodIn wsX13_volumeNow (wsV RX13 255 RX13 yX13_cellAt wsX13_cellAt) := goodIn_app (goodIn_of _ (by decide +kernel)) ggX13_volumeNow_X13_cellAt
theorem dX13_volumeNow_0 : decode cX13_volumeNow 0 = .ok (.iconst 0, 1) := by decide +kernel
theorem dX13_volumeNow_1 : decode cX13_volumeNow 1 = .ok (.istore_n 1, 1) := by decide +kernel
theorem dX13_volumeNow_2 : decode cX13_volumeNow 2 = .ok (.iconst 0, 1) := by decide +kernel
theorem dX13_volumeNow_3 : decode cX13_volumeNow 3 = .ok (.istore_n 2, 1) := by decide +kernel
theorem dX13_volumeNow_4 : decode cX13_volumeNow 4 = .ok (.iload_n 2, 1) := by decide +kernel
theorem dX13_volumeNow_5 : decode cX13_volumeNow 5 = .ok (.aload_n 0, 1) := by decide +kernel
theorem dX13_volumeNow_6 : decode cX13_volumeNow 6 = .ok (.invokevirtual 251, 3) := by decide +kernel
theorem dX13_volumeNow_9 : decode cX13_volumeNow 9 = .ok (.if_icmp .ge 22, 3) := by decide +kernel
theorem dX13_volumeNow_12 : decode cX13_volumeNow 12 = .ok (.iload_n 1, 1) := by decide +kernel
theorem dX13_volumeNow_13 : decode cX13_volumeNow 13 = .ok (.aload_n 0, 1) := by decide +kernel
theorem dX13_volumeNow_14 : decode cX13_volumeNow 14 = .ok (.getfield 29, 3) := by decide +kernel
theorem dX13_volumeNow_17 : decode cX13_volumeNow 17 = .ok (.aload_n 0, 1) := by decide +kernel
theorem dX13_volumeNow_18 : decode cX13_volumeNow 18 = .ok (.iload_n 2, 1) := by decide +kernel
theorem dX13_volumeNow_19 : decode cX13_volumeNow 19 = .ok (.invokevirtual 255, 3) := by decide +kernel
theorem dX13_volumeNow_22 : decode cX13_volumeNow 22 = .ok (.iaload, 1) := by decide +kernel
theorem dX13_volumeNow_23 : decode cX13_volumeNow 23 = .ok (.iadd, 1) := by decide +kernel
theorem dX13_volumeNow_24 : decode cX13_volumeNow 24 = .ok (.istore_n 1, 1) := by decide +kernel
theorem dX13_volumeNow_25 : decode cX13_volumeNow 25 = .ok (.iinc 2 1, 3) := by decide +kernel
theorem dX13_volumeNow_28 : decode cX13_volumeNow 28 = .ok (.goto (-24), 3) := by decide +kernel
theorem dX13_volumeNow_31 : decode cX13_volumeNow 31 = .ok (.iload_n 1, 1) := by decide +kernel
theorem dX13_volumeNow_32 : decode cX13_volumeNow 32 = .ok (.ireturn, 1) := by decide +kernel
set_option maxRecDepth 20000 in
theorem ggX13_volume_X13_volumeNow : GoodIn wsX13_volume wsX13_volumeNow := goodIn_r _ [6, 7, 8, 9, 10, 5, 11, 12, 13, 14, 15, 16, 17, 18, 19, 20, 21, 22, 23, 24, 25, 26, 27, 28, 29, 30, 31, 32, 33, 34, 35, 36, 37, 38, 39, 40, 41, 42, 43, 44, 45, 46, 47, 48, 49, 50, 51, 52, 53, 54, 55, 56, 57, 58, 59, 60, 61, 62, 63, 64] (by decide +kernel) (by decide +kernel)
set_option maxRecDepth 20000 in
theorem gX13_volume_X13_volumeNow : GoodIn wsX13_volume (wsV RX13 258 RX13 yX13_volumeNow wsX13_volumeNow) := goodIn_app (goodIn_of _ (by decide +kernel)) ggX13_volume_X13_volumeNow
theorem dX13_volume_0 : decode cX13_volume 0 = .ok (.aload_n 0, 1) := by decide +kernel
theorem dX13_volume_1 : decode cX13_volume 1 = .ok (.iconst 0, 1) := by decide +kernel
theorem dX13_volume_2 : decode cX13_volume 2 = .ok (.putfield 93, 3) := by decide +kernel
theorem dX13_volume_5 : decode cX13_volume 5 = .ok (.aload_n 0, 1) := by decide +kernel
theorem dX13_volume_6 : decode cX13_volume 6 = .ok (.invokevirtual 258, 3) := by decide +kernel
theorem dX13_volume_9 : decode cX13_volume 9 = .ok (.ireturn, 1) := by decide +kernel
set_option maxRecDepth 20000 in
theorem ggX13_cellsOf_X13_isIn : GoodIn wsX13_cellsOf wsX13_isIn := goodIn_r _ [6] (by decide +kernel) (by decide +kernel)
set_option maxRecDepth 20000 in
theorem gX13_cellsOf_X13_isIn : GoodIn wsX13_cellsOf (va_wsS RX13 111 yX13_isIn wsX13_isIn) := goodIn_app (goodIn_of _ (by decide +kernel)) ggX13_cellsOf_X13_isIn
set_option maxRecDepth 20000 in
theorem ggX13_cellsOf_X13_goes : GoodIn wsX13_cellsOf wsX13_goes := goodIn_r _ [10, 11, 12, 13, 5, 14, 23, 24, 25, 26, 27, 28, 29, 30, 31, 32, 33, 34, 35, 36, 37, 38, 39, 40, 41, 42, 43, 44, 45, 46, 47, 48, 49, 50, 51, 52, 53, 54, 55, 56, 57, 58, 59, 60, 61, 62, 63, 64, 65, 66, 67, 68, 69, 70] (by decide +kernel) (by decide +kernel)
set_option maxRecDepth 20000 in
theorem gX13_cellsOf_X13_goes : GoodIn wsX13_cellsOf (wsV RX13 103 RX13 yX13_goes wsX13_goes) := goodIn_app (goodIn_of _ (by decide +kernel)) ggX13_cellsOf_X13_goes
set_option maxRecDepth 20000 in
theorem ggX13_cellsOf_X13_cellMany : GoodIn wsX13_cellsOf wsX13_cellMany := goodIn_r _ [18, 1, 23, 24, 25, 26, 27, 28, 29, 30, 31, 32, 33, 34, 35, 36, 37, 38, 39, 40, 41, 42, 43, 44, 45, 46, 47, 48, 49, 50, 51, 52, 53, 54, 55, 56, 57, 58, 59, 60, 61, 62, 63, 64, 65, 66, 67, 68, 69, 70] (by decide +kernel) (by decide +kernel)
set_option maxRecDepth 20000 in
theorem gX13_cellsOf_X13_cellMany : GoodIn wsX13_cellsOf (wsV RX13 251 RX13 yX13_cellMany wsX13_cellMany) := goodIn_app (goodIn_of _ (by decide +kernel)) ggX13_cellsOf_X13_cellMany
set_option maxRecDepth 20000 in
theorem ggX13_cellsOf_X13_cellAt : GoodIn wsX13_cellsOf wsX13_cellAt := goodIn_r _ [22, 1, 23, 24, 25, 26, 27, 28, 29, 30, 31, 32, 33, 34, 35, 36, 37, 38, 39, 40, 41, 42, 43, 44, 45, 46, 47, 48, 49, 50, 51, 52, 53, 54, 55, 56, 57, 58, 59, 60, 61, 62, 63, 64, 65, 66, 67, 68, 69, 70] (by decide +kernel) (by decide +kernel)
set_option maxRecDepth 20000 in
theorem gX13_cellsOf_X13_cellAt : GoodIn wsX13_cellsOf (wsV RX13 255 RX13 yX13_cellAt wsX13_cellAt) := goodIn_app (goodIn_of _ (by decide +kernel)) ggX13_cellsOf_X13_cellAt
set_option maxRecDepth 20000 in
theorem ggX13_cellsOf_X13_truth : GoodIn wsX13_cellsOf wsX13_truth := goodIn_r _ [14] (by decide +kernel) (by decide +kernel)
set_option maxRecDepth 20000 in
theorem gX13_cellsOf_X13_truth : GoodIn wsX13_cellsOf (va_wsS RX13 96 yX13_truth wsX13_truth) := goodIn_app (goodIn_of _ (by decide +kernel)) ggX13_cellsOf_X13_truth
theorem dX13_cellsOf_0 : decode cX13_cellsOf 0 = .ok (.aload_n 0, 1) := by decide +kernel
theorem dX13_cellsOf_1 : decode cX13_cellsOf 1 = .ok (.iload_n 1, 1) := by decide +kernel
theorem dX13_cellsOf_2 : decode cX13_cellsOf 2 = .ok (.i2l, 1) := by decide +kernel
theorem dX13_cellsOf_3 : decode cX13_cellsOf 3 = .ok (.lconst 0, 1) := by decide +kernel
theorem dX13_cellsOf_4 : decode cX13_cellsOf 4 = .ok (.aload_n 0, 1) := by decide +kernel
theorem dX13_cellsOf_5 : decode cX13_cellsOf 5 = .ok (.getfield 20, 3) := by decide +kernel
theorem dX13_cellsOf_8 : decode cX13_cellsOf 8 = .ok (.iconst 2, 1) := by decide +kernel
theorem dX13_cellsOf_9 : decode cX13_cellsOf 9 = .ok (.iaload, 1) := by decide +kernel
theorem dX13_cellsOf_10 : decode cX13_cellsOf 10 = .ok (.i2l, 1) := by decide +kernel
theorem dX13_cellsOf_11 : decode cX13_cellsOf 11 = .ok (.invokestatic 111, 3) := by decide +kernel
theorem dX13_cellsOf_14 : decode cX13_cellsOf 14 = .ok (.invokevirtual 103, 3) := by decide +kernel
theorem dX13_cellsOf_17 : decode cX13_cellsOf 17 = .ok (.ifCond .ne 5, 3) := by decide +kernel
theorem dX13_cellsOf_20 : decode cX13_cellsOf 20 = .ok (.iconst 0, 1) := by decide +kernel
theorem dX13_cellsOf_21 : decode cX13_cellsOf 21 = .ok (.ireturn, 1) := by decide +kernel
theorem dX13_cellsOf_22 : decode cX13_cellsOf 22 = .ok (.iconst 0, 1) := by decide +kernel
theorem dX13_cellsOf_23 : decode cX13_cellsOf 23 = .ok (.istore_n 2, 1) := by decide +kernel
theorem dX13_cellsOf_24 : decode cX13_cellsOf 24 = .ok (.iconst 0, 1) := by decide +kernel
theorem dX13_cellsOf_25 : decode cX13_cellsOf 25 = .ok (.istore_n 3, 1) := by decide +kernel
theorem dX13_cellsOf_26 : decode cX13_cellsOf 26 = .ok (.iload_n 3, 1) := by decide +kernel
theorem dX13_cellsOf_27 : decode cX13_cellsOf 27 = .ok (.aload_n 0, 1) := by decide +kernel
theorem dX13_cellsOf_28 : decode cX13_cellsOf 28 = .ok (.invokevirtual 251, 3) := by decide +kernel
theorem dX13_cellsOf_31 : decode cX13_cellsOf 31 = .ok (.if_icmp .ge 34, 3) := by decide +kernel
theorem dX13_cellsOf_34 : decode cX13_cellsOf 34 = .ok (.iload_n 2, 1) := by decide +kernel
theorem dX13_cellsOf_35 : decode cX13_cellsOf 35 = .ok (.aload_n 0, 1) := by decide +kernel
theorem dX13_cellsOf_36 : decode cX13_cellsOf 36 = .ok (.getfield 29, 3) := by decide +kernel
theorem dX13_cellsOf_39 : decode cX13_cellsOf 39 = .ok (.aload_n 0, 1) := by decide +kernel
theorem dX13_cellsOf_40 : decode cX13_cellsOf 40 = .ok (.iload_n 3, 1) := by decide +kernel
theorem dX13_cellsOf_41 : decode cX13_cellsOf 41 = .ok (.invokevirtual 255, 3) := by decide +kernel
theorem dX13_cellsOf_44 : decode cX13_cellsOf 44 = .ok (.iaload, 1) := by decide +kernel
theorem dX13_cellsOf_45 : decode cX13_cellsOf 45 = .ok (.iload_n 1, 1) := by decide +kernel
theorem dX13_cellsOf_46 : decode cX13_cellsOf 46 = .ok (.if_icmp .ne 7, 3) := by decide +kernel
theorem dX13_cellsOf_49 : decode cX13_cellsOf 49 = .ok (.iconst 1, 1) := by decide +kernel
theorem dX13_cellsOf_50 : decode cX13_cellsOf 50 = .ok (.goto 4, 3) := by decide +kernel
theorem dX13_cellsOf_53 : decode cX13_cellsOf 53 = .ok (.iconst 0, 1) := by decide +kernel
theorem dX13_cellsOf_54 : decode cX13_cellsOf 54 = .ok (.invokestatic 96, 3) := by decide +kernel
theorem dX13_cellsOf_57 : decode cX13_cellsOf 57 = .ok (.iadd, 1) := by decide +kernel
theorem dX13_cellsOf_58 : decode cX13_cellsOf 58 = .ok (.istore_n 2, 1) := by decide +kernel
theorem dX13_cellsOf_59 : decode cX13_cellsOf 59 = .ok (.iinc 3 1, 3) := by decide +kernel
theorem dX13_cellsOf_62 : decode cX13_cellsOf 62 = .ok (.goto (-36), 3) := by decide +kernel
theorem dX13_cellsOf_65 : decode cX13_cellsOf 65 = .ok (.iload_n 2, 1) := by decide +kernel
theorem dX13_cellsOf_66 : decode cX13_cellsOf 66 = .ok (.ireturn, 1) := by decide +kernel
theorem dX13_far_0 : decode cX13_far 0 = .ok (.iload_n 0, 1) := by decide +kernel
theorem dX13_far_1 : decode cX13_far 1 = .ok (.ifCond .ge 8, 3) := by decide +kernel
theorem dX13_far_4 : decode cX13_far 4 = .ok (.iload_n 0, 1) := by decide +kernel
theorem dX13_far_5 : decode cX13_far 5 = .ok (.ineg, 1) := by decide +kernel
theorem dX13_far_6 : decode cX13_far 6 = .ok (.goto 4, 3) := by decide +kernel
theorem dX13_far_9 : decode cX13_far 9 = .ok (.iload_n 0, 1) := by decide +kernel
theorem dX13_far_10 : decode cX13_far 10 = .ok (.ireturn, 1) := by decide +kernel
set_option maxRecDepth 20000 in
theorem ggX13_steepest_X13_far : GoodIn wsX13_steepest wsX13_far := goodIn_r _ [7] (by decide +kernel) (by decide +kernel)
set_option maxRecDepth 20000 in
theorem gX13_steepest_X13_far : GoodIn wsX13_steepest (va_wsS RX13 261 yX13_far wsX13_far) := goodIn_app (goodIn_of _ (by decide +kernel)) ggX13_steepest_X13_far
set_option maxRecDepth 20000 in
theorem ggX13_steepest_X13_more : GoodIn wsX13_steepest wsX13_more := goodIn_r _ [10] (by decide +kernel) (by decide +kernel)
set_option maxRecDepth 20000 in
theorem gX13_steepest_X13_more : GoodIn wsX13_steepest (va_wsS RX13 264 yX13_more wsX13_more) := goodIn_app (goodIn_of _ (by decide +kernel)) ggX13_steepest_X13_more
theorem dX13_steepest_0 : decode cX13_steepest 0 = .ok (.aload_n 0, 1) := by decide +kernel
theorem dX13_steepest_1 : decode cX13_steepest 1 = .ok (.iconst 0, 1) := by decide +kernel
theorem dX13_steepest_2 : decode cX13_steepest 2 = .ok (.putfield 93, 3) := by decide +kernel
theorem dX13_steepest_5 : decode cX13_steepest 5 = .ok (.iconst 0, 1) := by decide +kernel
theorem dX13_steepest_6 : decode cX13_steepest 6 = .ok (.istore_n 1, 1) := by decide +kernel
theorem dX13_steepest_7 : decode cX13_steepest 7 = .ok (.iconst 0, 1) := by decide +kernel
theorem dX13_steepest_8 : decode cX13_steepest 8 = .ok (.istore_n 2, 1) := by decide +kernel
theorem dX13_steepest_9 : decode cX13_steepest 9 = .ok (.iload_n 2, 1) := by decide +kernel
theorem dX13_steepest_10 : decode cX13_steepest 10 = .ok (.aload_n 0, 1) := by decide +kernel
theorem dX13_steepest_11 : decode cX13_steepest 11 = .ok (.getfield 20, 3) := by decide +kernel
theorem dX13_steepest_14 : decode cX13_steepest 14 = .ok (.iconst 1, 1) := by decide +kernel
theorem dX13_steepest_15 : decode cX13_steepest 15 = .ok (.iaload, 1) := by decide +kernel
theorem dX13_steepest_16 : decode cX13_steepest 16 = .ok (.if_icmp .ge 97, 3) := by decide +kernel
theorem dX13_steepest_19 : decode cX13_steepest 19 = .ok (.iconst 0, 1) := by decide +kernel
theorem dX13_steepest_20 : decode cX13_steepest 20 = .ok (.istore_n 3, 1) := by decide +kernel
theorem dX13_steepest_21 : decode cX13_steepest 21 = .ok (.iload_n 3, 1) := by decide +kernel
theorem dX13_steepest_22 : decode cX13_steepest 22 = .ok (.aload_n 0, 1) := by decide +kernel
theorem dX13_steepest_23 : decode cX13_steepest 23 = .ok (.getfield 20, 3) := by decide +kernel
theorem dX13_steepest_26 : decode cX13_steepest 26 = .ok (.iconst 0, 1) := by decide +kernel
theorem dX13_steepest_27 : decode cX13_steepest 27 = .ok (.iaload, 1) := by decide +kernel
theorem dX13_steepest_28 : decode cX13_steepest 28 = .ok (.if_icmp .ge 79, 3) := by decide +kernel
theorem dX13_steepest_31 : decode cX13_steepest 31 = .ok (.aload_n 0, 1) := by decide +kernel
theorem dX13_steepest_32 : decode cX13_steepest 32 = .ok (.getfield 29, 3) := by decide +kernel
theorem dX13_steepest_35 : decode cX13_steepest 35 = .ok (.bipush 16, 2) := by decide +kernel
theorem dX13_steepest_37 : decode cX13_steepest 37 = .ok (.iload_n 2, 1) := by decide +kernel
theorem dX13_steepest_38 : decode cX13_steepest 38 = .ok (.imul, 1) := by decide +kernel
theorem dX13_steepest_39 : decode cX13_steepest 39 = .ok (.iload_n 3, 1) := by decide +kernel
theorem dX13_steepest_40 : decode cX13_steepest 40 = .ok (.iadd, 1) := by decide +kernel
theorem dX13_steepest_41 : decode cX13_steepest 41 = .ok (.iaload, 1) := by decide +kernel
theorem dX13_steepest_42 : decode cX13_steepest 42 = .ok (.istore 4, 2) := by decide +kernel
theorem dX13_steepest_44 : decode cX13_steepest 44 = .ok (.iload_n 3, 1) := by decide +kernel
theorem dX13_steepest_45 : decode cX13_steepest 45 = .ok (.ifCond .le 27, 3) := by decide +kernel
theorem dX13_steepest_48 : decode cX13_steepest 48 = .ok (.iload_n 1, 1) := by decide +kernel
theorem dX13_steepest_49 : decode cX13_steepest 49 = .ok (.iload 4, 2) := by decide +kernel
theorem dX13_steepest_51 : decode cX13_steepest 51 = .ok (.aload_n 0, 1) := by decide +kernel
theorem dX13_steepest_52 : decode cX13_steepest 52 = .ok (.getfield 29, 3) := by decide +kernel
theorem dX13_steepest_55 : decode cX13_steepest 55 = .ok (.bipush 16, 2) := by decide +kernel
theorem dX13_steepest_57 : decode cX13_steepest 57 = .ok (.iload_n 2, 1) := by decide +kernel
theorem dX13_steepest_58 : decode cX13_steepest 58 = .ok (.imul, 1) := by decide +kernel
theorem dX13_steepest_59 : decode cX13_steepest 59 = .ok (.iload_n 3, 1) := by decide +kernel
theorem dX13_steepest_60 : decode cX13_steepest 60 = .ok (.iadd, 1) := by decide +kernel
theorem dX13_steepest_61 : decode cX13_steepest 61 = .ok (.iconst 1, 1) := by decide +kernel
theorem dX13_steepest_62 : decode cX13_steepest 62 = .ok (.isub, 1) := by decide +kernel
theorem dX13_steepest_63 : decode cX13_steepest 63 = .ok (.iaload, 1) := by decide +kernel
theorem dX13_steepest_64 : decode cX13_steepest 64 = .ok (.isub, 1) := by decide +kernel
theorem dX13_steepest_65 : decode cX13_steepest 65 = .ok (.invokestatic 261, 3) := by decide +kernel
theorem dX13_steepest_68 : decode cX13_steepest 68 = .ok (.invokestatic 264, 3) := by decide +kernel
theorem dX13_steepest_71 : decode cX13_steepest 71 = .ok (.istore_n 1, 1) := by decide +kernel
theorem dX13_steepest_72 : decode cX13_steepest 72 = .ok (.iload_n 2, 1) := by decide +kernel
theorem dX13_steepest_73 : decode cX13_steepest 73 = .ok (.ifCond .le 28, 3) := by decide +kernel
theorem dX13_steepest_76 : decode cX13_steepest 76 = .ok (.iload_n 1, 1) := by decide +kernel
theorem dX13_steepest_77 : decode cX13_steepest 77 = .ok (.iload 4, 2) := by decide +kernel
theorem dX13_steepest_79 : decode cX13_steepest 79 = .ok (.aload_n 0, 1) := by decide +kernel
theorem dX13_steepest_80 : decode cX13_steepest 80 = .ok (.getfield 29, 3) := by decide +kernel
theorem dX13_steepest_83 : decode cX13_steepest 83 = .ok (.bipush 16, 2) := by decide +kernel
theorem dX13_steepest_85 : decode cX13_steepest 85 = .ok (.iload_n 2, 1) := by decide +kernel
theorem dX13_steepest_86 : decode cX13_steepest 86 = .ok (.imul, 1) := by decide +kernel
theorem dX13_steepest_87 : decode cX13_steepest 87 = .ok (.bipush 16, 2) := by decide +kernel
theorem dX13_steepest_89 : decode cX13_steepest 89 = .ok (.isub, 1) := by decide +kernel
theorem dX13_steepest_90 : decode cX13_steepest 90 = .ok (.iload_n 3, 1) := by decide +kernel
theorem dX13_steepest_91 : decode cX13_steepest 91 = .ok (.iadd, 1) := by decide +kernel
theorem dX13_steepest_92 : decode cX13_steepest 92 = .ok (.iaload, 1) := by decide +kernel
theorem dX13_steepest_93 : decode cX13_steepest 93 = .ok (.isub, 1) := by decide +kernel
theorem dX13_steepest_94 : decode cX13_steepest 94 = .ok (.invokestatic 261, 3) := by decide +kernel
theorem dX13_steepest_97 : decode cX13_steepest 97 = .ok (.invokestatic 264, 3) := by decide +kernel
theorem dX13_steepest_100 : decode cX13_steepest 100 = .ok (.istore_n 1, 1) := by decide +kernel
theorem dX13_steepest_101 : decode cX13_steepest 101 = .ok (.iinc 3 1, 3) := by decide +kernel
theorem dX13_steepest_104 : decode cX13_steepest 104 = .ok (.goto (-83), 3) := by decide +kernel
theorem dX13_steepest_107 : decode cX13_steepest 107 = .ok (.iinc 2 1, 3) := by decide +kernel
theorem dX13_steepest_110 : decode cX13_steepest 110 = .ok (.goto (-101), 3) := by decide +kernel
theorem dX13_steepest_113 : decode cX13_steepest 113 = .ok (.iload_n 1, 1) := by decide +kernel
theorem dX13_steepest_114 : decode cX13_steepest 114 = .ok (.ireturn, 1) := by decide +kernel
theorem dX13_lightOf_0 : decode cX13_lightOf 0 = .ok (.aload_n 0, 1) := by decide +kernel
theorem dX13_lightOf_1 : decode cX13_lightOf 1 = .ok (.getfield 20, 3) := by decide +kernel
theorem dX13_lightOf_4 : decode cX13_lightOf 4 = .ok (.iconst 3, 1) := by decide +kernel
theorem dX13_lightOf_5 : decode cX13_lightOf 5 = .ok (.iaload, 1) := by decide +kernel
theorem dX13_lightOf_6 : decode cX13_lightOf 6 = .ok (.i2f, 1) := by decide +kernel
theorem dX13_lightOf_7 : decode cX13_lightOf 7 = .ok (.ldc_w 267, 3) := by decide +kernel
theorem dX13_lightOf_10 : decode cX13_lightOf 10 = .ok (.fdiv, 1) := by decide +kernel
theorem dX13_lightOf_11 : decode cX13_lightOf 11 = .ok (.fstore_n 2, 1) := by decide +kernel
theorem dX13_lightOf_12 : decode cX13_lightOf 12 = .ok (.fconst 1, 1) := by decide +kernel
theorem dX13_lightOf_13 : decode cX13_lightOf 13 = .ok (.fstore_n 3, 1) := by decide +kernel
theorem dX13_lightOf_14 : decode cX13_lightOf 14 = .ok (.iconst 0, 1) := by decide +kernel
theorem dX13_lightOf_15 : decode cX13_lightOf 15 = .ok (.istore 4, 2) := by decide +kernel
theorem dX13_lightOf_17 : decode cX13_lightOf 17 = .ok (.iload 4, 2) := by decide +kernel
theorem dX13_lightOf_19 : decode cX13_lightOf 19 = .ok (.iload_n 1, 1) := by decide +kernel
theorem dX13_lightOf_20 : decode cX13_lightOf 20 = .ok (.if_icmp .ge 13, 3) := by decide +kernel
theorem dX13_lightOf_23 : decode cX13_lightOf 23 = .ok (.fload_n 3, 1) := by decide +kernel
theorem dX13_lightOf_24 : decode cX13_lightOf 24 = .ok (.fload_n 2, 1) := by decide +kernel
theorem dX13_lightOf_25 : decode cX13_lightOf 25 = .ok (.fmul, 1) := by decide +kernel
theorem dX13_lightOf_26 : decode cX13_lightOf 26 = .ok (.fstore_n 3, 1) := by decide +kernel
theorem dX13_lightOf_27 : decode cX13_lightOf 27 = .ok (.iinc 4 1, 3) := by decide +kernel
theorem dX13_lightOf_30 : decode cX13_lightOf 30 = .ok (.goto (-13), 3) := by decide +kernel
theorem dX13_lightOf_33 : decode cX13_lightOf 33 = .ok (.fload_n 3, 1) := by decide +kernel
theorem dX13_lightOf_34 : decode cX13_lightOf 34 = .ok (.freturn, 1) := by decide +kernel
theorem dX13_wantedBy_0 : decode cX13_wantedBy 0 = .ok (.iload_n 0, 1) := by decide +kernel
theorem dX13_wantedBy_1 : decode cX13_wantedBy 1 = .ok (.i2f, 1) := by decide +kernel
theorem dX13_wantedBy_2 : decode cX13_wantedBy 2 = .ok (.ldc_w 268, 3) := by decide +kernel
theorem dX13_wantedBy_5 : decode cX13_wantedBy 5 = .ok (.fdiv, 1) := by decide +kernel
theorem dX13_wantedBy_6 : decode cX13_wantedBy 6 = .ok (.freturn, 1) := by decide +kernel
theorem dX13_apart_0 : decode cX13_apart 0 = .ok (.fload_n 0, 1) := by decide +kernel
theorem dX13_apart_1 : decode cX13_apart 1 = .ok (.fconst 0, 1) := by decide +kernel
theorem dX13_apart_2 : decode cX13_apart 2 = .ok (.fcmp .g, 1) := by decide +kernel
theorem dX13_apart_3 : decode cX13_apart 3 = .ok (.ifCond .ge 9, 3) := by decide +kernel
theorem dX13_apart_6 : decode cX13_apart 6 = .ok (.fconst 0, 1) := by decide +kernel
theorem dX13_apart_7 : decode cX13_apart 7 = .ok (.fload_n 0, 1) := by decide +kernel
theorem dX13_apart_8 : decode cX13_apart 8 = .ok (.fsub, 1) := by decide +kernel
theorem dX13_apart_9 : decode cX13_apart 9 = .ok (.goto 4, 3) := by decide +kernel
theorem dX13_apart_12 : decode cX13_apart 12 = .ok (.fload_n 0, 1) := by decide +kernel
theorem dX13_apart_13 : decode cX13_apart 13 = .ok (.freturn, 1) := by decide +kernel
set_option maxRecDepth 20000 in
theorem ggX13_heightBy_X13_lightOf : GoodIn wsX13_heightBy wsX13_lightOf := goodIn_r _ [6, 1, 7, 11, 12, 13, 14, 15, 16, 17, 18, 19, 20, 21, 22, 23, 24, 25, 26, 27, 28, 29, 30, 31, 32, 33, 34, 35, 36, 37, 38, 39, 40, 41, 42, 43, 44, 45, 46, 47, 48, 49, 50, 51, 52, 53, 54, 55, 56, 57, 58] (by decide +kernel) (by decide +kernel)
set_option maxRecDepth 20000 in
theorem gX13_heightBy_X13_lightOf : GoodIn wsX13_heightBy (wsV RX13 269 RX13 yX13_lightOf wsX13_lightOf) := goodIn_app (goodIn_of _ (by decide +kernel)) ggX13_heightBy_X13_lightOf
set_option maxRecDepth 20000 in
theorem ggX13_heightBy_X13_apart : GoodIn wsX13_heightBy wsX13_apart := goodIn_r _ [10] (by decide +kernel) (by decide +kernel)
set_option maxRecDepth 20000 in
theorem gX13_heightBy_X13_apart : GoodIn wsX13_heightBy (va_wsS RX13 272 yX13_apart wsX13_apart) := goodIn_app (goodIn_of _ (by decide +kernel)) ggX13_heightBy_X13_apart
theorem dX13_heightBy_0 : decode cX13_heightBy 0 = .ok (.aload_n 0, 1) := by decide +kernel
theorem dX13_heightBy_1 : decode cX13_heightBy 1 = .ok (.getfield 20, 3) := by decide +kernel
theorem dX13_heightBy_4 : decode cX13_heightBy 4 = .ok (.iconst 4, 1) := by decide +kernel
theorem dX13_heightBy_5 : decode cX13_heightBy 5 = .ok (.iaload, 1) := by decide +kernel
theorem dX13_heightBy_6 : decode cX13_heightBy 6 = .ok (.istore_n 2, 1) := by decide +kernel
theorem dX13_heightBy_7 : decode cX13_heightBy 7 = .ok (.aload_n 0, 1) := by decide +kernel
theorem dX13_heightBy_8 : decode cX13_heightBy 8 = .ok (.iload_n 2, 1) := by decide +kernel
theorem dX13_heightBy_9 : decode cX13_heightBy 9 = .ok (.invokevirtual 269, 3) := by decide +kernel
theorem dX13_heightBy_12 : decode cX13_heightBy 12 = .ok (.fload_n 1, 1) := by decide +kernel
theorem dX13_heightBy_13 : decode cX13_heightBy 13 = .ok (.fsub, 1) := by decide +kernel
theorem dX13_heightBy_14 : decode cX13_heightBy 14 = .ok (.invokestatic 272, 3) := by decide +kernel
theorem dX13_heightBy_17 : decode cX13_heightBy 17 = .ok (.fstore_n 3, 1) := by decide +kernel
theorem dX13_heightBy_18 : decode cX13_heightBy 18 = .ok (.aload_n 0, 1) := by decide +kernel
theorem dX13_heightBy_19 : decode cX13_heightBy 19 = .ok (.getfield 20, 3) := by decide +kernel
theorem dX13_heightBy_22 : decode cX13_heightBy 22 = .ok (.iconst 4, 1) := by decide +kernel
theorem dX13_heightBy_23 : decode cX13_heightBy 23 = .ok (.iaload, 1) := by decide +kernel
theorem dX13_heightBy_24 : decode cX13_heightBy 24 = .ok (.iconst 1, 1) := by decide +kernel
theorem dX13_heightBy_25 : decode cX13_heightBy 25 = .ok (.iadd, 1) := by decide +kernel
theorem dX13_heightBy_26 : decode cX13_heightBy 26 = .ok (.istore 4, 2) := by decide +kernel
theorem dX13_heightBy_28 : decode cX13_heightBy 28 = .ok (.iload 4, 2) := by decide +kernel
theorem dX13_heightBy_30 : decode cX13_heightBy 30 = .ok (.aload_n 0, 1) := by decide +kernel
theorem dX13_heightBy_31 : decode cX13_heightBy 31 = .ok (.getfield 20, 3) := by decide +kernel
theorem dX13_heightBy_34 : decode cX13_heightBy 34 = .ok (.iconst 2, 1) := by decide +kernel
theorem dX13_heightBy_35 : decode cX13_heightBy 35 = .ok (.iaload, 1) := by decide +kernel
theorem dX13_heightBy_36 : decode cX13_heightBy 36 = .ok (.if_icmp .gt 38, 3) := by decide +kernel
theorem dX13_heightBy_39 : decode cX13_heightBy 39 = .ok (.aload_n 0, 1) := by decide +kernel
theorem dX13_heightBy_40 : decode cX13_heightBy 40 = .ok (.iload 4, 2) := by decide +kernel
theorem dX13_heightBy_42 : decode cX13_heightBy 42 = .ok (.invokevirtual 269, 3) := by decide +kernel
theorem dX13_heightBy_45 : decode cX13_heightBy 45 = .ok (.fload_n 1, 1) := by decide +kernel
theorem dX13_heightBy_46 : decode cX13_heightBy 46 = .ok (.fsub, 1) := by decide +kernel
theorem dX13_heightBy_47 : decode cX13_heightBy 47 = .ok (.invokestatic 272, 3) := by decide +kernel
theorem dX13_heightBy_50 : decode cX13_heightBy 50 = .ok (.fstore 5, 2) := by decide +kernel
theorem dX13_heightBy_52 : decode cX13_heightBy 52 = .ok (.fload 5, 2) := by decide +kernel
theorem dX13_heightBy_54 : decode cX13_heightBy 54 = .ok (.fload_n 3, 1) := by decide +kernel
theorem dX13_heightBy_55 : decode cX13_heightBy 55 = .ok (.fcmp .l, 1) := by decide +kernel
theorem dX13_heightBy_56 : decode cX13_heightBy 56 = .ok (.ifCond .lt 6, 3) := by decide +kernel
theorem dX13_heightBy_59 : decode cX13_heightBy 59 = .ok (.goto 9, 3) := by decide +kernel
theorem dX13_heightBy_62 : decode cX13_heightBy 62 = .ok (.iload 4, 2) := by decide +kernel
theorem dX13_heightBy_64 : decode cX13_heightBy 64 = .ok (.istore_n 2, 1) := by decide +kernel
theorem dX13_heightBy_65 : decode cX13_heightBy 65 = .ok (.fload 5, 2) := by decide +kernel
theorem dX13_heightBy_67 : decode cX13_heightBy 67 = .ok (.fstore_n 3, 1) := by decide +kernel
theorem dX13_heightBy_68 : decode cX13_heightBy 68 = .ok (.iinc 4 1, 3) := by decide +kernel
theorem dX13_heightBy_71 : decode cX13_heightBy 71 = .ok (.goto (-43), 3) := by decide +kernel
theorem dX13_heightBy_74 : decode cX13_heightBy 74 = .ok (.iload_n 2, 1) := by decide +kernel
theorem dX13_heightBy_75 : decode cX13_heightBy 75 = .ok (.ireturn, 1) := by decide +kernel
set_option maxRecDepth 20000 in
theorem ggX13_light_X13_isIn : GoodIn wsX13_light wsX13_isIn := goodIn_r _ [5] (by decide +kernel) (by decide +kernel)
set_option maxRecDepth 20000 in
theorem gX13_light_X13_isIn : GoodIn wsX13_light (va_wsS RX13 111 yX13_isIn wsX13_isIn) := goodIn_app (goodIn_of _ (by decide +kernel)) ggX13_light_X13_isIn
set_option maxRecDepth 20000 in
theorem ggX13_light_X13_goes : GoodIn wsX13_light wsX13_goes := goodIn_r _ [9, 10, 11, 12, 4, 13, 19, 20, 21, 22, 23, 24, 25, 26, 27, 28, 29, 30, 31, 32, 33, 34, 35, 36, 37, 38, 39, 40, 41, 42, 43, 44, 45, 46, 47, 48, 49, 50, 51, 52, 53, 54, 55, 56, 57, 58, 59, 60, 61, 62, 63, 64, 65, 66] (by decide +kernel) (by decide +kernel)
set_option maxRecDepth 20000 in
theorem gX13_light_X13_goes : GoodIn wsX13_light (wsV RX13 103 RX13 yX13_goes wsX13_goes) := goodIn_app (goodIn_of _ (by decide +kernel)) ggX13_light_X13_goes
set_option maxRecDepth 20000 in
theorem ggX13_light_X13_lightOf : GoodIn wsX13_light wsX13_lightOf := goodIn_r _ [17, 1, 18, 19, 20, 21, 22, 23, 24, 25, 26, 27, 28, 29, 30, 31, 32, 33, 34, 35, 36, 37, 38, 39, 40, 41, 42, 43, 44, 45, 46, 47, 48, 49, 50, 51, 52, 53, 54, 55, 56, 57, 58, 59, 60, 61, 62, 63, 64, 65, 66] (by decide +kernel) (by decide +kernel)
set_option maxRecDepth 20000 in
theorem gX13_light_X13_lightOf : GoodIn wsX13_light (wsV RX13 269 RX13 yX13_lightOf wsX13_lightOf) := goodIn_app (goodIn_of _ (by decide +kernel)) ggX13_light_X13_lightOf
theorem dX13_light_0 : decode cX13_light 0 = .ok (.aload_n 0, 1) := by decide +kernel
theorem dX13_light_1 : decode cX13_light 1 = .ok (.iload_n 1, 1) := by decide +kernel
theorem dX13_light_2 : decode cX13_light 2 = .ok (.i2l, 1) := by decide +kernel
theorem dX13_light_3 : decode cX13_light 3 = .ok (.lconst 0, 1) := by decide +kernel
theorem dX13_light_4 : decode cX13_light 4 = .ok (.aload_n 0, 1) := by decide +kernel
theorem dX13_light_5 : decode cX13_light 5 = .ok (.getfield 20, 3) := by decide +kernel
theorem dX13_light_8 : decode cX13_light 8 = .ok (.iconst 2, 1) := by decide +kernel
theorem dX13_light_9 : decode cX13_light 9 = .ok (.iaload, 1) := by decide +kernel
theorem dX13_light_10 : decode cX13_light 10 = .ok (.i2l, 1) := by decide +kernel
theorem dX13_light_11 : decode cX13_light 11 = .ok (.invokestatic 111, 3) := by decide +kernel
theorem dX13_light_14 : decode cX13_light 14 = .ok (.invokevirtual 103, 3) := by decide +kernel
theorem dX13_light_17 : decode cX13_light 17 = .ok (.ifCond .eq 11, 3) := by decide +kernel
theorem dX13_light_20 : decode cX13_light 20 = .ok (.aload_n 0, 1) := by decide +kernel
theorem dX13_light_21 : decode cX13_light 21 = .ok (.iload_n 1, 1) := by decide +kernel
theorem dX13_light_22 : decode cX13_light 22 = .ok (.invokevirtual 269, 3) := by decide +kernel
theorem dX13_light_25 : decode cX13_light 25 = .ok (.goto 4, 3) := by decide +kernel
theorem dX13_light_28 : decode cX13_light 28 = .ok (.fconst 0, 1) := by decide +kernel
theorem dX13_light_29 : decode cX13_light 29 = .ok (.freturn, 1) := by decide +kernel
set_option maxRecDepth 20000 in
theorem ggX13_heightFor_X13_isIn : GoodIn wsX13_heightFor wsX13_isIn := goodIn_r _ [5] (by decide +kernel) (by decide +kernel)
set_option maxRecDepth 20000 in
theorem gX13_heightFor_X13_isIn : GoodIn wsX13_heightFor (va_wsS RX13 111 yX13_isIn wsX13_isIn) := goodIn_app (goodIn_of _ (by decide +kernel)) ggX13_heightFor_X13_isIn
set_option maxRecDepth 20000 in
theorem ggX13_heightFor_X13_goes : GoodIn wsX13_heightFor wsX13_goes := goodIn_r _ [9, 10, 11, 12, 4, 13, 31, 32, 33, 34, 35, 36, 37, 38, 39, 40, 41, 42, 43, 44, 45, 46, 47, 48, 49, 50, 51, 52, 53, 54, 55, 56, 57, 58, 59, 60, 61, 62, 63, 64, 65, 66, 67, 68, 69, 70, 71, 72, 73, 74, 75, 76, 77, 78] (by decide +kernel) (by decide +kernel)
set_option maxRecDepth 20000 in
theorem gX13_heightFor_X13_goes : GoodIn wsX13_heightFor (wsV RX13 103 RX13 yX13_goes wsX13_goes) := goodIn_app (goodIn_of _ (by decide +kernel)) ggX13_heightFor_X13_goes
set_option maxRecDepth 20000 in
theorem ggX13_heightFor_X13_wantedBy : GoodIn wsX13_heightFor wsX13_wantedBy := goodIn_r _ [16, 17] (by decide +kernel) (by decide +kernel)
set_option maxRecDepth 20000 in
theorem gX13_heightFor_X13_wantedBy : GoodIn wsX13_heightFor (va_wsS RX13 199 yX13_wantedBy wsX13_wantedBy) := goodIn_app (goodIn_of _ (by decide +kernel)) ggX13_heightFor_X13_wantedBy
set_option maxRecDepth 20000 in
theorem ggX13_heightFor_X13_heightBy : GoodIn wsX13_heightFor wsX13_heightBy := goodIn_r _ [21, 22, 23, 24, 25, 4, 26, 27, 28, 29, 30, 31, 32, 33, 34, 35, 36, 37, 38, 39, 40, 41, 42, 43, 44, 45, 46, 47, 48, 49, 50, 51, 52, 53, 54, 55, 56, 57, 58, 59, 60, 61, 62, 63, 64, 65, 66, 67, 68, 69, 70, 71, 72, 73, 74, 75, 76, 77, 78] (by decide +kernel) (by decide +kernel)
set_option maxRecDepth 20000 in
theorem gX13_heightFor_X13_heightBy : GoodIn wsX13_heightFor (wsV RX13 203 RX13 yX13_heightBy wsX13_heightBy) := goodIn_app (goodIn_of _ (by decide +kernel)) ggX13_heightFor_X13_heightBy
theorem dX13_heightFor_0 : decode cX13_heightFor 0 = .ok (.aload_n 0, 1) := by decide +kernel
theorem dX13_heightFor_1 : decode cX13_heightFor 1 = .ok (.iload_n 1, 1) := by decide +kernel
theorem dX13_heightFor_2 : decode cX13_heightFor 2 = .ok (.i2l, 1) := by decide +kernel
theorem dX13_heightFor_3 : decode cX13_heightFor 3 = .ok (.lconst 0, 1) := by decide +kernel
theorem dX13_heightFor_4 : decode cX13_heightFor 4 = .ok (.ldc2_w 276, 3) := by decide +kernel
theorem dX13_heightFor_7 : decode cX13_heightFor 7 = .ok (.invokestatic 111, 3) := by decide +kernel
theorem dX13_heightFor_10 : decode cX13_heightFor 10 = .ok (.invokevirtual 103, 3) := by decide +kernel
theorem dX13_heightFor_13 : decode cX13_heightFor 13 = .ok (.ifCond .eq 14, 3) := by decide +kernel
theorem dX13_heightFor_16 : decode cX13_heightFor 16 = .ok (.aload_n 0, 1) := by decide +kernel
theorem dX13_heightFor_17 : decode cX13_heightFor 17 = .ok (.iload_n 1, 1) := by decide +kernel
theorem dX13_heightFor_18 : decode cX13_heightFor 18 = .ok (.invokestatic 199, 3) := by decide +kernel
theorem dX13_heightFor_21 : decode cX13_heightFor 21 = .ok (.invokevirtual 203, 3) := by decide +kernel
theorem dX13_heightFor_24 : decode cX13_heightFor 24 = .ok (.goto 4, 3) := by decide +kernel
theorem dX13_heightFor_27 : decode cX13_heightFor 27 = .ok (.iconst 0, 1) := by decide +kernel
theorem dX13_heightFor_28 : decode cX13_heightFor 28 = .ok (.ireturn, 1) := by decide +kernel
set_option maxRecDepth 20000 in
theorem ggX13_wanted_X13_isCell : GoodIn wsX13_wanted wsX13_isCell := goodIn_r _ [6, 7, 8, 9, 5, 10, 23, 24, 25, 26, 27, 28, 29, 30, 31, 32, 33, 34, 35, 36, 37, 38, 39, 40, 41, 42, 43, 44, 45, 46, 47, 48, 49, 50, 51, 52, 53, 54, 55, 56, 57, 58, 59, 60, 61, 62, 63, 64, 65, 66, 67, 68, 69, 70] (by decide +kernel) (by decide +kernel)
set_option maxRecDepth 20000 in
theorem gX13_wanted_X13_isCell : GoodIn wsX13_wanted (wsV RX13 195 RX13 yX13_isCell wsX13_isCell) := goodIn_app (goodIn_of _ (by decide +kernel)) ggX13_wanted_X13_isCell
set_option maxRecDepth 20000 in
theorem ggX13_wanted_X13_goes : GoodIn wsX13_wanted wsX13_goes := goodIn_r _ [14, 15, 16, 17, 5, 18, 23, 24, 25, 26, 27, 28, 29, 30, 31, 32, 33, 34, 35, 36, 37, 38, 39, 40, 41, 42, 43, 44, 45, 46, 47, 48, 49, 50, 51, 52, 53, 54, 55, 56, 57, 58, 59, 60, 61, 62, 63, 64, 65, 66, 67, 68, 69, 70] (by decide +kernel) (by decide +kernel)
set_option maxRecDepth 20000 in
theorem gX13_wanted_X13_goes : GoodIn wsX13_wanted (wsV RX13 103 RX13 yX13_goes wsX13_goes) := goodIn_app (goodIn_of _ (by decide +kernel)) ggX13_wanted_X13_goes
set_option maxRecDepth 20000 in
theorem ggX13_wanted_X13_wantedBy : GoodIn wsX13_wanted wsX13_wantedBy := goodIn_r _ [21, 22] (by decide +kernel) (by decide +kernel)
set_option maxRecDepth 20000 in
theorem gX13_wanted_X13_wantedBy : GoodIn wsX13_wanted (va_wsS RX13 199 yX13_wantedBy wsX13_wantedBy) := goodIn_app (goodIn_of _ (by decide +kernel)) ggX13_wanted_X13_wantedBy
theorem dX13_wanted_0 : decode cX13_wanted 0 = .ok (.aload_n 0, 1) := by decide +kernel
theorem dX13_wanted_1 : decode cX13_wanted 1 = .ok (.aload_n 0, 1) := by decide +kernel
theorem dX13_wanted_2 : decode cX13_wanted 2 = .ok (.iload_n 1, 1) := by decide +kernel
theorem dX13_wanted_3 : decode cX13_wanted 3 = .ok (.iload_n 2, 1) := by decide +kernel
theorem dX13_wanted_4 : decode cX13_wanted 4 = .ok (.invokevirtual 195, 3) := by decide +kernel
theorem dX13_wanted_7 : decode cX13_wanted 7 = .ok (.invokevirtual 103, 3) := by decide +kernel
theorem dX13_wanted_10 : decode cX13_wanted 10 = .ok (.ifCond .eq 20, 3) := by decide +kernel
theorem dX13_wanted_13 : decode cX13_wanted 13 = .ok (.aload_n 0, 1) := by decide +kernel
theorem dX13_wanted_14 : decode cX13_wanted 14 = .ok (.getfield 26, 3) := by decide +kernel
theorem dX13_wanted_17 : decode cX13_wanted 17 = .ok (.bipush 16, 2) := by decide +kernel
theorem dX13_wanted_19 : decode cX13_wanted 19 = .ok (.iload_n 2, 1) := by decide +kernel
theorem dX13_wanted_20 : decode cX13_wanted 20 = .ok (.imul, 1) := by decide +kernel
theorem dX13_wanted_21 : decode cX13_wanted 21 = .ok (.iload_n 1, 1) := by decide +kernel
theorem dX13_wanted_22 : decode cX13_wanted 22 = .ok (.iadd, 1) := by decide +kernel
theorem dX13_wanted_23 : decode cX13_wanted 23 = .ok (.iaload, 1) := by decide +kernel
theorem dX13_wanted_24 : decode cX13_wanted 24 = .ok (.invokestatic 199, 3) := by decide +kernel
theorem dX13_wanted_27 : decode cX13_wanted 27 = .ok (.goto 4, 3) := by decide +kernel
theorem dX13_wanted_30 : decode cX13_wanted 30 = .ok (.fconst 0, 1) := by decide +kernel
theorem dX13_wanted_31 : decode cX13_wanted 31 = .ok (.freturn, 1) := by decide +kernel
set_option maxRecDepth 20000 in
theorem ggX13_lightAt_X13_isCell : GoodIn wsX13_lightAt wsX13_isCell := goodIn_r _ [6, 7, 8, 9, 5, 10, 16, 17, 18, 19, 20, 21, 22, 23, 24, 25, 26, 27, 28, 29, 30, 31, 32, 33, 34, 35, 36, 37, 38, 39, 40, 41, 42, 43, 44, 45, 46, 47, 48, 49, 50, 51, 52, 53, 54, 55, 56, 57, 58, 59, 60, 61, 62, 63] (by decide +kernel) (by decide +kernel)
set_option maxRecDepth 20000 in
theorem gX13_lightAt_X13_isCell : GoodIn wsX13_lightAt (wsV RX13 195 RX13 yX13_isCell wsX13_isCell) := goodIn_app (goodIn_of _ (by decide +kernel)) ggX13_lightAt_X13_isCell
set_option maxRecDepth 20000 in
theorem ggX13_lightAt_X13_lightOf : GoodIn wsX13_lightAt wsX13_lightOf := goodIn_r _ [14, 7, 15, 16, 17, 18, 19, 20, 21, 22, 23, 24, 25, 26, 27, 28, 29, 30, 31, 32, 33, 34, 35, 36, 37, 38, 39, 40, 41, 42, 43, 44, 45, 46, 47, 48, 49, 50, 51, 52, 53, 54, 55, 56, 57, 58, 59, 60, 61, 62, 63] (by decide +kernel) (by decide +kernel)
set_option maxRecDepth 20000 in
theorem gX13_lightAt_X13_lightOf : GoodIn wsX13_lightAt (wsV RX13 269 RX13 yX13_lightOf wsX13_lightOf) := goodIn_app (goodIn_of _ (by decide +kernel)) ggX13_lightAt_X13_lightOf
theorem dX13_lightAt_0 : decode cX13_lightAt 0 = .ok (.aload_n 0, 1) := by decide +kernel
theorem dX13_lightAt_1 : decode cX13_lightAt 1 = .ok (.iload_n 1, 1) := by decide +kernel
theorem dX13_lightAt_2 : decode cX13_lightAt 2 = .ok (.iload_n 2, 1) := by decide +kernel
theorem dX13_lightAt_3 : decode cX13_lightAt 3 = .ok (.invokevirtual 195, 3) := by decide +kernel
theorem dX13_lightAt_6 : decode cX13_lightAt 6 = .ok (.ifCond .eq 21, 3) := by decide +kernel
theorem dX13_lightAt_9 : decode cX13_lightAt 9 = .ok (.aload_n 0, 1) := by decide +kernel
theorem dX13_lightAt_10 : decode cX13_lightAt 10 = .ok (.aload_n 0, 1) := by decide +kernel
theorem dX13_lightAt_11 : decode cX13_lightAt 11 = .ok (.getfield 29, 3) := by decide +kernel
theorem dX13_lightAt_14 : decode cX13_lightAt 14 = .ok (.bipush 16, 2) := by decide +kernel
theorem dX13_lightAt_16 : decode cX13_lightAt 16 = .ok (.iload_n 2, 1) := by decide +kernel
theorem dX13_lightAt_17 : decode cX13_lightAt 17 = .ok (.imul, 1) := by decide +kernel
theorem dX13_lightAt_18 : decode cX13_lightAt 18 = .ok (.iload_n 1, 1) := by decide +kernel
theorem dX13_lightAt_19 : decode cX13_lightAt 19 = .ok (.iadd, 1) := by decide +kernel
theorem dX13_lightAt_20 : decode cX13_lightAt 20 = .ok (.iaload, 1) := by decide +kernel
theorem dX13_lightAt_21 : decode cX13_lightAt 21 = .ok (.invokevirtual 269, 3) := by decide +kernel
theorem dX13_lightAt_24 : decode cX13_lightAt 24 = .ok (.goto 4, 3) := by decide +kernel
theorem dX13_lightAt_27 : decode cX13_lightAt 27 = .ok (.fload_n 3, 1) := by decide +kernel
theorem dX13_lightAt_28 : decode cX13_lightAt 28 = .ok (.freturn, 1) := by decide +kernel
set_option maxRecDepth 20000 in
theorem ggX13_estimateAt_X13_lightOf : GoodIn wsX13_estimateAt wsX13_lightOf := goodIn_r _ [8, 9, 10, 22, 23, 24, 25, 26, 27, 28, 29, 30, 31, 32, 33, 34, 35, 36, 37, 38, 39, 40, 41, 42, 43, 44, 45, 46, 47, 48, 49, 50, 51, 52, 53, 54, 55, 56, 57, 58, 59, 60, 61, 62, 63, 64, 65, 66, 67, 68, 69] (by decide +kernel) (by decide +kernel)
set_option maxRecDepth 20000 in
theorem gX13_estimateAt_X13_lightOf : GoodIn wsX13_estimateAt (wsV RX13 269 RX13 yX13_lightOf wsX13_lightOf) := goodIn_app (goodIn_of _ (by decide +kernel)) ggX13_estimateAt_X13_lightOf
set_option maxRecDepth 20000 in
theorem ggX13_estimateAt_X13_lightAt : GoodIn wsX13_estimateAt wsX13_lightAt := goodIn_r _ [14, 1, 15, 16, 17, 7, 18, 9, 19, 20, 21, 4, 5, 6, 8, 10, 22, 23, 24, 25, 26, 27, 28, 29, 30, 31, 32, 33, 34, 35, 36, 37, 38, 39, 40, 41, 42, 43, 44, 45, 46, 47, 48, 49, 50, 51, 52, 53, 54, 55, 56, 57, 58, 59, 60, 61, 62, 63, 64, 65, 66, 67, 68, 69] (by decide +kernel) (by decide +kernel)
set_option maxRecDepth 20000 in
theorem gX13_estimateAt_X13_lightAt : GoodIn wsX13_estimateAt (wsV RX13 279 RX13 yX13_lightAt wsX13_lightAt) := goodIn_app (goodIn_of _ (by decide +kernel)) ggX13_estimateAt_X13_lightAt
theorem dX13_estimateAt_0 : decode cX13_estimateAt 0 = .ok (.aload_n 0, 1) := by decide +kernel
theorem dX13_estimateAt_1 : decode cX13_estimateAt 1 = .ok (.aload_n 0, 1) := by decide +kernel
theorem dX13_estimateAt_2 : decode cX13_estimateAt 2 = .ok (.getfield 29, 3) := by decide +kernel
theorem dX13_estimateAt_5 : decode cX13_estimateAt 5 = .ok (.bipush 16, 2) := by decide +kernel
theorem dX13_estimateAt_7 : decode cX13_estimateAt 7 = .ok (.iload_n 2, 1) := by decide +kernel
theorem dX13_estimateAt_8 : decode cX13_estimateAt 8 = .ok (.imul, 1) := by decide +kernel
theorem dX13_estimateAt_9 : decode cX13_estimateAt 9 = .ok (.iload_n 1, 1) := by decide +kernel
theorem dX13_estimateAt_10 : decode cX13_estimateAt 10 = .ok (.iadd, 1) := by decide +kernel
theorem dX13_estimateAt_11 : decode cX13_estimateAt 11 = .ok (.iaload, 1) := by decide +kernel
theorem dX13_estimateAt_12 : decode cX13_estimateAt 12 = .ok (.invokevirtual 269, 3) := by decide +kernel
theorem dX13_estimateAt_15 : decode cX13_estimateAt 15 = .ok (.fstore_n 3, 1) := by decide +kernel
theorem dX13_estimateAt_16 : decode cX13_estimateAt 16 = .ok (.fload_n 3, 1) := by decide +kernel
theorem dX13_estimateAt_17 : decode cX13_estimateAt 17 = .ok (.ldc_w 278, 3) := by decide +kernel
theorem dX13_estimateAt_20 : decode cX13_estimateAt 20 = .ok (.fmul, 1) := by decide +kernel
theorem dX13_estimateAt_21 : decode cX13_estimateAt 21 = .ok (.aload_n 0, 1) := by decide +kernel
theorem dX13_estimateAt_22 : decode cX13_estimateAt 22 = .ok (.iload_n 1, 1) := by decide +kernel
theorem dX13_estimateAt_23 : decode cX13_estimateAt 23 = .ok (.iconst 1, 1) := by decide +kernel
theorem dX13_estimateAt_24 : decode cX13_estimateAt 24 = .ok (.isub, 1) := by decide +kernel
theorem dX13_estimateAt_25 : decode cX13_estimateAt 25 = .ok (.iload_n 2, 1) := by decide +kernel
theorem dX13_estimateAt_26 : decode cX13_estimateAt 26 = .ok (.fload_n 3, 1) := by decide +kernel
theorem dX13_estimateAt_27 : decode cX13_estimateAt 27 = .ok (.invokevirtual 279, 3) := by decide +kernel
theorem dX13_estimateAt_30 : decode cX13_estimateAt 30 = .ok (.fadd, 1) := by decide +kernel
theorem dX13_estimateAt_31 : decode cX13_estimateAt 31 = .ok (.fstore 4, 2) := by decide +kernel
theorem dX13_estimateAt_33 : decode cX13_estimateAt 33 = .ok (.fload 4, 2) := by decide +kernel
theorem dX13_estimateAt_35 : decode cX13_estimateAt 35 = .ok (.aload_n 0, 1) := by decide +kernel
theorem dX13_estimateAt_36 : decode cX13_estimateAt 36 = .ok (.iload_n 1, 1) := by decide +kernel
theorem dX13_estimateAt_37 : decode cX13_estimateAt 37 = .ok (.iconst 1, 1) := by decide +kernel
theorem dX13_estimateAt_38 : decode cX13_estimateAt 38 = .ok (.iadd, 1) := by decide +kernel
theorem dX13_estimateAt_39 : decode cX13_estimateAt 39 = .ok (.iload_n 2, 1) := by decide +kernel
theorem dX13_estimateAt_40 : decode cX13_estimateAt 40 = .ok (.fload_n 3, 1) := by decide +kernel
theorem dX13_estimateAt_41 : decode cX13_estimateAt 41 = .ok (.invokevirtual 279, 3) := by decide +kernel
theorem dX13_estimateAt_44 : decode cX13_estimateAt 44 = .ok (.fadd, 1) := by decide +kernel
theorem dX13_estimateAt_45 : decode cX13_estimateAt 45 = .ok (.fstore 4, 2) := by decide +kernel
theorem dX13_estimateAt_47 : decode cX13_estimateAt 47 = .ok (.fload 4, 2) := by decide +kernel
theorem dX13_estimateAt_49 : decode cX13_estimateAt 49 = .ok (.aload_n 0, 1) := by decide +kernel
theorem dX13_estimateAt_50 : decode cX13_estimateAt 50 = .ok (.iload_n 1, 1) := by decide +kernel
theorem dX13_estimateAt_51 : decode cX13_estimateAt 51 = .ok (.iload_n 2, 1) := by decide +kernel
theorem dX13_estimateAt_52 : decode cX13_estimateAt 52 = .ok (.iconst 1, 1) := by decide +kernel
theorem dX13_estimateAt_53 : decode cX13_estimateAt 53 = .ok (.isub, 1) := by decide +kernel
theorem dX13_estimateAt_54 : decode cX13_estimateAt 54 = .ok (.fload_n 3, 1) := by decide +kernel
theorem dX13_estimateAt_55 : decode cX13_estimateAt 55 = .ok (.invokevirtual 279, 3) := by decide +kernel
theorem dX13_estimateAt_58 : decode cX13_estimateAt 58 = .ok (.fadd, 1) := by decide +kernel
theorem dX13_estimateAt_59 : decode cX13_estimateAt 59 = .ok (.fstore 4, 2) := by decide +kernel
theorem dX13_estimateAt_61 : decode cX13_estimateAt 61 = .ok (.fload 4, 2) := by decide +kernel
theorem dX13_estimateAt_63 : decode cX13_estimateAt 63 = .ok (.aload_n 0, 1) := by decide +kernel
theorem dX13_estimateAt_64 : decode cX13_estimateAt 64 = .ok (.iload_n 1, 1) := by decide +kernel
theorem dX13_estimateAt_65 : decode cX13_estimateAt 65 = .ok (.iload_n 2, 1) := by decide +kernel
theorem dX13_estimateAt_66 : decode cX13_estimateAt 66 = .ok (.iconst 1, 1) := by decide +kernel
theorem dX13_estimateAt_67 : decode cX13_estimateAt 67 = .ok (.iadd, 1) := by decide +kernel
theorem dX13_estimateAt_68 : decode cX13_estimateAt 68 = .ok (.fload_n 3, 1) := by decide +kernel
theorem dX13_estimateAt_69 : decode cX13_estimateAt 69 = .ok (.invokevirtual 279, 3) := by decide +kernel
theorem dX13_estimateAt_72 : decode cX13_estimateAt 72 = .ok (.fadd, 1) := by decide +kernel
theorem dX13_estimateAt_73 : decode cX13_estimateAt 73 = .ok (.fstore 4, 2) := by decide +kernel
theorem dX13_estimateAt_75 : decode cX13_estimateAt 75 = .ok (.fload 4, 2) := by decide +kernel
theorem dX13_estimateAt_77 : decode cX13_estimateAt 77 = .ok (.ldc_w 283, 3) := by decide +kernel
theorem dX13_estimateAt_80 : decode cX13_estimateAt 80 = .ok (.fdiv, 1) := by decide +kernel
theorem dX13_estimateAt_81 : decode cX13_estimateAt 81 = .ok (.freturn, 1) := by decide +kernel
set_option maxRecDepth 20000 in
theorem ggX13_errorAt_X13_estimateAt : GoodIn wsX13_errorAt wsX13_estimateAt := goodIn_r _ [6, 7, 8, 9, 10, 11, 12, 5, 13, 14, 15, 16, 17, 18, 19, 20, 21, 22, 23, 24, 25, 26, 31, 32, 33, 34, 35, 36, 37, 38, 39, 40, 41, 42, 43, 44, 45, 46, 47, 48, 49, 50, 51, 52, 53, 54, 55, 56, 57, 58, 59, 60, 61, 62, 63, 64, 65, 66, 67, 68, 69, 70, 71, 72, 73, 74, 75, 76, 77, 78] (by decide +kernel) (by decide +kernel)
set_option maxRecDepth 20000 in
theorem gX13_errorAt_X13_estimateAt : GoodIn wsX13_errorAt (wsV RX13 284 RX13 yX13_estimateAt wsX13_estimateAt) := goodIn_app (goodIn_of _ (by decide +kernel)) ggX13_errorAt_X13_estimateAt
set_option maxRecDepth 20000 in
theorem ggX13_errorAt_X13_wantedBy : GoodIn wsX13_errorAt wsX13_wantedBy := goodIn_r _ [29, 30] (by decide +kernel) (by decide +kernel)
set_option maxRecDepth 20000 in
theorem gX13_errorAt_X13_wantedBy : GoodIn wsX13_errorAt (va_wsS RX13 199 yX13_wantedBy wsX13_wantedBy) := goodIn_app (goodIn_of _ (by decide +kernel)) ggX13_errorAt_X13_wantedBy
theorem dX13_errorAt_0 : decode cX13_errorAt 0 = .ok (.aload_n 0, 1) := by decide +kernel
theorem dX13_errorAt_1 : decode cX13_errorAt 1 = .ok (.iload_n 1, 1) := by decide +kernel
theorem dX13_errorAt_2 : decode cX13_errorAt 2 = .ok (.iload_n 2, 1) := by decide +kernel
theorem dX13_errorAt_3 : decode cX13_errorAt 3 = .ok (.invokevirtual 284, 3) := by decide +kernel
theorem dX13_errorAt_6 : decode cX13_errorAt 6 = .ok (.aload_n 0, 1) := by decide +kernel
theorem dX13_errorAt_7 : decode cX13_errorAt 7 = .ok (.getfield 26, 3) := by decide +kernel
theorem dX13_errorAt_10 : decode cX13_errorAt 10 = .ok (.bipush 16, 2) := by decide +kernel
theorem dX13_errorAt_12 : decode cX13_errorAt 12 = .ok (.iload_n 2, 1) := by decide +kernel
theorem dX13_errorAt_13 : decode cX13_errorAt 13 = .ok (.imul, 1) := by decide +kernel
theorem dX13_errorAt_14 : decode cX13_errorAt 14 = .ok (.iload_n 1, 1) := by decide +kernel
theorem dX13_errorAt_15 : decode cX13_errorAt 15 = .ok (.iadd, 1) := by decide +kernel
theorem dX13_errorAt_16 : decode cX13_errorAt 16 = .ok (.iaload, 1) := by decide +kernel
theorem dX13_errorAt_17 : decode cX13_errorAt 17 = .ok (.invokestatic 199, 3) := by decide +kernel
theorem dX13_errorAt_20 : decode cX13_errorAt 20 = .ok (.fsub, 1) := by decide +kernel
theorem dX13_errorAt_21 : decode cX13_errorAt 21 = .ok (.freturn, 1) := by decide +kernel
set_option maxRecDepth 20000 in
theorem ggX13_estimate_X13_isCell : GoodIn wsX13_estimate wsX13_isCell := goodIn_r _ [5, 6, 7, 8, 4, 9, 34, 35, 36, 37, 38, 39, 40, 41, 42, 43, 44, 45, 46, 47, 48, 49, 50, 51, 52, 53, 54, 55, 56, 57, 58, 59, 60, 61, 62, 63, 64, 65, 66, 67, 68, 69, 70, 71, 72, 73, 74, 75, 76, 77, 78, 79, 80, 81] (by decide +kernel) (by decide +kernel)
set_option maxRecDepth 20000 in
theorem gX13_estimate_X13_isCell : GoodIn wsX13_estimate (wsV RX13 195 RX13 yX13_isCell wsX13_isCell) := goodIn_app (goodIn_of _ (by decide +kernel)) ggX13_estimate_X13_isCell
set_option maxRecDepth 20000 in
theorem ggX13_estimate_X13_goes : GoodIn wsX13_estimate wsX13_goes := goodIn_r _ [13, 14, 15, 16, 4, 17, 34, 35, 36, 37, 38, 39, 40, 41, 42, 43, 44, 45, 46, 47, 48, 49, 50, 51, 52, 53, 54, 55, 56, 57, 58, 59, 60, 61, 62, 63, 64, 65, 66, 67, 68, 69, 70, 71, 72, 73, 74, 75, 76, 77, 78, 79, 80, 81] (by decide +kernel) (by decide +kernel)
set_option maxRecDepth 20000 in
theorem gX13_estimate_X13_goes : GoodIn wsX13_estimate (wsV RX13 103 RX13 yX13_goes wsX13_goes) := goodIn_app (goodIn_of _ (by decide +kernel)) ggX13_estimate_X13_goes
set_option maxRecDepth 20000 in
theorem ggX13_estimate_X13_estimateAt : GoodIn wsX13_estimate wsX13_estimateAt := goodIn_r _ [21, 22, 23, 24, 25, 26, 27, 4, 28, 6, 29, 30, 31, 32, 33, 1, 2, 3, 5, 7, 8, 9, 34, 35, 36, 37, 38, 39, 40, 41, 42, 43, 44, 45, 46, 47, 48, 49, 50, 51, 52, 53, 54, 55, 56, 57, 58, 59, 60, 61, 62, 63, 64, 65, 66, 67, 68, 69, 70, 71, 72, 73, 74, 75, 76, 77, 78, 79, 80, 81] (by decide +kernel) (by decide +kernel)
set_option maxRecDepth 20000 in
theorem gX13_estimate_X13_estimateAt : GoodIn wsX13_estimate (wsV RX13 284 RX13 yX13_estimateAt wsX13_estimateAt) := goodIn_app (goodIn_of _ (by decide +kernel)) ggX13_estimate_X13_estimateAt
theorem dX13_estimate_0 : decode cX13_estimate 0 = .ok (.aload_n 0, 1) := by decide +kernel
theorem dX13_estimate_1 : decode cX13_estimate 1 = .ok (.aload_n 0, 1) := by decide +kernel
theorem dX13_estimate_2 : decode cX13_estimate 2 = .ok (.iload_n 1, 1) := by decide +kernel
theorem dX13_estimate_3 : decode cX13_estimate 3 = .ok (.iload_n 2, 1) := by decide +kernel
theorem dX13_estimate_4 : decode cX13_estimate 4 = .ok (.invokevirtual 195, 3) := by decide +kernel
theorem dX13_estimate_7 : decode cX13_estimate 7 = .ok (.invokevirtual 103, 3) := by decide +kernel
theorem dX13_estimate_10 : decode cX13_estimate 10 = .ok (.ifCond .eq 12, 3) := by decide +kernel
theorem dX13_estimate_13 : decode cX13_estimate 13 = .ok (.aload_n 0, 1) := by decide +kernel
theorem dX13_estimate_14 : decode cX13_estimate 14 = .ok (.iload_n 1, 1) := by decide +kernel
theorem dX13_estimate_15 : decode cX13_estimate 15 = .ok (.iload_n 2, 1) := by decide +kernel
theorem dX13_estimate_16 : decode cX13_estimate 16 = .ok (.invokevirtual 284, 3) := by decide +kernel
theorem dX13_estimate_19 : decode cX13_estimate 19 = .ok (.goto 4, 3) := by decide +kernel
theorem dX13_estimate_22 : decode cX13_estimate 22 = .ok (.fconst 0, 1) := by decide +kernel
theorem dX13_estimate_23 : decode cX13_estimate 23 = .ok (.freturn, 1) := by decide +kernel
set_option maxRecDepth 20000 in
theorem ggX13_error_X13_isCell : GoodIn wsX13_error wsX13_isCell := goodIn_r _ [5, 6, 7, 8, 4, 9, 43, 44, 45, 46, 47, 48, 49, 50, 51, 52, 53, 54, 55, 56, 57, 58, 59, 60, 61, 62, 63, 64, 65, 66, 67, 68, 69, 70, 71, 72, 73, 74, 75, 76, 77, 78, 79, 80, 81, 82, 83, 84, 85, 86, 87, 88, 89, 90] (by decide +kernel) (by decide +kernel)
set_option maxRecDepth 20000 in
theorem gX13_error_X13_isCell : GoodIn wsX13_error (wsV RX13 195 RX13 yX13_isCell wsX13_isCell) := goodIn_app (goodIn_of _ (by decide +kernel)) ggX13_error_X13_isCell
set_option maxRecDepth 20000 in
theorem ggX13_error_X13_goes : GoodIn wsX13_error wsX13_goes := goodIn_r _ [13, 14, 15, 16, 4, 17, 43, 44, 45, 46, 47, 48, 49, 50, 51, 52, 53, 54, 55, 56, 57, 58, 59, 60, 61, 62, 63, 64, 65, 66, 67, 68, 69, 70, 71, 72, 73, 74, 75, 76, 77, 78, 79, 80, 81, 82, 83, 84, 85, 86, 87, 88, 89, 90] (by decide +kernel) (by decide +kernel)
set_option maxRecDepth 20000 in
theorem gX13_error_X13_goes : GoodIn wsX13_error (wsV RX13 103 RX13 yX13_goes wsX13_goes) := goodIn_app (goodIn_of _ (by decide +kernel)) ggX13_error_X13_goes
set_option maxRecDepth 20000 in
theorem ggX13_error_X13_errorAt : GoodIn wsX13_error wsX13_errorAt := goodIn_r _ [21, 22, 23, 24, 25, 4, 26, 27, 28, 29, 30, 31, 32, 33, 6, 34, 35, 36, 37, 38, 1, 2, 3, 5, 7, 8, 9, 39, 40, 41, 42, 43, 44, 45, 46, 47, 48, 49, 50, 51, 52, 53, 54, 55, 56, 57, 58, 59, 60, 61, 62, 63, 64, 65, 66, 67, 68, 69, 70, 71, 72, 73, 74, 75, 76, 77, 78, 79, 80, 81, 82, 83, 84, 85, 86, 87, 88, 89, 90] (by decide +kernel) (by decide +kernel)
set_option maxRecDepth 20000 in
theorem gX13_error_X13_errorAt : GoodIn wsX13_error (wsV RX13 288 RX13 yX13_errorAt wsX13_errorAt) := goodIn_app (goodIn_of _ (by decide +kernel)) ggX13_error_X13_errorAt
theorem dX13_error_0 : decode cX13_error 0 = .ok (.aload_n 0, 1) := by decide +kernel
theorem dX13_error_1 : decode cX13_error 1 = .ok (.aload_n 0, 1) := by decide +kernel
theorem dX13_error_2 : decode cX13_error 2 = .ok (.iload_n 1, 1) := by decide +kernel
theorem dX13_error_3 : decode cX13_error 3 = .ok (.iload_n 2, 1) := by decide +kernel
theorem dX13_error_4 : decode cX13_error 4 = .ok (.invokevirtual 195, 3) := by decide +kernel
theorem dX13_error_7 : decode cX13_error 7 = .ok (.invokevirtual 103, 3) := by decide +kernel
theorem dX13_error_10 : decode cX13_error 10 = .ok (.ifCond .eq 12, 3) := by decide +kernel
theorem dX13_error_13 : decode cX13_error 13 = .ok (.aload_n 0, 1) := by decide +kernel
theorem dX13_error_14 : decode cX13_error 14 = .ok (.iload_n 1, 1) := by decide +kernel
theorem dX13_error_15 : decode cX13_error 15 = .ok (.iload_n 2, 1) := by decide +kernel
theorem dX13_error_16 : decode cX13_error 16 = .ok (.invokevirtual 288, 3) := by decide +kernel
theorem dX13_error_19 : decode cX13_error 19 = .ok (.goto 4, 3) := by decide +kernel
theorem dX13_error_22 : decode cX13_error 22 = .ok (.fconst 0, 1) := by decide +kernel
theorem dX13_error_23 : decode cX13_error 23 = .ok (.freturn, 1) := by decide +kernel
set_option maxRecDepth 20000 in
theorem ggX13_meanError_X13_errorAt : GoodIn wsX13_meanError wsX13_errorAt := goodIn_r _ [7, 8, 9, 10, 11, 6, 12, 13, 14, 15, 16, 17, 18, 19, 2, 20, 21, 22, 23, 24, 25, 26, 27, 28, 29, 30, 31, 32, 33, 34, 35, 43, 44, 45, 46, 47, 48, 49, 50, 51, 52, 53, 54, 55, 56, 57, 58, 59, 60, 61, 62, 63, 64, 65, 66, 67, 68, 69, 70, 71, 72, 73, 74, 75, 76, 77, 78, 79, 80, 81, 82, 83, 84, 85, 86, 87, 88, 89, 90] (by decide +kernel) (by decide +kernel)
set_option maxRecDepth 20000 in
theorem gX13_meanError_X13_errorAt : GoodIn wsX13_meanError (wsV RX13 288 RX13 yX13_errorAt wsX13_errorAt) := goodIn_app (goodIn_of _ (by decide +kernel)) ggX13_meanError_X13_errorAt
set_option maxRecDepth 20000 in
theorem ggX13_meanError_X13_apart : GoodIn wsX13_meanError wsX13_apart := goodIn_r _ [38] (by decide +kernel) (by decide +kernel)
set_option maxRecDepth 20000 in
theorem gX13_meanError_X13_apart : GoodIn wsX13_meanError (va_wsS RX13 272 yX13_apart wsX13_apart) := goodIn_app (goodIn_of _ (by decide +kernel)) ggX13_meanError_X13_apart
set_option maxRecDepth 20000 in
theorem ggX13_meanError_X13_cellMany : GoodIn wsX13_meanError wsX13_cellMany := goodIn_r _ [42, 2, 43, 44, 45, 46, 47, 48, 49, 50, 51, 52, 53, 54, 55, 56, 57, 58, 59, 60, 61, 62, 63, 64, 65, 66, 67, 68, 69, 70, 71, 72, 73, 74, 75, 76, 77, 78, 79, 80, 81, 82, 83, 84, 85, 86, 87, 88, 89, 90] (by decide +kernel) (by decide +kernel)
set_option maxRecDepth 20000 in
theorem gX13_meanError_X13_cellMany : GoodIn wsX13_meanError (wsV RX13 251 RX13 yX13_cellMany wsX13_cellMany) := goodIn_app (goodIn_of _ (by decide +kernel)) ggX13_meanError_X13_cellMany
theorem dX13_meanError_0 : decode cX13_meanError 0 = .ok (.aload_n 0, 1) := by decide +kernel
theorem dX13_meanError_1 : decode cX13_meanError 1 = .ok (.iconst 0, 1) := by decide +kernel
theorem dX13_meanError_2 : decode cX13_meanError 2 = .ok (.putfield 93, 3) := by decide +kernel
theorem dX13_meanError_5 : decode cX13_meanError 5 = .ok (.fconst 0, 1) := by decide +kernel
theorem dX13_meanError_6 : decode cX13_meanError 6 = .ok (.fstore_n 1, 1) := by decide +kernel
theorem dX13_meanError_7 : decode cX13_meanError 7 = .ok (.iconst 0, 1) := by decide +kernel
theorem dX13_meanError_8 : decode cX13_meanError 8 = .ok (.istore_n 2, 1) := by decide +kernel
theorem dX13_meanError_9 : decode cX13_meanError 9 = .ok (.iload_n 2, 1) := by decide +kernel
theorem dX13_meanError_10 : decode cX13_meanError 10 = .ok (.aload_n 0, 1) := by decide +kernel
theorem dX13_meanError_11 : decode cX13_meanError 11 = .ok (.getfield 20, 3) := by decide +kernel
theorem dX13_meanError_14 : decode cX13_meanError 14 = .ok (.iconst 1, 1) := by decide +kernel
theorem dX13_meanError_15 : decode cX13_meanError 15 = .ok (.iaload, 1) := by decide +kernel
theorem dX13_meanError_16 : decode cX13_meanError 16 = .ok (.if_icmp .ge 39, 3) := by decide +kernel
theorem dX13_meanError_19 : decode cX13_meanError 19 = .ok (.iconst 0, 1) := by decide +kernel
theorem dX13_meanError_20 : decode cX13_meanError 20 = .ok (.istore_n 3, 1) := by decide +kernel
theorem dX13_meanError_21 : decode cX13_meanError 21 = .ok (.iload_n 3, 1) := by decide +kernel
theorem dX13_meanError_22 : decode cX13_meanError 22 = .ok (.aload_n 0, 1) := by decide +kernel
theorem dX13_meanError_23 : decode cX13_meanError 23 = .ok (.getfield 20, 3) := by decide +kernel
theorem dX13_meanError_26 : decode cX13_meanError 26 = .ok (.iconst 0, 1) := by decide +kernel
theorem dX13_meanError_27 : decode cX13_meanError 27 = .ok (.iaload, 1) := by decide +kernel
theorem dX13_meanError_28 : decode cX13_meanError 28 = .ok (.if_icmp .ge 21, 3) := by decide +kernel
theorem dX13_meanError_31 : decode cX13_meanError 31 = .ok (.fload_n 1, 1) := by decide +kernel
theorem dX13_meanError_32 : decode cX13_meanError 32 = .ok (.aload_n 0, 1) := by decide +kernel
theorem dX13_meanError_33 : decode cX13_meanError 33 = .ok (.iload_n 3, 1) := by decide +kernel
theorem dX13_meanError_34 : decode cX13_meanError 34 = .ok (.iload_n 2, 1) := by decide +kernel
theorem dX13_meanError_35 : decode cX13_meanError 35 = .ok (.invokevirtual 288, 3) := by decide +kernel
theorem dX13_meanError_38 : decode cX13_meanError 38 = .ok (.invokestatic 272, 3) := by decide +kernel
theorem dX13_meanError_41 : decode cX13_meanError 41 = .ok (.fadd, 1) := by decide +kernel
theorem dX13_meanError_42 : decode cX13_meanError 42 = .ok (.fstore_n 1, 1) := by decide +kernel
theorem dX13_meanError_43 : decode cX13_meanError 43 = .ok (.iinc 3 1, 3) := by decide +kernel
theorem dX13_meanError_46 : decode cX13_meanError 46 = .ok (.goto (-25), 3) := by decide +kernel
theorem dX13_meanError_49 : decode cX13_meanError 49 = .ok (.iinc 2 1, 3) := by decide +kernel
theorem dX13_meanError_52 : decode cX13_meanError 52 = .ok (.goto (-43), 3) := by decide +kernel
theorem dX13_meanError_55 : decode cX13_meanError 55 = .ok (.fload_n 1, 1) := by decide +kernel
theorem dX13_meanError_56 : decode cX13_meanError 56 = .ok (.aload_n 0, 1) := by decide +kernel
theorem dX13_meanError_57 : decode cX13_meanError 57 = .ok (.invokevirtual 251, 3) := by decide +kernel
theorem dX13_meanError_60 : decode cX13_meanError 60 = .ok (.i2f, 1) := by decide +kernel
theorem dX13_meanError_61 : decode cX13_meanError 61 = .ok (.fdiv, 1) := by decide +kernel
theorem dX13_meanError_62 : decode cX13_meanError 62 = .ok (.freturn, 1) := by decide +kernel
set_option maxRecDepth 20000 in
theorem ggX13_worstCell_X13_errorAt : GoodIn wsX13_worstCell wsX13_errorAt := goodIn_r _ [8, 9, 10, 11, 12, 7, 13, 14, 15, 16, 17, 18, 19, 20, 3, 21, 22, 23, 24, 25, 26, 27, 28, 29, 30, 31, 32, 33, 34, 35, 36, 40, 41, 42, 43, 44, 45, 46, 47, 48, 49, 50, 51, 52, 53, 54, 55, 56, 57, 58, 59, 60, 61, 62, 63, 64, 65, 66, 67, 68, 69, 70, 71, 72, 73, 74, 75, 76, 77, 78, 79, 80, 81, 82, 83, 84, 85, 86, 87] (by decide +kernel) (by decide +kernel)
set_option maxRecDepth 20000 in
theorem gX13_worstCell_X13_errorAt : GoodIn wsX13_worstCell (wsV RX13 288 RX13 yX13_errorAt wsX13_errorAt) := goodIn_app (goodIn_of _ (by decide +kernel)) ggX13_worstCell_X13_errorAt
set_option maxRecDepth 20000 in
theorem ggX13_worstCell_X13_apart : GoodIn wsX13_worstCell wsX13_apart := goodIn_r _ [39] (by decide +kernel) (by decide +kernel)
set_option maxRecDepth 20000 in
theorem gX13_worstCell_X13_apart : GoodIn wsX13_worstCell (va_wsS RX13 272 yX13_apart wsX13_apart) := goodIn_app (goodIn_of _ (by decide +kernel)) ggX13_worstCell_X13_apart
theorem dX13_worstCell_0 : decode cX13_worstCell 0 = .ok (.aload_n 0, 1) := by decide +kernel
theorem dX13_worstCell_1 : decode cX13_worstCell 1 = .ok (.iconst 0, 1) := by decide +kernel
theorem dX13_worstCell_2 : decode cX13_worstCell 2 = .ok (.putfield 93, 3) := by decide +kernel
theorem dX13_worstCell_5 : decode cX13_worstCell 5 = .ok (.iconst 0, 1) := by decide +kernel
theorem dX13_worstCell_6 : decode cX13_worstCell 6 = .ok (.istore_n 1, 1) := by decide +kernel
theorem dX13_worstCell_7 : decode cX13_worstCell 7 = .ok (.ldc_w 291, 3) := by decide +kernel
theorem dX13_worstCell_10 : decode cX13_worstCell 10 = .ok (.fstore_n 2, 1) := by decide +kernel
theorem dX13_worstCell_11 : decode cX13_worstCell 11 = .ok (.iconst 0, 1) := by decide +kernel
theorem dX13_worstCell_12 : decode cX13_worstCell 12 = .ok (.istore_n 3, 1) := by decide +kernel
theorem dX13_worstCell_13 : decode cX13_worstCell 13 = .ok (.iload_n 3, 1) := by decide +kernel
theorem dX13_worstCell_14 : decode cX13_worstCell 14 = .ok (.aload_n 0, 1) := by decide +kernel
theorem dX13_worstCell_15 : decode cX13_worstCell 15 = .ok (.getfield 20, 3) := by decide +kernel
theorem dX13_worstCell_18 : decode cX13_worstCell 18 = .ok (.iconst 1, 1) := by decide +kernel
theorem dX13_worstCell_19 : decode cX13_worstCell 19 = .ok (.iaload, 1) := by decide +kernel
theorem dX13_worstCell_20 : decode cX13_worstCell 20 = .ok (.if_icmp .ge 62, 3) := by decide +kernel
theorem dX13_worstCell_23 : decode cX13_worstCell 23 = .ok (.iconst 0, 1) := by decide +kernel
theorem dX13_worstCell_24 : decode cX13_worstCell 24 = .ok (.istore 4, 2) := by decide +kernel
theorem dX13_worstCell_26 : decode cX13_worstCell 26 = .ok (.iload 4, 2) := by decide +kernel
theorem dX13_worstCell_28 : decode cX13_worstCell 28 = .ok (.aload_n 0, 1) := by decide +kernel
theorem dX13_worstCell_29 : decode cX13_worstCell 29 = .ok (.getfield 20, 3) := by decide +kernel
theorem dX13_worstCell_32 : decode cX13_worstCell 32 = .ok (.iconst 0, 1) := by decide +kernel
theorem dX13_worstCell_33 : decode cX13_worstCell 33 = .ok (.iaload, 1) := by decide +kernel
theorem dX13_worstCell_34 : decode cX13_worstCell 34 = .ok (.if_icmp .ge 42, 3) := by decide +kernel
theorem dX13_worstCell_37 : decode cX13_worstCell 37 = .ok (.aload_n 0, 1) := by decide +kernel
theorem dX13_worstCell_38 : decode cX13_worstCell 38 = .ok (.iload 4, 2) := by decide +kernel
theorem dX13_worstCell_40 : decode cX13_worstCell 40 = .ok (.iload_n 3, 1) := by decide +kernel
theorem dX13_worstCell_41 : decode cX13_worstCell 41 = .ok (.invokevirtual 288, 3) := by decide +kernel
theorem dX13_worstCell_44 : decode cX13_worstCell 44 = .ok (.invokestatic 272, 3) := by decide +kernel
theorem dX13_worstCell_47 : decode cX13_worstCell 47 = .ok (.fstore 5, 2) := by decide +kernel
theorem dX13_worstCell_49 : decode cX13_worstCell 49 = .ok (.fload 5, 2) := by decide +kernel
theorem dX13_worstCell_51 : decode cX13_worstCell 51 = .ok (.fload_n 2, 1) := by decide +kernel
theorem dX13_worstCell_52 : decode cX13_worstCell 52 = .ok (.fcmp .g, 1) := by decide +kernel
theorem dX13_worstCell_53 : decode cX13_worstCell 53 = .ok (.ifCond .gt 6, 3) := by decide +kernel
theorem dX13_worstCell_56 : decode cX13_worstCell 56 = .ok (.goto 14, 3) := by decide +kernel
theorem dX13_worstCell_59 : decode cX13_worstCell 59 = .ok (.bipush 16, 2) := by decide +kernel
theorem dX13_worstCell_61 : decode cX13_worstCell 61 = .ok (.iload_n 3, 1) := by decide +kernel
theorem dX13_worstCell_62 : decode cX13_worstCell 62 = .ok (.imul, 1) := by decide +kernel
theorem dX13_worstCell_63 : decode cX13_worstCell 63 = .ok (.iload 4, 2) := by decide +kernel
theorem dX13_worstCell_65 : decode cX13_worstCell 65 = .ok (.iadd, 1) := by decide +kernel
theorem dX13_worstCell_66 : decode cX13_worstCell 66 = .ok (.istore_n 1, 1) := by decide +kernel
theorem dX13_worstCell_67 : decode cX13_worstCell 67 = .ok (.fload 5, 2) := by decide +kernel
theorem dX13_worstCell_69 : decode cX13_worstCell 69 = .ok (.fstore_n 2, 1) := by decide +kernel
theorem dX13_worstCell_70 : decode cX13_worstCell 70 = .ok (.iinc 4 1, 3) := by decide +kernel
theorem dX13_worstCell_73 : decode cX13_worstCell 73 = .ok (.goto (-47), 3) := by decide +kernel
theorem dX13_worstCell_76 : decode cX13_worstCell 76 = .ok (.iinc 3 1, 3) := by decide +kernel
theorem dX13_worstCell_79 : decode cX13_worstCell 79 = .ok (.goto (-66), 3) := by decide +kernel
theorem dX13_worstCell_82 : decode cX13_worstCell 82 = .ok (.iload_n 1, 1) := by decide +kernel
theorem dX13_worstCell_83 : decode cX13_worstCell 83 = .ok (.ireturn, 1) := by decide +kernel
set_option maxRecDepth 20000 in
theorem ggX13_fingerprint_X13_estimateAt : GoodIn wsX13_fingerprint wsX13_estimateAt := goodIn_r _ [7, 8, 9, 10, 11, 12, 13, 6, 14, 2, 15, 16, 17, 18, 19, 20, 21, 22, 23, 24, 25, 26, 39, 40, 41, 42, 43, 44, 45, 46, 47, 48, 49, 50, 51, 52, 53, 54, 55, 56, 57, 58, 59, 60, 61, 62, 63, 64, 65, 66, 67, 68, 69, 70, 71, 72, 73, 74, 75, 76, 77, 78, 79, 80, 81, 82, 83, 84, 85, 86] (by decide +kernel) (by decide +kernel)
set_option maxRecDepth 20000 in
theorem gX13_fingerprint_X13_estimateAt : GoodIn wsX13_fingerprint (wsV RX13 284 RX13 yX13_estimateAt wsX13_estimateAt) := goodIn_app (goodIn_of _ (by decide +kernel)) ggX13_fingerprint_X13_estimateAt
set_option maxRecDepth 20000 in
theorem ggX13_fingerprint_Jxf58ca_floatToIntBits_5c35a : GoodIn wsX13_fingerprint wsJxf58ca_floatToIntBits_5c35a := goodIn_r _ [30, 31, 32, 33, 34, 35, 36, 37, 29, 38] (by decide +kernel) (by decide +kernel)
set_option maxRecDepth 20000 in
theorem gX13_fingerprint_Jxf58ca_floatToIntBits_5c35a : GoodIn wsX13_fingerprint (va_wsS RX13 292 yJxf58ca_floatToIntBits_5c35a wsJxf58ca_floatToIntBits_5c35a) := goodIn_app (goodIn_of _ (by decide +kernel)) ggX13_fingerprint_Jxf58ca_floatToIntBits_5c35a
theorem dX13_fingerprint_0 : decode cX13_fingerprint 0 = .ok (.aload_n 0, 1) := by decide +kernel
theorem dX13_fingerprint_1 : decode cX13_fingerprint 1 = .ok (.iconst 0, 1) := by decide +kernel
theorem dX13_fingerprint_2 : decode cX13_fingerprint 2 = .ok (.putfield 93, 3) := by decide +kernel
theorem dX13_fingerprint_5 : decode cX13_fingerprint 5 = .ok (.bipush 17, 2) := by decide +kernel
theorem dX13_fingerprint_7 : decode cX13_fingerprint 7 = .ok (.istore_n 1, 1) := by decide +kernel
theorem dX13_fingerprint_8 : decode cX13_fingerprint 8 = .ok (.iconst 0, 1) := by decide +kernel
theorem dX13_fingerprint_9 : decode cX13_fingerprint 9 = .ok (.istore_n 2, 1) := by decide +kernel
theorem dX13_fingerprint_10 : decode cX13_fingerprint 10 = .ok (.iload_n 2, 1) := by decide +kernel
theorem dX13_fingerprint_11 : decode cX13_fingerprint 11 = .ok (.aload_n 0, 1) := by decide +kernel
theorem dX13_fingerprint_12 : decode cX13_fingerprint 12 = .ok (.getfield 20, 3) := by decide +kernel
theorem dX13_fingerprint_15 : decode cX13_fingerprint 15 = .ok (.iconst 1, 1) := by decide +kernel
theorem dX13_fingerprint_16 : decode cX13_fingerprint 16 = .ok (.iaload, 1) := by decide +kernel
theorem dX13_fingerprint_17 : decode cX13_fingerprint 17 = .ok (.if_icmp .ge 42, 3) := by decide +kernel
theorem dX13_fingerprint_20 : decode cX13_fingerprint 20 = .ok (.iconst 0, 1) := by decide +kernel
theorem dX13_fingerprint_21 : decode cX13_fingerprint 21 = .ok (.istore_n 3, 1) := by decide +kernel
theorem dX13_fingerprint_22 : decode cX13_fingerprint 22 = .ok (.iload_n 3, 1) := by decide +kernel
theorem dX13_fingerprint_23 : decode cX13_fingerprint 23 = .ok (.aload_n 0, 1) := by decide +kernel
theorem dX13_fingerprint_24 : decode cX13_fingerprint 24 = .ok (.getfield 20, 3) := by decide +kernel
theorem dX13_fingerprint_27 : decode cX13_fingerprint 27 = .ok (.iconst 0, 1) := by decide +kernel
theorem dX13_fingerprint_28 : decode cX13_fingerprint 28 = .ok (.iaload, 1) := by decide +kernel
theorem dX13_fingerprint_29 : decode cX13_fingerprint 29 = .ok (.if_icmp .ge 24, 3) := by decide +kernel
theorem dX13_fingerprint_32 : decode cX13_fingerprint 32 = .ok (.bipush 31, 2) := by decide +kernel
theorem dX13_fingerprint_34 : decode cX13_fingerprint 34 = .ok (.iload_n 1, 1) := by decide +kernel
theorem dX13_fingerprint_35 : decode cX13_fingerprint 35 = .ok (.imul, 1) := by decide +kernel
theorem dX13_fingerprint_36 : decode cX13_fingerprint 36 = .ok (.aload_n 0, 1) := by decide +kernel
theorem dX13_fingerprint_37 : decode cX13_fingerprint 37 = .ok (.iload_n 3, 1) := by decide +kernel
theorem dX13_fingerprint_38 : decode cX13_fingerprint 38 = .ok (.iload_n 2, 1) := by decide +kernel
theorem dX13_fingerprint_39 : decode cX13_fingerprint 39 = .ok (.invokevirtual 284, 3) := by decide +kernel
theorem dX13_fingerprint_42 : decode cX13_fingerprint 42 = .ok (.invokestatic 292, 3) := by decide +kernel
theorem dX13_fingerprint_45 : decode cX13_fingerprint 45 = .ok (.iadd, 1) := by decide +kernel
theorem dX13_fingerprint_46 : decode cX13_fingerprint 46 = .ok (.istore_n 1, 1) := by decide +kernel
theorem dX13_fingerprint_47 : decode cX13_fingerprint 47 = .ok (.iinc 3 1, 3) := by decide +kernel
theorem dX13_fingerprint_50 : decode cX13_fingerprint 50 = .ok (.goto (-28), 3) := by decide +kernel
theorem dX13_fingerprint_53 : decode cX13_fingerprint 53 = .ok (.iinc 2 1, 3) := by decide +kernel
theorem dX13_fingerprint_56 : decode cX13_fingerprint 56 = .ok (.goto (-46), 3) := by decide +kernel
theorem dX13_fingerprint_59 : decode cX13_fingerprint 59 = .ok (.iload_n 1, 1) := by decide +kernel
theorem dX13_fingerprint_60 : decode cX13_fingerprint 60 = .ok (.ireturn, 1) := by decide +kernel
set_option maxRecDepth 20000 in
theorem ggX13_brightestCell_X13_cellMany : GoodIn wsX13_brightestCell wsX13_cellMany := goodIn_r _ [5, 6, 34, 35, 36, 37, 38, 39, 40, 41, 42, 43, 44, 45, 46, 47, 48, 49, 50, 51, 52, 53, 54, 55, 56, 57, 58, 59, 60, 61, 62, 63, 64, 65, 66, 67, 68, 69, 70, 71, 72, 73, 74, 75, 76, 77, 78, 79, 80, 81] (by decide +kernel) (by decide +kernel)
set_option maxRecDepth 20000 in
theorem gX13_brightestCell_X13_cellMany : GoodIn wsX13_brightestCell (wsV RX13 251 RX13 yX13_cellMany wsX13_cellMany) := goodIn_app (goodIn_of _ (by decide +kernel)) ggX13_brightestCell_X13_cellMany
set_option maxRecDepth 20000 in
theorem ggX13_brightestCell_X13_cellAt : GoodIn wsX13_brightestCell wsX13_cellAt := goodIn_r _ [10, 6, 34, 35, 36, 37, 38, 39, 40, 41, 42, 43, 44, 45, 46, 47, 48, 49, 50, 51, 52, 53, 54, 55, 56, 57, 58, 59, 60, 61, 62, 63, 64, 65, 66, 67, 68, 69, 70, 71, 72, 73, 74, 75, 76, 77, 78, 79, 80, 81] (by decide +kernel) (by decide +kernel)
set_option maxRecDepth 20000 in
theorem gX13_brightestCell_X13_cellAt : GoodIn wsX13_brightestCell (wsV RX13 255 RX13 yX13_cellAt wsX13_cellAt) := goodIn_app (goodIn_of _ (by decide +kernel)) ggX13_brightestCell_X13_cellAt
set_option maxRecDepth 20000 in
theorem ggX13_brightestCell_X13_estimateAt : GoodIn wsX13_brightestCell wsX13_estimateAt := goodIn_r _ [14, 15, 16, 17, 18, 19, 20, 4, 21, 6, 22, 23, 24, 25, 26, 27, 28, 29, 30, 31, 32, 33, 34, 35, 36, 37, 38, 39, 40, 41, 42, 43, 44, 45, 46, 47, 48, 49, 50, 51, 52, 53, 54, 55, 56, 57, 58, 59, 60, 61, 62, 63, 64, 65, 66, 67, 68, 69, 70, 71, 72, 73, 74, 75, 76, 77, 78, 79, 80, 81] (by decide +kernel) (by decide +kernel)
set_option maxRecDepth 20000 in
theorem gX13_brightestCell_X13_estimateAt : GoodIn wsX13_brightestCell (wsV RX13 284 RX13 yX13_estimateAt wsX13_estimateAt) := goodIn_app (goodIn_of _ (by decide +kernel)) ggX13_brightestCell_X13_estimateAt
theorem dX13_brightestCell_0 : decode cX13_brightestCell 0 = .ok (.iconst 0, 1) := by decide +kernel
theorem dX13_brightestCell_1 : decode cX13_brightestCell 1 = .ok (.istore_n 1, 1) := by decide +kernel
theorem dX13_brightestCell_2 : decode cX13_brightestCell 2 = .ok (.iconst 1, 1) := by decide +kernel
theorem dX13_brightestCell_3 : decode cX13_brightestCell 3 = .ok (.istore_n 2, 1) := by decide +kernel
theorem dX13_brightestCell_4 : decode cX13_brightestCell 4 = .ok (.iload_n 2, 1) := by decide +kernel
theorem dX13_brightestCell_5 : decode cX13_brightestCell 5 = .ok (.aload_n 0, 1) := by decide +kernel
theorem dX13_brightestCell_6 : decode cX13_brightestCell 6 = .ok (.invokevirtual 251, 3) := by decide +kernel
theorem dX13_brightestCell_9 : decode cX13_brightestCell 9 = .ok (.if_icmp .ge 45, 3) := by decide +kernel
theorem dX13_brightestCell_12 : decode cX13_brightestCell 12 = .ok (.aload_n 0, 1) := by decide +kernel
theorem dX13_brightestCell_13 : decode cX13_brightestCell 13 = .ok (.iload_n 2, 1) := by decide +kernel
theorem dX13_brightestCell_14 : decode cX13_brightestCell 14 = .ok (.invokevirtual 255, 3) := by decide +kernel
theorem dX13_brightestCell_17 : decode cX13_brightestCell 17 = .ok (.istore_n 3, 1) := by decide +kernel
theorem dX13_brightestCell_18 : decode cX13_brightestCell 18 = .ok (.aload_n 0, 1) := by decide +kernel
theorem dX13_brightestCell_19 : decode cX13_brightestCell 19 = .ok (.iload_n 3, 1) := by decide +kernel
theorem dX13_brightestCell_20 : decode cX13_brightestCell 20 = .ok (.bipush 16, 2) := by decide +kernel
theorem dX13_brightestCell_22 : decode cX13_brightestCell 22 = .ok (.irem, 1) := by decide +kernel
theorem dX13_brightestCell_23 : decode cX13_brightestCell 23 = .ok (.iload_n 3, 1) := by decide +kernel
theorem dX13_brightestCell_24 : decode cX13_brightestCell 24 = .ok (.bipush 16, 2) := by decide +kernel
theorem dX13_brightestCell_26 : decode cX13_brightestCell 26 = .ok (.idiv, 1) := by decide +kernel
theorem dX13_brightestCell_27 : decode cX13_brightestCell 27 = .ok (.invokevirtual 284, 3) := by decide +kernel
theorem dX13_brightestCell_30 : decode cX13_brightestCell 30 = .ok (.aload_n 0, 1) := by decide +kernel
theorem dX13_brightestCell_31 : decode cX13_brightestCell 31 = .ok (.iload_n 1, 1) := by decide +kernel
theorem dX13_brightestCell_32 : decode cX13_brightestCell 32 = .ok (.bipush 16, 2) := by decide +kernel
theorem dX13_brightestCell_34 : decode cX13_brightestCell 34 = .ok (.irem, 1) := by decide +kernel
theorem dX13_brightestCell_35 : decode cX13_brightestCell 35 = .ok (.iload_n 1, 1) := by decide +kernel
theorem dX13_brightestCell_36 : decode cX13_brightestCell 36 = .ok (.bipush 16, 2) := by decide +kernel
theorem dX13_brightestCell_38 : decode cX13_brightestCell 38 = .ok (.idiv, 1) := by decide +kernel
theorem dX13_brightestCell_39 : decode cX13_brightestCell 39 = .ok (.invokevirtual 284, 3) := by decide +kernel
theorem dX13_brightestCell_42 : decode cX13_brightestCell 42 = .ok (.fcmp .l, 1) := by decide +kernel
theorem dX13_brightestCell_43 : decode cX13_brightestCell 43 = .ok (.ifCond .le 5, 3) := by decide +kernel
theorem dX13_brightestCell_46 : decode cX13_brightestCell 46 = .ok (.iload_n 3, 1) := by decide +kernel
theorem dX13_brightestCell_47 : decode cX13_brightestCell 47 = .ok (.istore_n 1, 1) := by decide +kernel
theorem dX13_brightestCell_48 : decode cX13_brightestCell 48 = .ok (.iinc 2 1, 3) := by decide +kernel
theorem dX13_brightestCell_51 : decode cX13_brightestCell 51 = .ok (.goto (-47), 3) := by decide +kernel
theorem dX13_brightestCell_54 : decode cX13_brightestCell 54 = .ok (.iload_n 1, 1) := by decide +kernel
theorem dX13_brightestCell_55 : decode cX13_brightestCell 55 = .ok (.ireturn, 1) := by decide +kernel
set_option maxRecDepth 20000 in
theorem ggX13_brightest_X13_brightestCell : GoodIn wsX13_brightest wsX13_brightestCell := goodIn_r _ [6, 7, 8, 9, 5, 10, 11, 12, 13, 14, 15, 16, 17, 18, 19, 20, 21, 22, 23, 24, 25, 26, 27, 28, 29, 30, 31, 32, 33, 34, 35, 36, 37, 38, 39, 40, 41, 42, 43, 44, 45, 46, 47, 48, 49, 50, 51, 52, 53, 54, 55, 56, 57, 58, 59, 60, 61, 62, 63, 64, 65, 66, 67, 68, 69, 70, 71, 72, 73, 74, 75, 76, 77, 78, 79, 80, 81, 82, 83, 84, 85, 86] (by decide +kernel) (by decide +kernel)
set_option maxRecDepth 20000 in
theorem gX13_brightest_X13_brightestCell : GoodIn wsX13_brightest (wsV RX13 297 RX13 yX13_brightestCell wsX13_brightestCell) := goodIn_app (goodIn_of _ (by decide +kernel)) ggX13_brightest_X13_brightestCell
theorem dX13_brightest_0 : decode cX13_brightest 0 = .ok (.aload_n 0, 1) := by decide +kernel
theorem dX13_brightest_1 : decode cX13_brightest 1 = .ok (.iconst 0, 1) := by decide +kernel
theorem dX13_brightest_2 : decode cX13_brightest 2 = .ok (.putfield 93, 3) := by decide +kernel
theorem dX13_brightest_5 : decode cX13_brightest 5 = .ok (.aload_n 0, 1) := by decide +kernel
theorem dX13_brightest_6 : decode cX13_brightest 6 = .ok (.invokevirtual 297, 3) := by decide +kernel
theorem dX13_brightest_9 : decode cX13_brightest 9 = .ok (.ireturn, 1) := by decide +kernel
set_option maxRecDepth 20000 in
theorem ggX13_darkestRow_X13_estimateAt : GoodIn wsX13_darkestRow wsX13_estimateAt := goodIn_r _ [7, 8, 9, 10, 11, 12, 13, 6, 14, 2, 15, 16, 17, 18, 19, 20, 21, 22, 23, 24, 25, 26, 27, 28, 29, 30, 31, 32, 33, 34, 35, 36, 37, 38, 39, 40, 41, 42, 43, 44, 45, 46, 47, 48, 49, 50, 51, 52, 53, 54, 55, 56, 57, 58, 59, 60, 61, 62, 63, 64, 65, 66, 67, 68, 69, 70, 71, 72, 73, 74] (by decide +kernel) (by decide +kernel)
set_option maxRecDepth 20000 in
theorem gX13_darkestRow_X13_estimateAt : GoodIn wsX13_darkestRow (wsV RX13 284 RX13 yX13_estimateAt wsX13_estimateAt) := goodIn_app (goodIn_of _ (by decide +kernel)) ggX13_darkestRow_X13_estimateAt
theorem dX13_darkestRow_0 : decode cX13_darkestRow 0 = .ok (.aload_n 0, 1) := by decide +kernel
theorem dX13_darkestRow_1 : decode cX13_darkestRow 1 = .ok (.iconst 0, 1) := by decide +kernel
theorem dX13_darkestRow_2 : decode cX13_darkestRow 2 = .ok (.putfield 93, 3) := by decide +kernel
theorem dX13_darkestRow_5 : decode cX13_darkestRow 5 = .ok (.iconst 0, 1) := by decide +kernel
theorem dX13_darkestRow_6 : decode cX13_darkestRow 6 = .ok (.istore_n 1, 1) := by decide +kernel
theorem dX13_darkestRow_7 : decode cX13_darkestRow 7 = .ok (.fconst 0, 1) := by decide +kernel
theorem dX13_darkestRow_8 : decode cX13_darkestRow 8 = .ok (.fstore_n 2, 1) := by decide +kernel
theorem dX13_darkestRow_9 : decode cX13_darkestRow 9 = .ok (.iconst 0, 1) := by decide +kernel
theorem dX13_darkestRow_10 : decode cX13_darkestRow 10 = .ok (.istore_n 3, 1) := by decide +kernel
theorem dX13_darkestRow_11 : decode cX13_darkestRow 11 = .ok (.iload_n 3, 1) := by decide +kernel
theorem dX13_darkestRow_12 : decode cX13_darkestRow 12 = .ok (.aload_n 0, 1) := by decide +kernel
theorem dX13_darkestRow_13 : decode cX13_darkestRow 13 = .ok (.getfield 20, 3) := by decide +kernel
theorem dX13_darkestRow_16 : decode cX13_darkestRow 16 = .ok (.iconst 1, 1) := by decide +kernel
theorem dX13_darkestRow_17 : decode cX13_darkestRow 17 = .ok (.iaload, 1) := by decide +kernel
theorem dX13_darkestRow_18 : decode cX13_darkestRow 18 = .ok (.if_icmp .ge 79, 3) := by decide +kernel
theorem dX13_darkestRow_21 : decode cX13_darkestRow 21 = .ok (.fconst 0, 1) := by decide +kernel
theorem dX13_darkestRow_22 : decode cX13_darkestRow 22 = .ok (.fstore 4, 2) := by decide +kernel
theorem dX13_darkestRow_24 : decode cX13_darkestRow 24 = .ok (.iconst 0, 1) := by decide +kernel
theorem dX13_darkestRow_25 : decode cX13_darkestRow 25 = .ok (.istore 5, 2) := by decide +kernel
theorem dX13_darkestRow_27 : decode cX13_darkestRow 27 = .ok (.iload 5, 2) := by decide +kernel
theorem dX13_darkestRow_29 : decode cX13_darkestRow 29 = .ok (.aload_n 0, 1) := by decide +kernel
theorem dX13_darkestRow_30 : decode cX13_darkestRow 30 = .ok (.getfield 20, 3) := by decide +kernel
theorem dX13_darkestRow_33 : decode cX13_darkestRow 33 = .ok (.iconst 0, 1) := by decide +kernel
theorem dX13_darkestRow_34 : decode cX13_darkestRow 34 = .ok (.iaload, 1) := by decide +kernel
theorem dX13_darkestRow_35 : decode cX13_darkestRow 35 = .ok (.if_icmp .ge 21, 3) := by decide +kernel
theorem dX13_darkestRow_38 : decode cX13_darkestRow 38 = .ok (.fload 4, 2) := by decide +kernel
theorem dX13_darkestRow_40 : decode cX13_darkestRow 40 = .ok (.aload_n 0, 1) := by decide +kernel
theorem dX13_darkestRow_41 : decode cX13_darkestRow 41 = .ok (.iload 5, 2) := by decide +kernel
theorem dX13_darkestRow_43 : decode cX13_darkestRow 43 = .ok (.iload_n 3, 1) := by decide +kernel
theorem dX13_darkestRow_44 : decode cX13_darkestRow 44 = .ok (.invokevirtual 284, 3) := by decide +kernel
theorem dX13_darkestRow_47 : decode cX13_darkestRow 47 = .ok (.fadd, 1) := by decide +kernel
theorem dX13_darkestRow_48 : decode cX13_darkestRow 48 = .ok (.fstore 4, 2) := by decide +kernel
theorem dX13_darkestRow_50 : decode cX13_darkestRow 50 = .ok (.iinc 5 1, 3) := by decide +kernel
theorem dX13_darkestRow_53 : decode cX13_darkestRow 53 = .ok (.goto (-26), 3) := by decide +kernel
theorem dX13_darkestRow_56 : decode cX13_darkestRow 56 = .ok (.iload_n 3, 1) := by decide +kernel
theorem dX13_darkestRow_57 : decode cX13_darkestRow 57 = .ok (.ifCond .le 14, 3) := by decide +kernel
theorem dX13_darkestRow_60 : decode cX13_darkestRow 60 = .ok (.fload 4, 2) := by decide +kernel
theorem dX13_darkestRow_62 : decode cX13_darkestRow 62 = .ok (.fload_n 2, 1) := by decide +kernel
theorem dX13_darkestRow_63 : decode cX13_darkestRow 63 = .ok (.fcmp .l, 1) := by decide +kernel
theorem dX13_darkestRow_64 : decode cX13_darkestRow 64 = .ok (.ifCond .lt 7, 3) := by decide +kernel
theorem dX13_darkestRow_67 : decode cX13_darkestRow 67 = .ok (.iload_n 1, 1) := by decide +kernel
theorem dX13_darkestRow_68 : decode cX13_darkestRow 68 = .ok (.goto 4, 3) := by decide +kernel
theorem dX13_darkestRow_71 : decode cX13_darkestRow 71 = .ok (.iload_n 3, 1) := by decide +kernel
theorem dX13_darkestRow_72 : decode cX13_darkestRow 72 = .ok (.istore_n 1, 1) := by decide +kernel
theorem dX13_darkestRow_73 : decode cX13_darkestRow 73 = .ok (.iload_n 3, 1) := by decide +kernel
theorem dX13_darkestRow_74 : decode cX13_darkestRow 74 = .ok (.ifCond .le 14, 3) := by decide +kernel
theorem dX13_darkestRow_77 : decode cX13_darkestRow 77 = .ok (.fload 4, 2) := by decide +kernel
theorem dX13_darkestRow_79 : decode cX13_darkestRow 79 = .ok (.fload_n 2, 1) := by decide +kernel
theorem dX13_darkestRow_80 : decode cX13_darkestRow 80 = .ok (.fcmp .l, 1) := by decide +kernel
theorem dX13_darkestRow_81 : decode cX13_darkestRow 81 = .ok (.ifCond .lt 7, 3) := by decide +kernel
theorem dX13_darkestRow_84 : decode cX13_darkestRow 84 = .ok (.fload_n 2, 1) := by decide +kernel
theorem dX13_darkestRow_85 : decode cX13_darkestRow 85 = .ok (.goto 5, 3) := by decide +kernel
theorem dX13_darkestRow_88 : decode cX13_darkestRow 88 = .ok (.fload 4, 2) := by decide +kernel
theorem dX13_darkestRow_90 : decode cX13_darkestRow 90 = .ok (.fstore_n 2, 1) := by decide +kernel
theorem dX13_darkestRow_91 : decode cX13_darkestRow 91 = .ok (.iinc 3 1, 3) := by decide +kernel
theorem dX13_darkestRow_94 : decode cX13_darkestRow 94 = .ok (.goto (-83), 3) := by decide +kernel
theorem dX13_darkestRow_97 : decode cX13_darkestRow 97 = .ok (.iload_n 1, 1) := by decide +kernel
theorem dX13_darkestRow_98 : decode cX13_darkestRow 98 = .ok (.ireturn, 1) := by decide +kernel
set_option maxRecDepth 20000 in
theorem ggX13_contrast_X13_estimateAt : GoodIn wsX13_contrast wsX13_estimateAt := goodIn_r _ [6, 7, 8, 9, 10, 11, 12, 5, 13, 14, 15, 16, 17, 18, 19, 20, 21, 22, 23, 24, 25, 26, 35, 36, 37, 38, 39, 40, 41, 42, 43, 44, 45, 46, 47, 48, 49, 50, 51, 52, 53, 54, 55, 56, 57, 58, 59, 60, 61, 62, 63, 64, 65, 66, 67, 68, 69, 70, 71, 72, 73, 74, 75, 76, 77, 78, 79, 80, 81, 82] (by decide +kernel) (by decide +kernel)
set_option maxRecDepth 20000 in
theorem gX13_contrast_X13_estimateAt : GoodIn wsX13_contrast (wsV RX13 284 RX13 yX13_estimateAt wsX13_estimateAt) := goodIn_app (goodIn_of _ (by decide +kernel)) ggX13_contrast_X13_estimateAt
set_option maxRecDepth 20000 in
theorem ggX13_contrast_X13_cellMany : GoodIn wsX13_contrast wsX13_cellMany := goodIn_r _ [30, 14, 35, 36, 37, 38, 39, 40, 41, 42, 43, 44, 45, 46, 47, 48, 49, 50, 51, 52, 53, 54, 55, 56, 57, 58, 59, 60, 61, 62, 63, 64, 65, 66, 67, 68, 69, 70, 71, 72, 73, 74, 75, 76, 77, 78, 79, 80, 81, 82] (by decide +kernel) (by decide +kernel)
set_option maxRecDepth 20000 in
theorem gX13_contrast_X13_cellMany : GoodIn wsX13_contrast (wsV RX13 251 RX13 yX13_cellMany wsX13_cellMany) := goodIn_app (goodIn_of _ (by decide +kernel)) ggX13_contrast_X13_cellMany
set_option maxRecDepth 20000 in
theorem ggX13_contrast_X13_cellAt : GoodIn wsX13_contrast wsX13_cellAt := goodIn_r _ [34, 14, 35, 36, 37, 38, 39, 40, 41, 42, 43, 44, 45, 46, 47, 48, 49, 50, 51, 52, 53, 54, 55, 56, 57, 58, 59, 60, 61, 62, 63, 64, 65, 66, 67, 68, 69, 70, 71, 72, 73, 74, 75, 76, 77, 78, 79, 80, 81, 82] (by decide +kernel) (by decide +kernel)
set_option maxRecDepth 20000 in
theorem gX13_contrast_X13_cellAt : GoodIn wsX13_contrast (wsV RX13 255 RX13 yX13_cellAt wsX13_cellAt) := goodIn_app (goodIn_of _ (by decide +kernel)) ggX13_contrast_X13_cellAt
theorem dX13_contrast_0 : decode cX13_contrast 0 = .ok (.aload_n 0, 1) := by decide +kernel
theorem dX13_contrast_1 : decode cX13_contrast 1 = .ok (.iconst 0, 1) := by decide +kernel
theorem dX13_contrast_2 : decode cX13_contrast 2 = .ok (.putfield 93, 3) := by decide +kernel
theorem dX13_contrast_5 : decode cX13_contrast 5 = .ok (.aload_n 0, 1) := by decide +kernel
theorem dX13_contrast_6 : decode cX13_contrast 6 = .ok (.iconst 0, 1) := by decide +kernel
theorem dX13_contrast_7 : decode cX13_contrast 7 = .ok (.iconst 0, 1) := by decide +kernel
theorem dX13_contrast_8 : decode cX13_contrast 8 = .ok (.invokevirtual 284, 3) := by decide +kernel
theorem dX13_contrast_11 : decode cX13_contrast 11 = .ok (.fstore_n 1, 1) := by decide +kernel
theorem dX13_contrast_12 : decode cX13_contrast 12 = .ok (.fload_n 1, 1) := by decide +kernel
theorem dX13_contrast_13 : decode cX13_contrast 13 = .ok (.fstore_n 2, 1) := by decide +kernel
theorem dX13_contrast_14 : decode cX13_contrast 14 = .ok (.iconst 1, 1) := by decide +kernel
theorem dX13_contrast_15 : decode cX13_contrast 15 = .ok (.istore_n 3, 1) := by decide +kernel
theorem dX13_contrast_16 : decode cX13_contrast 16 = .ok (.iload_n 3, 1) := by decide +kernel
theorem dX13_contrast_17 : decode cX13_contrast 17 = .ok (.aload_n 0, 1) := by decide +kernel
theorem dX13_contrast_18 : decode cX13_contrast 18 = .ok (.invokevirtual 251, 3) := by decide +kernel
theorem dX13_contrast_21 : decode cX13_contrast 21 = .ok (.if_icmp .ge 60, 3) := by decide +kernel
theorem dX13_contrast_24 : decode cX13_contrast 24 = .ok (.aload_n 0, 1) := by decide +kernel
theorem dX13_contrast_25 : decode cX13_contrast 25 = .ok (.iload_n 3, 1) := by decide +kernel
theorem dX13_contrast_26 : decode cX13_contrast 26 = .ok (.invokevirtual 255, 3) := by decide +kernel
theorem dX13_contrast_29 : decode cX13_contrast 29 = .ok (.istore 4, 2) := by decide +kernel
theorem dX13_contrast_31 : decode cX13_contrast 31 = .ok (.aload_n 0, 1) := by decide +kernel
theorem dX13_contrast_32 : decode cX13_contrast 32 = .ok (.iload 4, 2) := by decide +kernel
theorem dX13_contrast_34 : decode cX13_contrast 34 = .ok (.bipush 16, 2) := by decide +kernel
theorem dX13_contrast_36 : decode cX13_contrast 36 = .ok (.irem, 1) := by decide +kernel
theorem dX13_contrast_37 : decode cX13_contrast 37 = .ok (.iload 4, 2) := by decide +kernel
theorem dX13_contrast_39 : decode cX13_contrast 39 = .ok (.bipush 16, 2) := by decide +kernel
theorem dX13_contrast_41 : decode cX13_contrast 41 = .ok (.idiv, 1) := by decide +kernel
theorem dX13_contrast_42 : decode cX13_contrast 42 = .ok (.invokevirtual 284, 3) := by decide +kernel
theorem dX13_contrast_45 : decode cX13_contrast 45 = .ok (.fstore 5, 2) := by decide +kernel
theorem dX13_contrast_47 : decode cX13_contrast 47 = .ok (.fload 5, 2) := by decide +kernel
theorem dX13_contrast_49 : decode cX13_contrast 49 = .ok (.fload_n 1, 1) := by decide +kernel
theorem dX13_contrast_50 : decode cX13_contrast 50 = .ok (.fcmp .l, 1) := by decide +kernel
theorem dX13_contrast_51 : decode cX13_contrast 51 = .ok (.ifCond .le 8, 3) := by decide +kernel
theorem dX13_contrast_54 : decode cX13_contrast 54 = .ok (.fload 5, 2) := by decide +kernel
theorem dX13_contrast_56 : decode cX13_contrast 56 = .ok (.goto 4, 3) := by decide +kernel
theorem dX13_contrast_59 : decode cX13_contrast 59 = .ok (.fload_n 1, 1) := by decide +kernel
theorem dX13_contrast_60 : decode cX13_contrast 60 = .ok (.fstore_n 1, 1) := by decide +kernel
theorem dX13_contrast_61 : decode cX13_contrast 61 = .ok (.fload 5, 2) := by decide +kernel
theorem dX13_contrast_63 : decode cX13_contrast 63 = .ok (.fload_n 2, 1) := by decide +kernel
theorem dX13_contrast_64 : decode cX13_contrast 64 = .ok (.fcmp .g, 1) := by decide +kernel
theorem dX13_contrast_65 : decode cX13_contrast 65 = .ok (.ifCond .ge 8, 3) := by decide +kernel
theorem dX13_contrast_68 : decode cX13_contrast 68 = .ok (.fload 5, 2) := by decide +kernel
theorem dX13_contrast_70 : decode cX13_contrast 70 = .ok (.goto 4, 3) := by decide +kernel
theorem dX13_contrast_73 : decode cX13_contrast 73 = .ok (.fload_n 2, 1) := by decide +kernel
theorem dX13_contrast_74 : decode cX13_contrast 74 = .ok (.fstore_n 2, 1) := by decide +kernel
theorem dX13_contrast_75 : decode cX13_contrast 75 = .ok (.iinc 3 1, 3) := by decide +kernel
theorem dX13_contrast_78 : decode cX13_contrast 78 = .ok (.goto (-62), 3) := by decide +kernel
theorem dX13_contrast_81 : decode cX13_contrast 81 = .ok (.fload_n 1, 1) := by decide +kernel
theorem dX13_contrast_82 : decode cX13_contrast 82 = .ok (.fload_n 2, 1) := by decide +kernel
theorem dX13_contrast_83 : decode cX13_contrast 83 = .ok (.fsub, 1) := by decide +kernel
theorem dX13_contrast_84 : decode cX13_contrast 84 = .ok (.freturn, 1) := by decide +kernel
set_option maxRecDepth 20000 in
theorem ggX13_isAsHigh_X13_isCell : GoodIn wsX13_isAsHigh wsX13_isCell := goodIn_r _ [6, 7, 8, 9, 5, 10, 11, 12, 13, 14, 15, 16, 17, 18, 19, 20, 21, 22, 23, 24, 25, 26, 27, 28, 29, 30, 31, 32, 33, 34, 35, 36, 37, 38, 39, 40, 41, 42, 43, 44, 45, 46, 47, 48, 49, 50, 51, 52, 53, 54, 55, 56, 57, 58] (by decide +kernel) (by decide +kernel)
set_option maxRecDepth 20000 in
theorem gX13_isAsHigh_X13_isCell : GoodIn wsX13_isAsHigh (wsV RX13 195 RX13 yX13_isCell wsX13_isCell) := goodIn_app (goodIn_of _ (by decide +kernel)) ggX13_isAsHigh_X13_isCell
theorem dX13_isAsHigh_0 : decode cX13_isAsHigh 0 = .ok (.aload_n 0, 1) := by decide +kernel
theorem dX13_isAsHigh_1 : decode cX13_isAsHigh 1 = .ok (.iload_n 1, 1) := by decide +kernel
theorem dX13_isAsHigh_2 : decode cX13_isAsHigh 2 = .ok (.iload_n 2, 1) := by decide +kernel
theorem dX13_isAsHigh_3 : decode cX13_isAsHigh 3 = .ok (.invokevirtual 195, 3) := by decide +kernel
theorem dX13_isAsHigh_6 : decode cX13_isAsHigh 6 = .ok (.ifCond .eq 22, 3) := by decide +kernel
theorem dX13_isAsHigh_9 : decode cX13_isAsHigh 9 = .ok (.aload_n 0, 1) := by decide +kernel
theorem dX13_isAsHigh_10 : decode cX13_isAsHigh 10 = .ok (.getfield 29, 3) := by decide +kernel
theorem dX13_isAsHigh_13 : decode cX13_isAsHigh 13 = .ok (.bipush 16, 2) := by decide +kernel
theorem dX13_isAsHigh_15 : decode cX13_isAsHigh 15 = .ok (.iload_n 2, 1) := by decide +kernel
theorem dX13_isAsHigh_16 : decode cX13_isAsHigh 16 = .ok (.imul, 1) := by decide +kernel
theorem dX13_isAsHigh_17 : decode cX13_isAsHigh 17 = .ok (.iload_n 1, 1) := by decide +kernel
theorem dX13_isAsHigh_18 : decode cX13_isAsHigh 18 = .ok (.iadd, 1) := by decide +kernel
theorem dX13_isAsHigh_19 : decode cX13_isAsHigh 19 = .ok (.iaload, 1) := by decide +kernel
theorem dX13_isAsHigh_20 : decode cX13_isAsHigh 20 = .ok (.iload_n 3, 1) := by decide +kernel
theorem dX13_isAsHigh_21 : decode cX13_isAsHigh 21 = .ok (.if_icmp .lt 7, 3) := by decide +kernel
theorem dX13_isAsHigh_24 : decode cX13_isAsHigh 24 = .ok (.iconst 1, 1) := by decide +kernel
theorem dX13_isAsHigh_25 : decode cX13_isAsHigh 25 = .ok (.goto 4, 3) := by decide +kernel
theorem dX13_isAsHigh_28 : decode cX13_isAsHigh 28 = .ok (.iconst 0, 1) := by decide +kernel
theorem dX13_isAsHigh_29 : decode cX13_isAsHigh 29 = .ok (.ireturn, 1) := by decide +kernel
set_option maxRecDepth 20000 in
theorem ggX13_runOf_X13_isAsHigh : GoodIn wsX13_runOf wsX13_isAsHigh := goodIn_r _ [6, 1, 7, 8, 9, 5, 10, 11, 12, 13, 14, 15, 16, 17, 18, 19, 20, 21, 22, 23, 24, 25, 26, 27, 28, 29, 30, 31, 32, 33, 34, 35, 36, 37, 38, 39, 40, 41, 42, 43, 44, 45, 46, 47, 48, 49, 50, 51, 52, 53, 54, 55, 56, 57, 58, 59, 60, 61, 62] (by decide +kernel) (by decide +kernel)
set_option maxRecDepth 20000 in
theorem gX13_runOf_X13_isAsHigh : GoodIn wsX13_runOf (wsV RX13 300 RX13 yX13_isAsHigh wsX13_isAsHigh) := goodIn_app (goodIn_of _ (by decide +kernel)) ggX13_runOf_X13_isAsHigh
theorem dX13_runOf_0 : decode cX13_runOf 0 = .ok (.aload_n 0, 1) := by decide +kernel
theorem dX13_runOf_1 : decode cX13_runOf 1 = .ok (.getfield 29, 3) := by decide +kernel
theorem dX13_runOf_4 : decode cX13_runOf 4 = .ok (.bipush 16, 2) := by decide +kernel
theorem dX13_runOf_6 : decode cX13_runOf 6 = .ok (.iload_n 2, 1) := by decide +kernel
theorem dX13_runOf_7 : decode cX13_runOf 7 = .ok (.imul, 1) := by decide +kernel
theorem dX13_runOf_8 : decode cX13_runOf 8 = .ok (.iload_n 1, 1) := by decide +kernel
theorem dX13_runOf_9 : decode cX13_runOf 9 = .ok (.iadd, 1) := by decide +kernel
theorem dX13_runOf_10 : decode cX13_runOf 10 = .ok (.iaload, 1) := by decide +kernel
theorem dX13_runOf_11 : decode cX13_runOf 11 = .ok (.istore 5, 2) := by decide +kernel
theorem dX13_runOf_13 : decode cX13_runOf 13 = .ok (.iconst 1, 1) := by decide +kernel
theorem dX13_runOf_14 : decode cX13_runOf 14 = .ok (.istore 6, 2) := by decide +kernel
theorem dX13_runOf_16 : decode cX13_runOf 16 = .ok (.iconst 1, 1) := by decide +kernel
theorem dX13_runOf_17 : decode cX13_runOf 17 = .ok (.istore 7, 2) := by decide +kernel
theorem dX13_runOf_19 : decode cX13_runOf 19 = .ok (.aload_n 0, 1) := by decide +kernel
theorem dX13_runOf_20 : decode cX13_runOf 20 = .ok (.iload_n 1, 1) := by decide +kernel
theorem dX13_runOf_21 : decode cX13_runOf 21 = .ok (.iload 7, 2) := by decide +kernel
theorem dX13_runOf_23 : decode cX13_runOf 23 = .ok (.iload_n 3, 1) := by decide +kernel
theorem dX13_runOf_24 : decode cX13_runOf 24 = .ok (.imul, 1) := by decide +kernel
theorem dX13_runOf_25 : decode cX13_runOf 25 = .ok (.iadd, 1) := by decide +kernel
theorem dX13_runOf_26 : decode cX13_runOf 26 = .ok (.iload_n 2, 1) := by decide +kernel
theorem dX13_runOf_27 : decode cX13_runOf 27 = .ok (.iload 7, 2) := by decide +kernel
theorem dX13_runOf_29 : decode cX13_runOf 29 = .ok (.iload 4, 2) := by decide +kernel
theorem dX13_runOf_31 : decode cX13_runOf 31 = .ok (.imul, 1) := by decide +kernel
theorem dX13_runOf_32 : decode cX13_runOf 32 = .ok (.iadd, 1) := by decide +kernel
theorem dX13_runOf_33 : decode cX13_runOf 33 = .ok (.iload 5, 2) := by decide +kernel
theorem dX13_runOf_35 : decode cX13_runOf 35 = .ok (.invokevirtual 300, 3) := by decide +kernel
theorem dX13_runOf_38 : decode cX13_runOf 38 = .ok (.ifCond .eq 12, 3) := by decide +kernel
theorem dX13_runOf_41 : decode cX13_runOf 41 = .ok (.iinc 6 1, 3) := by decide +kernel
theorem dX13_runOf_44 : decode cX13_runOf 44 = .ok (.iinc 7 1, 3) := by decide +kernel
theorem dX13_runOf_47 : decode cX13_runOf 47 = .ok (.goto (-28), 3) := by decide +kernel
theorem dX13_runOf_50 : decode cX13_runOf 50 = .ok (.iconst 1, 1) := by decide +kernel
theorem dX13_runOf_51 : decode cX13_runOf 51 = .ok (.istore 7, 2) := by decide +kernel
theorem dX13_runOf_53 : decode cX13_runOf 53 = .ok (.aload_n 0, 1) := by decide +kernel
theorem dX13_runOf_54 : decode cX13_runOf 54 = .ok (.iload_n 1, 1) := by decide +kernel
theorem dX13_runOf_55 : decode cX13_runOf 55 = .ok (.iload 7, 2) := by decide +kernel
theorem dX13_runOf_57 : decode cX13_runOf 57 = .ok (.iload_n 3, 1) := by decide +kernel
theorem dX13_runOf_58 : decode cX13_runOf 58 = .ok (.imul, 1) := by decide +kernel
theorem dX13_runOf_59 : decode cX13_runOf 59 = .ok (.isub, 1) := by decide +kernel
theorem dX13_runOf_60 : decode cX13_runOf 60 = .ok (.iload_n 2, 1) := by decide +kernel
theorem dX13_runOf_61 : decode cX13_runOf 61 = .ok (.iload 7, 2) := by decide +kernel
theorem dX13_runOf_63 : decode cX13_runOf 63 = .ok (.iload 4, 2) := by decide +kernel
theorem dX13_runOf_65 : decode cX13_runOf 65 = .ok (.imul, 1) := by decide +kernel
theorem dX13_runOf_66 : decode cX13_runOf 66 = .ok (.isub, 1) := by decide +kernel
theorem dX13_runOf_67 : decode cX13_runOf 67 = .ok (.iload 5, 2) := by decide +kernel
theorem dX13_runOf_69 : decode cX13_runOf 69 = .ok (.invokevirtual 300, 3) := by decide +kernel
theorem dX13_runOf_72 : decode cX13_runOf 72 = .ok (.ifCond .eq 12, 3) := by decide +kernel
theorem dX13_runOf_75 : decode cX13_runOf 75 = .ok (.iinc 6 1, 3) := by decide +kernel
theorem dX13_runOf_78 : decode cX13_runOf 78 = .ok (.iinc 7 1, 3) := by decide +kernel
theorem dX13_runOf_81 : decode cX13_runOf 81 = .ok (.goto (-28), 3) := by decide +kernel
theorem dX13_runOf_84 : decode cX13_runOf 84 = .ok (.iload 6, 2) := by decide +kernel
theorem dX13_runOf_86 : decode cX13_runOf 86 = .ok (.ireturn, 1) := by decide +kernel
set_option maxRecDepth 20000 in
theorem ggX13_thin_X13_runOf : GoodIn wsX13_thin wsX13_runOf := goodIn_r _ [7, 1, 8, 9, 10, 6, 11, 12, 13, 14, 15, 2, 16, 17, 18, 19, 20, 21, 22, 23, 24, 25, 26, 27, 28, 29, 30, 31, 32, 33, 34, 35, 36, 37, 38, 39, 40, 41, 42, 43, 44, 45, 46, 47, 48, 49, 50, 51, 52, 53, 54, 55, 56, 57, 58, 59, 60, 61, 62, 63, 64, 65, 66] (by decide +kernel) (by decide +kernel)
set_option maxRecDepth 20000 in
theorem gX13_thin_X13_runOf : GoodIn wsX13_thin (wsV RX13 304 RX13 yX13_runOf wsX13_runOf) := goodIn_app (goodIn_of _ (by decide +kernel)) ggX13_thin_X13_runOf
theorem dX13_thin_0 : decode cX13_thin 0 = .ok (.aload_n 0, 1) := by decide +kernel
theorem dX13_thin_1 : decode cX13_thin 1 = .ok (.getfield 29, 3) := by decide +kernel
theorem dX13_thin_4 : decode cX13_thin 4 = .ok (.bipush 16, 2) := by decide +kernel
theorem dX13_thin_6 : decode cX13_thin 6 = .ok (.iload_n 2, 1) := by decide +kernel
theorem dX13_thin_7 : decode cX13_thin 7 = .ok (.imul, 1) := by decide +kernel
theorem dX13_thin_8 : decode cX13_thin 8 = .ok (.iload_n 1, 1) := by decide +kernel
theorem dX13_thin_9 : decode cX13_thin 9 = .ok (.iadd, 1) := by decide +kernel
theorem dX13_thin_10 : decode cX13_thin 10 = .ok (.iaload, 1) := by decide +kernel
theorem dX13_thin_11 : decode cX13_thin 11 = .ok (.aload_n 0, 1) := by decide +kernel
theorem dX13_thin_12 : decode cX13_thin 12 = .ok (.getfield 20, 3) := by decide +kernel
theorem dX13_thin_15 : decode cX13_thin 15 = .ok (.iconst 4, 1) := by decide +kernel
theorem dX13_thin_16 : decode cX13_thin 16 = .ok (.iaload, 1) := by decide +kernel
theorem dX13_thin_17 : decode cX13_thin 17 = .ok (.if_icmp .le 41, 3) := by decide +kernel
theorem dX13_thin_20 : decode cX13_thin 20 = .ok (.aload_n 0, 1) := by decide +kernel
theorem dX13_thin_21 : decode cX13_thin 21 = .ok (.iload_n 1, 1) := by decide +kernel
theorem dX13_thin_22 : decode cX13_thin 22 = .ok (.iload_n 2, 1) := by decide +kernel
theorem dX13_thin_23 : decode cX13_thin 23 = .ok (.iconst 1, 1) := by decide +kernel
theorem dX13_thin_24 : decode cX13_thin 24 = .ok (.iconst 0, 1) := by decide +kernel
theorem dX13_thin_25 : decode cX13_thin 25 = .ok (.invokevirtual 304, 3) := by decide +kernel
theorem dX13_thin_28 : decode cX13_thin 28 = .ok (.aload_n 0, 1) := by decide +kernel
theorem dX13_thin_29 : decode cX13_thin 29 = .ok (.getfield 20, 3) := by decide +kernel
theorem dX13_thin_32 : decode cX13_thin 32 = .ok (.iconst 5, 1) := by decide +kernel
theorem dX13_thin_33 : decode cX13_thin 33 = .ok (.iaload, 1) := by decide +kernel
theorem dX13_thin_34 : decode cX13_thin 34 = .ok (.if_icmp .ge 24, 3) := by decide +kernel
theorem dX13_thin_37 : decode cX13_thin 37 = .ok (.aload_n 0, 1) := by decide +kernel
theorem dX13_thin_38 : decode cX13_thin 38 = .ok (.iload_n 1, 1) := by decide +kernel
theorem dX13_thin_39 : decode cX13_thin 39 = .ok (.iload_n 2, 1) := by decide +kernel
theorem dX13_thin_40 : decode cX13_thin 40 = .ok (.iconst 0, 1) := by decide +kernel
theorem dX13_thin_41 : decode cX13_thin 41 = .ok (.iconst 1, 1) := by decide +kernel
theorem dX13_thin_42 : decode cX13_thin 42 = .ok (.invokevirtual 304, 3) := by decide +kernel
theorem dX13_thin_45 : decode cX13_thin 45 = .ok (.aload_n 0, 1) := by decide +kernel
theorem dX13_thin_46 : decode cX13_thin 46 = .ok (.getfield 20, 3) := by decide +kernel
theorem dX13_thin_49 : decode cX13_thin 49 = .ok (.iconst 5, 1) := by decide +kernel
theorem dX13_thin_50 : decode cX13_thin 50 = .ok (.iaload, 1) := by decide +kernel
theorem dX13_thin_51 : decode cX13_thin 51 = .ok (.if_icmp .ge 7, 3) := by decide +kernel
theorem dX13_thin_54 : decode cX13_thin 54 = .ok (.iconst 1, 1) := by decide +kernel
theorem dX13_thin_55 : decode cX13_thin 55 = .ok (.goto 4, 3) := by decide +kernel
theorem dX13_thin_58 : decode cX13_thin 58 = .ok (.iconst 0, 1) := by decide +kernel
theorem dX13_thin_59 : decode cX13_thin 59 = .ok (.ireturn, 1) := by decide +kernel
set_option maxRecDepth 20000 in
theorem ggX13_isThin_X13_isCell : GoodIn wsX13_isThin wsX13_isCell := goodIn_r _ [5, 6, 7, 8, 4, 9, 31, 32, 33, 34, 35, 36, 37, 38, 39, 40, 41, 42, 43, 44, 45, 46, 47, 48, 49, 50, 51, 52, 53, 54, 55, 56, 57, 58, 59, 60, 61, 62, 63, 64, 65, 66, 67, 68, 69, 70, 71, 72, 73, 74, 75, 76, 77, 78] (by decide +kernel) (by decide +kernel)
set_option maxRecDepth 20000 in
theorem gX13_isThin_X13_isCell : GoodIn wsX13_isThin (wsV RX13 195 RX13 yX13_isCell wsX13_isCell) := goodIn_app (goodIn_of _ (by decide +kernel)) ggX13_isThin_X13_isCell
set_option maxRecDepth 20000 in
theorem ggX13_isThin_X13_goes : GoodIn wsX13_isThin wsX13_goes := goodIn_r _ [13, 14, 15, 16, 4, 17, 31, 32, 33, 34, 35, 36, 37, 38, 39, 40, 41, 42, 43, 44, 45, 46, 47, 48, 49, 50, 51, 52, 53, 54, 55, 56, 57, 58, 59, 60, 61, 62, 63, 64, 65, 66, 67, 68, 69, 70, 71, 72, 73, 74, 75, 76, 77, 78] (by decide +kernel) (by decide +kernel)
set_option maxRecDepth 20000 in
theorem gX13_isThin_X13_goes : GoodIn wsX13_isThin (wsV RX13 103 RX13 yX13_goes wsX13_goes) := goodIn_app (goodIn_of _ (by decide +kernel)) ggX13_isThin_X13_goes
set_option maxRecDepth 20000 in
theorem ggX13_isThin_X13_thin : GoodIn wsX13_isThin wsX13_thin := goodIn_r _ [21, 22, 6, 23, 24, 25, 4, 26, 27, 28, 29, 30, 1, 2, 3, 5, 7, 8, 9, 31, 32, 33, 34, 35, 36, 37, 38, 39, 40, 41, 42, 43, 44, 45, 46, 47, 48, 49, 50, 51, 52, 53, 54, 55, 56, 57, 58, 59, 60, 61, 62, 63, 64, 65, 66, 67, 68, 69, 70, 71, 72, 73, 74, 75, 76, 77, 78] (by decide +kernel) (by decide +kernel)
set_option maxRecDepth 20000 in
theorem gX13_isThin_X13_thin : GoodIn wsX13_isThin (wsV RX13 308 RX13 yX13_thin wsX13_thin) := goodIn_app (goodIn_of _ (by decide +kernel)) ggX13_isThin_X13_thin
theorem dX13_isThin_0 : decode cX13_isThin 0 = .ok (.aload_n 0, 1) := by decide +kernel
theorem dX13_isThin_1 : decode cX13_isThin 1 = .ok (.aload_n 0, 1) := by decide +kernel
theorem dX13_isThin_2 : decode cX13_isThin 2 = .ok (.iload_n 1, 1) := by decide +kernel
theorem dX13_isThin_3 : decode cX13_isThin 3 = .ok (.iload_n 2, 1) := by decide +kernel
theorem dX13_isThin_4 : decode cX13_isThin 4 = .ok (.invokevirtual 195, 3) := by decide +kernel
theorem dX13_isThin_7 : decode cX13_isThin 7 = .ok (.invokevirtual 103, 3) := by decide +kernel
theorem dX13_isThin_10 : decode cX13_isThin 10 = .ok (.ifCond .eq 16, 3) := by decide +kernel
theorem dX13_isThin_13 : decode cX13_isThin 13 = .ok (.aload_n 0, 1) := by decide +kernel
theorem dX13_isThin_14 : decode cX13_isThin 14 = .ok (.iload_n 1, 1) := by decide +kernel
theorem dX13_isThin_15 : decode cX13_isThin 15 = .ok (.iload_n 2, 1) := by decide +kernel
theorem dX13_isThin_16 : decode cX13_isThin 16 = .ok (.invokevirtual 308, 3) := by decide +kernel
theorem dX13_isThin_19 : decode cX13_isThin 19 = .ok (.ifCond .eq 7, 3) := by decide +kernel
theorem dX13_isThin_22 : decode cX13_isThin 22 = .ok (.iconst 1, 1) := by decide +kernel
theorem dX13_isThin_23 : decode cX13_isThin 23 = .ok (.goto 4, 3) := by decide +kernel
theorem dX13_isThin_26 : decode cX13_isThin 26 = .ok (.iconst 0, 1) := by decide +kernel
theorem dX13_isThin_27 : decode cX13_isThin 27 = .ok (.ireturn, 1) := by decide +kernel
set_option maxRecDepth 20000 in
theorem ggX13_marksThin_X13_cellMany : GoodIn wsX13_marksThin wsX13_cellMany := goodIn_r _ [6, 7, 35, 36, 37, 38, 39, 40, 41, 42, 43, 44, 45, 46, 47, 48, 49, 50, 51, 52, 53, 54, 55, 56, 57, 58, 59, 60, 61, 62, 63, 64, 65, 66, 67, 68, 69, 70, 71, 72, 73, 74, 75, 76, 77, 78, 79, 80, 81, 82] (by decide +kernel) (by decide +kernel)
set_option maxRecDepth 20000 in
theorem gX13_marksThin_X13_cellMany : GoodIn wsX13_marksThin (wsV RX13 251 RX13 yX13_cellMany wsX13_cellMany) := goodIn_app (goodIn_of _ (by decide +kernel)) ggX13_marksThin_X13_cellMany
set_option maxRecDepth 20000 in
theorem ggX13_marksThin_X13_cellAt : GoodIn wsX13_marksThin wsX13_cellAt := goodIn_r _ [11, 7, 35, 36, 37, 38, 39, 40, 41, 42, 43, 44, 45, 46, 47, 48, 49, 50, 51, 52, 53, 54, 55, 56, 57, 58, 59, 60, 61, 62, 63, 64, 65, 66, 67, 68, 69, 70, 71, 72, 73, 74, 75, 76, 77, 78, 79, 80, 81, 82] (by decide +kernel) (by decide +kernel)
set_option maxRecDepth 20000 in
theorem gX13_marksThin_X13_cellAt : GoodIn wsX13_marksThin (wsV RX13 255 RX13 yX13_cellAt wsX13_cellAt) := goodIn_app (goodIn_of _ (by decide +kernel)) ggX13_marksThin_X13_cellAt
set_option maxRecDepth 20000 in
theorem ggX13_marksThin_X13_thin : GoodIn wsX13_marksThin wsX13_thin := goodIn_r _ [15, 16, 7, 17, 18, 19, 5, 20, 21, 22, 23, 24, 25, 26, 27, 28, 29, 30, 31, 35, 36, 37, 38, 39, 40, 41, 42, 43, 44, 45, 46, 47, 48, 49, 50, 51, 52, 53, 54, 55, 56, 57, 58, 59, 60, 61, 62, 63, 64, 65, 66, 67, 68, 69, 70, 71, 72, 73, 74, 75, 76, 77, 78, 79, 80, 81, 82] (by decide +kernel) (by decide +kernel)
set_option maxRecDepth 20000 in
theorem gX13_marksThin_X13_thin : GoodIn wsX13_marksThin (wsV RX13 308 RX13 yX13_thin wsX13_thin) := goodIn_app (goodIn_of _ (by decide +kernel)) ggX13_marksThin_X13_thin
set_option maxRecDepth 20000 in
theorem ggX13_marksThin_X13_truth : GoodIn wsX13_marksThin wsX13_truth := goodIn_r _ [34] (by decide +kernel) (by decide +kernel)
set_option maxRecDepth 20000 in
theorem gX13_marksThin_X13_truth : GoodIn wsX13_marksThin (va_wsS RX13 96 yX13_truth wsX13_truth) := goodIn_app (goodIn_of _ (by decide +kernel)) ggX13_marksThin_X13_truth
theorem dX13_marksThin_0 : decode cX13_marksThin 0 = .ok (.iconst 0, 1) := by decide +kernel
theorem dX13_marksThin_1 : decode cX13_marksThin 1 = .ok (.istore_n 1, 1) := by decide +kernel
theorem dX13_marksThin_2 : decode cX13_marksThin 2 = .ok (.iconst 0, 1) := by decide +kernel
theorem dX13_marksThin_3 : decode cX13_marksThin 3 = .ok (.istore_n 2, 1) := by decide +kernel
theorem dX13_marksThin_4 : decode cX13_marksThin 4 = .ok (.iload_n 2, 1) := by decide +kernel
theorem dX13_marksThin_5 : decode cX13_marksThin 5 = .ok (.aload_n 0, 1) := by decide +kernel
theorem dX13_marksThin_6 : decode cX13_marksThin 6 = .ok (.invokevirtual 251, 3) := by decide +kernel
theorem dX13_marksThin_9 : decode cX13_marksThin 9 = .ok (.if_icmp .ge 45, 3) := by decide +kernel
theorem dX13_marksThin_12 : decode cX13_marksThin 12 = .ok (.aload_n 0, 1) := by decide +kernel
theorem dX13_marksThin_13 : decode cX13_marksThin 13 = .ok (.iload_n 2, 1) := by decide +kernel
theorem dX13_marksThin_14 : decode cX13_marksThin 14 = .ok (.invokevirtual 255, 3) := by decide +kernel
theorem dX13_marksThin_17 : decode cX13_marksThin 17 = .ok (.istore_n 3, 1) := by decide +kernel
theorem dX13_marksThin_18 : decode cX13_marksThin 18 = .ok (.aload_n 0, 1) := by decide +kernel
theorem dX13_marksThin_19 : decode cX13_marksThin 19 = .ok (.getfield 35, 3) := by decide +kernel
theorem dX13_marksThin_22 : decode cX13_marksThin 22 = .ok (.iload_n 3, 1) := by decide +kernel
theorem dX13_marksThin_23 : decode cX13_marksThin 23 = .ok (.aload_n 0, 1) := by decide +kernel
theorem dX13_marksThin_24 : decode cX13_marksThin 24 = .ok (.iload_n 3, 1) := by decide +kernel
theorem dX13_marksThin_25 : decode cX13_marksThin 25 = .ok (.bipush 16, 2) := by decide +kernel
theorem dX13_marksThin_27 : decode cX13_marksThin 27 = .ok (.irem, 1) := by decide +kernel
theorem dX13_marksThin_28 : decode cX13_marksThin 28 = .ok (.iload_n 3, 1) := by decide +kernel
theorem dX13_marksThin_29 : decode cX13_marksThin 29 = .ok (.bipush 16, 2) := by decide +kernel
theorem dX13_marksThin_31 : decode cX13_marksThin 31 = .ok (.idiv, 1) := by decide +kernel
theorem dX13_marksThin_32 : decode cX13_marksThin 32 = .ok (.invokevirtual 308, 3) := by decide +kernel
theorem dX13_marksThin_35 : decode cX13_marksThin 35 = .ok (.bastore, 1) := by decide +kernel
theorem dX13_marksThin_36 : decode cX13_marksThin 36 = .ok (.iload_n 1, 1) := by decide +kernel
theorem dX13_marksThin_37 : decode cX13_marksThin 37 = .ok (.aload_n 0, 1) := by decide +kernel
theorem dX13_marksThin_38 : decode cX13_marksThin 38 = .ok (.getfield 35, 3) := by decide +kernel
theorem dX13_marksThin_41 : decode cX13_marksThin 41 = .ok (.iload_n 3, 1) := by decide +kernel
theorem dX13_marksThin_42 : decode cX13_marksThin 42 = .ok (.baload, 1) := by decide +kernel
theorem dX13_marksThin_43 : decode cX13_marksThin 43 = .ok (.invokestatic 96, 3) := by decide +kernel
theorem dX13_marksThin_46 : decode cX13_marksThin 46 = .ok (.iadd, 1) := by decide +kernel
theorem dX13_marksThin_47 : decode cX13_marksThin 47 = .ok (.istore_n 1, 1) := by decide +kernel
theorem dX13_marksThin_48 : decode cX13_marksThin 48 = .ok (.iinc 2 1, 3) := by decide +kernel
theorem dX13_marksThin_51 : decode cX13_marksThin 51 = .ok (.goto (-47), 3) := by decide +kernel
theorem dX13_marksThin_54 : decode cX13_marksThin 54 = .ok (.iload_n 1, 1) := by decide +kernel
theorem dX13_marksThin_55 : decode cX13_marksThin 55 = .ok (.ireturn, 1) := by decide +kernel
set_option maxRecDepth 20000 in
theorem ggX13_thinCells_X13_marksThin : GoodIn wsX13_thinCells wsX13_marksThin := goodIn_r _ [6, 7, 8, 9, 10, 5, 11, 12, 13, 14, 15, 16, 17, 18, 19, 20, 21, 22, 23, 24, 25, 26, 27, 28, 29, 30, 31, 32, 33, 34, 35, 36, 37, 38, 39, 40, 41, 42, 43, 44, 45, 46, 47, 48, 49, 50, 51, 52, 53, 54, 55, 56, 57, 58, 59, 60, 61, 62, 63, 64, 65, 66, 67, 68, 69, 70, 71, 72, 73, 74, 75, 76, 77, 78, 79, 80, 81, 82, 83, 84, 85, 86, 87] (by decide +kernel) (by decide +kernel)
set_option maxRecDepth 20000 in
theorem gX13_thinCells_X13_marksThin : GoodIn wsX13_thinCells (wsV RX13 311 RX13 yX13_marksThin wsX13_marksThin) := goodIn_app (goodIn_of _ (by decide +kernel)) ggX13_thinCells_X13_marksThin
theorem dX13_thinCells_0 : decode cX13_thinCells 0 = .ok (.aload_n 0, 1) := by decide +kernel
theorem dX13_thinCells_1 : decode cX13_thinCells 1 = .ok (.iconst 0, 1) := by decide +kernel
theorem dX13_thinCells_2 : decode cX13_thinCells 2 = .ok (.putfield 93, 3) := by decide +kernel
theorem dX13_thinCells_5 : decode cX13_thinCells 5 = .ok (.aload_n 0, 1) := by decide +kernel
theorem dX13_thinCells_6 : decode cX13_thinCells 6 = .ok (.invokevirtual 311, 3) := by decide +kernel
theorem dX13_thinCells_9 : decode cX13_thinCells 9 = .ok (.ireturn, 1) := by decide +kernel
set_option maxRecDepth 20000 in
theorem ggX13_repairs_X13_marksThin : GoodIn wsX13_repairs wsX13_marksThin := goodIn_r _ [7, 2, 8, 9, 10, 6, 11, 12, 13, 14, 15, 16, 17, 18, 19, 20, 1, 21, 22, 23, 24, 25, 26, 27, 28, 29, 30, 31, 32, 33, 34, 35, 36, 37, 38, 39, 40, 41, 42, 43, 44, 45, 46, 47, 48, 49, 50, 51, 52, 53, 54, 55, 56, 57, 58, 59, 60, 61, 62, 63, 64, 65, 66, 67, 68, 69, 70, 71, 72, 73, 74, 75, 76, 77, 78, 79, 80, 81, 82, 83, 84, 85, 86] (by decide +kernel) (by decide +kernel)
set_option maxRecDepth 20000 in
theorem gX13_repairs_X13_marksThin : GoodIn wsX13_repairs (wsV RX13 311 RX13 yX13_marksThin wsX13_marksThin) := goodIn_app (goodIn_of _ (by decide +kernel)) ggX13_repairs_X13_marksThin
set_option maxRecDepth 20000 in
theorem ggX13_repairs_X13_cellMany : GoodIn wsX13_repairs wsX13_cellMany := goodIn_r _ [11, 12, 39, 40, 41, 42, 43, 44, 45, 46, 47, 48, 49, 50, 51, 52, 53, 54, 55, 56, 57, 58, 59, 60, 61, 62, 63, 64, 65, 66, 67, 68, 69, 70, 71, 72, 73, 74, 75, 76, 77, 78, 79, 80, 81, 82, 83, 84, 85, 86] (by decide +kernel) (by decide +kernel)
set_option maxRecDepth 20000 in
theorem gX13_repairs_X13_cellMany : GoodIn wsX13_repairs (wsV RX13 251 RX13 yX13_cellMany wsX13_cellMany) := goodIn_app (goodIn_of _ (by decide +kernel)) ggX13_repairs_X13_cellMany
set_option maxRecDepth 20000 in
theorem ggX13_repairs_X13_cellAt : GoodIn wsX13_repairs wsX13_cellAt := goodIn_r _ [16, 12, 39, 40, 41, 42, 43, 44, 45, 46, 47, 48, 49, 50, 51, 52, 53, 54, 55, 56, 57, 58, 59, 60, 61, 62, 63, 64, 65, 66, 67, 68, 69, 70, 71, 72, 73, 74, 75, 76, 77, 78, 79, 80, 81, 82, 83, 84, 85, 86] (by decide +kernel) (by decide +kernel)
set_option maxRecDepth 20000 in
theorem gX13_repairs_X13_cellAt : GoodIn wsX13_repairs (wsV RX13 255 RX13 yX13_cellAt wsX13_cellAt) := goodIn_app (goodIn_of _ (by decide +kernel)) ggX13_repairs_X13_cellAt
set_option maxRecDepth 20000 in
theorem ggX13_repairs_X13_truth : GoodIn wsX13_repairs wsX13_truth := goodIn_r _ [38] (by decide +kernel) (by decide +kernel)
set_option maxRecDepth 20000 in
theorem gX13_repairs_X13_truth : GoodIn wsX13_repairs (va_wsS RX13 96 yX13_truth wsX13_truth) := goodIn_app (goodIn_of _ (by decide +kernel)) ggX13_repairs_X13_truth
theorem dX13_repairs_0 : decode cX13_repairs 0 = .ok (.iconst 0, 1) := by decide +kernel
theorem dX13_repairs_1 : decode cX13_repairs 1 = .ok (.istore_n 1, 1) := by decide +kernel
theorem dX13_repairs_2 : decode cX13_repairs 2 = .ok (.aload_n 0, 1) := by decide +kernel
theorem dX13_repairs_3 : decode cX13_repairs 3 = .ok (.invokevirtual 311, 3) := by decide +kernel
theorem dX13_repairs_6 : decode cX13_repairs 6 = .ok (.ifCond .le 51, 3) := by decide +kernel
theorem dX13_repairs_9 : decode cX13_repairs 9 = .ok (.iconst 0, 1) := by decide +kernel
theorem dX13_repairs_10 : decode cX13_repairs 10 = .ok (.istore_n 2, 1) := by decide +kernel
theorem dX13_repairs_11 : decode cX13_repairs 11 = .ok (.iload_n 2, 1) := by decide +kernel
theorem dX13_repairs_12 : decode cX13_repairs 12 = .ok (.aload_n 0, 1) := by decide +kernel
theorem dX13_repairs_13 : decode cX13_repairs 13 = .ok (.invokevirtual 251, 3) := by decide +kernel
theorem dX13_repairs_16 : decode cX13_repairs 16 = .ok (.if_icmp .ge 35, 3) := by decide +kernel
theorem dX13_repairs_19 : decode cX13_repairs 19 = .ok (.aload_n 0, 1) := by decide +kernel
theorem dX13_repairs_20 : decode cX13_repairs 20 = .ok (.getfield 29, 3) := by decide +kernel
theorem dX13_repairs_23 : decode cX13_repairs 23 = .ok (.aload_n 0, 1) := by decide +kernel
theorem dX13_repairs_24 : decode cX13_repairs 24 = .ok (.iload_n 2, 1) := by decide +kernel
theorem dX13_repairs_25 : decode cX13_repairs 25 = .ok (.invokevirtual 255, 3) := by decide +kernel
theorem dX13_repairs_28 : decode cX13_repairs 28 = .ok (.dup2, 1) := by decide +kernel
theorem dX13_repairs_29 : decode cX13_repairs 29 = .ok (.iaload, 1) := by decide +kernel
theorem dX13_repairs_30 : decode cX13_repairs 30 = .ok (.aload_n 0, 1) := by decide +kernel
theorem dX13_repairs_31 : decode cX13_repairs 31 = .ok (.getfield 35, 3) := by decide +kernel
theorem dX13_repairs_34 : decode cX13_repairs 34 = .ok (.aload_n 0, 1) := by decide +kernel
theorem dX13_repairs_35 : decode cX13_repairs 35 = .ok (.iload_n 2, 1) := by decide +kernel
theorem dX13_repairs_36 : decode cX13_repairs 36 = .ok (.invokevirtual 255, 3) := by decide +kernel
theorem dX13_repairs_39 : decode cX13_repairs 39 = .ok (.baload, 1) := by decide +kernel
theorem dX13_repairs_40 : decode cX13_repairs 40 = .ok (.invokestatic 96, 3) := by decide +kernel
theorem dX13_repairs_43 : decode cX13_repairs 43 = .ok (.isub, 1) := by decide +kernel
theorem dX13_repairs_44 : decode cX13_repairs 44 = .ok (.iastore, 1) := by decide +kernel
theorem dX13_repairs_45 : decode cX13_repairs 45 = .ok (.iinc 2 1, 3) := by decide +kernel
theorem dX13_repairs_48 : decode cX13_repairs 48 = .ok (.goto (-37), 3) := by decide +kernel
theorem dX13_repairs_51 : decode cX13_repairs 51 = .ok (.iinc 1 1, 3) := by decide +kernel
theorem dX13_repairs_54 : decode cX13_repairs 54 = .ok (.goto (-52), 3) := by decide +kernel
theorem dX13_repairs_57 : decode cX13_repairs 57 = .ok (.iload_n 1, 1) := by decide +kernel
theorem dX13_repairs_58 : decode cX13_repairs 58 = .ok (.ireturn, 1) := by decide +kernel
theorem dX13_laysAside_0 : decode cX13_laysAside 0 = .ok (.iconst 0, 1) := by decide +kernel
theorem dX13_laysAside_1 : decode cX13_laysAside 1 = .ok (.istore_n 1, 1) := by decide +kernel
theorem dX13_laysAside_2 : decode cX13_laysAside 2 = .ok (.iload_n 1, 1) := by decide +kernel
theorem dX13_laysAside_3 : decode cX13_laysAside 3 = .ok (.sipush 192, 3) := by decide +kernel
theorem dX13_laysAside_6 : decode cX13_laysAside 6 = .ok (.if_icmp .ge 33, 3) := by decide +kernel
theorem dX13_laysAside_9 : decode cX13_laysAside 9 = .ok (.aload_n 0, 1) := by decide +kernel
theorem dX13_laysAside_10 : decode cX13_laysAside 10 = .ok (.getfield 39, 3) := by decide +kernel
theorem dX13_laysAside_13 : decode cX13_laysAside 13 = .ok (.iload_n 1, 1) := by decide +kernel
theorem dX13_laysAside_14 : decode cX13_laysAside 14 = .ok (.aload_n 0, 1) := by decide +kernel
theorem dX13_laysAside_15 : decode cX13_laysAside 15 = .ok (.getfield 29, 3) := by decide +kernel
theorem dX13_laysAside_18 : decode cX13_laysAside 18 = .ok (.iload_n 1, 1) := by decide +kernel
theorem dX13_laysAside_19 : decode cX13_laysAside 19 = .ok (.iaload, 1) := by decide +kernel
theorem dX13_laysAside_20 : decode cX13_laysAside 20 = .ok (.iastore, 1) := by decide +kernel
theorem dX13_laysAside_21 : decode cX13_laysAside 21 = .ok (.aload_n 0, 1) := by decide +kernel
theorem dX13_laysAside_22 : decode cX13_laysAside 22 = .ok (.getfield 42, 3) := by decide +kernel
theorem dX13_laysAside_25 : decode cX13_laysAside 25 = .ok (.iload_n 1, 1) := by decide +kernel
theorem dX13_laysAside_26 : decode cX13_laysAside 26 = .ok (.aload_n 0, 1) := by decide +kernel
theorem dX13_laysAside_27 : decode cX13_laysAside 27 = .ok (.getfield 26, 3) := by decide +kernel
theorem dX13_laysAside_30 : decode cX13_laysAside 30 = .ok (.iload_n 1, 1) := by decide +kernel
theorem dX13_laysAside_31 : decode cX13_laysAside 31 = .ok (.iaload, 1) := by decide +kernel
theorem dX13_laysAside_32 : decode cX13_laysAside 32 = .ok (.iastore, 1) := by decide +kernel
theorem dX13_laysAside_33 : decode cX13_laysAside 33 = .ok (.iinc 1 1, 3) := by decide +kernel
theorem dX13_laysAside_36 : decode cX13_laysAside 36 = .ok (.goto (-34), 3) := by decide +kernel
theorem dX13_laysAside_39 : decode cX13_laysAside 39 = .ok (.return_, 1) := by decide +kernel
set_option maxRecDepth 20000 in
theorem ggX13_repairLoss_X13_laysAside : GoodIn wsX13_repairLoss wsX13_laysAside := goodIn_r _ [8, 3, 2, 9, 10, 55, 56, 57, 58, 59, 60, 61, 62, 63, 64, 65, 66, 67, 68, 69, 70, 71, 72, 73, 74, 75, 76, 77, 78, 79, 80, 81, 82, 83, 84, 85, 86, 87, 88, 89, 90, 91, 92, 93, 94, 95, 96, 97, 98, 99, 100, 101, 102] (by decide +kernel) (by decide +kernel)
set_option maxRecDepth 20000 in
theorem gX13_repairLoss_X13_laysAside : GoodIn wsX13_repairLoss (wsV RX13 314 RX13 yX13_laysAside wsX13_laysAside) := goodIn_app (goodIn_of _ (by decide +kernel)) ggX13_repairLoss_X13_laysAside
set_option maxRecDepth 20000 in
theorem ggX13_repairLoss_X13_volumeNow : GoodIn wsX13_repairLoss wsX13_volumeNow := goodIn_r _ [14, 2, 15, 16, 17, 7, 18, 19, 20, 21, 22, 23, 55, 56, 57, 58, 59, 60, 61, 62, 63, 64, 65, 66, 67, 68, 69, 70, 71, 72, 73, 74, 75, 76, 77, 78, 79, 80, 81, 82, 83, 84, 85, 86, 87, 88, 89, 90, 91, 92, 93, 94, 95, 96, 97, 98, 99, 100, 101, 102] (by decide +kernel) (by decide +kernel)
set_option maxRecDepth 20000 in
theorem gX13_repairLoss_X13_volumeNow : GoodIn wsX13_repairLoss (wsV RX13 258 RX13 yX13_volumeNow wsX13_volumeNow) := goodIn_app (goodIn_of _ (by decide +kernel)) ggX13_repairLoss_X13_volumeNow
set_option maxRecDepth 20000 in
theorem ggX13_repairLoss_X13_repairs : GoodIn wsX13_repairLoss wsX13_repairs := goodIn_r _ [27, 2, 28, 29, 30, 31, 7, 32, 15, 16, 17, 18, 19, 20, 21, 22, 23, 33, 34, 35, 36, 37, 38, 39, 40, 41, 42, 43, 44, 45, 46, 47, 48, 49, 50, 51, 52, 53, 54, 55, 56, 57, 58, 59, 60, 61, 62, 63, 64, 65, 66, 67, 68, 69, 70, 71, 72, 73, 74, 75, 76, 77, 78, 79, 80, 81, 82, 83, 84, 85, 86, 87, 88, 89, 90, 91, 92, 93, 94, 95, 96, 97, 98, 99, 100, 101, 102] (by decide +kernel) (by decide +kernel)
set_option maxRecDepth 20000 in
theorem gX13_repairLoss_X13_repairs : GoodIn wsX13_repairLoss (wsV RX13 317 RX13 yX13_repairs wsX13_repairs) := goodIn_app (goodIn_of _ (by decide +kernel)) ggX13_repairLoss_X13_repairs
theorem dX13_repairLoss_0 : decode cX13_repairLoss 0 = .ok (.aload_n 0, 1) := by decide +kernel
theorem dX13_repairLoss_1 : decode cX13_repairLoss 1 = .ok (.iconst 0, 1) := by decide +kernel
theorem dX13_repairLoss_2 : decode cX13_repairLoss 2 = .ok (.putfield 93, 3) := by decide +kernel
theorem dX13_repairLoss_5 : decode cX13_repairLoss 5 = .ok (.aload_n 0, 1) := by decide +kernel
theorem dX13_repairLoss_6 : decode cX13_repairLoss 6 = .ok (.invokevirtual 314, 3) := by decide +kernel
theorem dX13_repairLoss_9 : decode cX13_repairLoss 9 = .ok (.aload_n 0, 1) := by decide +kernel
theorem dX13_repairLoss_10 : decode cX13_repairLoss 10 = .ok (.invokevirtual 258, 3) := by decide +kernel
theorem dX13_repairLoss_13 : decode cX13_repairLoss 13 = .ok (.istore_n 1, 1) := by decide +kernel
theorem dX13_repairLoss_14 : decode cX13_repairLoss 14 = .ok (.aload_n 0, 1) := by decide +kernel
theorem dX13_repairLoss_15 : decode cX13_repairLoss 15 = .ok (.invokevirtual 317, 3) := by decide +kernel
theorem dX13_repairLoss_18 : decode cX13_repairLoss 18 = .ok (.istore_n 2, 1) := by decide +kernel
theorem dX13_repairLoss_19 : decode cX13_repairLoss 19 = .ok (.iload_n 1, 1) := by decide +kernel
theorem dX13_repairLoss_20 : decode cX13_repairLoss 20 = .ok (.aload_n 0, 1) := by decide +kernel
theorem dX13_repairLoss_21 : decode cX13_repairLoss 21 = .ok (.invokevirtual 258, 3) := by decide +kernel
theorem dX13_repairLoss_24 : decode cX13_repairLoss 24 = .ok (.isub, 1) := by decide +kernel
theorem dX13_repairLoss_25 : decode cX13_repairLoss 25 = .ok (.istore_n 3, 1) := by decide +kernel
theorem dX13_repairLoss_26 : decode cX13_repairLoss 26 = .ok (.iconst 0, 1) := by decide +kernel
theorem dX13_repairLoss_27 : decode cX13_repairLoss 27 = .ok (.istore 4, 2) := by decide +kernel
theorem dX13_repairLoss_29 : decode cX13_repairLoss 29 = .ok (.iload 4, 2) := by decide +kernel
theorem dX13_repairLoss_31 : decode cX13_repairLoss 31 = .ok (.sipush 192, 3) := by decide +kernel
theorem dX13_repairLoss_34 : decode cX13_repairLoss 34 = .ok (.if_icmp .ge 23, 3) := by decide +kernel
theorem dX13_repairLoss_37 : decode cX13_repairLoss 37 = .ok (.aload_n 0, 1) := by decide +kernel
theorem dX13_repairLoss_38 : decode cX13_repairLoss 38 = .ok (.getfield 29, 3) := by decide +kernel
theorem dX13_repairLoss_41 : decode cX13_repairLoss 41 = .ok (.iload 4, 2) := by decide +kernel
theorem dX13_repairLoss_43 : decode cX13_repairLoss 43 = .ok (.aload_n 0, 1) := by decide +kernel
theorem dX13_repairLoss_44 : decode cX13_repairLoss 44 = .ok (.getfield 39, 3) := by decide +kernel
theorem dX13_repairLoss_47 : decode cX13_repairLoss 47 = .ok (.iload 4, 2) := by decide +kernel
theorem dX13_repairLoss_49 : decode cX13_repairLoss 49 = .ok (.iaload, 1) := by decide +kernel
theorem dX13_repairLoss_50 : decode cX13_repairLoss 50 = .ok (.iastore, 1) := by decide +kernel
theorem dX13_repairLoss_51 : decode cX13_repairLoss 51 = .ok (.iinc 4 1, 3) := by decide +kernel
theorem dX13_repairLoss_54 : decode cX13_repairLoss 54 = .ok (.goto (-25), 3) := by decide +kernel
theorem dX13_repairLoss_57 : decode cX13_repairLoss 57 = .ok (.iload_n 2, 1) := by decide +kernel
theorem dX13_repairLoss_58 : decode cX13_repairLoss 58 = .ok (.ifCond .le 7, 3) := by decide +kernel
theorem dX13_repairLoss_61 : decode cX13_repairLoss 61 = .ok (.iload_n 3, 1) := by decide +kernel
theorem dX13_repairLoss_62 : decode cX13_repairLoss 62 = .ok (.goto 4, 3) := by decide +kernel
theorem dX13_repairLoss_65 : decode cX13_repairLoss 65 = .ok (.iconst 0, 1) := by decide +kernel
theorem dX13_repairLoss_66 : decode cX13_repairLoss 66 = .ok (.ireturn, 1) := by decide +kernel
set_option maxRecDepth 20000 in
theorem ggX13_standsOut_X13_more : GoodIn wsX13_standsOut wsX13_more := goodIn_r _ [6] (by decide +kernel) (by decide +kernel)
set_option maxRecDepth 20000 in
theorem gX13_standsOut_X13_more : GoodIn wsX13_standsOut (va_wsS RX13 264 yX13_more wsX13_more) := goodIn_app (goodIn_of _ (by decide +kernel)) ggX13_standsOut_X13_more
theorem dX13_standsOut_0 : decode cX13_standsOut 0 = .ok (.iload_n 2, 1) := by decide +kernel
theorem dX13_standsOut_1 : decode cX13_standsOut 1 = .ok (.ifCond .ne 7, 3) := by decide +kernel
theorem dX13_standsOut_4 : decode cX13_standsOut 4 = .ok (.iconst 0, 1) := by decide +kernel
theorem dX13_standsOut_5 : decode cX13_standsOut 5 = .ok (.goto 41, 3) := by decide +kernel
theorem dX13_standsOut_8 : decode cX13_standsOut 8 = .ok (.iconst 0, 1) := by decide +kernel
theorem dX13_standsOut_9 : decode cX13_standsOut 9 = .ok (.aload_n 0, 1) := by decide +kernel
theorem dX13_standsOut_10 : decode cX13_standsOut 10 = .ok (.getfield 29, 3) := by decide +kernel
theorem dX13_standsOut_13 : decode cX13_standsOut 13 = .ok (.bipush 16, 2) := by decide +kernel
theorem dX13_standsOut_15 : decode cX13_standsOut 15 = .ok (.iload_n 2, 1) := by decide +kernel
theorem dX13_standsOut_16 : decode cX13_standsOut 16 = .ok (.imul, 1) := by decide +kernel
theorem dX13_standsOut_17 : decode cX13_standsOut 17 = .ok (.iload_n 1, 1) := by decide +kernel
theorem dX13_standsOut_18 : decode cX13_standsOut 18 = .ok (.iadd, 1) := by decide +kernel
theorem dX13_standsOut_19 : decode cX13_standsOut 19 = .ok (.iaload, 1) := by decide +kernel
theorem dX13_standsOut_20 : decode cX13_standsOut 20 = .ok (.aload_n 0, 1) := by decide +kernel
theorem dX13_standsOut_21 : decode cX13_standsOut 21 = .ok (.getfield 29, 3) := by decide +kernel
theorem dX13_standsOut_24 : decode cX13_standsOut 24 = .ok (.bipush 16, 2) := by decide +kernel
theorem dX13_standsOut_26 : decode cX13_standsOut 26 = .ok (.iload_n 2, 1) := by decide +kernel
theorem dX13_standsOut_27 : decode cX13_standsOut 27 = .ok (.imul, 1) := by decide +kernel
theorem dX13_standsOut_28 : decode cX13_standsOut 28 = .ok (.bipush 16, 2) := by decide +kernel
theorem dX13_standsOut_30 : decode cX13_standsOut 30 = .ok (.isub, 1) := by decide +kernel
theorem dX13_standsOut_31 : decode cX13_standsOut 31 = .ok (.iload_n 1, 1) := by decide +kernel
theorem dX13_standsOut_32 : decode cX13_standsOut 32 = .ok (.iadd, 1) := by decide +kernel
theorem dX13_standsOut_33 : decode cX13_standsOut 33 = .ok (.iaload, 1) := by decide +kernel
theorem dX13_standsOut_34 : decode cX13_standsOut 34 = .ok (.isub, 1) := by decide +kernel
theorem dX13_standsOut_35 : decode cX13_standsOut 35 = .ok (.aload_n 0, 1) := by decide +kernel
theorem dX13_standsOut_36 : decode cX13_standsOut 36 = .ok (.getfield 20, 3) := by decide +kernel
theorem dX13_standsOut_39 : decode cX13_standsOut 39 = .ok (.bipush 6, 2) := by decide +kernel
theorem dX13_standsOut_41 : decode cX13_standsOut 41 = .ok (.iaload, 1) := by decide +kernel
theorem dX13_standsOut_42 : decode cX13_standsOut 42 = .ok (.isub, 1) := by decide +kernel
theorem dX13_standsOut_43 : decode cX13_standsOut 43 = .ok (.invokestatic 264, 3) := by decide +kernel
theorem dX13_standsOut_46 : decode cX13_standsOut 46 = .ok (.ireturn, 1) := by decide +kernel
set_option maxRecDepth 20000 in
theorem ggX13_overhang_X13_isCell : GoodIn wsX13_overhang wsX13_isCell := goodIn_r _ [5, 6, 7, 8, 4, 9, 26, 27, 28, 29, 30, 31, 32, 33, 34, 35, 36, 37, 38, 39, 40, 41, 42, 43, 44, 45, 46, 47, 48, 49, 50, 51, 52, 53, 54, 55, 56, 57, 58, 59, 60, 61, 62, 63, 64, 65, 66, 67, 68, 69, 70, 71, 72, 73] (by decide +kernel) (by decide +kernel)
set_option maxRecDepth 20000 in
theorem gX13_overhang_X13_isCell : GoodIn wsX13_overhang (wsV RX13 195 RX13 yX13_isCell wsX13_isCell) := goodIn_app (goodIn_of _ (by decide +kernel)) ggX13_overhang_X13_isCell
set_option maxRecDepth 20000 in
theorem ggX13_overhang_X13_goes : GoodIn wsX13_overhang wsX13_goes := goodIn_r _ [13, 14, 15, 16, 4, 17, 26, 27, 28, 29, 30, 31, 32, 33, 34, 35, 36, 37, 38, 39, 40, 41, 42, 43, 44, 45, 46, 47, 48, 49, 50, 51, 52, 53, 54, 55, 56, 57, 58, 59, 60, 61, 62, 63, 64, 65, 66, 67, 68, 69, 70, 71, 72, 73] (by decide +kernel) (by decide +kernel)
set_option maxRecDepth 20000 in
theorem gX13_overhang_X13_goes : GoodIn wsX13_overhang (wsV RX13 103 RX13 yX13_goes wsX13_goes) := goodIn_app (goodIn_of _ (by decide +kernel)) ggX13_overhang_X13_goes
set_option maxRecDepth 20000 in
theorem ggX13_overhang_X13_standsOut : GoodIn wsX13_overhang wsX13_standsOut := goodIn_r _ [21, 22, 6, 23, 24, 4, 25, 26, 27, 28, 29, 30, 31, 32, 33, 34, 35, 36, 37, 38, 39, 40, 41, 42, 43, 44, 45, 46, 47, 48, 49, 50, 51, 52, 53, 54, 55, 56, 57, 58, 59, 60, 61, 62, 63, 64, 65, 66, 67, 68, 69, 70, 71, 72, 73] (by decide +kernel) (by decide +kernel)
set_option maxRecDepth 20000 in
theorem gX13_overhang_X13_standsOut : GoodIn wsX13_overhang (wsV RX13 320 RX13 yX13_standsOut wsX13_standsOut) := goodIn_app (goodIn_of _ (by decide +kernel)) ggX13_overhang_X13_standsOut
theorem dX13_overhang_0 : decode cX13_overhang 0 = .ok (.aload_n 0, 1) := by decide +kernel
theorem dX13_overhang_1 : decode cX13_overhang 1 = .ok (.aload_n 0, 1) := by decide +kernel
theorem dX13_overhang_2 : decode cX13_overhang 2 = .ok (.iload_n 1, 1) := by decide +kernel
theorem dX13_overhang_3 : decode cX13_overhang 3 = .ok (.iload_n 2, 1) := by decide +kernel
theorem dX13_overhang_4 : decode cX13_overhang 4 = .ok (.invokevirtual 195, 3) := by decide +kernel
theorem dX13_overhang_7 : decode cX13_overhang 7 = .ok (.invokevirtual 103, 3) := by decide +kernel
theorem dX13_overhang_10 : decode cX13_overhang 10 = .ok (.ifCond .eq 12, 3) := by decide +kernel
theorem dX13_overhang_13 : decode cX13_overhang 13 = .ok (.aload_n 0, 1) := by decide +kernel
theorem dX13_overhang_14 : decode cX13_overhang 14 = .ok (.iload_n 1, 1) := by decide +kernel
theorem dX13_overhang_15 : decode cX13_overhang 15 = .ok (.iload_n 2, 1) := by decide +kernel
theorem dX13_overhang_16 : decode cX13_overhang 16 = .ok (.invokevirtual 320, 3) := by decide +kernel
theorem dX13_overhang_19 : decode cX13_overhang 19 = .ok (.goto 4, 3) := by decide +kernel
theorem dX13_overhang_22 : decode cX13_overhang 22 = .ok (.iconst 0, 1) := by decide +kernel
theorem dX13_overhang_23 : decode cX13_overhang 23 = .ok (.ireturn, 1) := by decide +kernel
set_option maxRecDepth 20000 in
theorem ggX13_supportLength_X13_standsOut : GoodIn wsX13_supportLength wsX13_standsOut := goodIn_r _ [6, 1, 7, 8, 9, 5, 10, 11, 12, 13, 14, 15, 16, 17, 18, 19, 20, 21, 22, 23, 24, 25, 26, 27, 28, 29, 30, 31, 32, 33, 34, 35, 36, 37, 38, 39, 40, 41, 42, 43, 44, 45, 46, 47, 48, 49, 50, 51, 52, 53, 54, 55, 56, 57, 58] (by decide +kernel) (by decide +kernel)
set_option maxRecDepth 20000 in
theorem gX13_supportLength_X13_standsOut : GoodIn wsX13_supportLength (wsV RX13 320 RX13 yX13_standsOut wsX13_standsOut) := goodIn_app (goodIn_of _ (by decide +kernel)) ggX13_supportLength_X13_standsOut
theorem dX13_supportLength_0 : decode cX13_supportLength 0 = .ok (.iload_n 3, 1) := by decide +kernel
theorem dX13_supportLength_1 : decode cX13_supportLength 1 = .ok (.aload_n 0, 1) := by decide +kernel
theorem dX13_supportLength_2 : decode cX13_supportLength 2 = .ok (.getfield 29, 3) := by decide +kernel
theorem dX13_supportLength_5 : decode cX13_supportLength 5 = .ok (.bipush 16, 2) := by decide +kernel
theorem dX13_supportLength_7 : decode cX13_supportLength 7 = .ok (.iload_n 2, 1) := by decide +kernel
theorem dX13_supportLength_8 : decode cX13_supportLength 8 = .ok (.imul, 1) := by decide +kernel
theorem dX13_supportLength_9 : decode cX13_supportLength 9 = .ok (.iload_n 1, 1) := by decide +kernel
theorem dX13_supportLength_10 : decode cX13_supportLength 10 = .ok (.iadd, 1) := by decide +kernel
theorem dX13_supportLength_11 : decode cX13_supportLength 11 = .ok (.iaload, 1) := by decide +kernel
theorem dX13_supportLength_12 : decode cX13_supportLength 12 = .ok (.aload_n 0, 1) := by decide +kernel
theorem dX13_supportLength_13 : decode cX13_supportLength 13 = .ok (.iload_n 1, 1) := by decide +kernel
theorem dX13_supportLength_14 : decode cX13_supportLength 14 = .ok (.iload_n 2, 1) := by decide +kernel
theorem dX13_supportLength_15 : decode cX13_supportLength 15 = .ok (.invokevirtual 320, 3) := by decide +kernel
theorem dX13_supportLength_18 : decode cX13_supportLength 18 = .ok (.isub, 1) := by decide +kernel
theorem dX13_supportLength_19 : decode cX13_supportLength 19 = .ok (.if_icmp .gt 5, 3) := by decide +kernel
theorem dX13_supportLength_22 : decode cX13_supportLength 22 = .ok (.iconst 0, 1) := by decide +kernel
theorem dX13_supportLength_23 : decode cX13_supportLength 23 = .ok (.ireturn, 1) := by decide +kernel
theorem dX13_supportLength_24 : decode cX13_supportLength 24 = .ok (.iconst 0, 1) := by decide +kernel
theorem dX13_supportLength_25 : decode cX13_supportLength 25 = .ok (.istore 4, 2) := by decide +kernel
theorem dX13_supportLength_27 : decode cX13_supportLength 27 = .ok (.iload_n 2, 1) := by decide +kernel
theorem dX13_supportLength_28 : decode cX13_supportLength 28 = .ok (.iconst 1, 1) := by decide +kernel
theorem dX13_supportLength_29 : decode cX13_supportLength 29 = .ok (.isub, 1) := by decide +kernel
theorem dX13_supportLength_30 : decode cX13_supportLength 30 = .ok (.istore 5, 2) := by decide +kernel
theorem dX13_supportLength_32 : decode cX13_supportLength 32 = .ok (.iload 5, 2) := by decide +kernel
theorem dX13_supportLength_34 : decode cX13_supportLength 34 = .ok (.ifCond .lt 28, 3) := by decide +kernel
theorem dX13_supportLength_37 : decode cX13_supportLength 37 = .ok (.aload_n 0, 1) := by decide +kernel
theorem dX13_supportLength_38 : decode cX13_supportLength 38 = .ok (.getfield 29, 3) := by decide +kernel
theorem dX13_supportLength_41 : decode cX13_supportLength 41 = .ok (.bipush 16, 2) := by decide +kernel
theorem dX13_supportLength_43 : decode cX13_supportLength 43 = .ok (.iload 5, 2) := by decide +kernel
theorem dX13_supportLength_45 : decode cX13_supportLength 45 = .ok (.imul, 1) := by decide +kernel
theorem dX13_supportLength_46 : decode cX13_supportLength 46 = .ok (.iload_n 1, 1) := by decide +kernel
theorem dX13_supportLength_47 : decode cX13_supportLength 47 = .ok (.iadd, 1) := by decide +kernel
theorem dX13_supportLength_48 : decode cX13_supportLength 48 = .ok (.iaload, 1) := by decide +kernel
theorem dX13_supportLength_49 : decode cX13_supportLength 49 = .ok (.iload_n 3, 1) := by decide +kernel
theorem dX13_supportLength_50 : decode cX13_supportLength 50 = .ok (.if_icmp .ge 12, 3) := by decide +kernel
theorem dX13_supportLength_53 : decode cX13_supportLength 53 = .ok (.iinc 4 1, 3) := by decide +kernel
theorem dX13_supportLength_56 : decode cX13_supportLength 56 = .ok (.iinc 5 (-1), 3) := by decide +kernel
theorem dX13_supportLength_59 : decode cX13_supportLength 59 = .ok (.goto (-27), 3) := by decide +kernel
theorem dX13_supportLength_62 : decode cX13_supportLength 62 = .ok (.iload 4, 2) := by decide +kernel
theorem dX13_supportLength_64 : decode cX13_supportLength 64 = .ok (.ireturn, 1) := by decide +kernel
set_option maxRecDepth 20000 in
theorem ggX13_supportOf_X13_isCell : GoodIn wsX13_supportOf wsX13_isCell := goodIn_r _ [7, 8, 9, 10, 6, 11, 26, 27, 28, 29, 30, 31, 32, 33, 34, 35, 36, 37, 38, 39, 40, 41, 42, 43, 44, 45, 46, 47, 48, 49, 50, 51, 52, 53, 54, 55, 56, 57, 58, 59, 60, 61, 62, 63, 64, 65, 66, 67, 68, 69, 70, 71, 72, 73] (by decide +kernel) (by decide +kernel)
set_option maxRecDepth 20000 in
theorem gX13_supportOf_X13_isCell : GoodIn wsX13_supportOf (wsV RX13 195 RX13 yX13_isCell wsX13_isCell) := goodIn_app (goodIn_of _ (by decide +kernel)) ggX13_supportOf_X13_isCell
set_option maxRecDepth 20000 in
theorem ggX13_supportOf_X13_isIn : GoodIn wsX13_supportOf wsX13_isIn := goodIn_r _ [11] (by decide +kernel) (by decide +kernel)
set_option maxRecDepth 20000 in
theorem gX13_supportOf_X13_isIn : GoodIn wsX13_supportOf (va_wsS RX13 111 yX13_isIn wsX13_isIn) := goodIn_app (goodIn_of _ (by decide +kernel)) ggX13_supportOf_X13_isIn
set_option maxRecDepth 20000 in
theorem ggX13_supportOf_X13_truth : GoodIn wsX13_supportOf wsX13_truth := goodIn_r _ [14] (by decide +kernel) (by decide +kernel)
set_option maxRecDepth 20000 in
theorem gX13_supportOf_X13_truth : GoodIn wsX13_supportOf (va_wsS RX13 96 yX13_truth wsX13_truth) := goodIn_app (goodIn_of _ (by decide +kernel)) ggX13_supportOf_X13_truth
set_option maxRecDepth 20000 in
theorem ggX13_supportOf_X13_supportLength : GoodIn wsX13_supportOf wsX13_supportLength := goodIn_r _ [18, 1, 19, 20, 21, 6, 22, 8, 23, 24, 25, 26, 27, 28, 29, 30, 31, 32, 33, 34, 35, 36, 37, 38, 39, 40, 41, 42, 43, 44, 45, 46, 47, 48, 49, 50, 51, 52, 53, 54, 55, 56, 57, 58, 59, 60, 61, 62, 63, 64, 65, 66, 67, 68, 69, 70, 71, 72, 73] (by decide +kernel) (by decide +kernel)
set_option maxRecDepth 20000 in
theorem gX13_supportOf_X13_supportLength : GoodIn wsX13_supportOf (wsV RX13 323 RX13 yX13_supportLength wsX13_supportLength) := goodIn_app (goodIn_of _ (by decide +kernel)) ggX13_supportOf_X13_supportLength
theorem dX13_supportOf_0 : decode cX13_supportOf 0 = .ok (.aload_n 0, 1) := by decide +kernel
theorem dX13_supportOf_1 : decode cX13_supportOf 1 = .ok (.iload_n 1, 1) := by decide +kernel
theorem dX13_supportOf_2 : decode cX13_supportOf 2 = .ok (.iload_n 2, 1) := by decide +kernel
theorem dX13_supportOf_3 : decode cX13_supportOf 3 = .ok (.invokevirtual 195, 3) := by decide +kernel
theorem dX13_supportOf_6 : decode cX13_supportOf 6 = .ok (.istore 4, 2) := by decide +kernel
theorem dX13_supportOf_8 : decode cX13_supportOf 8 = .ok (.aload_n 0, 1) := by decide +kernel
theorem dX13_supportOf_9 : decode cX13_supportOf 9 = .ok (.iload 4, 2) := by decide +kernel
theorem dX13_supportOf_11 : decode cX13_supportOf 11 = .ok (.ifCond .ne 7, 3) := by decide +kernel
theorem dX13_supportOf_14 : decode cX13_supportOf 14 = .ok (.iconst 1, 1) := by decide +kernel
theorem dX13_supportOf_15 : decode cX13_supportOf 15 = .ok (.goto 34, 3) := by decide +kernel
theorem dX13_supportOf_18 : decode cX13_supportOf 18 = .ok (.iload_n 3, 1) := by decide +kernel
theorem dX13_supportOf_19 : decode cX13_supportOf 19 = .ok (.i2l, 1) := by decide +kernel
theorem dX13_supportOf_20 : decode cX13_supportOf 20 = .ok (.lconst 1, 1) := by decide +kernel
theorem dX13_supportOf_21 : decode cX13_supportOf 21 = .ok (.aload_n 0, 1) := by decide +kernel
theorem dX13_supportOf_22 : decode cX13_supportOf 22 = .ok (.getfield 29, 3) := by decide +kernel
theorem dX13_supportOf_25 : decode cX13_supportOf 25 = .ok (.bipush 16, 2) := by decide +kernel
theorem dX13_supportOf_27 : decode cX13_supportOf 27 = .ok (.iload_n 2, 1) := by decide +kernel
theorem dX13_supportOf_28 : decode cX13_supportOf 28 = .ok (.imul, 1) := by decide +kernel
theorem dX13_supportOf_29 : decode cX13_supportOf 29 = .ok (.iload_n 1, 1) := by decide +kernel
theorem dX13_supportOf_30 : decode cX13_supportOf 30 = .ok (.iadd, 1) := by decide +kernel
theorem dX13_supportOf_31 : decode cX13_supportOf 31 = .ok (.iaload, 1) := by decide +kernel
theorem dX13_supportOf_32 : decode cX13_supportOf 32 = .ok (.i2l, 1) := by decide +kernel
theorem dX13_supportOf_33 : decode cX13_supportOf 33 = .ok (.invokestatic 111, 3) := by decide +kernel
theorem dX13_supportOf_36 : decode cX13_supportOf 36 = .ok (.ifCond .ne 7, 3) := by decide +kernel
theorem dX13_supportOf_39 : decode cX13_supportOf 39 = .ok (.iconst 1, 1) := by decide +kernel
theorem dX13_supportOf_40 : decode cX13_supportOf 40 = .ok (.goto 4, 3) := by decide +kernel
theorem dX13_supportOf_43 : decode cX13_supportOf 43 = .ok (.iconst 0, 1) := by decide +kernel
theorem dX13_supportOf_44 : decode cX13_supportOf 44 = .ok (.invokestatic 96, 3) := by decide +kernel
theorem dX13_supportOf_47 : decode cX13_supportOf 47 = .ok (.iconst 2, 1) := by decide +kernel
theorem dX13_supportOf_48 : decode cX13_supportOf 48 = .ok (.imul, 1) := by decide +kernel
theorem dX13_supportOf_49 : decode cX13_supportOf 49 = .ok (.putfield 93, 3) := by decide +kernel
theorem dX13_supportOf_52 : decode cX13_supportOf 52 = .ok (.aload_n 0, 1) := by decide +kernel
theorem dX13_supportOf_53 : decode cX13_supportOf 53 = .ok (.getfield 93, 3) := by decide +kernel
theorem dX13_supportOf_56 : decode cX13_supportOf 56 = .ok (.ifCond .le 7, 3) := by decide +kernel
theorem dX13_supportOf_59 : decode cX13_supportOf 59 = .ok (.iconst 0, 1) := by decide +kernel
theorem dX13_supportOf_60 : decode cX13_supportOf 60 = .ok (.goto 10, 3) := by decide +kernel
theorem dX13_supportOf_63 : decode cX13_supportOf 63 = .ok (.aload_n 0, 1) := by decide +kernel
theorem dX13_supportOf_64 : decode cX13_supportOf 64 = .ok (.iload_n 1, 1) := by decide +kernel
theorem dX13_supportOf_65 : decode cX13_supportOf 65 = .ok (.iload_n 2, 1) := by decide +kernel
theorem dX13_supportOf_66 : decode cX13_supportOf 66 = .ok (.iload_n 3, 1) := by decide +kernel
theorem dX13_supportOf_67 : decode cX13_supportOf 67 = .ok (.invokevirtual 323, 3) := by decide +kernel
theorem dX13_supportOf_70 : decode cX13_supportOf 70 = .ok (.ireturn, 1) := by decide +kernel
set_option maxRecDepth 20000 in
theorem ggX13_supportedCells_X13_cellMany : GoodIn wsX13_supportedCells wsX13_cellMany := goodIn_r _ [7, 2, 19, 20, 21, 22, 23, 24, 25, 26, 27, 28, 29, 30, 31, 32, 33, 34, 35, 36, 37, 38, 39, 40, 41, 42, 43, 44, 45, 46, 47, 48, 49, 50, 51, 52, 53, 54, 55, 56, 57, 58, 59, 60, 61, 62, 63, 64, 65, 66] (by decide +kernel) (by decide +kernel)
set_option maxRecDepth 20000 in
theorem gX13_supportedCells_X13_cellMany : GoodIn wsX13_supportedCells (wsV RX13 251 RX13 yX13_cellMany wsX13_cellMany) := goodIn_app (goodIn_of _ (by decide +kernel)) ggX13_supportedCells_X13_cellMany
set_option maxRecDepth 20000 in
theorem ggX13_supportedCells_X13_standsOut : GoodIn wsX13_supportedCells wsX13_standsOut := goodIn_r _ [11, 12, 2, 13, 14, 6, 15, 19, 20, 21, 22, 23, 24, 25, 26, 27, 28, 29, 30, 31, 32, 33, 34, 35, 36, 37, 38, 39, 40, 41, 42, 43, 44, 45, 46, 47, 48, 49, 50, 51, 52, 53, 54, 55, 56, 57, 58, 59, 60, 61, 62, 63, 64, 65, 66] (by decide +kernel) (by decide +kernel)
set_option maxRecDepth 20000 in
theorem gX13_supportedCells_X13_standsOut : GoodIn wsX13_supportedCells (wsV RX13 320 RX13 yX13_standsOut wsX13_standsOut) := goodIn_app (goodIn_of _ (by decide +kernel)) ggX13_supportedCells_X13_standsOut
set_option maxRecDepth 20000 in
theorem ggX13_supportedCells_X13_truth : GoodIn wsX13_supportedCells wsX13_truth := goodIn_r _ [18] (by decide +kernel) (by decide +kernel)
set_option maxRecDepth 20000 in
theorem gX13_supportedCells_X13_truth : GoodIn wsX13_supportedCells (va_wsS RX13 96 yX13_truth wsX13_truth) := goodIn_app (goodIn_of _ (by decide +kernel)) ggX13_supportedCells_X13_truth
theorem dX13_supportedCells_0 : decode cX13_supportedCells 0 = .ok (.aload_n 0, 1) := by decide +kernel
theorem dX13_supportedCells_1 : decode cX13_supportedCells 1 = .ok (.iconst 0, 1) := by decide +kernel
theorem dX13_supportedCells_2 : decode cX13_supportedCells 2 = .ok (.putfield 93, 3) := by decide +kernel
theorem dX13_supportedCells_5 : decode cX13_supportedCells 5 = .ok (.iconst 0, 1) := by decide +kernel
theorem dX13_supportedCells_6 : decode cX13_supportedCells 6 = .ok (.istore_n 1, 1) := by decide +kernel
theorem dX13_supportedCells_7 : decode cX13_supportedCells 7 = .ok (.iconst 0, 1) := by decide +kernel
theorem dX13_supportedCells_8 : decode cX13_supportedCells 8 = .ok (.istore_n 2, 1) := by decide +kernel
theorem dX13_supportedCells_9 : decode cX13_supportedCells 9 = .ok (.iload_n 2, 1) := by decide +kernel
theorem dX13_supportedCells_10 : decode cX13_supportedCells 10 = .ok (.aload_n 0, 1) := by decide +kernel
theorem dX13_supportedCells_11 : decode cX13_supportedCells 11 = .ok (.invokevirtual 251, 3) := by decide +kernel
theorem dX13_supportedCells_14 : decode cX13_supportedCells 14 = .ok (.if_icmp .ge 43, 3) := by decide +kernel
theorem dX13_supportedCells_17 : decode cX13_supportedCells 17 = .ok (.iload_n 1, 1) := by decide +kernel
theorem dX13_supportedCells_18 : decode cX13_supportedCells 18 = .ok (.aload_n 0, 1) := by decide +kernel
theorem dX13_supportedCells_19 : decode cX13_supportedCells 19 = .ok (.iload_n 2, 1) := by decide +kernel
theorem dX13_supportedCells_20 : decode cX13_supportedCells 20 = .ok (.aload_n 0, 1) := by decide +kernel
theorem dX13_supportedCells_21 : decode cX13_supportedCells 21 = .ok (.getfield 20, 3) := by decide +kernel
theorem dX13_supportedCells_24 : decode cX13_supportedCells 24 = .ok (.iconst 0, 1) := by decide +kernel
theorem dX13_supportedCells_25 : decode cX13_supportedCells 25 = .ok (.iaload, 1) := by decide +kernel
theorem dX13_supportedCells_26 : decode cX13_supportedCells 26 = .ok (.irem, 1) := by decide +kernel
theorem dX13_supportedCells_27 : decode cX13_supportedCells 27 = .ok (.iload_n 2, 1) := by decide +kernel
theorem dX13_supportedCells_28 : decode cX13_supportedCells 28 = .ok (.aload_n 0, 1) := by decide +kernel
theorem dX13_supportedCells_29 : decode cX13_supportedCells 29 = .ok (.getfield 20, 3) := by decide +kernel
theorem dX13_supportedCells_32 : decode cX13_supportedCells 32 = .ok (.iconst 0, 1) := by decide +kernel
theorem dX13_supportedCells_33 : decode cX13_supportedCells 33 = .ok (.iaload, 1) := by decide +kernel
theorem dX13_supportedCells_34 : decode cX13_supportedCells 34 = .ok (.idiv, 1) := by decide +kernel
theorem dX13_supportedCells_35 : decode cX13_supportedCells 35 = .ok (.invokevirtual 320, 3) := by decide +kernel
theorem dX13_supportedCells_38 : decode cX13_supportedCells 38 = .ok (.ifCond .le 7, 3) := by decide +kernel
theorem dX13_supportedCells_41 : decode cX13_supportedCells 41 = .ok (.iconst 1, 1) := by decide +kernel
theorem dX13_supportedCells_42 : decode cX13_supportedCells 42 = .ok (.goto 4, 3) := by decide +kernel
theorem dX13_supportedCells_45 : decode cX13_supportedCells 45 = .ok (.iconst 0, 1) := by decide +kernel
theorem dX13_supportedCells_46 : decode cX13_supportedCells 46 = .ok (.invokestatic 96, 3) := by decide +kernel
theorem dX13_supportedCells_49 : decode cX13_supportedCells 49 = .ok (.iadd, 1) := by decide +kernel
theorem dX13_supportedCells_50 : decode cX13_supportedCells 50 = .ok (.istore_n 1, 1) := by decide +kernel
theorem dX13_supportedCells_51 : decode cX13_supportedCells 51 = .ok (.iinc 2 1, 3) := by decide +kernel
theorem dX13_supportedCells_54 : decode cX13_supportedCells 54 = .ok (.goto (-45), 3) := by decide +kernel
theorem dX13_supportedCells_57 : decode cX13_supportedCells 57 = .ok (.iload_n 1, 1) := by decide +kernel
theorem dX13_supportedCells_58 : decode cX13_supportedCells 58 = .ok (.ireturn, 1) := by decide +kernel
set_option maxRecDepth 20000 in
theorem ggX13_supportVolume_X13_supportLength : GoodIn wsX13_supportVolume wsX13_supportLength := goodIn_r _ [8, 3, 9, 10, 11, 7, 12, 2, 13, 14, 15, 16, 17, 18, 19, 20, 21, 22, 23, 24, 25, 26, 27, 28, 29, 30, 31, 32, 33, 34, 35, 36, 37, 38, 39, 40, 41, 42, 43, 44, 45, 46, 47, 48, 49, 50, 51, 52, 53, 54, 55, 56, 57, 58, 59, 60, 61, 62, 63] (by decide +kernel) (by decide +kernel)
set_option maxRecDepth 20000 in
theorem gX13_supportVolume_X13_supportLength : GoodIn wsX13_supportVolume (wsV RX13 323 RX13 yX13_supportLength wsX13_supportLength) := goodIn_app (goodIn_of _ (by decide +kernel)) ggX13_supportVolume_X13_supportLength
theorem dX13_supportVolume_0 : decode cX13_supportVolume 0 = .ok (.aload_n 0, 1) := by decide +kernel
theorem dX13_supportVolume_1 : decode cX13_supportVolume 1 = .ok (.iconst 0, 1) := by decide +kernel
theorem dX13_supportVolume_2 : decode cX13_supportVolume 2 = .ok (.putfield 93, 3) := by decide +kernel
theorem dX13_supportVolume_5 : decode cX13_supportVolume 5 = .ok (.iconst 0, 1) := by decide +kernel
theorem dX13_supportVolume_6 : decode cX13_supportVolume 6 = .ok (.istore_n 1, 1) := by decide +kernel
theorem dX13_supportVolume_7 : decode cX13_supportVolume 7 = .ok (.iconst 1, 1) := by decide +kernel
theorem dX13_supportVolume_8 : decode cX13_supportVolume 8 = .ok (.istore_n 2, 1) := by decide +kernel
theorem dX13_supportVolume_9 : decode cX13_supportVolume 9 = .ok (.iload_n 2, 1) := by decide +kernel
theorem dX13_supportVolume_10 : decode cX13_supportVolume 10 = .ok (.aload_n 0, 1) := by decide +kernel
theorem dX13_supportVolume_11 : decode cX13_supportVolume 11 = .ok (.getfield 20, 3) := by decide +kernel
theorem dX13_supportVolume_14 : decode cX13_supportVolume 14 = .ok (.iconst 1, 1) := by decide +kernel
theorem dX13_supportVolume_15 : decode cX13_supportVolume 15 = .ok (.iaload, 1) := by decide +kernel
theorem dX13_supportVolume_16 : decode cX13_supportVolume 16 = .ok (.if_icmp .ge 63, 3) := by decide +kernel
theorem dX13_supportVolume_19 : decode cX13_supportVolume 19 = .ok (.iconst 0, 1) := by decide +kernel
theorem dX13_supportVolume_20 : decode cX13_supportVolume 20 = .ok (.istore_n 3, 1) := by decide +kernel
theorem dX13_supportVolume_21 : decode cX13_supportVolume 21 = .ok (.iload_n 3, 1) := by decide +kernel
theorem dX13_supportVolume_22 : decode cX13_supportVolume 22 = .ok (.aload_n 0, 1) := by decide +kernel
theorem dX13_supportVolume_23 : decode cX13_supportVolume 23 = .ok (.getfield 20, 3) := by decide +kernel
theorem dX13_supportVolume_26 : decode cX13_supportVolume 26 = .ok (.iconst 0, 1) := by decide +kernel
theorem dX13_supportVolume_27 : decode cX13_supportVolume 27 = .ok (.iaload, 1) := by decide +kernel
theorem dX13_supportVolume_28 : decode cX13_supportVolume 28 = .ok (.if_icmp .ge 45, 3) := by decide +kernel
theorem dX13_supportVolume_31 : decode cX13_supportVolume 31 = .ok (.iconst 1, 1) := by decide +kernel
theorem dX13_supportVolume_32 : decode cX13_supportVolume 32 = .ok (.istore 4, 2) := by decide +kernel
theorem dX13_supportVolume_34 : decode cX13_supportVolume 34 = .ok (.iload 4, 2) := by decide +kernel
theorem dX13_supportVolume_36 : decode cX13_supportVolume 36 = .ok (.aload_n 0, 1) := by decide +kernel
theorem dX13_supportVolume_37 : decode cX13_supportVolume 37 = .ok (.getfield 29, 3) := by decide +kernel
theorem dX13_supportVolume_40 : decode cX13_supportVolume 40 = .ok (.bipush 16, 2) := by decide +kernel
theorem dX13_supportVolume_42 : decode cX13_supportVolume 42 = .ok (.iload_n 2, 1) := by decide +kernel
theorem dX13_supportVolume_43 : decode cX13_supportVolume 43 = .ok (.imul, 1) := by decide +kernel
theorem dX13_supportVolume_44 : decode cX13_supportVolume 44 = .ok (.iload_n 3, 1) := by decide +kernel
theorem dX13_supportVolume_45 : decode cX13_supportVolume 45 = .ok (.iadd, 1) := by decide +kernel
theorem dX13_supportVolume_46 : decode cX13_supportVolume 46 = .ok (.iaload, 1) := by decide +kernel
theorem dX13_supportVolume_47 : decode cX13_supportVolume 47 = .ok (.if_icmp .gt 20, 3) := by decide +kernel
theorem dX13_supportVolume_50 : decode cX13_supportVolume 50 = .ok (.iload_n 1, 1) := by decide +kernel
theorem dX13_supportVolume_51 : decode cX13_supportVolume 51 = .ok (.aload_n 0, 1) := by decide +kernel
theorem dX13_supportVolume_52 : decode cX13_supportVolume 52 = .ok (.iload_n 3, 1) := by decide +kernel
theorem dX13_supportVolume_53 : decode cX13_supportVolume 53 = .ok (.iload_n 2, 1) := by decide +kernel
theorem dX13_supportVolume_54 : decode cX13_supportVolume 54 = .ok (.iload 4, 2) := by decide +kernel
theorem dX13_supportVolume_56 : decode cX13_supportVolume 56 = .ok (.invokevirtual 323, 3) := by decide +kernel
theorem dX13_supportVolume_59 : decode cX13_supportVolume 59 = .ok (.iadd, 1) := by decide +kernel
theorem dX13_supportVolume_60 : decode cX13_supportVolume 60 = .ok (.istore_n 1, 1) := by decide +kernel
theorem dX13_supportVolume_61 : decode cX13_supportVolume 61 = .ok (.iinc 4 1, 3) := by decide +kernel
theorem dX13_supportVolume_64 : decode cX13_supportVolume 64 = .ok (.goto (-30), 3) := by decide +kernel
theorem dX13_supportVolume_67 : decode cX13_supportVolume 67 = .ok (.iinc 3 1, 3) := by decide +kernel
theorem dX13_supportVolume_70 : decode cX13_supportVolume 70 = .ok (.goto (-49), 3) := by decide +kernel
theorem dX13_supportVolume_73 : decode cX13_supportVolume 73 = .ok (.iinc 2 1, 3) := by decide +kernel
theorem dX13_supportVolume_76 : decode cX13_supportVolume 76 = .ok (.goto (-67), 3) := by decide +kernel
theorem dX13_supportVolume_79 : decode cX13_supportVolume 79 = .ok (.iload_n 1, 1) := by decide +kernel
theorem dX13_supportVolume_80 : decode cX13_supportVolume 80 = .ok (.ireturn, 1) := by decide +kernel
set_option maxRecDepth 20000 in
theorem ggX13_safeSlope_X13_more : GoodIn wsX13_safeSlope wsX13_more := goodIn_r _ [7] (by decide +kernel) (by decide +kernel)
set_option maxRecDepth 20000 in
theorem gX13_safeSlope_X13_more : GoodIn wsX13_safeSlope (va_wsS RX13 264 yX13_more wsX13_more) := goodIn_app (goodIn_of _ (by decide +kernel)) ggX13_safeSlope_X13_more
theorem dX13_safeSlope_0 : decode cX13_safeSlope 0 = .ok (.aload_n 0, 1) := by decide +kernel
theorem dX13_safeSlope_1 : decode cX13_safeSlope 1 = .ok (.iconst 0, 1) := by decide +kernel
theorem dX13_safeSlope_2 : decode cX13_safeSlope 2 = .ok (.putfield 93, 3) := by decide +kernel
theorem dX13_safeSlope_5 : decode cX13_safeSlope 5 = .ok (.iconst 0, 1) := by decide +kernel
theorem dX13_safeSlope_6 : decode cX13_safeSlope 6 = .ok (.istore_n 1, 1) := by decide +kernel
theorem dX13_safeSlope_7 : decode cX13_safeSlope 7 = .ok (.iconst 1, 1) := by decide +kernel
theorem dX13_safeSlope_8 : decode cX13_safeSlope 8 = .ok (.istore_n 2, 1) := by decide +kernel
theorem dX13_safeSlope_9 : decode cX13_safeSlope 9 = .ok (.iload_n 2, 1) := by decide +kernel
theorem dX13_safeSlope_10 : decode cX13_safeSlope 10 = .ok (.aload_n 0, 1) := by decide +kernel
theorem dX13_safeSlope_11 : decode cX13_safeSlope 11 = .ok (.getfield 20, 3) := by decide +kernel
theorem dX13_safeSlope_14 : decode cX13_safeSlope 14 = .ok (.iconst 1, 1) := by decide +kernel
theorem dX13_safeSlope_15 : decode cX13_safeSlope 15 = .ok (.iaload, 1) := by decide +kernel
theorem dX13_safeSlope_16 : decode cX13_safeSlope 16 = .ok (.if_icmp .ge 58, 3) := by decide +kernel
theorem dX13_safeSlope_19 : decode cX13_safeSlope 19 = .ok (.iconst 0, 1) := by decide +kernel
theorem dX13_safeSlope_20 : decode cX13_safeSlope 20 = .ok (.istore_n 3, 1) := by decide +kernel
theorem dX13_safeSlope_21 : decode cX13_safeSlope 21 = .ok (.iload_n 3, 1) := by decide +kernel
theorem dX13_safeSlope_22 : decode cX13_safeSlope 22 = .ok (.aload_n 0, 1) := by decide +kernel
theorem dX13_safeSlope_23 : decode cX13_safeSlope 23 = .ok (.getfield 20, 3) := by decide +kernel
theorem dX13_safeSlope_26 : decode cX13_safeSlope 26 = .ok (.iconst 0, 1) := by decide +kernel
theorem dX13_safeSlope_27 : decode cX13_safeSlope 27 = .ok (.iaload, 1) := by decide +kernel
theorem dX13_safeSlope_28 : decode cX13_safeSlope 28 = .ok (.if_icmp .ge 40, 3) := by decide +kernel
theorem dX13_safeSlope_31 : decode cX13_safeSlope 31 = .ok (.iload_n 1, 1) := by decide +kernel
theorem dX13_safeSlope_32 : decode cX13_safeSlope 32 = .ok (.aload_n 0, 1) := by decide +kernel
theorem dX13_safeSlope_33 : decode cX13_safeSlope 33 = .ok (.getfield 29, 3) := by decide +kernel
theorem dX13_safeSlope_36 : decode cX13_safeSlope 36 = .ok (.bipush 16, 2) := by decide +kernel
theorem dX13_safeSlope_38 : decode cX13_safeSlope 38 = .ok (.iload_n 2, 1) := by decide +kernel
theorem dX13_safeSlope_39 : decode cX13_safeSlope 39 = .ok (.imul, 1) := by decide +kernel
theorem dX13_safeSlope_40 : decode cX13_safeSlope 40 = .ok (.iload_n 3, 1) := by decide +kernel
theorem dX13_safeSlope_41 : decode cX13_safeSlope 41 = .ok (.iadd, 1) := by decide +kernel
theorem dX13_safeSlope_42 : decode cX13_safeSlope 42 = .ok (.iaload, 1) := by decide +kernel
theorem dX13_safeSlope_43 : decode cX13_safeSlope 43 = .ok (.aload_n 0, 1) := by decide +kernel
theorem dX13_safeSlope_44 : decode cX13_safeSlope 44 = .ok (.getfield 29, 3) := by decide +kernel
theorem dX13_safeSlope_47 : decode cX13_safeSlope 47 = .ok (.bipush 16, 2) := by decide +kernel
theorem dX13_safeSlope_49 : decode cX13_safeSlope 49 = .ok (.iload_n 2, 1) := by decide +kernel
theorem dX13_safeSlope_50 : decode cX13_safeSlope 50 = .ok (.imul, 1) := by decide +kernel
theorem dX13_safeSlope_51 : decode cX13_safeSlope 51 = .ok (.bipush 16, 2) := by decide +kernel
theorem dX13_safeSlope_53 : decode cX13_safeSlope 53 = .ok (.isub, 1) := by decide +kernel
theorem dX13_safeSlope_54 : decode cX13_safeSlope 54 = .ok (.iload_n 3, 1) := by decide +kernel
theorem dX13_safeSlope_55 : decode cX13_safeSlope 55 = .ok (.iadd, 1) := by decide +kernel
theorem dX13_safeSlope_56 : decode cX13_safeSlope 56 = .ok (.iaload, 1) := by decide +kernel
theorem dX13_safeSlope_57 : decode cX13_safeSlope 57 = .ok (.isub, 1) := by decide +kernel
theorem dX13_safeSlope_58 : decode cX13_safeSlope 58 = .ok (.invokestatic 264, 3) := by decide +kernel
theorem dX13_safeSlope_61 : decode cX13_safeSlope 61 = .ok (.istore_n 1, 1) := by decide +kernel
theorem dX13_safeSlope_62 : decode cX13_safeSlope 62 = .ok (.iinc 3 1, 3) := by decide +kernel
theorem dX13_safeSlope_65 : decode cX13_safeSlope 65 = .ok (.goto (-44), 3) := by decide +kernel
theorem dX13_safeSlope_68 : decode cX13_safeSlope 68 = .ok (.iinc 2 1, 3) := by decide +kernel
theorem dX13_safeSlope_71 : decode cX13_safeSlope 71 = .ok (.goto (-62), 3) := by decide +kernel
theorem dX13_safeSlope_74 : decode cX13_safeSlope 74 = .ok (.iload_n 1, 1) := by decide +kernel
theorem dX13_safeSlope_75 : decode cX13_safeSlope 75 = .ok (.ireturn, 1) := by decide +kernel
set_option maxRecDepth 20000 in
theorem ggX13_isLayer_X13_isIn : GoodIn wsX13_isLayer wsX13_isIn := goodIn_r _ [5] (by decide +kernel) (by decide +kernel)
set_option maxRecDepth 20000 in
theorem gX13_isLayer_X13_isIn : GoodIn wsX13_isLayer (va_wsS RX13 111 yX13_isIn wsX13_isIn) := goodIn_app (goodIn_of _ (by decide +kernel)) ggX13_isLayer_X13_isIn
theorem dX13_isLayer_0 : decode cX13_isLayer 0 = .ok (.iload_n 1, 1) := by decide +kernel
theorem dX13_isLayer_1 : decode cX13_isLayer 1 = .ok (.i2l, 1) := by decide +kernel
theorem dX13_isLayer_2 : decode cX13_isLayer 2 = .ok (.lconst 1, 1) := by decide +kernel
theorem dX13_isLayer_3 : decode cX13_isLayer 3 = .ok (.aload_n 0, 1) := by decide +kernel
theorem dX13_isLayer_4 : decode cX13_isLayer 4 = .ok (.getfield 20, 3) := by decide +kernel
theorem dX13_isLayer_7 : decode cX13_isLayer 7 = .ok (.iconst 2, 1) := by decide +kernel
theorem dX13_isLayer_8 : decode cX13_isLayer 8 = .ok (.iaload, 1) := by decide +kernel
theorem dX13_isLayer_9 : decode cX13_isLayer 9 = .ok (.i2l, 1) := by decide +kernel
theorem dX13_isLayer_10 : decode cX13_isLayer 10 = .ok (.invokestatic 111, 3) := by decide +kernel
theorem dX13_isLayer_13 : decode cX13_isLayer 13 = .ok (.ireturn, 1) := by decide +kernel
set_option maxRecDepth 20000 in
theorem ggX13_isOf_X13_isCell : GoodIn wsX13_isOf wsX13_isCell := goodIn_r _ [6, 7, 8, 9, 5, 10, 11, 12, 13, 14, 15, 16, 17, 18, 19, 20, 21, 22, 23, 24, 25, 26, 27, 28, 29, 30, 31, 32, 33, 34, 35, 36, 37, 38, 39, 40, 41, 42, 43, 44, 45, 46, 47, 48, 49, 50, 51, 52, 53, 54, 55, 56, 57, 58] (by decide +kernel) (by decide +kernel)
set_option maxRecDepth 20000 in
theorem gX13_isOf_X13_isCell : GoodIn wsX13_isOf (wsV RX13 195 RX13 yX13_isCell wsX13_isCell) := goodIn_app (goodIn_of _ (by decide +kernel)) ggX13_isOf_X13_isCell
theorem dX13_isOf_0 : decode cX13_isOf 0 = .ok (.aload_n 0, 1) := by decide +kernel
theorem dX13_isOf_1 : decode cX13_isOf 1 = .ok (.iload_n 2, 1) := by decide +kernel
theorem dX13_isOf_2 : decode cX13_isOf 2 = .ok (.iload_n 3, 1) := by decide +kernel
theorem dX13_isOf_3 : decode cX13_isOf 3 = .ok (.invokevirtual 195, 3) := by decide +kernel
theorem dX13_isOf_6 : decode cX13_isOf 6 = .ok (.ifCond .eq 22, 3) := by decide +kernel
theorem dX13_isOf_9 : decode cX13_isOf 9 = .ok (.aload_n 0, 1) := by decide +kernel
theorem dX13_isOf_10 : decode cX13_isOf 10 = .ok (.getfield 29, 3) := by decide +kernel
theorem dX13_isOf_13 : decode cX13_isOf 13 = .ok (.bipush 16, 2) := by decide +kernel
theorem dX13_isOf_15 : decode cX13_isOf 15 = .ok (.iload_n 3, 1) := by decide +kernel
theorem dX13_isOf_16 : decode cX13_isOf 16 = .ok (.imul, 1) := by decide +kernel
theorem dX13_isOf_17 : decode cX13_isOf 17 = .ok (.iload_n 2, 1) := by decide +kernel
theorem dX13_isOf_18 : decode cX13_isOf 18 = .ok (.iadd, 1) := by decide +kernel
theorem dX13_isOf_19 : decode cX13_isOf 19 = .ok (.iaload, 1) := by decide +kernel
theorem dX13_isOf_20 : decode cX13_isOf 20 = .ok (.iload_n 1, 1) := by decide +kernel
theorem dX13_isOf_21 : decode cX13_isOf 21 = .ok (.if_icmp .lt 7, 3) := by decide +kernel
theorem dX13_isOf_24 : decode cX13_isOf 24 = .ok (.iconst 1, 1) := by decide +kernel
theorem dX13_isOf_25 : decode cX13_isOf 25 = .ok (.goto 4, 3) := by decide +kernel
theorem dX13_isOf_28 : decode cX13_isOf 28 = .ok (.iconst 0, 1) := by decide +kernel
theorem dX13_isOf_29 : decode cX13_isOf 29 = .ok (.ireturn, 1) := by decide +kernel
set_option maxRecDepth 20000 in
theorem ggX13_layerCells_X13_isLayer : GoodIn wsX13_layerCells wsX13_isLayer := goodIn_r _ [6, 7, 8, 9, 5, 10, 27, 28, 29, 30, 31, 32, 33, 34, 35, 36, 37, 38, 39, 40, 41, 42, 43, 44, 45, 46, 47, 48, 49, 50, 51, 52, 53, 54, 55, 56, 57, 58, 59, 60, 61, 62, 63, 64, 65, 66, 67, 68, 69, 70, 71, 72, 73, 74] (by decide +kernel) (by decide +kernel)
set_option maxRecDepth 20000 in
theorem gX13_layerCells_X13_isLayer : GoodIn wsX13_layerCells (wsV RX13 327 RX13 yX13_isLayer wsX13_isLayer) := goodIn_app (goodIn_of _ (by decide +kernel)) ggX13_layerCells_X13_isLayer
set_option maxRecDepth 20000 in
theorem ggX13_layerCells_X13_goes : GoodIn wsX13_layerCells wsX13_goes := goodIn_r _ [14, 15, 16, 17, 5, 18, 27, 28, 29, 30, 31, 32, 33, 34, 35, 36, 37, 38, 39, 40, 41, 42, 43, 44, 45, 46, 47, 48, 49, 50, 51, 52, 53, 54, 55, 56, 57, 58, 59, 60, 61, 62, 63, 64, 65, 66, 67, 68, 69, 70, 71, 72, 73, 74] (by decide +kernel) (by decide +kernel)
set_option maxRecDepth 20000 in
theorem gX13_layerCells_X13_goes : GoodIn wsX13_layerCells (wsV RX13 103 RX13 yX13_goes wsX13_goes) := goodIn_app (goodIn_of _ (by decide +kernel)) ggX13_layerCells_X13_goes
set_option maxRecDepth 20000 in
theorem ggX13_layerCells_X13_cellMany : GoodIn wsX13_layerCells wsX13_cellMany := goodIn_r _ [22, 7, 27, 28, 29, 30, 31, 32, 33, 34, 35, 36, 37, 38, 39, 40, 41, 42, 43, 44, 45, 46, 47, 48, 49, 50, 51, 52, 53, 54, 55, 56, 57, 58, 59, 60, 61, 62, 63, 64, 65, 66, 67, 68, 69, 70, 71, 72, 73, 74] (by decide +kernel) (by decide +kernel)
set_option maxRecDepth 20000 in
theorem gX13_layerCells_X13_cellMany : GoodIn wsX13_layerCells (wsV RX13 251 RX13 yX13_cellMany wsX13_cellMany) := goodIn_app (goodIn_of _ (by decide +kernel)) ggX13_layerCells_X13_cellMany
set_option maxRecDepth 20000 in
theorem ggX13_layerCells_X13_cellAt : GoodIn wsX13_layerCells wsX13_cellAt := goodIn_r _ [26, 7, 27, 28, 29, 30, 31, 32, 33, 34, 35, 36, 37, 38, 39, 40, 41, 42, 43, 44, 45, 46, 47, 48, 49, 50, 51, 52, 53, 54, 55, 56, 57, 58, 59, 60, 61, 62, 63, 64, 65, 66, 67, 68, 69, 70, 71, 72, 73, 74] (by decide +kernel) (by decide +kernel)
set_option maxRecDepth 20000 in
theorem gX13_layerCells_X13_cellAt : GoodIn wsX13_layerCells (wsV RX13 255 RX13 yX13_cellAt wsX13_cellAt) := goodIn_app (goodIn_of _ (by decide +kernel)) ggX13_layerCells_X13_cellAt
set_option maxRecDepth 20000 in
theorem ggX13_layerCells_X13_truth : GoodIn wsX13_layerCells wsX13_truth := goodIn_r _ [18] (by decide +kernel) (by decide +kernel)
set_option maxRecDepth 20000 in
theorem gX13_layerCells_X13_truth : GoodIn wsX13_layerCells (va_wsS RX13 96 yX13_truth wsX13_truth) := goodIn_app (goodIn_of _ (by decide +kernel)) ggX13_layerCells_X13_truth
theorem dX13_layerCells_0 : decode cX13_layerCells 0 = .ok (.aload_n 0, 1) := by decide +kernel
theorem dX13_layerCells_1 : decode cX13_layerCells 1 = .ok (.aload_n 0, 1) := by decide +kernel
theorem dX13_layerCells_2 : decode cX13_layerCells 2 = .ok (.iload_n 1, 1) := by decide +kernel
theorem dX13_layerCells_3 : decode cX13_layerCells 3 = .ok (.invokevirtual 327, 3) := by decide +kernel
theorem dX13_layerCells_6 : decode cX13_layerCells 6 = .ok (.invokevirtual 103, 3) := by decide +kernel
theorem dX13_layerCells_9 : decode cX13_layerCells 9 = .ok (.ifCond .ne 5, 3) := by decide +kernel
theorem dX13_layerCells_12 : decode cX13_layerCells 12 = .ok (.iconst 0, 1) := by decide +kernel
theorem dX13_layerCells_13 : decode cX13_layerCells 13 = .ok (.ireturn, 1) := by decide +kernel
theorem dX13_layerCells_14 : decode cX13_layerCells 14 = .ok (.iconst 0, 1) := by decide +kernel
theorem dX13_layerCells_15 : decode cX13_layerCells 15 = .ok (.istore_n 2, 1) := by decide +kernel
theorem dX13_layerCells_16 : decode cX13_layerCells 16 = .ok (.iconst 0, 1) := by decide +kernel
theorem dX13_layerCells_17 : decode cX13_layerCells 17 = .ok (.istore_n 3, 1) := by decide +kernel
theorem dX13_layerCells_18 : decode cX13_layerCells 18 = .ok (.iload_n 3, 1) := by decide +kernel
theorem dX13_layerCells_19 : decode cX13_layerCells 19 = .ok (.aload_n 0, 1) := by decide +kernel
theorem dX13_layerCells_20 : decode cX13_layerCells 20 = .ok (.invokevirtual 251, 3) := by decide +kernel
theorem dX13_layerCells_23 : decode cX13_layerCells 23 = .ok (.if_icmp .ge 34, 3) := by decide +kernel
theorem dX13_layerCells_26 : decode cX13_layerCells 26 = .ok (.iload_n 2, 1) := by decide +kernel
theorem dX13_layerCells_27 : decode cX13_layerCells 27 = .ok (.aload_n 0, 1) := by decide +kernel
theorem dX13_layerCells_28 : decode cX13_layerCells 28 = .ok (.getfield 29, 3) := by decide +kernel
theorem dX13_layerCells_31 : decode cX13_layerCells 31 = .ok (.aload_n 0, 1) := by decide +kernel
theorem dX13_layerCells_32 : decode cX13_layerCells 32 = .ok (.iload_n 3, 1) := by decide +kernel
theorem dX13_layerCells_33 : decode cX13_layerCells 33 = .ok (.invokevirtual 255, 3) := by decide +kernel
theorem dX13_layerCells_36 : decode cX13_layerCells 36 = .ok (.iaload, 1) := by decide +kernel
theorem dX13_layerCells_37 : decode cX13_layerCells 37 = .ok (.iload_n 1, 1) := by decide +kernel
theorem dX13_layerCells_38 : decode cX13_layerCells 38 = .ok (.if_icmp .lt 7, 3) := by decide +kernel
theorem dX13_layerCells_41 : decode cX13_layerCells 41 = .ok (.iconst 1, 1) := by decide +kernel
theorem dX13_layerCells_42 : decode cX13_layerCells 42 = .ok (.goto 4, 3) := by decide +kernel
theorem dX13_layerCells_45 : decode cX13_layerCells 45 = .ok (.iconst 0, 1) := by decide +kernel
theorem dX13_layerCells_46 : decode cX13_layerCells 46 = .ok (.invokestatic 96, 3) := by decide +kernel
theorem dX13_layerCells_49 : decode cX13_layerCells 49 = .ok (.iadd, 1) := by decide +kernel
theorem dX13_layerCells_50 : decode cX13_layerCells 50 = .ok (.istore_n 2, 1) := by decide +kernel
theorem dX13_layerCells_51 : decode cX13_layerCells 51 = .ok (.iinc 3 1, 3) := by decide +kernel
theorem dX13_layerCells_54 : decode cX13_layerCells 54 = .ok (.goto (-36), 3) := by decide +kernel
theorem dX13_layerCells_57 : decode cX13_layerCells 57 = .ok (.iload_n 2, 1) := by decide +kernel
theorem dX13_layerCells_58 : decode cX13_layerCells 58 = .ok (.ireturn, 1) := by decide +kernel
set_option maxRecDepth 20000 in
theorem ggX13_beginsRun_X13_isOf : GoodIn wsX13_beginsRun wsX13_isOf := goodIn_r _ [5, 6, 7, 8, 9, 4, 10, 11, 12, 13, 14, 15, 16, 17, 18, 19, 20, 21, 22, 23, 24, 25, 26, 27, 28, 29, 30, 31, 32, 33, 34, 35, 36, 37, 38, 39, 40, 41, 42, 43, 44, 45, 46, 47, 48, 49, 50, 51, 52, 53, 54, 55, 56, 57, 58, 59, 60, 61, 62] (by decide +kernel) (by decide +kernel)
set_option maxRecDepth 20000 in
theorem gX13_beginsRun_X13_isOf : GoodIn wsX13_beginsRun (wsV RX13 330 RX13 yX13_isOf wsX13_isOf) := goodIn_app (goodIn_of _ (by decide +kernel)) ggX13_beginsRun_X13_isOf
theorem dX13_beginsRun_0 : decode cX13_beginsRun 0 = .ok (.aload_n 0, 1) := by decide +kernel
theorem dX13_beginsRun_1 : decode cX13_beginsRun 1 = .ok (.iload_n 1, 1) := by decide +kernel
theorem dX13_beginsRun_2 : decode cX13_beginsRun 2 = .ok (.iload_n 2, 1) := by decide +kernel
theorem dX13_beginsRun_3 : decode cX13_beginsRun 3 = .ok (.iload_n 3, 1) := by decide +kernel
theorem dX13_beginsRun_4 : decode cX13_beginsRun 4 = .ok (.invokevirtual 330, 3) := by decide +kernel
theorem dX13_beginsRun_7 : decode cX13_beginsRun 7 = .ok (.ifCond .eq 19, 3) := by decide +kernel
theorem dX13_beginsRun_10 : decode cX13_beginsRun 10 = .ok (.aload_n 0, 1) := by decide +kernel
theorem dX13_beginsRun_11 : decode cX13_beginsRun 11 = .ok (.iload_n 1, 1) := by decide +kernel
theorem dX13_beginsRun_12 : decode cX13_beginsRun 12 = .ok (.iload_n 2, 1) := by decide +kernel
theorem dX13_beginsRun_13 : decode cX13_beginsRun 13 = .ok (.iconst 1, 1) := by decide +kernel
theorem dX13_beginsRun_14 : decode cX13_beginsRun 14 = .ok (.isub, 1) := by decide +kernel
theorem dX13_beginsRun_15 : decode cX13_beginsRun 15 = .ok (.iload_n 3, 1) := by decide +kernel
theorem dX13_beginsRun_16 : decode cX13_beginsRun 16 = .ok (.invokevirtual 330, 3) := by decide +kernel
theorem dX13_beginsRun_19 : decode cX13_beginsRun 19 = .ok (.ifCond .ne 7, 3) := by decide +kernel
theorem dX13_beginsRun_22 : decode cX13_beginsRun 22 = .ok (.iconst 1, 1) := by decide +kernel
theorem dX13_beginsRun_23 : decode cX13_beginsRun 23 = .ok (.goto 4, 3) := by decide +kernel
theorem dX13_beginsRun_26 : decode cX13_beginsRun 26 = .ok (.iconst 0, 1) := by decide +kernel
theorem dX13_beginsRun_27 : decode cX13_beginsRun 27 = .ok (.ireturn, 1) := by decide +kernel
set_option maxRecDepth 20000 in
theorem ggX13_runLength_X13_isOf : GoodIn wsX13_runLength wsX13_isOf := goodIn_r _ [5, 6, 7, 8, 9, 4, 10, 11, 12, 13, 14, 15, 16, 17, 18, 19, 20, 21, 22, 23, 24, 25, 26, 27, 28, 29, 30, 31, 32, 33, 34, 35, 36, 37, 38, 39, 40, 41, 42, 43, 44, 45, 46, 47, 48, 49, 50, 51, 52, 53, 54, 55, 56, 57, 58, 59, 60, 61, 62] (by decide +kernel) (by decide +kernel)
set_option maxRecDepth 20000 in
theorem gX13_runLength_X13_isOf : GoodIn wsX13_runLength (wsV RX13 330 RX13 yX13_isOf wsX13_isOf) := goodIn_app (goodIn_of _ (by decide +kernel)) ggX13_runLength_X13_isOf
theorem dX13_runLength_0 : decode cX13_runLength 0 = .ok (.iconst 0, 1) := by decide +kernel
theorem dX13_runLength_1 : decode cX13_runLength 1 = .ok (.istore 4, 2) := by decide +kernel
theorem dX13_runLength_3 : decode cX13_runLength 3 = .ok (.aload_n 0, 1) := by decide +kernel
theorem dX13_runLength_4 : decode cX13_runLength 4 = .ok (.iload_n 1, 1) := by decide +kernel
theorem dX13_runLength_5 : decode cX13_runLength 5 = .ok (.iload_n 2, 1) := by decide +kernel
theorem dX13_runLength_6 : decode cX13_runLength 6 = .ok (.iload 4, 2) := by decide +kernel
theorem dX13_runLength_8 : decode cX13_runLength 8 = .ok (.iadd, 1) := by decide +kernel
theorem dX13_runLength_9 : decode cX13_runLength 9 = .ok (.iload_n 3, 1) := by decide +kernel
theorem dX13_runLength_10 : decode cX13_runLength 10 = .ok (.invokevirtual 330, 3) := by decide +kernel
theorem dX13_runLength_13 : decode cX13_runLength 13 = .ok (.ifCond .eq 9, 3) := by decide +kernel
theorem dX13_runLength_16 : decode cX13_runLength 16 = .ok (.iinc 4 1, 3) := by decide +kernel
theorem dX13_runLength_19 : decode cX13_runLength 19 = .ok (.goto (-16), 3) := by decide +kernel
theorem dX13_runLength_22 : decode cX13_runLength 22 = .ok (.iload 4, 2) := by decide +kernel
theorem dX13_runLength_24 : decode cX13_runLength 24 = .ok (.ireturn, 1) := by decide +kernel
set_option maxRecDepth 20000 in
theorem ggX13_runs_X13_isLayer : GoodIn wsX13_runs wsX13_isLayer := goodIn_r _ [6, 1, 7, 8, 5, 9, 35, 36, 37, 38, 39, 40, 41, 42, 43, 44, 45, 46, 47, 48, 49, 50, 51, 52, 53, 54, 55, 56, 57, 58, 59, 60, 61, 62, 63, 64, 65, 66, 67, 68, 69, 70, 71, 72, 73, 74, 75, 76, 77, 78, 79, 80, 81, 82] (by decide +kernel) (by decide +kernel)
set_option maxRecDepth 20000 in
theorem gX13_runs_X13_isLayer : GoodIn wsX13_runs (wsV RX13 327 RX13 yX13_isLayer wsX13_isLayer) := goodIn_app (goodIn_of _ (by decide +kernel)) ggX13_runs_X13_isLayer
set_option maxRecDepth 20000 in
theorem ggX13_runs_X13_goes : GoodIn wsX13_runs wsX13_goes := goodIn_r _ [13, 14, 15, 16, 5, 17, 35, 36, 37, 38, 39, 40, 41, 42, 43, 44, 45, 46, 47, 48, 49, 50, 51, 52, 53, 54, 55, 56, 57, 58, 59, 60, 61, 62, 63, 64, 65, 66, 67, 68, 69, 70, 71, 72, 73, 74, 75, 76, 77, 78, 79, 80, 81, 82] (by decide +kernel) (by decide +kernel)
set_option maxRecDepth 20000 in
theorem gX13_runs_X13_goes : GoodIn wsX13_runs (wsV RX13 103 RX13 yX13_goes wsX13_goes) := goodIn_app (goodIn_of _ (by decide +kernel)) ggX13_runs_X13_goes
set_option maxRecDepth 20000 in
theorem ggX13_runs_X13_cellMany : GoodIn wsX13_runs wsX13_cellMany := goodIn_r _ [21, 1, 35, 36, 37, 38, 39, 40, 41, 42, 43, 44, 45, 46, 47, 48, 49, 50, 51, 52, 53, 54, 55, 56, 57, 58, 59, 60, 61, 62, 63, 64, 65, 66, 67, 68, 69, 70, 71, 72, 73, 74, 75, 76, 77, 78, 79, 80, 81, 82] (by decide +kernel) (by decide +kernel)
set_option maxRecDepth 20000 in
theorem gX13_runs_X13_cellMany : GoodIn wsX13_runs (wsV RX13 251 RX13 yX13_cellMany wsX13_cellMany) := goodIn_app (goodIn_of _ (by decide +kernel)) ggX13_runs_X13_cellMany
set_option maxRecDepth 20000 in
theorem ggX13_runs_X13_beginsRun : GoodIn wsX13_runs wsX13_beginsRun := goodIn_r _ [25, 26, 27, 28, 5, 29, 30, 31, 32, 33, 34, 1, 7, 8, 9, 35, 36, 37, 38, 39, 40, 41, 42, 43, 44, 45, 46, 47, 48, 49, 50, 51, 52, 53, 54, 55, 56, 57, 58, 59, 60, 61, 62, 63, 64, 65, 66, 67, 68, 69, 70, 71, 72, 73, 74, 75, 76, 77, 78, 79, 80, 81, 82] (by decide +kernel) (by decide +kernel)
set_option maxRecDepth 20000 in
theorem gX13_runs_X13_beginsRun : GoodIn wsX13_runs (wsV RX13 333 RX13 yX13_beginsRun wsX13_beginsRun) := goodIn_app (goodIn_of _ (by decide +kernel)) ggX13_runs_X13_beginsRun
set_option maxRecDepth 20000 in
theorem ggX13_runs_X13_truth : GoodIn wsX13_runs wsX13_truth := goodIn_r _ [17] (by decide +kernel) (by decide +kernel)
set_option maxRecDepth 20000 in
theorem gX13_runs_X13_truth : GoodIn wsX13_runs (va_wsS RX13 96 yX13_truth wsX13_truth) := goodIn_app (goodIn_of _ (by decide +kernel)) ggX13_runs_X13_truth
theorem dX13_runs_0 : decode cX13_runs 0 = .ok (.aload_n 0, 1) := by decide +kernel
theorem dX13_runs_1 : decode cX13_runs 1 = .ok (.aload_n 0, 1) := by decide +kernel
theorem dX13_runs_2 : decode cX13_runs 2 = .ok (.iload_n 1, 1) := by decide +kernel
theorem dX13_runs_3 : decode cX13_runs 3 = .ok (.invokevirtual 327, 3) := by decide +kernel
theorem dX13_runs_6 : decode cX13_runs 6 = .ok (.invokevirtual 103, 3) := by decide +kernel
theorem dX13_runs_9 : decode cX13_runs 9 = .ok (.ifCond .ne 5, 3) := by decide +kernel
theorem dX13_runs_12 : decode cX13_runs 12 = .ok (.iconst 0, 1) := by decide +kernel
theorem dX13_runs_13 : decode cX13_runs 13 = .ok (.ireturn, 1) := by decide +kernel
theorem dX13_runs_14 : decode cX13_runs 14 = .ok (.iconst 0, 1) := by decide +kernel
theorem dX13_runs_15 : decode cX13_runs 15 = .ok (.istore_n 2, 1) := by decide +kernel
theorem dX13_runs_16 : decode cX13_runs 16 = .ok (.iconst 0, 1) := by decide +kernel
theorem dX13_runs_17 : decode cX13_runs 17 = .ok (.istore_n 3, 1) := by decide +kernel
theorem dX13_runs_18 : decode cX13_runs 18 = .ok (.iload_n 3, 1) := by decide +kernel
theorem dX13_runs_19 : decode cX13_runs 19 = .ok (.aload_n 0, 1) := by decide +kernel
theorem dX13_runs_20 : decode cX13_runs 20 = .ok (.invokevirtual 251, 3) := by decide +kernel
theorem dX13_runs_23 : decode cX13_runs 23 = .ok (.if_icmp .ge 36, 3) := by decide +kernel
theorem dX13_runs_26 : decode cX13_runs 26 = .ok (.iload_n 2, 1) := by decide +kernel
theorem dX13_runs_27 : decode cX13_runs 27 = .ok (.aload_n 0, 1) := by decide +kernel
theorem dX13_runs_28 : decode cX13_runs 28 = .ok (.iload_n 1, 1) := by decide +kernel
theorem dX13_runs_29 : decode cX13_runs 29 = .ok (.iload_n 3, 1) := by decide +kernel
theorem dX13_runs_30 : decode cX13_runs 30 = .ok (.aload_n 0, 1) := by decide +kernel
theorem dX13_runs_31 : decode cX13_runs 31 = .ok (.getfield 20, 3) := by decide +kernel
theorem dX13_runs_34 : decode cX13_runs 34 = .ok (.iconst 0, 1) := by decide +kernel
theorem dX13_runs_35 : decode cX13_runs 35 = .ok (.iaload, 1) := by decide +kernel
theorem dX13_runs_36 : decode cX13_runs 36 = .ok (.irem, 1) := by decide +kernel
theorem dX13_runs_37 : decode cX13_runs 37 = .ok (.iload_n 3, 1) := by decide +kernel
theorem dX13_runs_38 : decode cX13_runs 38 = .ok (.aload_n 0, 1) := by decide +kernel
theorem dX13_runs_39 : decode cX13_runs 39 = .ok (.getfield 20, 3) := by decide +kernel
theorem dX13_runs_42 : decode cX13_runs 42 = .ok (.iconst 0, 1) := by decide +kernel
theorem dX13_runs_43 : decode cX13_runs 43 = .ok (.iaload, 1) := by decide +kernel
theorem dX13_runs_44 : decode cX13_runs 44 = .ok (.idiv, 1) := by decide +kernel
theorem dX13_runs_45 : decode cX13_runs 45 = .ok (.invokevirtual 333, 3) := by decide +kernel
theorem dX13_runs_48 : decode cX13_runs 48 = .ok (.invokestatic 96, 3) := by decide +kernel
theorem dX13_runs_51 : decode cX13_runs 51 = .ok (.iadd, 1) := by decide +kernel
theorem dX13_runs_52 : decode cX13_runs 52 = .ok (.istore_n 2, 1) := by decide +kernel
theorem dX13_runs_53 : decode cX13_runs 53 = .ok (.iinc 3 1, 3) := by decide +kernel
theorem dX13_runs_56 : decode cX13_runs 56 = .ok (.goto (-38), 3) := by decide +kernel
theorem dX13_runs_59 : decode cX13_runs 59 = .ok (.iload_n 2, 1) := by decide +kernel
theorem dX13_runs_60 : decode cX13_runs 60 = .ok (.ireturn, 1) := by decide +kernel
set_option maxRecDepth 20000 in
theorem ggX13_hasTwin_X13_beginsRun : GoodIn wsX13_hasTwin wsX13_beginsRun := goodIn_r _ [5, 6, 7, 8, 4, 9, 10, 11, 12, 13, 14, 15, 16, 17, 18, 23, 24, 25, 26, 27, 28, 29, 30, 31, 32, 33, 34, 35, 36, 37, 38, 39, 40, 41, 42, 43, 44, 45, 46, 47, 48, 49, 50, 51, 52, 53, 54, 55, 56, 57, 58, 59, 60, 61, 62, 63, 64, 65, 66, 67, 68, 69, 70] (by decide +kernel) (by decide +kernel)
set_option maxRecDepth 20000 in
theorem gX13_hasTwin_X13_beginsRun : GoodIn wsX13_hasTwin (wsV RX13 333 RX13 yX13_beginsRun wsX13_beginsRun) := goodIn_app (goodIn_of _ (by decide +kernel)) ggX13_hasTwin_X13_beginsRun
set_option maxRecDepth 20000 in
theorem ggX13_hasTwin_X13_runLength : GoodIn wsX13_hasTwin wsX13_runLength := goodIn_r _ [22, 6, 7, 8, 4, 9, 10, 11, 12, 13, 14, 15, 16, 17, 18, 23, 24, 25, 26, 27, 28, 29, 30, 31, 32, 33, 34, 35, 36, 37, 38, 39, 40, 41, 42, 43, 44, 45, 46, 47, 48, 49, 50, 51, 52, 53, 54, 55, 56, 57, 58, 59, 60, 61, 62, 63, 64, 65, 66, 67, 68, 69, 70] (by decide +kernel) (by decide +kernel)
set_option maxRecDepth 20000 in
theorem gX13_hasTwin_X13_runLength : GoodIn wsX13_hasTwin (wsV RX13 336 RX13 yX13_runLength wsX13_runLength) := goodIn_app (goodIn_of _ (by decide +kernel)) ggX13_hasTwin_X13_runLength
theorem dX13_hasTwin_0 : decode cX13_hasTwin 0 = .ok (.aload_n 0, 1) := by decide +kernel
theorem dX13_hasTwin_1 : decode cX13_hasTwin 1 = .ok (.iload_n 1, 1) := by decide +kernel
theorem dX13_hasTwin_2 : decode cX13_hasTwin 2 = .ok (.iload_n 2, 1) := by decide +kernel
theorem dX13_hasTwin_3 : decode cX13_hasTwin 3 = .ok (.iload 4, 2) := by decide +kernel
theorem dX13_hasTwin_5 : decode cX13_hasTwin 5 = .ok (.invokevirtual 333, 3) := by decide +kernel
theorem dX13_hasTwin_8 : decode cX13_hasTwin 8 = .ok (.ifCond .eq 25, 3) := by decide +kernel
theorem dX13_hasTwin_11 : decode cX13_hasTwin 11 = .ok (.aload_n 0, 1) := by decide +kernel
theorem dX13_hasTwin_12 : decode cX13_hasTwin 12 = .ok (.iload_n 1, 1) := by decide +kernel
theorem dX13_hasTwin_13 : decode cX13_hasTwin 13 = .ok (.iload_n 2, 1) := by decide +kernel
theorem dX13_hasTwin_14 : decode cX13_hasTwin 14 = .ok (.iload 4, 2) := by decide +kernel
theorem dX13_hasTwin_16 : decode cX13_hasTwin 16 = .ok (.invokevirtual 336, 3) := by decide +kernel
theorem dX13_hasTwin_19 : decode cX13_hasTwin 19 = .ok (.aload_n 0, 1) := by decide +kernel
theorem dX13_hasTwin_20 : decode cX13_hasTwin 20 = .ok (.iload_n 1, 1) := by decide +kernel
theorem dX13_hasTwin_21 : decode cX13_hasTwin 21 = .ok (.iload_n 2, 1) := by decide +kernel
theorem dX13_hasTwin_22 : decode cX13_hasTwin 22 = .ok (.iload_n 3, 1) := by decide +kernel
theorem dX13_hasTwin_23 : decode cX13_hasTwin 23 = .ok (.invokevirtual 336, 3) := by decide +kernel
theorem dX13_hasTwin_26 : decode cX13_hasTwin 26 = .ok (.if_icmp .ne 7, 3) := by decide +kernel
theorem dX13_hasTwin_29 : decode cX13_hasTwin 29 = .ok (.iconst 1, 1) := by decide +kernel
theorem dX13_hasTwin_30 : decode cX13_hasTwin 30 = .ok (.goto 4, 3) := by decide +kernel
theorem dX13_hasTwin_33 : decode cX13_hasTwin 33 = .ok (.iconst 0, 1) := by decide +kernel
theorem dX13_hasTwin_34 : decode cX13_hasTwin 34 = .ok (.ireturn, 1) := by decide +kernel
set_option maxRecDepth 20000 in
theorem ggX13_beginsRectangle_X13_beginsRun : GoodIn wsX13_beginsRectangle wsX13_beginsRun := goodIn_r _ [5, 6, 7, 8, 4, 9, 10, 11, 12, 13, 14, 15, 16, 17, 18, 27, 28, 29, 30, 31, 32, 33, 34, 35, 36, 37, 38, 39, 40, 41, 42, 43, 44, 45, 46, 47, 48, 49, 50, 51, 52, 53, 54, 55, 56, 57, 58, 59, 60, 61, 62, 63, 64, 65, 66, 67, 68, 69, 70, 71, 72, 73, 74] (by decide +kernel) (by decide +kernel)
set_option maxRecDepth 20000 in
theorem gX13_beginsRectangle_X13_beginsRun : GoodIn wsX13_beginsRectangle (wsV RX13 333 RX13 yX13_beginsRun wsX13_beginsRun) := goodIn_app (goodIn_of _ (by decide +kernel)) ggX13_beginsRectangle_X13_beginsRun
set_option maxRecDepth 20000 in
theorem ggX13_beginsRectangle_X13_hasTwin : GoodIn wsX13_beginsRectangle wsX13_hasTwin := goodIn_r _ [22, 1, 2, 3, 4, 5, 6, 7, 8, 9, 10, 11, 12, 13, 14, 15, 16, 17, 18, 23, 24, 25, 26, 27, 28, 29, 30, 31, 32, 33, 34, 35, 36, 37, 38, 39, 40, 41, 42, 43, 44, 45, 46, 47, 48, 49, 50, 51, 52, 53, 54, 55, 56, 57, 58, 59, 60, 61, 62, 63, 64, 65, 66, 67, 68, 69, 70, 71, 72, 73, 74] (by decide +kernel) (by decide +kernel)
set_option maxRecDepth 20000 in
theorem gX13_beginsRectangle_X13_hasTwin : GoodIn wsX13_beginsRectangle (wsV RX13 339 RX13 yX13_hasTwin wsX13_hasTwin) := goodIn_app (goodIn_of _ (by decide +kernel)) ggX13_beginsRectangle_X13_hasTwin
theorem dX13_beginsRectangle_0 : decode cX13_beginsRectangle 0 = .ok (.aload_n 0, 1) := by decide +kernel
theorem dX13_beginsRectangle_1 : decode cX13_beginsRectangle 1 = .ok (.iload_n 1, 1) := by decide +kernel
theorem dX13_beginsRectangle_2 : decode cX13_beginsRectangle 2 = .ok (.iload_n 2, 1) := by decide +kernel
theorem dX13_beginsRectangle_3 : decode cX13_beginsRectangle 3 = .ok (.iload_n 3, 1) := by decide +kernel
theorem dX13_beginsRectangle_4 : decode cX13_beginsRectangle 4 = .ok (.invokevirtual 333, 3) := by decide +kernel
theorem dX13_beginsRectangle_7 : decode cX13_beginsRectangle 7 = .ok (.ifCond .eq 20, 3) := by decide +kernel
theorem dX13_beginsRectangle_10 : decode cX13_beginsRectangle 10 = .ok (.aload_n 0, 1) := by decide +kernel
theorem dX13_beginsRectangle_11 : decode cX13_beginsRectangle 11 = .ok (.iload_n 1, 1) := by decide +kernel
theorem dX13_beginsRectangle_12 : decode cX13_beginsRectangle 12 = .ok (.iload_n 2, 1) := by decide +kernel
theorem dX13_beginsRectangle_13 : decode cX13_beginsRectangle 13 = .ok (.iload_n 3, 1) := by decide +kernel
theorem dX13_beginsRectangle_14 : decode cX13_beginsRectangle 14 = .ok (.iload_n 3, 1) := by decide +kernel
theorem dX13_beginsRectangle_15 : decode cX13_beginsRectangle 15 = .ok (.iconst 1, 1) := by decide +kernel
theorem dX13_beginsRectangle_16 : decode cX13_beginsRectangle 16 = .ok (.isub, 1) := by decide +kernel
theorem dX13_beginsRectangle_17 : decode cX13_beginsRectangle 17 = .ok (.invokevirtual 339, 3) := by decide +kernel
theorem dX13_beginsRectangle_20 : decode cX13_beginsRectangle 20 = .ok (.ifCond .ne 7, 3) := by decide +kernel
theorem dX13_beginsRectangle_23 : decode cX13_beginsRectangle 23 = .ok (.iconst 1, 1) := by decide +kernel
theorem dX13_beginsRectangle_24 : decode cX13_beginsRectangle 24 = .ok (.goto 4, 3) := by decide +kernel
theorem dX13_beginsRectangle_27 : decode cX13_beginsRectangle 27 = .ok (.iconst 0, 1) := by decide +kernel
theorem dX13_beginsRectangle_28 : decode cX13_beginsRectangle 28 = .ok (.ireturn, 1) := by decide +kernel
set_option maxRecDepth 20000 in
theorem ggX13_rectanglesOf_X13_cellMany : GoodIn wsX13_rectanglesOf wsX13_cellMany := goodIn_r _ [6, 1, 38, 39, 40, 41, 42, 43, 44, 45, 46, 47, 48, 49, 50, 51, 52, 53, 54, 55, 56, 57, 58, 59, 60, 61, 62, 63, 64, 65, 66, 67, 68, 69, 70, 71, 72, 73, 74, 75, 76, 77, 78, 79, 80, 81, 82, 83, 84, 85] (by decide +kernel) (by decide +kernel)
set_option maxRecDepth 20000 in
theorem gX13_rectanglesOf_X13_cellMany : GoodIn wsX13_rectanglesOf (wsV RX13 251 RX13 yX13_cellMany wsX13_cellMany) := goodIn_app (goodIn_of _ (by decide +kernel)) ggX13_rectanglesOf_X13_cellMany
set_option maxRecDepth 20000 in
theorem ggX13_rectanglesOf_X13_beginsRectangle : GoodIn wsX13_rectanglesOf wsX13_beginsRectangle := goodIn_r _ [10, 11, 12, 13, 5, 14, 15, 16, 17, 18, 19, 20, 21, 22, 23, 1, 24, 25, 26, 27, 28, 29, 30, 31, 32, 33, 34, 38, 39, 40, 41, 42, 43, 44, 45, 46, 47, 48, 49, 50, 51, 52, 53, 54, 55, 56, 57, 58, 59, 60, 61, 62, 63, 64, 65, 66, 67, 68, 69, 70, 71, 72, 73, 74, 75, 76, 77, 78, 79, 80, 81, 82, 83, 84, 85] (by decide +kernel) (by decide +kernel)
set_option maxRecDepth 20000 in
theorem gX13_rectanglesOf_X13_beginsRectangle : GoodIn wsX13_rectanglesOf (wsV RX13 343 RX13 yX13_beginsRectangle wsX13_beginsRectangle) := goodIn_app (goodIn_of _ (by decide +kernel)) ggX13_rectanglesOf_X13_beginsRectangle
set_option maxRecDepth 20000 in
theorem ggX13_rectanglesOf_X13_truth : GoodIn wsX13_rectanglesOf wsX13_truth := goodIn_r _ [37] (by decide +kernel) (by decide +kernel)
set_option maxRecDepth 20000 in
theorem gX13_rectanglesOf_X13_truth : GoodIn wsX13_rectanglesOf (va_wsS RX13 96 yX13_truth wsX13_truth) := goodIn_app (goodIn_of _ (by decide +kernel)) ggX13_rectanglesOf_X13_truth
theorem dX13_rectanglesOf_0 : decode cX13_rectanglesOf 0 = .ok (.iconst 0, 1) := by decide +kernel
theorem dX13_rectanglesOf_1 : decode cX13_rectanglesOf 1 = .ok (.istore_n 2, 1) := by decide +kernel
theorem dX13_rectanglesOf_2 : decode cX13_rectanglesOf 2 = .ok (.iconst 0, 1) := by decide +kernel
theorem dX13_rectanglesOf_3 : decode cX13_rectanglesOf 3 = .ok (.istore_n 3, 1) := by decide +kernel
theorem dX13_rectanglesOf_4 : decode cX13_rectanglesOf 4 = .ok (.iload_n 3, 1) := by decide +kernel
theorem dX13_rectanglesOf_5 : decode cX13_rectanglesOf 5 = .ok (.aload_n 0, 1) := by decide +kernel
theorem dX13_rectanglesOf_6 : decode cX13_rectanglesOf 6 = .ok (.invokevirtual 251, 3) := by decide +kernel
theorem dX13_rectanglesOf_9 : decode cX13_rectanglesOf 9 = .ok (.if_icmp .ge 36, 3) := by decide +kernel
theorem dX13_rectanglesOf_12 : decode cX13_rectanglesOf 12 = .ok (.iload_n 2, 1) := by decide +kernel
theorem dX13_rectanglesOf_13 : decode cX13_rectanglesOf 13 = .ok (.aload_n 0, 1) := by decide +kernel
theorem dX13_rectanglesOf_14 : decode cX13_rectanglesOf 14 = .ok (.iload_n 1, 1) := by decide +kernel
theorem dX13_rectanglesOf_15 : decode cX13_rectanglesOf 15 = .ok (.iload_n 3, 1) := by decide +kernel
theorem dX13_rectanglesOf_16 : decode cX13_rectanglesOf 16 = .ok (.aload_n 0, 1) := by decide +kernel
theorem dX13_rectanglesOf_17 : decode cX13_rectanglesOf 17 = .ok (.getfield 20, 3) := by decide +kernel
theorem dX13_rectanglesOf_20 : decode cX13_rectanglesOf 20 = .ok (.iconst 0, 1) := by decide +kernel
theorem dX13_rectanglesOf_21 : decode cX13_rectanglesOf 21 = .ok (.iaload, 1) := by decide +kernel
theorem dX13_rectanglesOf_22 : decode cX13_rectanglesOf 22 = .ok (.irem, 1) := by decide +kernel
theorem dX13_rectanglesOf_23 : decode cX13_rectanglesOf 23 = .ok (.iload_n 3, 1) := by decide +kernel
theorem dX13_rectanglesOf_24 : decode cX13_rectanglesOf 24 = .ok (.aload_n 0, 1) := by decide +kernel
theorem dX13_rectanglesOf_25 : decode cX13_rectanglesOf 25 = .ok (.getfield 20, 3) := by decide +kernel
theorem dX13_rectanglesOf_28 : decode cX13_rectanglesOf 28 = .ok (.iconst 0, 1) := by decide +kernel
theorem dX13_rectanglesOf_29 : decode cX13_rectanglesOf 29 = .ok (.iaload, 1) := by decide +kernel
theorem dX13_rectanglesOf_30 : decode cX13_rectanglesOf 30 = .ok (.idiv, 1) := by decide +kernel
theorem dX13_rectanglesOf_31 : decode cX13_rectanglesOf 31 = .ok (.invokevirtual 343, 3) := by decide +kernel
theorem dX13_rectanglesOf_34 : decode cX13_rectanglesOf 34 = .ok (.invokestatic 96, 3) := by decide +kernel
theorem dX13_rectanglesOf_37 : decode cX13_rectanglesOf 37 = .ok (.iadd, 1) := by decide +kernel
theorem dX13_rectanglesOf_38 : decode cX13_rectanglesOf 38 = .ok (.istore_n 2, 1) := by decide +kernel
theorem dX13_rectanglesOf_39 : decode cX13_rectanglesOf 39 = .ok (.iinc 3 1, 3) := by decide +kernel
theorem dX13_rectanglesOf_42 : decode cX13_rectanglesOf 42 = .ok (.goto (-38), 3) := by decide +kernel
theorem dX13_rectanglesOf_45 : decode cX13_rectanglesOf 45 = .ok (.iload_n 2, 1) := by decide +kernel
theorem dX13_rectanglesOf_46 : decode cX13_rectanglesOf 46 = .ok (.ireturn, 1) := by decide +kernel
set_option maxRecDepth 20000 in
theorem ggX13_rectangles_X13_isLayer : GoodIn wsX13_rectangles wsX13_isLayer := goodIn_r _ [5, 6, 7, 8, 4, 9, 51, 52, 53, 54, 55, 56, 57, 58, 59, 60, 61, 62, 63, 64, 65, 66, 67, 68, 69, 70, 71, 72, 73, 74, 75, 76, 77, 78, 79, 80, 81, 82, 83, 84, 85, 86, 87, 88, 89, 90, 91, 92, 93, 94, 95, 96, 97, 98] (by decide +kernel) (by decide +kernel)
set_option maxRecDepth 20000 in
theorem gX13_rectangles_X13_isLayer : GoodIn wsX13_rectangles (wsV RX13 327 RX13 yX13_isLayer wsX13_isLayer) := goodIn_app (goodIn_of _ (by decide +kernel)) ggX13_rectangles_X13_isLayer
set_option maxRecDepth 20000 in
theorem ggX13_rectangles_X13_goes : GoodIn wsX13_rectangles wsX13_goes := goodIn_r _ [13, 14, 15, 16, 4, 17, 51, 52, 53, 54, 55, 56, 57, 58, 59, 60, 61, 62, 63, 64, 65, 66, 67, 68, 69, 70, 71, 72, 73, 74, 75, 76, 77, 78, 79, 80, 81, 82, 83, 84, 85, 86, 87, 88, 89, 90, 91, 92, 93, 94, 95, 96, 97, 98] (by decide +kernel) (by decide +kernel)
set_option maxRecDepth 20000 in
theorem gX13_rectangles_X13_goes : GoodIn wsX13_rectangles (wsV RX13 103 RX13 yX13_goes wsX13_goes) := goodIn_app (goodIn_of _ (by decide +kernel)) ggX13_rectangles_X13_goes
set_option maxRecDepth 20000 in
theorem ggX13_rectangles_X13_rectanglesOf : GoodIn wsX13_rectangles wsX13_rectanglesOf := goodIn_r _ [21, 6, 22, 23, 24, 4, 25, 26, 27, 28, 29, 30, 31, 32, 33, 34, 35, 36, 37, 38, 39, 40, 41, 42, 7, 8, 9, 43, 44, 45, 46, 47, 48, 49, 50, 15, 16, 17, 51, 52, 53, 54, 55, 56, 57, 58, 59, 60, 61, 62, 63, 64, 65, 66, 67, 68, 69, 70, 71, 72, 73, 74, 75, 76, 77, 78, 79, 80, 81, 82, 83, 84, 85, 86, 87, 88, 89, 90, 91, 92, 93, 94, 95, 96, 97, 98] (by decide +kernel) (by decide +kernel)
set_option maxRecDepth 20000 in
theorem gX13_rectangles_X13_rectanglesOf : GoodIn wsX13_rectangles (wsV RX13 346 RX13 yX13_rectanglesOf wsX13_rectanglesOf) := goodIn_app (goodIn_of _ (by decide +kernel)) ggX13_rectangles_X13_rectanglesOf
theorem dX13_rectangles_0 : decode cX13_rectangles 0 = .ok (.aload_n 0, 1) := by decide +kernel
theorem dX13_rectangles_1 : decode cX13_rectangles 1 = .ok (.aload_n 0, 1) := by decide +kernel
theorem dX13_rectangles_2 : decode cX13_rectangles 2 = .ok (.iload_n 1, 1) := by decide +kernel
theorem dX13_rectangles_3 : decode cX13_rectangles 3 = .ok (.invokevirtual 327, 3) := by decide +kernel
theorem dX13_rectangles_6 : decode cX13_rectangles 6 = .ok (.invokevirtual 103, 3) := by decide +kernel
theorem dX13_rectangles_9 : decode cX13_rectangles 9 = .ok (.ifCond .eq 11, 3) := by decide +kernel
theorem dX13_rectangles_12 : decode cX13_rectangles 12 = .ok (.aload_n 0, 1) := by decide +kernel
theorem dX13_rectangles_13 : decode cX13_rectangles 13 = .ok (.iload_n 1, 1) := by decide +kernel
theorem dX13_rectangles_14 : decode cX13_rectangles 14 = .ok (.invokevirtual 346, 3) := by decide +kernel
theorem dX13_rectangles_17 : decode cX13_rectangles 17 = .ok (.goto 4, 3) := by decide +kernel
theorem dX13_rectangles_20 : decode cX13_rectangles 20 = .ok (.iconst 0, 1) := by decide +kernel
theorem dX13_rectangles_21 : decode cX13_rectangles 21 = .ok (.ireturn, 1) := by decide +kernel
set_option maxRecDepth 20000 in
theorem ggX13_rectangle_X13_isLayer : GoodIn wsX13_rectangle wsX13_isLayer := goodIn_r _ [8, 3, 9, 10, 7, 11, 52, 53, 54, 55, 56, 57, 58, 59, 60, 61, 62, 63, 64, 65, 66, 67, 68, 69, 70, 71, 72, 73, 74, 75, 76, 77, 78, 79, 80, 81, 82, 83, 84, 85, 86, 87, 88, 89, 90, 91, 92, 93, 94, 95, 96, 97, 98, 99] (by decide +kernel) (by decide +kernel)
set_option maxRecDepth 20000 in
theorem gX13_rectangle_X13_isLayer : GoodIn wsX13_rectangle (wsV RX13 327 RX13 yX13_isLayer wsX13_isLayer) := goodIn_app (goodIn_of _ (by decide +kernel)) ggX13_rectangle_X13_isLayer
set_option maxRecDepth 20000 in
theorem ggX13_rectangle_X13_isIn : GoodIn wsX13_rectangle wsX13_isIn := goodIn_r _ [11] (by decide +kernel) (by decide +kernel)
set_option maxRecDepth 20000 in
theorem gX13_rectangle_X13_isIn : GoodIn wsX13_rectangle (va_wsS RX13 111 yX13_isIn wsX13_isIn) := goodIn_app (goodIn_of _ (by decide +kernel)) ggX13_rectangle_X13_isIn
set_option maxRecDepth 20000 in
theorem ggX13_rectangle_X13_rectanglesOf : GoodIn wsX13_rectangle wsX13_rectanglesOf := goodIn_r _ [15, 3, 16, 17, 18, 7, 19, 20, 21, 22, 23, 24, 25, 26, 27, 28, 29, 30, 31, 32, 33, 34, 35, 36, 9, 10, 11, 37, 38, 39, 40, 41, 42, 43, 44, 45, 46, 47, 52, 53, 54, 55, 56, 57, 58, 59, 60, 61, 62, 63, 64, 65, 66, 67, 68, 69, 70, 71, 72, 73, 74, 75, 76, 77, 78, 79, 80, 81, 82, 83, 84, 85, 86, 87, 88, 89, 90, 91, 92, 93, 94, 95, 96, 97, 98, 99] (by decide +kernel) (by decide +kernel)
set_option maxRecDepth 20000 in
theorem gX13_rectangle_X13_rectanglesOf : GoodIn wsX13_rectangle (wsV RX13 346 RX13 yX13_rectanglesOf wsX13_rectanglesOf) := goodIn_app (goodIn_of _ (by decide +kernel)) ggX13_rectangle_X13_rectanglesOf
set_option maxRecDepth 20000 in
theorem ggX13_rectangle_X13_truth : GoodIn wsX13_rectangle wsX13_truth := goodIn_r _ [47] (by decide +kernel) (by decide +kernel)
set_option maxRecDepth 20000 in
theorem gX13_rectangle_X13_truth : GoodIn wsX13_rectangle (va_wsS RX13 96 yX13_truth wsX13_truth) := goodIn_app (goodIn_of _ (by decide +kernel)) ggX13_rectangle_X13_truth
set_option maxRecDepth 20000 in
theorem ggX13_rectangle_X13_beginsRectangle : GoodIn wsX13_rectangle wsX13_beginsRectangle := goodIn_r _ [23, 24, 25, 26, 7, 27, 28, 29, 30, 31, 32, 33, 34, 35, 36, 3, 9, 10, 11, 37, 38, 39, 40, 41, 42, 43, 44, 52, 53, 54, 55, 56, 57, 58, 59, 60, 61, 62, 63, 64, 65, 66, 67, 68, 69, 70, 71, 72, 73, 74, 75, 76, 77, 78, 79, 80, 81, 82, 83, 84, 85, 86, 87, 88, 89, 90, 91, 92, 93, 94, 95, 96, 97, 98, 99] (by decide +kernel) (by decide +kernel)
set_option maxRecDepth 20000 in
theorem gX13_rectangle_X13_beginsRectangle : GoodIn wsX13_rectangle (wsV RX13 343 RX13 yX13_beginsRectangle wsX13_beginsRectangle) := goodIn_app (goodIn_of _ (by decide +kernel)) ggX13_rectangle_X13_beginsRectangle
set_option maxRecDepth 20000 in
theorem ggX13_rectangle_X13_runLength : GoodIn wsX13_rectangle wsX13_runLength := goodIn_r _ [44, 28, 29, 30, 7, 31, 32, 33, 34, 35, 36, 3, 9, 10, 11, 52, 53, 54, 55, 56, 57, 58, 59, 60, 61, 62, 63, 64, 65, 66, 67, 68, 69, 70, 71, 72, 73, 74, 75, 76, 77, 78, 79, 80, 81, 82, 83, 84, 85, 86, 87, 88, 89, 90, 91, 92, 93, 94, 95, 96, 97, 98, 99] (by decide +kernel) (by decide +kernel)
set_option maxRecDepth 20000 in
theorem gX13_rectangle_X13_runLength : GoodIn wsX13_rectangle (wsV RX13 336 RX13 yX13_runLength wsX13_runLength) := goodIn_app (goodIn_of _ (by decide +kernel)) ggX13_rectangle_X13_runLength
set_option maxRecDepth 20000 in
theorem ggX13_rectangle_X13_rowsOf : GoodIn wsX13_rectangle wsX13_rowsOf := goodIn_r _ [51, 37, 38, 39, 7, 40, 24, 25, 26, 27, 28, 29, 30, 31, 32, 33, 34, 35, 36, 3, 9, 10, 11, 41, 42, 43, 44, 52, 53, 54, 55, 56, 57, 58, 59, 60, 61, 62, 63, 64, 65, 66, 67, 68, 69, 70, 71, 72, 73, 74, 75, 76, 77, 78, 79, 80, 81, 82, 83, 84, 85, 86, 87, 88, 89, 90, 91, 92, 93, 94, 95, 96, 97, 98, 99] (by decide +kernel) (by decide +kernel)
set_option maxRecDepth 20000 in
theorem gX13_rectangle_X13_rowsOf : GoodIn wsX13_rectangle (wsV RX13 351 RX13 yX13_rowsOf wsX13_rowsOf) := goodIn_app (goodIn_of _ (by decide +kernel)) ggX13_rectangle_X13_rowsOf
theorem dX13_rectangle_0 : decode cX13_rectangle 0 = .ok (.aload_n 0, 1) := by decide +kernel
theorem dX13_rectangle_1 : decode cX13_rectangle 1 = .ok (.aload_n 0, 1) := by decide +kernel
theorem dX13_rectangle_2 : decode cX13_rectangle 2 = .ok (.iload_n 1, 1) := by decide +kernel
theorem dX13_rectangle_3 : decode cX13_rectangle 3 = .ok (.invokevirtual 327, 3) := by decide +kernel
theorem dX13_rectangle_6 : decode cX13_rectangle 6 = .ok (.ifCond .eq 15, 3) := by decide +kernel
theorem dX13_rectangle_9 : decode cX13_rectangle 9 = .ok (.iload_n 3, 1) := by decide +kernel
theorem dX13_rectangle_10 : decode cX13_rectangle 10 = .ok (.i2l, 1) := by decide +kernel
theorem dX13_rectangle_11 : decode cX13_rectangle 11 = .ok (.lconst 0, 1) := by decide +kernel
theorem dX13_rectangle_12 : decode cX13_rectangle 12 = .ok (.ldc2_w 349, 3) := by decide +kernel
theorem dX13_rectangle_15 : decode cX13_rectangle 15 = .ok (.invokestatic 111, 3) := by decide +kernel
theorem dX13_rectangle_18 : decode cX13_rectangle 18 = .ok (.ifCond .ne 7, 3) := by decide +kernel
theorem dX13_rectangle_21 : decode cX13_rectangle 21 = .ok (.iconst 1, 1) := by decide +kernel
theorem dX13_rectangle_22 : decode cX13_rectangle 22 = .ok (.goto 30, 3) := by decide +kernel
theorem dX13_rectangle_25 : decode cX13_rectangle 25 = .ok (.iload_n 2, 1) := by decide +kernel
theorem dX13_rectangle_26 : decode cX13_rectangle 26 = .ok (.i2l, 1) := by decide +kernel
theorem dX13_rectangle_27 : decode cX13_rectangle 27 = .ok (.lconst 0, 1) := by decide +kernel
theorem dX13_rectangle_28 : decode cX13_rectangle 28 = .ok (.aload_n 0, 1) := by decide +kernel
theorem dX13_rectangle_29 : decode cX13_rectangle 29 = .ok (.iload_n 1, 1) := by decide +kernel
theorem dX13_rectangle_30 : decode cX13_rectangle 30 = .ok (.invokevirtual 346, 3) := by decide +kernel
theorem dX13_rectangle_33 : decode cX13_rectangle 33 = .ok (.iconst 1, 1) := by decide +kernel
theorem dX13_rectangle_34 : decode cX13_rectangle 34 = .ok (.isub, 1) := by decide +kernel
theorem dX13_rectangle_35 : decode cX13_rectangle 35 = .ok (.i2l, 1) := by decide +kernel
theorem dX13_rectangle_36 : decode cX13_rectangle 36 = .ok (.invokestatic 111, 3) := by decide +kernel
theorem dX13_rectangle_39 : decode cX13_rectangle 39 = .ok (.ifCond .ne 7, 3) := by decide +kernel
theorem dX13_rectangle_42 : decode cX13_rectangle 42 = .ok (.iconst 1, 1) := by decide +kernel
theorem dX13_rectangle_43 : decode cX13_rectangle 43 = .ok (.goto 4, 3) := by decide +kernel
theorem dX13_rectangle_46 : decode cX13_rectangle 46 = .ok (.iconst 0, 1) := by decide +kernel
theorem dX13_rectangle_47 : decode cX13_rectangle 47 = .ok (.invokestatic 96, 3) := by decide +kernel
theorem dX13_rectangle_50 : decode cX13_rectangle 50 = .ok (.iconst 2, 1) := by decide +kernel
theorem dX13_rectangle_51 : decode cX13_rectangle 51 = .ok (.imul, 1) := by decide +kernel
theorem dX13_rectangle_52 : decode cX13_rectangle 52 = .ok (.putfield 93, 3) := by decide +kernel
theorem dX13_rectangle_55 : decode cX13_rectangle 55 = .ok (.aload_n 0, 1) := by decide +kernel
theorem dX13_rectangle_56 : decode cX13_rectangle 56 = .ok (.getfield 93, 3) := by decide +kernel
theorem dX13_rectangle_59 : decode cX13_rectangle 59 = .ok (.ifCond .le 5, 3) := by decide +kernel
theorem dX13_rectangle_62 : decode cX13_rectangle 62 = .ok (.iconst 0, 1) := by decide +kernel
theorem dX13_rectangle_63 : decode cX13_rectangle 63 = .ok (.ireturn, 1) := by decide +kernel
theorem dX13_rectangle_64 : decode cX13_rectangle 64 = .ok (.iconst 0, 1) := by decide +kernel
theorem dX13_rectangle_65 : decode cX13_rectangle 65 = .ok (.istore 4, 2) := by decide +kernel
theorem dX13_rectangle_67 : decode cX13_rectangle 67 = .ok (.iload_n 2, 1) := by decide +kernel
theorem dX13_rectangle_68 : decode cX13_rectangle 68 = .ok (.istore 5, 2) := by decide +kernel
theorem dX13_rectangle_70 : decode cX13_rectangle 70 = .ok (.iload 5, 2) := by decide +kernel
theorem dX13_rectangle_72 : decode cX13_rectangle 72 = .ok (.ifCond .gt 29, 3) := by decide +kernel
theorem dX13_rectangle_75 : decode cX13_rectangle 75 = .ok (.aload_n 0, 1) := by decide +kernel
theorem dX13_rectangle_76 : decode cX13_rectangle 76 = .ok (.iload_n 1, 1) := by decide +kernel
theorem dX13_rectangle_77 : decode cX13_rectangle 77 = .ok (.iload 4, 2) := by decide +kernel
theorem dX13_rectangle_79 : decode cX13_rectangle 79 = .ok (.aload_n 0, 1) := by decide +kernel
theorem dX13_rectangle_80 : decode cX13_rectangle 80 = .ok (.getfield 20, 3) := by decide +kernel
theorem dX13_rectangle_83 : decode cX13_rectangle 83 = .ok (.iconst 0, 1) := by decide +kernel
theorem dX13_rectangle_84 : decode cX13_rectangle 84 = .ok (.iaload, 1) := by decide +kernel
theorem dX13_rectangle_85 : decode cX13_rectangle 85 = .ok (.irem, 1) := by decide +kernel
theorem dX13_rectangle_86 : decode cX13_rectangle 86 = .ok (.iload 4, 2) := by decide +kernel
theorem dX13_rectangle_88 : decode cX13_rectangle 88 = .ok (.aload_n 0, 1) := by decide +kernel
theorem dX13_rectangle_89 : decode cX13_rectangle 89 = .ok (.getfield 20, 3) := by decide +kernel
theorem dX13_rectangle_92 : decode cX13_rectangle 92 = .ok (.iconst 0, 1) := by decide +kernel
theorem dX13_rectangle_93 : decode cX13_rectangle 93 = .ok (.iaload, 1) := by decide +kernel
theorem dX13_rectangle_94 : decode cX13_rectangle 94 = .ok (.idiv, 1) := by decide +kernel
theorem dX13_rectangle_95 : decode cX13_rectangle 95 = .ok (.invokevirtual 343, 3) := by decide +kernel
theorem dX13_rectangle_98 : decode cX13_rectangle 98 = .ok (.ifCond .ne 40, 3) := by decide +kernel
theorem dX13_rectangle_101 : decode cX13_rectangle 101 = .ok (.iload 5, 2) := by decide +kernel
theorem dX13_rectangle_103 : decode cX13_rectangle 103 = .ok (.aload_n 0, 1) := by decide +kernel
theorem dX13_rectangle_104 : decode cX13_rectangle 104 = .ok (.iload_n 1, 1) := by decide +kernel
theorem dX13_rectangle_105 : decode cX13_rectangle 105 = .ok (.iload 4, 2) := by decide +kernel
theorem dX13_rectangle_107 : decode cX13_rectangle 107 = .ok (.aload_n 0, 1) := by decide +kernel
theorem dX13_rectangle_108 : decode cX13_rectangle 108 = .ok (.getfield 20, 3) := by decide +kernel
theorem dX13_rectangle_111 : decode cX13_rectangle 111 = .ok (.iconst 0, 1) := by decide +kernel
theorem dX13_rectangle_112 : decode cX13_rectangle 112 = .ok (.iaload, 1) := by decide +kernel
theorem dX13_rectangle_113 : decode cX13_rectangle 113 = .ok (.irem, 1) := by decide +kernel
theorem dX13_rectangle_114 : decode cX13_rectangle 114 = .ok (.iload 4, 2) := by decide +kernel
theorem dX13_rectangle_116 : decode cX13_rectangle 116 = .ok (.aload_n 0, 1) := by decide +kernel
theorem dX13_rectangle_117 : decode cX13_rectangle 117 = .ok (.getfield 20, 3) := by decide +kernel
theorem dX13_rectangle_120 : decode cX13_rectangle 120 = .ok (.iconst 0, 1) := by decide +kernel
theorem dX13_rectangle_121 : decode cX13_rectangle 121 = .ok (.iaload, 1) := by decide +kernel
theorem dX13_rectangle_122 : decode cX13_rectangle 122 = .ok (.idiv, 1) := by decide +kernel
theorem dX13_rectangle_123 : decode cX13_rectangle 123 = .ok (.invokevirtual 343, 3) := by decide +kernel
theorem dX13_rectangle_126 : decode cX13_rectangle 126 = .ok (.invokestatic 96, 3) := by decide +kernel
theorem dX13_rectangle_129 : decode cX13_rectangle 129 = .ok (.isub, 1) := by decide +kernel
theorem dX13_rectangle_130 : decode cX13_rectangle 130 = .ok (.istore 5, 2) := by decide +kernel
theorem dX13_rectangle_132 : decode cX13_rectangle 132 = .ok (.iinc 4 1, 3) := by decide +kernel
theorem dX13_rectangle_135 : decode cX13_rectangle 135 = .ok (.goto (-65), 3) := by decide +kernel
theorem dX13_rectangle_138 : decode cX13_rectangle 138 = .ok (.iload 4, 2) := by decide +kernel
theorem dX13_rectangle_140 : decode cX13_rectangle 140 = .ok (.aload_n 0, 1) := by decide +kernel
theorem dX13_rectangle_141 : decode cX13_rectangle 141 = .ok (.getfield 20, 3) := by decide +kernel
theorem dX13_rectangle_144 : decode cX13_rectangle 144 = .ok (.iconst 0, 1) := by decide +kernel
theorem dX13_rectangle_145 : decode cX13_rectangle 145 = .ok (.iaload, 1) := by decide +kernel
theorem dX13_rectangle_146 : decode cX13_rectangle 146 = .ok (.irem, 1) := by decide +kernel
theorem dX13_rectangle_147 : decode cX13_rectangle 147 = .ok (.istore 6, 2) := by decide +kernel
theorem dX13_rectangle_149 : decode cX13_rectangle 149 = .ok (.iload 4, 2) := by decide +kernel
theorem dX13_rectangle_151 : decode cX13_rectangle 151 = .ok (.aload_n 0, 1) := by decide +kernel
theorem dX13_rectangle_152 : decode cX13_rectangle 152 = .ok (.getfield 20, 3) := by decide +kernel
theorem dX13_rectangle_155 : decode cX13_rectangle 155 = .ok (.iconst 0, 1) := by decide +kernel
theorem dX13_rectangle_156 : decode cX13_rectangle 156 = .ok (.iaload, 1) := by decide +kernel
theorem dX13_rectangle_157 : decode cX13_rectangle 157 = .ok (.idiv, 1) := by decide +kernel
theorem dX13_rectangle_158 : decode cX13_rectangle 158 = .ok (.istore 7, 2) := by decide +kernel
theorem dX13_rectangle_160 : decode cX13_rectangle 160 = .ok (.iload_n 3, 1) := by decide +kernel
theorem dX13_rectangle_161 : decode cX13_rectangle 161 = .ok (.iconst 2, 1) := by decide +kernel
theorem dX13_rectangle_162 : decode cX13_rectangle 162 = .ok (.if_icmp .ge 15, 3) := by decide +kernel
theorem dX13_rectangle_165 : decode cX13_rectangle 165 = .ok (.iload_n 3, 1) := by decide +kernel
theorem dX13_rectangle_166 : decode cX13_rectangle 166 = .ok (.ifCond .ne 8, 3) := by decide +kernel
theorem dX13_rectangle_169 : decode cX13_rectangle 169 = .ok (.iload 6, 2) := by decide +kernel
theorem dX13_rectangle_171 : decode cX13_rectangle 171 = .ok (.goto 5, 3) := by decide +kernel
theorem dX13_rectangle_174 : decode cX13_rectangle 174 = .ok (.iload 7, 2) := by decide +kernel
theorem dX13_rectangle_176 : decode cX13_rectangle 176 = .ok (.ireturn, 1) := by decide +kernel
theorem dX13_rectangle_177 : decode cX13_rectangle 177 = .ok (.iload_n 3, 1) := by decide +kernel
theorem dX13_rectangle_178 : decode cX13_rectangle 178 = .ok (.iconst 2, 1) := by decide +kernel
theorem dX13_rectangle_179 : decode cX13_rectangle 179 = .ok (.if_icmp .ne 13, 3) := by decide +kernel
theorem dX13_rectangle_182 : decode cX13_rectangle 182 = .ok (.aload_n 0, 1) := by decide +kernel
theorem dX13_rectangle_183 : decode cX13_rectangle 183 = .ok (.iload_n 1, 1) := by decide +kernel
theorem dX13_rectangle_184 : decode cX13_rectangle 184 = .ok (.iload 6, 2) := by decide +kernel
theorem dX13_rectangle_186 : decode cX13_rectangle 186 = .ok (.iload 7, 2) := by decide +kernel
theorem dX13_rectangle_188 : decode cX13_rectangle 188 = .ok (.invokevirtual 336, 3) := by decide +kernel
theorem dX13_rectangle_191 : decode cX13_rectangle 191 = .ok (.ireturn, 1) := by decide +kernel
theorem dX13_rectangle_192 : decode cX13_rectangle 192 = .ok (.aload_n 0, 1) := by decide +kernel
theorem dX13_rectangle_193 : decode cX13_rectangle 193 = .ok (.iload_n 1, 1) := by decide +kernel
theorem dX13_rectangle_194 : decode cX13_rectangle 194 = .ok (.iload 6, 2) := by decide +kernel
theorem dX13_rectangle_196 : decode cX13_rectangle 196 = .ok (.iload 7, 2) := by decide +kernel
theorem dX13_rectangle_198 : decode cX13_rectangle 198 = .ok (.invokevirtual 351, 3) := by decide +kernel
theorem dX13_rectangle_201 : decode cX13_rectangle 201 = .ok (.ireturn, 1) := by decide +kernel
set_option maxRecDepth 20000 in
theorem ggX13_rectangleAt_X13_isCell : GoodIn wsX13_rectangleAt wsX13_isCell := goodIn_r _ [7, 2, 8, 9, 6, 10, 39, 40, 41, 42, 43, 44, 45, 46, 47, 48, 49, 50, 51, 52, 53, 54, 55, 56, 57, 58, 59, 60, 61, 62, 63, 64, 65, 66, 67, 68, 69, 70, 71, 72, 73, 74, 75, 76, 77, 78, 79, 80, 81, 82, 83, 84, 85, 86] (by decide +kernel) (by decide +kernel)
set_option maxRecDepth 20000 in
theorem gX13_rectangleAt_X13_isCell : GoodIn wsX13_rectangleAt (wsV RX13 195 RX13 yX13_isCell wsX13_isCell) := goodIn_app (goodIn_of _ (by decide +kernel)) ggX13_rectangleAt_X13_isCell
set_option maxRecDepth 20000 in
theorem ggX13_rectangleAt_X13_isLayer : GoodIn wsX13_rectangleAt wsX13_isLayer := goodIn_r _ [14, 2, 8, 9, 6, 10, 39, 40, 41, 42, 43, 44, 45, 46, 47, 48, 49, 50, 51, 52, 53, 54, 55, 56, 57, 58, 59, 60, 61, 62, 63, 64, 65, 66, 67, 68, 69, 70, 71, 72, 73, 74, 75, 76, 77, 78, 79, 80, 81, 82, 83, 84, 85, 86] (by decide +kernel) (by decide +kernel)
set_option maxRecDepth 20000 in
theorem gX13_rectangleAt_X13_isLayer : GoodIn wsX13_rectangleAt (wsV RX13 327 RX13 yX13_isLayer wsX13_isLayer) := goodIn_app (goodIn_of _ (by decide +kernel)) ggX13_rectangleAt_X13_isLayer
set_option maxRecDepth 20000 in
theorem ggX13_rectangleAt_X13_truth : GoodIn wsX13_rectangleAt wsX13_truth := goodIn_r _ [17] (by decide +kernel) (by decide +kernel)
set_option maxRecDepth 20000 in
theorem gX13_rectangleAt_X13_truth : GoodIn wsX13_rectangleAt (va_wsS RX13 96 yX13_truth wsX13_truth) := goodIn_app (goodIn_of _ (by decide +kernel)) ggX13_rectangleAt_X13_truth
set_option maxRecDepth 20000 in
theorem ggX13_rectangleAt_X13_isOf : GoodIn wsX13_rectangleAt wsX13_isOf := goodIn_r _ [21, 22, 3, 4, 5, 6, 7, 2, 8, 9, 10, 39, 40, 41, 42, 43, 44, 45, 46, 47, 48, 49, 50, 51, 52, 53, 54, 55, 56, 57, 58, 59, 60, 61, 62, 63, 64, 65, 66, 67, 68, 69, 70, 71, 72, 73, 74, 75, 76, 77, 78, 79, 80, 81, 82, 83, 84, 85, 86] (by decide +kernel) (by decide +kernel)
set_option maxRecDepth 20000 in
theorem gX13_rectangleAt_X13_isOf : GoodIn wsX13_rectangleAt (wsV RX13 330 RX13 yX13_isOf wsX13_isOf) := goodIn_app (goodIn_of _ (by decide +kernel)) ggX13_rectangleAt_X13_isOf
set_option maxRecDepth 20000 in
theorem ggX13_rectangleAt_X13_beginsRun : GoodIn wsX13_rectangleAt wsX13_beginsRun := goodIn_r _ [26, 18, 19, 20, 6, 21, 22, 3, 4, 5, 7, 2, 8, 9, 10, 39, 40, 41, 42, 43, 44, 45, 46, 47, 48, 49, 50, 51, 52, 53, 54, 55, 56, 57, 58, 59, 60, 61, 62, 63, 64, 65, 66, 67, 68, 69, 70, 71, 72, 73, 74, 75, 76, 77, 78, 79, 80, 81, 82, 83, 84, 85, 86] (by decide +kernel) (by decide +kernel)
set_option maxRecDepth 20000 in
theorem gX13_rectangleAt_X13_beginsRun : GoodIn wsX13_rectangleAt (wsV RX13 333 RX13 yX13_beginsRun wsX13_beginsRun) := goodIn_app (goodIn_of _ (by decide +kernel)) ggX13_rectangleAt_X13_beginsRun
set_option maxRecDepth 20000 in
theorem ggX13_rectangleAt_X13_beginsRectangle : GoodIn wsX13_rectangleAt wsX13_beginsRectangle := goodIn_r _ [30, 23, 24, 25, 6, 26, 18, 19, 20, 21, 22, 3, 4, 5, 7, 2, 8, 9, 10, 31, 32, 33, 34, 35, 36, 37, 38, 39, 40, 41, 42, 43, 44, 45, 46, 47, 48, 49, 50, 51, 52, 53, 54, 55, 56, 57, 58, 59, 60, 61, 62, 63, 64, 65, 66, 67, 68, 69, 70, 71, 72, 73, 74, 75, 76, 77, 78, 79, 80, 81, 82, 83, 84, 85, 86] (by decide +kernel) (by decide +kernel)
set_option maxRecDepth 20000 in
theorem gX13_rectangleAt_X13_beginsRectangle : GoodIn wsX13_rectangleAt (wsV RX13 343 RX13 yX13_beginsRectangle wsX13_beginsRectangle) := goodIn_app (goodIn_of _ (by decide +kernel)) ggX13_rectangleAt_X13_beginsRectangle
theorem dX13_rectangleAt_0 : decode cX13_rectangleAt 0 = .ok (.aload_n 0, 1) := by decide +kernel
theorem dX13_rectangleAt_1 : decode cX13_rectangleAt 1 = .ok (.aload_n 0, 1) := by decide +kernel
theorem dX13_rectangleAt_2 : decode cX13_rectangleAt 2 = .ok (.iload_n 2, 1) := by decide +kernel
theorem dX13_rectangleAt_3 : decode cX13_rectangleAt 3 = .ok (.iload_n 3, 1) := by decide +kernel
theorem dX13_rectangleAt_4 : decode cX13_rectangleAt 4 = .ok (.invokevirtual 195, 3) := by decide +kernel
theorem dX13_rectangleAt_7 : decode cX13_rectangleAt 7 = .ok (.ifCond .ne 7, 3) := by decide +kernel
theorem dX13_rectangleAt_10 : decode cX13_rectangleAt 10 = .ok (.iconst 1, 1) := by decide +kernel
theorem dX13_rectangleAt_11 : decode cX13_rectangleAt 11 = .ok (.goto 21, 3) := by decide +kernel
theorem dX13_rectangleAt_14 : decode cX13_rectangleAt 14 = .ok (.aload_n 0, 1) := by decide +kernel
theorem dX13_rectangleAt_15 : decode cX13_rectangleAt 15 = .ok (.iload_n 1, 1) := by decide +kernel
theorem dX13_rectangleAt_16 : decode cX13_rectangleAt 16 = .ok (.invokevirtual 327, 3) := by decide +kernel
theorem dX13_rectangleAt_19 : decode cX13_rectangleAt 19 = .ok (.ifCond .ne 7, 3) := by decide +kernel
theorem dX13_rectangleAt_22 : decode cX13_rectangleAt 22 = .ok (.iconst 1, 1) := by decide +kernel
theorem dX13_rectangleAt_23 : decode cX13_rectangleAt 23 = .ok (.goto 4, 3) := by decide +kernel
theorem dX13_rectangleAt_26 : decode cX13_rectangleAt 26 = .ok (.iconst 0, 1) := by decide +kernel
theorem dX13_rectangleAt_27 : decode cX13_rectangleAt 27 = .ok (.invokestatic 96, 3) := by decide +kernel
theorem dX13_rectangleAt_30 : decode cX13_rectangleAt 30 = .ok (.iconst 2, 1) := by decide +kernel
theorem dX13_rectangleAt_31 : decode cX13_rectangleAt 31 = .ok (.imul, 1) := by decide +kernel
theorem dX13_rectangleAt_32 : decode cX13_rectangleAt 32 = .ok (.putfield 93, 3) := by decide +kernel
theorem dX13_rectangleAt_35 : decode cX13_rectangleAt 35 = .ok (.aload_n 0, 1) := by decide +kernel
theorem dX13_rectangleAt_36 : decode cX13_rectangleAt 36 = .ok (.getfield 93, 3) := by decide +kernel
theorem dX13_rectangleAt_39 : decode cX13_rectangleAt 39 = .ok (.ifCond .le 5, 3) := by decide +kernel
theorem dX13_rectangleAt_42 : decode cX13_rectangleAt 42 = .ok (.iconst 0, 1) := by decide +kernel
theorem dX13_rectangleAt_43 : decode cX13_rectangleAt 43 = .ok (.ireturn, 1) := by decide +kernel
theorem dX13_rectangleAt_44 : decode cX13_rectangleAt 44 = .ok (.aload_n 0, 1) := by decide +kernel
theorem dX13_rectangleAt_45 : decode cX13_rectangleAt 45 = .ok (.iload_n 1, 1) := by decide +kernel
theorem dX13_rectangleAt_46 : decode cX13_rectangleAt 46 = .ok (.iload_n 2, 1) := by decide +kernel
theorem dX13_rectangleAt_47 : decode cX13_rectangleAt 47 = .ok (.iload_n 3, 1) := by decide +kernel
theorem dX13_rectangleAt_48 : decode cX13_rectangleAt 48 = .ok (.invokevirtual 330, 3) := by decide +kernel
theorem dX13_rectangleAt_51 : decode cX13_rectangleAt 51 = .ok (.ifCond .ne 5, 3) := by decide +kernel
theorem dX13_rectangleAt_54 : decode cX13_rectangleAt 54 = .ok (.iconst (-1), 1) := by decide +kernel
theorem dX13_rectangleAt_55 : decode cX13_rectangleAt 55 = .ok (.ireturn, 1) := by decide +kernel
theorem dX13_rectangleAt_56 : decode cX13_rectangleAt 56 = .ok (.iload_n 2, 1) := by decide +kernel
theorem dX13_rectangleAt_57 : decode cX13_rectangleAt 57 = .ok (.istore 4, 2) := by decide +kernel
theorem dX13_rectangleAt_59 : decode cX13_rectangleAt 59 = .ok (.aload_n 0, 1) := by decide +kernel
theorem dX13_rectangleAt_60 : decode cX13_rectangleAt 60 = .ok (.iload_n 1, 1) := by decide +kernel
theorem dX13_rectangleAt_61 : decode cX13_rectangleAt 61 = .ok (.iload 4, 2) := by decide +kernel
theorem dX13_rectangleAt_63 : decode cX13_rectangleAt 63 = .ok (.iload_n 3, 1) := by decide +kernel
theorem dX13_rectangleAt_64 : decode cX13_rectangleAt 64 = .ok (.invokevirtual 333, 3) := by decide +kernel
theorem dX13_rectangleAt_67 : decode cX13_rectangleAt 67 = .ok (.ifCond .ne 9, 3) := by decide +kernel
theorem dX13_rectangleAt_70 : decode cX13_rectangleAt 70 = .ok (.iinc 4 (-1), 3) := by decide +kernel
theorem dX13_rectangleAt_73 : decode cX13_rectangleAt 73 = .ok (.goto (-14), 3) := by decide +kernel
theorem dX13_rectangleAt_76 : decode cX13_rectangleAt 76 = .ok (.iload_n 3, 1) := by decide +kernel
theorem dX13_rectangleAt_77 : decode cX13_rectangleAt 77 = .ok (.istore 5, 2) := by decide +kernel
theorem dX13_rectangleAt_79 : decode cX13_rectangleAt 79 = .ok (.aload_n 0, 1) := by decide +kernel
theorem dX13_rectangleAt_80 : decode cX13_rectangleAt 80 = .ok (.iload_n 1, 1) := by decide +kernel
theorem dX13_rectangleAt_81 : decode cX13_rectangleAt 81 = .ok (.iload 4, 2) := by decide +kernel
theorem dX13_rectangleAt_83 : decode cX13_rectangleAt 83 = .ok (.iload 5, 2) := by decide +kernel
theorem dX13_rectangleAt_85 : decode cX13_rectangleAt 85 = .ok (.invokevirtual 343, 3) := by decide +kernel
theorem dX13_rectangleAt_88 : decode cX13_rectangleAt 88 = .ok (.ifCond .ne 9, 3) := by decide +kernel
theorem dX13_rectangleAt_91 : decode cX13_rectangleAt 91 = .ok (.iinc 5 (-1), 3) := by decide +kernel
theorem dX13_rectangleAt_94 : decode cX13_rectangleAt 94 = .ok (.goto (-15), 3) := by decide +kernel
theorem dX13_rectangleAt_97 : decode cX13_rectangleAt 97 = .ok (.iconst 0, 1) := by decide +kernel
theorem dX13_rectangleAt_98 : decode cX13_rectangleAt 98 = .ok (.istore 6, 2) := by decide +kernel
theorem dX13_rectangleAt_100 : decode cX13_rectangleAt 100 = .ok (.iconst 0, 1) := by decide +kernel
theorem dX13_rectangleAt_101 : decode cX13_rectangleAt 101 = .ok (.istore 7, 2) := by decide +kernel
theorem dX13_rectangleAt_103 : decode cX13_rectangleAt 103 = .ok (.iload 7, 2) := by decide +kernel
theorem dX13_rectangleAt_105 : decode cX13_rectangleAt 105 = .ok (.aload_n 0, 1) := by decide +kernel
theorem dX13_rectangleAt_106 : decode cX13_rectangleAt 106 = .ok (.getfield 20, 3) := by decide +kernel
theorem dX13_rectangleAt_109 : decode cX13_rectangleAt 109 = .ok (.iconst 0, 1) := by decide +kernel
theorem dX13_rectangleAt_110 : decode cX13_rectangleAt 110 = .ok (.iaload, 1) := by decide +kernel
theorem dX13_rectangleAt_111 : decode cX13_rectangleAt 111 = .ok (.iload 5, 2) := by decide +kernel
theorem dX13_rectangleAt_113 : decode cX13_rectangleAt 113 = .ok (.imul, 1) := by decide +kernel
theorem dX13_rectangleAt_114 : decode cX13_rectangleAt 114 = .ok (.iload 4, 2) := by decide +kernel
theorem dX13_rectangleAt_116 : decode cX13_rectangleAt 116 = .ok (.iadd, 1) := by decide +kernel
theorem dX13_rectangleAt_117 : decode cX13_rectangleAt 117 = .ok (.if_icmp .ge 40, 3) := by decide +kernel
theorem dX13_rectangleAt_120 : decode cX13_rectangleAt 120 = .ok (.iload 6, 2) := by decide +kernel
theorem dX13_rectangleAt_122 : decode cX13_rectangleAt 122 = .ok (.aload_n 0, 1) := by decide +kernel
theorem dX13_rectangleAt_123 : decode cX13_rectangleAt 123 = .ok (.iload_n 1, 1) := by decide +kernel
theorem dX13_rectangleAt_124 : decode cX13_rectangleAt 124 = .ok (.iload 7, 2) := by decide +kernel
theorem dX13_rectangleAt_126 : decode cX13_rectangleAt 126 = .ok (.aload_n 0, 1) := by decide +kernel
theorem dX13_rectangleAt_127 : decode cX13_rectangleAt 127 = .ok (.getfield 20, 3) := by decide +kernel
theorem dX13_rectangleAt_130 : decode cX13_rectangleAt 130 = .ok (.iconst 0, 1) := by decide +kernel
theorem dX13_rectangleAt_131 : decode cX13_rectangleAt 131 = .ok (.iaload, 1) := by decide +kernel
theorem dX13_rectangleAt_132 : decode cX13_rectangleAt 132 = .ok (.irem, 1) := by decide +kernel
theorem dX13_rectangleAt_133 : decode cX13_rectangleAt 133 = .ok (.iload 7, 2) := by decide +kernel
theorem dX13_rectangleAt_135 : decode cX13_rectangleAt 135 = .ok (.aload_n 0, 1) := by decide +kernel
theorem dX13_rectangleAt_136 : decode cX13_rectangleAt 136 = .ok (.getfield 20, 3) := by decide +kernel
theorem dX13_rectangleAt_139 : decode cX13_rectangleAt 139 = .ok (.iconst 0, 1) := by decide +kernel
theorem dX13_rectangleAt_140 : decode cX13_rectangleAt 140 = .ok (.iaload, 1) := by decide +kernel
theorem dX13_rectangleAt_141 : decode cX13_rectangleAt 141 = .ok (.idiv, 1) := by decide +kernel
theorem dX13_rectangleAt_142 : decode cX13_rectangleAt 142 = .ok (.invokevirtual 343, 3) := by decide +kernel
theorem dX13_rectangleAt_145 : decode cX13_rectangleAt 145 = .ok (.invokestatic 96, 3) := by decide +kernel
theorem dX13_rectangleAt_148 : decode cX13_rectangleAt 148 = .ok (.iadd, 1) := by decide +kernel
theorem dX13_rectangleAt_149 : decode cX13_rectangleAt 149 = .ok (.istore 6, 2) := by decide +kernel
theorem dX13_rectangleAt_151 : decode cX13_rectangleAt 151 = .ok (.iinc 7 1, 3) := by decide +kernel
theorem dX13_rectangleAt_154 : decode cX13_rectangleAt 154 = .ok (.goto (-51), 3) := by decide +kernel
theorem dX13_rectangleAt_157 : decode cX13_rectangleAt 157 = .ok (.iload 6, 2) := by decide +kernel
theorem dX13_rectangleAt_159 : decode cX13_rectangleAt 159 = .ok (.ireturn, 1) := by decide +kernel
set_option maxRecDepth 20000 in
theorem ggX13_rowsOf_X13_hasTwin : GoodIn wsX13_rowsOf wsX13_hasTwin := goodIn_r _ [5, 6, 7, 8, 4, 9, 10, 11, 12, 13, 14, 15, 16, 17, 18, 19, 20, 21, 22, 23, 24, 25, 26, 27, 28, 29, 30, 31, 32, 33, 34, 35, 36, 37, 38, 39, 40, 41, 42, 43, 44, 45, 46, 47, 48, 49, 50, 51, 52, 53, 54, 55, 56, 57, 58, 59, 60, 61, 62, 63, 64, 65, 66, 67, 68, 69, 70, 71, 72, 73, 74] (by decide +kernel) (by decide +kernel)
set_option maxRecDepth 20000 in
theorem gX13_rowsOf_X13_hasTwin : GoodIn wsX13_rowsOf (wsV RX13 339 RX13 yX13_hasTwin wsX13_hasTwin) := goodIn_app (goodIn_of _ (by decide +kernel)) ggX13_rowsOf_X13_hasTwin
theorem dX13_rowsOf_0 : decode cX13_rowsOf 0 = .ok (.iconst 1, 1) := by decide +kernel
theorem dX13_rowsOf_1 : decode cX13_rowsOf 1 = .ok (.istore 4, 2) := by decide +kernel
theorem dX13_rowsOf_3 : decode cX13_rowsOf 3 = .ok (.aload_n 0, 1) := by decide +kernel
theorem dX13_rowsOf_4 : decode cX13_rowsOf 4 = .ok (.iload_n 1, 1) := by decide +kernel
theorem dX13_rowsOf_5 : decode cX13_rowsOf 5 = .ok (.iload_n 2, 1) := by decide +kernel
theorem dX13_rowsOf_6 : decode cX13_rowsOf 6 = .ok (.iload_n 3, 1) := by decide +kernel
theorem dX13_rowsOf_7 : decode cX13_rowsOf 7 = .ok (.iload_n 3, 1) := by decide +kernel
theorem dX13_rowsOf_8 : decode cX13_rowsOf 8 = .ok (.iload 4, 2) := by decide +kernel
theorem dX13_rowsOf_10 : decode cX13_rowsOf 10 = .ok (.iadd, 1) := by decide +kernel
theorem dX13_rowsOf_11 : decode cX13_rowsOf 11 = .ok (.invokevirtual 339, 3) := by decide +kernel
theorem dX13_rowsOf_14 : decode cX13_rowsOf 14 = .ok (.ifCond .eq 9, 3) := by decide +kernel
theorem dX13_rowsOf_17 : decode cX13_rowsOf 17 = .ok (.iinc 4 1, 3) := by decide +kernel
theorem dX13_rowsOf_20 : decode cX13_rowsOf 20 = .ok (.goto (-17), 3) := by decide +kernel
theorem dX13_rowsOf_23 : decode cX13_rowsOf 23 = .ok (.iload 4, 2) := by decide +kernel
theorem dX13_rowsOf_25 : decode cX13_rowsOf 25 = .ok (.ireturn, 1) := by decide +kernel
set_option maxRecDepth 20000 in
theorem ggX13_largest_X13_isLayer : GoodIn wsX13_largest wsX13_isLayer := goodIn_r _ [6, 1, 7, 8, 5, 9, 54, 55, 56, 57, 58, 59, 60, 61, 62, 63, 64, 65, 66, 67, 68, 69, 70, 71, 72, 73, 74, 75, 76, 77, 78, 79, 80, 81, 82, 83, 84, 85, 86, 87, 88, 89, 90, 91, 92, 93, 94, 95, 96, 97, 98, 99, 100, 101] (by decide +kernel) (by decide +kernel)
set_option maxRecDepth 20000 in
theorem gX13_largest_X13_isLayer : GoodIn wsX13_largest (wsV RX13 327 RX13 yX13_isLayer wsX13_isLayer) := goodIn_app (goodIn_of _ (by decide +kernel)) ggX13_largest_X13_isLayer
set_option maxRecDepth 20000 in
theorem ggX13_largest_X13_goes : GoodIn wsX13_largest wsX13_goes := goodIn_r _ [13, 14, 15, 16, 5, 17, 54, 55, 56, 57, 58, 59, 60, 61, 62, 63, 64, 65, 66, 67, 68, 69, 70, 71, 72, 73, 74, 75, 76, 77, 78, 79, 80, 81, 82, 83, 84, 85, 86, 87, 88, 89, 90, 91, 92, 93, 94, 95, 96, 97, 98, 99, 100, 101] (by decide +kernel) (by decide +kernel)
set_option maxRecDepth 20000 in
theorem gX13_largest_X13_goes : GoodIn wsX13_largest (wsV RX13 103 RX13 yX13_goes wsX13_goes) := goodIn_app (goodIn_of _ (by decide +kernel)) ggX13_largest_X13_goes
set_option maxRecDepth 20000 in
theorem ggX13_largest_X13_cellMany : GoodIn wsX13_largest wsX13_cellMany := goodIn_r _ [21, 1, 54, 55, 56, 57, 58, 59, 60, 61, 62, 63, 64, 65, 66, 67, 68, 69, 70, 71, 72, 73, 74, 75, 76, 77, 78, 79, 80, 81, 82, 83, 84, 85, 86, 87, 88, 89, 90, 91, 92, 93, 94, 95, 96, 97, 98, 99, 100, 101] (by decide +kernel) (by decide +kernel)
set_option maxRecDepth 20000 in
theorem gX13_largest_X13_cellMany : GoodIn wsX13_largest (wsV RX13 251 RX13 yX13_cellMany wsX13_cellMany) := goodIn_app (goodIn_of _ (by decide +kernel)) ggX13_largest_X13_cellMany
set_option maxRecDepth 20000 in
theorem ggX13_largest_X13_beginsRectangle : GoodIn wsX13_largest wsX13_beginsRectangle := goodIn_r _ [25, 26, 27, 28, 5, 29, 30, 31, 32, 33, 34, 35, 36, 37, 38, 1, 7, 8, 9, 39, 40, 41, 42, 43, 44, 45, 46, 54, 55, 56, 57, 58, 59, 60, 61, 62, 63, 64, 65, 66, 67, 68, 69, 70, 71, 72, 73, 74, 75, 76, 77, 78, 79, 80, 81, 82, 83, 84, 85, 86, 87, 88, 89, 90, 91, 92, 93, 94, 95, 96, 97, 98, 99, 100, 101] (by decide +kernel) (by decide +kernel)
set_option maxRecDepth 20000 in
theorem gX13_largest_X13_beginsRectangle : GoodIn wsX13_largest (wsV RX13 343 RX13 yX13_beginsRectangle wsX13_beginsRectangle) := goodIn_app (goodIn_of _ (by decide +kernel)) ggX13_largest_X13_beginsRectangle
set_option maxRecDepth 20000 in
theorem ggX13_largest_X13_runLength : GoodIn wsX13_largest wsX13_runLength := goodIn_r _ [46, 30, 31, 32, 5, 33, 34, 35, 36, 37, 38, 1, 7, 8, 9, 54, 55, 56, 57, 58, 59, 60, 61, 62, 63, 64, 65, 66, 67, 68, 69, 70, 71, 72, 73, 74, 75, 76, 77, 78, 79, 80, 81, 82, 83, 84, 85, 86, 87, 88, 89, 90, 91, 92, 93, 94, 95, 96, 97, 98, 99, 100, 101] (by decide +kernel) (by decide +kernel)
set_option maxRecDepth 20000 in
theorem gX13_largest_X13_runLength : GoodIn wsX13_largest (wsV RX13 336 RX13 yX13_runLength wsX13_runLength) := goodIn_app (goodIn_of _ (by decide +kernel)) ggX13_largest_X13_runLength
set_option maxRecDepth 20000 in
theorem ggX13_largest_X13_rowsOf : GoodIn wsX13_largest wsX13_rowsOf := goodIn_r _ [50, 39, 40, 41, 5, 42, 26, 27, 28, 29, 30, 31, 32, 33, 34, 35, 36, 37, 38, 1, 7, 8, 9, 43, 44, 45, 46, 54, 55, 56, 57, 58, 59, 60, 61, 62, 63, 64, 65, 66, 67, 68, 69, 70, 71, 72, 73, 74, 75, 76, 77, 78, 79, 80, 81, 82, 83, 84, 85, 86, 87, 88, 89, 90, 91, 92, 93, 94, 95, 96, 97, 98, 99, 100, 101] (by decide +kernel) (by decide +kernel)
set_option maxRecDepth 20000 in
theorem gX13_largest_X13_rowsOf : GoodIn wsX13_largest (wsV RX13 351 RX13 yX13_rowsOf wsX13_rowsOf) := goodIn_app (goodIn_of _ (by decide +kernel)) ggX13_largest_X13_rowsOf
set_option maxRecDepth 20000 in
theorem ggX13_largest_X13_more : GoodIn wsX13_largest wsX13_more := goodIn_r _ [53] (by decide +kernel) (by decide +kernel)
set_option maxRecDepth 20000 in
theorem gX13_largest_X13_more : GoodIn wsX13_largest (va_wsS RX13 264 yX13_more wsX13_more) := goodIn_app (goodIn_of _ (by decide +kernel)) ggX13_largest_X13_more
theorem dX13_largest_0 : decode cX13_largest 0 = .ok (.aload_n 0, 1) := by decide +kernel
theorem dX13_largest_1 : decode cX13_largest 1 = .ok (.aload_n 0, 1) := by decide +kernel
theorem dX13_largest_2 : decode cX13_largest 2 = .ok (.iload_n 1, 1) := by decide +kernel
theorem dX13_largest_3 : decode cX13_largest 3 = .ok (.invokevirtual 327, 3) := by decide +kernel
theorem dX13_largest_6 : decode cX13_largest 6 = .ok (.invokevirtual 103, 3) := by decide +kernel
theorem dX13_largest_9 : decode cX13_largest 9 = .ok (.ifCond .ne 5, 3) := by decide +kernel
theorem dX13_largest_12 : decode cX13_largest 12 = .ok (.iconst 0, 1) := by decide +kernel
theorem dX13_largest_13 : decode cX13_largest 13 = .ok (.ireturn, 1) := by decide +kernel
theorem dX13_largest_14 : decode cX13_largest 14 = .ok (.iconst (-1), 1) := by decide +kernel
theorem dX13_largest_15 : decode cX13_largest 15 = .ok (.istore_n 2, 1) := by decide +kernel
theorem dX13_largest_16 : decode cX13_largest 16 = .ok (.iconst 0, 1) := by decide +kernel
theorem dX13_largest_17 : decode cX13_largest 17 = .ok (.istore_n 3, 1) := by decide +kernel
theorem dX13_largest_18 : decode cX13_largest 18 = .ok (.iconst 0, 1) := by decide +kernel
theorem dX13_largest_19 : decode cX13_largest 19 = .ok (.istore 4, 2) := by decide +kernel
theorem dX13_largest_21 : decode cX13_largest 21 = .ok (.iconst 0, 1) := by decide +kernel
theorem dX13_largest_22 : decode cX13_largest 22 = .ok (.istore 5, 2) := by decide +kernel
theorem dX13_largest_24 : decode cX13_largest 24 = .ok (.iload 5, 2) := by decide +kernel
theorem dX13_largest_26 : decode cX13_largest 26 = .ok (.aload_n 0, 1) := by decide +kernel
theorem dX13_largest_27 : decode cX13_largest 27 = .ok (.invokevirtual 251, 3) := by decide +kernel
theorem dX13_largest_30 : decode cX13_largest 30 = .ok (.if_icmp .ge 90, 3) := by decide +kernel
theorem dX13_largest_33 : decode cX13_largest 33 = .ok (.iload 5, 2) := by decide +kernel
theorem dX13_largest_35 : decode cX13_largest 35 = .ok (.aload_n 0, 1) := by decide +kernel
theorem dX13_largest_36 : decode cX13_largest 36 = .ok (.getfield 20, 3) := by decide +kernel
theorem dX13_largest_39 : decode cX13_largest 39 = .ok (.iconst 0, 1) := by decide +kernel
theorem dX13_largest_40 : decode cX13_largest 40 = .ok (.iaload, 1) := by decide +kernel
theorem dX13_largest_41 : decode cX13_largest 41 = .ok (.irem, 1) := by decide +kernel
theorem dX13_largest_42 : decode cX13_largest 42 = .ok (.istore 6, 2) := by decide +kernel
theorem dX13_largest_44 : decode cX13_largest 44 = .ok (.iload 5, 2) := by decide +kernel
theorem dX13_largest_46 : decode cX13_largest 46 = .ok (.aload_n 0, 1) := by decide +kernel
theorem dX13_largest_47 : decode cX13_largest 47 = .ok (.getfield 20, 3) := by decide +kernel
theorem dX13_largest_50 : decode cX13_largest 50 = .ok (.iconst 0, 1) := by decide +kernel
theorem dX13_largest_51 : decode cX13_largest 51 = .ok (.iaload, 1) := by decide +kernel
theorem dX13_largest_52 : decode cX13_largest 52 = .ok (.idiv, 1) := by decide +kernel
theorem dX13_largest_53 : decode cX13_largest 53 = .ok (.istore 7, 2) := by decide +kernel
theorem dX13_largest_55 : decode cX13_largest 55 = .ok (.aload_n 0, 1) := by decide +kernel
theorem dX13_largest_56 : decode cX13_largest 56 = .ok (.iload_n 1, 1) := by decide +kernel
theorem dX13_largest_57 : decode cX13_largest 57 = .ok (.iload 6, 2) := by decide +kernel
theorem dX13_largest_59 : decode cX13_largest 59 = .ok (.iload 7, 2) := by decide +kernel
theorem dX13_largest_61 : decode cX13_largest 61 = .ok (.invokevirtual 343, 3) := by decide +kernel
theorem dX13_largest_64 : decode cX13_largest 64 = .ok (.ifCond .ne 6, 3) := by decide +kernel
theorem dX13_largest_67 : decode cX13_largest 67 = .ok (.goto 47, 3) := by decide +kernel
theorem dX13_largest_70 : decode cX13_largest 70 = .ok (.aload_n 0, 1) := by decide +kernel
theorem dX13_largest_71 : decode cX13_largest 71 = .ok (.iload_n 1, 1) := by decide +kernel
theorem dX13_largest_72 : decode cX13_largest 72 = .ok (.iload 6, 2) := by decide +kernel
theorem dX13_largest_74 : decode cX13_largest 74 = .ok (.iload 7, 2) := by decide +kernel
theorem dX13_largest_76 : decode cX13_largest 76 = .ok (.invokevirtual 336, 3) := by decide +kernel
theorem dX13_largest_79 : decode cX13_largest 79 = .ok (.aload_n 0, 1) := by decide +kernel
theorem dX13_largest_80 : decode cX13_largest 80 = .ok (.iload_n 1, 1) := by decide +kernel
theorem dX13_largest_81 : decode cX13_largest 81 = .ok (.iload 6, 2) := by decide +kernel
theorem dX13_largest_83 : decode cX13_largest 83 = .ok (.iload 7, 2) := by decide +kernel
theorem dX13_largest_85 : decode cX13_largest 85 = .ok (.invokevirtual 351, 3) := by decide +kernel
theorem dX13_largest_88 : decode cX13_largest 88 = .ok (.imul, 1) := by decide +kernel
theorem dX13_largest_89 : decode cX13_largest 89 = .ok (.istore 8, 2) := by decide +kernel
theorem dX13_largest_91 : decode cX13_largest 91 = .ok (.iload 8, 2) := by decide +kernel
theorem dX13_largest_93 : decode cX13_largest 93 = .ok (.iload_n 3, 1) := by decide +kernel
theorem dX13_largest_94 : decode cX13_largest 94 = .ok (.if_icmp .le 8, 3) := by decide +kernel
theorem dX13_largest_97 : decode cX13_largest 97 = .ok (.iload 4, 2) := by decide +kernel
theorem dX13_largest_99 : decode cX13_largest 99 = .ok (.goto 4, 3) := by decide +kernel
theorem dX13_largest_102 : decode cX13_largest 102 = .ok (.iload_n 2, 1) := by decide +kernel
theorem dX13_largest_103 : decode cX13_largest 103 = .ok (.istore_n 2, 1) := by decide +kernel
theorem dX13_largest_104 : decode cX13_largest 104 = .ok (.iload_n 3, 1) := by decide +kernel
theorem dX13_largest_105 : decode cX13_largest 105 = .ok (.iload 8, 2) := by decide +kernel
theorem dX13_largest_107 : decode cX13_largest 107 = .ok (.invokestatic 264, 3) := by decide +kernel
theorem dX13_largest_110 : decode cX13_largest 110 = .ok (.istore_n 3, 1) := by decide +kernel
theorem dX13_largest_111 : decode cX13_largest 111 = .ok (.iinc 4 1, 3) := by decide +kernel
theorem dX13_largest_114 : decode cX13_largest 114 = .ok (.iinc 5 1, 3) := by decide +kernel
theorem dX13_largest_117 : decode cX13_largest 117 = .ok (.goto (-93), 3) := by decide +kernel
theorem dX13_largest_120 : decode cX13_largest 120 = .ok (.iload_n 2, 1) := by decide +kernel
theorem dX13_largest_121 : decode cX13_largest 121 = .ok (.ireturn, 1) := by decide +kernel
set_option maxRecDepth 20000 in
theorem ggX13_shortest_X13_isLayer : GoodIn wsX13_shortest wsX13_isLayer := goodIn_r _ [6, 1, 7, 8, 5, 9, 39, 40, 41, 42, 43, 44, 45, 46, 47, 48, 49, 50, 51, 52, 53, 54, 55, 56, 57, 58, 59, 60, 61, 62, 63, 64, 65, 66, 67, 68, 69, 70, 71, 72, 73, 74, 75, 76, 77, 78, 79, 80, 81, 82, 83, 84, 85, 86] (by decide +kernel) (by decide +kernel)
set_option maxRecDepth 20000 in
theorem gX13_shortest_X13_isLayer : GoodIn wsX13_shortest (wsV RX13 327 RX13 yX13_isLayer wsX13_isLayer) := goodIn_app (goodIn_of _ (by decide +kernel)) ggX13_shortest_X13_isLayer
set_option maxRecDepth 20000 in
theorem ggX13_shortest_X13_goes : GoodIn wsX13_shortest wsX13_goes := goodIn_r _ [13, 14, 15, 16, 5, 17, 39, 40, 41, 42, 43, 44, 45, 46, 47, 48, 49, 50, 51, 52, 53, 54, 55, 56, 57, 58, 59, 60, 61, 62, 63, 64, 65, 66, 67, 68, 69, 70, 71, 72, 73, 74, 75, 76, 77, 78, 79, 80, 81, 82, 83, 84, 85, 86] (by decide +kernel) (by decide +kernel)
set_option maxRecDepth 20000 in
theorem gX13_shortest_X13_goes : GoodIn wsX13_shortest (wsV RX13 103 RX13 yX13_goes wsX13_goes) := goodIn_app (goodIn_of _ (by decide +kernel)) ggX13_shortest_X13_goes
set_option maxRecDepth 20000 in
theorem ggX13_shortest_X13_cellMany : GoodIn wsX13_shortest wsX13_cellMany := goodIn_r _ [21, 1, 39, 40, 41, 42, 43, 44, 45, 46, 47, 48, 49, 50, 51, 52, 53, 54, 55, 56, 57, 58, 59, 60, 61, 62, 63, 64, 65, 66, 67, 68, 69, 70, 71, 72, 73, 74, 75, 76, 77, 78, 79, 80, 81, 82, 83, 84, 85, 86] (by decide +kernel) (by decide +kernel)
set_option maxRecDepth 20000 in
theorem gX13_shortest_X13_cellMany : GoodIn wsX13_shortest (wsV RX13 251 RX13 yX13_cellMany wsX13_cellMany) := goodIn_app (goodIn_of _ (by decide +kernel)) ggX13_shortest_X13_cellMany
set_option maxRecDepth 20000 in
theorem ggX13_shortest_X13_beginsRun : GoodIn wsX13_shortest wsX13_beginsRun := goodIn_r _ [25, 26, 27, 28, 5, 29, 30, 31, 32, 33, 34, 1, 7, 8, 9, 39, 40, 41, 42, 43, 44, 45, 46, 47, 48, 49, 50, 51, 52, 53, 54, 55, 56, 57, 58, 59, 60, 61, 62, 63, 64, 65, 66, 67, 68, 69, 70, 71, 72, 73, 74, 75, 76, 77, 78, 79, 80, 81, 82, 83, 84, 85, 86] (by decide +kernel) (by decide +kernel)
set_option maxRecDepth 20000 in
theorem gX13_shortest_X13_beginsRun : GoodIn wsX13_shortest (wsV RX13 333 RX13 yX13_beginsRun wsX13_beginsRun) := goodIn_app (goodIn_of _ (by decide +kernel)) ggX13_shortest_X13_beginsRun
set_option maxRecDepth 20000 in
theorem ggX13_shortest_X13_runLength : GoodIn wsX13_shortest wsX13_runLength := goodIn_r _ [38, 26, 27, 28, 5, 29, 30, 31, 32, 33, 34, 1, 7, 8, 9, 39, 40, 41, 42, 43, 44, 45, 46, 47, 48, 49, 50, 51, 52, 53, 54, 55, 56, 57, 58, 59, 60, 61, 62, 63, 64, 65, 66, 67, 68, 69, 70, 71, 72, 73, 74, 75, 76, 77, 78, 79, 80, 81, 82, 83, 84, 85, 86] (by decide +kernel) (by decide +kernel)
set_option maxRecDepth 20000 in
theorem gX13_shortest_X13_runLength : GoodIn wsX13_shortest (wsV RX13 336 RX13 yX13_runLength wsX13_runLength) := goodIn_app (goodIn_of _ (by decide +kernel)) ggX13_shortest_X13_runLength
theorem dX13_shortest_0 : decode cX13_shortest 0 = .ok (.aload_n 0, 1) := by decide +kernel
theorem dX13_shortest_1 : decode cX13_shortest 1 = .ok (.aload_n 0, 1) := by decide +kernel
theorem dX13_shortest_2 : decode cX13_shortest 2 = .ok (.iload_n 1, 1) := by decide +kernel
theorem dX13_shortest_3 : decode cX13_shortest 3 = .ok (.invokevirtual 327, 3) := by decide +kernel
theorem dX13_shortest_6 : decode cX13_shortest 6 = .ok (.invokevirtual 103, 3) := by decide +kernel
theorem dX13_shortest_9 : decode cX13_shortest 9 = .ok (.ifCond .ne 5, 3) := by decide +kernel
theorem dX13_shortest_12 : decode cX13_shortest 12 = .ok (.iconst 0, 1) := by decide +kernel
theorem dX13_shortest_13 : decode cX13_shortest 13 = .ok (.ireturn, 1) := by decide +kernel
theorem dX13_shortest_14 : decode cX13_shortest 14 = .ok (.iconst 0, 1) := by decide +kernel
theorem dX13_shortest_15 : decode cX13_shortest 15 = .ok (.istore_n 2, 1) := by decide +kernel
theorem dX13_shortest_16 : decode cX13_shortest 16 = .ok (.iconst 0, 1) := by decide +kernel
theorem dX13_shortest_17 : decode cX13_shortest 17 = .ok (.istore_n 3, 1) := by decide +kernel
theorem dX13_shortest_18 : decode cX13_shortest 18 = .ok (.iload_n 3, 1) := by decide +kernel
theorem dX13_shortest_19 : decode cX13_shortest 19 = .ok (.aload_n 0, 1) := by decide +kernel
theorem dX13_shortest_20 : decode cX13_shortest 20 = .ok (.invokevirtual 251, 3) := by decide +kernel
theorem dX13_shortest_23 : decode cX13_shortest 23 = .ok (.if_icmp .ge 78, 3) := by decide +kernel
theorem dX13_shortest_26 : decode cX13_shortest 26 = .ok (.aload_n 0, 1) := by decide +kernel
theorem dX13_shortest_27 : decode cX13_shortest 27 = .ok (.iload_n 1, 1) := by decide +kernel
theorem dX13_shortest_28 : decode cX13_shortest 28 = .ok (.iload_n 3, 1) := by decide +kernel
theorem dX13_shortest_29 : decode cX13_shortest 29 = .ok (.aload_n 0, 1) := by decide +kernel
theorem dX13_shortest_30 : decode cX13_shortest 30 = .ok (.getfield 20, 3) := by decide +kernel
theorem dX13_shortest_33 : decode cX13_shortest 33 = .ok (.iconst 0, 1) := by decide +kernel
theorem dX13_shortest_34 : decode cX13_shortest 34 = .ok (.iaload, 1) := by decide +kernel
theorem dX13_shortest_35 : decode cX13_shortest 35 = .ok (.irem, 1) := by decide +kernel
theorem dX13_shortest_36 : decode cX13_shortest 36 = .ok (.iload_n 3, 1) := by decide +kernel
theorem dX13_shortest_37 : decode cX13_shortest 37 = .ok (.aload_n 0, 1) := by decide +kernel
theorem dX13_shortest_38 : decode cX13_shortest 38 = .ok (.getfield 20, 3) := by decide +kernel
theorem dX13_shortest_41 : decode cX13_shortest 41 = .ok (.iconst 0, 1) := by decide +kernel
theorem dX13_shortest_42 : decode cX13_shortest 42 = .ok (.iaload, 1) := by decide +kernel
theorem dX13_shortest_43 : decode cX13_shortest 43 = .ok (.idiv, 1) := by decide +kernel
theorem dX13_shortest_44 : decode cX13_shortest 44 = .ok (.invokevirtual 333, 3) := by decide +kernel
theorem dX13_shortest_47 : decode cX13_shortest 47 = .ok (.ifCond .eq 27, 3) := by decide +kernel
theorem dX13_shortest_50 : decode cX13_shortest 50 = .ok (.aload_n 0, 1) := by decide +kernel
theorem dX13_shortest_51 : decode cX13_shortest 51 = .ok (.iload_n 1, 1) := by decide +kernel
theorem dX13_shortest_52 : decode cX13_shortest 52 = .ok (.iload_n 3, 1) := by decide +kernel
theorem dX13_shortest_53 : decode cX13_shortest 53 = .ok (.aload_n 0, 1) := by decide +kernel
theorem dX13_shortest_54 : decode cX13_shortest 54 = .ok (.getfield 20, 3) := by decide +kernel
theorem dX13_shortest_57 : decode cX13_shortest 57 = .ok (.iconst 0, 1) := by decide +kernel
theorem dX13_shortest_58 : decode cX13_shortest 58 = .ok (.iaload, 1) := by decide +kernel
theorem dX13_shortest_59 : decode cX13_shortest 59 = .ok (.irem, 1) := by decide +kernel
theorem dX13_shortest_60 : decode cX13_shortest 60 = .ok (.iload_n 3, 1) := by decide +kernel
theorem dX13_shortest_61 : decode cX13_shortest 61 = .ok (.aload_n 0, 1) := by decide +kernel
theorem dX13_shortest_62 : decode cX13_shortest 62 = .ok (.getfield 20, 3) := by decide +kernel
theorem dX13_shortest_65 : decode cX13_shortest 65 = .ok (.iconst 0, 1) := by decide +kernel
