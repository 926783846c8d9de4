theorem dX13_init_0 : decode cX13_init 0 = .ok (.aload_n 0, 1) := by decide +kernel
theorem dX13_init_1 : decode cX13_init 1 = .ok (.invokespecial 1, 3) := by decide +kernel
theorem dX13_init_4 : decode cX13_init 4 = .ok (.aload_n 0, 1) := by decide +kernel
theorem dX13_init_5 : decode cX13_init 5 = .ok (.iconst 4, 1) := by decide +kernel
theorem dX13_init_6 : decode cX13_init 6 = .ok (.putfield 7, 3) := by decide +kernel
theorem dX13_init_9 : decode cX13_init 9 = .ok (.aload_n 0, 1) := by decide +kernel
theorem dX13_init_10 : decode cX13_init 10 = .ok (.iconst 4, 1) := by decide +kernel
theorem dX13_init_11 : decode cX13_init 11 = .ok (.putfield 13, 3) := by decide +kernel
theorem dX13_init_14 : decode cX13_init 14 = .ok (.aload_n 0, 1) := by decide +kernel
theorem dX13_init_15 : decode cX13_init 15 = .ok (.bipush 8, 2) := by decide +kernel
theorem dX13_init_17 : decode cX13_init 17 = .ok (.putfield 16, 3) := by decide +kernel
theorem dX13_init_20 : decode cX13_init 20 = .ok (.aload_n 0, 1) := by decide +kernel
theorem dX13_init_21 : decode cX13_init 21 = .ok (.bipush 80, 2) := by decide +kernel
theorem dX13_init_23 : decode cX13_init 23 = .ok (.putfield 19, 3) := by decide +kernel
theorem dX13_init_26 : decode cX13_init 26 = .ok (.aload_n 0, 1) := by decide +kernel
theorem dX13_init_27 : decode cX13_init 27 = .ok (.iconst 1, 1) := by decide +kernel
theorem dX13_init_28 : decode cX13_init 28 = .ok (.putfield 22, 3) := by decide +kernel
theorem dX13_init_31 : decode cX13_init 31 = .ok (.aload_n 0, 1) := by decide +kernel
theorem dX13_init_32 : decode cX13_init 32 = .ok (.iconst 2, 1) := by decide +kernel
theorem dX13_init_33 : decode cX13_init 33 = .ok (.putfield 25, 3) := by decide +kernel
theorem dX13_init_36 : decode cX13_init 36 = .ok (.aload_n 0, 1) := by decide +kernel
theorem dX13_init_37 : decode cX13_init 37 = .ok (.iconst 1, 1) := by decide +kernel
theorem dX13_init_38 : decode cX13_init 38 = .ok (.putfield 28, 3) := by decide +kernel
theorem dX13_init_41 : decode cX13_init 41 = .ok (.aload_n 0, 1) := by decide +kernel
theorem dX13_init_42 : decode cX13_init 42 = .ok (.iconst 0, 1) := by decide +kernel
theorem dX13_init_43 : decode cX13_init 43 = .ok (.anewarray 31, 3) := by decide +kernel
theorem dX13_init_46 : decode cX13_init 46 = .ok (.putfield 33, 3) := by decide +kernel
theorem dX13_init_49 : decode cX13_init 49 = .ok (.aload_n 0, 1) := by decide +kernel
theorem dX13_init_50 : decode cX13_init 50 = .ok (.iconst 0, 1) := by decide +kernel
theorem dX13_init_51 : decode cX13_init 51 = .ok (.anewarray 31, 3) := by decide +kernel
theorem dX13_init_54 : decode cX13_init 54 = .ok (.putfield 37, 3) := by decide +kernel
theorem dX13_init_57 : decode cX13_init 57 = .ok (.aload_n 0, 1) := by decide +kernel
theorem dX13_init_58 : decode cX13_init 58 = .ok (.ldc 40, 2) := by decide +kernel
theorem dX13_init_60 : decode cX13_init 60 = .ok (.putfield 42, 3) := by decide +kernel
theorem dX13_init_63 : decode cX13_init 63 = .ok (.aload_n 0, 1) := by decide +kernel
theorem dX13_init_64 : decode cX13_init 64 = .ok (.iconst 0, 1) := by decide +kernel
theorem dX13_init_65 : decode cX13_init 65 = .ok (.newarray .int, 2) := by decide +kernel
theorem dX13_init_67 : decode cX13_init 67 = .ok (.putfield 46, 3) := by decide +kernel
theorem dX13_init_70 : decode cX13_init 70 = .ok (.return_, 1) := by decide +kernel
theorem dX13_next_0 : decode cX13_next 0 = .ok (.aload_n 0, 1) := by decide +kernel
theorem dX13_next_1 : decode cX13_next 1 = .ok (.dup, 1) := by decide +kernel
theorem dX13_next_2 : decode cX13_next 2 = .ok (.getfield 49, 3) := by decide +kernel
theorem dX13_next_5 : decode cX13_next 5 = .ok (.iconst 1, 1) := by decide +kernel
theorem dX13_next_6 : decode cX13_next 6 = .ok (.iadd, 1) := by decide +kernel
theorem dX13_next_7 : decode cX13_next 7 = .ok (.putfield 49, 3) := by decide +kernel
theorem dX13_next_10 : decode cX13_next 10 = .ok (.aload_n 0, 1) := by decide +kernel
theorem dX13_next_11 : decode cX13_next 11 = .ok (.getfield 46, 3) := by decide +kernel
theorem dX13_next_14 : decode cX13_next 14 = .ok (.aload_n 0, 1) := by decide +kernel
theorem dX13_next_15 : decode cX13_next 15 = .ok (.getfield 49, 3) := by decide +kernel
theorem dX13_next_18 : decode cX13_next 18 = .ok (.iload_n 1, 1) := by decide +kernel
theorem dX13_next_19 : decode cX13_next 19 = .ok (.invokestatic 52, 3) := by decide +kernel
theorem dX13_next_22 : decode cX13_next 22 = .ok (.ireturn, 1) := by decide +kernel
theorem dX13_end_0 : decode cX13_end 0 = .ok (.aload_n 0, 1) := by decide +kernel
theorem dX13_end_1 : decode cX13_end 1 = .ok (.dup, 1) := by decide +kernel
theorem dX13_end_2 : decode cX13_end 2 = .ok (.getfield 58, 3) := by decide +kernel
theorem dX13_end_5 : decode cX13_end 5 = .ok (.iconst 1, 1) := by decide +kernel
theorem dX13_end_6 : decode cX13_end 6 = .ok (.iadd, 1) := by decide +kernel
theorem dX13_end_7 : decode cX13_end 7 = .ok (.putfield 58, 3) := by decide +kernel
theorem dX13_end_10 : decode cX13_end 10 = .ok (.aload_n 1, 1) := by decide +kernel
theorem dX13_end_11 : decode cX13_end 11 = .ok (.aload_n 0, 1) := by decide +kernel
theorem dX13_end_12 : decode cX13_end 12 = .ok (.getfield 58, 3) := by decide +kernel
theorem dX13_end_15 : decode cX13_end 15 = .ok (.iconst 4, 1) := by decide +kernel
theorem dX13_end_16 : decode cX13_end 16 = .ok (.irem, 1) := by decide +kernel
theorem dX13_end_17 : decode cX13_end 17 = .ok (.iconst 2, 1) := by decide +kernel
theorem dX13_end_18 : decode cX13_end 18 = .ok (.if_icmp .ne 8, 3) := by decide +kernel
theorem dX13_end_21 : decode cX13_end 21 = .ok (.ldc 61, 2) := by decide +kernel
theorem dX13_end_23 : decode cX13_end 23 = .ok (.goto 5, 3) := by decide +kernel
theorem dX13_end_26 : decode cX13_end 26 = .ok (.ldc 63, 2) := by decide +kernel
theorem dX13_end_28 : decode cX13_end 28 = .ok (.invokevirtual 65, 3) := by decide +kernel
theorem dX13_end_31 : decode cX13_end 31 = .ok (.pop, 1) := by decide +kernel
theorem dX13_end_32 : decode cX13_end 32 = .ok (.return_, 1) := by decide +kernel
theorem dX13_grown_0 : decode cX13_grown 0 = .ok (.new 8, 3) := by decide +kernel
theorem dX13_grown_3 : decode cX13_grown 3 = .ok (.dup, 1) := by decide +kernel
theorem dX13_grown_4 : decode cX13_grown 4 = .ok (.invokespecial 71, 3) := by decide +kernel
theorem dX13_grown_7 : decode cX13_grown 7 = .ok (.astore_n 1, 1) := by decide +kernel
theorem dX13_grown_8 : decode cX13_grown 8 = .ok (.aload_n 1, 1) := by decide +kernel
theorem dX13_grown_9 : decode cX13_grown 9 = .ok (.aload_n 0, 1) := by decide +kernel
theorem dX13_grown_10 : decode cX13_grown 10 = .ok (.putfield 46, 3) := by decide +kernel
theorem dX13_grown_13 : decode cX13_grown 13 = .ok (.new 66, 3) := by decide +kernel
theorem dX13_grown_16 : decode cX13_grown 16 = .ok (.dup, 1) := by decide +kernel
theorem dX13_grown_17 : decode cX13_grown 17 = .ok (.invokespecial 72, 3) := by decide +kernel
theorem dX13_grown_20 : decode cX13_grown 20 = .ok (.astore_n 2, 1) := by decide +kernel
theorem dX13_grown_21 : decode cX13_grown 21 = .ok (.aload_n 1, 1) := by decide +kernel
theorem dX13_grown_22 : decode cX13_grown 22 = .ok (.iconst 4, 1) := by decide +kernel
theorem dX13_grown_23 : decode cX13_grown 23 = .ok (.invokevirtual 73, 3) := by decide +kernel
theorem dX13_grown_26 : decode cX13_grown 26 = .ok (.ifCond .le 50, 3) := by decide +kernel
theorem dX13_grown_29 : decode cX13_grown 29 = .ok (.aload_n 1, 1) := by decide +kernel
theorem dX13_grown_30 : decode cX13_grown 30 = .ok (.aload_n 2, 1) := by decide +kernel
theorem dX13_grown_31 : decode cX13_grown 31 = .ok (.ldc 77, 2) := by decide +kernel
theorem dX13_grown_33 : decode cX13_grown 33 = .ok (.invokevirtual 65, 3) := by decide +kernel
theorem dX13_grown_36 : decode cX13_grown 36 = .ok (.aload_n 1, 1) := by decide +kernel
theorem dX13_grown_37 : decode cX13_grown 37 = .ok (.iconst 1, 1) := by decide +kernel
theorem dX13_grown_38 : decode cX13_grown 38 = .ok (.aload_n 1, 1) := by decide +kernel
theorem dX13_grown_39 : decode cX13_grown 39 = .ok (.bipush 8, 2) := by decide +kernel
theorem dX13_grown_41 : decode cX13_grown 41 = .ok (.invokevirtual 73, 3) := by decide +kernel
theorem dX13_grown_44 : decode cX13_grown 44 = .ok (.iadd, 1) := by decide +kernel
theorem dX13_grown_45 : decode cX13_grown 45 = .ok (.dup_x1, 1) := by decide +kernel
theorem dX13_grown_46 : decode cX13_grown 46 = .ok (.putfield 7, 3) := by decide +kernel
theorem dX13_grown_49 : decode cX13_grown 49 = .ok (.invokevirtual 79, 3) := by decide +kernel
theorem dX13_grown_52 : decode cX13_grown 52 = .ok (.ldc 82, 2) := by decide +kernel
theorem dX13_grown_54 : decode cX13_grown 54 = .ok (.invokevirtual 65, 3) := by decide +kernel
theorem dX13_grown_57 : decode cX13_grown 57 = .ok (.aload_n 1, 1) := by decide +kernel
theorem dX13_grown_58 : decode cX13_grown 58 = .ok (.iconst 1, 1) := by decide +kernel
theorem dX13_grown_59 : decode cX13_grown 59 = .ok (.aload_n 1, 1) := by decide +kernel
theorem dX13_grown_60 : decode cX13_grown 60 = .ok (.bipush 6, 2) := by decide +kernel
theorem dX13_grown_62 : decode cX13_grown 62 = .ok (.invokevirtual 73, 3) := by decide +kernel
theorem dX13_grown_65 : decode cX13_grown 65 = .ok (.iadd, 1) := by decide +kernel
theorem dX13_grown_66 : decode cX13_grown 66 = .ok (.dup_x1, 1) := by decide +kernel
theorem dX13_grown_67 : decode cX13_grown 67 = .ok (.putfield 13, 3) := by decide +kernel
theorem dX13_grown_70 : decode cX13_grown 70 = .ok (.invokevirtual 79, 3) := by decide +kernel
theorem dX13_grown_73 : decode cX13_grown 73 = .ok (.invokevirtual 84, 3) := by decide +kernel
theorem dX13_grown_76 : decode cX13_grown 76 = .ok (.aload_n 1, 1) := by decide +kernel
theorem dX13_grown_77 : decode cX13_grown 77 = .ok (.iconst 2, 1) := by decide +kernel
theorem dX13_grown_78 : decode cX13_grown 78 = .ok (.invokevirtual 73, 3) := by decide +kernel
theorem dX13_grown_81 : decode cX13_grown 81 = .ok (.ifCond .ne 28, 3) := by decide +kernel
theorem dX13_grown_84 : decode cX13_grown 84 = .ok (.aload_n 1, 1) := by decide +kernel
theorem dX13_grown_85 : decode cX13_grown 85 = .ok (.aload_n 2, 1) := by decide +kernel
theorem dX13_grown_86 : decode cX13_grown 86 = .ok (.ldc 88, 2) := by decide +kernel
theorem dX13_grown_88 : decode cX13_grown 88 = .ok (.invokevirtual 65, 3) := by decide +kernel
theorem dX13_grown_91 : decode cX13_grown 91 = .ok (.aload_n 1, 1) := by decide +kernel
theorem dX13_grown_92 : decode cX13_grown 92 = .ok (.iconst 1, 1) := by decide +kernel
theorem dX13_grown_93 : decode cX13_grown 93 = .ok (.aload_n 1, 1) := by decide +kernel
theorem dX13_grown_94 : decode cX13_grown 94 = .ok (.iconst 4, 1) := by decide +kernel
theorem dX13_grown_95 : decode cX13_grown 95 = .ok (.invokevirtual 73, 3) := by decide +kernel
theorem dX13_grown_98 : decode cX13_grown 98 = .ok (.iadd, 1) := by decide +kernel
theorem dX13_grown_99 : decode cX13_grown 99 = .ok (.dup_x1, 1) := by decide +kernel
theorem dX13_grown_100 : decode cX13_grown 100 = .ok (.putfield 25, 3) := by decide +kernel
theorem dX13_grown_103 : decode cX13_grown 103 = .ok (.invokevirtual 79, 3) := by decide +kernel
theorem dX13_grown_106 : decode cX13_grown 106 = .ok (.invokevirtual 84, 3) := by decide +kernel
theorem dX13_grown_109 : decode cX13_grown 109 = .ok (.aload_n 1, 1) := by decide +kernel
theorem dX13_grown_110 : decode cX13_grown 110 = .ok (.aload_n 1, 1) := by decide +kernel
theorem dX13_grown_111 : decode cX13_grown 111 = .ok (.getfield 13, 3) := by decide +kernel
theorem dX13_grown_114 : decode cX13_grown 114 = .ok (.aload_n 1, 1) := by decide +kernel
theorem dX13_grown_115 : decode cX13_grown 115 = .ok (.getfield 7, 3) := by decide +kernel
theorem dX13_grown_118 : decode cX13_grown 118 = .ok (.multianewarray 90 2, 4) := by decide +kernel
theorem dX13_grown_122 : decode cX13_grown 122 = .ok (.putfield 33, 3) := by decide +kernel
theorem dX13_grown_125 : decode cX13_grown 125 = .ok (.aload_n 1, 1) := by decide +kernel
theorem dX13_grown_126 : decode cX13_grown 126 = .ok (.aload_n 1, 1) := by decide +kernel
theorem dX13_grown_127 : decode cX13_grown 127 = .ok (.getfield 13, 3) := by decide +kernel
theorem dX13_grown_130 : decode cX13_grown 130 = .ok (.aload_n 1, 1) := by decide +kernel
theorem dX13_grown_131 : decode cX13_grown 131 = .ok (.getfield 7, 3) := by decide +kernel
theorem dX13_grown_134 : decode cX13_grown 134 = .ok (.multianewarray 90 2, 4) := by decide +kernel
theorem dX13_grown_138 : decode cX13_grown 138 = .ok (.putfield 37, 3) := by decide +kernel
theorem dX13_grown_141 : decode cX13_grown 141 = .ok (.aload_n 1, 1) := by decide +kernel
theorem dX13_grown_142 : decode cX13_grown 142 = .ok (.iconst 3, 1) := by decide +kernel
theorem dX13_grown_143 : decode cX13_grown 143 = .ok (.invokevirtual 73, 3) := by decide +kernel
theorem dX13_grown_146 : decode cX13_grown 146 = .ok (.ifCond .ne 16, 3) := by decide +kernel
theorem dX13_grown_149 : decode cX13_grown 149 = .ok (.aload_n 1, 1) := by decide +kernel
theorem dX13_grown_150 : decode cX13_grown 150 = .ok (.aload_n 1, 1) := by decide +kernel
theorem dX13_grown_151 : decode cX13_grown 151 = .ok (.getfield 13, 3) := by decide +kernel
theorem dX13_grown_154 : decode cX13_grown 154 = .ok (.iconst 1, 1) := by decide +kernel
theorem dX13_grown_155 : decode cX13_grown 155 = .ok (.iadd, 1) := by decide +kernel
theorem dX13_grown_156 : decode cX13_grown 156 = .ok (.invokevirtual 73, 3) := by decide +kernel
theorem dX13_grown_159 : decode cX13_grown 159 = .ok (.goto 7, 3) := by decide +kernel
theorem dX13_grown_162 : decode cX13_grown 162 = .ok (.aload_n 1, 1) := by decide +kernel
theorem dX13_grown_163 : decode cX13_grown 163 = .ok (.getfield 13, 3) := by decide +kernel
theorem dX13_grown_166 : decode cX13_grown 166 = .ok (.istore_n 3, 1) := by decide +kernel
theorem dX13_grown_167 : decode cX13_grown 167 = .ok (.iconst 0, 1) := by decide +kernel
theorem dX13_grown_168 : decode cX13_grown 168 = .ok (.istore 4, 2) := by decide +kernel
theorem dX13_grown_170 : decode cX13_grown 170 = .ok (.iload 4, 2) := by decide +kernel
theorem dX13_grown_172 : decode cX13_grown 172 = .ok (.aload_n 1, 1) := by decide +kernel
theorem dX13_grown_173 : decode cX13_grown 173 = .ok (.getfield 13, 3) := by decide +kernel
theorem dX13_grown_176 : decode cX13_grown 176 = .ok (.if_icmp .ge 106, 3) := by decide +kernel
theorem dX13_grown_179 : decode cX13_grown 179 = .ok (.iload 4, 2) := by decide +kernel
theorem dX13_grown_181 : decode cX13_grown 181 = .ok (.iload_n 3, 1) := by decide +kernel
theorem dX13_grown_182 : decode cX13_grown 182 = .ok (.if_icmp .ge 10, 3) := by decide +kernel
theorem dX13_grown_185 : decode cX13_grown 185 = .ok (.aload_n 2, 1) := by decide +kernel
theorem dX13_grown_186 : decode cX13_grown 186 = .ok (.ldc 91, 2) := by decide +kernel
theorem dX13_grown_188 : decode cX13_grown 188 = .ok (.invokevirtual 65, 3) := by decide +kernel
theorem dX13_grown_191 : decode cX13_grown 191 = .ok (.pop, 1) := by decide +kernel
theorem dX13_grown_192 : decode cX13_grown 192 = .ok (.iconst 0, 1) := by decide +kernel
theorem dX13_grown_193 : decode cX13_grown 193 = .ok (.istore 5, 2) := by decide +kernel
theorem dX13_grown_195 : decode cX13_grown 195 = .ok (.iload 5, 2) := by decide +kernel
theorem dX13_grown_197 : decode cX13_grown 197 = .ok (.aload_n 1, 1) := by decide +kernel
theorem dX13_grown_198 : decode cX13_grown 198 = .ok (.getfield 7, 3) := by decide +kernel
theorem dX13_grown_201 : decode cX13_grown 201 = .ok (.if_icmp .ge 64, 3) := by decide +kernel
theorem dX13_grown_204 : decode cX13_grown 204 = .ok (.aload_n 1, 1) := by decide +kernel
theorem dX13_grown_205 : decode cX13_grown 205 = .ok (.getfield 33, 3) := by decide +kernel
theorem dX13_grown_208 : decode cX13_grown 208 = .ok (.iload 4, 2) := by decide +kernel
theorem dX13_grown_210 : decode cX13_grown 210 = .ok (.aaload, 1) := by decide +kernel
theorem dX13_grown_211 : decode cX13_grown 211 = .ok (.iload 5, 2) := by decide +kernel
theorem dX13_grown_213 : decode cX13_grown 213 = .ok (.iload 4, 2) := by decide +kernel
theorem dX13_grown_215 : decode cX13_grown 215 = .ok (.iload_n 3, 1) := by decide +kernel
theorem dX13_grown_216 : decode cX13_grown 216 = .ok (.if_icmp .ge 13, 3) := by decide +kernel
theorem dX13_grown_219 : decode cX13_grown 219 = .ok (.aload_n 1, 1) := by decide +kernel
theorem dX13_grown_220 : decode cX13_grown 220 = .ok (.sipush 256, 3) := by decide +kernel
theorem dX13_grown_223 : decode cX13_grown 223 = .ok (.invokevirtual 73, 3) := by decide +kernel
theorem dX13_grown_226 : decode cX13_grown 226 = .ok (.goto 6, 3) := by decide +kernel
theorem dX13_grown_229 : decode cX13_grown 229 = .ok (.sipush 255, 3) := by decide +kernel
theorem dX13_grown_232 : decode cX13_grown 232 = .ok (.iastore, 1) := by decide +kernel
theorem dX13_grown_233 : decode cX13_grown 233 = .ok (.iload 4, 2) := by decide +kernel
theorem dX13_grown_235 : decode cX13_grown 235 = .ok (.iload_n 3, 1) := by decide +kernel
theorem dX13_grown_236 : decode cX13_grown 236 = .ok (.if_icmp .ge 23, 3) := by decide +kernel
theorem dX13_grown_239 : decode cX13_grown 239 = .ok (.aload_n 2, 1) := by decide +kernel
theorem dX13_grown_240 : decode cX13_grown 240 = .ok (.bipush 32, 2) := by decide +kernel
theorem dX13_grown_242 : decode cX13_grown 242 = .ok (.invokevirtual 93, 3) := by decide +kernel
theorem dX13_grown_245 : decode cX13_grown 245 = .ok (.aload_n 1, 1) := by decide +kernel
theorem dX13_grown_246 : decode cX13_grown 246 = .ok (.getfield 33, 3) := by decide +kernel
theorem dX13_grown_249 : decode cX13_grown 249 = .ok (.iload 4, 2) := by decide +kernel
theorem dX13_grown_251 : decode cX13_grown 251 = .ok (.aaload, 1) := by decide +kernel
theorem dX13_grown_252 : decode cX13_grown 252 = .ok (.iload 5, 2) := by decide +kernel
theorem dX13_grown_254 : decode cX13_grown 254 = .ok (.iaload, 1) := by decide +kernel
theorem dX13_grown_255 : decode cX13_grown 255 = .ok (.invokevirtual 79, 3) := by decide +kernel
theorem dX13_grown_258 : decode cX13_grown 258 = .ok (.pop, 1) := by decide +kernel
theorem dX13_grown_259 : decode cX13_grown 259 = .ok (.iinc 5 1, 3) := by decide +kernel
theorem dX13_grown_262 : decode cX13_grown 262 = .ok (.goto (-67), 3) := by decide +kernel
theorem dX13_grown_265 : decode cX13_grown 265 = .ok (.iload 4, 2) := by decide +kernel
theorem dX13_grown_267 : decode cX13_grown 267 = .ok (.iload_n 3, 1) := by decide +kernel
theorem dX13_grown_268 : decode cX13_grown 268 = .ok (.if_icmp .ge 8, 3) := by decide +kernel
theorem dX13_grown_271 : decode cX13_grown 271 = .ok (.aload_n 1, 1) := by decide +kernel
theorem dX13_grown_272 : decode cX13_grown 272 = .ok (.aload_n 2, 1) := by decide +kernel
theorem dX13_grown_273 : decode cX13_grown 273 = .ok (.invokevirtual 84, 3) := by decide +kernel
theorem dX13_grown_276 : decode cX13_grown 276 = .ok (.iinc 4 1, 3) := by decide +kernel
theorem dX13_grown_279 : decode cX13_grown 279 = .ok (.goto (-109), 3) := by decide +kernel
theorem dX13_grown_282 : decode cX13_grown 282 = .ok (.aload_n 1, 1) := by decide +kernel
theorem dX13_grown_283 : decode cX13_grown 283 = .ok (.iconst 2, 1) := by decide +kernel
theorem dX13_grown_284 : decode cX13_grown 284 = .ok (.invokevirtual 73, 3) := by decide +kernel
theorem dX13_grown_287 : decode cX13_grown 287 = .ok (.ifCond .ne 87, 3) := by decide +kernel
theorem dX13_grown_290 : decode cX13_grown 290 = .ok (.aload_n 1, 1) := by decide +kernel
theorem dX13_grown_291 : decode cX13_grown 291 = .ok (.iconst 1, 1) := by decide +kernel
theorem dX13_grown_292 : decode cX13_grown 292 = .ok (.aload_n 1, 1) := by decide +kernel
theorem dX13_grown_293 : decode cX13_grown 293 = .ok (.bipush 20, 2) := by decide +kernel
theorem dX13_grown_295 : decode cX13_grown 295 = .ok (.invokevirtual 73, 3) := by decide +kernel
theorem dX13_grown_298 : decode cX13_grown 298 = .ok (.iadd, 1) := by decide +kernel
theorem dX13_grown_299 : decode cX13_grown 299 = .ok (.putfield 16, 3) := by decide +kernel
theorem dX13_grown_302 : decode cX13_grown 302 = .ok (.aload_n 1, 1) := by decide +kernel
theorem dX13_grown_303 : decode cX13_grown 303 = .ok (.bipush 40, 2) := by decide +kernel
theorem dX13_grown_305 : decode cX13_grown 305 = .ok (.aload_n 1, 1) := by decide +kernel
theorem dX13_grown_306 : decode cX13_grown 306 = .ok (.bipush 60, 2) := by decide +kernel
theorem dX13_grown_308 : decode cX13_grown 308 = .ok (.invokevirtual 73, 3) := by decide +kernel
theorem dX13_grown_311 : decode cX13_grown 311 = .ok (.iadd, 1) := by decide +kernel
theorem dX13_grown_312 : decode cX13_grown 312 = .ok (.putfield 19, 3) := by decide +kernel
theorem dX13_grown_315 : decode cX13_grown 315 = .ok (.aload_n 1, 1) := by decide +kernel
theorem dX13_grown_316 : decode cX13_grown 316 = .ok (.aload_n 1, 1) := by decide +kernel
theorem dX13_grown_317 : decode cX13_grown 317 = .ok (.iconst 4, 1) := by decide +kernel
theorem dX13_grown_318 : decode cX13_grown 318 = .ok (.aload_n 1, 1) := by decide +kernel
theorem dX13_grown_319 : decode cX13_grown 319 = .ok (.getfield 16, 3) := by decide +kernel
theorem dX13_grown_322 : decode cX13_grown 322 = .ok (.iconst 1, 1) := by decide +kernel
theorem dX13_grown_323 : decode cX13_grown 323 = .ok (.iadd, 1) := by decide +kernel
theorem dX13_grown_324 : decode cX13_grown 324 = .ok (.invokestatic 96, 3) := by decide +kernel
theorem dX13_grown_327 : decode cX13_grown 327 = .ok (.invokevirtual 73, 3) := by decide +kernel
theorem dX13_grown_330 : decode cX13_grown 330 = .ok (.putfield 22, 3) := by decide +kernel
theorem dX13_grown_333 : decode cX13_grown 333 = .ok (.aload_n 1, 1) := by decide +kernel
theorem dX13_grown_334 : decode cX13_grown 334 = .ok (.aload_n 2, 1) := by decide +kernel
theorem dX13_grown_335 : decode cX13_grown 335 = .ok (.ldc 102, 2) := by decide +kernel
theorem dX13_grown_337 : decode cX13_grown 337 = .ok (.invokevirtual 65, 3) := by decide +kernel
theorem dX13_grown_340 : decode cX13_grown 340 = .ok (.aload_n 1, 1) := by decide +kernel
theorem dX13_grown_341 : decode cX13_grown 341 = .ok (.getfield 16, 3) := by decide +kernel
theorem dX13_grown_344 : decode cX13_grown 344 = .ok (.invokevirtual 79, 3) := by decide +kernel
theorem dX13_grown_347 : decode cX13_grown 347 = .ok (.ldc 104, 2) := by decide +kernel
theorem dX13_grown_349 : decode cX13_grown 349 = .ok (.invokevirtual 65, 3) := by decide +kernel
theorem dX13_grown_352 : decode cX13_grown 352 = .ok (.aload_n 1, 1) := by decide +kernel
theorem dX13_grown_353 : decode cX13_grown 353 = .ok (.getfield 19, 3) := by decide +kernel
theorem dX13_grown_356 : decode cX13_grown 356 = .ok (.invokevirtual 79, 3) := by decide +kernel
theorem dX13_grown_359 : decode cX13_grown 359 = .ok (.ldc 106, 2) := by decide +kernel
theorem dX13_grown_361 : decode cX13_grown 361 = .ok (.invokevirtual 65, 3) := by decide +kernel
theorem dX13_grown_364 : decode cX13_grown 364 = .ok (.aload_n 1, 1) := by decide +kernel
theorem dX13_grown_365 : decode cX13_grown 365 = .ok (.getfield 22, 3) := by decide +kernel
theorem dX13_grown_368 : decode cX13_grown 368 = .ok (.invokevirtual 79, 3) := by decide +kernel
theorem dX13_grown_371 : decode cX13_grown 371 = .ok (.invokevirtual 84, 3) := by decide +kernel
theorem dX13_grown_374 : decode cX13_grown 374 = .ok (.aload_n 1, 1) := by decide +kernel
theorem dX13_grown_375 : decode cX13_grown 375 = .ok (.iconst 2, 1) := by decide +kernel
theorem dX13_grown_376 : decode cX13_grown 376 = .ok (.invokevirtual 73, 3) := by decide +kernel
theorem dX13_grown_379 : decode cX13_grown 379 = .ok (.ifCond .ne 26, 3) := by decide +kernel
theorem dX13_grown_382 : decode cX13_grown 382 = .ok (.aload_n 1, 1) := by decide +kernel
theorem dX13_grown_383 : decode cX13_grown 383 = .ok (.aload_n 2, 1) := by decide +kernel
theorem dX13_grown_384 : decode cX13_grown 384 = .ok (.ldc 108, 2) := by decide +kernel
theorem dX13_grown_386 : decode cX13_grown 386 = .ok (.invokevirtual 65, 3) := by decide +kernel
theorem dX13_grown_389 : decode cX13_grown 389 = .ok (.aload_n 1, 1) := by decide +kernel
theorem dX13_grown_390 : decode cX13_grown 390 = .ok (.aload_n 1, 1) := by decide +kernel
theorem dX13_grown_391 : decode cX13_grown 391 = .ok (.iconst 5, 1) := by decide +kernel
theorem dX13_grown_392 : decode cX13_grown 392 = .ok (.invokevirtual 73, 3) := by decide +kernel
theorem dX13_grown_395 : decode cX13_grown 395 = .ok (.dup_x1, 1) := by decide +kernel
theorem dX13_grown_396 : decode cX13_grown 396 = .ok (.putfield 28, 3) := by decide +kernel
theorem dX13_grown_399 : decode cX13_grown 399 = .ok (.invokevirtual 79, 3) := by decide +kernel
theorem dX13_grown_402 : decode cX13_grown 402 = .ok (.invokevirtual 84, 3) := by decide +kernel
theorem dX13_grown_405 : decode cX13_grown 405 = .ok (.aload_n 1, 1) := by decide +kernel
theorem dX13_grown_406 : decode cX13_grown 406 = .ok (.aload_n 2, 1) := by decide +kernel
theorem dX13_grown_407 : decode cX13_grown 407 = .ok (.invokevirtual 110, 3) := by decide +kernel
theorem dX13_grown_410 : decode cX13_grown 410 = .ok (.putfield 42, 3) := by decide +kernel
theorem dX13_grown_413 : decode cX13_grown 413 = .ok (.aload_n 1, 1) := by decide +kernel
theorem dX13_grown_414 : decode cX13_grown 414 = .ok (.invokevirtual 114, 3) := by decide +kernel
theorem dX13_grown_417 : decode cX13_grown 417 = .ok (.aload_n 1, 1) := by decide +kernel
theorem dX13_grown_418 : decode cX13_grown 418 = .ok (.areturn, 1) := by decide +kernel
theorem dX13_copy_0 : decode cX13_copy 0 = .ok (.new 8, 3) := by decide +kernel
theorem dX13_copy_3 : decode cX13_copy 3 = .ok (.dup, 1) := by decide +kernel
theorem dX13_copy_4 : decode cX13_copy 4 = .ok (.invokespecial 71, 3) := by decide +kernel
theorem dX13_copy_7 : decode cX13_copy 7 = .ok (.astore_n 1, 1) := by decide +kernel
theorem dX13_copy_8 : decode cX13_copy 8 = .ok (.aload_n 1, 1) := by decide +kernel
theorem dX13_copy_9 : decode cX13_copy 9 = .ok (.aload_n 0, 1) := by decide +kernel
theorem dX13_copy_10 : decode cX13_copy 10 = .ok (.getfield 7, 3) := by decide +kernel
theorem dX13_copy_13 : decode cX13_copy 13 = .ok (.putfield 7, 3) := by decide +kernel
theorem dX13_copy_16 : decode cX13_copy 16 = .ok (.aload_n 1, 1) := by decide +kernel
theorem dX13_copy_17 : decode cX13_copy 17 = .ok (.aload_n 0, 1) := by decide +kernel
theorem dX13_copy_18 : decode cX13_copy 18 = .ok (.getfield 13, 3) := by decide +kernel
theorem dX13_copy_21 : decode cX13_copy 21 = .ok (.putfield 13, 3) := by decide +kernel
theorem dX13_copy_24 : decode cX13_copy 24 = .ok (.aload_n 1, 1) := by decide +kernel
theorem dX13_copy_25 : decode cX13_copy 25 = .ok (.aload_n 0, 1) := by decide +kernel
theorem dX13_copy_26 : decode cX13_copy 26 = .ok (.getfield 16, 3) := by decide +kernel
theorem dX13_copy_29 : decode cX13_copy 29 = .ok (.putfield 16, 3) := by decide +kernel
theorem dX13_copy_32 : decode cX13_copy 32 = .ok (.aload_n 1, 1) := by decide +kernel
theorem dX13_copy_33 : decode cX13_copy 33 = .ok (.aload_n 0, 1) := by decide +kernel
theorem dX13_copy_34 : decode cX13_copy 34 = .ok (.getfield 19, 3) := by decide +kernel
theorem dX13_copy_37 : decode cX13_copy 37 = .ok (.putfield 19, 3) := by decide +kernel
theorem dX13_copy_40 : decode cX13_copy 40 = .ok (.aload_n 1, 1) := by decide +kernel
theorem dX13_copy_41 : decode cX13_copy 41 = .ok (.aload_n 0, 1) := by decide +kernel
theorem dX13_copy_42 : decode cX13_copy 42 = .ok (.getfield 22, 3) := by decide +kernel
theorem dX13_copy_45 : decode cX13_copy 45 = .ok (.putfield 22, 3) := by decide +kernel
theorem dX13_copy_48 : decode cX13_copy 48 = .ok (.aload_n 1, 1) := by decide +kernel
theorem dX13_copy_49 : decode cX13_copy 49 = .ok (.aload_n 0, 1) := by decide +kernel
theorem dX13_copy_50 : decode cX13_copy 50 = .ok (.getfield 25, 3) := by decide +kernel
theorem dX13_copy_53 : decode cX13_copy 53 = .ok (.putfield 25, 3) := by decide +kernel
theorem dX13_copy_56 : decode cX13_copy 56 = .ok (.aload_n 1, 1) := by decide +kernel
theorem dX13_copy_57 : decode cX13_copy 57 = .ok (.aload_n 0, 1) := by decide +kernel
theorem dX13_copy_58 : decode cX13_copy 58 = .ok (.getfield 28, 3) := by decide +kernel
theorem dX13_copy_61 : decode cX13_copy 61 = .ok (.putfield 28, 3) := by decide +kernel
theorem dX13_copy_64 : decode cX13_copy 64 = .ok (.aload_n 1, 1) := by decide +kernel
theorem dX13_copy_65 : decode cX13_copy 65 = .ok (.aload_n 0, 1) := by decide +kernel
theorem dX13_copy_66 : decode cX13_copy 66 = .ok (.getfield 13, 3) := by decide +kernel
theorem dX13_copy_69 : decode cX13_copy 69 = .ok (.anewarray 31, 3) := by decide +kernel
theorem dX13_copy_72 : decode cX13_copy 72 = .ok (.putfield 33, 3) := by decide +kernel
theorem dX13_copy_75 : decode cX13_copy 75 = .ok (.aload_n 1, 1) := by decide +kernel
theorem dX13_copy_76 : decode cX13_copy 76 = .ok (.aload_n 0, 1) := by decide +kernel
theorem dX13_copy_77 : decode cX13_copy 77 = .ok (.getfield 13, 3) := by decide +kernel
theorem dX13_copy_80 : decode cX13_copy 80 = .ok (.anewarray 31, 3) := by decide +kernel
theorem dX13_copy_83 : decode cX13_copy 83 = .ok (.putfield 37, 3) := by decide +kernel
theorem dX13_copy_86 : decode cX13_copy 86 = .ok (.iconst 0, 1) := by decide +kernel
theorem dX13_copy_87 : decode cX13_copy 87 = .ok (.istore_n 2, 1) := by decide +kernel
theorem dX13_copy_88 : decode cX13_copy 88 = .ok (.iload_n 2, 1) := by decide +kernel
theorem dX13_copy_89 : decode cX13_copy 89 = .ok (.aload_n 0, 1) := by decide +kernel
theorem dX13_copy_90 : decode cX13_copy 90 = .ok (.getfield 13, 3) := by decide +kernel
theorem dX13_copy_93 : decode cX13_copy 93 = .ok (.if_icmp .ge 45, 3) := by decide +kernel
theorem dX13_copy_96 : decode cX13_copy 96 = .ok (.aload_n 1, 1) := by decide +kernel
theorem dX13_copy_97 : decode cX13_copy 97 = .ok (.getfield 33, 3) := by decide +kernel
theorem dX13_copy_100 : decode cX13_copy 100 = .ok (.iload_n 2, 1) := by decide +kernel
theorem dX13_copy_101 : decode cX13_copy 101 = .ok (.aload_n 0, 1) := by decide +kernel
theorem dX13_copy_102 : decode cX13_copy 102 = .ok (.getfield 33, 3) := by decide +kernel
theorem dX13_copy_105 : decode cX13_copy 105 = .ok (.iload_n 2, 1) := by decide +kernel
theorem dX13_copy_106 : decode cX13_copy 106 = .ok (.aaload, 1) := by decide +kernel
theorem dX13_copy_107 : decode cX13_copy 107 = .ok (.invokevirtual 117, 3) := by decide +kernel
theorem dX13_copy_110 : decode cX13_copy 110 = .ok (.checkcast 31, 3) := by decide +kernel
theorem dX13_copy_113 : decode cX13_copy 113 = .ok (.aastore, 1) := by decide +kernel
theorem dX13_copy_114 : decode cX13_copy 114 = .ok (.aload_n 1, 1) := by decide +kernel
theorem dX13_copy_115 : decode cX13_copy 115 = .ok (.getfield 37, 3) := by decide +kernel
theorem dX13_copy_118 : decode cX13_copy 118 = .ok (.iload_n 2, 1) := by decide +kernel
theorem dX13_copy_119 : decode cX13_copy 119 = .ok (.aload_n 0, 1) := by decide +kernel
theorem dX13_copy_120 : decode cX13_copy 120 = .ok (.getfield 37, 3) := by decide +kernel
theorem dX13_copy_123 : decode cX13_copy 123 = .ok (.iload_n 2, 1) := by decide +kernel
theorem dX13_copy_124 : decode cX13_copy 124 = .ok (.aaload, 1) := by decide +kernel
theorem dX13_copy_125 : decode cX13_copy 125 = .ok (.invokevirtual 117, 3) := by decide +kernel
theorem dX13_copy_128 : decode cX13_copy 128 = .ok (.checkcast 31, 3) := by decide +kernel
theorem dX13_copy_131 : decode cX13_copy 131 = .ok (.aastore, 1) := by decide +kernel
theorem dX13_copy_132 : decode cX13_copy 132 = .ok (.iinc 2 1, 3) := by decide +kernel
theorem dX13_copy_135 : decode cX13_copy 135 = .ok (.goto (-47), 3) := by decide +kernel
theorem dX13_copy_138 : decode cX13_copy 138 = .ok (.aload_n 1, 1) := by decide +kernel
theorem dX13_copy_139 : decode cX13_copy 139 = .ok (.areturn, 1) := by decide +kernel
theorem dX13_relights_0 : decode cX13_relights 0 = .ok (.iconst 0, 1) := by decide +kernel
theorem dX13_relights_1 : decode cX13_relights 1 = .ok (.istore_n 1, 1) := by decide +kernel
theorem dX13_relights_2 : decode cX13_relights 2 = .ok (.iload_n 1, 1) := by decide +kernel
theorem dX13_relights_3 : decode cX13_relights 3 = .ok (.aload_n 0, 1) := by decide +kernel
theorem dX13_relights_4 : decode cX13_relights 4 = .ok (.getfield 13, 3) := by decide +kernel
theorem dX13_relights_7 : decode cX13_relights 7 = .ok (.if_icmp .ge 49, 3) := by decide +kernel
theorem dX13_relights_10 : decode cX13_relights 10 = .ok (.iconst 0, 1) := by decide +kernel
theorem dX13_relights_11 : decode cX13_relights 11 = .ok (.istore_n 2, 1) := by decide +kernel
theorem dX13_relights_12 : decode cX13_relights 12 = .ok (.iload_n 2, 1) := by decide +kernel
theorem dX13_relights_13 : decode cX13_relights 13 = .ok (.aload_n 0, 1) := by decide +kernel
theorem dX13_relights_14 : decode cX13_relights 14 = .ok (.getfield 7, 3) := by decide +kernel
theorem dX13_relights_17 : decode cX13_relights 17 = .ok (.if_icmp .ge 33, 3) := by decide +kernel
theorem dX13_relights_20 : decode cX13_relights 20 = .ok (.aload_n 0, 1) := by decide +kernel
theorem dX13_relights_21 : decode cX13_relights 21 = .ok (.getfield 37, 3) := by decide +kernel
theorem dX13_relights_24 : decode cX13_relights 24 = .ok (.iload_n 1, 1) := by decide +kernel
theorem dX13_relights_25 : decode cX13_relights 25 = .ok (.aaload, 1) := by decide +kernel
theorem dX13_relights_26 : decode cX13_relights 26 = .ok (.iload_n 2, 1) := by decide +kernel
theorem dX13_relights_27 : decode cX13_relights 27 = .ok (.aload_n 0, 1) := by decide +kernel
theorem dX13_relights_28 : decode cX13_relights 28 = .ok (.aload_n 0, 1) := by decide +kernel
theorem dX13_relights_29 : decode cX13_relights 29 = .ok (.getfield 33, 3) := by decide +kernel
theorem dX13_relights_32 : decode cX13_relights 32 = .ok (.iload_n 1, 1) := by decide +kernel
theorem dX13_relights_33 : decode cX13_relights 33 = .ok (.aaload, 1) := by decide +kernel
theorem dX13_relights_34 : decode cX13_relights 34 = .ok (.iload_n 2, 1) := by decide +kernel
theorem dX13_relights_35 : decode cX13_relights 35 = .ok (.iaload, 1) := by decide +kernel
theorem dX13_relights_36 : decode cX13_relights 36 = .ok (.i2f, 1) := by decide +kernel
theorem dX13_relights_37 : decode cX13_relights 37 = .ok (.ldc 121, 2) := by decide +kernel
theorem dX13_relights_39 : decode cX13_relights 39 = .ok (.fdiv, 1) := by decide +kernel
theorem dX13_relights_40 : decode cX13_relights 40 = .ok (.invokevirtual 122, 3) := by decide +kernel
theorem dX13_relights_43 : decode cX13_relights 43 = .ok (.iastore, 1) := by decide +kernel
theorem dX13_relights_44 : decode cX13_relights 44 = .ok (.iinc 2 1, 3) := by decide +kernel
theorem dX13_relights_47 : decode cX13_relights 47 = .ok (.goto (-35), 3) := by decide +kernel
theorem dX13_relights_50 : decode cX13_relights 50 = .ok (.iinc 1 1, 3) := by decide +kernel
theorem dX13_relights_53 : decode cX13_relights 53 = .ok (.goto (-51), 3) := by decide +kernel
theorem dX13_relights_56 : decode cX13_relights 56 = .ok (.return_, 1) := by decide +kernel
theorem dX13_has_0 : decode cX13_has 0 = .ok (.iload_n 1, 1) := by decide +kernel
theorem dX13_has_1 : decode cX13_has 1 = .ok (.ifCond .lt 27, 3) := by decide +kernel
theorem dX13_has_4 : decode cX13_has 4 = .ok (.iload_n 2, 1) := by decide +kernel
theorem dX13_has_5 : decode cX13_has 5 = .ok (.ifCond .lt 23, 3) := by decide +kernel
theorem dX13_has_8 : decode cX13_has 8 = .ok (.iload_n 1, 1) := by decide +kernel
theorem dX13_has_9 : decode cX13_has 9 = .ok (.aload_n 0, 1) := by decide +kernel
theorem dX13_has_10 : decode cX13_has 10 = .ok (.getfield 7, 3) := by decide +kernel
theorem dX13_has_13 : decode cX13_has 13 = .ok (.if_icmp .ge 15, 3) := by decide +kernel
theorem dX13_has_16 : decode cX13_has 16 = .ok (.iload_n 2, 1) := by decide +kernel
theorem dX13_has_17 : decode cX13_has 17 = .ok (.aload_n 0, 1) := by decide +kernel
theorem dX13_has_18 : decode cX13_has 18 = .ok (.getfield 13, 3) := by decide +kernel
theorem dX13_has_21 : decode cX13_has 21 = .ok (.if_icmp .ge 7, 3) := by decide +kernel
theorem dX13_has_24 : decode cX13_has 24 = .ok (.iconst 1, 1) := by decide +kernel
theorem dX13_has_25 : decode cX13_has 25 = .ok (.goto 4, 3) := by decide +kernel
theorem dX13_has_28 : decode cX13_has 28 = .ok (.iconst 0, 1) := by decide +kernel
theorem dX13_has_29 : decode cX13_has 29 = .ok (.ireturn, 1) := by decide +kernel
theorem dX13_light_0 : decode cX13_light 0 = .ok (.iload_n 1, 1) := by decide +kernel
theorem dX13_light_1 : decode cX13_light 1 = .ok (.ifCond .ne 7, 3) := by decide +kernel
theorem dX13_light_4 : decode cX13_light 4 = .ok (.fconst 1, 1) := by decide +kernel
theorem dX13_light_5 : decode cX13_light 5 = .ok (.goto 19, 3) := by decide +kernel
theorem dX13_light_8 : decode cX13_light 8 = .ok (.aload_n 0, 1) := by decide +kernel
theorem dX13_light_9 : decode cX13_light 9 = .ok (.iload_n 1, 1) := by decide +kernel
theorem dX13_light_10 : decode cX13_light 10 = .ok (.iconst 1, 1) := by decide +kernel
theorem dX13_light_11 : decode cX13_light 11 = .ok (.isub, 1) := by decide +kernel
theorem dX13_light_12 : decode cX13_light 12 = .ok (.invokevirtual 126, 3) := by decide +kernel
theorem dX13_light_15 : decode cX13_light 15 = .ok (.aload_n 0, 1) := by decide +kernel
theorem dX13_light_16 : decode cX13_light 16 = .ok (.getfield 19, 3) := by decide +kernel
theorem dX13_light_19 : decode cX13_light 19 = .ok (.i2f, 1) := by decide +kernel
theorem dX13_light_20 : decode cX13_light 20 = .ok (.ldc 130, 2) := by decide +kernel
theorem dX13_light_22 : decode cX13_light 22 = .ok (.fdiv, 1) := by decide +kernel
theorem dX13_light_23 : decode cX13_light 23 = .ok (.fmul, 1) := by decide +kernel
theorem dX13_light_24 : decode cX13_light 24 = .ok (.freturn, 1) := by decide +kernel
theorem dX13_heightFor_0 : decode cX13_heightFor 0 = .ok (.aload_n 0, 1) := by decide +kernel
theorem dX13_heightFor_1 : decode cX13_heightFor 1 = .ok (.getfield 22, 3) := by decide +kernel
theorem dX13_heightFor_4 : decode cX13_heightFor 4 = .ok (.istore_n 2, 1) := by decide +kernel
theorem dX13_heightFor_5 : decode cX13_heightFor 5 = .ok (.aload_n 0, 1) := by decide +kernel
theorem dX13_heightFor_6 : decode cX13_heightFor 6 = .ok (.getfield 22, 3) := by decide +kernel
theorem dX13_heightFor_9 : decode cX13_heightFor 9 = .ok (.istore_n 3, 1) := by decide +kernel
theorem dX13_heightFor_10 : decode cX13_heightFor 10 = .ok (.iload_n 3, 1) := by decide +kernel
theorem dX13_heightFor_11 : decode cX13_heightFor 11 = .ok (.aload_n 0, 1) := by decide +kernel
theorem dX13_heightFor_12 : decode cX13_heightFor 12 = .ok (.getfield 16, 3) := by decide +kernel
theorem dX13_heightFor_15 : decode cX13_heightFor 15 = .ok (.if_icmp .gt 35, 3) := by decide +kernel
theorem dX13_heightFor_18 : decode cX13_heightFor 18 = .ok (.aload_n 0, 1) := by decide +kernel
theorem dX13_heightFor_19 : decode cX13_heightFor 19 = .ok (.iload_n 3, 1) := by decide +kernel
theorem dX13_heightFor_20 : decode cX13_heightFor 20 = .ok (.invokevirtual 126, 3) := by decide +kernel
theorem dX13_heightFor_23 : decode cX13_heightFor 23 = .ok (.fload_n 1, 1) := by decide +kernel
theorem dX13_heightFor_24 : decode cX13_heightFor 24 = .ok (.fsub, 1) := by decide +kernel
theorem dX13_heightFor_25 : decode cX13_heightFor 25 = .ok (.invokestatic 131, 3) := by decide +kernel
theorem dX13_heightFor_28 : decode cX13_heightFor 28 = .ok (.aload_n 0, 1) := by decide +kernel
theorem dX13_heightFor_29 : decode cX13_heightFor 29 = .ok (.iload_n 2, 1) := by decide +kernel
theorem dX13_heightFor_30 : decode cX13_heightFor 30 = .ok (.invokevirtual 126, 3) := by decide +kernel
theorem dX13_heightFor_33 : decode cX13_heightFor 33 = .ok (.fload_n 1, 1) := by decide +kernel
theorem dX13_heightFor_34 : decode cX13_heightFor 34 = .ok (.fsub, 1) := by decide +kernel
theorem dX13_heightFor_35 : decode cX13_heightFor 35 = .ok (.invokestatic 131, 3) := by decide +kernel
theorem dX13_heightFor_38 : decode cX13_heightFor 38 = .ok (.fcmp .g, 1) := by decide +kernel
theorem dX13_heightFor_39 : decode cX13_heightFor 39 = .ok (.ifCond .ge 5, 3) := by decide +kernel
theorem dX13_heightFor_42 : decode cX13_heightFor 42 = .ok (.iload_n 3, 1) := by decide +kernel
theorem dX13_heightFor_43 : decode cX13_heightFor 43 = .ok (.istore_n 2, 1) := by decide +kernel
theorem dX13_heightFor_44 : decode cX13_heightFor 44 = .ok (.iinc 3 1, 3) := by decide +kernel
theorem dX13_heightFor_47 : decode cX13_heightFor 47 = .ok (.goto (-37), 3) := by decide +kernel
theorem dX13_heightFor_50 : decode cX13_heightFor 50 = .ok (.iload_n 2, 1) := by decide +kernel
theorem dX13_heightFor_51 : decode cX13_heightFor 51 = .ok (.ireturn, 1) := by decide +kernel
theorem dX13_lightAt_0 : decode cX13_lightAt 0 = .ok (.aload_n 0, 1) := by decide +kernel
theorem dX13_lightAt_1 : decode cX13_lightAt 1 = .ok (.iload_n 1, 1) := by decide +kernel
theorem dX13_lightAt_2 : decode cX13_lightAt 2 = .ok (.iload_n 2, 1) := by decide +kernel
theorem dX13_lightAt_3 : decode cX13_lightAt 3 = .ok (.invokevirtual 135, 3) := by decide +kernel
theorem dX13_lightAt_6 : decode cX13_lightAt 6 = .ok (.ifCond .eq 18, 3) := by decide +kernel
theorem dX13_lightAt_9 : decode cX13_lightAt 9 = .ok (.aload_n 0, 1) := by decide +kernel
theorem dX13_lightAt_10 : decode cX13_lightAt 10 = .ok (.aload_n 0, 1) := by decide +kernel
theorem dX13_lightAt_11 : decode cX13_lightAt 11 = .ok (.getfield 37, 3) := by decide +kernel
theorem dX13_lightAt_14 : decode cX13_lightAt 14 = .ok (.iload_n 2, 1) := by decide +kernel
theorem dX13_lightAt_15 : decode cX13_lightAt 15 = .ok (.aaload, 1) := by decide +kernel
theorem dX13_lightAt_16 : decode cX13_lightAt 16 = .ok (.iload_n 1, 1) := by decide +kernel
theorem dX13_lightAt_17 : decode cX13_lightAt 17 = .ok (.iaload, 1) := by decide +kernel
theorem dX13_lightAt_18 : decode cX13_lightAt 18 = .ok (.invokevirtual 126, 3) := by decide +kernel
theorem dX13_lightAt_21 : decode cX13_lightAt 21 = .ok (.goto 4, 3) := by decide +kernel
theorem dX13_lightAt_24 : decode cX13_lightAt 24 = .ok (.fload_n 3, 1) := by decide +kernel
theorem dX13_lightAt_25 : decode cX13_lightAt 25 = .ok (.freturn, 1) := by decide +kernel
theorem dX13_estimate_0 : decode cX13_estimate 0 = .ok (.aload_n 0, 1) := by decide +kernel
theorem dX13_estimate_1 : decode cX13_estimate 1 = .ok (.aload_n 0, 1) := by decide +kernel
theorem dX13_estimate_2 : decode cX13_estimate 2 = .ok (.getfield 37, 3) := by decide +kernel
theorem dX13_estimate_5 : decode cX13_estimate 5 = .ok (.iload_n 2, 1) := by decide +kernel
theorem dX13_estimate_6 : decode cX13_estimate 6 = .ok (.aaload, 1) := by decide +kernel
theorem dX13_estimate_7 : decode cX13_estimate 7 = .ok (.iload_n 1, 1) := by decide +kernel
theorem dX13_estimate_8 : decode cX13_estimate 8 = .ok (.iaload, 1) := by decide +kernel
theorem dX13_estimate_9 : decode cX13_estimate 9 = .ok (.invokevirtual 126, 3) := by decide +kernel
theorem dX13_estimate_12 : decode cX13_estimate 12 = .ok (.fstore_n 3, 1) := by decide +kernel
theorem dX13_estimate_13 : decode cX13_estimate 13 = .ok (.fload_n 3, 1) := by decide +kernel
theorem dX13_estimate_14 : decode cX13_estimate 14 = .ok (.ldc 139, 2) := by decide +kernel
theorem dX13_estimate_16 : decode cX13_estimate 16 = .ok (.fmul, 1) := by decide +kernel
theorem dX13_estimate_17 : decode cX13_estimate 17 = .ok (.aload_n 0, 1) := by decide +kernel
theorem dX13_estimate_18 : decode cX13_estimate 18 = .ok (.iload_n 1, 1) := by decide +kernel
theorem dX13_estimate_19 : decode cX13_estimate 19 = .ok (.iconst 1, 1) := by decide +kernel
theorem dX13_estimate_20 : decode cX13_estimate 20 = .ok (.isub, 1) := by decide +kernel
theorem dX13_estimate_21 : decode cX13_estimate 21 = .ok (.iload_n 2, 1) := by decide +kernel
theorem dX13_estimate_22 : decode cX13_estimate 22 = .ok (.fload_n 3, 1) := by decide +kernel
theorem dX13_estimate_23 : decode cX13_estimate 23 = .ok (.invokevirtual 140, 3) := by decide +kernel
theorem dX13_estimate_26 : decode cX13_estimate 26 = .ok (.fadd, 1) := by decide +kernel
theorem dX13_estimate_27 : decode cX13_estimate 27 = .ok (.aload_n 0, 1) := by decide +kernel
theorem dX13_estimate_28 : decode cX13_estimate 28 = .ok (.iload_n 1, 1) := by decide +kernel
theorem dX13_estimate_29 : decode cX13_estimate 29 = .ok (.iconst 1, 1) := by decide +kernel
theorem dX13_estimate_30 : decode cX13_estimate 30 = .ok (.iadd, 1) := by decide +kernel
theorem dX13_estimate_31 : decode cX13_estimate 31 = .ok (.iload_n 2, 1) := by decide +kernel
theorem dX13_estimate_32 : decode cX13_estimate 32 = .ok (.fload_n 3, 1) := by decide +kernel
theorem dX13_estimate_33 : decode cX13_estimate 33 = .ok (.invokevirtual 140, 3) := by decide +kernel
theorem dX13_estimate_36 : decode cX13_estimate 36 = .ok (.fadd, 1) := by decide +kernel
theorem dX13_estimate_37 : decode cX13_estimate 37 = .ok (.aload_n 0, 1) := by decide +kernel
theorem dX13_estimate_38 : decode cX13_estimate 38 = .ok (.iload_n 1, 1) := by decide +kernel
theorem dX13_estimate_39 : decode cX13_estimate 39 = .ok (.iload_n 2, 1) := by decide +kernel
theorem dX13_estimate_40 : decode cX13_estimate 40 = .ok (.iconst 1, 1) := by decide +kernel
theorem dX13_estimate_41 : decode cX13_estimate 41 = .ok (.isub, 1) := by decide +kernel
theorem dX13_estimate_42 : decode cX13_estimate 42 = .ok (.fload_n 3, 1) := by decide +kernel
theorem dX13_estimate_43 : decode cX13_estimate 43 = .ok (.invokevirtual 140, 3) := by decide +kernel
theorem dX13_estimate_46 : decode cX13_estimate 46 = .ok (.fadd, 1) := by decide +kernel
theorem dX13_estimate_47 : decode cX13_estimate 47 = .ok (.aload_n 0, 1) := by decide +kernel
theorem dX13_estimate_48 : decode cX13_estimate 48 = .ok (.iload_n 1, 1) := by decide +kernel
theorem dX13_estimate_49 : decode cX13_estimate 49 = .ok (.iload_n 2, 1) := by decide +kernel
theorem dX13_estimate_50 : decode cX13_estimate 50 = .ok (.iconst 1, 1) := by decide +kernel
theorem dX13_estimate_51 : decode cX13_estimate 51 = .ok (.iadd, 1) := by decide +kernel
theorem dX13_estimate_52 : decode cX13_estimate 52 = .ok (.fload_n 3, 1) := by decide +kernel
theorem dX13_estimate_53 : decode cX13_estimate 53 = .ok (.invokevirtual 140, 3) := by decide +kernel
theorem dX13_estimate_56 : decode cX13_estimate 56 = .ok (.fadd, 1) := by decide +kernel
theorem dX13_estimate_57 : decode cX13_estimate 57 = .ok (.ldc 144, 2) := by decide +kernel
theorem dX13_estimate_59 : decode cX13_estimate 59 = .ok (.fdiv, 1) := by decide +kernel
theorem dX13_estimate_60 : decode cX13_estimate 60 = .ok (.freturn, 1) := by decide +kernel
theorem dX13_error_0 : decode cX13_error 0 = .ok (.aload_n 0, 1) := by decide +kernel
theorem dX13_error_1 : decode cX13_error 1 = .ok (.iload_n 1, 1) := by decide +kernel
theorem dX13_error_2 : decode cX13_error 2 = .ok (.iload_n 2, 1) := by decide +kernel
theorem dX13_error_3 : decode cX13_error 3 = .ok (.invokevirtual 145, 3) := by decide +kernel
theorem dX13_error_6 : decode cX13_error 6 = .ok (.aload_n 0, 1) := by decide +kernel
theorem dX13_error_7 : decode cX13_error 7 = .ok (.getfield 33, 3) := by decide +kernel
theorem dX13_error_10 : decode cX13_error 10 = .ok (.iload_n 2, 1) := by decide +kernel
theorem dX13_error_11 : decode cX13_error 11 = .ok (.aaload, 1) := by decide +kernel
theorem dX13_error_12 : decode cX13_error 12 = .ok (.iload_n 1, 1) := by decide +kernel
theorem dX13_error_13 : decode cX13_error 13 = .ok (.iaload, 1) := by decide +kernel
theorem dX13_error_14 : decode cX13_error 14 = .ok (.i2f, 1) := by decide +kernel
theorem dX13_error_15 : decode cX13_error 15 = .ok (.ldc 121, 2) := by decide +kernel
theorem dX13_error_17 : decode cX13_error 17 = .ok (.fdiv, 1) := by decide +kernel
theorem dX13_error_18 : decode cX13_error 18 = .ok (.fsub, 1) := by decide +kernel
theorem dX13_error_19 : decode cX13_error 19 = .ok (.freturn, 1) := by decide +kernel
theorem dX13_run_0 : decode cX13_run 0 = .ok (.aload_n 0, 1) := by decide +kernel
theorem dX13_run_1 : decode cX13_run 1 = .ok (.getfield 37, 3) := by decide +kernel
theorem dX13_run_4 : decode cX13_run 4 = .ok (.iload_n 2, 1) := by decide +kernel
theorem dX13_run_5 : decode cX13_run 5 = .ok (.aaload, 1) := by decide +kernel
theorem dX13_run_6 : decode cX13_run 6 = .ok (.iload_n 1, 1) := by decide +kernel
theorem dX13_run_7 : decode cX13_run 7 = .ok (.iaload, 1) := by decide +kernel
theorem dX13_run_8 : decode cX13_run 8 = .ok (.istore 4, 2) := by decide +kernel
theorem dX13_run_10 : decode cX13_run 10 = .ok (.iconst 0, 1) := by decide +kernel
theorem dX13_run_11 : decode cX13_run 11 = .ok (.istore 5, 2) := by decide +kernel
theorem dX13_run_13 : decode cX13_run 13 = .ok (.iconst 0, 1) := by decide +kernel
theorem dX13_run_14 : decode cX13_run 14 = .ok (.istore 6, 2) := by decide +kernel
theorem dX13_run_16 : decode cX13_run 16 = .ok (.iconst 0, 1) := by decide +kernel
theorem dX13_run_17 : decode cX13_run 17 = .ok (.istore 7, 2) := by decide +kernel
theorem dX13_run_19 : decode cX13_run 19 = .ok (.iconst 0, 1) := by decide +kernel
theorem dX13_run_20 : decode cX13_run 20 = .ok (.istore 8, 2) := by decide +kernel
theorem dX13_run_22 : decode cX13_run 22 = .ok (.iload 8, 2) := by decide +kernel
theorem dX13_run_24 : decode cX13_run 24 = .ok (.iload_n 3, 1) := by decide +kernel
theorem dX13_run_25 : decode cX13_run 25 = .ok (.ifCond .eq 10, 3) := by decide +kernel
theorem dX13_run_28 : decode cX13_run 28 = .ok (.aload_n 0, 1) := by decide +kernel
theorem dX13_run_29 : decode cX13_run 29 = .ok (.getfield 7, 3) := by decide +kernel
theorem dX13_run_32 : decode cX13_run 32 = .ok (.goto 7, 3) := by decide +kernel
theorem dX13_run_35 : decode cX13_run 35 = .ok (.aload_n 0, 1) := by decide +kernel
theorem dX13_run_36 : decode cX13_run 36 = .ok (.getfield 13, 3) := by decide +kernel
theorem dX13_run_39 : decode cX13_run 39 = .ok (.if_icmp .ge 106, 3) := by decide +kernel
theorem dX13_run_42 : decode cX13_run 42 = .ok (.iload_n 3, 1) := by decide +kernel
theorem dX13_run_43 : decode cX13_run 43 = .ok (.ifCond .eq 15, 3) := by decide +kernel
theorem dX13_run_46 : decode cX13_run 46 = .ok (.aload_n 0, 1) := by decide +kernel
theorem dX13_run_47 : decode cX13_run 47 = .ok (.getfield 37, 3) := by decide +kernel
theorem dX13_run_50 : decode cX13_run 50 = .ok (.iload_n 2, 1) := by decide +kernel
theorem dX13_run_51 : decode cX13_run 51 = .ok (.aaload, 1) := by decide +kernel
theorem dX13_run_52 : decode cX13_run 52 = .ok (.iload 8, 2) := by decide +kernel
theorem dX13_run_54 : decode cX13_run 54 = .ok (.iaload, 1) := by decide +kernel
theorem dX13_run_55 : decode cX13_run 55 = .ok (.goto 12, 3) := by decide +kernel
theorem dX13_run_58 : decode cX13_run 58 = .ok (.aload_n 0, 1) := by decide +kernel
theorem dX13_run_59 : decode cX13_run 59 = .ok (.getfield 37, 3) := by decide +kernel
theorem dX13_run_62 : decode cX13_run 62 = .ok (.iload 8, 2) := by decide +kernel
theorem dX13_run_64 : decode cX13_run 64 = .ok (.aaload, 1) := by decide +kernel
theorem dX13_run_65 : decode cX13_run 65 = .ok (.iload_n 1, 1) := by decide +kernel
theorem dX13_run_66 : decode cX13_run 66 = .ok (.iaload, 1) := by decide +kernel
theorem dX13_run_67 : decode cX13_run 67 = .ok (.iload 4, 2) := by decide +kernel
theorem dX13_run_69 : decode cX13_run 69 = .ok (.if_icmp .lt 7, 3) := by decide +kernel
theorem dX13_run_72 : decode cX13_run 72 = .ok (.iconst 1, 1) := by decide +kernel
theorem dX13_run_73 : decode cX13_run 73 = .ok (.goto 4, 3) := by decide +kernel
theorem dX13_run_76 : decode cX13_run 76 = .ok (.iconst 0, 1) := by decide +kernel
theorem dX13_run_77 : decode cX13_run 77 = .ok (.istore 9, 2) := by decide +kernel
theorem dX13_run_79 : decode cX13_run 79 = .ok (.iload 9, 2) := by decide +kernel
theorem dX13_run_81 : decode cX13_run 81 = .ok (.ifCond .eq 10, 3) := by decide +kernel
theorem dX13_run_84 : decode cX13_run 84 = .ok (.iload 6, 2) := by decide +kernel
theorem dX13_run_86 : decode cX13_run 86 = .ok (.iconst 1, 1) := by decide +kernel
theorem dX13_run_87 : decode cX13_run 87 = .ok (.iadd, 1) := by decide +kernel
theorem dX13_run_88 : decode cX13_run 88 = .ok (.goto 4, 3) := by decide +kernel
theorem dX13_run_91 : decode cX13_run 91 = .ok (.iconst 0, 1) := by decide +kernel
theorem dX13_run_92 : decode cX13_run 92 = .ok (.istore 6, 2) := by decide +kernel
theorem dX13_run_94 : decode cX13_run 94 = .ok (.iload 9, 2) := by decide +kernel
theorem dX13_run_96 : decode cX13_run 96 = .ok (.ifCond .eq 26, 3) := by decide +kernel
theorem dX13_run_99 : decode cX13_run 99 = .ok (.iload 7, 2) := by decide +kernel
theorem dX13_run_101 : decode cX13_run 101 = .ok (.ifCond .ne 17, 3) := by decide +kernel
theorem dX13_run_104 : decode cX13_run 104 = .ok (.iload 8, 2) := by decide +kernel
theorem dX13_run_106 : decode cX13_run 106 = .ok (.iload_n 3, 1) := by decide +kernel
theorem dX13_run_107 : decode cX13_run 107 = .ok (.ifCond .eq 7, 3) := by decide +kernel
theorem dX13_run_110 : decode cX13_run 110 = .ok (.iload_n 1, 1) := by decide +kernel
theorem dX13_run_111 : decode cX13_run 111 = .ok (.goto 4, 3) := by decide +kernel
theorem dX13_run_114 : decode cX13_run 114 = .ok (.iload_n 2, 1) := by decide +kernel
theorem dX13_run_115 : decode cX13_run 115 = .ok (.if_icmp .ne 7, 3) := by decide +kernel
theorem dX13_run_118 : decode cX13_run 118 = .ok (.iconst 1, 1) := by decide +kernel
theorem dX13_run_119 : decode cX13_run 119 = .ok (.goto 4, 3) := by decide +kernel
theorem dX13_run_122 : decode cX13_run 122 = .ok (.iconst 0, 1) := by decide +kernel
theorem dX13_run_123 : decode cX13_run 123 = .ok (.istore 7, 2) := by decide +kernel
theorem dX13_run_125 : decode cX13_run 125 = .ok (.iload 7, 2) := by decide +kernel
theorem dX13_run_127 : decode cX13_run 127 = .ok (.ifCond .eq 8, 3) := by decide +kernel
theorem dX13_run_130 : decode cX13_run 130 = .ok (.iload 6, 2) := by decide +kernel
theorem dX13_run_132 : decode cX13_run 132 = .ok (.goto 5, 3) := by decide +kernel
theorem dX13_run_135 : decode cX13_run 135 = .ok (.iload 5, 2) := by decide +kernel
theorem dX13_run_137 : decode cX13_run 137 = .ok (.istore 5, 2) := by decide +kernel
theorem dX13_run_139 : decode cX13_run 139 = .ok (.iinc 8 1, 3) := by decide +kernel
theorem dX13_run_142 : decode cX13_run 142 = .ok (.goto (-120), 3) := by decide +kernel
theorem dX13_run_145 : decode cX13_run 145 = .ok (.iload 5, 2) := by decide +kernel
theorem dX13_run_147 : decode cX13_run 147 = .ok (.ireturn, 1) := by decide +kernel
theorem dX13_isThin_0 : decode cX13_isThin 0 = .ok (.aload_n 0, 1) := by decide +kernel
theorem dX13_isThin_1 : decode cX13_isThin 1 = .ok (.getfield 37, 3) := by decide +kernel
theorem dX13_isThin_4 : decode cX13_isThin 4 = .ok (.iload_n 2, 1) := by decide +kernel
theorem dX13_isThin_5 : decode cX13_isThin 5 = .ok (.aaload, 1) := by decide +kernel
theorem dX13_isThin_6 : decode cX13_isThin 6 = .ok (.iload_n 1, 1) := by decide +kernel
theorem dX13_isThin_7 : decode cX13_isThin 7 = .ok (.iaload, 1) := by decide +kernel
theorem dX13_isThin_8 : decode cX13_isThin 8 = .ok (.aload_n 0, 1) := by decide +kernel
theorem dX13_isThin_9 : decode cX13_isThin 9 = .ok (.getfield 22, 3) := by decide +kernel
theorem dX13_isThin_12 : decode cX13_isThin 12 = .ok (.if_icmp .le 35, 3) := by decide +kernel
theorem dX13_isThin_15 : decode cX13_isThin 15 = .ok (.aload_n 0, 1) := by decide +kernel
theorem dX13_isThin_16 : decode cX13_isThin 16 = .ok (.iload_n 1, 1) := by decide +kernel
theorem dX13_isThin_17 : decode cX13_isThin 17 = .ok (.iload_n 2, 1) := by decide +kernel
theorem dX13_isThin_18 : decode cX13_isThin 18 = .ok (.iconst 1, 1) := by decide +kernel
theorem dX13_isThin_19 : decode cX13_isThin 19 = .ok (.invokevirtual 149, 3) := by decide +kernel
theorem dX13_isThin_22 : decode cX13_isThin 22 = .ok (.aload_n 0, 1) := by decide +kernel
theorem dX13_isThin_23 : decode cX13_isThin 23 = .ok (.getfield 25, 3) := by decide +kernel
theorem dX13_isThin_26 : decode cX13_isThin 26 = .ok (.if_icmp .ge 21, 3) := by decide +kernel
theorem dX13_isThin_29 : decode cX13_isThin 29 = .ok (.aload_n 0, 1) := by decide +kernel
theorem dX13_isThin_30 : decode cX13_isThin 30 = .ok (.iload_n 1, 1) := by decide +kernel
theorem dX13_isThin_31 : decode cX13_isThin 31 = .ok (.iload_n 2, 1) := by decide +kernel
theorem dX13_isThin_32 : decode cX13_isThin 32 = .ok (.iconst 0, 1) := by decide +kernel
theorem dX13_isThin_33 : decode cX13_isThin 33 = .ok (.invokevirtual 149, 3) := by decide +kernel
theorem dX13_isThin_36 : decode cX13_isThin 36 = .ok (.aload_n 0, 1) := by decide +kernel
theorem dX13_isThin_37 : decode cX13_isThin 37 = .ok (.getfield 25, 3) := by decide +kernel
theorem dX13_isThin_40 : decode cX13_isThin 40 = .ok (.if_icmp .ge 7, 3) := by decide +kernel
theorem dX13_isThin_43 : decode cX13_isThin 43 = .ok (.iconst 1, 1) := by decide +kernel
theorem dX13_isThin_44 : decode cX13_isThin 44 = .ok (.goto 4, 3) := by decide +kernel
theorem dX13_isThin_47 : decode cX13_isThin 47 = .ok (.iconst 0, 1) := by decide +kernel
theorem dX13_isThin_48 : decode cX13_isThin 48 = .ok (.ireturn, 1) := by decide +kernel
theorem dX13_repair_0 : decode cX13_repair 0 = .ok (.iconst 0, 1) := by decide +kernel
theorem dX13_repair_1 : decode cX13_repair 1 = .ok (.istore_n 1, 1) := by decide +kernel
theorem dX13_repair_2 : decode cX13_repair 2 = .ok (.iconst 1, 1) := by decide +kernel
theorem dX13_repair_3 : decode cX13_repair 3 = .ok (.istore_n 2, 1) := by decide +kernel
theorem dX13_repair_4 : decode cX13_repair 4 = .ok (.iload_n 2, 1) := by decide +kernel
theorem dX13_repair_5 : decode cX13_repair 5 = .ok (.ifCond .eq 169, 3) := by decide +kernel
theorem dX13_repair_8 : decode cX13_repair 8 = .ok (.aload_n 0, 1) := by decide +kernel
theorem dX13_repair_9 : decode cX13_repair 9 = .ok (.getfield 13, 3) := by decide +kernel
theorem dX13_repair_12 : decode cX13_repair 12 = .ok (.aload_n 0, 1) := by decide +kernel
theorem dX13_repair_13 : decode cX13_repair 13 = .ok (.getfield 7, 3) := by decide +kernel
theorem dX13_repair_16 : decode cX13_repair 16 = .ok (.multianewarray 90 2, 4) := by decide +kernel
theorem dX13_repair_20 : decode cX13_repair 20 = .ok (.astore_n 3, 1) := by decide +kernel
theorem dX13_repair_21 : decode cX13_repair 21 = .ok (.iconst 0, 1) := by decide +kernel
theorem dX13_repair_22 : decode cX13_repair 22 = .ok (.istore_n 2, 1) := by decide +kernel
theorem dX13_repair_23 : decode cX13_repair 23 = .ok (.iconst 0, 1) := by decide +kernel
theorem dX13_repair_24 : decode cX13_repair 24 = .ok (.istore 4, 2) := by decide +kernel
theorem dX13_repair_26 : decode cX13_repair 26 = .ok (.iload 4, 2) := by decide +kernel
theorem dX13_repair_28 : decode cX13_repair 28 = .ok (.aload_n 0, 1) := by decide +kernel
theorem dX13_repair_29 : decode cX13_repair 29 = .ok (.getfield 13, 3) := by decide +kernel
theorem dX13_repair_32 : decode cX13_repair 32 = .ok (.if_icmp .ge 71, 3) := by decide +kernel
theorem dX13_repair_35 : decode cX13_repair 35 = .ok (.iconst 0, 1) := by decide +kernel
theorem dX13_repair_36 : decode cX13_repair 36 = .ok (.istore 5, 2) := by decide +kernel
theorem dX13_repair_38 : decode cX13_repair 38 = .ok (.iload 5, 2) := by decide +kernel
theorem dX13_repair_40 : decode cX13_repair 40 = .ok (.aload_n 0, 1) := by decide +kernel
theorem dX13_repair_41 : decode cX13_repair 41 = .ok (.getfield 7, 3) := by decide +kernel
theorem dX13_repair_44 : decode cX13_repair 44 = .ok (.if_icmp .ge 53, 3) := by decide +kernel
theorem dX13_repair_47 : decode cX13_repair 47 = .ok (.aload_n 3, 1) := by decide +kernel
theorem dX13_repair_48 : decode cX13_repair 48 = .ok (.iload 4, 2) := by decide +kernel
theorem dX13_repair_50 : decode cX13_repair 50 = .ok (.aaload, 1) := by decide +kernel
theorem dX13_repair_51 : decode cX13_repair 51 = .ok (.iload 5, 2) := by decide +kernel
theorem dX13_repair_53 : decode cX13_repair 53 = .ok (.aload_n 0, 1) := by decide +kernel
theorem dX13_repair_54 : decode cX13_repair 54 = .ok (.iload 5, 2) := by decide +kernel
theorem dX13_repair_56 : decode cX13_repair 56 = .ok (.iload 4, 2) := by decide +kernel
theorem dX13_repair_58 : decode cX13_repair 58 = .ok (.invokevirtual 153, 3) := by decide +kernel
theorem dX13_repair_61 : decode cX13_repair 61 = .ok (.ifCond .eq 7, 3) := by decide +kernel
theorem dX13_repair_64 : decode cX13_repair 64 = .ok (.iconst 1, 1) := by decide +kernel
theorem dX13_repair_65 : decode cX13_repair 65 = .ok (.goto 4, 3) := by decide +kernel
theorem dX13_repair_68 : decode cX13_repair 68 = .ok (.iconst 0, 1) := by decide +kernel
theorem dX13_repair_69 : decode cX13_repair 69 = .ok (.iastore, 1) := by decide +kernel
theorem dX13_repair_70 : decode cX13_repair 70 = .ok (.iload_n 2, 1) := by decide +kernel
theorem dX13_repair_71 : decode cX13_repair 71 = .ok (.ifCond .ne 14, 3) := by decide +kernel
theorem dX13_repair_74 : decode cX13_repair 74 = .ok (.aload_n 3, 1) := by decide +kernel
theorem dX13_repair_75 : decode cX13_repair 75 = .ok (.iload 4, 2) := by decide +kernel
theorem dX13_repair_77 : decode cX13_repair 77 = .ok (.aaload, 1) := by decide +kernel
theorem dX13_repair_78 : decode cX13_repair 78 = .ok (.iload 5, 2) := by decide +kernel
theorem dX13_repair_80 : decode cX13_repair 80 = .ok (.iaload, 1) := by decide +kernel
theorem dX13_repair_81 : decode cX13_repair 81 = .ok (.iconst 1, 1) := by decide +kernel
theorem dX13_repair_82 : decode cX13_repair 82 = .ok (.if_icmp .ne 7, 3) := by decide +kernel
theorem dX13_repair_85 : decode cX13_repair 85 = .ok (.iconst 1, 1) := by decide +kernel
theorem dX13_repair_86 : decode cX13_repair 86 = .ok (.goto 4, 3) := by decide +kernel
theorem dX13_repair_89 : decode cX13_repair 89 = .ok (.iconst 0, 1) := by decide +kernel
theorem dX13_repair_90 : decode cX13_repair 90 = .ok (.istore_n 2, 1) := by decide +kernel
theorem dX13_repair_91 : decode cX13_repair 91 = .ok (.iinc 5 1, 3) := by decide +kernel
theorem dX13_repair_94 : decode cX13_repair 94 = .ok (.goto (-56), 3) := by decide +kernel
theorem dX13_repair_97 : decode cX13_repair 97 = .ok (.iinc 4 1, 3) := by decide +kernel
theorem dX13_repair_100 : decode cX13_repair 100 = .ok (.goto (-74), 3) := by decide +kernel
theorem dX13_repair_103 : decode cX13_repair 103 = .ok (.iconst 0, 1) := by decide +kernel
theorem dX13_repair_104 : decode cX13_repair 104 = .ok (.istore 4, 2) := by decide +kernel
theorem dX13_repair_106 : decode cX13_repair 106 = .ok (.iload 4, 2) := by decide +kernel
theorem dX13_repair_108 : decode cX13_repair 108 = .ok (.aload_n 0, 1) := by decide +kernel
theorem dX13_repair_109 : decode cX13_repair 109 = .ok (.getfield 13, 3) := by decide +kernel
theorem dX13_repair_112 : decode cX13_repair 112 = .ok (.if_icmp .ge 47, 3) := by decide +kernel
theorem dX13_repair_115 : decode cX13_repair 115 = .ok (.iconst 0, 1) := by decide +kernel
theorem dX13_repair_116 : decode cX13_repair 116 = .ok (.istore 5, 2) := by decide +kernel
theorem dX13_repair_118 : decode cX13_repair 118 = .ok (.iload 5, 2) := by decide +kernel
theorem dX13_repair_120 : decode cX13_repair 120 = .ok (.aload_n 0, 1) := by decide +kernel
theorem dX13_repair_121 : decode cX13_repair 121 = .ok (.getfield 7, 3) := by decide +kernel
theorem dX13_repair_124 : decode cX13_repair 124 = .ok (.if_icmp .ge 29, 3) := by decide +kernel
theorem dX13_repair_127 : decode cX13_repair 127 = .ok (.aload_n 0, 1) := by decide +kernel
theorem dX13_repair_128 : decode cX13_repair 128 = .ok (.getfield 37, 3) := by decide +kernel
theorem dX13_repair_131 : decode cX13_repair 131 = .ok (.iload 4, 2) := by decide +kernel
theorem dX13_repair_133 : decode cX13_repair 133 = .ok (.aaload, 1) := by decide +kernel
theorem dX13_repair_134 : decode cX13_repair 134 = .ok (.iload 5, 2) := by decide +kernel
theorem dX13_repair_136 : decode cX13_repair 136 = .ok (.dup2, 1) := by decide +kernel
theorem dX13_repair_137 : decode cX13_repair 137 = .ok (.iaload, 1) := by decide +kernel
theorem dX13_repair_138 : decode cX13_repair 138 = .ok (.aload_n 3, 1) := by decide +kernel
theorem dX13_repair_139 : decode cX13_repair 139 = .ok (.iload 4, 2) := by decide +kernel
theorem dX13_repair_141 : decode cX13_repair 141 = .ok (.aaload, 1) := by decide +kernel
theorem dX13_repair_142 : decode cX13_repair 142 = .ok (.iload 5, 2) := by decide +kernel
theorem dX13_repair_144 : decode cX13_repair 144 = .ok (.iaload, 1) := by decide +kernel
theorem dX13_repair_145 : decode cX13_repair 145 = .ok (.isub, 1) := by decide +kernel
theorem dX13_repair_146 : decode cX13_repair 146 = .ok (.iastore, 1) := by decide +kernel
theorem dX13_repair_147 : decode cX13_repair 147 = .ok (.iinc 5 1, 3) := by decide +kernel
theorem dX13_repair_150 : decode cX13_repair 150 = .ok (.goto (-32), 3) := by decide +kernel
theorem dX13_repair_153 : decode cX13_repair 153 = .ok (.iinc 4 1, 3) := by decide +kernel
theorem dX13_repair_156 : decode cX13_repair 156 = .ok (.goto (-50), 3) := by decide +kernel
theorem dX13_repair_159 : decode cX13_repair 159 = .ok (.iload_n 1, 1) := by decide +kernel
theorem dX13_repair_160 : decode cX13_repair 160 = .ok (.iload_n 2, 1) := by decide +kernel
theorem dX13_repair_161 : decode cX13_repair 161 = .ok (.ifCond .eq 7, 3) := by decide +kernel
theorem dX13_repair_164 : decode cX13_repair 164 = .ok (.iconst 1, 1) := by decide +kernel
theorem dX13_repair_165 : decode cX13_repair 165 = .ok (.goto 4, 3) := by decide +kernel
theorem dX13_repair_168 : decode cX13_repair 168 = .ok (.iconst 0, 1) := by decide +kernel
theorem dX13_repair_169 : decode cX13_repair 169 = .ok (.iadd, 1) := by decide +kernel
theorem dX13_repair_170 : decode cX13_repair 170 = .ok (.istore_n 1, 1) := by decide +kernel
theorem dX13_repair_171 : decode cX13_repair 171 = .ok (.goto (-167), 3) := by decide +kernel
theorem dX13_repair_174 : decode cX13_repair 174 = .ok (.iload_n 1, 1) := by decide +kernel
theorem dX13_repair_175 : decode cX13_repair 175 = .ok (.ireturn, 1) := by decide +kernel
theorem dX13_overhang_0 : decode cX13_overhang 0 = .ok (.iload_n 2, 1) := by decide +kernel
theorem dX13_overhang_1 : decode cX13_overhang 1 = .ok (.ifCond .ne 7, 3) := by decide +kernel
theorem dX13_overhang_4 : decode cX13_overhang 4 = .ok (.iconst 0, 1) := by decide +kernel
theorem dX13_overhang_5 : decode cX13_overhang 5 = .ok (.goto 31, 3) := by decide +kernel
theorem dX13_overhang_8 : decode cX13_overhang 8 = .ok (.iconst 0, 1) := by decide +kernel
theorem dX13_overhang_9 : decode cX13_overhang 9 = .ok (.aload_n 0, 1) := by decide +kernel
theorem dX13_overhang_10 : decode cX13_overhang 10 = .ok (.getfield 37, 3) := by decide +kernel
theorem dX13_overhang_13 : decode cX13_overhang 13 = .ok (.iload_n 2, 1) := by decide +kernel
theorem dX13_overhang_14 : decode cX13_overhang 14 = .ok (.aaload, 1) := by decide +kernel
theorem dX13_overhang_15 : decode cX13_overhang 15 = .ok (.iload_n 1, 1) := by decide +kernel
theorem dX13_overhang_16 : decode cX13_overhang 16 = .ok (.iaload, 1) := by decide +kernel
theorem dX13_overhang_17 : decode cX13_overhang 17 = .ok (.aload_n 0, 1) := by decide +kernel
theorem dX13_overhang_18 : decode cX13_overhang 18 = .ok (.getfield 37, 3) := by decide +kernel
theorem dX13_overhang_21 : decode cX13_overhang 21 = .ok (.iload_n 2, 1) := by decide +kernel
theorem dX13_overhang_22 : decode cX13_overhang 22 = .ok (.iconst 1, 1) := by decide +kernel
theorem dX13_overhang_23 : decode cX13_overhang 23 = .ok (.isub, 1) := by decide +kernel
theorem dX13_overhang_24 : decode cX13_overhang 24 = .ok (.aaload, 1) := by decide +kernel
theorem dX13_overhang_25 : decode cX13_overhang 25 = .ok (.iload_n 1, 1) := by decide +kernel
theorem dX13_overhang_26 : decode cX13_overhang 26 = .ok (.iaload, 1) := by decide +kernel
theorem dX13_overhang_27 : decode cX13_overhang 27 = .ok (.aload_n 0, 1) := by decide +kernel
theorem dX13_overhang_28 : decode cX13_overhang 28 = .ok (.getfield 28, 3) := by decide +kernel
theorem dX13_overhang_31 : decode cX13_overhang 31 = .ok (.iadd, 1) := by decide +kernel
theorem dX13_overhang_32 : decode cX13_overhang 32 = .ok (.isub, 1) := by decide +kernel
theorem dX13_overhang_33 : decode cX13_overhang 33 = .ok (.invokestatic 156, 3) := by decide +kernel
theorem dX13_overhang_36 : decode cX13_overhang 36 = .ok (.ireturn, 1) := by decide +kernel
theorem dX13_dither_0 : decode cX13_dither 0 = .ok (.aload_n 0, 1) := by decide +kernel
theorem dX13_dither_1 : decode cX13_dither 1 = .ok (.invokevirtual 162, 3) := by decide +kernel
theorem dX13_dither_4 : decode cX13_dither 4 = .ok (.astore_n 1, 1) := by decide +kernel
theorem dX13_dither_5 : decode cX13_dither 5 = .ok (.iconst 0, 1) := by decide +kernel
theorem dX13_dither_6 : decode cX13_dither 6 = .ok (.istore_n 2, 1) := by decide +kernel
theorem dX13_dither_7 : decode cX13_dither 7 = .ok (.iload_n 2, 1) := by decide +kernel
theorem dX13_dither_8 : decode cX13_dither 8 = .ok (.aload_n 0, 1) := by decide +kernel
theorem dX13_dither_9 : decode cX13_dither 9 = .ok (.getfield 13, 3) := by decide +kernel
theorem dX13_dither_12 : decode cX13_dither 12 = .ok (.if_icmp .ge 78, 3) := by decide +kernel
theorem dX13_dither_15 : decode cX13_dither 15 = .ok (.fconst 0, 1) := by decide +kernel
theorem dX13_dither_16 : decode cX13_dither 16 = .ok (.fstore_n 3, 1) := by decide +kernel
theorem dX13_dither_17 : decode cX13_dither 17 = .ok (.iconst 0, 1) := by decide +kernel
theorem dX13_dither_18 : decode cX13_dither 18 = .ok (.istore 4, 2) := by decide +kernel
theorem dX13_dither_20 : decode cX13_dither 20 = .ok (.iload 4, 2) := by decide +kernel
theorem dX13_dither_22 : decode cX13_dither 22 = .ok (.aload_n 0, 1) := by decide +kernel
theorem dX13_dither_23 : decode cX13_dither 23 = .ok (.getfield 7, 3) := by decide +kernel
theorem dX13_dither_26 : decode cX13_dither 26 = .ok (.if_icmp .ge 58, 3) := by decide +kernel
theorem dX13_dither_29 : decode cX13_dither 29 = .ok (.aload_n 0, 1) := by decide +kernel
theorem dX13_dither_30 : decode cX13_dither 30 = .ok (.getfield 33, 3) := by decide +kernel
theorem dX13_dither_33 : decode cX13_dither 33 = .ok (.iload_n 2, 1) := by decide +kernel
theorem dX13_dither_34 : decode cX13_dither 34 = .ok (.aaload, 1) := by decide +kernel
theorem dX13_dither_35 : decode cX13_dither 35 = .ok (.iload 4, 2) := by decide +kernel
theorem dX13_dither_37 : decode cX13_dither 37 = .ok (.iaload, 1) := by decide +kernel
theorem dX13_dither_38 : decode cX13_dither 38 = .ok (.i2f, 1) := by decide +kernel
theorem dX13_dither_39 : decode cX13_dither 39 = .ok (.ldc 121, 2) := by decide +kernel
theorem dX13_dither_41 : decode cX13_dither 41 = .ok (.fdiv, 1) := by decide +kernel
theorem dX13_dither_42 : decode cX13_dither 42 = .ok (.fload_n 3, 1) := by decide +kernel
theorem dX13_dither_43 : decode cX13_dither 43 = .ok (.fadd, 1) := by decide +kernel
theorem dX13_dither_44 : decode cX13_dither 44 = .ok (.fstore 5, 2) := by decide +kernel
theorem dX13_dither_46 : decode cX13_dither 46 = .ok (.aload_n 0, 1) := by decide +kernel
theorem dX13_dither_47 : decode cX13_dither 47 = .ok (.getfield 37, 3) := by decide +kernel
theorem dX13_dither_50 : decode cX13_dither 50 = .ok (.iload_n 2, 1) := by decide +kernel
theorem dX13_dither_51 : decode cX13_dither 51 = .ok (.aaload, 1) := by decide +kernel
theorem dX13_dither_52 : decode cX13_dither 52 = .ok (.iload 4, 2) := by decide +kernel
theorem dX13_dither_54 : decode cX13_dither 54 = .ok (.aload_n 0, 1) := by decide +kernel
theorem dX13_dither_55 : decode cX13_dither 55 = .ok (.fload 5, 2) := by decide +kernel
theorem dX13_dither_57 : decode cX13_dither 57 = .ok (.invokevirtual 122, 3) := by decide +kernel
theorem dX13_dither_60 : decode cX13_dither 60 = .ok (.iastore, 1) := by decide +kernel
theorem dX13_dither_61 : decode cX13_dither 61 = .ok (.fload 5, 2) := by decide +kernel
theorem dX13_dither_63 : decode cX13_dither 63 = .ok (.aload_n 0, 1) := by decide +kernel
theorem dX13_dither_64 : decode cX13_dither 64 = .ok (.aload_n 0, 1) := by decide +kernel
theorem dX13_dither_65 : decode cX13_dither 65 = .ok (.getfield 37, 3) := by decide +kernel
theorem dX13_dither_68 : decode cX13_dither 68 = .ok (.iload_n 2, 1) := by decide +kernel
theorem dX13_dither_69 : decode cX13_dither 69 = .ok (.aaload, 1) := by decide +kernel
theorem dX13_dither_70 : decode cX13_dither 70 = .ok (.iload 4, 2) := by decide +kernel
theorem dX13_dither_72 : decode cX13_dither 72 = .ok (.iaload, 1) := by decide +kernel
theorem dX13_dither_73 : decode cX13_dither 73 = .ok (.invokevirtual 126, 3) := by decide +kernel
theorem dX13_dither_76 : decode cX13_dither 76 = .ok (.fsub, 1) := by decide +kernel
theorem dX13_dither_77 : decode cX13_dither 77 = .ok (.fstore_n 3, 1) := by decide +kernel
theorem dX13_dither_78 : decode cX13_dither 78 = .ok (.iinc 4 1, 3) := by decide +kernel
theorem dX13_dither_81 : decode cX13_dither 81 = .ok (.goto (-61), 3) := by decide +kernel
theorem dX13_dither_84 : decode cX13_dither 84 = .ok (.iinc 2 1, 3) := by decide +kernel
theorem dX13_dither_87 : decode cX13_dither 87 = .ok (.goto (-80), 3) := by decide +kernel
theorem dX13_dither_90 : decode cX13_dither 90 = .ok (.aload_n 0, 1) := by decide +kernel
theorem dX13_dither_91 : decode cX13_dither 91 = .ok (.aload_n 1, 1) := by decide +kernel
theorem dX13_dither_92 : decode cX13_dither 92 = .ok (.invokevirtual 166, 3) := by decide +kernel
theorem dX13_dither_95 : decode cX13_dither 95 = .ok (.ireturn, 1) := by decide +kernel
theorem dX13_polish_0 : decode cX13_polish 0 = .ok (.aload_n 0, 1) := by decide +kernel
theorem dX13_polish_1 : decode cX13_polish 1 = .ok (.invokevirtual 162, 3) := by decide +kernel
theorem dX13_polish_4 : decode cX13_polish 4 = .ok (.astore_n 1, 1) := by decide +kernel
theorem dX13_polish_5 : decode cX13_polish 5 = .ok (.iconst 0, 1) := by decide +kernel
theorem dX13_polish_6 : decode cX13_polish 6 = .ok (.istore_n 2, 1) := by decide +kernel
theorem dX13_polish_7 : decode cX13_polish 7 = .ok (.iload_n 2, 1) := by decide +kernel
theorem dX13_polish_8 : decode cX13_polish 8 = .ok (.aload_n 0, 1) := by decide +kernel
theorem dX13_polish_9 : decode cX13_polish 9 = .ok (.getfield 13, 3) := by decide +kernel
theorem dX13_polish_12 : decode cX13_polish 12 = .ok (.if_icmp .ge 278, 3) := by decide +kernel
theorem dX13_polish_15 : decode cX13_polish 15 = .ok (.iconst 0, 1) := by decide +kernel
theorem dX13_polish_16 : decode cX13_polish 16 = .ok (.istore_n 3, 1) := by decide +kernel
theorem dX13_polish_17 : decode cX13_polish 17 = .ok (.iload_n 3, 1) := by decide +kernel
theorem dX13_polish_18 : decode cX13_polish 18 = .ok (.aload_n 0, 1) := by decide +kernel
theorem dX13_polish_19 : decode cX13_polish 19 = .ok (.getfield 7, 3) := by decide +kernel
theorem dX13_polish_22 : decode cX13_polish 22 = .ok (.if_icmp .ge 262, 3) := by decide +kernel
theorem dX13_polish_25 : decode cX13_polish 25 = .ok (.aload_n 0, 1) := by decide +kernel
theorem dX13_polish_26 : decode cX13_polish 26 = .ok (.getfield 37, 3) := by decide +kernel
theorem dX13_polish_29 : decode cX13_polish 29 = .ok (.iload_n 2, 1) := by decide +kernel
theorem dX13_polish_30 : decode cX13_polish 30 = .ok (.aaload, 1) := by decide +kernel
theorem dX13_polish_31 : decode cX13_polish 31 = .ok (.iload_n 3, 1) := by decide +kernel
theorem dX13_polish_32 : decode cX13_polish 32 = .ok (.iaload, 1) := by decide +kernel
theorem dX13_polish_33 : decode cX13_polish 33 = .ok (.istore 4, 2) := by decide +kernel
theorem dX13_polish_35 : decode cX13_polish 35 = .ok (.iconst (-1), 1) := by decide +kernel
theorem dX13_polish_36 : decode cX13_polish 36 = .ok (.istore 5, 2) := by decide +kernel
theorem dX13_polish_38 : decode cX13_polish 38 = .ok (.fconst 0, 1) := by decide +kernel
theorem dX13_polish_39 : decode cX13_polish 39 = .ok (.fstore 6, 2) := by decide +kernel
theorem dX13_polish_41 : decode cX13_polish 41 = .ok (.iload 4, 2) := by decide +kernel
theorem dX13_polish_43 : decode cX13_polish 43 = .ok (.iconst 1, 1) := by decide +kernel
theorem dX13_polish_44 : decode cX13_polish 44 = .ok (.isub, 1) := by decide +kernel
theorem dX13_polish_45 : decode cX13_polish 45 = .ok (.istore 7, 2) := by decide +kernel
theorem dX13_polish_47 : decode cX13_polish 47 = .ok (.iload 7, 2) := by decide +kernel
theorem dX13_polish_49 : decode cX13_polish 49 = .ok (.iload 4, 2) := by decide +kernel
theorem dX13_polish_51 : decode cX13_polish 51 = .ok (.iconst 1, 1) := by decide +kernel
theorem dX13_polish_52 : decode cX13_polish 52 = .ok (.iadd, 1) := by decide +kernel
theorem dX13_polish_53 : decode cX13_polish 53 = .ok (.if_icmp .gt 215, 3) := by decide +kernel
theorem dX13_polish_56 : decode cX13_polish 56 = .ok (.iload 7, 2) := by decide +kernel
theorem dX13_polish_58 : decode cX13_polish 58 = .ok (.aload_n 0, 1) := by decide +kernel
theorem dX13_polish_59 : decode cX13_polish 59 = .ok (.getfield 22, 3) := by decide +kernel
theorem dX13_polish_62 : decode cX13_polish 62 = .ok (.if_icmp .lt 200, 3) := by decide +kernel
theorem dX13_polish_65 : decode cX13_polish 65 = .ok (.iload 7, 2) := by decide +kernel
theorem dX13_polish_67 : decode cX13_polish 67 = .ok (.aload_n 0, 1) := by decide +kernel
theorem dX13_polish_68 : decode cX13_polish 68 = .ok (.getfield 16, 3) := by decide +kernel
theorem dX13_polish_71 : decode cX13_polish 71 = .ok (.if_icmp .le 6, 3) := by decide +kernel
theorem dX13_polish_74 : decode cX13_polish 74 = .ok (.goto 188, 3) := by decide +kernel
theorem dX13_polish_77 : decode cX13_polish 77 = .ok (.aload_n 0, 1) := by decide +kernel
theorem dX13_polish_78 : decode cX13_polish 78 = .ok (.getfield 37, 3) := by decide +kernel
theorem dX13_polish_81 : decode cX13_polish 81 = .ok (.iload_n 2, 1) := by decide +kernel
theorem dX13_polish_82 : decode cX13_polish 82 = .ok (.aaload, 1) := by decide +kernel
theorem dX13_polish_83 : decode cX13_polish 83 = .ok (.iload_n 3, 1) := by decide +kernel
theorem dX13_polish_84 : decode cX13_polish 84 = .ok (.iload 7, 2) := by decide +kernel
theorem dX13_polish_86 : decode cX13_polish 86 = .ok (.iastore, 1) := by decide +kernel
theorem dX13_polish_87 : decode cX13_polish 87 = .ok (.fconst 0, 1) := by decide +kernel
theorem dX13_polish_88 : decode cX13_polish 88 = .ok (.fstore 8, 2) := by decide +kernel
theorem dX13_polish_90 : decode cX13_polish 90 = .ok (.iconst 5, 1) := by decide +kernel
theorem dX13_polish_91 : decode cX13_polish 91 = .ok (.anewarray 31, 3) := by decide +kernel
theorem dX13_polish_94 : decode cX13_polish 94 = .ok (.dup, 1) := by decide +kernel
theorem dX13_polish_95 : decode cX13_polish 95 = .ok (.iconst 0, 1) := by decide +kernel
theorem dX13_polish_96 : decode cX13_polish 96 = .ok (.iconst 2, 1) := by decide +kernel
theorem dX13_polish_97 : decode cX13_polish 97 = .ok (.newarray .int, 2) := by decide +kernel
theorem dX13_polish_99 : decode cX13_polish 99 = .ok (.dup, 1) := by decide +kernel
theorem dX13_polish_100 : decode cX13_polish 100 = .ok (.iconst 0, 1) := by decide +kernel
theorem dX13_polish_101 : decode cX13_polish 101 = .ok (.iload_n 3, 1) := by decide +kernel
theorem dX13_polish_102 : decode cX13_polish 102 = .ok (.iastore, 1) := by decide +kernel
theorem dX13_polish_103 : decode cX13_polish 103 = .ok (.dup, 1) := by decide +kernel
theorem dX13_polish_104 : decode cX13_polish 104 = .ok (.iconst 1, 1) := by decide +kernel
theorem dX13_polish_105 : decode cX13_polish 105 = .ok (.iload_n 2, 1) := by decide +kernel
theorem dX13_polish_106 : decode cX13_polish 106 = .ok (.iastore, 1) := by decide +kernel
theorem dX13_polish_107 : decode cX13_polish 107 = .ok (.aastore, 1) := by decide +kernel
theorem dX13_polish_108 : decode cX13_polish 108 = .ok (.dup, 1) := by decide +kernel
theorem dX13_polish_109 : decode cX13_polish 109 = .ok (.iconst 1, 1) := by decide +kernel
theorem dX13_polish_110 : decode cX13_polish 110 = .ok (.iconst 2, 1) := by decide +kernel
theorem dX13_polish_111 : decode cX13_polish 111 = .ok (.newarray .int, 2) := by decide +kernel
theorem dX13_polish_113 : decode cX13_polish 113 = .ok (.dup, 1) := by decide +kernel
theorem dX13_polish_114 : decode cX13_polish 114 = .ok (.iconst 0, 1) := by decide +kernel
theorem dX13_polish_115 : decode cX13_polish 115 = .ok (.iload_n 3, 1) := by decide +kernel
theorem dX13_polish_116 : decode cX13_polish 116 = .ok (.iconst 1, 1) := by decide +kernel
theorem dX13_polish_117 : decode cX13_polish 117 = .ok (.isub, 1) := by decide +kernel
theorem dX13_polish_118 : decode cX13_polish 118 = .ok (.iastore, 1) := by decide +kernel
theorem dX13_polish_119 : decode cX13_polish 119 = .ok (.dup, 1) := by decide +kernel
theorem dX13_polish_120 : decode cX13_polish 120 = .ok (.iconst 1, 1) := by decide +kernel
theorem dX13_polish_121 : decode cX13_polish 121 = .ok (.iload_n 2, 1) := by decide +kernel
theorem dX13_polish_122 : decode cX13_polish 122 = .ok (.iastore, 1) := by decide +kernel
theorem dX13_polish_123 : decode cX13_polish 123 = .ok (.aastore, 1) := by decide +kernel
theorem dX13_polish_124 : decode cX13_polish 124 = .ok (.dup, 1) := by decide +kernel
theorem dX13_polish_125 : decode cX13_polish 125 = .ok (.iconst 2, 1) := by decide +kernel
theorem dX13_polish_126 : decode cX13_polish 126 = .ok (.iconst 2, 1) := by decide +kernel
theorem dX13_polish_127 : decode cX13_polish 127 = .ok (.newarray .int, 2) := by decide +kernel
theorem dX13_polish_129 : decode cX13_polish 129 = .ok (.dup, 1) := by decide +kernel
theorem dX13_polish_130 : decode cX13_polish 130 = .ok (.iconst 0, 1) := by decide +kernel
theorem dX13_polish_131 : decode cX13_polish 131 = .ok (.iload_n 3, 1) := by decide +kernel
theorem dX13_polish_132 : decode cX13_polish 132 = .ok (.iconst 1, 1) := by decide +kernel
theorem dX13_polish_133 : decode cX13_polish 133 = .ok (.iadd, 1) := by decide +kernel
theorem dX13_polish_134 : decode cX13_polish 134 = .ok (.iastore, 1) := by decide +kernel
theorem dX13_polish_135 : decode cX13_polish 135 = .ok (.dup, 1) := by decide +kernel
theorem dX13_polish_136 : decode cX13_polish 136 = .ok (.iconst 1, 1) := by decide +kernel
theorem dX13_polish_137 : decode cX13_polish 137 = .ok (.iload_n 2, 1) := by decide +kernel
theorem dX13_polish_138 : decode cX13_polish 138 = .ok (.iastore, 1) := by decide +kernel
theorem dX13_polish_139 : decode cX13_polish 139 = .ok (.aastore, 1) := by decide +kernel
theorem dX13_polish_140 : decode cX13_polish 140 = .ok (.dup, 1) := by decide +kernel
theorem dX13_polish_141 : decode cX13_polish 141 = .ok (.iconst 3, 1) := by decide +kernel
theorem dX13_polish_142 : decode cX13_polish 142 = .ok (.iconst 2, 1) := by decide +kernel
theorem dX13_polish_143 : decode cX13_polish 143 = .ok (.newarray .int, 2) := by decide +kernel
theorem dX13_polish_145 : decode cX13_polish 145 = .ok (.dup, 1) := by decide +kernel
theorem dX13_polish_146 : decode cX13_polish 146 = .ok (.iconst 0, 1) := by decide +kernel
theorem dX13_polish_147 : decode cX13_polish 147 = .ok (.iload_n 3, 1) := by decide +kernel
theorem dX13_polish_148 : decode cX13_polish 148 = .ok (.iastore, 1) := by decide +kernel
theorem dX13_polish_149 : decode cX13_polish 149 = .ok (.dup, 1) := by decide +kernel
theorem dX13_polish_150 : decode cX13_polish 150 = .ok (.iconst 1, 1) := by decide +kernel
theorem dX13_polish_151 : decode cX13_polish 151 = .ok (.iload_n 2, 1) := by decide +kernel
theorem dX13_polish_152 : decode cX13_polish 152 = .ok (.iconst 1, 1) := by decide +kernel
theorem dX13_polish_153 : decode cX13_polish 153 = .ok (.isub, 1) := by decide +kernel
theorem dX13_polish_154 : decode cX13_polish 154 = .ok (.iastore, 1) := by decide +kernel
theorem dX13_polish_155 : decode cX13_polish 155 = .ok (.aastore, 1) := by decide +kernel
theorem dX13_polish_156 : decode cX13_polish 156 = .ok (.dup, 1) := by decide +kernel
theorem dX13_polish_157 : decode cX13_polish 157 = .ok (.iconst 4, 1) := by decide +kernel
theorem dX13_polish_158 : decode cX13_polish 158 = .ok (.iconst 2, 1) := by decide +kernel
theorem dX13_polish_159 : decode cX13_polish 159 = .ok (.newarray .int, 2) := by decide +kernel
theorem dX13_polish_161 : decode cX13_polish 161 = .ok (.dup, 1) := by decide +kernel
theorem dX13_polish_162 : decode cX13_polish 162 = .ok (.iconst 0, 1) := by decide +kernel
theorem dX13_polish_163 : decode cX13_polish 163 = .ok (.iload_n 3, 1) := by decide +kernel
theorem dX13_polish_164 : decode cX13_polish 164 = .ok (.iastore, 1) := by decide +kernel
theorem dX13_polish_165 : decode cX13_polish 165 = .ok (.dup, 1) := by decide +kernel
theorem dX13_polish_166 : decode cX13_polish 166 = .ok (.iconst 1, 1) := by decide +kernel
theorem dX13_polish_167 : decode cX13_polish 167 = .ok (.iload_n 2, 1) := by decide +kernel
theorem dX13_polish_168 : decode cX13_polish 168 = .ok (.iconst 1, 1) := by decide +kernel
theorem dX13_polish_169 : decode cX13_polish 169 = .ok (.iadd, 1) := by decide +kernel
theorem dX13_polish_170 : decode cX13_polish 170 = .ok (.iastore, 1) := by decide +kernel
theorem dX13_polish_171 : decode cX13_polish 171 = .ok (.aastore, 1) := by decide +kernel
theorem dX13_polish_172 : decode cX13_polish 172 = .ok (.astore 9, 2) := by decide +kernel
theorem dX13_polish_174 : decode cX13_polish 174 = .ok (.aload 9, 2) := by decide +kernel
theorem dX13_polish_176 : decode cX13_polish 176 = .ok (.astore 10, 2) := by decide +kernel
theorem dX13_polish_178 : decode cX13_polish 178 = .ok (.aload 10, 2) := by decide +kernel
theorem dX13_polish_180 : decode cX13_polish 180 = .ok (.arraylength, 1) := by decide +kernel
theorem dX13_polish_181 : decode cX13_polish 181 = .ok (.istore 11, 2) := by decide +kernel
theorem dX13_polish_183 : decode cX13_polish 183 = .ok (.iconst 0, 1) := by decide +kernel
theorem dX13_polish_184 : decode cX13_polish 184 = .ok (.istore 12, 2) := by decide +kernel
theorem dX13_polish_186 : decode cX13_polish 186 = .ok (.iload 12, 2) := by decide +kernel
theorem dX13_polish_188 : decode cX13_polish 188 = .ok (.iload 11, 2) := by decide +kernel
theorem dX13_polish_190 : decode cX13_polish 190 = .ok (.if_icmp .ge 51, 3) := by decide +kernel
theorem dX13_polish_193 : decode cX13_polish 193 = .ok (.aload 10, 2) := by decide +kernel
theorem dX13_polish_195 : decode cX13_polish 195 = .ok (.iload 12, 2) := by decide +kernel
theorem dX13_polish_197 : decode cX13_polish 197 = .ok (.aaload, 1) := by decide +kernel
theorem dX13_polish_198 : decode cX13_polish 198 = .ok (.astore 13, 2) := by decide +kernel
theorem dX13_polish_200 : decode cX13_polish 200 = .ok (.aload_n 0, 1) := by decide +kernel
theorem dX13_polish_201 : decode cX13_polish 201 = .ok (.aload 13, 2) := by decide +kernel
theorem dX13_polish_203 : decode cX13_polish 203 = .ok (.iconst 0, 1) := by decide +kernel
theorem dX13_polish_204 : decode cX13_polish 204 = .ok (.iaload, 1) := by decide +kernel
theorem dX13_polish_205 : decode cX13_polish 205 = .ok (.aload 13, 2) := by decide +kernel
theorem dX13_polish_207 : decode cX13_polish 207 = .ok (.iconst 1, 1) := by decide +kernel
theorem dX13_polish_208 : decode cX13_polish 208 = .ok (.iaload, 1) := by decide +kernel
theorem dX13_polish_209 : decode cX13_polish 209 = .ok (.invokevirtual 135, 3) := by decide +kernel
theorem dX13_polish_212 : decode cX13_polish 212 = .ok (.ifCond .eq 23, 3) := by decide +kernel
theorem dX13_polish_215 : decode cX13_polish 215 = .ok (.fload 8, 2) := by decide +kernel
theorem dX13_polish_217 : decode cX13_polish 217 = .ok (.aload_n 0, 1) := by decide +kernel
theorem dX13_polish_218 : decode cX13_polish 218 = .ok (.aload 13, 2) := by decide +kernel
theorem dX13_polish_220 : decode cX13_polish 220 = .ok (.iconst 0, 1) := by decide +kernel
theorem dX13_polish_221 : decode cX13_polish 221 = .ok (.iaload, 1) := by decide +kernel
theorem dX13_polish_222 : decode cX13_polish 222 = .ok (.aload 13, 2) := by decide +kernel
theorem dX13_polish_224 : decode cX13_polish 224 = .ok (.iconst 1, 1) := by decide +kernel
theorem dX13_polish_225 : decode cX13_polish 225 = .ok (.iaload, 1) := by decide +kernel
theorem dX13_polish_226 : decode cX13_polish 226 = .ok (.invokevirtual 170, 3) := by decide +kernel
theorem dX13_polish_229 : decode cX13_polish 229 = .ok (.invokestatic 131, 3) := by decide +kernel
theorem dX13_polish_232 : decode cX13_polish 232 = .ok (.fadd, 1) := by decide +kernel
theorem dX13_polish_233 : decode cX13_polish 233 = .ok (.fstore 8, 2) := by decide +kernel
theorem dX13_polish_235 : decode cX13_polish 235 = .ok (.iinc 12 1, 3) := by decide +kernel
theorem dX13_polish_238 : decode cX13_polish 238 = .ok (.goto (-52), 3) := by decide +kernel
theorem dX13_polish_241 : decode cX13_polish 241 = .ok (.iload 5, 2) := by decide +kernel
theorem dX13_polish_243 : decode cX13_polish 243 = .ok (.ifCond .lt 11, 3) := by decide +kernel
theorem dX13_polish_246 : decode cX13_polish 246 = .ok (.fload 8, 2) := by decide +kernel
theorem dX13_polish_248 : decode cX13_polish 248 = .ok (.fload 6, 2) := by decide +kernel
theorem dX13_polish_250 : decode cX13_polish 250 = .ok (.fcmp .g, 1) := by decide +kernel
theorem dX13_polish_251 : decode cX13_polish 251 = .ok (.ifCond .ge 11, 3) := by decide +kernel
theorem dX13_polish_254 : decode cX13_polish 254 = .ok (.iload 7, 2) := by decide +kernel
theorem dX13_polish_256 : decode cX13_polish 256 = .ok (.istore 5, 2) := by decide +kernel
theorem dX13_polish_258 : decode cX13_polish 258 = .ok (.fload 8, 2) := by decide +kernel
theorem dX13_polish_260 : decode cX13_polish 260 = .ok (.fstore 6, 2) := by decide +kernel
theorem dX13_polish_262 : decode cX13_polish 262 = .ok (.iinc 7 1, 3) := by decide +kernel
theorem dX13_polish_265 : decode cX13_polish 265 = .ok (.goto (-218), 3) := by decide +kernel
theorem dX13_polish_268 : decode cX13_polish 268 = .ok (.aload_n 0, 1) := by decide +kernel
theorem dX13_polish_269 : decode cX13_polish 269 = .ok (.getfield 37, 3) := by decide +kernel
theorem dX13_polish_272 : decode cX13_polish 272 = .ok (.iload_n 2, 1) := by decide +kernel
theorem dX13_polish_273 : decode cX13_polish 273 = .ok (.aaload, 1) := by decide +kernel
theorem dX13_polish_274 : decode cX13_polish 274 = .ok (.iload_n 3, 1) := by decide +kernel
theorem dX13_polish_275 : decode cX13_polish 275 = .ok (.iload 5, 2) := by decide +kernel
theorem dX13_polish_277 : decode cX13_polish 277 = .ok (.iastore, 1) := by decide +kernel
theorem dX13_polish_278 : decode cX13_polish 278 = .ok (.iinc 3 1, 3) := by decide +kernel
theorem dX13_polish_281 : decode cX13_polish 281 = .ok (.goto (-264), 3) := by decide +kernel
theorem dX13_polish_284 : decode cX13_polish 284 = .ok (.iinc 2 1, 3) := by decide +kernel
theorem dX13_polish_287 : decode cX13_polish 287 = .ok (.goto (-280), 3) := by decide +kernel
theorem dX13_polish_290 : decode cX13_polish 290 = .ok (.aload_n 0, 1) := by decide +kernel
theorem dX13_polish_291 : decode cX13_polish 291 = .ok (.aload_n 1, 1) := by decide +kernel
theorem dX13_polish_292 : decode cX13_polish 292 = .ok (.invokevirtual 166, 3) := by decide +kernel
theorem dX13_polish_295 : decode cX13_polish 295 = .ok (.ireturn, 1) := by decide +kernel
theorem dX13_retone_0 : decode cX13_retone 0 = .ok (.aload_n 0, 1) := by decide +kernel
theorem dX13_retone_1 : decode cX13_retone 1 = .ok (.invokevirtual 162, 3) := by decide +kernel
theorem dX13_retone_4 : decode cX13_retone 4 = .ok (.astore_n 3, 1) := by decide +kernel
theorem dX13_retone_5 : decode cX13_retone 5 = .ok (.iconst 0, 1) := by decide +kernel
theorem dX13_retone_6 : decode cX13_retone 6 = .ok (.istore 4, 2) := by decide +kernel
theorem dX13_retone_8 : decode cX13_retone 8 = .ok (.iload 4, 2) := by decide +kernel
theorem dX13_retone_10 : decode cX13_retone 10 = .ok (.aload_n 0, 1) := by decide +kernel
theorem dX13_retone_11 : decode cX13_retone 11 = .ok (.getfield 13, 3) := by decide +kernel
theorem dX13_retone_14 : decode cX13_retone 14 = .ok (.if_icmp .ge 61, 3) := by decide +kernel
theorem dX13_retone_17 : decode cX13_retone 17 = .ok (.iconst 0, 1) := by decide +kernel
theorem dX13_retone_18 : decode cX13_retone 18 = .ok (.istore 5, 2) := by decide +kernel
theorem dX13_retone_20 : decode cX13_retone 20 = .ok (.iload 5, 2) := by decide +kernel
theorem dX13_retone_22 : decode cX13_retone 22 = .ok (.aload_n 0, 1) := by decide +kernel
theorem dX13_retone_23 : decode cX13_retone 23 = .ok (.getfield 7, 3) := by decide +kernel
theorem dX13_retone_26 : decode cX13_retone 26 = .ok (.if_icmp .ge 43, 3) := by decide +kernel
theorem dX13_retone_29 : decode cX13_retone 29 = .ok (.aload_n 0, 1) := by decide +kernel
theorem dX13_retone_30 : decode cX13_retone 30 = .ok (.getfield 33, 3) := by decide +kernel
theorem dX13_retone_33 : decode cX13_retone 33 = .ok (.iload 4, 2) := by decide +kernel
theorem dX13_retone_35 : decode cX13_retone 35 = .ok (.aaload, 1) := by decide +kernel
theorem dX13_retone_36 : decode cX13_retone 36 = .ok (.iload 5, 2) := by decide +kernel
theorem dX13_retone_38 : decode cX13_retone 38 = .ok (.iconst 0, 1) := by decide +kernel
theorem dX13_retone_39 : decode cX13_retone 39 = .ok (.sipush 255, 3) := by decide +kernel
theorem dX13_retone_42 : decode cX13_retone 42 = .ok (.iload_n 1, 1) := by decide +kernel
theorem dX13_retone_43 : decode cX13_retone 43 = .ok (.aload_n 0, 1) := by decide +kernel
theorem dX13_retone_44 : decode cX13_retone 44 = .ok (.getfield 33, 3) := by decide +kernel
theorem dX13_retone_47 : decode cX13_retone 47 = .ok (.iload 4, 2) := by decide +kernel
theorem dX13_retone_49 : decode cX13_retone 49 = .ok (.aaload, 1) := by decide +kernel
theorem dX13_retone_50 : decode cX13_retone 50 = .ok (.iload 5, 2) := by decide +kernel
theorem dX13_retone_52 : decode cX13_retone 52 = .ok (.iaload, 1) := by decide +kernel
theorem dX13_retone_53 : decode cX13_retone 53 = .ok (.imul, 1) := by decide +kernel
theorem dX13_retone_54 : decode cX13_retone 54 = .ok (.iload_n 2, 1) := by decide +kernel
theorem dX13_retone_55 : decode cX13_retone 55 = .ok (.iadd, 1) := by decide +kernel
theorem dX13_retone_56 : decode cX13_retone 56 = .ok (.invokestatic 96, 3) := by decide +kernel
theorem dX13_retone_59 : decode cX13_retone 59 = .ok (.invokestatic 156, 3) := by decide +kernel
theorem dX13_retone_62 : decode cX13_retone 62 = .ok (.iastore, 1) := by decide +kernel
theorem dX13_retone_63 : decode cX13_retone 63 = .ok (.iinc 5 1, 3) := by decide +kernel
theorem dX13_retone_66 : decode cX13_retone 66 = .ok (.goto (-46), 3) := by decide +kernel
theorem dX13_retone_69 : decode cX13_retone 69 = .ok (.iinc 4 1, 3) := by decide +kernel
theorem dX13_retone_72 : decode cX13_retone 72 = .ok (.goto (-64), 3) := by decide +kernel
theorem dX13_retone_75 : decode cX13_retone 75 = .ok (.aload_n 0, 1) := by decide +kernel
theorem dX13_retone_76 : decode cX13_retone 76 = .ok (.invokevirtual 114, 3) := by decide +kernel
theorem dX13_retone_79 : decode cX13_retone 79 = .ok (.aload_n 0, 1) := by decide +kernel
theorem dX13_retone_80 : decode cX13_retone 80 = .ok (.aload_n 3, 1) := by decide +kernel
theorem dX13_retone_81 : decode cX13_retone 81 = .ok (.invokevirtual 166, 3) := by decide +kernel
theorem dX13_retone_84 : decode cX13_retone 84 = .ok (.ireturn, 1) := by decide +kernel
theorem dX13_mirror_0 : decode cX13_mirror 0 = .ok (.aload_n 0, 1) := by decide +kernel
theorem dX13_mirror_1 : decode cX13_mirror 1 = .ok (.invokevirtual 162, 3) := by decide +kernel
theorem dX13_mirror_4 : decode cX13_mirror 4 = .ok (.astore_n 1, 1) := by decide +kernel
theorem dX13_mirror_5 : decode cX13_mirror 5 = .ok (.iconst 0, 1) := by decide +kernel
theorem dX13_mirror_6 : decode cX13_mirror 6 = .ok (.istore_n 2, 1) := by decide +kernel
theorem dX13_mirror_7 : decode cX13_mirror 7 = .ok (.iload_n 2, 1) := by decide +kernel
theorem dX13_mirror_8 : decode cX13_mirror 8 = .ok (.aload_n 0, 1) := by decide +kernel
theorem dX13_mirror_9 : decode cX13_mirror 9 = .ok (.getfield 13, 3) := by decide +kernel
theorem dX13_mirror_12 : decode cX13_mirror 12 = .ok (.if_icmp .ge 71, 3) := by decide +kernel
theorem dX13_mirror_15 : decode cX13_mirror 15 = .ok (.iconst 0, 1) := by decide +kernel
theorem dX13_mirror_16 : decode cX13_mirror 16 = .ok (.istore_n 3, 1) := by decide +kernel
theorem dX13_mirror_17 : decode cX13_mirror 17 = .ok (.iload_n 3, 1) := by decide +kernel
theorem dX13_mirror_18 : decode cX13_mirror 18 = .ok (.aload_n 0, 1) := by decide +kernel
theorem dX13_mirror_19 : decode cX13_mirror 19 = .ok (.getfield 7, 3) := by decide +kernel
theorem dX13_mirror_22 : decode cX13_mirror 22 = .ok (.if_icmp .ge 55, 3) := by decide +kernel
theorem dX13_mirror_25 : decode cX13_mirror 25 = .ok (.aload_n 0, 1) := by decide +kernel
theorem dX13_mirror_26 : decode cX13_mirror 26 = .ok (.getfield 37, 3) := by decide +kernel
theorem dX13_mirror_29 : decode cX13_mirror 29 = .ok (.iload_n 2, 1) := by decide +kernel
theorem dX13_mirror_30 : decode cX13_mirror 30 = .ok (.aaload, 1) := by decide +kernel
theorem dX13_mirror_31 : decode cX13_mirror 31 = .ok (.iload_n 3, 1) := by decide +kernel
theorem dX13_mirror_32 : decode cX13_mirror 32 = .ok (.aload_n 1, 1) := by decide +kernel
theorem dX13_mirror_33 : decode cX13_mirror 33 = .ok (.getfield 37, 3) := by decide +kernel
theorem dX13_mirror_36 : decode cX13_mirror 36 = .ok (.iload_n 2, 1) := by decide +kernel
theorem dX13_mirror_37 : decode cX13_mirror 37 = .ok (.aaload, 1) := by decide +kernel
theorem dX13_mirror_38 : decode cX13_mirror 38 = .ok (.aload_n 0, 1) := by decide +kernel
theorem dX13_mirror_39 : decode cX13_mirror 39 = .ok (.getfield 7, 3) := by decide +kernel
theorem dX13_mirror_42 : decode cX13_mirror 42 = .ok (.iconst 1, 1) := by decide +kernel
theorem dX13_mirror_43 : decode cX13_mirror 43 = .ok (.isub, 1) := by decide +kernel
theorem dX13_mirror_44 : decode cX13_mirror 44 = .ok (.iload_n 3, 1) := by decide +kernel
theorem dX13_mirror_45 : decode cX13_mirror 45 = .ok (.isub, 1) := by decide +kernel
theorem dX13_mirror_46 : decode cX13_mirror 46 = .ok (.iaload, 1) := by decide +kernel
theorem dX13_mirror_47 : decode cX13_mirror 47 = .ok (.iastore, 1) := by decide +kernel
theorem dX13_mirror_48 : decode cX13_mirror 48 = .ok (.aload_n 0, 1) := by decide +kernel
theorem dX13_mirror_49 : decode cX13_mirror 49 = .ok (.getfield 33, 3) := by decide +kernel
theorem dX13_mirror_52 : decode cX13_mirror 52 = .ok (.iload_n 2, 1) := by decide +kernel
theorem dX13_mirror_53 : decode cX13_mirror 53 = .ok (.aaload, 1) := by decide +kernel
theorem dX13_mirror_54 : decode cX13_mirror 54 = .ok (.iload_n 3, 1) := by decide +kernel
theorem dX13_mirror_55 : decode cX13_mirror 55 = .ok (.aload_n 1, 1) := by decide +kernel
theorem dX13_mirror_56 : decode cX13_mirror 56 = .ok (.getfield 33, 3) := by decide +kernel
theorem dX13_mirror_59 : decode cX13_mirror 59 = .ok (.iload_n 2, 1) := by decide +kernel
theorem dX13_mirror_60 : decode cX13_mirror 60 = .ok (.aaload, 1) := by decide +kernel
theorem dX13_mirror_61 : decode cX13_mirror 61 = .ok (.aload_n 0, 1) := by decide +kernel
theorem dX13_mirror_62 : decode cX13_mirror 62 = .ok (.getfield 7, 3) := by decide +kernel
theorem dX13_mirror_65 : decode cX13_mirror 65 = .ok (.iconst 1, 1) := by decide +kernel
theorem dX13_mirror_66 : decode cX13_mirror 66 = .ok (.isub, 1) := by decide +kernel
theorem dX13_mirror_67 : decode cX13_mirror 67 = .ok (.iload_n 3, 1) := by decide +kernel
theorem dX13_mirror_68 : decode cX13_mirror 68 = .ok (.isub, 1) := by decide +kernel
theorem dX13_mirror_69 : decode cX13_mirror 69 = .ok (.iaload, 1) := by decide +kernel
theorem dX13_mirror_70 : decode cX13_mirror 70 = .ok (.iastore, 1) := by decide +kernel
theorem dX13_mirror_71 : decode cX13_mirror 71 = .ok (.iinc 3 1, 3) := by decide +kernel
theorem dX13_mirror_74 : decode cX13_mirror 74 = .ok (.goto (-57), 3) := by decide +kernel
theorem dX13_mirror_77 : decode cX13_mirror 77 = .ok (.iinc 2 1, 3) := by decide +kernel
theorem dX13_mirror_80 : decode cX13_mirror 80 = .ok (.goto (-73), 3) := by decide +kernel
theorem dX13_mirror_83 : decode cX13_mirror 83 = .ok (.aload_n 0, 1) := by decide +kernel
theorem dX13_mirror_84 : decode cX13_mirror 84 = .ok (.aload_n 1, 1) := by decide +kernel
theorem dX13_mirror_85 : decode cX13_mirror 85 = .ok (.invokevirtual 166, 3) := by decide +kernel
theorem dX13_mirror_88 : decode cX13_mirror 88 = .ok (.ireturn, 1) := by decide +kernel
theorem dX13_ease_0 : decode cX13_ease 0 = .ok (.aload_n 0, 1) := by decide +kernel
theorem dX13_ease_1 : decode cX13_ease 1 = .ok (.invokevirtual 162, 3) := by decide +kernel
theorem dX13_ease_4 : decode cX13_ease 4 = .ok (.astore_n 1, 1) := by decide +kernel
theorem dX13_ease_5 : decode cX13_ease 5 = .ok (.iconst 1, 1) := by decide +kernel
theorem dX13_ease_6 : decode cX13_ease 6 = .ok (.istore_n 2, 1) := by decide +kernel
theorem dX13_ease_7 : decode cX13_ease 7 = .ok (.iload_n 2, 1) := by decide +kernel
theorem dX13_ease_8 : decode cX13_ease 8 = .ok (.aload_n 0, 1) := by decide +kernel
theorem dX13_ease_9 : decode cX13_ease 9 = .ok (.getfield 13, 3) := by decide +kernel
theorem dX13_ease_12 : decode cX13_ease 12 = .ok (.if_icmp .ge 57, 3) := by decide +kernel
theorem dX13_ease_15 : decode cX13_ease 15 = .ok (.iconst 0, 1) := by decide +kernel
theorem dX13_ease_16 : decode cX13_ease 16 = .ok (.istore_n 3, 1) := by decide +kernel
theorem dX13_ease_17 : decode cX13_ease 17 = .ok (.iload_n 3, 1) := by decide +kernel
theorem dX13_ease_18 : decode cX13_ease 18 = .ok (.aload_n 0, 1) := by decide +kernel
theorem dX13_ease_19 : decode cX13_ease 19 = .ok (.getfield 7, 3) := by decide +kernel
theorem dX13_ease_22 : decode cX13_ease 22 = .ok (.if_icmp .ge 41, 3) := by decide +kernel
theorem dX13_ease_25 : decode cX13_ease 25 = .ok (.aload_n 0, 1) := by decide +kernel
theorem dX13_ease_26 : decode cX13_ease 26 = .ok (.iload_n 3, 1) := by decide +kernel
theorem dX13_ease_27 : decode cX13_ease 27 = .ok (.iload_n 2, 1) := by decide +kernel
theorem dX13_ease_28 : decode cX13_ease 28 = .ok (.invokevirtual 159, 3) := by decide +kernel
theorem dX13_ease_31 : decode cX13_ease 31 = .ok (.ifCond .le 26, 3) := by decide +kernel
theorem dX13_ease_34 : decode cX13_ease 34 = .ok (.aload_n 0, 1) := by decide +kernel
theorem dX13_ease_35 : decode cX13_ease 35 = .ok (.getfield 37, 3) := by decide +kernel
theorem dX13_ease_38 : decode cX13_ease 38 = .ok (.iload_n 2, 1) := by decide +kernel
theorem dX13_ease_39 : decode cX13_ease 39 = .ok (.aaload, 1) := by decide +kernel
theorem dX13_ease_40 : decode cX13_ease 40 = .ok (.iload_n 3, 1) := by decide +kernel
theorem dX13_ease_41 : decode cX13_ease 41 = .ok (.aload_n 0, 1) := by decide +kernel
theorem dX13_ease_42 : decode cX13_ease 42 = .ok (.getfield 37, 3) := by decide +kernel
theorem dX13_ease_45 : decode cX13_ease 45 = .ok (.iload_n 2, 1) := by decide +kernel
theorem dX13_ease_46 : decode cX13_ease 46 = .ok (.iconst 1, 1) := by decide +kernel
theorem dX13_ease_47 : decode cX13_ease 47 = .ok (.isub, 1) := by decide +kernel
theorem dX13_ease_48 : decode cX13_ease 48 = .ok (.aaload, 1) := by decide +kernel
theorem dX13_ease_49 : decode cX13_ease 49 = .ok (.iload_n 3, 1) := by decide +kernel
theorem dX13_ease_50 : decode cX13_ease 50 = .ok (.iaload, 1) := by decide +kernel
theorem dX13_ease_51 : decode cX13_ease 51 = .ok (.aload_n 0, 1) := by decide +kernel
theorem dX13_ease_52 : decode cX13_ease 52 = .ok (.getfield 28, 3) := by decide +kernel
theorem dX13_ease_55 : decode cX13_ease 55 = .ok (.iadd, 1) := by decide +kernel
theorem dX13_ease_56 : decode cX13_ease 56 = .ok (.iastore, 1) := by decide +kernel
theorem dX13_ease_57 : decode cX13_ease 57 = .ok (.iinc 3 1, 3) := by decide +kernel
theorem dX13_ease_60 : decode cX13_ease 60 = .ok (.goto (-43), 3) := by decide +kernel
theorem dX13_ease_63 : decode cX13_ease 63 = .ok (.iinc 2 1, 3) := by decide +kernel
theorem dX13_ease_66 : decode cX13_ease 66 = .ok (.goto (-59), 3) := by decide +kernel
theorem dX13_ease_69 : decode cX13_ease 69 = .ok (.aload_n 0, 1) := by decide +kernel
theorem dX13_ease_70 : decode cX13_ease 70 = .ok (.aload_n 1, 1) := by decide +kernel
theorem dX13_ease_71 : decode cX13_ease 71 = .ok (.invokevirtual 166, 3) := by decide +kernel
theorem dX13_ease_74 : decode cX13_ease 74 = .ok (.ireturn, 1) := by decide +kernel
theorem dX13_smooth_0 : decode cX13_smooth 0 = .ok (.aload_n 0, 1) := by decide +kernel
theorem dX13_smooth_1 : decode cX13_smooth 1 = .ok (.invokevirtual 162, 3) := by decide +kernel
theorem dX13_smooth_4 : decode cX13_smooth 4 = .ok (.astore_n 2, 1) := by decide +kernel
theorem dX13_smooth_5 : decode cX13_smooth 5 = .ok (.iconst 0, 1) := by decide +kernel
theorem dX13_smooth_6 : decode cX13_smooth 6 = .ok (.istore_n 3, 1) := by decide +kernel
theorem dX13_smooth_7 : decode cX13_smooth 7 = .ok (.iload_n 3, 1) := by decide +kernel
theorem dX13_smooth_8 : decode cX13_smooth 8 = .ok (.aload_n 0, 1) := by decide +kernel
theorem dX13_smooth_9 : decode cX13_smooth 9 = .ok (.getfield 13, 3) := by decide +kernel
theorem dX13_smooth_12 : decode cX13_smooth 12 = .ok (.if_icmp .ge 113, 3) := by decide +kernel
theorem dX13_smooth_15 : decode cX13_smooth 15 = .ok (.iconst 0, 1) := by decide +kernel
theorem dX13_smooth_16 : decode cX13_smooth 16 = .ok (.istore 4, 2) := by decide +kernel
theorem dX13_smooth_18 : decode cX13_smooth 18 = .ok (.iload 4, 2) := by decide +kernel
theorem dX13_smooth_20 : decode cX13_smooth 20 = .ok (.aload_n 0, 1) := by decide +kernel
theorem dX13_smooth_21 : decode cX13_smooth 21 = .ok (.getfield 7, 3) := by decide +kernel
theorem dX13_smooth_24 : decode cX13_smooth 24 = .ok (.if_icmp .ge 95, 3) := by decide +kernel
theorem dX13_smooth_27 : decode cX13_smooth 27 = .ok (.iconst 0, 1) := by decide +kernel
theorem dX13_smooth_28 : decode cX13_smooth 28 = .ok (.istore 5, 2) := by decide +kernel
theorem dX13_smooth_30 : decode cX13_smooth 30 = .ok (.iload 5, 2) := by decide +kernel
theorem dX13_smooth_32 : decode cX13_smooth 32 = .ok (.aload_n 0, 1) := by decide +kernel
theorem dX13_smooth_33 : decode cX13_smooth 33 = .ok (.getfield 13, 3) := by decide +kernel
theorem dX13_smooth_36 : decode cX13_smooth 36 = .ok (.if_icmp .ge 77, 3) := by decide +kernel
theorem dX13_smooth_39 : decode cX13_smooth 39 = .ok (.iconst 0, 1) := by decide +kernel
theorem dX13_smooth_40 : decode cX13_smooth 40 = .ok (.istore 6, 2) := by decide +kernel
theorem dX13_smooth_42 : decode cX13_smooth 42 = .ok (.iload 6, 2) := by decide +kernel
theorem dX13_smooth_44 : decode cX13_smooth 44 = .ok (.aload_n 0, 1) := by decide +kernel
theorem dX13_smooth_45 : decode cX13_smooth 45 = .ok (.getfield 7, 3) := by decide +kernel
theorem dX13_smooth_48 : decode cX13_smooth 48 = .ok (.if_icmp .ge 59, 3) := by decide +kernel
theorem dX13_smooth_51 : decode cX13_smooth 51 = .ok (.aload_n 0, 1) := by decide +kernel
theorem dX13_smooth_52 : decode cX13_smooth 52 = .ok (.getfield 37, 3) := by decide +kernel
theorem dX13_smooth_55 : decode cX13_smooth 55 = .ok (.iload_n 3, 1) := by decide +kernel
theorem dX13_smooth_56 : decode cX13_smooth 56 = .ok (.aaload, 1) := by decide +kernel
theorem dX13_smooth_57 : decode cX13_smooth 57 = .ok (.iload 4, 2) := by decide +kernel
theorem dX13_smooth_59 : decode cX13_smooth 59 = .ok (.aload_n 0, 1) := by decide +kernel
theorem dX13_smooth_60 : decode cX13_smooth 60 = .ok (.getfield 37, 3) := by decide +kernel
theorem dX13_smooth_63 : decode cX13_smooth 63 = .ok (.iload_n 3, 1) := by decide +kernel
theorem dX13_smooth_64 : decode cX13_smooth 64 = .ok (.aaload, 1) := by decide +kernel
theorem dX13_smooth_65 : decode cX13_smooth 65 = .ok (.iload 4, 2) := by decide +kernel
theorem dX13_smooth_67 : decode cX13_smooth 67 = .ok (.iaload, 1) := by decide +kernel
theorem dX13_smooth_68 : decode cX13_smooth 68 = .ok (.aload_n 2, 1) := by decide +kernel
theorem dX13_smooth_69 : decode cX13_smooth 69 = .ok (.getfield 37, 3) := by decide +kernel
theorem dX13_smooth_72 : decode cX13_smooth 72 = .ok (.iload 5, 2) := by decide +kernel
theorem dX13_smooth_74 : decode cX13_smooth 74 = .ok (.aaload, 1) := by decide +kernel
theorem dX13_smooth_75 : decode cX13_smooth 75 = .ok (.iload 6, 2) := by decide +kernel
theorem dX13_smooth_77 : decode cX13_smooth 77 = .ok (.iaload, 1) := by decide +kernel
theorem dX13_smooth_78 : decode cX13_smooth 78 = .ok (.iload_n 1, 1) := by decide +kernel
theorem dX13_smooth_79 : decode cX13_smooth 79 = .ok (.iload 6, 2) := by decide +kernel
theorem dX13_smooth_81 : decode cX13_smooth 81 = .ok (.iload 4, 2) := by decide +kernel
theorem dX13_smooth_83 : decode cX13_smooth 83 = .ok (.isub, 1) := by decide +kernel
theorem dX13_smooth_84 : decode cX13_smooth 84 = .ok (.invokestatic 173, 3) := by decide +kernel
theorem dX13_smooth_87 : decode cX13_smooth 87 = .ok (.iload 5, 2) := by decide +kernel
theorem dX13_smooth_89 : decode cX13_smooth 89 = .ok (.iload_n 3, 1) := by decide +kernel
theorem dX13_smooth_90 : decode cX13_smooth 90 = .ok (.isub, 1) := by decide +kernel
theorem dX13_smooth_91 : decode cX13_smooth 91 = .ok (.invokestatic 173, 3) := by decide +kernel
theorem dX13_smooth_94 : decode cX13_smooth 94 = .ok (.iadd, 1) := by decide +kernel
theorem dX13_smooth_95 : decode cX13_smooth 95 = .ok (.imul, 1) := by decide +kernel
theorem dX13_smooth_96 : decode cX13_smooth 96 = .ok (.isub, 1) := by decide +kernel
theorem dX13_smooth_97 : decode cX13_smooth 97 = .ok (.invokestatic 156, 3) := by decide +kernel
theorem dX13_smooth_100 : decode cX13_smooth 100 = .ok (.iastore, 1) := by decide +kernel
theorem dX13_smooth_101 : decode cX13_smooth 101 = .ok (.iinc 6 1, 3) := by decide +kernel
theorem dX13_smooth_104 : decode cX13_smooth 104 = .ok (.goto (-62), 3) := by decide +kernel
theorem dX13_smooth_107 : decode cX13_smooth 107 = .ok (.iinc 5 1, 3) := by decide +kernel
theorem dX13_smooth_110 : decode cX13_smooth 110 = .ok (.goto (-80), 3) := by decide +kernel
theorem dX13_smooth_113 : decode cX13_smooth 113 = .ok (.iinc 4 1, 3) := by decide +kernel
theorem dX13_smooth_116 : decode cX13_smooth 116 = .ok (.goto (-98), 3) := by decide +kernel
theorem dX13_smooth_119 : decode cX13_smooth 119 = .ok (.iinc 3 1, 3) := by decide +kernel
theorem dX13_smooth_122 : decode cX13_smooth 122 = .ok (.goto (-115), 3) := by decide +kernel
theorem dX13_smooth_125 : decode cX13_smooth 125 = .ok (.aload_n 0, 1) := by decide +kernel
theorem dX13_smooth_126 : decode cX13_smooth 126 = .ok (.aload_n 2, 1) := by decide +kernel
theorem dX13_smooth_127 : decode cX13_smooth 127 = .ok (.invokevirtual 166, 3) := by decide +kernel
theorem dX13_smooth_130 : decode cX13_smooth 130 = .ok (.ireturn, 1) := by decide +kernel
theorem dX13_others_0 : decode cX13_others 0 = .ok (.iconst 0, 1) := by decide +kernel
theorem dX13_others_1 : decode cX13_others 1 = .ok (.istore_n 2, 1) := by decide +kernel
theorem dX13_others_2 : decode cX13_others 2 = .ok (.iconst 0, 1) := by decide +kernel
theorem dX13_others_3 : decode cX13_others 3 = .ok (.istore_n 3, 1) := by decide +kernel
theorem dX13_others_4 : decode cX13_others 4 = .ok (.iload_n 3, 1) := by decide +kernel
theorem dX13_others_5 : decode cX13_others 5 = .ok (.aload_n 0, 1) := by decide +kernel
theorem dX13_others_6 : decode cX13_others 6 = .ok (.getfield 13, 3) := by decide +kernel
theorem dX13_others_9 : decode cX13_others 9 = .ok (.if_icmp .ge 56, 3) := by decide +kernel
theorem dX13_others_12 : decode cX13_others 12 = .ok (.iconst 0, 1) := by decide +kernel
theorem dX13_others_13 : decode cX13_others 13 = .ok (.istore 4, 2) := by decide +kernel
theorem dX13_others_15 : decode cX13_others 15 = .ok (.iload 4, 2) := by decide +kernel
theorem dX13_others_17 : decode cX13_others 17 = .ok (.aload_n 0, 1) := by decide +kernel
theorem dX13_others_18 : decode cX13_others 18 = .ok (.getfield 7, 3) := by decide +kernel
theorem dX13_others_21 : decode cX13_others 21 = .ok (.if_icmp .ge 38, 3) := by decide +kernel
theorem dX13_others_24 : decode cX13_others 24 = .ok (.iload_n 2, 1) := by decide +kernel
theorem dX13_others_25 : decode cX13_others 25 = .ok (.aload_n 0, 1) := by decide +kernel
theorem dX13_others_26 : decode cX13_others 26 = .ok (.getfield 37, 3) := by decide +kernel
theorem dX13_others_29 : decode cX13_others 29 = .ok (.iload_n 3, 1) := by decide +kernel
theorem dX13_others_30 : decode cX13_others 30 = .ok (.aaload, 1) := by decide +kernel
theorem dX13_others_31 : decode cX13_others 31 = .ok (.iload 4, 2) := by decide +kernel
theorem dX13_others_33 : decode cX13_others 33 = .ok (.iaload, 1) := by decide +kernel
theorem dX13_others_34 : decode cX13_others 34 = .ok (.aload_n 1, 1) := by decide +kernel
theorem dX13_others_35 : decode cX13_others 35 = .ok (.getfield 37, 3) := by decide +kernel
theorem dX13_others_38 : decode cX13_others 38 = .ok (.iload_n 3, 1) := by decide +kernel
theorem dX13_others_39 : decode cX13_others 39 = .ok (.aaload, 1) := by decide +kernel
theorem dX13_others_40 : decode cX13_others 40 = .ok (.iload 4, 2) := by decide +kernel
theorem dX13_others_42 : decode cX13_others 42 = .ok (.iaload, 1) := by decide +kernel
theorem dX13_others_43 : decode cX13_others 43 = .ok (.if_icmp .ne 7, 3) := by decide +kernel
theorem dX13_others_46 : decode cX13_others 46 = .ok (.iconst 0, 1) := by decide +kernel
theorem dX13_others_47 : decode cX13_others 47 = .ok (.goto 4, 3) := by decide +kernel
theorem dX13_others_50 : decode cX13_others 50 = .ok (.iconst 1, 1) := by decide +kernel
theorem dX13_others_51 : decode cX13_others 51 = .ok (.iadd, 1) := by decide +kernel
theorem dX13_others_52 : decode cX13_others 52 = .ok (.istore_n 2, 1) := by decide +kernel
theorem dX13_others_53 : decode cX13_others 53 = .ok (.iinc 4 1, 3) := by decide +kernel
theorem dX13_others_56 : decode cX13_others 56 = .ok (.goto (-41), 3) := by decide +kernel
theorem dX13_others_59 : decode cX13_others 59 = .ok (.iinc 3 1, 3) := by decide +kernel
theorem dX13_others_62 : decode cX13_others 62 = .ok (.goto (-58), 3) := by decide +kernel
theorem dX13_others_65 : decode cX13_others 65 = .ok (.iload_n 2, 1) := by decide +kernel
theorem dX13_others_66 : decode cX13_others 66 = .ok (.ireturn, 1) := by decide +kernel
