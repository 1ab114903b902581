theorem dL_law_4 : decode cL_law 4 = .ok (.invokespecial 97, 3) := by decide +kernel
theorem dL_law_7 : decode cL_law 7 = .ok (.astore_n 1, 1) := by decide +kernel
theorem dL_law_8 : decode cL_law 8 = .ok (.aload_n 0, 1) := by decide +kernel
theorem dL_law_9 : decode cL_law 9 = .ok (.arraylength, 1) := by decide +kernel
theorem dL_law_10 : decode cL_law 10 = .ok (.iconst 3, 1) := by decide +kernel
theorem dL_law_11 : decode cL_law 11 = .ok (.idiv, 1) := by decide +kernel
theorem dL_law_12 : decode cL_law 12 = .ok (.bipush 30, 2) := by decide +kernel
theorem dL_law_14 : decode cL_law 14 = .ok (.if_icmp .ge 10, 3) := by decide +kernel
theorem dL_law_17 : decode cL_law 17 = .ok (.aload_n 0, 1) := by decide +kernel
theorem dL_law_18 : decode cL_law 18 = .ok (.arraylength, 1) := by decide +kernel
theorem dL_law_19 : decode cL_law 19 = .ok (.iconst 3, 1) := by decide +kernel
theorem dL_law_20 : decode cL_law 20 = .ok (.idiv, 1) := by decide +kernel
theorem dL_law_21 : decode cL_law 21 = .ok (.goto 5, 3) := by decide +kernel
theorem dL_law_24 : decode cL_law 24 = .ok (.bipush 30, 2) := by decide +kernel
theorem dL_law_26 : decode cL_law 26 = .ok (.istore_n 2, 1) := by decide +kernel
theorem dL_law_27 : decode cL_law 27 = .ok (.iconst 0, 1) := by decide +kernel
theorem dL_law_28 : decode cL_law 28 = .ok (.istore_n 3, 1) := by decide +kernel
theorem dL_law_29 : decode cL_law 29 = .ok (.iload_n 3, 1) := by decide +kernel
theorem dL_law_30 : decode cL_law 30 = .ok (.iload_n 2, 1) := by decide +kernel
theorem dL_law_31 : decode cL_law 31 = .ok (.if_icmp .ge 283, 3) := by decide +kernel
theorem dL_law_34 : decode cL_law 34 = .ok (.aload_n 0, 1) := by decide +kernel
theorem dL_law_35 : decode cL_law 35 = .ok (.iconst 3, 1) := by decide +kernel
theorem dL_law_36 : decode cL_law 36 = .ok (.iload_n 3, 1) := by decide +kernel
theorem dL_law_37 : decode cL_law 37 = .ok (.imul, 1) := by decide +kernel
theorem dL_law_38 : decode cL_law 38 = .ok (.invokestatic 98, 3) := by decide +kernel
theorem dL_law_41 : decode cL_law 41 = .ok (.istore 4, 2) := by decide +kernel
theorem dL_law_43 : decode cL_law 43 = .ok (.aload_n 0, 1) := by decide +kernel
theorem dL_law_44 : decode cL_law 44 = .ok (.iconst 3, 1) := by decide +kernel
theorem dL_law_45 : decode cL_law 45 = .ok (.iload_n 3, 1) := by decide +kernel
theorem dL_law_46 : decode cL_law 46 = .ok (.imul, 1) := by decide +kernel
theorem dL_law_47 : decode cL_law 47 = .ok (.iconst 1, 1) := by decide +kernel
theorem dL_law_48 : decode cL_law 48 = .ok (.iadd, 1) := by decide +kernel
theorem dL_law_49 : decode cL_law 49 = .ok (.invokestatic 98, 3) := by decide +kernel
theorem dL_law_52 : decode cL_law 52 = .ok (.istore 5, 2) := by decide +kernel
theorem dL_law_54 : decode cL_law 54 = .ok (.aload_n 0, 1) := by decide +kernel
theorem dL_law_55 : decode cL_law 55 = .ok (.iconst 3, 1) := by decide +kernel
theorem dL_law_56 : decode cL_law 56 = .ok (.iload_n 3, 1) := by decide +kernel
theorem dL_law_57 : decode cL_law 57 = .ok (.imul, 1) := by decide +kernel
theorem dL_law_58 : decode cL_law 58 = .ok (.iconst 2, 1) := by decide +kernel
theorem dL_law_59 : decode cL_law 59 = .ok (.iadd, 1) := by decide +kernel
theorem dL_law_60 : decode cL_law 60 = .ok (.invokestatic 98, 3) := by decide +kernel
theorem dL_law_63 : decode cL_law 63 = .ok (.istore 6, 2) := by decide +kernel
theorem dL_law_65 : decode cL_law 65 = .ok (.iload 4, 2) := by decide +kernel
theorem dL_law_67 : decode cL_law 67 = .ok (.bipush 15, 2) := by decide +kernel
theorem dL_law_69 : decode cL_law 69 = .ok (.iand, 1) := by decide +kernel
theorem dL_law_70 : decode cL_law 70 = .ok (.istore 7, 2) := by decide +kernel
theorem dL_law_72 : decode cL_law 72 = .ok (.aload_n 1, 1) := by decide +kernel
theorem dL_law_73 : decode cL_law 73 = .ok (.invokestatic 77, 3) := by decide +kernel
theorem dL_law_76 : decode cL_law 76 = .ok (.lstore 8, 2) := by decide +kernel
theorem dL_law_78 : decode cL_law 78 = .ok (.aload_n 1, 1) := by decide +kernel
theorem dL_law_79 : decode cL_law 79 = .ok (.bipush 9, 2) := by decide +kernel
theorem dL_law_81 : decode cL_law 81 = .ok (.invokevirtual 13, 3) := by decide +kernel
theorem dL_law_84 : decode cL_law 84 = .ok (.istore 10, 2) := by decide +kernel
theorem dL_law_86 : decode cL_law 86 = .ok (.aload_n 1, 1) := by decide +kernel
theorem dL_law_87 : decode cL_law 87 = .ok (.iconst 0, 1) := by decide +kernel
theorem dL_law_88 : decode cL_law 88 = .ok (.invokevirtual 13, 3) := by decide +kernel
theorem dL_law_91 : decode cL_law 91 = .ok (.istore 11, 2) := by decide +kernel
theorem dL_law_93 : decode cL_law 93 = .ok (.aload_n 1, 1) := by decide +kernel
theorem dL_law_94 : decode cL_law 94 = .ok (.iload 7, 2) := by decide +kernel
theorem dL_law_96 : decode cL_law 96 = .ok (.iload 5, 2) := by decide +kernel
theorem dL_law_98 : decode cL_law 98 = .ok (.iload 6, 2) := by decide +kernel
theorem dL_law_100 : decode cL_law 100 = .ok (.invokestatic 90, 3) := by decide +kernel
theorem dL_law_103 : decode cL_law 103 = .ok (.istore 12, 2) := by decide +kernel
theorem dL_law_105 : decode cL_law 105 = .ok (.iload 12, 2) := by decide +kernel
theorem dL_law_107 : decode cL_law 107 = .ok (.ifCond .ge 26, 3) := by decide +kernel
theorem dL_law_110 : decode cL_law 110 = .ok (.aload_n 1, 1) := by decide +kernel
theorem dL_law_111 : decode cL_law 111 = .ok (.invokestatic 77, 3) := by decide +kernel
theorem dL_law_114 : decode cL_law 114 = .ok (.lload 8, 2) := by decide +kernel
theorem dL_law_116 : decode cL_law 116 = .ok (.lcmp, 1) := by decide +kernel
theorem dL_law_117 : decode cL_law 117 = .ok (.ifCond .ne 14, 3) := by decide +kernel
theorem dL_law_120 : decode cL_law 120 = .ok (.aload_n 1, 1) := by decide +kernel
theorem dL_law_121 : decode cL_law 121 = .ok (.bipush 9, 2) := by decide +kernel
theorem dL_law_123 : decode cL_law 123 = .ok (.invokevirtual 13, 3) := by decide +kernel
theorem dL_law_126 : decode cL_law 126 = .ok (.iload 10, 2) := by decide +kernel
theorem dL_law_128 : decode cL_law 128 = .ok (.if_icmp .eq 55, 3) := by decide +kernel
theorem dL_law_131 : decode cL_law 131 = .ok (.iconst 0, 1) := by decide +kernel
theorem dL_law_132 : decode cL_law 132 = .ok (.ireturn, 1) := by decide +kernel
theorem dL_law_133 : decode cL_law 133 = .ok (.aload_n 1, 1) := by decide +kernel
theorem dL_law_134 : decode cL_law 134 = .ok (.bipush 9, 2) := by decide +kernel
theorem dL_law_136 : decode cL_law 136 = .ok (.invokevirtual 13, 3) := by decide +kernel
theorem dL_law_139 : decode cL_law 139 = .ok (.iload 10, 2) := by decide +kernel
theorem dL_law_141 : decode cL_law 141 = .ok (.iconst 5, 1) := by decide +kernel
theorem dL_law_142 : decode cL_law 142 = .ok (.if_icmp .ge 10, 3) := by decide +kernel
theorem dL_law_145 : decode cL_law 145 = .ok (.iload 10, 2) := by decide +kernel
theorem dL_law_147 : decode cL_law 147 = .ok (.iconst 1, 1) := by decide +kernel
theorem dL_law_148 : decode cL_law 148 = .ok (.iadd, 1) := by decide +kernel
theorem dL_law_149 : decode cL_law 149 = .ok (.goto 4, 3) := by decide +kernel
theorem dL_law_152 : decode cL_law 152 = .ok (.iconst 5, 1) := by decide +kernel
theorem dL_law_153 : decode cL_law 153 = .ok (.if_icmp .ne 28, 3) := by decide +kernel
theorem dL_law_156 : decode cL_law 156 = .ok (.iload 4, 2) := by decide +kernel
theorem dL_law_158 : decode cL_law 158 = .ok (.bipush 16, 2) := by decide +kernel
theorem dL_law_160 : decode cL_law 160 = .ok (.iand, 1) := by decide +kernel
theorem dL_law_161 : decode cL_law 161 = .ok (.ifCond .ne 22, 3) := by decide +kernel
theorem dL_law_164 : decode cL_law 164 = .ok (.aload_n 1, 1) := by decide +kernel
theorem dL_law_165 : decode cL_law 165 = .ok (.iload 7, 2) := by decide +kernel
theorem dL_law_167 : decode cL_law 167 = .ok (.iload 5, 2) := by decide +kernel
theorem dL_law_169 : decode cL_law 169 = .ok (.iload 6, 2) := by decide +kernel
theorem dL_law_171 : decode cL_law 171 = .ok (.iload 12, 2) := by decide +kernel
theorem dL_law_173 : decode cL_law 173 = .ok (.lload 8, 2) := by decide +kernel
theorem dL_law_175 : decode cL_law 175 = .ok (.invokestatic 102, 3) := by decide +kernel
theorem dL_law_178 : decode cL_law 178 = .ok (.ifCond .ne 5, 3) := by decide +kernel
theorem dL_law_181 : decode cL_law 181 = .ok (.iconst 0, 1) := by decide +kernel
theorem dL_law_182 : decode cL_law 182 = .ok (.ireturn, 1) := by decide +kernel
theorem dL_law_183 : decode cL_law 183 = .ok (.iload 7, 2) := by decide +kernel
theorem dL_law_185 : decode cL_law 185 = .ok (.ifCond .eq 28, 3) := by decide +kernel
theorem dL_law_188 : decode cL_law 188 = .ok (.iload 7, 2) := by decide +kernel
theorem dL_law_190 : decode cL_law 190 = .ok (.bipush 15, 2) := by decide +kernel
theorem dL_law_192 : decode cL_law 192 = .ok (.if_icmp .ne 25, 3) := by decide +kernel
theorem dL_law_195 : decode cL_law 195 = .ok (.iload 6, 2) := by decide +kernel
theorem dL_law_197 : decode cL_law 197 = .ok (.bipush 7, 2) := by decide +kernel
theorem dL_law_199 : decode cL_law 199 = .ok (.iand, 1) := by decide +kernel
theorem dL_law_200 : decode cL_law 200 = .ok (.ifCond .eq 13, 3) := by decide +kernel
theorem dL_law_203 : decode cL_law 203 = .ok (.iload 6, 2) := by decide +kernel
theorem dL_law_205 : decode cL_law 205 = .ok (.bipush 7, 2) := by decide +kernel
theorem dL_law_207 : decode cL_law 207 = .ok (.iand, 1) := by decide +kernel
theorem dL_law_208 : decode cL_law 208 = .ok (.bipush 7, 2) := by decide +kernel
theorem dL_law_210 : decode cL_law 210 = .ok (.if_icmp .ne 7, 3) := by decide +kernel
theorem dL_law_213 : decode cL_law 213 = .ok (.iconst 1, 1) := by decide +kernel
theorem dL_law_214 : decode cL_law 214 = .ok (.goto 4, 3) := by decide +kernel
theorem dL_law_217 : decode cL_law 217 = .ok (.iconst 0, 1) := by decide +kernel
theorem dL_law_218 : decode cL_law 218 = .ok (.istore 13, 2) := by decide +kernel
theorem dL_law_220 : decode cL_law 220 = .ok (.iload 11, 2) := by decide +kernel
theorem dL_law_222 : decode cL_law 222 = .ok (.iconst 3, 1) := by decide +kernel
theorem dL_law_223 : decode cL_law 223 = .ok (.if_icmp .le 18, 3) := by decide +kernel
theorem dL_law_226 : decode cL_law 226 = .ok (.iload 13, 2) := by decide +kernel
theorem dL_law_228 : decode cL_law 228 = .ok (.ifCond .ne 13, 3) := by decide +kernel
theorem dL_law_231 : decode cL_law 231 = .ok (.aload_n 1, 1) := by decide +kernel
theorem dL_law_232 : decode cL_law 232 = .ok (.iconst 0, 1) := by decide +kernel
theorem dL_law_233 : decode cL_law 233 = .ok (.invokevirtual 13, 3) := by decide +kernel
theorem dL_law_236 : decode cL_law 236 = .ok (.iload 11, 2) := by decide +kernel
theorem dL_law_238 : decode cL_law 238 = .ok (.if_icmp .ne 10, 3) := by decide +kernel
theorem dL_law_241 : decode cL_law 241 = .ok (.aload_n 1, 1) := by decide +kernel
theorem dL_law_242 : decode cL_law 242 = .ok (.invokestatic 106, 3) := by decide +kernel
theorem dL_law_245 : decode cL_law 245 = .ok (.ifCond .ne 5, 3) := by decide +kernel
theorem dL_law_248 : decode cL_law 248 = .ok (.iconst 0, 1) := by decide +kernel
theorem dL_law_249 : decode cL_law 249 = .ok (.ireturn, 1) := by decide +kernel
theorem dL_law_250 : decode cL_law 250 = .ok (.iload 4, 2) := by decide +kernel
theorem dL_law_252 : decode cL_law 252 = .ok (.bipush 96, 2) := by decide +kernel
theorem dL_law_254 : decode cL_law 254 = .ok (.iand, 1) := by decide +kernel
theorem dL_law_255 : decode cL_law 255 = .ok (.ifCond .ne 14, 3) := by decide +kernel
theorem dL_law_258 : decode cL_law 258 = .ok (.aload_n 1, 1) := by decide +kernel
theorem dL_law_259 : decode cL_law 259 = .ok (.iload 5, 2) := by decide +kernel
theorem dL_law_261 : decode cL_law 261 = .ok (.iload 6, 2) := by decide +kernel
theorem dL_law_263 : decode cL_law 263 = .ok (.invokestatic 110, 3) := by decide +kernel
theorem dL_law_266 : decode cL_law 266 = .ok (.ifCond .eq 40, 3) := by decide +kernel
theorem dL_law_269 : decode cL_law 269 = .ok (.iload 4, 2) := by decide +kernel
theorem dL_law_271 : decode cL_law 271 = .ok (.bipush 96, 2) := by decide +kernel
theorem dL_law_273 : decode cL_law 273 = .ok (.iand, 1) := by decide +kernel
theorem dL_law_274 : decode cL_law 274 = .ok (.bipush 32, 2) := by decide +kernel
theorem dL_law_276 : decode cL_law 276 = .ok (.if_icmp .ne 32, 3) := by decide +kernel
theorem dL_law_279 : decode cL_law 279 = .ok (.aload_n 1, 1) := by decide +kernel
theorem dL_law_280 : decode cL_law 280 = .ok (.iconst 1, 1) := by decide +kernel
theorem dL_law_281 : decode cL_law 281 = .ok (.iload 6, 2) := by decide +kernel
theorem dL_law_283 : decode cL_law 283 = .ok (.iconst 4, 1) := by decide +kernel
theorem dL_law_284 : decode cL_law 284 = .ok (.ishr, 1) := by decide +kernel
theorem dL_law_285 : decode cL_law 285 = .ok (.bipush 60, 2) := by decide +kernel
theorem dL_law_287 : decode cL_law 287 = .ok (.invokestatic 59, 3) := by decide +kernel
theorem dL_law_290 : decode cL_law 290 = .ok (.iadd, 1) := by decide +kernel
theorem dL_law_291 : decode cL_law 291 = .ok (.iload 5, 2) := by decide +kernel
theorem dL_law_293 : decode cL_law 293 = .ok (.iconst 4, 1) := by decide +kernel
theorem dL_law_294 : decode cL_law 294 = .ok (.ishr, 1) := by decide +kernel
theorem dL_law_295 : decode cL_law 295 = .ok (.bipush 6, 2) := by decide +kernel
theorem dL_law_297 : decode cL_law 297 = .ok (.invokestatic 59, 3) := by decide +kernel
theorem dL_law_300 : decode cL_law 300 = .ok (.invokestatic 114, 3) := by decide +kernel
theorem dL_law_303 : decode cL_law 303 = .ok (.ifCond .ne 5, 3) := by decide +kernel
theorem dL_law_306 : decode cL_law 306 = .ok (.iconst 0, 1) := by decide +kernel
theorem dL_law_307 : decode cL_law 307 = .ok (.ireturn, 1) := by decide +kernel
theorem dL_law_308 : decode cL_law 308 = .ok (.iinc 3 1, 3) := by decide +kernel
theorem dL_law_311 : decode cL_law 311 = .ok (.goto (-282), 3) := by decide +kernel
theorem dL_law_314 : decode cL_law 314 = .ok (.iconst 1, 1) := by decide +kernel
theorem dL_law_315 : decode cL_law 315 = .ok (.ireturn, 1) := by decide +kernel
theorem dX0_init_0 : decode cX0_init 0 = .ok (.aload_n 0, 1) := by decide +kernel
theorem dX0_init_1 : decode cX0_init 1 = .ok (.invokespecial 3, 3) := by decide +kernel
theorem dX0_init_4 : decode cX0_init 4 = .ok (.aload_n 0, 1) := by decide +kernel
theorem dX0_init_5 : decode cX0_init 5 = .ok (.bipush 80, 2) := by decide +kernel
theorem dX0_init_7 : decode cX0_init 7 = .ok (.newarray .byte, 2) := by decide +kernel
theorem dX0_init_9 : decode cX0_init 9 = .ok (.putfield 9, 3) := by decide +kernel
theorem dX0_init_12 : decode cX0_init 12 = .ok (.return_, 1) := by decide +kernel
theorem dX1_init_0 : decode cX1_init 0 = .ok (.aload_n 0, 1) := by decide +kernel
theorem dX1_init_1 : decode cX1_init 1 = .ok (.invokespecial 3, 3) := by decide +kernel
theorem dX1_init_4 : decode cX1_init 4 = .ok (.aload_n 0, 1) := by decide +kernel
theorem dX1_init_5 : decode cX1_init 5 = .ok (.iconst 5, 1) := by decide +kernel
theorem dX1_init_6 : decode cX1_init 6 = .ok (.anewarray 9, 3) := by decide +kernel
theorem dX1_init_9 : decode cX1_init 9 = .ok (.putfield 11, 3) := by decide +kernel
theorem dX1_init_12 : decode cX1_init 12 = .ok (.iconst 0, 1) := by decide +kernel
theorem dX1_init_13 : decode cX1_init 13 = .ok (.istore_n 1, 1) := by decide +kernel
theorem dX1_init_14 : decode cX1_init 14 = .ok (.iload_n 1, 1) := by decide +kernel
theorem dX1_init_15 : decode cX1_init 15 = .ok (.iconst 5, 1) := by decide +kernel
theorem dX1_init_16 : decode cX1_init 16 = .ok (.if_icmp .ge 22, 3) := by decide +kernel
theorem dX1_init_19 : decode cX1_init 19 = .ok (.aload_n 0, 1) := by decide +kernel
theorem dX1_init_20 : decode cX1_init 20 = .ok (.getfield 11, 3) := by decide +kernel
theorem dX1_init_23 : decode cX1_init 23 = .ok (.iload_n 1, 1) := by decide +kernel
theorem dX1_init_24 : decode cX1_init 24 = .ok (.new 9, 3) := by decide +kernel
theorem dX1_init_27 : decode cX1_init 27 = .ok (.dup, 1) := by decide +kernel
theorem dX1_init_28 : decode cX1_init 28 = .ok (.invokespecial 17, 3) := by decide +kernel
theorem dX1_init_31 : decode cX1_init 31 = .ok (.aastore, 1) := by decide +kernel
theorem dX1_init_32 : decode cX1_init 32 = .ok (.iinc 1 1, 3) := by decide +kernel
theorem dX1_init_35 : decode cX1_init 35 = .ok (.goto (-21), 3) := by decide +kernel
theorem dX1_init_38 : decode cX1_init 38 = .ok (.return_, 1) := by decide +kernel
theorem dX1_keep_0 : decode cX1_keep 0 = .ok (.aload_n 0, 1) := by decide +kernel
theorem dX1_keep_1 : decode cX1_keep 1 = .ok (.getfield 18, 3) := by decide +kernel
theorem dX1_keep_4 : decode cX1_keep 4 = .ok (.iconst 5, 1) := by decide +kernel
theorem dX1_keep_5 : decode cX1_keep 5 = .ok (.if_icmp .lt 7, 3) := by decide +kernel
theorem dX1_keep_8 : decode cX1_keep 8 = .ok (.aload_n 0, 1) := by decide +kernel
theorem dX1_keep_9 : decode cX1_keep 9 = .ok (.invokevirtual 22, 3) := by decide +kernel
theorem dX1_keep_12 : decode cX1_keep 12 = .ok (.aload_n 0, 1) := by decide +kernel
theorem dX1_keep_13 : decode cX1_keep 13 = .ok (.getfield 11, 3) := by decide +kernel
theorem dX1_keep_16 : decode cX1_keep 16 = .ok (.aload_n 0, 1) := by decide +kernel
theorem dX1_keep_17 : decode cX1_keep 17 = .ok (.getfield 18, 3) := by decide +kernel
theorem dX1_keep_20 : decode cX1_keep 20 = .ok (.aaload, 1) := by decide +kernel
theorem dX1_keep_21 : decode cX1_keep 21 = .ok (.aload_n 1, 1) := by decide +kernel
theorem dX1_keep_22 : decode cX1_keep 22 = .ok (.invokevirtual 25, 3) := by decide +kernel
theorem dX1_keep_25 : decode cX1_keep 25 = .ok (.aload_n 0, 1) := by decide +kernel
theorem dX1_keep_26 : decode cX1_keep 26 = .ok (.dup, 1) := by decide +kernel
theorem dX1_keep_27 : decode cX1_keep 27 = .ok (.getfield 18, 3) := by decide +kernel
theorem dX1_keep_30 : decode cX1_keep 30 = .ok (.iconst 1, 1) := by decide +kernel
theorem dX1_keep_31 : decode cX1_keep 31 = .ok (.iadd, 1) := by decide +kernel
theorem dX1_keep_32 : decode cX1_keep 32 = .ok (.putfield 18, 3) := by decide +kernel
theorem dX1_keep_35 : decode cX1_keep 35 = .ok (.return_, 1) := by decide +kernel
theorem dX1_dropOldest_0 : decode cX1_dropOldest 0 = .ok (.aload_n 0, 1) := by decide +kernel
theorem dX1_dropOldest_1 : decode cX1_dropOldest 1 = .ok (.getfield 11, 3) := by decide +kernel
theorem dX1_dropOldest_4 : decode cX1_dropOldest 4 = .ok (.iconst 0, 1) := by decide +kernel
theorem dX1_dropOldest_5 : decode cX1_dropOldest 5 = .ok (.aaload, 1) := by decide +kernel
theorem dX1_dropOldest_6 : decode cX1_dropOldest 6 = .ok (.astore_n 1, 1) := by decide +kernel
theorem dX1_dropOldest_7 : decode cX1_dropOldest 7 = .ok (.iconst 1, 1) := by decide +kernel
theorem dX1_dropOldest_8 : decode cX1_dropOldest 8 = .ok (.istore_n 2, 1) := by decide +kernel
theorem dX1_dropOldest_9 : decode cX1_dropOldest 9 = .ok (.iload_n 2, 1) := by decide +kernel
theorem dX1_dropOldest_10 : decode cX1_dropOldest 10 = .ok (.iconst 5, 1) := by decide +kernel
theorem dX1_dropOldest_11 : decode cX1_dropOldest 11 = .ok (.if_icmp .ge 23, 3) := by decide +kernel
theorem dX1_dropOldest_14 : decode cX1_dropOldest 14 = .ok (.aload_n 0, 1) := by decide +kernel
theorem dX1_dropOldest_15 : decode cX1_dropOldest 15 = .ok (.getfield 11, 3) := by decide +kernel
theorem dX1_dropOldest_18 : decode cX1_dropOldest 18 = .ok (.iload_n 2, 1) := by decide +kernel
theorem dX1_dropOldest_19 : decode cX1_dropOldest 19 = .ok (.iconst 1, 1) := by decide +kernel
theorem dX1_dropOldest_20 : decode cX1_dropOldest 20 = .ok (.isub, 1) := by decide +kernel
theorem dX1_dropOldest_21 : decode cX1_dropOldest 21 = .ok (.aload_n 0, 1) := by decide +kernel
theorem dX1_dropOldest_22 : decode cX1_dropOldest 22 = .ok (.getfield 11, 3) := by decide +kernel
theorem dX1_dropOldest_25 : decode cX1_dropOldest 25 = .ok (.iload_n 2, 1) := by decide +kernel
theorem dX1_dropOldest_26 : decode cX1_dropOldest 26 = .ok (.aaload, 1) := by decide +kernel
theorem dX1_dropOldest_27 : decode cX1_dropOldest 27 = .ok (.aastore, 1) := by decide +kernel
theorem dX1_dropOldest_28 : decode cX1_dropOldest 28 = .ok (.iinc 2 1, 3) := by decide +kernel
theorem dX1_dropOldest_31 : decode cX1_dropOldest 31 = .ok (.goto (-22), 3) := by decide +kernel
theorem dX1_dropOldest_34 : decode cX1_dropOldest 34 = .ok (.aload_n 0, 1) := by decide +kernel
theorem dX1_dropOldest_35 : decode cX1_dropOldest 35 = .ok (.getfield 11, 3) := by decide +kernel
theorem dX1_dropOldest_38 : decode cX1_dropOldest 38 = .ok (.iconst 4, 1) := by decide +kernel
theorem dX1_dropOldest_39 : decode cX1_dropOldest 39 = .ok (.aload_n 1, 1) := by decide +kernel
theorem dX1_dropOldest_40 : decode cX1_dropOldest 40 = .ok (.aastore, 1) := by decide +kernel
theorem dX1_dropOldest_41 : decode cX1_dropOldest 41 = .ok (.aload_n 0, 1) := by decide +kernel
theorem dX1_dropOldest_42 : decode cX1_dropOldest 42 = .ok (.iconst 4, 1) := by decide +kernel
theorem dX1_dropOldest_43 : decode cX1_dropOldest 43 = .ok (.putfield 18, 3) := by decide +kernel
theorem dX1_dropOldest_46 : decode cX1_dropOldest 46 = .ok (.return_, 1) := by decide +kernel
theorem dX1_takeLatest_0 : decode cX1_takeLatest 0 = .ok (.aload_n 0, 1) := by decide +kernel
theorem dX1_takeLatest_1 : decode cX1_takeLatest 1 = .ok (.dup, 1) := by decide +kernel
theorem dX1_takeLatest_2 : decode cX1_takeLatest 2 = .ok (.getfield 18, 3) := by decide +kernel
theorem dX1_takeLatest_5 : decode cX1_takeLatest 5 = .ok (.iconst 1, 1) := by decide +kernel
theorem dX1_takeLatest_6 : decode cX1_takeLatest 6 = .ok (.isub, 1) := by decide +kernel
theorem dX1_takeLatest_7 : decode cX1_takeLatest 7 = .ok (.putfield 18, 3) := by decide +kernel
theorem dX1_takeLatest_10 : decode cX1_takeLatest 10 = .ok (.aload_n 1, 1) := by decide +kernel
theorem dX1_takeLatest_11 : decode cX1_takeLatest 11 = .ok (.aload_n 0, 1) := by decide +kernel
theorem dX1_takeLatest_12 : decode cX1_takeLatest 12 = .ok (.getfield 11, 3) := by decide +kernel
theorem dX1_takeLatest_15 : decode cX1_takeLatest 15 = .ok (.aload_n 0, 1) := by decide +kernel
theorem dX1_takeLatest_16 : decode cX1_takeLatest 16 = .ok (.getfield 18, 3) := by decide +kernel
theorem dX1_takeLatest_19 : decode cX1_takeLatest 19 = .ok (.aaload, 1) := by decide +kernel
theorem dX1_takeLatest_20 : decode cX1_takeLatest 20 = .ok (.invokevirtual 25, 3) := by decide +kernel
theorem dX1_takeLatest_23 : decode cX1_takeLatest 23 = .ok (.return_, 1) := by decide +kernel
theorem dX2_init_0 : decode cX2_init 0 = .ok (.aload_n 0, 1) := by decide +kernel
theorem dX2_init_1 : decode cX2_init 1 = .ok (.invokespecial 3, 3) := by decide +kernel
theorem dX2_init_4 : decode cX2_init 4 = .ok (.aload_n 0, 1) := by decide +kernel
theorem dX2_init_5 : decode cX2_init 5 = .ok (.bipush 6, 2) := by decide +kernel
theorem dX2_init_7 : decode cX2_init 7 = .ok (.newarray .int, 2) := by decide +kernel
theorem dX2_init_9 : decode cX2_init 9 = .ok (.putfield 9, 3) := by decide +kernel
theorem dX2_init_12 : decode cX2_init 12 = .ok (.aload_n 0, 1) := by decide +kernel
theorem dX2_init_13 : decode cX2_init 13 = .ok (.bipush 6, 2) := by decide +kernel
theorem dX2_init_15 : decode cX2_init 15 = .ok (.newarray .int, 2) := by decide +kernel
theorem dX2_init_17 : decode cX2_init 17 = .ok (.putfield 15, 3) := by decide +kernel
theorem dX2_init_20 : decode cX2_init 20 = .ok (.return_, 1) := by decide +kernel
theorem dX2_copyFrom_0 : decode cX2_copyFrom 0 = .ok (.aload_n 0, 1) := by decide +kernel
theorem dX2_copyFrom_1 : decode cX2_copyFrom 1 = .ok (.aload_n 1, 1) := by decide +kernel
theorem dX2_copyFrom_2 : decode cX2_copyFrom 2 = .ok (.getfield 18, 3) := by decide +kernel
theorem dX2_copyFrom_5 : decode cX2_copyFrom 5 = .ok (.putfield 18, 3) := by decide +kernel
theorem dX2_copyFrom_8 : decode cX2_copyFrom 8 = .ok (.aload_n 1, 1) := by decide +kernel
theorem dX2_copyFrom_9 : decode cX2_copyFrom 9 = .ok (.getfield 9, 3) := by decide +kernel
theorem dX2_copyFrom_12 : decode cX2_copyFrom 12 = .ok (.iconst 0, 1) := by decide +kernel
theorem dX2_copyFrom_13 : decode cX2_copyFrom 13 = .ok (.aload_n 0, 1) := by decide +kernel
theorem dX2_copyFrom_14 : decode cX2_copyFrom 14 = .ok (.getfield 9, 3) := by decide +kernel
theorem dX2_copyFrom_17 : decode cX2_copyFrom 17 = .ok (.iconst 0, 1) := by decide +kernel
theorem dX2_copyFrom_18 : decode cX2_copyFrom 18 = .ok (.bipush 6, 2) := by decide +kernel
theorem dX2_copyFrom_20 : decode cX2_copyFrom 20 = .ok (.invokestatic 22, 3) := by decide +kernel
theorem dX2_copyFrom_23 : decode cX2_copyFrom 23 = .ok (.aload_n 1, 1) := by decide +kernel
theorem dX2_copyFrom_24 : decode cX2_copyFrom 24 = .ok (.getfield 15, 3) := by decide +kernel
theorem dX2_copyFrom_27 : decode cX2_copyFrom 27 = .ok (.iconst 0, 1) := by decide +kernel
theorem dX2_copyFrom_28 : decode cX2_copyFrom 28 = .ok (.aload_n 0, 1) := by decide +kernel
theorem dX2_copyFrom_29 : decode cX2_copyFrom 29 = .ok (.getfield 15, 3) := by decide +kernel
theorem dX2_copyFrom_32 : decode cX2_copyFrom 32 = .ok (.iconst 0, 1) := by decide +kernel
theorem dX2_copyFrom_33 : decode cX2_copyFrom 33 = .ok (.bipush 6, 2) := by decide +kernel
theorem dX2_copyFrom_35 : decode cX2_copyFrom 35 = .ok (.invokestatic 22, 3) := by decide +kernel
theorem dX2_copyFrom_38 : decode cX2_copyFrom 38 = .ok (.return_, 1) := by decide +kernel
theorem dX2_hasRoomFor_0 : decode cX2_hasRoomFor 0 = .ok (.aload_n 0, 1) := by decide +kernel
theorem dX2_hasRoomFor_1 : decode cX2_hasRoomFor 1 = .ok (.iload_n 1, 1) := by decide +kernel
theorem dX2_hasRoomFor_2 : decode cX2_hasRoomFor 2 = .ok (.invokevirtual 28, 3) := by decide +kernel
theorem dX2_hasRoomFor_5 : decode cX2_hasRoomFor 5 = .ok (.istore_n 2, 1) := by decide +kernel
theorem dX2_hasRoomFor_6 : decode cX2_hasRoomFor 6 = .ok (.aload_n 0, 1) := by decide +kernel
theorem dX2_hasRoomFor_7 : decode cX2_hasRoomFor 7 = .ok (.getfield 18, 3) := by decide +kernel
theorem dX2_hasRoomFor_10 : decode cX2_hasRoomFor 10 = .ok (.bipush 6, 2) := by decide +kernel
theorem dX2_hasRoomFor_12 : decode cX2_hasRoomFor 12 = .ok (.if_icmp .lt 21, 3) := by decide +kernel
theorem dX2_hasRoomFor_15 : decode cX2_hasRoomFor 15 = .ok (.iload_n 2, 1) := by decide +kernel
theorem dX2_hasRoomFor_16 : decode cX2_hasRoomFor 16 = .ok (.aload_n 0, 1) := by decide +kernel
theorem dX2_hasRoomFor_17 : decode cX2_hasRoomFor 17 = .ok (.getfield 18, 3) := by decide +kernel
theorem dX2_hasRoomFor_20 : decode cX2_hasRoomFor 20 = .ok (.if_icmp .ge 17, 3) := by decide +kernel
theorem dX2_hasRoomFor_23 : decode cX2_hasRoomFor 23 = .ok (.aload_n 0, 1) := by decide +kernel
theorem dX2_hasRoomFor_24 : decode cX2_hasRoomFor 24 = .ok (.getfield 9, 3) := by decide +kernel
theorem dX2_hasRoomFor_27 : decode cX2_hasRoomFor 27 = .ok (.iload_n 2, 1) := by decide +kernel
theorem dX2_hasRoomFor_28 : decode cX2_hasRoomFor 28 = .ok (.iaload, 1) := by decide +kernel
theorem dX2_hasRoomFor_29 : decode cX2_hasRoomFor 29 = .ok (.iload_n 1, 1) := by decide +kernel
theorem dX2_hasRoomFor_30 : decode cX2_hasRoomFor 30 = .ok (.if_icmp .ne 7, 3) := by decide +kernel
theorem dX2_hasRoomFor_33 : decode cX2_hasRoomFor 33 = .ok (.iconst 1, 1) := by decide +kernel
theorem dX2_hasRoomFor_34 : decode cX2_hasRoomFor 34 = .ok (.goto 4, 3) := by decide +kernel
theorem dX2_hasRoomFor_37 : decode cX2_hasRoomFor 37 = .ok (.iconst 0, 1) := by decide +kernel
theorem dX2_hasRoomFor_38 : decode cX2_hasRoomFor 38 = .ok (.ireturn, 1) := by decide +kernel
theorem dX2_put_0 : decode cX2_put 0 = .ok (.aload_n 0, 1) := by decide +kernel
theorem dX2_put_1 : decode cX2_put 1 = .ok (.iload_n 1, 1) := by decide +kernel
theorem dX2_put_2 : decode cX2_put 2 = .ok (.invokevirtual 28, 3) := by decide +kernel
theorem dX2_put_5 : decode cX2_put 5 = .ok (.istore_n 3, 1) := by decide +kernel
theorem dX2_put_6 : decode cX2_put 6 = .ok (.iload_n 3, 1) := by decide +kernel
theorem dX2_put_7 : decode cX2_put 7 = .ok (.aload_n 0, 1) := by decide +kernel
theorem dX2_put_8 : decode cX2_put 8 = .ok (.getfield 18, 3) := by decide +kernel
theorem dX2_put_11 : decode cX2_put 11 = .ok (.if_icmp .ge 13, 3) := by decide +kernel
theorem dX2_put_14 : decode cX2_put 14 = .ok (.aload_n 0, 1) := by decide +kernel
theorem dX2_put_15 : decode cX2_put 15 = .ok (.getfield 9, 3) := by decide +kernel
theorem dX2_put_18 : decode cX2_put 18 = .ok (.iload_n 3, 1) := by decide +kernel
theorem dX2_put_19 : decode cX2_put 19 = .ok (.iaload, 1) := by decide +kernel
theorem dX2_put_20 : decode cX2_put 20 = .ok (.iload_n 1, 1) := by decide +kernel
theorem dX2_put_21 : decode cX2_put 21 = .ok (.if_icmp .eq 63, 3) := by decide +kernel
theorem dX2_put_24 : decode cX2_put 24 = .ok (.aload_n 0, 1) := by decide +kernel
theorem dX2_put_25 : decode cX2_put 25 = .ok (.getfield 18, 3) := by decide +kernel
theorem dX2_put_28 : decode cX2_put 28 = .ok (.istore 4, 2) := by decide +kernel
theorem dX2_put_30 : decode cX2_put 30 = .ok (.iload 4, 2) := by decide +kernel
theorem dX2_put_32 : decode cX2_put 32 = .ok (.iload_n 3, 1) := by decide +kernel
theorem dX2_put_33 : decode cX2_put 33 = .ok (.if_icmp .le 41, 3) := by decide +kernel
theorem dX2_put_36 : decode cX2_put 36 = .ok (.aload_n 0, 1) := by decide +kernel
theorem dX2_put_37 : decode cX2_put 37 = .ok (.getfield 9, 3) := by decide +kernel
theorem dX2_put_40 : decode cX2_put 40 = .ok (.iload 4, 2) := by decide +kernel
theorem dX2_put_42 : decode cX2_put 42 = .ok (.aload_n 0, 1) := by decide +kernel
theorem dX2_put_43 : decode cX2_put 43 = .ok (.getfield 9, 3) := by decide +kernel
theorem dX2_put_46 : decode cX2_put 46 = .ok (.iload 4, 2) := by decide +kernel
theorem dX2_put_48 : decode cX2_put 48 = .ok (.iconst 1, 1) := by decide +kernel
theorem dX2_put_49 : decode cX2_put 49 = .ok (.isub, 1) := by decide +kernel
theorem dX2_put_50 : decode cX2_put 50 = .ok (.iaload, 1) := by decide +kernel
theorem dX2_put_51 : decode cX2_put 51 = .ok (.iastore, 1) := by decide +kernel
theorem dX2_put_52 : decode cX2_put 52 = .ok (.aload_n 0, 1) := by decide +kernel
theorem dX2_put_53 : decode cX2_put 53 = .ok (.getfield 15, 3) := by decide +kernel
theorem dX2_put_56 : decode cX2_put 56 = .ok (.iload 4, 2) := by decide +kernel
theorem dX2_put_58 : decode cX2_put 58 = .ok (.aload_n 0, 1) := by decide +kernel
theorem dX2_put_59 : decode cX2_put 59 = .ok (.getfield 15, 3) := by decide +kernel
theorem dX2_put_62 : decode cX2_put 62 = .ok (.iload 4, 2) := by decide +kernel
theorem dX2_put_64 : decode cX2_put 64 = .ok (.iconst 1, 1) := by decide +kernel
theorem dX2_put_65 : decode cX2_put 65 = .ok (.isub, 1) := by decide +kernel
theorem dX2_put_66 : decode cX2_put 66 = .ok (.iaload, 1) := by decide +kernel
theorem dX2_put_67 : decode cX2_put 67 = .ok (.iastore, 1) := by decide +kernel
theorem dX2_put_68 : decode cX2_put 68 = .ok (.iinc 4 (-1), 3) := by decide +kernel
theorem dX2_put_71 : decode cX2_put 71 = .ok (.goto (-41), 3) := by decide +kernel
theorem dX2_put_74 : decode cX2_put 74 = .ok (.aload_n 0, 1) := by decide +kernel
theorem dX2_put_75 : decode cX2_put 75 = .ok (.dup, 1) := by decide +kernel
theorem dX2_put_76 : decode cX2_put 76 = .ok (.getfield 18, 3) := by decide +kernel
theorem dX2_put_79 : decode cX2_put 79 = .ok (.iconst 1, 1) := by decide +kernel
theorem dX2_put_80 : decode cX2_put 80 = .ok (.iadd, 1) := by decide +kernel
theorem dX2_put_81 : decode cX2_put 81 = .ok (.putfield 18, 3) := by decide +kernel
theorem dX2_put_84 : decode cX2_put 84 = .ok (.aload_n 0, 1) := by decide +kernel
theorem dX2_put_85 : decode cX2_put 85 = .ok (.getfield 9, 3) := by decide +kernel
theorem dX2_put_88 : decode cX2_put 88 = .ok (.iload_n 3, 1) := by decide +kernel
theorem dX2_put_89 : decode cX2_put 89 = .ok (.iload_n 1, 1) := by decide +kernel
theorem dX2_put_90 : decode cX2_put 90 = .ok (.iastore, 1) := by decide +kernel
theorem dX2_put_91 : decode cX2_put 91 = .ok (.aload_n 0, 1) := by decide +kernel
theorem dX2_put_92 : decode cX2_put 92 = .ok (.getfield 15, 3) := by decide +kernel
theorem dX2_put_95 : decode cX2_put 95 = .ok (.iload_n 3, 1) := by decide +kernel
theorem dX2_put_96 : decode cX2_put 96 = .ok (.iload_n 2, 1) := by decide +kernel
theorem dX2_put_97 : decode cX2_put 97 = .ok (.iastore, 1) := by decide +kernel
theorem dX2_put_98 : decode cX2_put 98 = .ok (.return_, 1) := by decide +kernel
theorem dX2_indexFor_0 : decode cX2_indexFor 0 = .ok (.iconst 0, 1) := by decide +kernel
theorem dX2_indexFor_1 : decode cX2_indexFor 1 = .ok (.istore_n 2, 1) := by decide +kernel
theorem dX2_indexFor_2 : decode cX2_indexFor 2 = .ok (.iload_n 2, 1) := by decide +kernel
theorem dX2_indexFor_3 : decode cX2_indexFor 3 = .ok (.aload_n 0, 1) := by decide +kernel
theorem dX2_indexFor_4 : decode cX2_indexFor 4 = .ok (.getfield 18, 3) := by decide +kernel
theorem dX2_indexFor_7 : decode cX2_indexFor 7 = .ok (.if_icmp .ge 19, 3) := by decide +kernel
theorem dX2_indexFor_10 : decode cX2_indexFor 10 = .ok (.aload_n 0, 1) := by decide +kernel
theorem dX2_indexFor_11 : decode cX2_indexFor 11 = .ok (.getfield 9, 3) := by decide +kernel
theorem dX2_indexFor_14 : decode cX2_indexFor 14 = .ok (.iload_n 2, 1) := by decide +kernel
theorem dX2_indexFor_15 : decode cX2_indexFor 15 = .ok (.iaload, 1) := by decide +kernel
theorem dX2_indexFor_16 : decode cX2_indexFor 16 = .ok (.iload_n 1, 1) := by decide +kernel
theorem dX2_indexFor_17 : decode cX2_indexFor 17 = .ok (.if_icmp .ge 9, 3) := by decide +kernel
theorem dX2_indexFor_20 : decode cX2_indexFor 20 = .ok (.iinc 2 1, 3) := by decide +kernel
theorem dX2_indexFor_23 : decode cX2_indexFor 23 = .ok (.goto (-21), 3) := by decide +kernel
theorem dX2_indexFor_26 : decode cX2_indexFor 26 = .ok (.iload_n 2, 1) := by decide +kernel
theorem dX2_indexFor_27 : decode cX2_indexFor 27 = .ok (.ireturn, 1) := by decide +kernel
theorem dX2_limitAt_0 : decode cX2_limitAt 0 = .ok (.aload_n 0, 1) := by decide +kernel
theorem dX2_limitAt_1 : decode cX2_limitAt 1 = .ok (.getfield 18, 3) := by decide +kernel
theorem dX2_limitAt_4 : decode cX2_limitAt 4 = .ok (.ifCond .ne 6, 3) := by decide +kernel
theorem dX2_limitAt_7 : decode cX2_limitAt 7 = .ok (.ldc 32, 2) := by decide +kernel
theorem dX2_limitAt_9 : decode cX2_limitAt 9 = .ok (.freturn, 1) := by decide +kernel
theorem dX2_limitAt_10 : decode cX2_limitAt 10 = .ok (.fload_n 1, 1) := by decide +kernel
theorem dX2_limitAt_11 : decode cX2_limitAt 11 = .ok (.aload_n 0, 1) := by decide +kernel
theorem dX2_limitAt_12 : decode cX2_limitAt 12 = .ok (.getfield 9, 3) := by decide +kernel
theorem dX2_limitAt_15 : decode cX2_limitAt 15 = .ok (.iconst 0, 1) := by decide +kernel
theorem dX2_limitAt_16 : decode cX2_limitAt 16 = .ok (.iaload, 1) := by decide +kernel
theorem dX2_limitAt_17 : decode cX2_limitAt 17 = .ok (.i2f, 1) := by decide +kernel
theorem dX2_limitAt_18 : decode cX2_limitAt 18 = .ok (.ldc 33, 2) := by decide +kernel
theorem dX2_limitAt_20 : decode cX2_limitAt 20 = .ok (.fdiv, 1) := by decide +kernel
theorem dX2_limitAt_21 : decode cX2_limitAt 21 = .ok (.fcmp .g, 1) := by decide +kernel
theorem dX2_limitAt_22 : decode cX2_limitAt 22 = .ok (.ifCond .gt 14, 3) := by decide +kernel
theorem dX2_limitAt_25 : decode cX2_limitAt 25 = .ok (.aload_n 0, 1) := by decide +kernel
theorem dX2_limitAt_26 : decode cX2_limitAt 26 = .ok (.getfield 15, 3) := by decide +kernel
theorem dX2_limitAt_29 : decode cX2_limitAt 29 = .ok (.iconst 0, 1) := by decide +kernel
theorem dX2_limitAt_30 : decode cX2_limitAt 30 = .ok (.iaload, 1) := by decide +kernel
theorem dX2_limitAt_31 : decode cX2_limitAt 31 = .ok (.i2f, 1) := by decide +kernel
theorem dX2_limitAt_32 : decode cX2_limitAt 32 = .ok (.ldc 34, 2) := by decide +kernel
theorem dX2_limitAt_34 : decode cX2_limitAt 34 = .ok (.fdiv, 1) := by decide +kernel
theorem dX2_limitAt_35 : decode cX2_limitAt 35 = .ok (.freturn, 1) := by decide +kernel
theorem dX2_limitAt_36 : decode cX2_limitAt 36 = .ok (.iconst 1, 1) := by decide +kernel
theorem dX2_limitAt_37 : decode cX2_limitAt 37 = .ok (.istore_n 2, 1) := by decide +kernel
theorem dX2_limitAt_38 : decode cX2_limitAt 38 = .ok (.iload_n 2, 1) := by decide +kernel
theorem dX2_limitAt_39 : decode cX2_limitAt 39 = .ok (.aload_n 0, 1) := by decide +kernel
theorem dX2_limitAt_40 : decode cX2_limitAt 40 = .ok (.getfield 18, 3) := by decide +kernel
theorem dX2_limitAt_43 : decode cX2_limitAt 43 = .ok (.if_icmp .ge 92, 3) := by decide +kernel
theorem dX2_limitAt_46 : decode cX2_limitAt 46 = .ok (.aload_n 0, 1) := by decide +kernel
theorem dX2_limitAt_47 : decode cX2_limitAt 47 = .ok (.getfield 9, 3) := by decide +kernel
theorem dX2_limitAt_50 : decode cX2_limitAt 50 = .ok (.iload_n 2, 1) := by decide +kernel
theorem dX2_limitAt_51 : decode cX2_limitAt 51 = .ok (.iconst 1, 1) := by decide +kernel
theorem dX2_limitAt_52 : decode cX2_limitAt 52 = .ok (.isub, 1) := by decide +kernel
theorem dX2_limitAt_53 : decode cX2_limitAt 53 = .ok (.iaload, 1) := by decide +kernel
theorem dX2_limitAt_54 : decode cX2_limitAt 54 = .ok (.i2f, 1) := by decide +kernel
theorem dX2_limitAt_55 : decode cX2_limitAt 55 = .ok (.ldc 33, 2) := by decide +kernel
theorem dX2_limitAt_57 : decode cX2_limitAt 57 = .ok (.fdiv, 1) := by decide +kernel
theorem dX2_limitAt_58 : decode cX2_limitAt 58 = .ok (.fstore_n 3, 1) := by decide +kernel
theorem dX2_limitAt_59 : decode cX2_limitAt 59 = .ok (.aload_n 0, 1) := by decide +kernel
theorem dX2_limitAt_60 : decode cX2_limitAt 60 = .ok (.getfield 9, 3) := by decide +kernel
theorem dX2_limitAt_63 : decode cX2_limitAt 63 = .ok (.iload_n 2, 1) := by decide +kernel
theorem dX2_limitAt_64 : decode cX2_limitAt 64 = .ok (.iaload, 1) := by decide +kernel
theorem dX2_limitAt_65 : decode cX2_limitAt 65 = .ok (.i2f, 1) := by decide +kernel
theorem dX2_limitAt_66 : decode cX2_limitAt 66 = .ok (.ldc 33, 2) := by decide +kernel
theorem dX2_limitAt_68 : decode cX2_limitAt 68 = .ok (.fdiv, 1) := by decide +kernel
theorem dX2_limitAt_69 : decode cX2_limitAt 69 = .ok (.fstore 4, 2) := by decide +kernel
theorem dX2_limitAt_71 : decode cX2_limitAt 71 = .ok (.fload_n 1, 1) := by decide +kernel
theorem dX2_limitAt_72 : decode cX2_limitAt 72 = .ok (.fload 4, 2) := by decide +kernel
theorem dX2_limitAt_74 : decode cX2_limitAt 74 = .ok (.fcmp .g, 1) := by decide +kernel
theorem dX2_limitAt_75 : decode cX2_limitAt 75 = .ok (.ifCond .ge 54, 3) := by decide +kernel
theorem dX2_limitAt_78 : decode cX2_limitAt 78 = .ok (.fload_n 3, 1) := by decide +kernel
theorem dX2_limitAt_79 : decode cX2_limitAt 79 = .ok (.fload 4, 2) := by decide +kernel
theorem dX2_limitAt_81 : decode cX2_limitAt 81 = .ok (.fcmp .g, 1) := by decide +kernel
theorem dX2_limitAt_82 : decode cX2_limitAt 82 = .ok (.ifCond .ge 47, 3) := by decide +kernel
theorem dX2_limitAt_85 : decode cX2_limitAt 85 = .ok (.aload_n 0, 1) := by decide +kernel
theorem dX2_limitAt_86 : decode cX2_limitAt 86 = .ok (.getfield 15, 3) := by decide +kernel
theorem dX2_limitAt_89 : decode cX2_limitAt 89 = .ok (.iload_n 2, 1) := by decide +kernel
theorem dX2_limitAt_90 : decode cX2_limitAt 90 = .ok (.iconst 1, 1) := by decide +kernel
theorem dX2_limitAt_91 : decode cX2_limitAt 91 = .ok (.isub, 1) := by decide +kernel
theorem dX2_limitAt_92 : decode cX2_limitAt 92 = .ok (.iaload, 1) := by decide +kernel
theorem dX2_limitAt_93 : decode cX2_limitAt 93 = .ok (.i2f, 1) := by decide +kernel
theorem dX2_limitAt_94 : decode cX2_limitAt 94 = .ok (.ldc 34, 2) := by decide +kernel
theorem dX2_limitAt_96 : decode cX2_limitAt 96 = .ok (.fdiv, 1) := by decide +kernel
theorem dX2_limitAt_97 : decode cX2_limitAt 97 = .ok (.fstore 5, 2) := by decide +kernel
theorem dX2_limitAt_99 : decode cX2_limitAt 99 = .ok (.aload_n 0, 1) := by decide +kernel
theorem dX2_limitAt_100 : decode cX2_limitAt 100 = .ok (.getfield 15, 3) := by decide +kernel
theorem dX2_limitAt_103 : decode cX2_limitAt 103 = .ok (.iload_n 2, 1) := by decide +kernel
theorem dX2_limitAt_104 : decode cX2_limitAt 104 = .ok (.iaload, 1) := by decide +kernel
theorem dX2_limitAt_105 : decode cX2_limitAt 105 = .ok (.i2f, 1) := by decide +kernel
theorem dX2_limitAt_106 : decode cX2_limitAt 106 = .ok (.ldc 34, 2) := by decide +kernel
theorem dX2_limitAt_108 : decode cX2_limitAt 108 = .ok (.fdiv, 1) := by decide +kernel
theorem dX2_limitAt_109 : decode cX2_limitAt 109 = .ok (.fstore 6, 2) := by decide +kernel
theorem dX2_limitAt_111 : decode cX2_limitAt 111 = .ok (.fload 5, 2) := by decide +kernel
theorem dX2_limitAt_113 : decode cX2_limitAt 113 = .ok (.fload 6, 2) := by decide +kernel
theorem dX2_limitAt_115 : decode cX2_limitAt 115 = .ok (.fload 5, 2) := by decide +kernel
theorem dX2_limitAt_117 : decode cX2_limitAt 117 = .ok (.fsub, 1) := by decide +kernel
theorem dX2_limitAt_118 : decode cX2_limitAt 118 = .ok (.fload_n 1, 1) := by decide +kernel
theorem dX2_limitAt_119 : decode cX2_limitAt 119 = .ok (.fload_n 3, 1) := by decide +kernel
theorem dX2_limitAt_120 : decode cX2_limitAt 120 = .ok (.fsub, 1) := by decide +kernel
theorem dX2_limitAt_121 : decode cX2_limitAt 121 = .ok (.fload 4, 2) := by decide +kernel
theorem dX2_limitAt_123 : decode cX2_limitAt 123 = .ok (.fload_n 3, 1) := by decide +kernel
theorem dX2_limitAt_124 : decode cX2_limitAt 124 = .ok (.fsub, 1) := by decide +kernel
theorem dX2_limitAt_125 : decode cX2_limitAt 125 = .ok (.fdiv, 1) := by decide +kernel
theorem dX2_limitAt_126 : decode cX2_limitAt 126 = .ok (.fmul, 1) := by decide +kernel
theorem dX2_limitAt_127 : decode cX2_limitAt 127 = .ok (.fadd, 1) := by decide +kernel
theorem dX2_limitAt_128 : decode cX2_limitAt 128 = .ok (.freturn, 1) := by decide +kernel
theorem dX2_limitAt_129 : decode cX2_limitAt 129 = .ok (.iinc 2 1, 3) := by decide +kernel
theorem dX2_limitAt_132 : decode cX2_limitAt 132 = .ok (.goto (-94), 3) := by decide +kernel
theorem dX2_limitAt_135 : decode cX2_limitAt 135 = .ok (.aload_n 0, 1) := by decide +kernel
theorem dX2_limitAt_136 : decode cX2_limitAt 136 = .ok (.getfield 15, 3) := by decide +kernel
theorem dX2_limitAt_139 : decode cX2_limitAt 139 = .ok (.aload_n 0, 1) := by decide +kernel
theorem dX2_limitAt_140 : decode cX2_limitAt 140 = .ok (.getfield 18, 3) := by decide +kernel
theorem dX2_limitAt_143 : decode cX2_limitAt 143 = .ok (.iconst 1, 1) := by decide +kernel
theorem dX2_limitAt_144 : decode cX2_limitAt 144 = .ok (.isub, 1) := by decide +kernel
theorem dX2_limitAt_145 : decode cX2_limitAt 145 = .ok (.iaload, 1) := by decide +kernel
theorem dX2_limitAt_146 : decode cX2_limitAt 146 = .ok (.i2f, 1) := by decide +kernel
theorem dX2_limitAt_147 : decode cX2_limitAt 147 = .ok (.ldc 34, 2) := by decide +kernel
theorem dX2_limitAt_149 : decode cX2_limitAt 149 = .ok (.fdiv, 1) := by decide +kernel
theorem dX2_limitAt_150 : decode cX2_limitAt 150 = .ok (.freturn, 1) := by decide +kernel
theorem dX3_init_0 : decode cX3_init 0 = .ok (.aload_n 0, 1) := by decide +kernel
theorem dX3_init_1 : decode cX3_init 1 = .ok (.invokespecial 1, 3) := by decide +kernel
theorem dX3_init_4 : decode cX3_init 4 = .ok (.return_, 1) := by decide +kernel
theorem dX3_copyFrom_0 : decode cX3_copyFrom 0 = .ok (.aload_n 0, 1) := by decide +kernel
theorem dX3_copyFrom_1 : decode cX3_copyFrom 1 = .ok (.aload_n 1, 1) := by decide +kernel
theorem dX3_copyFrom_2 : decode cX3_copyFrom 2 = .ok (.getfield 7, 3) := by decide +kernel
theorem dX3_copyFrom_5 : decode cX3_copyFrom 5 = .ok (.putfield 7, 3) := by decide +kernel
theorem dX3_copyFrom_8 : decode cX3_copyFrom 8 = .ok (.aload_n 0, 1) := by decide +kernel
theorem dX3_copyFrom_9 : decode cX3_copyFrom 9 = .ok (.aload_n 1, 1) := by decide +kernel
theorem dX3_copyFrom_10 : decode cX3_copyFrom 10 = .ok (.getfield 13, 3) := by decide +kernel
theorem dX3_copyFrom_13 : decode cX3_copyFrom 13 = .ok (.putfield 13, 3) := by decide +kernel
theorem dX3_copyFrom_16 : decode cX3_copyFrom 16 = .ok (.aload_n 0, 1) := by decide +kernel
theorem dX3_copyFrom_17 : decode cX3_copyFrom 17 = .ok (.aload_n 1, 1) := by decide +kernel
theorem dX3_copyFrom_18 : decode cX3_copyFrom 18 = .ok (.getfield 16, 3) := by decide +kernel
theorem dX3_copyFrom_21 : decode cX3_copyFrom 21 = .ok (.putfield 16, 3) := by decide +kernel
theorem dX3_copyFrom_24 : decode cX3_copyFrom 24 = .ok (.aload_n 0, 1) := by decide +kernel
theorem dX3_copyFrom_25 : decode cX3_copyFrom 25 = .ok (.aload_n 1, 1) := by decide +kernel
theorem dX3_copyFrom_26 : decode cX3_copyFrom 26 = .ok (.getfield 20, 3) := by decide +kernel
theorem dX3_copyFrom_29 : decode cX3_copyFrom 29 = .ok (.putfield 20, 3) := by decide +kernel
theorem dX3_copyFrom_32 : decode cX3_copyFrom 32 = .ok (.aload_n 0, 1) := by decide +kernel
theorem dX3_copyFrom_33 : decode cX3_copyFrom 33 = .ok (.aload_n 1, 1) := by decide +kernel
theorem dX3_copyFrom_34 : decode cX3_copyFrom 34 = .ok (.getfield 23, 3) := by decide +kernel
theorem dX3_copyFrom_37 : decode cX3_copyFrom 37 = .ok (.putfield 23, 3) := by decide +kernel
theorem dX3_copyFrom_40 : decode cX3_copyFrom 40 = .ok (.return_, 1) := by decide +kernel
theorem dX3_startFar_0 : decode cX3_startFar 0 = .ok (.aload_n 0, 1) := by decide +kernel
theorem dX3_startFar_1 : decode cX3_startFar 1 = .ok (.iconst 0, 1) := by decide +kernel
theorem dX3_startFar_2 : decode cX3_startFar 2 = .ok (.putfield 16, 3) := by decide +kernel
theorem dX3_startFar_5 : decode cX3_startFar 5 = .ok (.aload_n 0, 1) := by decide +kernel
theorem dX3_startFar_6 : decode cX3_startFar 6 = .ok (.iconst 0, 1) := by decide +kernel
theorem dX3_startFar_7 : decode cX3_startFar 7 = .ok (.putfield 20, 3) := by decide +kernel
theorem dX3_startFar_10 : decode cX3_startFar 10 = .ok (.return_, 1) := by decide +kernel
theorem dX3_farMeasured_0 : decode cX3_farMeasured 0 = .ok (.fload_n 1, 1) := by decide +kernel
theorem dX3_farMeasured_1 : decode cX3_farMeasured 1 = .ok (.aload_n 0, 1) := by decide +kernel
theorem dX3_farMeasured_2 : decode cX3_farMeasured 2 = .ok (.getfield 7, 3) := by decide +kernel
theorem dX3_farMeasured_5 : decode cX3_farMeasured 5 = .ok (.i2f, 1) := by decide +kernel
theorem dX3_farMeasured_6 : decode cX3_farMeasured 6 = .ok (.ldc 26, 2) := by decide +kernel
theorem dX3_farMeasured_8 : decode cX3_farMeasured 8 = .ok (.fdiv, 1) := by decide +kernel
theorem dX3_farMeasured_9 : decode cX3_farMeasured 9 = .ok (.fadd, 1) := by decide +kernel
theorem dX3_farMeasured_10 : decode cX3_farMeasured 10 = .ok (.freturn, 1) := by decide +kernel
theorem dX3_nearMeasured_0 : decode cX3_nearMeasured 0 = .ok (.fload_n 1, 1) := by decide +kernel
theorem dX3_nearMeasured_1 : decode cX3_nearMeasured 1 = .ok (.aload_n 0, 1) := by decide +kernel
theorem dX3_nearMeasured_2 : decode cX3_nearMeasured 2 = .ok (.getfield 13, 3) := by decide +kernel
theorem dX3_nearMeasured_5 : decode cX3_nearMeasured 5 = .ok (.i2f, 1) := by decide +kernel
theorem dX3_nearMeasured_6 : decode cX3_nearMeasured 6 = .ok (.ldc 26, 2) := by decide +kernel
theorem dX3_nearMeasured_8 : decode cX3_nearMeasured 8 = .ok (.fdiv, 1) := by decide +kernel
theorem dX3_nearMeasured_9 : decode cX3_nearMeasured 9 = .ok (.fadd, 1) := by decide +kernel
theorem dX3_nearMeasured_10 : decode cX3_nearMeasured 10 = .ok (.freturn, 1) := by decide +kernel
theorem dX3_measured_0 : decode cX3_measured 0 = .ok (.aload_n 0, 1) := by decide +kernel
theorem dX3_measured_1 : decode cX3_measured 1 = .ok (.getfield 16, 3) := by decide +kernel
theorem dX3_measured_4 : decode cX3_measured 4 = .ok (.ifCond .eq 11, 3) := by decide +kernel
theorem dX3_measured_7 : decode cX3_measured 7 = .ok (.aload_n 0, 1) := by decide +kernel
theorem dX3_measured_8 : decode cX3_measured 8 = .ok (.fload_n 1, 1) := by decide +kernel
theorem dX3_measured_9 : decode cX3_measured 9 = .ok (.invokevirtual 27, 3) := by decide +kernel
theorem dX3_measured_12 : decode cX3_measured 12 = .ok (.goto 8, 3) := by decide +kernel
theorem dX3_measured_15 : decode cX3_measured 15 = .ok (.aload_n 0, 1) := by decide +kernel
theorem dX3_measured_16 : decode cX3_measured 16 = .ok (.fload_n 1, 1) := by decide +kernel
theorem dX3_measured_17 : decode cX3_measured 17 = .ok (.invokevirtual 31, 3) := by decide +kernel
theorem dX3_measured_20 : decode cX3_measured 20 = .ok (.freturn, 1) := by decide +kernel
theorem dX3_compare_0 : decode cX3_compare 0 = .ok (.fload_n 1, 1) := by decide +kernel
theorem dX3_compare_1 : decode cX3_compare 1 = .ok (.ldc 34, 2) := by decide +kernel
theorem dX3_compare_3 : decode cX3_compare 3 = .ok (.fcmp .g, 1) := by decide +kernel
theorem dX3_compare_4 : decode cX3_compare 4 = .ok (.ifCond .gt 7, 3) := by decide +kernel
theorem dX3_compare_7 : decode cX3_compare 7 = .ok (.iconst 1, 1) := by decide +kernel
theorem dX3_compare_8 : decode cX3_compare 8 = .ok (.goto 4, 3) := by decide +kernel
theorem dX3_compare_11 : decode cX3_compare 11 = .ok (.iconst 0, 1) := by decide +kernel
theorem dX3_compare_12 : decode cX3_compare 12 = .ok (.istore_n 2, 1) := by decide +kernel
theorem dX3_compare_13 : decode cX3_compare 13 = .ok (.aload_n 0, 1) := by decide +kernel
theorem dX3_compare_14 : decode cX3_compare 14 = .ok (.getfield 16, 3) := by decide +kernel
theorem dX3_compare_17 : decode cX3_compare 17 = .ok (.ifCond .ne 31, 3) := by decide +kernel
theorem dX3_compare_20 : decode cX3_compare 20 = .ok (.iload_n 2, 1) := by decide +kernel
theorem dX3_compare_21 : decode cX3_compare 21 = .ok (.ifCond .eq 27, 3) := by decide +kernel
theorem dX3_compare_24 : decode cX3_compare 24 = .ok (.aload_n 0, 1) := by decide +kernel
theorem dX3_compare_25 : decode cX3_compare 25 = .ok (.fload_n 1, 1) := by decide +kernel
theorem dX3_compare_26 : decode cX3_compare 26 = .ok (.invokevirtual 31, 3) := by decide +kernel
theorem dX3_compare_29 : decode cX3_compare 29 = .ok (.aload_n 0, 1) := by decide +kernel
theorem dX3_compare_30 : decode cX3_compare 30 = .ok (.fload_n 1, 1) := by decide +kernel
theorem dX3_compare_31 : decode cX3_compare 31 = .ok (.invokevirtual 27, 3) := by decide +kernel
theorem dX3_compare_34 : decode cX3_compare 34 = .ok (.fsub, 1) := by decide +kernel
theorem dX3_compare_35 : decode cX3_compare 35 = .ok (.invokestatic 35, 3) := by decide +kernel
theorem dX3_compare_38 : decode cX3_compare 38 = .ok (.ldc 40, 2) := by decide +kernel
theorem dX3_compare_40 : decode cX3_compare 40 = .ok (.fcmp .g, 1) := by decide +kernel
theorem dX3_compare_41 : decode cX3_compare 41 = .ok (.ifCond .ge 7, 3) := by decide +kernel
theorem dX3_compare_44 : decode cX3_compare 44 = .ok (.iconst 1, 1) := by decide +kernel
theorem dX3_compare_45 : decode cX3_compare 45 = .ok (.goto 4, 3) := by decide +kernel
theorem dX3_compare_48 : decode cX3_compare 48 = .ok (.iconst 0, 1) := by decide +kernel
theorem dX3_compare_49 : decode cX3_compare 49 = .ok (.istore_n 3, 1) := by decide +kernel
theorem dX3_compare_50 : decode cX3_compare 50 = .ok (.aload_n 0, 1) := by decide +kernel
theorem dX3_compare_51 : decode cX3_compare 51 = .ok (.iload_n 3, 1) := by decide +kernel
theorem dX3_compare_52 : decode cX3_compare 52 = .ok (.ifCond .eq 12, 3) := by decide +kernel
theorem dX3_compare_55 : decode cX3_compare 55 = .ok (.aload_n 0, 1) := by decide +kernel
theorem dX3_compare_56 : decode cX3_compare 56 = .ok (.getfield 20, 3) := by decide +kernel
theorem dX3_compare_59 : decode cX3_compare 59 = .ok (.iconst 1, 1) := by decide +kernel
theorem dX3_compare_60 : decode cX3_compare 60 = .ok (.iadd, 1) := by decide +kernel
theorem dX3_compare_61 : decode cX3_compare 61 = .ok (.goto 4, 3) := by decide +kernel
theorem dX3_compare_64 : decode cX3_compare 64 = .ok (.iconst 0, 1) := by decide +kernel
theorem dX3_compare_65 : decode cX3_compare 65 = .ok (.putfield 20, 3) := by decide +kernel
theorem dX3_compare_68 : decode cX3_compare 68 = .ok (.aload_n 0, 1) := by decide +kernel
theorem dX3_compare_69 : decode cX3_compare 69 = .ok (.getfield 20, 3) := by decide +kernel
theorem dX3_compare_72 : decode cX3_compare 72 = .ok (.iconst 3, 1) := by decide +kernel
theorem dX3_compare_73 : decode cX3_compare 73 = .ok (.if_icmp .ne 26, 3) := by decide +kernel
theorem dX3_compare_76 : decode cX3_compare 76 = .ok (.aload_n 0, 1) := by decide +kernel
theorem dX3_compare_77 : decode cX3_compare 77 = .ok (.iconst 1, 1) := by decide +kernel
theorem dX3_compare_78 : decode cX3_compare 78 = .ok (.putfield 16, 3) := by decide +kernel
theorem dX3_compare_81 : decode cX3_compare 81 = .ok (.aload_n 0, 1) := by decide +kernel
theorem dX3_compare_82 : decode cX3_compare 82 = .ok (.iconst 0, 1) := by decide +kernel
theorem dX3_compare_83 : decode cX3_compare 83 = .ok (.putfield 20, 3) := by decide +kernel
theorem dX3_compare_86 : decode cX3_compare 86 = .ok (.aload_n 0, 1) := by decide +kernel
theorem dX3_compare_87 : decode cX3_compare 87 = .ok (.dup, 1) := by decide +kernel
theorem dX3_compare_88 : decode cX3_compare 88 = .ok (.getfield 23, 3) := by decide +kernel
theorem dX3_compare_91 : decode cX3_compare 91 = .ok (.iconst 1, 1) := by decide +kernel
theorem dX3_compare_92 : decode cX3_compare 92 = .ok (.iadd, 1) := by decide +kernel
theorem dX3_compare_93 : decode cX3_compare 93 = .ok (.putfield 23, 3) := by decide +kernel
theorem dX3_compare_96 : decode cX3_compare 96 = .ok (.goto 29, 3) := by decide +kernel
theorem dX3_compare_99 : decode cX3_compare 99 = .ok (.aload_n 0, 1) := by decide +kernel
theorem dX3_compare_100 : decode cX3_compare 100 = .ok (.getfield 16, 3) := by decide +kernel
theorem dX3_compare_103 : decode cX3_compare 103 = .ok (.ifCond .eq 22, 3) := by decide +kernel
theorem dX3_compare_106 : decode cX3_compare 106 = .ok (.iload_n 2, 1) := by decide +kernel
theorem dX3_compare_107 : decode cX3_compare 107 = .ok (.ifCond .ne 18, 3) := by decide +kernel
theorem dX3_compare_110 : decode cX3_compare 110 = .ok (.aload_n 0, 1) := by decide +kernel
theorem dX3_compare_111 : decode cX3_compare 111 = .ok (.iconst 0, 1) := by decide +kernel
theorem dX3_compare_112 : decode cX3_compare 112 = .ok (.putfield 16, 3) := by decide +kernel
theorem dX3_compare_115 : decode cX3_compare 115 = .ok (.aload_n 0, 1) := by decide +kernel
theorem dX3_compare_116 : decode cX3_compare 116 = .ok (.dup, 1) := by decide +kernel
theorem dX3_compare_117 : decode cX3_compare 117 = .ok (.getfield 23, 3) := by decide +kernel
theorem dX3_compare_120 : decode cX3_compare 120 = .ok (.iconst 1, 1) := by decide +kernel
theorem dX3_compare_121 : decode cX3_compare 121 = .ok (.iadd, 1) := by decide +kernel
theorem dX3_compare_122 : decode cX3_compare 122 = .ok (.putfield 23, 3) := by decide +kernel
theorem dX3_compare_125 : decode cX3_compare 125 = .ok (.return_, 1) := by decide +kernel
theorem dX4_init_0 : decode cX4_init 0 = .ok (.aload_n 0, 1) := by decide +kernel
theorem dX4_init_1 : decode cX4_init 1 = .ok (.invokespecial 3, 3) := by decide +kernel
theorem dX4_init_4 : decode cX4_init 4 = .ok (.aload_n 0, 1) := by decide +kernel
theorem dX4_init_5 : decode cX4_init 5 = .ok (.ldc 9, 2) := by decide +kernel
theorem dX4_init_7 : decode cX4_init 7 = .ok (.putfield 10, 3) := by decide +kernel
theorem dX4_init_10 : decode cX4_init 10 = .ok (.aload_n 0, 1) := by decide +kernel
theorem dX4_init_11 : decode cX4_init 11 = .ok (.bipush (-5), 2) := by decide +kernel
theorem dX4_init_13 : decode cX4_init 13 = .ok (.putfield 16, 3) := by decide +kernel
theorem dX4_init_16 : decode cX4_init 16 = .ok (.aload_n 0, 1) := by decide +kernel
theorem dX4_init_17 : decode cX4_init 17 = .ok (.bipush 8, 2) := by decide +kernel
theorem dX4_init_19 : decode cX4_init 19 = .ok (.newarray .int, 2) := by decide +kernel
theorem dX4_init_21 : decode cX4_init 21 = .ok (.putfield 20, 3) := by decide +kernel
theorem dX4_init_24 : decode cX4_init 24 = .ok (.getstatic 24, 3) := by decide +kernel
theorem dX4_init_27 : decode cX4_init 27 = .ok (.iconst 0, 1) := by decide +kernel
theorem dX4_init_28 : decode cX4_init 28 = .ok (.aload_n 0, 1) := by decide +kernel
theorem dX4_init_29 : decode cX4_init 29 = .ok (.getfield 20, 3) := by decide +kernel
theorem dX4_init_32 : decode cX4_init 32 = .ok (.iconst 0, 1) := by decide +kernel
theorem dX4_init_33 : decode cX4_init 33 = .ok (.bipush 8, 2) := by decide +kernel
theorem dX4_init_35 : decode cX4_init 35 = .ok (.invokestatic 27, 3) := by decide +kernel
theorem dX4_init_38 : decode cX4_init 38 = .ok (.aload_n 0, 1) := by decide +kernel
theorem dX4_init_39 : decode cX4_init 39 = .ok (.new 33, 3) := by decide +kernel
theorem dX4_init_42 : decode cX4_init 42 = .ok (.dup, 1) := by decide +kernel
theorem dX4_init_43 : decode cX4_init 43 = .ok (.invokespecial 35, 3) := by decide +kernel
theorem dX4_init_46 : decode cX4_init 46 = .ok (.putfield 36, 3) := by decide +kernel
theorem dX4_init_49 : decode cX4_init 49 = .ok (.aload_n 0, 1) := by decide +kernel
theorem dX4_init_50 : decode cX4_init 50 = .ok (.new 40, 3) := by decide +kernel
theorem dX4_init_53 : decode cX4_init 53 = .ok (.dup, 1) := by decide +kernel
theorem dX4_init_54 : decode cX4_init 54 = .ok (.invokespecial 42, 3) := by decide +kernel
theorem dX4_init_57 : decode cX4_init 57 = .ok (.putfield 43, 3) := by decide +kernel
theorem dX4_init_60 : decode cX4_init 60 = .ok (.aload_n 0, 1) := by decide +kernel
theorem dX4_init_61 : decode cX4_init 61 = .ok (.new 47, 3) := by decide +kernel
theorem dX4_init_64 : decode cX4_init 64 = .ok (.dup, 1) := by decide +kernel
theorem dX4_init_65 : decode cX4_init 65 = .ok (.invokespecial 49, 3) := by decide +kernel
theorem dX4_init_68 : decode cX4_init 68 = .ok (.putfield 50, 3) := by decide +kernel
theorem dX4_init_71 : decode cX4_init 71 = .ok (.return_, 1) := by decide +kernel
theorem dX4_copyFrom_0 : decode cX4_copyFrom 0 = .ok (.aload_n 0, 1) := by decide +kernel
theorem dX4_copyFrom_1 : decode cX4_copyFrom 1 = .ok (.aload_n 1, 1) := by decide +kernel
theorem dX4_copyFrom_2 : decode cX4_copyFrom 2 = .ok (.getfield 10, 3) := by decide +kernel
theorem dX4_copyFrom_5 : decode cX4_copyFrom 5 = .ok (.putfield 10, 3) := by decide +kernel
theorem dX4_copyFrom_8 : decode cX4_copyFrom 8 = .ok (.aload_n 0, 1) := by decide +kernel
theorem dX4_copyFrom_9 : decode cX4_copyFrom 9 = .ok (.aload_n 1, 1) := by decide +kernel
theorem dX4_copyFrom_10 : decode cX4_copyFrom 10 = .ok (.getfield 54, 3) := by decide +kernel
theorem dX4_copyFrom_13 : decode cX4_copyFrom 13 = .ok (.putfield 54, 3) := by decide +kernel
theorem dX4_copyFrom_16 : decode cX4_copyFrom 16 = .ok (.aload_n 0, 1) := by decide +kernel
theorem dX4_copyFrom_17 : decode cX4_copyFrom 17 = .ok (.aload_n 1, 1) := by decide +kernel
theorem dX4_copyFrom_18 : decode cX4_copyFrom 18 = .ok (.getfield 57, 3) := by decide +kernel
theorem dX4_copyFrom_21 : decode cX4_copyFrom 21 = .ok (.putfield 57, 3) := by decide +kernel
theorem dX4_copyFrom_24 : decode cX4_copyFrom 24 = .ok (.aload_n 0, 1) := by decide +kernel
theorem dX4_copyFrom_25 : decode cX4_copyFrom 25 = .ok (.aload_n 1, 1) := by decide +kernel
theorem dX4_copyFrom_26 : decode cX4_copyFrom 26 = .ok (.getfield 60, 3) := by decide +kernel
theorem dX4_copyFrom_29 : decode cX4_copyFrom 29 = .ok (.putfield 60, 3) := by decide +kernel
theorem dX4_copyFrom_32 : decode cX4_copyFrom 32 = .ok (.aload_n 0, 1) := by decide +kernel
theorem dX4_copyFrom_33 : decode cX4_copyFrom 33 = .ok (.aload_n 1, 1) := by decide +kernel
theorem dX4_copyFrom_34 : decode cX4_copyFrom 34 = .ok (.getfield 63, 3) := by decide +kernel
theorem dX4_copyFrom_37 : decode cX4_copyFrom 37 = .ok (.putfield 63, 3) := by decide +kernel
theorem dX4_copyFrom_40 : decode cX4_copyFrom 40 = .ok (.aload_n 0, 1) := by decide +kernel
theorem dX4_copyFrom_41 : decode cX4_copyFrom 41 = .ok (.aload_n 1, 1) := by decide +kernel
theorem dX4_copyFrom_42 : decode cX4_copyFrom 42 = .ok (.getfield 16, 3) := by decide +kernel
theorem dX4_copyFrom_45 : decode cX4_copyFrom 45 = .ok (.putfield 16, 3) := by decide +kernel
theorem dX4_copyFrom_48 : decode cX4_copyFrom 48 = .ok (.aload_n 0, 1) := by decide +kernel
theorem dX4_copyFrom_49 : decode cX4_copyFrom 49 = .ok (.aload_n 1, 1) := by decide +kernel
theorem dX4_copyFrom_50 : decode cX4_copyFrom 50 = .ok (.getfield 66, 3) := by decide +kernel
theorem dX4_copyFrom_53 : decode cX4_copyFrom 53 = .ok (.putfield 66, 3) := by decide +kernel
theorem dX4_copyFrom_56 : decode cX4_copyFrom 56 = .ok (.aload_n 0, 1) := by decide +kernel
theorem dX4_copyFrom_57 : decode cX4_copyFrom 57 = .ok (.aload_n 1, 1) := by decide +kernel
theorem dX4_copyFrom_58 : decode cX4_copyFrom 58 = .ok (.getfield 69, 3) := by decide +kernel
theorem dX4_copyFrom_61 : decode cX4_copyFrom 61 = .ok (.putfield 69, 3) := by decide +kernel
theorem dX4_copyFrom_64 : decode cX4_copyFrom 64 = .ok (.aload_n 0, 1) := by decide +kernel
theorem dX4_copyFrom_65 : decode cX4_copyFrom 65 = .ok (.aload_n 1, 1) := by decide +kernel
theorem dX4_copyFrom_66 : decode cX4_copyFrom 66 = .ok (.getfield 72, 3) := by decide +kernel
theorem dX4_copyFrom_69 : decode cX4_copyFrom 69 = .ok (.putfield 72, 3) := by decide +kernel
theorem dX4_copyFrom_72 : decode cX4_copyFrom 72 = .ok (.aload_n 0, 1) := by decide +kernel
theorem dX4_copyFrom_73 : decode cX4_copyFrom 73 = .ok (.aload_n 1, 1) := by decide +kernel
theorem dX4_copyFrom_74 : decode cX4_copyFrom 74 = .ok (.getfield 75, 3) := by decide +kernel
theorem dX4_copyFrom_77 : decode cX4_copyFrom 77 = .ok (.putfield 75, 3) := by decide +kernel
theorem dX4_copyFrom_80 : decode cX4_copyFrom 80 = .ok (.aload_n 1, 1) := by decide +kernel
theorem dX4_copyFrom_81 : decode cX4_copyFrom 81 = .ok (.getfield 20, 3) := by decide +kernel
theorem dX4_copyFrom_84 : decode cX4_copyFrom 84 = .ok (.iconst 0, 1) := by decide +kernel
theorem dX4_copyFrom_85 : decode cX4_copyFrom 85 = .ok (.aload_n 0, 1) := by decide +kernel
