theorem zd_87_104 : decode (zm_cc 87) 104 = .ok (.getfield 155, 3) := by decide +kernel
theorem zd_87_107 : decode (zm_cc 87) 107 = .ok (.iadd, 1) := by decide +kernel
theorem zd_87_108 : decode (zm_cc 87) 108 = .ok (.invokevirtual 158, 3) := by decide +kernel
theorem zd_87_111 : decode (zm_cc 87) 111 = .ok (.invokestatic 195, 3) := by decide +kernel
theorem zd_87_114 : decode (zm_cc 87) 114 = .ok (.ifCond .ne 19, 3) := by decide +kernel
theorem zd_87_117 : decode (zm_cc 87) 117 = .ok (.aload_n 0, 1) := by decide +kernel
theorem zd_87_118 : decode (zm_cc 87) 118 = .ok (.iload_n 1, 1) := by decide +kernel
theorem zd_87_119 : decode (zm_cc 87) 119 = .ok (.aload_n 0, 1) := by decide +kernel
theorem zd_87_120 : decode (zm_cc 87) 120 = .ok (.getfield 155, 3) := by decide +kernel
theorem zd_87_123 : decode (zm_cc 87) 123 = .ok (.iadd, 1) := by decide +kernel
theorem zd_87_124 : decode (zm_cc 87) 124 = .ok (.invokevirtual 158, 3) := by decide +kernel
theorem zd_87_127 : decode (zm_cc 87) 127 = .ok (.invokestatic 199, 3) := by decide +kernel
theorem zd_87_130 : decode (zm_cc 87) 130 = .ok (.ifCond .eq 16, 3) := by decide +kernel
theorem zd_87_133 : decode (zm_cc 87) 133 = .ok (.aload_n 0, 1) := by decide +kernel
theorem zd_87_134 : decode (zm_cc 87) 134 = .ok (.dup, 1) := by decide +kernel
theorem zd_87_135 : decode (zm_cc 87) 135 = .ok (.getfield 155, 3) := by decide +kernel
theorem zd_87_138 : decode (zm_cc 87) 138 = .ok (.iconst 1, 1) := by decide +kernel
theorem zd_87_139 : decode (zm_cc 87) 139 = .ok (.iadd, 1) := by decide +kernel
theorem zd_87_140 : decode (zm_cc 87) 140 = .ok (.putfield 155, 3) := by decide +kernel
theorem zd_87_143 : decode (zm_cc 87) 143 = .ok (.goto (-42), 3) := by decide +kernel
theorem zd_87_146 : decode (zm_cc 87) 146 = .ok (.aload_n 0, 1) := by decide +kernel
theorem zd_87_147 : decode (zm_cc 87) 147 = .ok (.aload_n 0, 1) := by decide +kernel
theorem zd_87_148 : decode (zm_cc 87) 148 = .ok (.getfield 155, 3) := by decide +kernel
theorem zd_87_151 : decode (zm_cc 87) 151 = .ok (.bipush 6, 2) := by decide +kernel
theorem zd_87_153 : decode (zm_cc 87) 153 = .ok (.if_icmp .le 7, 3) := by decide +kernel
theorem zd_87_156 : decode (zm_cc 87) 156 = .ok (.iconst 1, 1) := by decide +kernel
theorem zd_87_157 : decode (zm_cc 87) 157 = .ok (.goto 4, 3) := by decide +kernel
theorem zd_87_160 : decode (zm_cc 87) 160 = .ok (.iconst 2, 1) := by decide +kernel
theorem zd_87_161 : decode (zm_cc 87) 161 = .ok (.putfield 148, 3) := by decide +kernel
theorem zd_87_164 : decode (zm_cc 87) 164 = .ok (.aload_n 0, 1) := by decide +kernel
theorem zd_87_165 : decode (zm_cc 87) 165 = .ok (.getfield 148, 3) := by decide +kernel
theorem zd_87_168 : decode (zm_cc 87) 168 = .ok (.iconst 2, 1) := by decide +kernel
theorem zd_87_169 : decode (zm_cc 87) 169 = .ok (.if_icmp .ne 200, 3) := by decide +kernel
theorem zd_87_172 : decode (zm_cc 87) 172 = .ok (.aload_n 0, 1) := by decide +kernel
theorem zd_87_173 : decode (zm_cc 87) 173 = .ok (.invokevirtual 202, 3) := by decide +kernel
theorem zd_87_176 : decode (zm_cc 87) 176 = .ok (.ifCond .le 193, 3) := by decide +kernel
theorem zd_87_179 : decode (zm_cc 87) 179 = .ok (.aload_n 0, 1) := by decide +kernel
theorem zd_87_180 : decode (zm_cc 87) 180 = .ok (.iconst 5, 1) := by decide +kernel
theorem zd_87_181 : decode (zm_cc 87) 181 = .ok (.putfield 148, 3) := by decide +kernel
theorem zd_87_184 : decode (zm_cc 87) 184 = .ok (.aload_n 0, 1) := by decide +kernel
theorem zd_87_185 : decode (zm_cc 87) 185 = .ok (.aload_n 0, 1) := by decide +kernel
theorem zd_87_186 : decode (zm_cc 87) 186 = .ok (.invokevirtual 202, 3) := by decide +kernel
theorem zd_87_189 : decode (zm_cc 87) 189 = .ok (.putfield 192, 3) := by decide +kernel
theorem zd_87_192 : decode (zm_cc 87) 192 = .ok (.goto 177, 3) := by decide +kernel
theorem zd_87_195 : decode (zm_cc 87) 195 = .ok (.iload_n 2, 1) := by decide +kernel
theorem zd_87_196 : decode (zm_cc 87) 196 = .ok (.invokestatic 199, 3) := by decide +kernel
theorem zd_87_199 : decode (zm_cc 87) 199 = .ok (.ifCond .eq 46, 3) := by decide +kernel
theorem zd_87_202 : decode (zm_cc 87) 202 = .ok (.aload_n 0, 1) := by decide +kernel
theorem zd_87_203 : decode (zm_cc 87) 203 = .ok (.iload_n 2, 1) := by decide +kernel
theorem zd_87_204 : decode (zm_cc 87) 204 = .ok (.bipush 48, 2) := by decide +kernel
theorem zd_87_206 : decode (zm_cc 87) 206 = .ok (.isub, 1) := by decide +kernel
theorem zd_87_207 : decode (zm_cc 87) 207 = .ok (.putfield 192, 3) := by decide +kernel
theorem zd_87_210 : decode (zm_cc 87) 210 = .ok (.aload_n 0, 1) := by decide +kernel
theorem zd_87_211 : decode (zm_cc 87) 211 = .ok (.aload_n 0, 1) := by decide +kernel
theorem zd_87_212 : decode (zm_cc 87) 212 = .ok (.getfield 192, 3) := by decide +kernel
theorem zd_87_215 : decode (zm_cc 87) 215 = .ok (.bipush 7, 2) := by decide +kernel
theorem zd_87_217 : decode (zm_cc 87) 217 = .ok (.if_icmp .gt 17, 3) := by decide +kernel
theorem zd_87_220 : decode (zm_cc 87) 220 = .ok (.iload_n 3, 1) := by decide +kernel
theorem zd_87_221 : decode (zm_cc 87) 221 = .ok (.invokestatic 199, 3) := by decide +kernel
theorem zd_87_224 : decode (zm_cc 87) 224 = .ok (.ifCond .ne 10, 3) := by decide +kernel
theorem zd_87_227 : decode (zm_cc 87) 227 = .ok (.iload_n 3, 1) := by decide +kernel
theorem zd_87_228 : decode (zm_cc 87) 228 = .ok (.invokestatic 195, 3) := by decide +kernel
theorem zd_87_231 : decode (zm_cc 87) 231 = .ok (.ifCond .eq 7, 3) := by decide +kernel
theorem zd_87_234 : decode (zm_cc 87) 234 = .ok (.iconst 1, 1) := by decide +kernel
theorem zd_87_235 : decode (zm_cc 87) 235 = .ok (.goto 4, 3) := by decide +kernel
theorem zd_87_238 : decode (zm_cc 87) 238 = .ok (.iconst 3, 1) := by decide +kernel
theorem zd_87_239 : decode (zm_cc 87) 239 = .ok (.putfield 148, 3) := by decide +kernel
theorem zd_87_242 : decode (zm_cc 87) 242 = .ok (.goto 127, 3) := by decide +kernel
theorem zd_87_245 : decode (zm_cc 87) 245 = .ok (.iload_n 2, 1) := by decide +kernel
theorem zd_87_246 : decode (zm_cc 87) 246 = .ok (.bipush 61, 2) := by decide +kernel
theorem zd_87_248 : decode (zm_cc 87) 248 = .ok (.if_icmp .eq 9, 3) := by decide +kernel
theorem zd_87_251 : decode (zm_cc 87) 251 = .ok (.iload_n 2, 1) := by decide +kernel
theorem zd_87_252 : decode (zm_cc 87) 252 = .ok (.bipush 33, 2) := by decide +kernel
theorem zd_87_254 : decode (zm_cc 87) 254 = .ok (.if_icmp .ne 41, 3) := by decide +kernel
theorem zd_87_257 : decode (zm_cc 87) 257 = .ok (.iload_n 3, 1) := by decide +kernel
theorem zd_87_258 : decode (zm_cc 87) 258 = .ok (.bipush 61, 2) := by decide +kernel
theorem zd_87_260 : decode (zm_cc 87) 260 = .ok (.if_icmp .ne 35, 3) := by decide +kernel
theorem zd_87_263 : decode (zm_cc 87) 263 = .ok (.aload_n 0, 1) := by decide +kernel
theorem zd_87_264 : decode (zm_cc 87) 264 = .ok (.iconst 2, 1) := by decide +kernel
theorem zd_87_265 : decode (zm_cc 87) 265 = .ok (.putfield 155, 3) := by decide +kernel
theorem zd_87_268 : decode (zm_cc 87) 268 = .ok (.aload_n 0, 1) := by decide +kernel
theorem zd_87_269 : decode (zm_cc 87) 269 = .ok (.iconst 4, 1) := by decide +kernel
theorem zd_87_270 : decode (zm_cc 87) 270 = .ok (.putfield 148, 3) := by decide +kernel
theorem zd_87_273 : decode (zm_cc 87) 273 = .ok (.aload_n 0, 1) := by decide +kernel
theorem zd_87_274 : decode (zm_cc 87) 274 = .ok (.iload_n 2, 1) := by decide +kernel
theorem zd_87_275 : decode (zm_cc 87) 275 = .ok (.bipush 61, 2) := by decide +kernel
theorem zd_87_277 : decode (zm_cc 87) 277 = .ok (.if_icmp .ne 9, 3) := by decide +kernel
theorem zd_87_280 : decode (zm_cc 87) 280 = .ok (.sipush 1000, 3) := by decide +kernel
theorem zd_87_283 : decode (zm_cc 87) 283 = .ok (.goto 6, 3) := by decide +kernel
theorem zd_87_286 : decode (zm_cc 87) 286 = .ok (.sipush 1001, 3) := by decide +kernel
theorem zd_87_289 : decode (zm_cc 87) 289 = .ok (.putfield 192, 3) := by decide +kernel
theorem zd_87_292 : decode (zm_cc 87) 292 = .ok (.goto 77, 3) := by decide +kernel
theorem zd_87_295 : decode (zm_cc 87) 295 = .ok (.iload_n 2, 1) := by decide +kernel
theorem zd_87_296 : decode (zm_cc 87) 296 = .ok (.bipush 61, 2) := by decide +kernel
theorem zd_87_298 : decode (zm_cc 87) 298 = .ok (.if_icmp .eq 45, 3) := by decide +kernel
theorem zd_87_301 : decode (zm_cc 87) 301 = .ok (.iload_n 2, 1) := by decide +kernel
theorem zd_87_302 : decode (zm_cc 87) 302 = .ok (.bipush 59, 2) := by decide +kernel
theorem zd_87_304 : decode (zm_cc 87) 304 = .ok (.if_icmp .eq 39, 3) := by decide +kernel
theorem zd_87_307 : decode (zm_cc 87) 307 = .ok (.iload_n 2, 1) := by decide +kernel
theorem zd_87_308 : decode (zm_cc 87) 308 = .ok (.bipush 123, 2) := by decide +kernel
theorem zd_87_310 : decode (zm_cc 87) 310 = .ok (.if_icmp .eq 33, 3) := by decide +kernel
theorem zd_87_313 : decode (zm_cc 87) 313 = .ok (.iload_n 2, 1) := by decide +kernel
theorem zd_87_314 : decode (zm_cc 87) 314 = .ok (.bipush 125, 2) := by decide +kernel
theorem zd_87_316 : decode (zm_cc 87) 316 = .ok (.if_icmp .eq 27, 3) := by decide +kernel
theorem zd_87_319 : decode (zm_cc 87) 319 = .ok (.iload_n 2, 1) := by decide +kernel
theorem zd_87_320 : decode (zm_cc 87) 320 = .ok (.bipush 60, 2) := by decide +kernel
theorem zd_87_322 : decode (zm_cc 87) 322 = .ok (.if_icmp .eq 21, 3) := by decide +kernel
theorem zd_87_325 : decode (zm_cc 87) 325 = .ok (.iload_n 2, 1) := by decide +kernel
theorem zd_87_326 : decode (zm_cc 87) 326 = .ok (.bipush 62, 2) := by decide +kernel
theorem zd_87_328 : decode (zm_cc 87) 328 = .ok (.if_icmp .eq 15, 3) := by decide +kernel
theorem zd_87_331 : decode (zm_cc 87) 331 = .ok (.iload_n 2, 1) := by decide +kernel
theorem zd_87_332 : decode (zm_cc 87) 332 = .ok (.bipush 43, 2) := by decide +kernel
theorem zd_87_334 : decode (zm_cc 87) 334 = .ok (.if_icmp .eq 9, 3) := by decide +kernel
theorem zd_87_337 : decode (zm_cc 87) 337 = .ok (.iload_n 2, 1) := by decide +kernel
theorem zd_87_338 : decode (zm_cc 87) 338 = .ok (.bipush 45, 2) := by decide +kernel
theorem zd_87_340 : decode (zm_cc 87) 340 = .ok (.if_icmp .ne 7, 3) := by decide +kernel
theorem zd_87_343 : decode (zm_cc 87) 343 = .ok (.iconst 1, 1) := by decide +kernel
theorem zd_87_344 : decode (zm_cc 87) 344 = .ok (.goto 4, 3) := by decide +kernel
theorem zd_87_347 : decode (zm_cc 87) 347 = .ok (.iconst 0, 1) := by decide +kernel
theorem zd_87_348 : decode (zm_cc 87) 348 = .ok (.istore 4, 2) := by decide +kernel
theorem zd_87_350 : decode (zm_cc 87) 350 = .ok (.aload_n 0, 1) := by decide +kernel
theorem zd_87_351 : decode (zm_cc 87) 351 = .ok (.iload 4, 2) := by decide +kernel
theorem zd_87_353 : decode (zm_cc 87) 353 = .ok (.ifCond .eq 7, 3) := by decide +kernel
theorem zd_87_356 : decode (zm_cc 87) 356 = .ok (.iconst 4, 1) := by decide +kernel
theorem zd_87_357 : decode (zm_cc 87) 357 = .ok (.goto 4, 3) := by decide +kernel
theorem zd_87_360 : decode (zm_cc 87) 360 = .ok (.iconst 1, 1) := by decide +kernel
theorem zd_87_361 : decode (zm_cc 87) 361 = .ok (.putfield 148, 3) := by decide +kernel
theorem zd_87_364 : decode (zm_cc 87) 364 = .ok (.aload_n 0, 1) := by decide +kernel
theorem zd_87_365 : decode (zm_cc 87) 365 = .ok (.iload_n 2, 1) := by decide +kernel
theorem zd_87_366 : decode (zm_cc 87) 366 = .ok (.putfield 192, 3) := by decide +kernel
theorem zd_87_369 : decode (zm_cc 87) 369 = .ok (.return_, 1) := by decide +kernel
theorem zd_88_0 : decode (zm_cc 88) 0 = .ok (.iload_n 1, 1) := by decide +kernel
theorem zd_88_1 : decode (zm_cc 88) 1 = .ok (.aload_n 0, 1) := by decide +kernel
theorem zd_88_2 : decode (zm_cc 88) 2 = .ok (.getfield 132, 3) := by decide +kernel
theorem zd_88_5 : decode (zm_cc 88) 5 = .ok (.if_icmp .ge 16, 3) := by decide +kernel
theorem zd_88_8 : decode (zm_cc 88) 8 = .ok (.aload_n 0, 1) := by decide +kernel
theorem zd_88_9 : decode (zm_cc 88) 9 = .ok (.getfield 17, 3) := by decide +kernel
theorem zd_88_12 : decode (zm_cc 88) 12 = .ok (.iload_n 1, 1) := by decide +kernel
theorem zd_88_13 : decode (zm_cc 88) 13 = .ok (.baload, 1) := by decide +kernel
theorem zd_88_14 : decode (zm_cc 88) 14 = .ok (.sipush 255, 3) := by decide +kernel
theorem zd_88_17 : decode (zm_cc 88) 17 = .ok (.iand, 1) := by decide +kernel
theorem zd_88_18 : decode (zm_cc 88) 18 = .ok (.goto 4, 3) := by decide +kernel
theorem zd_88_21 : decode (zm_cc 88) 21 = .ok (.iconst 0, 1) := by decide +kernel
theorem zd_88_22 : decode (zm_cc 88) 22 = .ok (.ireturn, 1) := by decide +kernel
theorem zd_89_0 : decode (zm_cc 89) 0 = .ok (.iload_n 0, 1) := by decide +kernel
theorem zd_89_1 : decode (zm_cc 89) 1 = .ok (.bipush 97, 2) := by decide +kernel
theorem zd_89_3 : decode (zm_cc 89) 3 = .ok (.bipush 122, 2) := by decide +kernel
theorem zd_89_5 : decode (zm_cc 89) 5 = .ok (.invokestatic 128, 3) := by decide +kernel
theorem zd_89_8 : decode (zm_cc 89) 8 = .ok (.ireturn, 1) := by decide +kernel
theorem zd_90_0 : decode (zm_cc 90) 0 = .ok (.iload_n 0, 1) := by decide +kernel
theorem zd_90_1 : decode (zm_cc 90) 1 = .ok (.bipush 48, 2) := by decide +kernel
theorem zd_90_3 : decode (zm_cc 90) 3 = .ok (.bipush 57, 2) := by decide +kernel
theorem zd_90_5 : decode (zm_cc 90) 5 = .ok (.invokestatic 128, 3) := by decide +kernel
theorem zd_90_8 : decode (zm_cc 90) 8 = .ok (.ireturn, 1) := by decide +kernel
theorem zd_91_0 : decode (zm_cc 91) 0 = .ok (.lconst 0, 1) := by decide +kernel
theorem zd_91_1 : decode (zm_cc 91) 1 = .ok (.lstore_n 1, 1) := by decide +kernel
theorem zd_91_2 : decode (zm_cc 91) 2 = .ok (.iconst 0, 1) := by decide +kernel
theorem zd_91_3 : decode (zm_cc 91) 3 = .ok (.istore_n 3, 1) := by decide +kernel
theorem zd_91_4 : decode (zm_cc 91) 4 = .ok (.iload_n 3, 1) := by decide +kernel
theorem zd_91_5 : decode (zm_cc 91) 5 = .ok (.aload_n 0, 1) := by decide +kernel
theorem zd_91_6 : decode (zm_cc 91) 6 = .ok (.getfield 155, 3) := by decide +kernel
theorem zd_91_9 : decode (zm_cc 91) 9 = .ok (.if_icmp .ge 26, 3) := by decide +kernel
theorem zd_91_12 : decode (zm_cc 91) 12 = .ok (.lload_n 1, 1) := by decide +kernel
theorem zd_91_13 : decode (zm_cc 91) 13 = .ok (.bipush 8, 2) := by decide +kernel
theorem zd_91_15 : decode (zm_cc 91) 15 = .ok (.lshl, 1) := by decide +kernel
theorem zd_91_16 : decode (zm_cc 91) 16 = .ok (.aload_n 0, 1) := by decide +kernel
theorem zd_91_17 : decode (zm_cc 91) 17 = .ok (.aload_n 0, 1) := by decide +kernel
theorem zd_91_18 : decode (zm_cc 91) 18 = .ok (.getfield 142, 3) := by decide +kernel
theorem zd_91_21 : decode (zm_cc 91) 21 = .ok (.iload_n 3, 1) := by decide +kernel
theorem zd_91_22 : decode (zm_cc 91) 22 = .ok (.iadd, 1) := by decide +kernel
theorem zd_91_23 : decode (zm_cc 91) 23 = .ok (.invokevirtual 158, 3) := by decide +kernel
theorem zd_91_26 : decode (zm_cc 91) 26 = .ok (.i2l, 1) := by decide +kernel
theorem zd_91_27 : decode (zm_cc 91) 27 = .ok (.lor, 1) := by decide +kernel
theorem zd_91_28 : decode (zm_cc 91) 28 = .ok (.lstore_n 1, 1) := by decide +kernel
theorem zd_91_29 : decode (zm_cc 91) 29 = .ok (.iinc 3 1, 3) := by decide +kernel
theorem zd_91_32 : decode (zm_cc 91) 32 = .ok (.goto (-28), 3) := by decide +kernel
theorem zd_91_35 : decode (zm_cc 91) 35 = .ok (.lload_n 1, 1) := by decide +kernel
theorem zd_91_36 : decode (zm_cc 91) 36 = .ok (.ldc2_w 162, 3) := by decide +kernel
theorem zd_91_39 : decode (zm_cc 91) 39 = .ok (.lcmp, 1) := by decide +kernel
theorem zd_91_40 : decode (zm_cc 91) 40 = .ok (.ifCond .ne 5, 3) := by decide +kernel
theorem zd_91_43 : decode (zm_cc 91) 43 = .ok (.iconst 1, 1) := by decide +kernel
theorem zd_91_44 : decode (zm_cc 91) 44 = .ok (.ireturn, 1) := by decide +kernel
theorem zd_91_45 : decode (zm_cc 91) 45 = .ok (.lload_n 1, 1) := by decide +kernel
theorem zd_91_46 : decode (zm_cc 91) 46 = .ok (.ldc2_w 164, 3) := by decide +kernel
theorem zd_91_49 : decode (zm_cc 91) 49 = .ok (.lcmp, 1) := by decide +kernel
theorem zd_91_50 : decode (zm_cc 91) 50 = .ok (.ifCond .ne 5, 3) := by decide +kernel
theorem zd_91_53 : decode (zm_cc 91) 53 = .ok (.iconst 2, 1) := by decide +kernel
theorem zd_91_54 : decode (zm_cc 91) 54 = .ok (.ireturn, 1) := by decide +kernel
theorem zd_91_55 : decode (zm_cc 91) 55 = .ok (.lload_n 1, 1) := by decide +kernel
theorem zd_91_56 : decode (zm_cc 91) 56 = .ok (.ldc2_w 166, 3) := by decide +kernel
theorem zd_91_59 : decode (zm_cc 91) 59 = .ok (.lcmp, 1) := by decide +kernel
theorem zd_91_60 : decode (zm_cc 91) 60 = .ok (.ifCond .ne 5, 3) := by decide +kernel
theorem zd_91_63 : decode (zm_cc 91) 63 = .ok (.iconst 3, 1) := by decide +kernel
theorem zd_91_64 : decode (zm_cc 91) 64 = .ok (.ireturn, 1) := by decide +kernel
theorem zd_91_65 : decode (zm_cc 91) 65 = .ok (.lload_n 1, 1) := by decide +kernel
theorem zd_91_66 : decode (zm_cc 91) 66 = .ok (.ldc2_w 168, 3) := by decide +kernel
theorem zd_91_69 : decode (zm_cc 91) 69 = .ok (.lcmp, 1) := by decide +kernel
theorem zd_91_70 : decode (zm_cc 91) 70 = .ok (.ifCond .ne 5, 3) := by decide +kernel
theorem zd_91_73 : decode (zm_cc 91) 73 = .ok (.iconst 4, 1) := by decide +kernel
theorem zd_91_74 : decode (zm_cc 91) 74 = .ok (.ireturn, 1) := by decide +kernel
theorem zd_91_75 : decode (zm_cc 91) 75 = .ok (.lload_n 1, 1) := by decide +kernel
theorem zd_91_76 : decode (zm_cc 91) 76 = .ok (.ldc2_w 170, 3) := by decide +kernel
theorem zd_91_79 : decode (zm_cc 91) 79 = .ok (.lcmp, 1) := by decide +kernel
theorem zd_91_80 : decode (zm_cc 91) 80 = .ok (.ifCond .ne 5, 3) := by decide +kernel
theorem zd_91_83 : decode (zm_cc 91) 83 = .ok (.iconst 5, 1) := by decide +kernel
theorem zd_91_84 : decode (zm_cc 91) 84 = .ok (.ireturn, 1) := by decide +kernel
theorem zd_91_85 : decode (zm_cc 91) 85 = .ok (.lload_n 1, 1) := by decide +kernel
theorem zd_91_86 : decode (zm_cc 91) 86 = .ok (.ldc2_w 172, 3) := by decide +kernel
theorem zd_91_89 : decode (zm_cc 91) 89 = .ok (.lcmp, 1) := by decide +kernel
theorem zd_91_90 : decode (zm_cc 91) 90 = .ok (.ifCond .ne 6, 3) := by decide +kernel
theorem zd_91_93 : decode (zm_cc 91) 93 = .ok (.bipush 6, 2) := by decide +kernel
theorem zd_91_95 : decode (zm_cc 91) 95 = .ok (.ireturn, 1) := by decide +kernel
theorem zd_91_96 : decode (zm_cc 91) 96 = .ok (.lload_n 1, 1) := by decide +kernel
theorem zd_91_97 : decode (zm_cc 91) 97 = .ok (.ldc2_w 174, 3) := by decide +kernel
theorem zd_91_100 : decode (zm_cc 91) 100 = .ok (.lcmp, 1) := by decide +kernel
theorem zd_91_101 : decode (zm_cc 91) 101 = .ok (.ifCond .ne 6, 3) := by decide +kernel
theorem zd_91_104 : decode (zm_cc 91) 104 = .ok (.bipush 7, 2) := by decide +kernel
theorem zd_91_106 : decode (zm_cc 91) 106 = .ok (.ireturn, 1) := by decide +kernel
theorem zd_91_107 : decode (zm_cc 91) 107 = .ok (.lload_n 1, 1) := by decide +kernel
theorem zd_91_108 : decode (zm_cc 91) 108 = .ok (.ldc2_w 176, 3) := by decide +kernel
theorem zd_91_111 : decode (zm_cc 91) 111 = .ok (.lcmp, 1) := by decide +kernel
theorem zd_91_112 : decode (zm_cc 91) 112 = .ok (.ifCond .ne 6, 3) := by decide +kernel
theorem zd_91_115 : decode (zm_cc 91) 115 = .ok (.bipush 8, 2) := by decide +kernel
theorem zd_91_117 : decode (zm_cc 91) 117 = .ok (.ireturn, 1) := by decide +kernel
theorem zd_91_118 : decode (zm_cc 91) 118 = .ok (.lload_n 1, 1) := by decide +kernel
theorem zd_91_119 : decode (zm_cc 91) 119 = .ok (.ldc2_w 178, 3) := by decide +kernel
theorem zd_91_122 : decode (zm_cc 91) 122 = .ok (.lcmp, 1) := by decide +kernel
theorem zd_91_123 : decode (zm_cc 91) 123 = .ok (.ifCond .ne 6, 3) := by decide +kernel
theorem zd_91_126 : decode (zm_cc 91) 126 = .ok (.bipush 9, 2) := by decide +kernel
theorem zd_91_128 : decode (zm_cc 91) 128 = .ok (.ireturn, 1) := by decide +kernel
theorem zd_91_129 : decode (zm_cc 91) 129 = .ok (.lload_n 1, 1) := by decide +kernel
theorem zd_91_130 : decode (zm_cc 91) 130 = .ok (.ldc2_w 180, 3) := by decide +kernel
theorem zd_91_133 : decode (zm_cc 91) 133 = .ok (.lcmp, 1) := by decide +kernel
theorem zd_91_134 : decode (zm_cc 91) 134 = .ok (.ifCond .ne 6, 3) := by decide +kernel
theorem zd_91_137 : decode (zm_cc 91) 137 = .ok (.bipush 10, 2) := by decide +kernel
theorem zd_91_139 : decode (zm_cc 91) 139 = .ok (.ireturn, 1) := by decide +kernel
theorem zd_91_140 : decode (zm_cc 91) 140 = .ok (.lload_n 1, 1) := by decide +kernel
theorem zd_91_141 : decode (zm_cc 91) 141 = .ok (.ldc2_w 182, 3) := by decide +kernel
theorem zd_91_144 : decode (zm_cc 91) 144 = .ok (.lcmp, 1) := by decide +kernel
theorem zd_91_145 : decode (zm_cc 91) 145 = .ok (.ifCond .ne 6, 3) := by decide +kernel
theorem zd_91_148 : decode (zm_cc 91) 148 = .ok (.bipush 11, 2) := by decide +kernel
theorem zd_91_150 : decode (zm_cc 91) 150 = .ok (.ireturn, 1) := by decide +kernel
theorem zd_91_151 : decode (zm_cc 91) 151 = .ok (.lload_n 1, 1) := by decide +kernel
theorem zd_91_152 : decode (zm_cc 91) 152 = .ok (.ldc2_w 184, 3) := by decide +kernel
theorem zd_91_155 : decode (zm_cc 91) 155 = .ok (.lcmp, 1) := by decide +kernel
theorem zd_91_156 : decode (zm_cc 91) 156 = .ok (.ifCond .ne 6, 3) := by decide +kernel
theorem zd_91_159 : decode (zm_cc 91) 159 = .ok (.bipush 12, 2) := by decide +kernel
theorem zd_91_161 : decode (zm_cc 91) 161 = .ok (.ireturn, 1) := by decide +kernel
theorem zd_91_162 : decode (zm_cc 91) 162 = .ok (.lload_n 1, 1) := by decide +kernel
theorem zd_91_163 : decode (zm_cc 91) 163 = .ok (.ldc2_w 186, 3) := by decide +kernel
theorem zd_91_166 : decode (zm_cc 91) 166 = .ok (.lcmp, 1) := by decide +kernel
theorem zd_91_167 : decode (zm_cc 91) 167 = .ok (.ifCond .ne 6, 3) := by decide +kernel
theorem zd_91_170 : decode (zm_cc 91) 170 = .ok (.bipush 13, 2) := by decide +kernel
theorem zd_91_172 : decode (zm_cc 91) 172 = .ok (.ireturn, 1) := by decide +kernel
theorem zd_91_173 : decode (zm_cc 91) 173 = .ok (.lload_n 1, 1) := by decide +kernel
theorem zd_91_174 : decode (zm_cc 91) 174 = .ok (.ldc2_w 188, 3) := by decide +kernel
theorem zd_91_177 : decode (zm_cc 91) 177 = .ok (.lcmp, 1) := by decide +kernel
theorem zd_91_178 : decode (zm_cc 91) 178 = .ok (.ifCond .ne 6, 3) := by decide +kernel
theorem zd_91_181 : decode (zm_cc 91) 181 = .ok (.bipush 14, 2) := by decide +kernel
theorem zd_91_183 : decode (zm_cc 91) 183 = .ok (.ireturn, 1) := by decide +kernel
theorem zd_91_184 : decode (zm_cc 91) 184 = .ok (.lload_n 1, 1) := by decide +kernel
theorem zd_91_185 : decode (zm_cc 91) 185 = .ok (.ldc2_w 190, 3) := by decide +kernel
theorem zd_91_188 : decode (zm_cc 91) 188 = .ok (.lcmp, 1) := by decide +kernel
theorem zd_91_189 : decode (zm_cc 91) 189 = .ok (.ifCond .ne 6, 3) := by decide +kernel
theorem zd_91_192 : decode (zm_cc 91) 192 = .ok (.bipush 15, 2) := by decide +kernel
theorem zd_91_194 : decode (zm_cc 91) 194 = .ok (.ireturn, 1) := by decide +kernel
theorem zd_91_195 : decode (zm_cc 91) 195 = .ok (.iconst 0, 1) := by decide +kernel
theorem zd_91_196 : decode (zm_cc 91) 196 = .ok (.ireturn, 1) := by decide +kernel
theorem zd_92_0 : decode (zm_cc 92) 0 = .ok (.aload_n 0, 1) := by decide +kernel
theorem zd_92_1 : decode (zm_cc 92) 1 = .ok (.getfield 148, 3) := by decide +kernel
theorem zd_92_4 : decode (zm_cc 92) 4 = .ok (.iconst 5, 1) := by decide +kernel
theorem zd_92_5 : decode (zm_cc 92) 5 = .ok (.if_icmp .ne 15, 3) := by decide +kernel
theorem zd_92_8 : decode (zm_cc 92) 8 = .ok (.aload_n 0, 1) := by decide +kernel
theorem zd_92_9 : decode (zm_cc 92) 9 = .ok (.getfield 192, 3) := by decide +kernel
theorem zd_92_12 : decode (zm_cc 92) 12 = .ok (.iload_n 1, 1) := by decide +kernel
theorem zd_92_13 : decode (zm_cc 92) 13 = .ok (.if_icmp .ne 7, 3) := by decide +kernel
theorem zd_92_16 : decode (zm_cc 92) 16 = .ok (.iconst 1, 1) := by decide +kernel
theorem zd_92_17 : decode (zm_cc 92) 17 = .ok (.goto 4, 3) := by decide +kernel
theorem zd_92_20 : decode (zm_cc 92) 20 = .ok (.iconst 0, 1) := by decide +kernel
theorem zd_92_21 : decode (zm_cc 92) 21 = .ok (.ireturn, 1) := by decide +kernel
theorem zd_93_0 : decode (zm_cc 93) 0 = .ok (.aload_n 0, 1) := by decide +kernel
theorem zd_93_1 : decode (zm_cc 93) 1 = .ok (.getfield 148, 3) := by decide +kernel
theorem zd_93_4 : decode (zm_cc 93) 4 = .ok (.iconst 2, 1) := by decide +kernel
theorem zd_93_5 : decode (zm_cc 93) 5 = .ok (.if_icmp .eq 10, 3) := by decide +kernel
theorem zd_93_8 : decode (zm_cc 93) 8 = .ok (.aload_n 0, 1) := by decide +kernel
theorem zd_93_9 : decode (zm_cc 93) 9 = .ok (.invokevirtual 212, 3) := by decide +kernel
theorem zd_93_12 : decode (zm_cc 93) 12 = .ok (.goto 42, 3) := by decide +kernel
theorem zd_93_15 : decode (zm_cc 93) 15 = .ok (.aload_n 0, 1) := by decide +kernel
theorem zd_93_16 : decode (zm_cc 93) 16 = .ok (.invokevirtual 277, 3) := by decide +kernel
theorem zd_93_19 : decode (zm_cc 93) 19 = .ok (.ifCond .eq 11, 3) := by decide +kernel
theorem zd_93_22 : decode (zm_cc 93) 22 = .ok (.aload_n 0, 1) := by decide +kernel
theorem zd_93_23 : decode (zm_cc 93) 23 = .ok (.iconst 3, 1) := by decide +kernel
theorem zd_93_24 : decode (zm_cc 93) 24 = .ok (.invokevirtual 151, 3) := by decide +kernel
theorem zd_93_27 : decode (zm_cc 93) 27 = .ok (.goto 27, 3) := by decide +kernel
theorem zd_93_30 : decode (zm_cc 93) 30 = .ok (.iload_n 2, 1) := by decide +kernel
theorem zd_93_31 : decode (zm_cc 93) 31 = .ok (.iload_n 3, 1) := by decide +kernel
theorem zd_93_32 : decode (zm_cc 93) 32 = .ok (.if_icmp .ne 11, 3) := by decide +kernel
theorem zd_93_35 : decode (zm_cc 93) 35 = .ok (.aload_n 0, 1) := by decide +kernel
theorem zd_93_36 : decode (zm_cc 93) 36 = .ok (.iconst 4, 1) := by decide +kernel
theorem zd_93_37 : decode (zm_cc 93) 37 = .ok (.invokevirtual 151, 3) := by decide +kernel
theorem zd_93_40 : decode (zm_cc 93) 40 = .ok (.goto 14, 3) := by decide +kernel
theorem zd_93_43 : decode (zm_cc 93) 43 = .ok (.aload_n 0, 1) := by decide +kernel
theorem zd_93_44 : decode (zm_cc 93) 44 = .ok (.iload_n 1, 1) := by decide +kernel
theorem zd_93_45 : decode (zm_cc 93) 45 = .ok (.iload_n 2, 1) := by decide +kernel
theorem zd_93_46 : decode (zm_cc 93) 46 = .ok (.iadd, 1) := by decide +kernel
theorem zd_93_47 : decode (zm_cc 93) 47 = .ok (.invokevirtual 274, 3) := by decide +kernel
theorem zd_93_50 : decode (zm_cc 93) 50 = .ok (.aload_n 0, 1) := by decide +kernel
theorem zd_93_51 : decode (zm_cc 93) 51 = .ok (.invokevirtual 209, 3) := by decide +kernel
theorem zd_93_54 : decode (zm_cc 93) 54 = .ok (.return_, 1) := by decide +kernel
theorem zd_94_0 : decode (zm_cc 94) 0 = .ok (.aload_n 0, 1) := by decide +kernel
theorem zd_94_1 : decode (zm_cc 94) 1 = .ok (.aload_n 0, 1) := by decide +kernel
theorem zd_94_2 : decode (zm_cc 94) 2 = .ok (.getfield 148, 3) := by decide +kernel
theorem zd_94_5 : decode (zm_cc 94) 5 = .ok (.iconst 1, 1) := by decide +kernel
theorem zd_94_6 : decode (zm_cc 94) 6 = .ok (.if_icmp .ne 7, 3) := by decide +kernel
theorem zd_94_9 : decode (zm_cc 94) 9 = .ok (.iconst 1, 1) := by decide +kernel
theorem zd_94_10 : decode (zm_cc 94) 10 = .ok (.goto 4, 3) := by decide +kernel
theorem zd_94_13 : decode (zm_cc 94) 13 = .ok (.iconst 2, 1) := by decide +kernel
theorem zd_94_14 : decode (zm_cc 94) 14 = .ok (.invokevirtual 151, 3) := by decide +kernel
theorem zd_94_17 : decode (zm_cc 94) 17 = .ok (.return_, 1) := by decide +kernel
theorem zd_95_0 : decode (zm_cc 95) 0 = .ok (.aload_n 0, 1) := by decide +kernel
theorem zd_95_1 : decode (zm_cc 95) 1 = .ok (.getfield 135, 3) := by decide +kernel
theorem zd_95_4 : decode (zm_cc 95) 4 = .ok (.ifCond .ne 21, 3) := by decide +kernel
theorem zd_95_7 : decode (zm_cc 95) 7 = .ok (.aload_n 0, 1) := by decide +kernel
theorem zd_95_8 : decode (zm_cc 95) 8 = .ok (.iconst 1, 1) := by decide +kernel
theorem zd_95_9 : decode (zm_cc 95) 9 = .ok (.putfield 135, 3) := by decide +kernel
theorem zd_95_12 : decode (zm_cc 95) 12 = .ok (.aload_n 0, 1) := by decide +kernel
theorem zd_95_13 : decode (zm_cc 95) 13 = .ok (.iload_n 1, 1) := by decide +kernel
theorem zd_95_14 : decode (zm_cc 95) 14 = .ok (.putfield 139, 3) := by decide +kernel
theorem zd_95_17 : decode (zm_cc 95) 17 = .ok (.aload_n 0, 1) := by decide +kernel
theorem zd_95_18 : decode (zm_cc 95) 18 = .ok (.aload_n 0, 1) := by decide +kernel
theorem zd_95_19 : decode (zm_cc 95) 19 = .ok (.getfield 142, 3) := by decide +kernel
theorem zd_95_22 : decode (zm_cc 95) 22 = .ok (.putfield 145, 3) := by decide +kernel
theorem zd_95_25 : decode (zm_cc 95) 25 = .ok (.return_, 1) := by decide +kernel
theorem zd_96_0 : decode (zm_cc 96) 0 = .ok (.aload_n 0, 1) := by decide +kernel
theorem zd_96_1 : decode (zm_cc 96) 1 = .ok (.invokevirtual 228, 3) := by decide +kernel
theorem zd_96_4 : decode (zm_cc 96) 4 = .ok (.iconst (-1), 1) := by decide +kernel
theorem zd_96_5 : decode (zm_cc 96) 5 = .ok (.if_icmp .ne 19, 3) := by decide +kernel
theorem zd_96_8 : decode (zm_cc 96) 8 = .ok (.aload_n 0, 1) := by decide +kernel
theorem zd_96_9 : decode (zm_cc 96) 9 = .ok (.invokevirtual 231, 3) := by decide +kernel
theorem zd_96_12 : decode (zm_cc 96) 12 = .ok (.iconst (-1), 1) := by decide +kernel
theorem zd_96_13 : decode (zm_cc 96) 13 = .ok (.if_icmp .ne 11, 3) := by decide +kernel
theorem zd_96_16 : decode (zm_cc 96) 16 = .ok (.aload_n 0, 1) := by decide +kernel
theorem zd_96_17 : decode (zm_cc 96) 17 = .ok (.invokevirtual 234, 3) := by decide +kernel
theorem zd_96_20 : decode (zm_cc 96) 20 = .ok (.iconst (-1), 1) := by decide +kernel
theorem zd_96_21 : decode (zm_cc 96) 21 = .ok (.if_icmp .eq 7, 3) := by decide +kernel
theorem zd_96_24 : decode (zm_cc 96) 24 = .ok (.iconst 1, 1) := by decide +kernel
theorem zd_96_25 : decode (zm_cc 96) 25 = .ok (.goto 4, 3) := by decide +kernel
theorem zd_96_28 : decode (zm_cc 96) 28 = .ok (.iconst 0, 1) := by decide +kernel
theorem zd_96_29 : decode (zm_cc 96) 29 = .ok (.ireturn, 1) := by decide +kernel
theorem zd_97_0 : decode (zm_cc 97) 0 = .ok (.aload_n 0, 1) := by decide +kernel
theorem zd_97_1 : decode (zm_cc 97) 1 = .ok (.iconst 0, 1) := by decide +kernel
theorem zd_97_2 : decode (zm_cc 97) 2 = .ok (.aload_n 0, 1) := by decide +kernel
theorem zd_97_3 : decode (zm_cc 97) 3 = .ok (.getfield 215, 3) := by decide +kernel
theorem zd_97_6 : decode (zm_cc 97) 6 = .ok (.invokevirtual 218, 3) := by decide +kernel
theorem zd_97_9 : decode (zm_cc 97) 9 = .ok (.ireturn, 1) := by decide +kernel
theorem zd_98_0 : decode (zm_cc 98) 0 = .ok (.iconst 0, 1) := by decide +kernel
theorem zd_98_1 : decode (zm_cc 98) 1 = .ok (.istore_n 3, 1) := by decide +kernel
theorem zd_98_2 : decode (zm_cc 98) 2 = .ok (.iload_n 3, 1) := by decide +kernel
theorem zd_98_3 : decode (zm_cc 98) 3 = .ok (.iload_n 2, 1) := by decide +kernel
theorem zd_98_4 : decode (zm_cc 98) 4 = .ok (.if_icmp .ge 97, 3) := by decide +kernel
theorem zd_98_7 : decode (zm_cc 98) 7 = .ok (.aload_n 0, 1) := by decide +kernel
theorem zd_98_8 : decode (zm_cc 98) 8 = .ok (.getfield 23, 3) := by decide +kernel
theorem zd_98_11 : decode (zm_cc 98) 11 = .ok (.iload_n 1, 1) := by decide +kernel
theorem zd_98_12 : decode (zm_cc 98) 12 = .ok (.iload_n 3, 1) := by decide +kernel
theorem zd_98_13 : decode (zm_cc 98) 13 = .ok (.iadd, 1) := by decide +kernel
theorem zd_98_14 : decode (zm_cc 98) 14 = .ok (.iaload, 1) := by decide +kernel
theorem zd_98_15 : decode (zm_cc 98) 15 = .ok (.aload_n 0, 1) := by decide +kernel
theorem zd_98_16 : decode (zm_cc 98) 16 = .ok (.getfield 155, 3) := by decide +kernel
theorem zd_98_19 : decode (zm_cc 98) 19 = .ok (.if_icmp .ne 7, 3) := by decide +kernel
theorem zd_98_22 : decode (zm_cc 98) 22 = .ok (.iconst 1, 1) := by decide +kernel
theorem zd_98_23 : decode (zm_cc 98) 23 = .ok (.goto 4, 3) := by decide +kernel
theorem zd_98_26 : decode (zm_cc 98) 26 = .ok (.iconst 0, 1) := by decide +kernel
theorem zd_98_27 : decode (zm_cc 98) 27 = .ok (.istore 4, 2) := by decide +kernel
theorem zd_98_29 : decode (zm_cc 98) 29 = .ok (.iconst 0, 1) := by decide +kernel
theorem zd_98_30 : decode (zm_cc 98) 30 = .ok (.istore 5, 2) := by decide +kernel
theorem zd_98_32 : decode (zm_cc 98) 32 = .ok (.iload 5, 2) := by decide +kernel
theorem zd_98_34 : decode (zm_cc 98) 34 = .ok (.aload_n 0, 1) := by decide +kernel
theorem zd_98_35 : decode (zm_cc 98) 35 = .ok (.getfield 155, 3) := by decide +kernel
theorem zd_98_38 : decode (zm_cc 98) 38 = .ok (.if_icmp .ge 50, 3) := by decide +kernel
theorem zd_98_41 : decode (zm_cc 98) 41 = .ok (.iload 4, 2) := by decide +kernel
theorem zd_98_43 : decode (zm_cc 98) 43 = .ok (.ifCond .eq 45, 3) := by decide +kernel
theorem zd_98_46 : decode (zm_cc 98) 46 = .ok (.aload_n 0, 1) := by decide +kernel
theorem zd_98_47 : decode (zm_cc 98) 47 = .ok (.getfield 20, 3) := by decide +kernel
theorem zd_98_50 : decode (zm_cc 98) 50 = .ok (.bipush 6, 2) := by decide +kernel
theorem zd_98_52 : decode (zm_cc 98) 52 = .ok (.iload_n 1, 1) := by decide +kernel
theorem zd_98_53 : decode (zm_cc 98) 53 = .ok (.iload_n 3, 1) := by decide +kernel
theorem zd_98_54 : decode (zm_cc 98) 54 = .ok (.iadd, 1) := by decide +kernel
theorem zd_98_55 : decode (zm_cc 98) 55 = .ok (.imul, 1) := by decide +kernel
theorem zd_98_56 : decode (zm_cc 98) 56 = .ok (.iload 5, 2) := by decide +kernel
theorem zd_98_58 : decode (zm_cc 98) 58 = .ok (.iadd, 1) := by decide +kernel
theorem zd_98_59 : decode (zm_cc 98) 59 = .ok (.baload, 1) := by decide +kernel
theorem zd_98_60 : decode (zm_cc 98) 60 = .ok (.aload_n 0, 1) := by decide +kernel
theorem zd_98_61 : decode (zm_cc 98) 61 = .ok (.getfield 17, 3) := by decide +kernel
theorem zd_98_64 : decode (zm_cc 98) 64 = .ok (.aload_n 0, 1) := by decide +kernel
theorem zd_98_65 : decode (zm_cc 98) 65 = .ok (.getfield 142, 3) := by decide +kernel
theorem zd_98_68 : decode (zm_cc 98) 68 = .ok (.iload 5, 2) := by decide +kernel
theorem zd_98_70 : decode (zm_cc 98) 70 = .ok (.iadd, 1) := by decide +kernel
theorem zd_98_71 : decode (zm_cc 98) 71 = .ok (.baload, 1) := by decide +kernel
theorem zd_98_72 : decode (zm_cc 98) 72 = .ok (.if_icmp .ne 7, 3) := by decide +kernel
theorem zd_98_75 : decode (zm_cc 98) 75 = .ok (.iconst 1, 1) := by decide +kernel
theorem zd_98_76 : decode (zm_cc 98) 76 = .ok (.goto 4, 3) := by decide +kernel
theorem zd_98_79 : decode (zm_cc 98) 79 = .ok (.iconst 0, 1) := by decide +kernel
theorem zd_98_80 : decode (zm_cc 98) 80 = .ok (.istore 4, 2) := by decide +kernel
theorem zd_98_82 : decode (zm_cc 98) 82 = .ok (.iinc 5 1, 3) := by decide +kernel
theorem zd_98_85 : decode (zm_cc 98) 85 = .ok (.goto (-53), 3) := by decide +kernel
theorem zd_98_88 : decode (zm_cc 98) 88 = .ok (.iload 4, 2) := by decide +kernel
theorem zd_98_90 : decode (zm_cc 98) 90 = .ok (.ifCond .eq 5, 3) := by decide +kernel
theorem zd_98_93 : decode (zm_cc 98) 93 = .ok (.iload_n 3, 1) := by decide +kernel
theorem zd_98_94 : decode (zm_cc 98) 94 = .ok (.ireturn, 1) := by decide +kernel
theorem zd_98_95 : decode (zm_cc 98) 95 = .ok (.iinc 3 1, 3) := by decide +kernel
theorem zd_98_98 : decode (zm_cc 98) 98 = .ok (.goto (-96), 3) := by decide +kernel
theorem zd_98_101 : decode (zm_cc 98) 101 = .ok (.iconst (-1), 1) := by decide +kernel
theorem zd_98_102 : decode (zm_cc 98) 102 = .ok (.ireturn, 1) := by decide +kernel
theorem zd_99_0 : decode (zm_cc 99) 0 = .ok (.aload_n 0, 1) := by decide +kernel
theorem zd_99_1 : decode (zm_cc 99) 1 = .ok (.bipush 6, 2) := by decide +kernel
theorem zd_99_3 : decode (zm_cc 99) 3 = .ok (.aload_n 0, 1) := by decide +kernel
theorem zd_99_4 : decode (zm_cc 99) 4 = .ok (.getfield 222, 3) := by decide +kernel
theorem zd_99_7 : decode (zm_cc 99) 7 = .ok (.invokevirtual 218, 3) := by decide +kernel
theorem zd_99_10 : decode (zm_cc 99) 10 = .ok (.ireturn, 1) := by decide +kernel
theorem zd_100_0 : decode (zm_cc 100) 0 = .ok (.aload_n 0, 1) := by decide +kernel
theorem zd_100_1 : decode (zm_cc 100) 1 = .ok (.bipush 10, 2) := by decide +kernel
theorem zd_100_3 : decode (zm_cc 100) 3 = .ok (.aload_n 0, 1) := by decide +kernel
theorem zd_100_4 : decode (zm_cc 100) 4 = .ok (.getfield 225, 3) := by decide +kernel
theorem zd_100_7 : decode (zm_cc 100) 7 = .ok (.invokevirtual 218, 3) := by decide +kernel
theorem zd_100_10 : decode (zm_cc 100) 10 = .ok (.ireturn, 1) := by decide +kernel
theorem zd_101_0 : decode (zm_cc 101) 0 = .ok (.aload_n 0, 1) := by decide +kernel
theorem zd_101_1 : decode (zm_cc 101) 1 = .ok (.getfield 23, 3) := by decide +kernel
theorem zd_101_4 : decode (zm_cc 101) 4 = .ok (.iload_n 1, 1) := by decide +kernel
theorem zd_101_5 : decode (zm_cc 101) 5 = .ok (.aload_n 0, 1) := by decide +kernel
theorem zd_101_6 : decode (zm_cc 101) 6 = .ok (.getfield 155, 3) := by decide +kernel
theorem zd_101_9 : decode (zm_cc 101) 9 = .ok (.iastore, 1) := by decide +kernel
theorem zd_101_10 : decode (zm_cc 101) 10 = .ok (.iconst 0, 1) := by decide +kernel
theorem zd_101_11 : decode (zm_cc 101) 11 = .ok (.istore_n 2, 1) := by decide +kernel
theorem zd_101_12 : decode (zm_cc 101) 12 = .ok (.iload_n 2, 1) := by decide +kernel
theorem zd_101_13 : decode (zm_cc 101) 13 = .ok (.aload_n 0, 1) := by decide +kernel
theorem zd_101_14 : decode (zm_cc 101) 14 = .ok (.getfield 155, 3) := by decide +kernel
theorem zd_101_17 : decode (zm_cc 101) 17 = .ok (.if_icmp .ge 31, 3) := by decide +kernel
theorem zd_101_20 : decode (zm_cc 101) 20 = .ok (.aload_n 0, 1) := by decide +kernel
theorem zd_101_21 : decode (zm_cc 101) 21 = .ok (.getfield 20, 3) := by decide +kernel
theorem zd_101_24 : decode (zm_cc 101) 24 = .ok (.bipush 6, 2) := by decide +kernel
theorem zd_101_26 : decode (zm_cc 101) 26 = .ok (.iload_n 1, 1) := by decide +kernel
theorem zd_101_27 : decode (zm_cc 101) 27 = .ok (.imul, 1) := by decide +kernel
theorem zd_101_28 : decode (zm_cc 101) 28 = .ok (.iload_n 2, 1) := by decide +kernel
theorem zd_101_29 : decode (zm_cc 101) 29 = .ok (.iadd, 1) := by decide +kernel
theorem zd_101_30 : decode (zm_cc 101) 30 = .ok (.aload_n 0, 1) := by decide +kernel
theorem zd_101_31 : decode (zm_cc 101) 31 = .ok (.getfield 17, 3) := by decide +kernel
theorem zd_101_34 : decode (zm_cc 101) 34 = .ok (.aload_n 0, 1) := by decide +kernel
theorem zd_101_35 : decode (zm_cc 101) 35 = .ok (.getfield 142, 3) := by decide +kernel
theorem zd_101_38 : decode (zm_cc 101) 38 = .ok (.iload_n 2, 1) := by decide +kernel
theorem zd_101_39 : decode (zm_cc 101) 39 = .ok (.iadd, 1) := by decide +kernel
theorem zd_101_40 : decode (zm_cc 101) 40 = .ok (.baload, 1) := by decide +kernel
theorem zd_101_41 : decode (zm_cc 101) 41 = .ok (.bastore, 1) := by decide +kernel
theorem zd_101_42 : decode (zm_cc 101) 42 = .ok (.iinc 2 1, 3) := by decide +kernel
theorem zd_101_45 : decode (zm_cc 101) 45 = .ok (.goto (-33), 3) := by decide +kernel
theorem zd_101_48 : decode (zm_cc 101) 48 = .ok (.return_, 1) := by decide +kernel
theorem zd_102_0 : decode (zm_cc 102) 0 = .ok (.aload_n 0, 1) := by decide +kernel
theorem zd_102_1 : decode (zm_cc 102) 1 = .ok (.getfield 135, 3) := by decide +kernel
theorem zd_102_4 : decode (zm_cc 102) 4 = .ok (.ifCond .eq 4, 3) := by decide +kernel
theorem zd_102_7 : decode (zm_cc 102) 7 = .ok (.return_, 1) := by decide +kernel
theorem zd_102_8 : decode (zm_cc 102) 8 = .ok (.aload_n 0, 1) := by decide +kernel
theorem zd_102_9 : decode (zm_cc 102) 9 = .ok (.iload_n 1, 1) := by decide +kernel
theorem zd_102_10 : decode (zm_cc 102) 10 = .ok (.invokevirtual 206, 3) := by decide +kernel
theorem zd_102_13 : decode (zm_cc 102) 13 = .ok (.ifCond .eq 10, 3) := by decide +kernel
theorem zd_102_16 : decode (zm_cc 102) 16 = .ok (.aload_n 0, 1) := by decide +kernel
theorem zd_102_17 : decode (zm_cc 102) 17 = .ok (.invokevirtual 209, 3) := by decide +kernel
theorem zd_102_20 : decode (zm_cc 102) 20 = .ok (.goto 7, 3) := by decide +kernel
theorem zd_102_23 : decode (zm_cc 102) 23 = .ok (.aload_n 0, 1) := by decide +kernel
theorem zd_102_24 : decode (zm_cc 102) 24 = .ok (.invokevirtual 212, 3) := by decide +kernel
theorem zd_102_27 : decode (zm_cc 102) 27 = .ok (.return_, 1) := by decide +kernel
theorem zd_103_0 : decode (zm_cc 103) 0 = .ok (.aload_n 0, 1) := by decide +kernel
theorem zd_103_1 : decode (zm_cc 103) 1 = .ok (.getfield 148, 3) := by decide +kernel
theorem zd_103_4 : decode (zm_cc 103) 4 = .ok (.iconst 4, 1) := by decide +kernel
theorem zd_103_5 : decode (zm_cc 103) 5 = .ok (.if_icmp .ne 15, 3) := by decide +kernel
theorem zd_103_8 : decode (zm_cc 103) 8 = .ok (.aload_n 0, 1) := by decide +kernel
theorem zd_103_9 : decode (zm_cc 103) 9 = .ok (.getfield 192, 3) := by decide +kernel
theorem zd_103_12 : decode (zm_cc 103) 12 = .ok (.iload_n 1, 1) := by decide +kernel
theorem zd_103_13 : decode (zm_cc 103) 13 = .ok (.if_icmp .ne 7, 3) := by decide +kernel
theorem zd_103_16 : decode (zm_cc 103) 16 = .ok (.iconst 1, 1) := by decide +kernel
theorem zd_103_17 : decode (zm_cc 103) 17 = .ok (.goto 4, 3) := by decide +kernel
theorem zd_103_20 : decode (zm_cc 103) 20 = .ok (.iconst 0, 1) := by decide +kernel
theorem zd_103_21 : decode (zm_cc 103) 21 = .ok (.ireturn, 1) := by decide +kernel
theorem zd_104_0 : decode (zm_cc 104) 0 = .ok (.aload_n 0, 1) := by decide +kernel
theorem zd_104_1 : decode (zm_cc 104) 1 = .ok (.invokevirtual 209, 3) := by decide +kernel
theorem zd_104_4 : decode (zm_cc 104) 4 = .ok (.aload_n 0, 1) := by decide +kernel
theorem zd_104_5 : decode (zm_cc 104) 5 = .ok (.iconst 0, 1) := by decide +kernel
theorem zd_104_6 : decode (zm_cc 104) 6 = .ok (.aload_n 0, 1) := by decide +kernel
theorem zd_104_7 : decode (zm_cc 104) 7 = .ok (.getfield 215, 3) := by decide +kernel
theorem zd_104_10 : decode (zm_cc 104) 10 = .ok (.bipush 6, 2) := by decide +kernel
theorem zd_104_12 : decode (zm_cc 104) 12 = .ok (.invokevirtual 318, 3) := by decide +kernel
theorem zd_104_15 : decode (zm_cc 104) 15 = .ok (.aload_n 0, 1) := by decide +kernel
theorem zd_104_16 : decode (zm_cc 104) 16 = .ok (.getfield 135, 3) := by decide +kernel
theorem zd_104_19 : decode (zm_cc 104) 19 = .ok (.ifCond .eq 4, 3) := by decide +kernel
theorem zd_104_22 : decode (zm_cc 104) 22 = .ok (.return_, 1) := by decide +kernel
theorem zd_104_23 : decode (zm_cc 104) 23 = .ok (.aload_n 0, 1) := by decide +kernel
theorem zd_104_24 : decode (zm_cc 104) 24 = .ok (.getfield 30, 3) := by decide +kernel
theorem zd_104_27 : decode (zm_cc 104) 27 = .ok (.aload_n 0, 1) := by decide +kernel
theorem zd_104_28 : decode (zm_cc 104) 28 = .ok (.getfield 215, 3) := by decide +kernel
theorem zd_104_31 : decode (zm_cc 104) 31 = .ok (.iload_n 1, 1) := by decide +kernel
theorem zd_104_32 : decode (zm_cc 104) 32 = .ok (.bastore, 1) := by decide +kernel
theorem zd_104_33 : decode (zm_cc 104) 33 = .ok (.aload_n 0, 1) := by decide +kernel
theorem zd_104_34 : decode (zm_cc 104) 34 = .ok (.getfield 34, 3) := by decide +kernel
theorem zd_104_37 : decode (zm_cc 104) 37 = .ok (.aload_n 0, 1) := by decide +kernel
theorem zd_104_38 : decode (zm_cc 104) 38 = .ok (.getfield 215, 3) := by decide +kernel
theorem zd_104_41 : decode (zm_cc 104) 41 = .ok (.iconst 0, 1) := by decide +kernel
theorem zd_104_42 : decode (zm_cc 104) 42 = .ok (.iastore, 1) := by decide +kernel
theorem zd_104_43 : decode (zm_cc 104) 43 = .ok (.aload_n 0, 1) := by decide +kernel
theorem zd_104_44 : decode (zm_cc 104) 44 = .ok (.bipush 61, 2) := by decide +kernel
theorem zd_104_46 : decode (zm_cc 104) 46 = .ok (.invokevirtual 206, 3) := by decide +kernel
theorem zd_104_49 : decode (zm_cc 104) 49 = .ok (.ifCond .eq 37, 3) := by decide +kernel
theorem zd_104_52 : decode (zm_cc 104) 52 = .ok (.aload_n 0, 1) := by decide +kernel
theorem zd_104_53 : decode (zm_cc 104) 53 = .ok (.invokevirtual 209, 3) := by decide +kernel
theorem zd_104_56 : decode (zm_cc 104) 56 = .ok (.aload_n 0, 1) := by decide +kernel
theorem zd_104_57 : decode (zm_cc 104) 57 = .ok (.getfield 34, 3) := by decide +kernel
theorem zd_104_60 : decode (zm_cc 104) 60 = .ok (.aload_n 0, 1) := by decide +kernel
theorem zd_104_61 : decode (zm_cc 104) 61 = .ok (.getfield 215, 3) := by decide +kernel
theorem zd_104_64 : decode (zm_cc 104) 64 = .ok (.aload_n 0, 1) := by decide +kernel
theorem zd_104_65 : decode (zm_cc 104) 65 = .ok (.getfield 192, 3) := by decide +kernel
theorem zd_104_68 : decode (zm_cc 104) 68 = .ok (.iastore, 1) := by decide +kernel
theorem zd_104_69 : decode (zm_cc 104) 69 = .ok (.aload_n 0, 1) := by decide +kernel
theorem zd_104_70 : decode (zm_cc 104) 70 = .ok (.getfield 148, 3) := by decide +kernel
theorem zd_104_73 : decode (zm_cc 104) 73 = .ok (.iconst 3, 1) := by decide +kernel
theorem zd_104_74 : decode (zm_cc 104) 74 = .ok (.if_icmp .eq 8, 3) := by decide +kernel
theorem zd_104_77 : decode (zm_cc 104) 77 = .ok (.aload_n 0, 1) := by decide +kernel
theorem zd_104_78 : decode (zm_cc 104) 78 = .ok (.invokevirtual 212, 3) := by decide +kernel
theorem zd_104_81 : decode (zm_cc 104) 81 = .ok (.return_, 1) := by decide +kernel
theorem zd_104_82 : decode (zm_cc 104) 82 = .ok (.aload_n 0, 1) := by decide +kernel
theorem zd_104_83 : decode (zm_cc 104) 83 = .ok (.invokevirtual 209, 3) := by decide +kernel
theorem zd_104_86 : decode (zm_cc 104) 86 = .ok (.aload_n 0, 1) := by decide +kernel
theorem zd_104_87 : decode (zm_cc 104) 87 = .ok (.dup, 1) := by decide +kernel
theorem zd_104_88 : decode (zm_cc 104) 88 = .ok (.getfield 215, 3) := by decide +kernel
theorem zd_104_91 : decode (zm_cc 104) 91 = .ok (.iconst 1, 1) := by decide +kernel
theorem zd_104_92 : decode (zm_cc 104) 92 = .ok (.iadd, 1) := by decide +kernel
theorem zd_104_93 : decode (zm_cc 104) 93 = .ok (.putfield 215, 3) := by decide +kernel
theorem zd_104_96 : decode (zm_cc 104) 96 = .ok (.aload_n 0, 1) := by decide +kernel
theorem zd_104_97 : decode (zm_cc 104) 97 = .ok (.bipush 59, 2) := by decide +kernel
theorem zd_104_99 : decode (zm_cc 104) 99 = .ok (.invokevirtual 288, 3) := by decide +kernel
theorem zd_104_102 : decode (zm_cc 104) 102 = .ok (.return_, 1) := by decide +kernel
theorem zd_105_0 : decode (zm_cc 105) 0 = .ok (.aload_n 0, 1) := by decide +kernel
theorem zd_105_1 : decode (zm_cc 105) 1 = .ok (.invokevirtual 209, 3) := by decide +kernel
theorem zd_105_4 : decode (zm_cc 105) 4 = .ok (.aload_n 0, 1) := by decide +kernel
theorem zd_105_5 : decode (zm_cc 105) 5 = .ok (.getfield 148, 3) := by decide +kernel
theorem zd_105_8 : decode (zm_cc 105) 8 = .ok (.iconst 2, 1) := by decide +kernel
theorem zd_105_9 : decode (zm_cc 105) 9 = .ok (.if_icmp .eq 8, 3) := by decide +kernel
theorem zd_105_12 : decode (zm_cc 105) 12 = .ok (.aload_n 0, 1) := by decide +kernel
theorem zd_105_13 : decode (zm_cc 105) 13 = .ok (.invokevirtual 212, 3) := by decide +kernel
theorem zd_105_16 : decode (zm_cc 105) 16 = .ok (.return_, 1) := by decide +kernel
theorem zd_105_17 : decode (zm_cc 105) 17 = .ok (.aload_n 0, 1) := by decide +kernel
theorem zd_105_18 : decode (zm_cc 105) 18 = .ok (.invokevirtual 277, 3) := by decide +kernel
theorem zd_105_21 : decode (zm_cc 105) 21 = .ok (.ifCond .eq 9, 3) := by decide +kernel
theorem zd_105_24 : decode (zm_cc 105) 24 = .ok (.aload_n 0, 1) := by decide +kernel
theorem zd_105_25 : decode (zm_cc 105) 25 = .ok (.iconst 3, 1) := by decide +kernel
theorem zd_105_26 : decode (zm_cc 105) 26 = .ok (.invokevirtual 151, 3) := by decide +kernel
theorem zd_105_29 : decode (zm_cc 105) 29 = .ok (.return_, 1) := by decide +kernel
theorem zd_105_30 : decode (zm_cc 105) 30 = .ok (.aload_n 0, 1) := by decide +kernel
theorem zd_105_31 : decode (zm_cc 105) 31 = .ok (.getfield 225, 3) := by decide +kernel
theorem zd_105_34 : decode (zm_cc 105) 34 = .ok (.iconst 4, 1) := by decide +kernel
theorem zd_105_35 : decode (zm_cc 105) 35 = .ok (.if_icmp .ne 9, 3) := by decide +kernel
theorem zd_105_38 : decode (zm_cc 105) 38 = .ok (.aload_n 0, 1) := by decide +kernel
theorem zd_105_39 : decode (zm_cc 105) 39 = .ok (.iconst 4, 1) := by decide +kernel
theorem zd_105_40 : decode (zm_cc 105) 40 = .ok (.invokevirtual 151, 3) := by decide +kernel
theorem zd_105_43 : decode (zm_cc 105) 43 = .ok (.return_, 1) := by decide +kernel
theorem zd_105_44 : decode (zm_cc 105) 44 = .ok (.aload_n 0, 1) := by decide +kernel
theorem zd_105_45 : decode (zm_cc 105) 45 = .ok (.bipush 10, 2) := by decide +kernel
theorem zd_105_47 : decode (zm_cc 105) 47 = .ok (.aload_n 0, 1) := by decide +kernel
theorem zd_105_48 : decode (zm_cc 105) 48 = .ok (.getfield 225, 3) := by decide +kernel
theorem zd_105_51 : decode (zm_cc 105) 51 = .ok (.iadd, 1) := by decide +kernel
theorem zd_105_52 : decode (zm_cc 105) 52 = .ok (.invokevirtual 274, 3) := by decide +kernel
theorem zd_105_55 : decode (zm_cc 105) 55 = .ok (.aload_n 0, 1) := by decide +kernel
theorem zd_105_56 : decode (zm_cc 105) 56 = .ok (.aload_n 0, 1) := by decide +kernel
theorem zd_105_57 : decode (zm_cc 105) 57 = .ok (.getfield 225, 3) := by decide +kernel
theorem zd_105_60 : decode (zm_cc 105) 60 = .ok (.putfield 240, 3) := by decide +kernel
theorem zd_105_63 : decode (zm_cc 105) 63 = .ok (.aload_n 0, 1) := by decide +kernel
theorem zd_105_64 : decode (zm_cc 105) 64 = .ok (.dup, 1) := by decide +kernel
theorem zd_105_65 : decode (zm_cc 105) 65 = .ok (.getfield 225, 3) := by decide +kernel
theorem zd_105_68 : decode (zm_cc 105) 68 = .ok (.iconst 1, 1) := by decide +kernel
theorem zd_105_69 : decode (zm_cc 105) 69 = .ok (.iadd, 1) := by decide +kernel
theorem zd_105_70 : decode (zm_cc 105) 70 = .ok (.putfield 225, 3) := by decide +kernel
theorem zd_105_73 : decode (zm_cc 105) 73 = .ok (.aload_n 0, 1) := by decide +kernel
theorem zd_105_74 : decode (zm_cc 105) 74 = .ok (.invokevirtual 209, 3) := by decide +kernel
theorem zd_105_77 : decode (zm_cc 105) 77 = .ok (.aload_n 0, 1) := by decide +kernel
theorem zd_105_78 : decode (zm_cc 105) 78 = .ok (.getfield 37, 3) := by decide +kernel
theorem zd_105_81 : decode (zm_cc 105) 81 = .ok (.aload_n 0, 1) := by decide +kernel
theorem zd_105_82 : decode (zm_cc 105) 82 = .ok (.getfield 240, 3) := by decide +kernel
theorem zd_105_85 : decode (zm_cc 105) 85 = .ok (.iconst 0, 1) := by decide +kernel
theorem zd_105_86 : decode (zm_cc 105) 86 = .ok (.iastore, 1) := by decide +kernel
theorem zd_105_87 : decode (zm_cc 105) 87 = .ok (.aload_n 0, 1) := by decide +kernel
theorem zd_105_88 : decode (zm_cc 105) 88 = .ok (.iconst 0, 1) := by decide +kernel
theorem zd_105_89 : decode (zm_cc 105) 89 = .ok (.putfield 271, 3) := by decide +kernel
theorem zd_105_92 : decode (zm_cc 105) 92 = .ok (.aload_n 0, 1) := by decide +kernel
theorem zd_105_93 : decode (zm_cc 105) 93 = .ok (.iconst 0, 1) := by decide +kernel
theorem zd_105_94 : decode (zm_cc 105) 94 = .ok (.putfield 255, 3) := by decide +kernel
theorem zd_105_97 : decode (zm_cc 105) 97 = .ok (.aload_n 0, 1) := by decide +kernel
theorem zd_105_98 : decode (zm_cc 105) 98 = .ok (.iconst 0, 1) := by decide +kernel
theorem zd_105_99 : decode (zm_cc 105) 99 = .ok (.putfield 243, 3) := by decide +kernel
theorem zd_105_102 : decode (zm_cc 105) 102 = .ok (.aload_n 0, 1) := by decide +kernel
theorem zd_105_103 : decode (zm_cc 105) 103 = .ok (.iconst (-1), 1) := by decide +kernel
theorem zd_105_104 : decode (zm_cc 105) 104 = .ok (.putfield 246, 3) := by decide +kernel
theorem zd_105_107 : decode (zm_cc 105) 107 = .ok (.aload_n 0, 1) := by decide +kernel
theorem zd_105_108 : decode (zm_cc 105) 108 = .ok (.iconst (-1), 1) := by decide +kernel
theorem zd_105_109 : decode (zm_cc 105) 109 = .ok (.putfield 237, 3) := by decide +kernel
theorem zd_105_112 : decode (zm_cc 105) 112 = .ok (.aload_n 0, 1) := by decide +kernel
theorem zd_105_113 : decode (zm_cc 105) 113 = .ok (.iconst 0, 1) := by decide +kernel
theorem zd_105_114 : decode (zm_cc 105) 114 = .ok (.iconst 0, 1) := by decide +kernel
theorem zd_105_115 : decode (zm_cc 105) 115 = .ok (.invokevirtual 267, 3) := by decide +kernel
theorem zd_105_118 : decode (zm_cc 105) 118 = .ok (.aload_n 0, 1) := by decide +kernel
theorem zd_105_119 : decode (zm_cc 105) 119 = .ok (.getfield 135, 3) := by decide +kernel
theorem zd_105_122 : decode (zm_cc 105) 122 = .ok (.ifCond .ne 33, 3) := by decide +kernel
theorem zd_105_125 : decode (zm_cc 105) 125 = .ok (.aload_n 0, 1) := by decide +kernel
theorem zd_105_126 : decode (zm_cc 105) 126 = .ok (.getfield 255, 3) := by decide +kernel
theorem zd_105_129 : decode (zm_cc 105) 129 = .ok (.ifCond .le 26, 3) := by decide +kernel
theorem zd_105_132 : decode (zm_cc 105) 132 = .ok (.aload_n 0, 1) := by decide +kernel
theorem zd_105_133 : decode (zm_cc 105) 133 = .ok (.bipush 125, 2) := by decide +kernel
theorem zd_105_135 : decode (zm_cc 105) 135 = .ok (.invokevirtual 206, 3) := by decide +kernel
theorem zd_105_138 : decode (zm_cc 105) 138 = .ok (.ifCond .eq 10, 3) := by decide +kernel
theorem zd_105_141 : decode (zm_cc 105) 141 = .ok (.aload_n 0, 1) := by decide +kernel
theorem zd_105_142 : decode (zm_cc 105) 142 = .ok (.invokevirtual 312, 3) := by decide +kernel
theorem zd_105_145 : decode (zm_cc 105) 145 = .ok (.goto (-27), 3) := by decide +kernel
theorem zd_105_148 : decode (zm_cc 105) 148 = .ok (.aload_n 0, 1) := by decide +kernel
theorem zd_105_149 : decode (zm_cc 105) 149 = .ok (.invokevirtual 315, 3) := by decide +kernel
theorem zd_105_152 : decode (zm_cc 105) 152 = .ok (.goto (-34), 3) := by decide +kernel
theorem zd_105_155 : decode (zm_cc 105) 155 = .ok (.aload_n 0, 1) := by decide +kernel
theorem zd_105_156 : decode (zm_cc 105) 156 = .ok (.getfield 135, 3) := by decide +kernel
theorem zd_105_159 : decode (zm_cc 105) 159 = .ok (.ifCond .eq 4, 3) := by decide +kernel
theorem zd_105_162 : decode (zm_cc 105) 162 = .ok (.return_, 1) := by decide +kernel
theorem zd_105_163 : decode (zm_cc 105) 163 = .ok (.aload_n 0, 1) := by decide +kernel
theorem zd_105_164 : decode (zm_cc 105) 164 = .ok (.aload_n 0, 1) := by decide +kernel
theorem zd_105_165 : decode (zm_cc 105) 165 = .ok (.getfield 37, 3) := by decide +kernel
theorem zd_105_168 : decode (zm_cc 105) 168 = .ok (.aload_n 0, 1) := by decide +kernel
theorem zd_105_169 : decode (zm_cc 105) 169 = .ok (.getfield 240, 3) := by decide +kernel
theorem zd_105_172 : decode (zm_cc 105) 172 = .ok (.iaload, 1) := by decide +kernel
theorem zd_105_173 : decode (zm_cc 105) 173 = .ok (.invokevirtual 249, 3) := by decide +kernel
theorem zd_105_176 : decode (zm_cc 105) 176 = .ok (.iconst 0, 1) := by decide +kernel
theorem zd_105_177 : decode (zm_cc 105) 177 = .ok (.istore_n 1, 1) := by decide +kernel
theorem zd_105_178 : decode (zm_cc 105) 178 = .ok (.iload_n 1, 1) := by decide +kernel
theorem zd_105_179 : decode (zm_cc 105) 179 = .ok (.aload_n 0, 1) := by decide +kernel
theorem zd_105_180 : decode (zm_cc 105) 180 = .ok (.getfield 37, 3) := by decide +kernel
theorem zd_105_183 : decode (zm_cc 105) 183 = .ok (.aload_n 0, 1) := by decide +kernel
theorem zd_105_184 : decode (zm_cc 105) 184 = .ok (.getfield 240, 3) := by decide +kernel
theorem zd_105_187 : decode (zm_cc 105) 187 = .ok (.iaload, 1) := by decide +kernel
theorem zd_105_188 : decode (zm_cc 105) 188 = .ok (.if_icmp .ge 54, 3) := by decide +kernel
theorem zd_105_191 : decode (zm_cc 105) 191 = .ok (.bipush 24, 2) := by decide +kernel
theorem zd_105_193 : decode (zm_cc 105) 193 = .ok (.aload_n 0, 1) := by decide +kernel
theorem zd_105_194 : decode (zm_cc 105) 194 = .ok (.getfield 240, 3) := by decide +kernel
theorem zd_105_197 : decode (zm_cc 105) 197 = .ok (.imul, 1) := by decide +kernel
theorem zd_105_198 : decode (zm_cc 105) 198 = .ok (.iload_n 1, 1) := by decide +kernel
theorem zd_105_199 : decode (zm_cc 105) 199 = .ok (.iadd, 1) := by decide +kernel
theorem zd_105_200 : decode (zm_cc 105) 200 = .ok (.istore_n 2, 1) := by decide +kernel
theorem zd_105_201 : decode (zm_cc 105) 201 = .ok (.aload_n 0, 1) := by decide +kernel
theorem zd_105_202 : decode (zm_cc 105) 202 = .ok (.getfield 49, 3) := by decide +kernel
theorem zd_105_205 : decode (zm_cc 105) 205 = .ok (.iload_n 2, 1) := by decide +kernel
theorem zd_105_206 : decode (zm_cc 105) 206 = .ok (.aload_n 0, 1) := by decide +kernel
theorem zd_105_207 : decode (zm_cc 105) 207 = .ok (.getfield 43, 3) := by decide +kernel
theorem zd_105_210 : decode (zm_cc 105) 210 = .ok (.iload_n 2, 1) := by decide +kernel
theorem zd_105_211 : decode (zm_cc 105) 211 = .ok (.iaload, 1) := by decide +kernel
theorem zd_105_212 : decode (zm_cc 105) 212 = .ok (.bipush 13, 2) := by decide +kernel
theorem zd_105_214 : decode (zm_cc 105) 214 = .ok (.if_icmp .ne 15, 3) := by decide +kernel
theorem zd_105_217 : decode (zm_cc 105) 217 = .ok (.aload_n 0, 1) := by decide +kernel
theorem zd_105_218 : decode (zm_cc 105) 218 = .ok (.getfield 37, 3) := by decide +kernel
theorem zd_105_221 : decode (zm_cc 105) 221 = .ok (.aload_n 0, 1) := by decide +kernel
theorem zd_105_222 : decode (zm_cc 105) 222 = .ok (.getfield 240, 3) := by decide +kernel
theorem zd_105_225 : decode (zm_cc 105) 225 = .ok (.iaload, 1) := by decide +kernel
theorem zd_105_226 : decode (zm_cc 105) 226 = .ok (.goto 9, 3) := by decide +kernel
theorem zd_105_229 : decode (zm_cc 105) 229 = .ok (.aload_n 0, 1) := by decide +kernel
theorem zd_105_230 : decode (zm_cc 105) 230 = .ok (.getfield 49, 3) := by decide +kernel
theorem zd_105_233 : decode (zm_cc 105) 233 = .ok (.iload_n 2, 1) := by decide +kernel
theorem zd_105_234 : decode (zm_cc 105) 234 = .ok (.iaload, 1) := by decide +kernel
theorem zd_105_235 : decode (zm_cc 105) 235 = .ok (.iastore, 1) := by decide +kernel
theorem zd_105_236 : decode (zm_cc 105) 236 = .ok (.iinc 1 1, 3) := by decide +kernel
theorem zd_105_239 : decode (zm_cc 105) 239 = .ok (.goto (-61), 3) := by decide +kernel
theorem zd_105_242 : decode (zm_cc 105) 242 = .ok (.return_, 1) := by decide +kernel
theorem zd_106_0 : decode (zm_cc 106) 0 = .ok (.aload_n 0, 1) := by decide +kernel
theorem zd_106_1 : decode (zm_cc 106) 1 = .ok (.getfield 135, 3) := by decide +kernel
theorem zd_106_4 : decode (zm_cc 106) 4 = .ok (.ifCond .eq 4, 3) := by decide +kernel
theorem zd_106_7 : decode (zm_cc 106) 7 = .ok (.return_, 1) := by decide +kernel
theorem zd_106_8 : decode (zm_cc 106) 8 = .ok (.aload_n 0, 1) := by decide +kernel
theorem zd_106_9 : decode (zm_cc 106) 9 = .ok (.bipush 123, 2) := by decide +kernel
theorem zd_106_11 : decode (zm_cc 106) 11 = .ok (.invokevirtual 206, 3) := by decide +kernel
theorem zd_106_14 : decode (zm_cc 106) 14 = .ok (.ifCond .ne 8, 3) := by decide +kernel
theorem zd_106_17 : decode (zm_cc 106) 17 = .ok (.aload_n 0, 1) := by decide +kernel
theorem zd_106_18 : decode (zm_cc 106) 18 = .ok (.invokevirtual 212, 3) := by decide +kernel
theorem zd_106_21 : decode (zm_cc 106) 21 = .ok (.return_, 1) := by decide +kernel
theorem zd_106_22 : decode (zm_cc 106) 22 = .ok (.aload_n 0, 1) := by decide +kernel
theorem zd_106_23 : decode (zm_cc 106) 23 = .ok (.getfield 255, 3) := by decide +kernel
theorem zd_106_26 : decode (zm_cc 106) 26 = .ok (.bipush 8, 2) := by decide +kernel
theorem zd_106_28 : decode (zm_cc 106) 28 = .ok (.if_icmp .ne 9, 3) := by decide +kernel
theorem zd_106_31 : decode (zm_cc 106) 31 = .ok (.aload_n 0, 1) := by decide +kernel
theorem zd_106_32 : decode (zm_cc 106) 32 = .ok (.iconst 4, 1) := by decide +kernel
theorem zd_106_33 : decode (zm_cc 106) 33 = .ok (.invokevirtual 151, 3) := by decide +kernel
theorem zd_106_36 : decode (zm_cc 106) 36 = .ok (.return_, 1) := by decide +kernel
theorem zd_106_37 : decode (zm_cc 106) 37 = .ok (.aload_n 0, 1) := by decide +kernel
theorem zd_106_38 : decode (zm_cc 106) 38 = .ok (.invokevirtual 209, 3) := by decide +kernel
theorem zd_106_41 : decode (zm_cc 106) 41 = .ok (.aload_n 0, 1) := by decide +kernel
theorem zd_106_42 : decode (zm_cc 106) 42 = .ok (.getfield 76, 3) := by decide +kernel
theorem zd_106_45 : decode (zm_cc 106) 45 = .ok (.aload_n 0, 1) := by decide +kernel
theorem zd_106_46 : decode (zm_cc 106) 46 = .ok (.getfield 255, 3) := by decide +kernel
theorem zd_106_49 : decode (zm_cc 106) 49 = .ok (.iload_n 1, 1) := by decide +kernel
theorem zd_106_50 : decode (zm_cc 106) 50 = .ok (.iastore, 1) := by decide +kernel
theorem zd_106_51 : decode (zm_cc 106) 51 = .ok (.aload_n 0, 1) := by decide +kernel
theorem zd_106_52 : decode (zm_cc 106) 52 = .ok (.getfield 79, 3) := by decide +kernel
theorem zd_106_55 : decode (zm_cc 106) 55 = .ok (.aload_n 0, 1) := by decide +kernel
theorem zd_106_56 : decode (zm_cc 106) 56 = .ok (.getfield 255, 3) := by decide +kernel
theorem zd_106_59 : decode (zm_cc 106) 59 = .ok (.iload_n 2, 1) := by decide +kernel
theorem zd_106_60 : decode (zm_cc 106) 60 = .ok (.iastore, 1) := by decide +kernel
theorem zd_106_61 : decode (zm_cc 106) 61 = .ok (.aload_n 0, 1) := by decide +kernel
theorem zd_106_62 : decode (zm_cc 106) 62 = .ok (.getfield 85, 3) := by decide +kernel
theorem zd_106_65 : decode (zm_cc 106) 65 = .ok (.aload_n 0, 1) := by decide +kernel
theorem zd_106_66 : decode (zm_cc 106) 66 = .ok (.getfield 255, 3) := by decide +kernel
theorem zd_106_69 : decode (zm_cc 106) 69 = .ok (.aload_n 0, 1) := by decide +kernel
theorem zd_106_70 : decode (zm_cc 106) 70 = .ok (.getfield 243, 3) := by decide +kernel
theorem zd_106_73 : decode (zm_cc 106) 73 = .ok (.iastore, 1) := by decide +kernel
theorem zd_106_74 : decode (zm_cc 106) 74 = .ok (.aload_n 0, 1) := by decide +kernel
theorem zd_106_75 : decode (zm_cc 106) 75 = .ok (.dup, 1) := by decide +kernel
theorem zd_106_76 : decode (zm_cc 106) 76 = .ok (.getfield 255, 3) := by decide +kernel
theorem zd_106_79 : decode (zm_cc 106) 79 = .ok (.iconst 1, 1) := by decide +kernel
theorem zd_106_80 : decode (zm_cc 106) 80 = .ok (.iadd, 1) := by decide +kernel
theorem zd_106_81 : decode (zm_cc 106) 81 = .ok (.putfield 255, 3) := by decide +kernel
theorem zd_106_84 : decode (zm_cc 106) 84 = .ok (.return_, 1) := by decide +kernel
theorem zd_107_0 : decode (zm_cc 107) 0 = .ok (.aload_n 0, 1) := by decide +kernel
theorem zd_107_1 : decode (zm_cc 107) 1 = .ok (.getfield 255, 3) := by decide +kernel
theorem zd_107_4 : decode (zm_cc 107) 4 = .ok (.iconst 1, 1) := by decide +kernel
theorem zd_107_5 : decode (zm_cc 107) 5 = .ok (.isub, 1) := by decide +kernel
theorem zd_107_6 : decode (zm_cc 107) 6 = .ok (.istore_n 1, 1) := by decide +kernel
theorem zd_107_7 : decode (zm_cc 107) 7 = .ok (.bipush 24, 2) := by decide +kernel
theorem zd_107_9 : decode (zm_cc 107) 9 = .ok (.aload_n 0, 1) := by decide +kernel
theorem zd_107_10 : decode (zm_cc 107) 10 = .ok (.getfield 240, 3) := by decide +kernel
theorem zd_107_13 : decode (zm_cc 107) 13 = .ok (.imul, 1) := by decide +kernel
theorem zd_107_14 : decode (zm_cc 107) 14 = .ok (.istore_n 2, 1) := by decide +kernel
theorem zd_107_15 : decode (zm_cc 107) 15 = .ok (.aload_n 0, 1) := by decide +kernel
theorem zd_107_16 : decode (zm_cc 107) 16 = .ok (.getfield 76, 3) := by decide +kernel
theorem zd_107_19 : decode (zm_cc 107) 19 = .ok (.iload_n 1, 1) := by decide +kernel
theorem zd_107_20 : decode (zm_cc 107) 20 = .ok (.iaload, 1) := by decide +kernel
theorem zd_107_21 : decode (zm_cc 107) 21 = .ok (.tableswitch 156 1 5 #[35, 107, 156, 143, 115], 35) := by decide +kernel
theorem zd_107_56 : decode (zm_cc 107) 56 = .ok (.aload_n 0, 1) := by decide +kernel
theorem zd_107_57 : decode (zm_cc 107) 57 = .ok (.iconst 4, 1) := by decide +kernel
theorem zd_107_58 : decode (zm_cc 107) 58 = .ok (.aload_n 0, 1) := by decide +kernel
theorem zd_107_59 : decode (zm_cc 107) 59 = .ok (.getfield 46, 3) := by decide +kernel
theorem zd_107_62 : decode (zm_cc 107) 62 = .ok (.iload_n 2, 1) := by decide +kernel
theorem zd_107_63 : decode (zm_cc 107) 63 = .ok (.aload_n 0, 1) := by decide +kernel
theorem zd_107_64 : decode (zm_cc 107) 64 = .ok (.getfield 79, 3) := by decide +kernel
theorem zd_107_67 : decode (zm_cc 107) 67 = .ok (.iload_n 1, 1) := by decide +kernel
theorem zd_107_68 : decode (zm_cc 107) 68 = .ok (.iaload, 1) := by decide +kernel
theorem zd_107_69 : decode (zm_cc 107) 69 = .ok (.iadd, 1) := by decide +kernel
theorem zd_107_70 : decode (zm_cc 107) 70 = .ok (.iaload, 1) := by decide +kernel
theorem zd_107_71 : decode (zm_cc 107) 71 = .ok (.invokevirtual 258, 3) := by decide +kernel
theorem zd_107_74 : decode (zm_cc 107) 74 = .ok (.istore_n 3, 1) := by decide +kernel
theorem zd_107_75 : decode (zm_cc 107) 75 = .ok (.aload_n 0, 1) := by decide +kernel
theorem zd_107_76 : decode (zm_cc 107) 76 = .ok (.getfield 135, 3) := by decide +kernel
theorem zd_107_79 : decode (zm_cc 107) 79 = .ok (.ifCond .eq 4, 3) := by decide +kernel
theorem zd_107_82 : decode (zm_cc 107) 82 = .ok (.return_, 1) := by decide +kernel
theorem zd_107_83 : decode (zm_cc 107) 83 = .ok (.aload_n 0, 1) := by decide +kernel
theorem zd_107_84 : decode (zm_cc 107) 84 = .ok (.aload_n 0, 1) := by decide +kernel
theorem zd_107_85 : decode (zm_cc 107) 85 = .ok (.getfield 85, 3) := by decide +kernel
theorem zd_107_88 : decode (zm_cc 107) 88 = .ok (.iload_n 1, 1) := by decide +kernel
theorem zd_107_89 : decode (zm_cc 107) 89 = .ok (.iaload, 1) := by decide +kernel
theorem zd_107_90 : decode (zm_cc 107) 90 = .ok (.iconst 1, 1) := by decide +kernel
theorem zd_107_91 : decode (zm_cc 107) 91 = .ok (.aload_n 0, 1) := by decide +kernel
theorem zd_107_92 : decode (zm_cc 107) 92 = .ok (.getfield 46, 3) := by decide +kernel
theorem zd_107_95 : decode (zm_cc 107) 95 = .ok (.iload_n 2, 1) := by decide +kernel
theorem zd_107_96 : decode (zm_cc 107) 96 = .ok (.aload_n 0, 1) := by decide +kernel
theorem zd_107_97 : decode (zm_cc 107) 97 = .ok (.getfield 79, 3) := by decide +kernel
theorem zd_107_100 : decode (zm_cc 107) 100 = .ok (.iload_n 1, 1) := by decide +kernel
theorem zd_107_101 : decode (zm_cc 107) 101 = .ok (.iaload, 1) := by decide +kernel
theorem zd_107_102 : decode (zm_cc 107) 102 = .ok (.iadd, 1) := by decide +kernel
theorem zd_107_103 : decode (zm_cc 107) 103 = .ok (.iaload, 1) := by decide +kernel
theorem zd_107_104 : decode (zm_cc 107) 104 = .ok (.ishl, 1) := by decide +kernel
theorem zd_107_105 : decode (zm_cc 107) 105 = .ok (.iconst (-1), 1) := by decide +kernel
theorem zd_107_106 : decode (zm_cc 107) 106 = .ok (.ixor, 1) := by decide +kernel
theorem zd_107_107 : decode (zm_cc 107) 107 = .ok (.iand, 1) := by decide +kernel
theorem zd_107_108 : decode (zm_cc 107) 108 = .ok (.aload_n 0, 1) := by decide +kernel
theorem zd_107_109 : decode (zm_cc 107) 109 = .ok (.getfield 55, 3) := by decide +kernel
theorem zd_107_112 : decode (zm_cc 107) 112 = .ok (.iload_n 2, 1) := by decide +kernel
theorem zd_107_113 : decode (zm_cc 107) 113 = .ok (.aload_n 0, 1) := by decide +kernel
theorem zd_107_114 : decode (zm_cc 107) 114 = .ok (.getfield 79, 3) := by decide +kernel
theorem zd_107_117 : decode (zm_cc 107) 117 = .ok (.iload_n 1, 1) := by decide +kernel
theorem zd_107_118 : decode (zm_cc 107) 118 = .ok (.iaload, 1) := by decide +kernel
theorem zd_107_119 : decode (zm_cc 107) 119 = .ok (.iadd, 1) := by decide +kernel
theorem zd_107_120 : decode (zm_cc 107) 120 = .ok (.iaload, 1) := by decide +kernel
theorem zd_107_121 : decode (zm_cc 107) 121 = .ok (.ior, 1) := by decide +kernel
theorem zd_107_122 : decode (zm_cc 107) 122 = .ok (.putfield 243, 3) := by decide +kernel
theorem zd_107_125 : decode (zm_cc 107) 125 = .ok (.goto 52, 3) := by decide +kernel
theorem zd_107_128 : decode (zm_cc 107) 128 = .ok (.aload_n 0, 1) := by decide +kernel
theorem zd_107_129 : decode (zm_cc 107) 129 = .ok (.iconst (-1), 1) := by decide +kernel
theorem zd_107_130 : decode (zm_cc 107) 130 = .ok (.putfield 246, 3) := by decide +kernel
theorem zd_107_133 : decode (zm_cc 107) 133 = .ok (.goto 44, 3) := by decide +kernel
theorem zd_107_136 : decode (zm_cc 107) 136 = .ok (.aload_n 0, 1) := by decide +kernel
theorem zd_107_137 : decode (zm_cc 107) 137 = .ok (.aload_n 0, 1) := by decide +kernel
theorem zd_107_138 : decode (zm_cc 107) 138 = .ok (.getfield 79, 3) := by decide +kernel
theorem zd_107_141 : decode (zm_cc 107) 141 = .ok (.iload_n 1, 1) := by decide +kernel
theorem zd_107_142 : decode (zm_cc 107) 142 = .ok (.iaload, 1) := by decide +kernel
theorem zd_107_143 : decode (zm_cc 107) 143 = .ok (.invokevirtual 249, 3) := by decide +kernel
theorem zd_107_146 : decode (zm_cc 107) 146 = .ok (.aload_n 0, 1) := by decide +kernel
theorem zd_107_147 : decode (zm_cc 107) 147 = .ok (.aload_n 0, 1) := by decide +kernel
theorem zd_107_148 : decode (zm_cc 107) 148 = .ok (.aload_n 0, 1) := by decide +kernel
theorem zd_107_149 : decode (zm_cc 107) 149 = .ok (.getfield 79, 3) := by decide +kernel
theorem zd_107_152 : decode (zm_cc 107) 152 = .ok (.iload_n 1, 1) := by decide +kernel
theorem zd_107_153 : decode (zm_cc 107) 153 = .ok (.iaload, 1) := by decide +kernel
theorem zd_107_154 : decode (zm_cc 107) 154 = .ok (.iconst 1, 1) := by decide +kernel
theorem zd_107_155 : decode (zm_cc 107) 155 = .ok (.invokevirtual 252, 3) := by decide +kernel
theorem zd_107_158 : decode (zm_cc 107) 158 = .ok (.putfield 237, 3) := by decide +kernel
theorem zd_107_161 : decode (zm_cc 107) 161 = .ok (.goto 16, 3) := by decide +kernel
theorem zd_107_164 : decode (zm_cc 107) 164 = .ok (.aload_n 0, 1) := by decide +kernel
theorem zd_107_165 : decode (zm_cc 107) 165 = .ok (.aload_n 0, 1) := by decide +kernel
theorem zd_107_166 : decode (zm_cc 107) 166 = .ok (.getfield 82, 3) := by decide +kernel
theorem zd_107_169 : decode (zm_cc 107) 169 = .ok (.iload_n 1, 1) := by decide +kernel
theorem zd_107_170 : decode (zm_cc 107) 170 = .ok (.iaload, 1) := by decide +kernel
theorem zd_107_171 : decode (zm_cc 107) 171 = .ok (.invokevirtual 261, 3) := by decide +kernel
theorem zd_107_174 : decode (zm_cc 107) 174 = .ok (.goto 3, 3) := by decide +kernel
theorem zd_107_177 : decode (zm_cc 107) 177 = .ok (.aload_n 0, 1) := by decide +kernel
theorem zd_107_178 : decode (zm_cc 107) 178 = .ok (.dup, 1) := by decide +kernel
theorem zd_107_179 : decode (zm_cc 107) 179 = .ok (.getfield 255, 3) := by decide +kernel
theorem zd_107_182 : decode (zm_cc 107) 182 = .ok (.iconst 1, 1) := by decide +kernel
theorem zd_107_183 : decode (zm_cc 107) 183 = .ok (.isub, 1) := by decide +kernel
theorem zd_107_184 : decode (zm_cc 107) 184 = .ok (.putfield 255, 3) := by decide +kernel
theorem zd_107_187 : decode (zm_cc 107) 187 = .ok (.aload_n 0, 1) := by decide +kernel
theorem zd_107_188 : decode (zm_cc 107) 188 = .ok (.invokevirtual 209, 3) := by decide +kernel
theorem zd_107_191 : decode (zm_cc 107) 191 = .ok (.aload_n 0, 1) := by decide +kernel
theorem zd_107_192 : decode (zm_cc 107) 192 = .ok (.getfield 76, 3) := by decide +kernel
theorem zd_107_195 : decode (zm_cc 107) 195 = .ok (.iload_n 1, 1) := by decide +kernel
theorem zd_107_196 : decode (zm_cc 107) 196 = .ok (.iaload, 1) := by decide +kernel
theorem zd_107_197 : decode (zm_cc 107) 197 = .ok (.iconst 3, 1) := by decide +kernel
theorem zd_107_198 : decode (zm_cc 107) 198 = .ok (.if_icmp .ne 72, 3) := by decide +kernel
theorem zd_107_201 : decode (zm_cc 107) 201 = .ok (.aload_n 0, 1) := by decide +kernel
theorem zd_107_202 : decode (zm_cc 107) 202 = .ok (.bipush 6, 2) := by decide +kernel
theorem zd_107_204 : decode (zm_cc 107) 204 = .ok (.invokevirtual 264, 3) := by decide +kernel
theorem zd_107_207 : decode (zm_cc 107) 207 = .ok (.ifCond .eq 48, 3) := by decide +kernel
theorem zd_107_210 : decode (zm_cc 107) 210 = .ok (.aload_n 0, 1) := by decide +kernel
theorem zd_107_211 : decode (zm_cc 107) 211 = .ok (.invokevirtual 209, 3) := by decide +kernel
theorem zd_107_214 : decode (zm_cc 107) 214 = .ok (.aload_n 0, 1) := by decide +kernel
theorem zd_107_215 : decode (zm_cc 107) 215 = .ok (.getfield 237, 3) := by decide +kernel
theorem zd_107_218 : decode (zm_cc 107) 218 = .ok (.istore_n 3, 1) := by decide +kernel
theorem zd_107_219 : decode (zm_cc 107) 219 = .ok (.aload_n 0, 1) := by decide +kernel
theorem zd_107_220 : decode (zm_cc 107) 220 = .ok (.aload_n 0, 1) := by decide +kernel
theorem zd_107_221 : decode (zm_cc 107) 221 = .ok (.aload_n 0, 1) := by decide +kernel
theorem zd_107_222 : decode (zm_cc 107) 222 = .ok (.getfield 79, 3) := by decide +kernel
theorem zd_107_225 : decode (zm_cc 107) 225 = .ok (.iload_n 1, 1) := by decide +kernel
theorem zd_107_226 : decode (zm_cc 107) 226 = .ok (.iaload, 1) := by decide +kernel
theorem zd_107_227 : decode (zm_cc 107) 227 = .ok (.iconst 1, 1) := by decide +kernel
theorem zd_107_228 : decode (zm_cc 107) 228 = .ok (.invokevirtual 252, 3) := by decide +kernel
theorem zd_107_231 : decode (zm_cc 107) 231 = .ok (.putfield 237, 3) := by decide +kernel
theorem zd_107_234 : decode (zm_cc 107) 234 = .ok (.aload_n 0, 1) := by decide +kernel
theorem zd_107_235 : decode (zm_cc 107) 235 = .ok (.iconst 4, 1) := by decide +kernel
theorem zd_107_236 : decode (zm_cc 107) 236 = .ok (.aload_n 0, 1) := by decide +kernel
theorem zd_107_237 : decode (zm_cc 107) 237 = .ok (.getfield 79, 3) := by decide +kernel
theorem zd_107_240 : decode (zm_cc 107) 240 = .ok (.iload_n 1, 1) := by decide +kernel
theorem zd_107_241 : decode (zm_cc 107) 241 = .ok (.iaload, 1) := by decide +kernel
theorem zd_107_242 : decode (zm_cc 107) 242 = .ok (.invokevirtual 267, 3) := by decide +kernel
theorem zd_107_245 : decode (zm_cc 107) 245 = .ok (.aload_n 0, 1) := by decide +kernel
theorem zd_107_246 : decode (zm_cc 107) 246 = .ok (.getfield 82, 3) := by decide +kernel
theorem zd_107_249 : decode (zm_cc 107) 249 = .ok (.iload_n 1, 1) := by decide +kernel
theorem zd_107_250 : decode (zm_cc 107) 250 = .ok (.iload_n 3, 1) := by decide +kernel
theorem zd_107_251 : decode (zm_cc 107) 251 = .ok (.iastore, 1) := by decide +kernel
theorem zd_107_252 : decode (zm_cc 107) 252 = .ok (.goto 18, 3) := by decide +kernel
theorem zd_107_255 : decode (zm_cc 107) 255 = .ok (.aload_n 0, 1) := by decide +kernel
theorem zd_107_256 : decode (zm_cc 107) 256 = .ok (.aload_n 0, 1) := by decide +kernel
theorem zd_107_257 : decode (zm_cc 107) 257 = .ok (.aload_n 0, 1) := by decide +kernel
theorem zd_107_258 : decode (zm_cc 107) 258 = .ok (.getfield 79, 3) := by decide +kernel
theorem zd_107_261 : decode (zm_cc 107) 261 = .ok (.iload_n 1, 1) := by decide +kernel
theorem zd_107_262 : decode (zm_cc 107) 262 = .ok (.iaload, 1) := by decide +kernel
theorem zd_107_263 : decode (zm_cc 107) 263 = .ok (.iconst 1, 1) := by decide +kernel
theorem zd_107_264 : decode (zm_cc 107) 264 = .ok (.invokevirtual 252, 3) := by decide +kernel
theorem zd_107_267 : decode (zm_cc 107) 267 = .ok (.invokevirtual 261, 3) := by decide +kernel
theorem zd_107_270 : decode (zm_cc 107) 270 = .ok (.return_, 1) := by decide +kernel
theorem zd_108_0 : decode (zm_cc 108) 0 = .ok (.aload_n 0, 1) := by decide +kernel
theorem zd_108_1 : decode (zm_cc 108) 1 = .ok (.getfield 37, 3) := by decide +kernel
theorem zd_108_4 : decode (zm_cc 108) 4 = .ok (.aload_n 0, 1) := by decide +kernel
theorem zd_108_5 : decode (zm_cc 108) 5 = .ok (.getfield 240, 3) := by decide +kernel
theorem zd_108_8 : decode (zm_cc 108) 8 = .ok (.iaload, 1) := by decide +kernel
theorem zd_108_9 : decode (zm_cc 108) 9 = .ok (.istore_n 3, 1) := by decide +kernel
theorem zd_108_10 : decode (zm_cc 108) 10 = .ok (.iload_n 3, 1) := by decide +kernel
theorem zd_108_11 : decode (zm_cc 108) 11 = .ok (.bipush 24, 2) := by decide +kernel
theorem zd_108_13 : decode (zm_cc 108) 13 = .ok (.if_icmp .ne 10, 3) := by decide +kernel
theorem zd_108_16 : decode (zm_cc 108) 16 = .ok (.aload_n 0, 1) := by decide +kernel
theorem zd_108_17 : decode (zm_cc 108) 17 = .ok (.iconst 4, 1) := by decide +kernel
theorem zd_108_18 : decode (zm_cc 108) 18 = .ok (.invokevirtual 151, 3) := by decide +kernel
theorem zd_108_21 : decode (zm_cc 108) 21 = .ok (.iconst 0, 1) := by decide +kernel
theorem zd_108_22 : decode (zm_cc 108) 22 = .ok (.ireturn, 1) := by decide +kernel
theorem zd_108_23 : decode (zm_cc 108) 23 = .ok (.bipush 24, 2) := by decide +kernel
theorem zd_108_25 : decode (zm_cc 108) 25 = .ok (.aload_n 0, 1) := by decide +kernel
theorem zd_108_26 : decode (zm_cc 108) 26 = .ok (.getfield 240, 3) := by decide +kernel
theorem zd_108_29 : decode (zm_cc 108) 29 = .ok (.imul, 1) := by decide +kernel
theorem zd_108_30 : decode (zm_cc 108) 30 = .ok (.iload_n 3, 1) := by decide +kernel
theorem zd_108_31 : decode (zm_cc 108) 31 = .ok (.iadd, 1) := by decide +kernel
theorem zd_108_32 : decode (zm_cc 108) 32 = .ok (.istore 4, 2) := by decide +kernel
theorem zd_108_34 : decode (zm_cc 108) 34 = .ok (.aload_n 0, 1) := by decide +kernel
theorem zd_108_35 : decode (zm_cc 108) 35 = .ok (.getfield 43, 3) := by decide +kernel
theorem zd_108_38 : decode (zm_cc 108) 38 = .ok (.iload 4, 2) := by decide +kernel
theorem zd_108_40 : decode (zm_cc 108) 40 = .ok (.iload_n 1, 1) := by decide +kernel
theorem zd_108_41 : decode (zm_cc 108) 41 = .ok (.iastore, 1) := by decide +kernel
theorem zd_108_42 : decode (zm_cc 108) 42 = .ok (.aload_n 0, 1) := by decide +kernel
theorem zd_108_43 : decode (zm_cc 108) 43 = .ok (.getfield 46, 3) := by decide +kernel
theorem zd_108_46 : decode (zm_cc 108) 46 = .ok (.iload 4, 2) := by decide +kernel
theorem zd_108_48 : decode (zm_cc 108) 48 = .ok (.iload_n 2, 1) := by decide +kernel
theorem zd_108_49 : decode (zm_cc 108) 49 = .ok (.iastore, 1) := by decide +kernel
theorem zd_108_50 : decode (zm_cc 108) 50 = .ok (.aload_n 0, 1) := by decide +kernel
theorem zd_108_51 : decode (zm_cc 108) 51 = .ok (.getfield 49, 3) := by decide +kernel
theorem zd_108_54 : decode (zm_cc 108) 54 = .ok (.iload 4, 2) := by decide +kernel
theorem zd_108_56 : decode (zm_cc 108) 56 = .ok (.iconst (-1), 1) := by decide +kernel
theorem zd_108_57 : decode (zm_cc 108) 57 = .ok (.iastore, 1) := by decide +kernel
theorem zd_108_58 : decode (zm_cc 108) 58 = .ok (.aload_n 0, 1) := by decide +kernel
theorem zd_108_59 : decode (zm_cc 108) 59 = .ok (.getfield 52, 3) := by decide +kernel
theorem zd_108_62 : decode (zm_cc 108) 62 = .ok (.iload 4, 2) := by decide +kernel
theorem zd_108_64 : decode (zm_cc 108) 64 = .ok (.iconst (-1), 1) := by decide +kernel
theorem zd_108_65 : decode (zm_cc 108) 65 = .ok (.iastore, 1) := by decide +kernel
theorem zd_108_66 : decode (zm_cc 108) 66 = .ok (.aload_n 0, 1) := by decide +kernel
theorem zd_108_67 : decode (zm_cc 108) 67 = .ok (.getfield 55, 3) := by decide +kernel
theorem zd_108_70 : decode (zm_cc 108) 70 = .ok (.iload 4, 2) := by decide +kernel
theorem zd_108_72 : decode (zm_cc 108) 72 = .ok (.aload_n 0, 1) := by decide +kernel
theorem zd_108_73 : decode (zm_cc 108) 73 = .ok (.getfield 243, 3) := by decide +kernel
theorem zd_108_76 : decode (zm_cc 108) 76 = .ok (.iastore, 1) := by decide +kernel
theorem zd_108_77 : decode (zm_cc 108) 77 = .ok (.aload_n 0, 1) := by decide +kernel
theorem zd_108_78 : decode (zm_cc 108) 78 = .ok (.getfield 58, 3) := by decide +kernel
theorem zd_108_81 : decode (zm_cc 108) 81 = .ok (.iload 4, 2) := by decide +kernel
theorem zd_108_83 : decode (zm_cc 108) 83 = .ok (.aload_n 0, 1) := by decide +kernel
theorem zd_108_84 : decode (zm_cc 108) 84 = .ok (.getfield 246, 3) := by decide +kernel
theorem zd_108_87 : decode (zm_cc 108) 87 = .ok (.iastore, 1) := by decide +kernel
theorem zd_108_88 : decode (zm_cc 108) 88 = .ok (.aload_n 0, 1) := by decide +kernel
theorem zd_108_89 : decode (zm_cc 108) 89 = .ok (.iload_n 3, 1) := by decide +kernel
theorem zd_108_90 : decode (zm_cc 108) 90 = .ok (.invokevirtual 249, 3) := by decide +kernel
theorem zd_108_93 : decode (zm_cc 108) 93 = .ok (.aload_n 0, 1) := by decide +kernel
theorem zd_108_94 : decode (zm_cc 108) 94 = .ok (.getfield 37, 3) := by decide +kernel
theorem zd_108_97 : decode (zm_cc 108) 97 = .ok (.aload_n 0, 1) := by decide +kernel
theorem zd_108_98 : decode (zm_cc 108) 98 = .ok (.getfield 240, 3) := by decide +kernel
theorem zd_108_101 : decode (zm_cc 108) 101 = .ok (.dup2, 1) := by decide +kernel
theorem zd_108_102 : decode (zm_cc 108) 102 = .ok (.iaload, 1) := by decide +kernel
theorem zd_108_103 : decode (zm_cc 108) 103 = .ok (.iconst 1, 1) := by decide +kernel
theorem zd_108_104 : decode (zm_cc 108) 104 = .ok (.iadd, 1) := by decide +kernel
theorem zd_108_105 : decode (zm_cc 108) 105 = .ok (.iastore, 1) := by decide +kernel
theorem zd_108_106 : decode (zm_cc 108) 106 = .ok (.iload_n 1, 1) := by decide +kernel
theorem zd_108_107 : decode (zm_cc 108) 107 = .ok (.bipush 13, 2) := by decide +kernel
theorem zd_108_109 : decode (zm_cc 108) 109 = .ok (.if_icmp .eq 13, 3) := by decide +kernel
theorem zd_108_112 : decode (zm_cc 108) 112 = .ok (.aload_n 0, 1) := by decide +kernel
theorem zd_108_113 : decode (zm_cc 108) 113 = .ok (.aload_n 0, 1) := by decide +kernel
theorem zd_108_114 : decode (zm_cc 108) 114 = .ok (.iload_n 3, 1) := by decide +kernel
theorem zd_108_115 : decode (zm_cc 108) 115 = .ok (.iconst 0, 1) := by decide +kernel
theorem zd_108_116 : decode (zm_cc 108) 116 = .ok (.invokevirtual 252, 3) := by decide +kernel
theorem zd_108_119 : decode (zm_cc 108) 119 = .ok (.putfield 237, 3) := by decide +kernel
theorem zd_108_122 : decode (zm_cc 108) 122 = .ok (.iload_n 3, 1) := by decide +kernel
theorem zd_108_123 : decode (zm_cc 108) 123 = .ok (.ireturn, 1) := by decide +kernel
theorem zd_109_0 : decode (zm_cc 109) 0 = .ok (.bipush 24, 2) := by decide +kernel
theorem zd_109_2 : decode (zm_cc 109) 2 = .ok (.aload_n 0, 1) := by decide +kernel
theorem zd_109_3 : decode (zm_cc 109) 3 = .ok (.getfield 240, 3) := by decide +kernel
theorem zd_109_6 : decode (zm_cc 109) 6 = .ok (.imul, 1) := by decide +kernel
theorem zd_109_7 : decode (zm_cc 109) 7 = .ok (.istore_n 2, 1) := by decide +kernel
theorem zd_109_8 : decode (zm_cc 109) 8 = .ok (.aload_n 0, 1) := by decide +kernel
theorem zd_109_9 : decode (zm_cc 109) 9 = .ok (.getfield 237, 3) := by decide +kernel
theorem zd_109_12 : decode (zm_cc 109) 12 = .ok (.iconst (-1), 1) := by decide +kernel
theorem zd_109_13 : decode (zm_cc 109) 13 = .ok (.if_icmp .eq 52, 3) := by decide +kernel
theorem zd_109_16 : decode (zm_cc 109) 16 = .ok (.aload_n 0, 1) := by decide +kernel
theorem zd_109_17 : decode (zm_cc 109) 17 = .ok (.getfield 237, 3) := by decide +kernel
theorem zd_109_20 : decode (zm_cc 109) 20 = .ok (.istore_n 3, 1) := by decide +kernel
theorem zd_109_21 : decode (zm_cc 109) 21 = .ok (.aload_n 0, 1) := by decide +kernel
theorem zd_109_22 : decode (zm_cc 109) 22 = .ok (.aload_n 0, 1) := by decide +kernel
theorem zd_109_23 : decode (zm_cc 109) 23 = .ok (.getfield 73, 3) := by decide +kernel
theorem zd_109_26 : decode (zm_cc 109) 26 = .ok (.iload_n 3, 1) := by decide +kernel
theorem zd_109_27 : decode (zm_cc 109) 27 = .ok (.iaload, 1) := by decide +kernel
theorem zd_109_28 : decode (zm_cc 109) 28 = .ok (.putfield 237, 3) := by decide +kernel
theorem zd_109_31 : decode (zm_cc 109) 31 = .ok (.iload_n 3, 1) := by decide +kernel
theorem zd_109_32 : decode (zm_cc 109) 32 = .ok (.iconst 2, 1) := by decide +kernel
theorem zd_109_33 : decode (zm_cc 109) 33 = .ok (.irem, 1) := by decide +kernel
theorem zd_109_34 : decode (zm_cc 109) 34 = .ok (.ifCond .ne 17, 3) := by decide +kernel
theorem zd_109_37 : decode (zm_cc 109) 37 = .ok (.aload_n 0, 1) := by decide +kernel
theorem zd_109_38 : decode (zm_cc 109) 38 = .ok (.getfield 49, 3) := by decide +kernel
theorem zd_109_41 : decode (zm_cc 109) 41 = .ok (.iload_n 2, 1) := by decide +kernel
theorem zd_109_42 : decode (zm_cc 109) 42 = .ok (.iload_n 3, 1) := by decide +kernel
theorem zd_109_43 : decode (zm_cc 109) 43 = .ok (.iconst 2, 1) := by decide +kernel
theorem zd_109_44 : decode (zm_cc 109) 44 = .ok (.idiv, 1) := by decide +kernel
theorem zd_109_45 : decode (zm_cc 109) 45 = .ok (.iadd, 1) := by decide +kernel
theorem zd_109_46 : decode (zm_cc 109) 46 = .ok (.iload_n 1, 1) := by decide +kernel
theorem zd_109_47 : decode (zm_cc 109) 47 = .ok (.iastore, 1) := by decide +kernel
theorem zd_109_48 : decode (zm_cc 109) 48 = .ok (.goto 14, 3) := by decide +kernel
theorem zd_109_51 : decode (zm_cc 109) 51 = .ok (.aload_n 0, 1) := by decide +kernel
theorem zd_109_52 : decode (zm_cc 109) 52 = .ok (.getfield 52, 3) := by decide +kernel
theorem zd_109_55 : decode (zm_cc 109) 55 = .ok (.iload_n 2, 1) := by decide +kernel
theorem zd_109_56 : decode (zm_cc 109) 56 = .ok (.iload_n 3, 1) := by decide +kernel
theorem zd_109_57 : decode (zm_cc 109) 57 = .ok (.iconst 2, 1) := by decide +kernel
theorem zd_109_58 : decode (zm_cc 109) 58 = .ok (.idiv, 1) := by decide +kernel
theorem zd_109_59 : decode (zm_cc 109) 59 = .ok (.iadd, 1) := by decide +kernel
theorem zd_109_60 : decode (zm_cc 109) 60 = .ok (.iload_n 1, 1) := by decide +kernel
theorem zd_109_61 : decode (zm_cc 109) 61 = .ok (.iastore, 1) := by decide +kernel
theorem zd_109_62 : decode (zm_cc 109) 62 = .ok (.goto (-54), 3) := by decide +kernel
theorem zd_109_65 : decode (zm_cc 109) 65 = .ok (.return_, 1) := by decide +kernel
theorem zd_110_0 : decode (zm_cc 110) 0 = .ok (.aload_n 0, 1) := by decide +kernel
theorem zd_110_1 : decode (zm_cc 110) 1 = .ok (.getfield 73, 3) := by decide +kernel
theorem zd_110_4 : decode (zm_cc 110) 4 = .ok (.iconst 2, 1) := by decide +kernel
theorem zd_110_5 : decode (zm_cc 110) 5 = .ok (.iload_n 1, 1) := by decide +kernel
theorem zd_110_6 : decode (zm_cc 110) 6 = .ok (.imul, 1) := by decide +kernel
theorem zd_110_7 : decode (zm_cc 110) 7 = .ok (.iload_n 2, 1) := by decide +kernel
theorem zd_110_8 : decode (zm_cc 110) 8 = .ok (.iadd, 1) := by decide +kernel
theorem zd_110_9 : decode (zm_cc 110) 9 = .ok (.iconst (-1), 1) := by decide +kernel
theorem zd_110_10 : decode (zm_cc 110) 10 = .ok (.iastore, 1) := by decide +kernel
theorem zd_110_11 : decode (zm_cc 110) 11 = .ok (.iconst 2, 1) := by decide +kernel
theorem zd_110_12 : decode (zm_cc 110) 12 = .ok (.iload_n 1, 1) := by decide +kernel
theorem zd_110_13 : decode (zm_cc 110) 13 = .ok (.imul, 1) := by decide +kernel
theorem zd_110_14 : decode (zm_cc 110) 14 = .ok (.iload_n 2, 1) := by decide +kernel
theorem zd_110_15 : decode (zm_cc 110) 15 = .ok (.iadd, 1) := by decide +kernel
theorem zd_110_16 : decode (zm_cc 110) 16 = .ok (.ireturn, 1) := by decide +kernel
theorem zd_111_0 : decode (zm_cc 111) 0 = .ok (.iload_n 1, 1) := by decide +kernel
theorem zd_111_1 : decode (zm_cc 111) 1 = .ok (.iconst (-1), 1) := by decide +kernel
theorem zd_111_2 : decode (zm_cc 111) 2 = .ok (.if_icmp .ne 4, 3) := by decide +kernel
theorem zd_111_5 : decode (zm_cc 111) 5 = .ok (.return_, 1) := by decide +kernel
theorem zd_111_6 : decode (zm_cc 111) 6 = .ok (.iload_n 1, 1) := by decide +kernel
theorem zd_111_7 : decode (zm_cc 111) 7 = .ok (.istore_n 2, 1) := by decide +kernel
theorem zd_111_8 : decode (zm_cc 111) 8 = .ok (.aload_n 0, 1) := by decide +kernel
theorem zd_111_9 : decode (zm_cc 111) 9 = .ok (.getfield 73, 3) := by decide +kernel
theorem zd_111_12 : decode (zm_cc 111) 12 = .ok (.iload_n 2, 1) := by decide +kernel
theorem zd_111_13 : decode (zm_cc 111) 13 = .ok (.iaload, 1) := by decide +kernel
theorem zd_111_14 : decode (zm_cc 111) 14 = .ok (.iconst (-1), 1) := by decide +kernel
theorem zd_111_15 : decode (zm_cc 111) 15 = .ok (.if_icmp .eq 13, 3) := by decide +kernel
theorem zd_111_18 : decode (zm_cc 111) 18 = .ok (.aload_n 0, 1) := by decide +kernel
theorem zd_111_19 : decode (zm_cc 111) 19 = .ok (.getfield 73, 3) := by decide +kernel
theorem zd_111_22 : decode (zm_cc 111) 22 = .ok (.iload_n 2, 1) := by decide +kernel
theorem zd_111_23 : decode (zm_cc 111) 23 = .ok (.iaload, 1) := by decide +kernel
theorem zd_111_24 : decode (zm_cc 111) 24 = .ok (.istore_n 2, 1) := by decide +kernel
theorem zd_111_25 : decode (zm_cc 111) 25 = .ok (.goto (-17), 3) := by decide +kernel
theorem zd_111_28 : decode (zm_cc 111) 28 = .ok (.aload_n 0, 1) := by decide +kernel
theorem zd_111_29 : decode (zm_cc 111) 29 = .ok (.getfield 73, 3) := by decide +kernel
theorem zd_111_32 : decode (zm_cc 111) 32 = .ok (.iload_n 2, 1) := by decide +kernel
theorem zd_111_33 : decode (zm_cc 111) 33 = .ok (.aload_n 0, 1) := by decide +kernel
theorem zd_111_34 : decode (zm_cc 111) 34 = .ok (.getfield 237, 3) := by decide +kernel
theorem zd_111_37 : decode (zm_cc 111) 37 = .ok (.iastore, 1) := by decide +kernel
theorem zd_111_38 : decode (zm_cc 111) 38 = .ok (.aload_n 0, 1) := by decide +kernel
theorem zd_111_39 : decode (zm_cc 111) 39 = .ok (.iload_n 1, 1) := by decide +kernel
theorem zd_111_40 : decode (zm_cc 111) 40 = .ok (.putfield 237, 3) := by decide +kernel
theorem zd_111_43 : decode (zm_cc 111) 43 = .ok (.return_, 1) := by decide +kernel
theorem zd_112_0 : decode (zm_cc 112) 0 = .ok (.bipush 24, 2) := by decide +kernel
theorem zd_112_2 : decode (zm_cc 112) 2 = .ok (.aload_n 0, 1) := by decide +kernel
theorem zd_112_3 : decode (zm_cc 112) 3 = .ok (.getfield 240, 3) := by decide +kernel
theorem zd_112_6 : decode (zm_cc 112) 6 = .ok (.imul, 1) := by decide +kernel
theorem zd_112_7 : decode (zm_cc 112) 7 = .ok (.istore_n 1, 1) := by decide +kernel
theorem zd_112_8 : decode (zm_cc 112) 8 = .ok (.aload_n 0, 1) := by decide +kernel
theorem zd_112_9 : decode (zm_cc 112) 9 = .ok (.getfield 148, 3) := by decide +kernel
theorem zd_112_12 : decode (zm_cc 112) 12 = .ok (.iconst 2, 1) := by decide +kernel
theorem zd_112_13 : decode (zm_cc 112) 13 = .ok (.if_icmp .ne 8, 3) := by decide +kernel
theorem zd_112_16 : decode (zm_cc 112) 16 = .ok (.aload_n 0, 1) := by decide +kernel
theorem zd_112_17 : decode (zm_cc 112) 17 = .ok (.invokevirtual 294, 3) := by decide +kernel
theorem zd_112_20 : decode (zm_cc 112) 20 = .ok (.return_, 1) := by decide +kernel
theorem zd_112_21 : decode (zm_cc 112) 21 = .ok (.aload_n 0, 1) := by decide +kernel
theorem zd_112_22 : decode (zm_cc 112) 22 = .ok (.getfield 148, 3) := by decide +kernel
theorem zd_112_25 : decode (zm_cc 112) 25 = .ok (.iconst 5, 1) := by decide +kernel
theorem zd_112_26 : decode (zm_cc 112) 26 = .ok (.if_icmp .eq 8, 3) := by decide +kernel
theorem zd_112_29 : decode (zm_cc 112) 29 = .ok (.aload_n 0, 1) := by decide +kernel
theorem zd_112_30 : decode (zm_cc 112) 30 = .ok (.invokevirtual 212, 3) := by decide +kernel
theorem zd_112_33 : decode (zm_cc 112) 33 = .ok (.return_, 1) := by decide +kernel
theorem zd_112_34 : decode (zm_cc 112) 34 = .ok (.aload_n 0, 1) := by decide +kernel
theorem zd_112_35 : decode (zm_cc 112) 35 = .ok (.getfield 192, 3) := by decide +kernel
theorem zd_112_38 : decode (zm_cc 112) 38 = .ok (.tableswitch 441 3 15 #[66, 441, 200, 441, 225, 251, 284, 441, 347, 347, 394, 420, 124], 66) := by decide +kernel
theorem zd_112_104 : decode (zm_cc 112) 104 = .ok (.aload_n 0, 1) := by decide +kernel
theorem zd_112_105 : decode (zm_cc 112) 105 = .ok (.iconst 3, 1) := by decide +kernel
theorem zd_112_106 : decode (zm_cc 112) 106 = .ok (.iconst 0, 1) := by decide +kernel
theorem zd_112_107 : decode (zm_cc 112) 107 = .ok (.invokevirtual 258, 3) := by decide +kernel
theorem zd_112_110 : decode (zm_cc 112) 110 = .ok (.istore_n 2, 1) := by decide +kernel
theorem zd_112_111 : decode (zm_cc 112) 111 = .ok (.aload_n 0, 1) := by decide +kernel
theorem zd_112_112 : decode (zm_cc 112) 112 = .ok (.invokevirtual 297, 3) := by decide +kernel
theorem zd_112_115 : decode (zm_cc 112) 115 = .ok (.aload_n 0, 1) := by decide +kernel
theorem zd_112_116 : decode (zm_cc 112) 116 = .ok (.getfield 46, 3) := by decide +kernel
theorem zd_112_119 : decode (zm_cc 112) 119 = .ok (.iload_n 1, 1) := by decide +kernel
theorem zd_112_120 : decode (zm_cc 112) 120 = .ok (.iload_n 2, 1) := by decide +kernel
theorem zd_112_121 : decode (zm_cc 112) 121 = .ok (.iadd, 1) := by decide +kernel
theorem zd_112_122 : decode (zm_cc 112) 122 = .ok (.aload_n 0, 1) := by decide +kernel
theorem zd_112_123 : decode (zm_cc 112) 123 = .ok (.invokevirtual 300, 3) := by decide +kernel
theorem zd_112_126 : decode (zm_cc 112) 126 = .ok (.iastore, 1) := by decide +kernel
theorem zd_112_127 : decode (zm_cc 112) 127 = .ok (.aload_n 0, 1) := by decide +kernel
theorem zd_112_128 : decode (zm_cc 112) 128 = .ok (.getfield 135, 3) := by decide +kernel
theorem zd_112_131 : decode (zm_cc 112) 131 = .ok (.ifCond .ne 22, 3) := by decide +kernel
theorem zd_112_134 : decode (zm_cc 112) 134 = .ok (.aload_n 0, 1) := by decide +kernel
theorem zd_112_135 : decode (zm_cc 112) 135 = .ok (.aload_n 0, 1) := by decide +kernel
theorem zd_112_136 : decode (zm_cc 112) 136 = .ok (.getfield 243, 3) := by decide +kernel
theorem zd_112_139 : decode (zm_cc 112) 139 = .ok (.iconst 1, 1) := by decide +kernel
theorem zd_112_140 : decode (zm_cc 112) 140 = .ok (.aload_n 0, 1) := by decide +kernel
theorem zd_112_141 : decode (zm_cc 112) 141 = .ok (.getfield 46, 3) := by decide +kernel
theorem zd_112_144 : decode (zm_cc 112) 144 = .ok (.iload_n 1, 1) := by decide +kernel
theorem zd_112_145 : decode (zm_cc 112) 145 = .ok (.iload_n 2, 1) := by decide +kernel
theorem zd_112_146 : decode (zm_cc 112) 146 = .ok (.iadd, 1) := by decide +kernel
theorem zd_112_147 : decode (zm_cc 112) 147 = .ok (.iaload, 1) := by decide +kernel
theorem zd_112_148 : decode (zm_cc 112) 148 = .ok (.ishl, 1) := by decide +kernel
theorem zd_112_149 : decode (zm_cc 112) 149 = .ok (.ior, 1) := by decide +kernel
theorem zd_112_150 : decode (zm_cc 112) 150 = .ok (.putfield 243, 3) := by decide +kernel
theorem zd_112_153 : decode (zm_cc 112) 153 = .ok (.aload_n 0, 1) := by decide +kernel
theorem zd_112_154 : decode (zm_cc 112) 154 = .ok (.iconst 1, 1) := by decide +kernel
theorem zd_112_155 : decode (zm_cc 112) 155 = .ok (.iload_n 2, 1) := by decide +kernel
theorem zd_112_156 : decode (zm_cc 112) 156 = .ok (.invokevirtual 267, 3) := by decide +kernel
theorem zd_112_159 : decode (zm_cc 112) 159 = .ok (.goto 324, 3) := by decide +kernel
theorem zd_112_162 : decode (zm_cc 112) 162 = .ok (.aload_n 0, 1) := by decide +kernel
theorem zd_112_163 : decode (zm_cc 112) 163 = .ok (.getfield 246, 3) := by decide +kernel
theorem zd_112_166 : decode (zm_cc 112) 166 = .ok (.iconst (-1), 1) := by decide +kernel
theorem zd_112_167 : decode (zm_cc 112) 167 = .ok (.if_icmp .eq 10, 3) := by decide +kernel
theorem zd_112_170 : decode (zm_cc 112) 170 = .ok (.aload_n 0, 1) := by decide +kernel
theorem zd_112_171 : decode (zm_cc 112) 171 = .ok (.invokevirtual 212, 3) := by decide +kernel
theorem zd_112_174 : decode (zm_cc 112) 174 = .ok (.goto 309, 3) := by decide +kernel
theorem zd_112_177 : decode (zm_cc 112) 177 = .ok (.aload_n 0, 1) := by decide +kernel
theorem zd_112_178 : decode (zm_cc 112) 178 = .ok (.getfield 303, 3) := by decide +kernel
theorem zd_112_181 : decode (zm_cc 112) 181 = .ok (.bipush 6, 2) := by decide +kernel
theorem zd_112_183 : decode (zm_cc 112) 183 = .ok (.if_icmp .ne 11, 3) := by decide +kernel
theorem zd_112_186 : decode (zm_cc 112) 186 = .ok (.aload_n 0, 1) := by decide +kernel
theorem zd_112_187 : decode (zm_cc 112) 187 = .ok (.iconst 4, 1) := by decide +kernel
theorem zd_112_188 : decode (zm_cc 112) 188 = .ok (.invokevirtual 151, 3) := by decide +kernel
theorem zd_112_191 : decode (zm_cc 112) 191 = .ok (.goto 292, 3) := by decide +kernel
theorem zd_112_194 : decode (zm_cc 112) 194 = .ok (.aload_n 0, 1) := by decide +kernel
theorem zd_112_195 : decode (zm_cc 112) 195 = .ok (.invokevirtual 209, 3) := by decide +kernel
theorem zd_112_198 : decode (zm_cc 112) 198 = .ok (.aload_n 0, 1) := by decide +kernel
theorem zd_112_199 : decode (zm_cc 112) 199 = .ok (.iconst 2, 1) := by decide +kernel
theorem zd_112_200 : decode (zm_cc 112) 200 = .ok (.iconst 0, 1) := by decide +kernel
theorem zd_112_201 : decode (zm_cc 112) 201 = .ok (.invokevirtual 267, 3) := by decide +kernel
theorem zd_112_204 : decode (zm_cc 112) 204 = .ok (.aload_n 0, 1) := by decide +kernel
theorem zd_112_205 : decode (zm_cc 112) 205 = .ok (.aload_n 0, 1) := by decide +kernel
theorem zd_112_206 : decode (zm_cc 112) 206 = .ok (.getfield 303, 3) := by decide +kernel
theorem zd_112_209 : decode (zm_cc 112) 209 = .ok (.putfield 246, 3) := by decide +kernel
theorem zd_112_212 : decode (zm_cc 112) 212 = .ok (.aload_n 0, 1) := by decide +kernel
theorem zd_112_213 : decode (zm_cc 112) 213 = .ok (.getfield 40, 3) := by decide +kernel
theorem zd_112_216 : decode (zm_cc 112) 216 = .ok (.aload_n 0, 1) := by decide +kernel
theorem zd_112_217 : decode (zm_cc 112) 217 = .ok (.getfield 303, 3) := by decide +kernel
theorem zd_112_220 : decode (zm_cc 112) 220 = .ok (.aload_n 0, 1) := by decide +kernel
theorem zd_112_221 : decode (zm_cc 112) 221 = .ok (.getfield 240, 3) := by decide +kernel
theorem zd_112_224 : decode (zm_cc 112) 224 = .ok (.iastore, 1) := by decide +kernel
theorem zd_112_225 : decode (zm_cc 112) 225 = .ok (.aload_n 0, 1) := by decide +kernel
theorem zd_112_226 : decode (zm_cc 112) 226 = .ok (.dup, 1) := by decide +kernel
theorem zd_112_227 : decode (zm_cc 112) 227 = .ok (.getfield 303, 3) := by decide +kernel
theorem zd_112_230 : decode (zm_cc 112) 230 = .ok (.iconst 1, 1) := by decide +kernel
theorem zd_112_231 : decode (zm_cc 112) 231 = .ok (.iadd, 1) := by decide +kernel
theorem zd_112_232 : decode (zm_cc 112) 232 = .ok (.putfield 303, 3) := by decide +kernel
theorem zd_112_235 : decode (zm_cc 112) 235 = .ok (.goto 248, 3) := by decide +kernel
theorem zd_112_238 : decode (zm_cc 112) 238 = .ok (.aload_n 0, 1) := by decide +kernel
theorem zd_112_239 : decode (zm_cc 112) 239 = .ok (.iconst 5, 1) := by decide +kernel
theorem zd_112_240 : decode (zm_cc 112) 240 = .ok (.iconst (-1), 1) := by decide +kernel
theorem zd_112_241 : decode (zm_cc 112) 241 = .ok (.invokevirtual 258, 3) := by decide +kernel
theorem zd_112_244 : decode (zm_cc 112) 244 = .ok (.istore_n 2, 1) := by decide +kernel
theorem zd_112_245 : decode (zm_cc 112) 245 = .ok (.aload_n 0, 1) := by decide +kernel
theorem zd_112_246 : decode (zm_cc 112) 246 = .ok (.invokevirtual 297, 3) := by decide +kernel
theorem zd_112_249 : decode (zm_cc 112) 249 = .ok (.aload_n 0, 1) := by decide +kernel
theorem zd_112_250 : decode (zm_cc 112) 250 = .ok (.iload_n 2, 1) := by decide +kernel
theorem zd_112_251 : decode (zm_cc 112) 251 = .ok (.invokevirtual 306, 3) := by decide +kernel
theorem zd_112_254 : decode (zm_cc 112) 254 = .ok (.aload_n 0, 1) := by decide +kernel
theorem zd_112_255 : decode (zm_cc 112) 255 = .ok (.iconst 3, 1) := by decide +kernel
theorem zd_112_256 : decode (zm_cc 112) 256 = .ok (.iload_n 2, 1) := by decide +kernel
theorem zd_112_257 : decode (zm_cc 112) 257 = .ok (.invokevirtual 267, 3) := by decide +kernel
theorem zd_112_260 : decode (zm_cc 112) 260 = .ok (.goto 223, 3) := by decide +kernel
theorem zd_112_263 : decode (zm_cc 112) 263 = .ok (.aload_n 0, 1) := by decide +kernel
theorem zd_112_264 : decode (zm_cc 112) 264 = .ok (.bipush 6, 2) := by decide +kernel
theorem zd_112_266 : decode (zm_cc 112) 266 = .ok (.iconst (-1), 1) := by decide +kernel
theorem zd_112_267 : decode (zm_cc 112) 267 = .ok (.invokevirtual 258, 3) := by decide +kernel
theorem zd_112_270 : decode (zm_cc 112) 270 = .ok (.istore_n 2, 1) := by decide +kernel
theorem zd_112_271 : decode (zm_cc 112) 271 = .ok (.aload_n 0, 1) := by decide +kernel
theorem zd_112_272 : decode (zm_cc 112) 272 = .ok (.invokevirtual 297, 3) := by decide +kernel
theorem zd_112_275 : decode (zm_cc 112) 275 = .ok (.aload_n 0, 1) := by decide +kernel
theorem zd_112_276 : decode (zm_cc 112) 276 = .ok (.iload_n 2, 1) := by decide +kernel
theorem zd_112_277 : decode (zm_cc 112) 277 = .ok (.invokevirtual 306, 3) := by decide +kernel
theorem zd_112_280 : decode (zm_cc 112) 280 = .ok (.aload_n 0, 1) := by decide +kernel
theorem zd_112_281 : decode (zm_cc 112) 281 = .ok (.iconst 5, 1) := by decide +kernel
theorem zd_112_282 : decode (zm_cc 112) 282 = .ok (.iload_n 2, 1) := by decide +kernel
theorem zd_112_283 : decode (zm_cc 112) 283 = .ok (.invokevirtual 267, 3) := by decide +kernel
theorem zd_112_286 : decode (zm_cc 112) 286 = .ok (.goto 197, 3) := by decide +kernel
theorem zd_112_289 : decode (zm_cc 112) 289 = .ok (.aload_n 0, 1) := by decide +kernel
theorem zd_112_290 : decode (zm_cc 112) 290 = .ok (.bipush 7, 2) := by decide +kernel
theorem zd_112_292 : decode (zm_cc 112) 292 = .ok (.iconst 0, 1) := by decide +kernel
theorem zd_112_293 : decode (zm_cc 112) 293 = .ok (.invokevirtual 258, 3) := by decide +kernel
theorem zd_112_296 : decode (zm_cc 112) 296 = .ok (.istore_n 2, 1) := by decide +kernel
theorem zd_112_297 : decode (zm_cc 112) 297 = .ok (.aload_n 0, 1) := by decide +kernel
theorem zd_112_298 : decode (zm_cc 112) 298 = .ok (.invokevirtual 297, 3) := by decide +kernel
theorem zd_112_301 : decode (zm_cc 112) 301 = .ok (.aload_n 0, 1) := by decide +kernel
theorem zd_112_302 : decode (zm_cc 112) 302 = .ok (.getfield 46, 3) := by decide +kernel
theorem zd_112_305 : decode (zm_cc 112) 305 = .ok (.iload_n 1, 1) := by decide +kernel
theorem zd_112_306 : decode (zm_cc 112) 306 = .ok (.iload_n 2, 1) := by decide +kernel
theorem zd_112_307 : decode (zm_cc 112) 307 = .ok (.iadd, 1) := by decide +kernel
theorem zd_112_308 : decode (zm_cc 112) 308 = .ok (.aload_n 0, 1) := by decide +kernel
theorem zd_112_309 : decode (zm_cc 112) 309 = .ok (.invokevirtual 300, 3) := by decide +kernel
theorem zd_112_312 : decode (zm_cc 112) 312 = .ok (.iastore, 1) := by decide +kernel
theorem zd_112_313 : decode (zm_cc 112) 313 = .ok (.aload_n 0, 1) := by decide +kernel
theorem zd_112_314 : decode (zm_cc 112) 314 = .ok (.bipush 59, 2) := by decide +kernel
theorem zd_112_316 : decode (zm_cc 112) 316 = .ok (.invokevirtual 288, 3) := by decide +kernel
theorem zd_112_319 : decode (zm_cc 112) 319 = .ok (.goto 164, 3) := by decide +kernel
theorem zd_112_322 : decode (zm_cc 112) 322 = .ok (.aload_n 0, 1) := by decide +kernel
theorem zd_112_323 : decode (zm_cc 112) 323 = .ok (.bipush 8, 2) := by decide +kernel
theorem zd_112_325 : decode (zm_cc 112) 325 = .ok (.iconst 0, 1) := by decide +kernel
theorem zd_112_326 : decode (zm_cc 112) 326 = .ok (.invokevirtual 258, 3) := by decide +kernel
theorem zd_112_329 : decode (zm_cc 112) 329 = .ok (.istore_n 2, 1) := by decide +kernel
theorem zd_112_330 : decode (zm_cc 112) 330 = .ok (.aload_n 0, 1) := by decide +kernel
theorem zd_112_331 : decode (zm_cc 112) 331 = .ok (.invokevirtual 297, 3) := by decide +kernel
theorem zd_112_334 : decode (zm_cc 112) 334 = .ok (.aload_n 0, 1) := by decide +kernel
theorem zd_112_335 : decode (zm_cc 112) 335 = .ok (.getfield 135, 3) := by decide +kernel
theorem zd_112_338 : decode (zm_cc 112) 338 = .ok (.ifCond .ne 26, 3) := by decide +kernel
theorem zd_112_341 : decode (zm_cc 112) 341 = .ok (.aload_n 0, 1) := by decide +kernel
theorem zd_112_342 : decode (zm_cc 112) 342 = .ok (.bipush 10, 2) := by decide +kernel
theorem zd_112_344 : decode (zm_cc 112) 344 = .ok (.invokevirtual 264, 3) := by decide +kernel
theorem zd_112_347 : decode (zm_cc 112) 347 = .ok (.ifCond .eq 17, 3) := by decide +kernel
theorem zd_112_350 : decode (zm_cc 112) 350 = .ok (.aload_n 0, 1) := by decide +kernel
theorem zd_112_351 : decode (zm_cc 112) 351 = .ok (.getfield 43, 3) := by decide +kernel
theorem zd_112_354 : decode (zm_cc 112) 354 = .ok (.iload_n 1, 1) := by decide +kernel
theorem zd_112_355 : decode (zm_cc 112) 355 = .ok (.iload_n 2, 1) := by decide +kernel
theorem zd_112_356 : decode (zm_cc 112) 356 = .ok (.iadd, 1) := by decide +kernel
theorem zd_112_357 : decode (zm_cc 112) 357 = .ok (.bipush 9, 2) := by decide +kernel
theorem zd_112_359 : decode (zm_cc 112) 359 = .ok (.iastore, 1) := by decide +kernel
theorem zd_112_360 : decode (zm_cc 112) 360 = .ok (.aload_n 0, 1) := by decide +kernel
theorem zd_112_361 : decode (zm_cc 112) 361 = .ok (.invokevirtual 209, 3) := by decide +kernel
theorem zd_112_364 : decode (zm_cc 112) 364 = .ok (.aload_n 0, 1) := by decide +kernel
theorem zd_112_365 : decode (zm_cc 112) 365 = .ok (.getfield 46, 3) := by decide +kernel
theorem zd_112_368 : decode (zm_cc 112) 368 = .ok (.iload_n 1, 1) := by decide +kernel
theorem zd_112_369 : decode (zm_cc 112) 369 = .ok (.iload_n 2, 1) := by decide +kernel
theorem zd_112_370 : decode (zm_cc 112) 370 = .ok (.iadd, 1) := by decide +kernel
theorem zd_112_371 : decode (zm_cc 112) 371 = .ok (.aload_n 0, 1) := by decide +kernel
theorem zd_112_372 : decode (zm_cc 112) 372 = .ok (.invokevirtual 300, 3) := by decide +kernel
theorem zd_112_375 : decode (zm_cc 112) 375 = .ok (.iastore, 1) := by decide +kernel
theorem zd_112_376 : decode (zm_cc 112) 376 = .ok (.aload_n 0, 1) := by decide +kernel
theorem zd_112_377 : decode (zm_cc 112) 377 = .ok (.bipush 59, 2) := by decide +kernel
theorem zd_112_379 : decode (zm_cc 112) 379 = .ok (.invokevirtual 288, 3) := by decide +kernel
theorem zd_112_382 : decode (zm_cc 112) 382 = .ok (.goto 101, 3) := by decide +kernel
theorem zd_112_385 : decode (zm_cc 112) 385 = .ok (.aload_n 0, 1) := by decide +kernel
theorem zd_112_386 : decode (zm_cc 112) 386 = .ok (.aload_n 0, 1) := by decide +kernel
theorem zd_112_387 : decode (zm_cc 112) 387 = .ok (.getfield 192, 3) := by decide +kernel
theorem zd_112_390 : decode (zm_cc 112) 390 = .ok (.bipush 11, 2) := by decide +kernel
theorem zd_112_392 : decode (zm_cc 112) 392 = .ok (.if_icmp .ne 8, 3) := by decide +kernel
theorem zd_112_395 : decode (zm_cc 112) 395 = .ok (.bipush 10, 2) := by decide +kernel
theorem zd_112_397 : decode (zm_cc 112) 397 = .ok (.goto 5, 3) := by decide +kernel
theorem zd_112_400 : decode (zm_cc 112) 400 = .ok (.bipush 11, 2) := by decide +kernel
theorem zd_112_402 : decode (zm_cc 112) 402 = .ok (.iconst 0, 1) := by decide +kernel
theorem zd_112_403 : decode (zm_cc 112) 403 = .ok (.invokevirtual 258, 3) := by decide +kernel
theorem zd_112_406 : decode (zm_cc 112) 406 = .ok (.istore_n 2, 1) := by decide +kernel
theorem zd_112_407 : decode (zm_cc 112) 407 = .ok (.aload_n 0, 1) := by decide +kernel
theorem zd_112_408 : decode (zm_cc 112) 408 = .ok (.invokevirtual 297, 3) := by decide +kernel
theorem zd_112_411 : decode (zm_cc 112) 411 = .ok (.aload_n 0, 1) := by decide +kernel
theorem zd_112_412 : decode (zm_cc 112) 412 = .ok (.getfield 46, 3) := by decide +kernel
theorem zd_112_415 : decode (zm_cc 112) 415 = .ok (.iload_n 1, 1) := by decide +kernel
theorem zd_112_416 : decode (zm_cc 112) 416 = .ok (.iload_n 2, 1) := by decide +kernel
theorem zd_112_417 : decode (zm_cc 112) 417 = .ok (.iadd, 1) := by decide +kernel
theorem zd_112_418 : decode (zm_cc 112) 418 = .ok (.aload_n 0, 1) := by decide +kernel
theorem zd_112_419 : decode (zm_cc 112) 419 = .ok (.invokevirtual 309, 3) := by decide +kernel
theorem zd_112_422 : decode (zm_cc 112) 422 = .ok (.iastore, 1) := by decide +kernel
theorem zd_112_423 : decode (zm_cc 112) 423 = .ok (.aload_n 0, 1) := by decide +kernel
theorem zd_112_424 : decode (zm_cc 112) 424 = .ok (.bipush 59, 2) := by decide +kernel
theorem zd_112_426 : decode (zm_cc 112) 426 = .ok (.invokevirtual 288, 3) := by decide +kernel
theorem zd_112_429 : decode (zm_cc 112) 429 = .ok (.goto 54, 3) := by decide +kernel
theorem zd_112_432 : decode (zm_cc 112) 432 = .ok (.aload_n 0, 1) := by decide +kernel
theorem zd_112_433 : decode (zm_cc 112) 433 = .ok (.bipush 12, 2) := by decide +kernel
theorem zd_112_435 : decode (zm_cc 112) 435 = .ok (.iconst (-1), 1) := by decide +kernel
theorem zd_112_436 : decode (zm_cc 112) 436 = .ok (.invokevirtual 258, 3) := by decide +kernel
theorem zd_112_439 : decode (zm_cc 112) 439 = .ok (.istore_n 2, 1) := by decide +kernel
theorem zd_112_440 : decode (zm_cc 112) 440 = .ok (.aload_n 0, 1) := by decide +kernel
theorem zd_112_441 : decode (zm_cc 112) 441 = .ok (.invokevirtual 297, 3) := by decide +kernel
theorem zd_112_444 : decode (zm_cc 112) 444 = .ok (.aload_n 0, 1) := by decide +kernel
theorem zd_112_445 : decode (zm_cc 112) 445 = .ok (.iload_n 2, 1) := by decide +kernel
theorem zd_112_446 : decode (zm_cc 112) 446 = .ok (.invokevirtual 306, 3) := by decide +kernel
theorem zd_112_449 : decode (zm_cc 112) 449 = .ok (.aload_n 0, 1) := by decide +kernel
theorem zd_112_450 : decode (zm_cc 112) 450 = .ok (.bipush 59, 2) := by decide +kernel
theorem zd_112_452 : decode (zm_cc 112) 452 = .ok (.invokevirtual 288, 3) := by decide +kernel
theorem zd_112_455 : decode (zm_cc 112) 455 = .ok (.goto 28, 3) := by decide +kernel
theorem zd_112_458 : decode (zm_cc 112) 458 = .ok (.aload_n 0, 1) := by decide +kernel
theorem zd_112_459 : decode (zm_cc 112) 459 = .ok (.bipush 13, 2) := by decide +kernel
theorem zd_112_461 : decode (zm_cc 112) 461 = .ok (.iconst (-1), 1) := by decide +kernel
theorem zd_112_462 : decode (zm_cc 112) 462 = .ok (.invokevirtual 258, 3) := by decide +kernel
theorem zd_112_465 : decode (zm_cc 112) 465 = .ok (.istore_n 2, 1) := by decide +kernel
theorem zd_112_466 : decode (zm_cc 112) 466 = .ok (.aload_n 0, 1) := by decide +kernel
theorem zd_112_467 : decode (zm_cc 112) 467 = .ok (.invokevirtual 297, 3) := by decide +kernel
theorem zd_112_470 : decode (zm_cc 112) 470 = .ok (.aload_n 0, 1) := by decide +kernel
theorem zd_112_471 : decode (zm_cc 112) 471 = .ok (.bipush 59, 2) := by decide +kernel
theorem zd_112_473 : decode (zm_cc 112) 473 = .ok (.invokevirtual 288, 3) := by decide +kernel
theorem zd_112_476 : decode (zm_cc 112) 476 = .ok (.goto 7, 3) := by decide +kernel
theorem zd_112_479 : decode (zm_cc 112) 479 = .ok (.aload_n 0, 1) := by decide +kernel
theorem zd_112_480 : decode (zm_cc 112) 480 = .ok (.invokevirtual 212, 3) := by decide +kernel
theorem zd_112_483 : decode (zm_cc 112) 483 = .ok (.return_, 1) := by decide +kernel
theorem zd_113_0 : decode (zm_cc 113) 0 = .ok (.aload_n 0, 1) := by decide +kernel
theorem zd_113_1 : decode (zm_cc 113) 1 = .ok (.invokevirtual 228, 3) := by decide +kernel
theorem zd_113_4 : decode (zm_cc 113) 4 = .ok (.istore_n 1, 1) := by decide +kernel
theorem zd_113_5 : decode (zm_cc 113) 5 = .ok (.iload_n 1, 1) := by decide +kernel
theorem zd_113_6 : decode (zm_cc 113) 6 = .ok (.iconst (-1), 1) := by decide +kernel
theorem zd_113_7 : decode (zm_cc 113) 7 = .ok (.if_icmp .ne 15, 3) := by decide +kernel
theorem zd_113_10 : decode (zm_cc 113) 10 = .ok (.aload_n 0, 1) := by decide +kernel
theorem zd_113_11 : decode (zm_cc 113) 11 = .ok (.invokevirtual 277, 3) := by decide +kernel
theorem zd_113_14 : decode (zm_cc 113) 14 = .ok (.ifCond .eq 8, 3) := by decide +kernel
theorem zd_113_17 : decode (zm_cc 113) 17 = .ok (.aload_n 0, 1) := by decide +kernel
theorem zd_113_18 : decode (zm_cc 113) 18 = .ok (.invokevirtual 212, 3) := by decide +kernel
theorem zd_113_21 : decode (zm_cc 113) 21 = .ok (.return_, 1) := by decide +kernel
theorem zd_113_22 : decode (zm_cc 113) 22 = .ok (.iload_n 1, 1) := by decide +kernel
theorem zd_113_23 : decode (zm_cc 113) 23 = .ok (.iconst (-1), 1) := by decide +kernel
theorem zd_113_24 : decode (zm_cc 113) 24 = .ok (.if_icmp .ne 11, 3) := by decide +kernel
theorem zd_113_27 : decode (zm_cc 113) 27 = .ok (.aload_n 0, 1) := by decide +kernel
theorem zd_113_28 : decode (zm_cc 113) 28 = .ok (.iconst 1, 1) := by decide +kernel
theorem zd_113_29 : decode (zm_cc 113) 29 = .ok (.invokevirtual 281, 3) := by decide +kernel
theorem zd_113_32 : decode (zm_cc 113) 32 = .ok (.goto 4, 3) := by decide +kernel
theorem zd_113_35 : decode (zm_cc 113) 35 = .ok (.iconst 0, 1) := by decide +kernel
theorem zd_113_36 : decode (zm_cc 113) 36 = .ok (.istore_n 2, 1) := by decide +kernel
theorem zd_113_37 : decode (zm_cc 113) 37 = .ok (.aload_n 0, 1) := by decide +kernel
theorem zd_113_38 : decode (zm_cc 113) 38 = .ok (.getfield 135, 3) := by decide +kernel
theorem zd_113_41 : decode (zm_cc 113) 41 = .ok (.ifCond .eq 4, 3) := by decide +kernel
theorem zd_113_44 : decode (zm_cc 113) 44 = .ok (.return_, 1) := by decide +kernel
theorem zd_113_45 : decode (zm_cc 113) 45 = .ok (.aload_n 0, 1) := by decide +kernel
theorem zd_113_46 : decode (zm_cc 113) 46 = .ok (.iload_n 1, 1) := by decide +kernel
theorem zd_113_47 : decode (zm_cc 113) 47 = .ok (.iconst (-1), 1) := by decide +kernel
theorem zd_113_48 : decode (zm_cc 113) 48 = .ok (.if_icmp .ne 7, 3) := by decide +kernel
theorem zd_113_51 : decode (zm_cc 113) 51 = .ok (.iconst 2, 1) := by decide +kernel
theorem zd_113_52 : decode (zm_cc 113) 52 = .ok (.goto 4, 3) := by decide +kernel
theorem zd_113_55 : decode (zm_cc 113) 55 = .ok (.iconst 1, 1) := by decide +kernel
theorem zd_113_56 : decode (zm_cc 113) 56 = .ok (.iload_n 1, 1) := by decide +kernel
theorem zd_113_57 : decode (zm_cc 113) 57 = .ok (.invokevirtual 258, 3) := by decide +kernel
theorem zd_113_60 : decode (zm_cc 113) 60 = .ok (.istore_n 3, 1) := by decide +kernel
theorem zd_113_61 : decode (zm_cc 113) 61 = .ok (.aload_n 0, 1) := by decide +kernel
theorem zd_113_62 : decode (zm_cc 113) 62 = .ok (.getfield 135, 3) := by decide +kernel
theorem zd_113_65 : decode (zm_cc 113) 65 = .ok (.ifCond .eq 4, 3) := by decide +kernel
theorem zd_113_68 : decode (zm_cc 113) 68 = .ok (.return_, 1) := by decide +kernel
theorem zd_113_69 : decode (zm_cc 113) 69 = .ok (.bipush 24, 2) := by decide +kernel
theorem zd_113_71 : decode (zm_cc 113) 71 = .ok (.aload_n 0, 1) := by decide +kernel
theorem zd_113_72 : decode (zm_cc 113) 72 = .ok (.getfield 240, 3) := by decide +kernel
theorem zd_113_75 : decode (zm_cc 113) 75 = .ok (.imul, 1) := by decide +kernel
theorem zd_113_76 : decode (zm_cc 113) 76 = .ok (.iload_n 3, 1) := by decide +kernel
theorem zd_113_77 : decode (zm_cc 113) 77 = .ok (.iadd, 1) := by decide +kernel
theorem zd_113_78 : decode (zm_cc 113) 78 = .ok (.istore 4, 2) := by decide +kernel
theorem zd_113_80 : decode (zm_cc 113) 80 = .ok (.aload_n 0, 1) := by decide +kernel
theorem zd_113_81 : decode (zm_cc 113) 81 = .ok (.invokevirtual 209, 3) := by decide +kernel
theorem zd_113_84 : decode (zm_cc 113) 84 = .ok (.aload_n 0, 1) := by decide +kernel
theorem zd_113_85 : decode (zm_cc 113) 85 = .ok (.bipush 61, 2) := by decide +kernel
theorem zd_113_87 : decode (zm_cc 113) 87 = .ok (.invokevirtual 288, 3) := by decide +kernel
theorem zd_113_90 : decode (zm_cc 113) 90 = .ok (.aload_n 0, 1) := by decide +kernel
theorem zd_113_91 : decode (zm_cc 113) 91 = .ok (.getfield 135, 3) := by decide +kernel
theorem zd_113_94 : decode (zm_cc 113) 94 = .ok (.ifCond .eq 4, 3) := by decide +kernel
theorem zd_113_97 : decode (zm_cc 113) 97 = .ok (.return_, 1) := by decide +kernel
theorem zd_113_98 : decode (zm_cc 113) 98 = .ok (.aload_n 0, 1) := by decide +kernel
theorem zd_113_99 : decode (zm_cc 113) 99 = .ok (.getfield 61, 3) := by decide +kernel
theorem zd_113_102 : decode (zm_cc 113) 102 = .ok (.iload 4, 2) := by decide +kernel
theorem zd_113_104 : decode (zm_cc 113) 104 = .ok (.iload_n 2, 1) := by decide +kernel
theorem zd_113_105 : decode (zm_cc 113) 105 = .ok (.iastore, 1) := by decide +kernel
theorem zd_113_106 : decode (zm_cc 113) 106 = .ok (.aload_n 0, 1) := by decide +kernel
theorem zd_113_107 : decode (zm_cc 113) 107 = .ok (.getfield 70, 3) := by decide +kernel
theorem zd_113_110 : decode (zm_cc 113) 110 = .ok (.iload 4, 2) := by decide +kernel
theorem zd_113_112 : decode (zm_cc 113) 112 = .ok (.iconst 0, 1) := by decide +kernel
theorem zd_113_113 : decode (zm_cc 113) 113 = .ok (.iastore, 1) := by decide +kernel
theorem zd_113_114 : decode (zm_cc 113) 114 = .ok (.iload_n 1, 1) := by decide +kernel
theorem zd_113_115 : decode (zm_cc 113) 115 = .ok (.iconst (-1), 1) := by decide +kernel
theorem zd_113_116 : decode (zm_cc 113) 116 = .ok (.if_icmp .ne 45, 3) := by decide +kernel
theorem zd_113_119 : decode (zm_cc 113) 119 = .ok (.aload_n 0, 1) := by decide +kernel
theorem zd_113_120 : decode (zm_cc 113) 120 = .ok (.getfield 148, 3) := by decide +kernel
theorem zd_113_123 : decode (zm_cc 113) 123 = .ok (.iconst 2, 1) := by decide +kernel
theorem zd_113_124 : decode (zm_cc 113) 124 = .ok (.if_icmp .ne 37, 3) := by decide +kernel
theorem zd_113_127 : decode (zm_cc 113) 127 = .ok (.aload_n 0, 1) := by decide +kernel
theorem zd_113_128 : decode (zm_cc 113) 128 = .ok (.invokevirtual 228, 3) := by decide +kernel
theorem zd_113_131 : decode (zm_cc 113) 131 = .ok (.iconst (-1), 1) := by decide +kernel
theorem zd_113_132 : decode (zm_cc 113) 132 = .ok (.if_icmp .eq 29, 3) := by decide +kernel
theorem zd_113_135 : decode (zm_cc 113) 135 = .ok (.aload_n 0, 1) := by decide +kernel
theorem zd_113_136 : decode (zm_cc 113) 136 = .ok (.getfield 43, 3) := by decide +kernel
theorem zd_113_139 : decode (zm_cc 113) 139 = .ok (.iload 4, 2) := by decide +kernel
theorem zd_113_141 : decode (zm_cc 113) 141 = .ok (.iconst 0, 1) := by decide +kernel
theorem zd_113_142 : decode (zm_cc 113) 142 = .ok (.iastore, 1) := by decide +kernel
theorem zd_113_143 : decode (zm_cc 113) 143 = .ok (.aload_n 0, 1) := by decide +kernel
theorem zd_113_144 : decode (zm_cc 113) 144 = .ok (.getfield 46, 3) := by decide +kernel
theorem zd_113_147 : decode (zm_cc 113) 147 = .ok (.iload 4, 2) := by decide +kernel
theorem zd_113_149 : decode (zm_cc 113) 149 = .ok (.aload_n 0, 1) := by decide +kernel
theorem zd_113_150 : decode (zm_cc 113) 150 = .ok (.invokevirtual 228, 3) := by decide +kernel
theorem zd_113_153 : decode (zm_cc 113) 153 = .ok (.iastore, 1) := by decide +kernel
theorem zd_113_154 : decode (zm_cc 113) 154 = .ok (.aload_n 0, 1) := by decide +kernel
theorem zd_113_155 : decode (zm_cc 113) 155 = .ok (.invokevirtual 209, 3) := by decide +kernel
theorem zd_113_158 : decode (zm_cc 113) 158 = .ok (.goto 72, 3) := by decide +kernel
theorem zd_113_161 : decode (zm_cc 113) 161 = .ok (.aload_n 0, 1) := by decide +kernel
theorem zd_113_162 : decode (zm_cc 113) 162 = .ok (.getfield 64, 3) := by decide +kernel
theorem zd_113_165 : decode (zm_cc 113) 165 = .ok (.iload 4, 2) := by decide +kernel
theorem zd_113_167 : decode (zm_cc 113) 167 = .ok (.aload_n 0, 1) := by decide +kernel
theorem zd_113_168 : decode (zm_cc 113) 168 = .ok (.iconst 1, 1) := by decide +kernel
theorem zd_113_169 : decode (zm_cc 113) 169 = .ok (.invokevirtual 285, 3) := by decide +kernel
theorem zd_113_172 : decode (zm_cc 113) 172 = .ok (.iastore, 1) := by decide +kernel
theorem zd_113_173 : decode (zm_cc 113) 173 = .ok (.iload_n 1, 1) := by decide +kernel
theorem zd_113_174 : decode (zm_cc 113) 174 = .ok (.iconst (-1), 1) := by decide +kernel
theorem zd_113_175 : decode (zm_cc 113) 175 = .ok (.if_icmp .ne 55, 3) := by decide +kernel
theorem zd_113_178 : decode (zm_cc 113) 178 = .ok (.aload_n 0, 1) := by decide +kernel
theorem zd_113_179 : decode (zm_cc 113) 179 = .ok (.getfield 135, 3) := by decide +kernel
theorem zd_113_182 : decode (zm_cc 113) 182 = .ok (.ifCond .ne 48, 3) := by decide +kernel
theorem zd_113_185 : decode (zm_cc 113) 185 = .ok (.aload_n 0, 1) := by decide +kernel
theorem zd_113_186 : decode (zm_cc 113) 186 = .ok (.bipush 43, 2) := by decide +kernel
theorem zd_113_188 : decode (zm_cc 113) 188 = .ok (.invokevirtual 206, 3) := by decide +kernel
theorem zd_113_191 : decode (zm_cc 113) 191 = .ok (.ifCond .ne 12, 3) := by decide +kernel
theorem zd_113_194 : decode (zm_cc 113) 194 = .ok (.aload_n 0, 1) := by decide +kernel
theorem zd_113_195 : decode (zm_cc 113) 195 = .ok (.bipush 45, 2) := by decide +kernel
theorem zd_113_197 : decode (zm_cc 113) 197 = .ok (.invokevirtual 206, 3) := by decide +kernel
theorem zd_113_200 : decode (zm_cc 113) 200 = .ok (.ifCond .eq 30, 3) := by decide +kernel
theorem zd_113_203 : decode (zm_cc 113) 203 = .ok (.aload_n 0, 1) := by decide +kernel
theorem zd_113_204 : decode (zm_cc 113) 204 = .ok (.getfield 70, 3) := by decide +kernel
theorem zd_113_207 : decode (zm_cc 113) 207 = .ok (.iload 4, 2) := by decide +kernel
theorem zd_113_209 : decode (zm_cc 113) 209 = .ok (.aload_n 0, 1) := by decide +kernel
theorem zd_113_210 : decode (zm_cc 113) 210 = .ok (.getfield 192, 3) := by decide +kernel
theorem zd_113_213 : decode (zm_cc 113) 213 = .ok (.iastore, 1) := by decide +kernel
theorem zd_113_214 : decode (zm_cc 113) 214 = .ok (.aload_n 0, 1) := by decide +kernel
theorem zd_113_215 : decode (zm_cc 113) 215 = .ok (.invokevirtual 209, 3) := by decide +kernel
theorem zd_113_218 : decode (zm_cc 113) 218 = .ok (.aload_n 0, 1) := by decide +kernel
theorem zd_113_219 : decode (zm_cc 113) 219 = .ok (.getfield 67, 3) := by decide +kernel
theorem zd_113_222 : decode (zm_cc 113) 222 = .ok (.iload 4, 2) := by decide +kernel
theorem zd_113_224 : decode (zm_cc 113) 224 = .ok (.aload_n 0, 1) := by decide +kernel
theorem zd_113_225 : decode (zm_cc 113) 225 = .ok (.iconst 1, 1) := by decide +kernel
theorem zd_113_226 : decode (zm_cc 113) 226 = .ok (.invokevirtual 285, 3) := by decide +kernel
theorem zd_113_229 : decode (zm_cc 113) 229 = .ok (.iastore, 1) := by decide +kernel
theorem zd_113_230 : decode (zm_cc 113) 230 = .ok (.aload_n 0, 1) := by decide +kernel
theorem zd_113_231 : decode (zm_cc 113) 231 = .ok (.bipush 59, 2) := by decide +kernel
theorem zd_113_233 : decode (zm_cc 113) 233 = .ok (.invokevirtual 288, 3) := by decide +kernel
theorem zd_113_236 : decode (zm_cc 113) 236 = .ok (.return_, 1) := by decide +kernel
theorem zd_114_0 : decode (zm_cc 114) 0 = .ok (.aload_n 0, 1) := by decide +kernel
theorem zd_114_1 : decode (zm_cc 114) 1 = .ok (.bipush 14, 2) := by decide +kernel
theorem zd_114_3 : decode (zm_cc 114) 3 = .ok (.aload_n 0, 1) := by decide +kernel
theorem zd_114_4 : decode (zm_cc 114) 4 = .ok (.getfield 271, 3) := by decide +kernel
theorem zd_114_7 : decode (zm_cc 114) 7 = .ok (.invokevirtual 218, 3) := by decide +kernel
theorem zd_114_10 : decode (zm_cc 114) 10 = .ok (.istore_n 2, 1) := by decide +kernel
theorem zd_114_11 : decode (zm_cc 114) 11 = .ok (.iload_n 2, 1) := by decide +kernel
theorem zd_114_12 : decode (zm_cc 114) 12 = .ok (.iconst (-1), 1) := by decide +kernel
theorem zd_114_13 : decode (zm_cc 114) 13 = .ok (.if_icmp .eq 5, 3) := by decide +kernel
theorem zd_114_16 : decode (zm_cc 114) 16 = .ok (.iload_n 2, 1) := by decide +kernel
theorem zd_114_17 : decode (zm_cc 114) 17 = .ok (.ireturn, 1) := by decide +kernel
theorem zd_114_18 : decode (zm_cc 114) 18 = .ok (.iload_n 1, 1) := by decide +kernel
theorem zd_114_19 : decode (zm_cc 114) 19 = .ok (.ifCond .ne 10, 3) := by decide +kernel
theorem zd_114_22 : decode (zm_cc 114) 22 = .ok (.aload_n 0, 1) := by decide +kernel
theorem zd_114_23 : decode (zm_cc 114) 23 = .ok (.iconst 3, 1) := by decide +kernel
theorem zd_114_24 : decode (zm_cc 114) 24 = .ok (.invokevirtual 151, 3) := by decide +kernel
theorem zd_114_27 : decode (zm_cc 114) 27 = .ok (.iconst 0, 1) := by decide +kernel
theorem zd_114_28 : decode (zm_cc 114) 28 = .ok (.ireturn, 1) := by decide +kernel
theorem zd_114_29 : decode (zm_cc 114) 29 = .ok (.aload_n 0, 1) := by decide +kernel
theorem zd_114_30 : decode (zm_cc 114) 30 = .ok (.getfield 271, 3) := by decide +kernel
theorem zd_114_33 : decode (zm_cc 114) 33 = .ok (.iconst 3, 1) := by decide +kernel
theorem zd_114_34 : decode (zm_cc 114) 34 = .ok (.if_icmp .ne 10, 3) := by decide +kernel
theorem zd_114_37 : decode (zm_cc 114) 37 = .ok (.aload_n 0, 1) := by decide +kernel
theorem zd_114_38 : decode (zm_cc 114) 38 = .ok (.iconst 4, 1) := by decide +kernel
theorem zd_114_39 : decode (zm_cc 114) 39 = .ok (.invokevirtual 151, 3) := by decide +kernel
theorem zd_114_42 : decode (zm_cc 114) 42 = .ok (.iconst 0, 1) := by decide +kernel
theorem zd_114_43 : decode (zm_cc 114) 43 = .ok (.ireturn, 1) := by decide +kernel
theorem zd_114_44 : decode (zm_cc 114) 44 = .ok (.aload_n 0, 1) := by decide +kernel
theorem zd_114_45 : decode (zm_cc 114) 45 = .ok (.bipush 14, 2) := by decide +kernel
theorem zd_114_47 : decode (zm_cc 114) 47 = .ok (.aload_n 0, 1) := by decide +kernel
theorem zd_114_48 : decode (zm_cc 114) 48 = .ok (.getfield 271, 3) := by decide +kernel
theorem zd_114_51 : decode (zm_cc 114) 51 = .ok (.iadd, 1) := by decide +kernel
theorem zd_114_52 : decode (zm_cc 114) 52 = .ok (.invokevirtual 274, 3) := by decide +kernel
theorem zd_114_55 : decode (zm_cc 114) 55 = .ok (.aload_n 0, 1) := by decide +kernel
theorem zd_114_56 : decode (zm_cc 114) 56 = .ok (.dup, 1) := by decide +kernel
theorem zd_114_57 : decode (zm_cc 114) 57 = .ok (.getfield 271, 3) := by decide +kernel
theorem zd_114_60 : decode (zm_cc 114) 60 = .ok (.iconst 1, 1) := by decide +kernel
theorem zd_114_61 : decode (zm_cc 114) 61 = .ok (.iadd, 1) := by decide +kernel
theorem zd_114_62 : decode (zm_cc 114) 62 = .ok (.putfield 271, 3) := by decide +kernel
theorem zd_114_65 : decode (zm_cc 114) 65 = .ok (.aload_n 0, 1) := by decide +kernel
theorem zd_114_66 : decode (zm_cc 114) 66 = .ok (.getfield 271, 3) := by decide +kernel
theorem zd_114_69 : decode (zm_cc 114) 69 = .ok (.iconst 1, 1) := by decide +kernel
theorem zd_114_70 : decode (zm_cc 114) 70 = .ok (.isub, 1) := by decide +kernel
theorem zd_114_71 : decode (zm_cc 114) 71 = .ok (.ireturn, 1) := by decide +kernel
theorem zd_115_0 : decode (zm_cc 115) 0 = .ok (.aload_n 0, 1) := by decide +kernel
theorem zd_115_1 : decode (zm_cc 115) 1 = .ok (.getfield 192, 3) := by decide +kernel
theorem zd_115_4 : decode (zm_cc 115) 4 = .ok (.istore_n 2, 1) := by decide +kernel
theorem zd_115_5 : decode (zm_cc 115) 5 = .ok (.aload_n 0, 1) := by decide +kernel
theorem zd_115_6 : decode (zm_cc 115) 6 = .ok (.getfield 135, 3) := by decide +kernel
theorem zd_115_9 : decode (zm_cc 115) 9 = .ok (.ifCond .eq 5, 3) := by decide +kernel
theorem zd_115_12 : decode (zm_cc 115) 12 = .ok (.iconst 0, 1) := by decide +kernel
theorem zd_115_13 : decode (zm_cc 115) 13 = .ok (.ireturn, 1) := by decide +kernel
theorem zd_115_14 : decode (zm_cc 115) 14 = .ok (.aload_n 0, 1) := by decide +kernel
theorem zd_115_15 : decode (zm_cc 115) 15 = .ok (.getfield 148, 3) := by decide +kernel
theorem zd_115_18 : decode (zm_cc 115) 18 = .ok (.iconst 2, 1) := by decide +kernel
theorem zd_115_19 : decode (zm_cc 115) 19 = .ok (.if_icmp .ne 22, 3) := by decide +kernel
theorem zd_115_22 : decode (zm_cc 115) 22 = .ok (.aload_n 0, 1) := by decide +kernel
theorem zd_115_23 : decode (zm_cc 115) 23 = .ok (.invokevirtual 277, 3) := by decide +kernel
theorem zd_115_26 : decode (zm_cc 115) 26 = .ok (.ifCond .ne 15, 3) := by decide +kernel
theorem zd_115_29 : decode (zm_cc 115) 29 = .ok (.bipush 8, 2) := by decide +kernel
theorem zd_115_31 : decode (zm_cc 115) 31 = .ok (.aload_n 0, 1) := by decide +kernel
theorem zd_115_32 : decode (zm_cc 115) 32 = .ok (.iload_n 1, 1) := by decide +kernel
theorem zd_115_33 : decode (zm_cc 115) 33 = .ok (.invokevirtual 281, 3) := by decide +kernel
theorem zd_115_36 : decode (zm_cc 115) 36 = .ok (.iadd, 1) := by decide +kernel
theorem zd_115_37 : decode (zm_cc 115) 37 = .ok (.istore_n 2, 1) := by decide +kernel
theorem zd_115_38 : decode (zm_cc 115) 38 = .ok (.goto 15, 3) := by decide +kernel
theorem zd_115_41 : decode (zm_cc 115) 41 = .ok (.aload_n 0, 1) := by decide +kernel
theorem zd_115_42 : decode (zm_cc 115) 42 = .ok (.getfield 148, 3) := by decide +kernel
theorem zd_115_45 : decode (zm_cc 115) 45 = .ok (.iconst 3, 1) := by decide +kernel
theorem zd_115_46 : decode (zm_cc 115) 46 = .ok (.if_icmp .eq 7, 3) := by decide +kernel
theorem zd_115_49 : decode (zm_cc 115) 49 = .ok (.aload_n 0, 1) := by decide +kernel
theorem zd_115_50 : decode (zm_cc 115) 50 = .ok (.invokevirtual 212, 3) := by decide +kernel
theorem zd_115_53 : decode (zm_cc 115) 53 = .ok (.aload_n 0, 1) := by decide +kernel
theorem zd_115_54 : decode (zm_cc 115) 54 = .ok (.getfield 135, 3) := by decide +kernel
theorem zd_115_57 : decode (zm_cc 115) 57 = .ok (.ifCond .ne 7, 3) := by decide +kernel
theorem zd_115_60 : decode (zm_cc 115) 60 = .ok (.aload_n 0, 1) := by decide +kernel
theorem zd_115_61 : decode (zm_cc 115) 61 = .ok (.invokevirtual 209, 3) := by decide +kernel
theorem zd_115_64 : decode (zm_cc 115) 64 = .ok (.iload_n 2, 1) := by decide +kernel
theorem zd_115_65 : decode (zm_cc 115) 65 = .ok (.ireturn, 1) := by decide +kernel
theorem zd_116_0 : decode (zm_cc 116) 0 = .ok (.aload_n 0, 1) := by decide +kernel
theorem zd_116_1 : decode (zm_cc 116) 1 = .ok (.getfield 135, 3) := by decide +kernel
theorem zd_116_4 : decode (zm_cc 116) 4 = .ok (.ifCond .ne 7, 3) := by decide +kernel
theorem zd_116_7 : decode (zm_cc 116) 7 = .ok (.aload_n 0, 1) := by decide +kernel
theorem zd_116_8 : decode (zm_cc 116) 8 = .ok (.invokevirtual 209, 3) := by decide +kernel
theorem zd_116_11 : decode (zm_cc 116) 11 = .ok (.return_, 1) := by decide +kernel
theorem zd_117_0 : decode (zm_cc 117) 0 = .ok (.aload_n 0, 1) := by decide +kernel
theorem zd_117_1 : decode (zm_cc 117) 1 = .ok (.getfield 135, 3) := by decide +kernel
theorem zd_117_4 : decode (zm_cc 117) 4 = .ok (.ifCond .eq 5, 3) := by decide +kernel
theorem zd_117_7 : decode (zm_cc 117) 7 = .ok (.iconst 0, 1) := by decide +kernel
theorem zd_117_8 : decode (zm_cc 117) 8 = .ok (.ireturn, 1) := by decide +kernel
theorem zd_117_9 : decode (zm_cc 117) 9 = .ok (.aload_n 0, 1) := by decide +kernel
theorem zd_117_10 : decode (zm_cc 117) 10 = .ok (.getfield 148, 3) := by decide +kernel
theorem zd_117_13 : decode (zm_cc 117) 13 = .ok (.iconst 2, 1) := by decide +kernel
theorem zd_117_14 : decode (zm_cc 117) 14 = .ok (.if_icmp .ne 10, 3) := by decide +kernel
theorem zd_117_17 : decode (zm_cc 117) 17 = .ok (.aload_n 0, 1) := by decide +kernel
theorem zd_117_18 : decode (zm_cc 117) 18 = .ok (.invokevirtual 231, 3) := by decide +kernel
theorem zd_117_21 : decode (zm_cc 117) 21 = .ok (.goto 4, 3) := by decide +kernel
theorem zd_117_24 : decode (zm_cc 117) 24 = .ok (.iconst (-1), 1) := by decide +kernel
theorem zd_117_25 : decode (zm_cc 117) 25 = .ok (.istore_n 1, 1) := by decide +kernel
theorem zd_117_26 : decode (zm_cc 117) 26 = .ok (.aload_n 0, 1) := by decide +kernel
theorem zd_117_27 : decode (zm_cc 117) 27 = .ok (.getfield 148, 3) := by decide +kernel
theorem zd_117_30 : decode (zm_cc 117) 30 = .ok (.iconst 2, 1) := by decide +kernel
theorem zd_117_31 : decode (zm_cc 117) 31 = .ok (.if_icmp .ne 15, 3) := by decide +kernel
theorem zd_117_34 : decode (zm_cc 117) 34 = .ok (.iload_n 1, 1) := by decide +kernel
theorem zd_117_35 : decode (zm_cc 117) 35 = .ok (.iconst (-1), 1) := by decide +kernel
theorem zd_117_36 : decode (zm_cc 117) 36 = .ok (.if_icmp .ne 17, 3) := by decide +kernel
theorem zd_117_39 : decode (zm_cc 117) 39 = .ok (.aload_n 0, 1) := by decide +kernel
theorem zd_117_40 : decode (zm_cc 117) 40 = .ok (.invokevirtual 277, 3) := by decide +kernel
theorem zd_117_43 : decode (zm_cc 117) 43 = .ok (.ifCond .eq 10, 3) := by decide +kernel
theorem zd_117_46 : decode (zm_cc 117) 46 = .ok (.aload_n 0, 1) := by decide +kernel
theorem zd_117_47 : decode (zm_cc 117) 47 = .ok (.invokevirtual 212, 3) := by decide +kernel
theorem zd_117_50 : decode (zm_cc 117) 50 = .ok (.goto 13, 3) := by decide +kernel
theorem zd_117_53 : decode (zm_cc 117) 53 = .ok (.iload_n 1, 1) := by decide +kernel
theorem zd_117_54 : decode (zm_cc 117) 54 = .ok (.iconst (-1), 1) := by decide +kernel
theorem zd_117_55 : decode (zm_cc 117) 55 = .ok (.if_icmp .ne 8, 3) := by decide +kernel
theorem zd_117_58 : decode (zm_cc 117) 58 = .ok (.aload_n 0, 1) := by decide +kernel
theorem zd_117_59 : decode (zm_cc 117) 59 = .ok (.iconst 3, 1) := by decide +kernel
theorem zd_117_60 : decode (zm_cc 117) 60 = .ok (.invokevirtual 151, 3) := by decide +kernel
theorem zd_117_63 : decode (zm_cc 117) 63 = .ok (.aload_n 0, 1) := by decide +kernel
theorem zd_117_64 : decode (zm_cc 117) 64 = .ok (.getfield 135, 3) := by decide +kernel
theorem zd_117_67 : decode (zm_cc 117) 67 = .ok (.ifCond .ne 7, 3) := by decide +kernel
theorem zd_117_70 : decode (zm_cc 117) 70 = .ok (.aload_n 0, 1) := by decide +kernel
theorem zd_117_71 : decode (zm_cc 117) 71 = .ok (.invokevirtual 209, 3) := by decide +kernel
theorem zd_117_74 : decode (zm_cc 117) 74 = .ok (.iload_n 1, 1) := by decide +kernel
theorem zd_117_75 : decode (zm_cc 117) 75 = .ok (.ireturn, 1) := by decide +kernel
theorem zd_118_0 : decode (zm_cc 118) 0 = .ok (.bipush 24, 2) := by decide +kernel
theorem zd_118_2 : decode (zm_cc 118) 2 = .ok (.aload_n 0, 1) := by decide +kernel
theorem zd_118_3 : decode (zm_cc 118) 3 = .ok (.getfield 240, 3) := by decide +kernel
theorem zd_118_6 : decode (zm_cc 118) 6 = .ok (.imul, 1) := by decide +kernel
theorem zd_118_7 : decode (zm_cc 118) 7 = .ok (.iload_n 1, 1) := by decide +kernel
theorem zd_118_8 : decode (zm_cc 118) 8 = .ok (.iadd, 1) := by decide +kernel
theorem zd_118_9 : decode (zm_cc 118) 9 = .ok (.istore_n 2, 1) := by decide +kernel
theorem zd_118_10 : decode (zm_cc 118) 10 = .ok (.aload_n 0, 1) := by decide +kernel
theorem zd_118_11 : decode (zm_cc 118) 11 = .ok (.getfield 135, 3) := by decide +kernel
theorem zd_118_14 : decode (zm_cc 118) 14 = .ok (.ifCond .eq 4, 3) := by decide +kernel
theorem zd_118_17 : decode (zm_cc 118) 17 = .ok (.return_, 1) := by decide +kernel
theorem zd_118_18 : decode (zm_cc 118) 18 = .ok (.aload_n 0, 1) := by decide +kernel
theorem zd_118_19 : decode (zm_cc 118) 19 = .ok (.getfield 64, 3) := by decide +kernel
theorem zd_118_22 : decode (zm_cc 118) 22 = .ok (.iload_n 2, 1) := by decide +kernel
theorem zd_118_23 : decode (zm_cc 118) 23 = .ok (.aload_n 0, 1) := by decide +kernel
theorem zd_118_24 : decode (zm_cc 118) 24 = .ok (.iconst 0, 1) := by decide +kernel
theorem zd_118_25 : decode (zm_cc 118) 25 = .ok (.invokevirtual 285, 3) := by decide +kernel
theorem zd_118_28 : decode (zm_cc 118) 28 = .ok (.iastore, 1) := by decide +kernel
theorem zd_118_29 : decode (zm_cc 118) 29 = .ok (.aload_n 0, 1) := by decide +kernel
theorem zd_118_30 : decode (zm_cc 118) 30 = .ok (.getfield 135, 3) := by decide +kernel
theorem zd_118_33 : decode (zm_cc 118) 33 = .ok (.ifCond .eq 4, 3) := by decide +kernel
theorem zd_118_36 : decode (zm_cc 118) 36 = .ok (.return_, 1) := by decide +kernel
theorem zd_118_37 : decode (zm_cc 118) 37 = .ok (.aload_n 0, 1) := by decide +kernel
theorem zd_118_38 : decode (zm_cc 118) 38 = .ok (.getfield 70, 3) := by decide +kernel
theorem zd_118_41 : decode (zm_cc 118) 41 = .ok (.iload_n 2, 1) := by decide +kernel
theorem zd_118_42 : decode (zm_cc 118) 42 = .ok (.aload_n 0, 1) := by decide +kernel
theorem zd_118_43 : decode (zm_cc 118) 43 = .ok (.getfield 192, 3) := by decide +kernel
theorem zd_118_46 : decode (zm_cc 118) 46 = .ok (.iastore, 1) := by decide +kernel
theorem zd_118_47 : decode (zm_cc 118) 47 = .ok (.aload_n 0, 1) := by decide +kernel
theorem zd_118_48 : decode (zm_cc 118) 48 = .ok (.getfield 148, 3) := by decide +kernel
theorem zd_118_51 : decode (zm_cc 118) 51 = .ok (.iconst 4, 1) := by decide +kernel
theorem zd_118_52 : decode (zm_cc 118) 52 = .ok (.if_icmp .ne 41, 3) := by decide +kernel
theorem zd_118_55 : decode (zm_cc 118) 55 = .ok (.aload_n 0, 1) := by decide +kernel
theorem zd_118_56 : decode (zm_cc 118) 56 = .ok (.getfield 192, 3) := by decide +kernel
theorem zd_118_59 : decode (zm_cc 118) 59 = .ok (.sipush 1000, 3) := by decide +kernel
theorem zd_118_62 : decode (zm_cc 118) 62 = .ok (.if_icmp .eq 36, 3) := by decide +kernel
theorem zd_118_65 : decode (zm_cc 118) 65 = .ok (.aload_n 0, 1) := by decide +kernel
theorem zd_118_66 : decode (zm_cc 118) 66 = .ok (.getfield 192, 3) := by decide +kernel
theorem zd_118_69 : decode (zm_cc 118) 69 = .ok (.sipush 1001, 3) := by decide +kernel
theorem zd_118_72 : decode (zm_cc 118) 72 = .ok (.if_icmp .eq 26, 3) := by decide +kernel
theorem zd_118_75 : decode (zm_cc 118) 75 = .ok (.aload_n 0, 1) := by decide +kernel
theorem zd_118_76 : decode (zm_cc 118) 76 = .ok (.getfield 192, 3) := by decide +kernel
theorem zd_118_79 : decode (zm_cc 118) 79 = .ok (.bipush 60, 2) := by decide +kernel
theorem zd_118_81 : decode (zm_cc 118) 81 = .ok (.if_icmp .eq 17, 3) := by decide +kernel
theorem zd_118_84 : decode (zm_cc 118) 84 = .ok (.aload_n 0, 1) := by decide +kernel
theorem zd_118_85 : decode (zm_cc 118) 85 = .ok (.getfield 192, 3) := by decide +kernel
theorem zd_118_88 : decode (zm_cc 118) 88 = .ok (.bipush 62, 2) := by decide +kernel
theorem zd_118_90 : decode (zm_cc 118) 90 = .ok (.if_icmp .eq 8, 3) := by decide +kernel
theorem zd_118_93 : decode (zm_cc 118) 93 = .ok (.aload_n 0, 1) := by decide +kernel
theorem zd_118_94 : decode (zm_cc 118) 94 = .ok (.invokevirtual 212, 3) := by decide +kernel
theorem zd_118_97 : decode (zm_cc 118) 97 = .ok (.return_, 1) := by decide +kernel
theorem zd_118_98 : decode (zm_cc 118) 98 = .ok (.aload_n 0, 1) := by decide +kernel
theorem zd_118_99 : decode (zm_cc 118) 99 = .ok (.invokevirtual 209, 3) := by decide +kernel
theorem zd_118_102 : decode (zm_cc 118) 102 = .ok (.aload_n 0, 1) := by decide +kernel
theorem zd_118_103 : decode (zm_cc 118) 103 = .ok (.getfield 67, 3) := by decide +kernel
theorem zd_118_106 : decode (zm_cc 118) 106 = .ok (.iload_n 2, 1) := by decide +kernel
theorem zd_118_107 : decode (zm_cc 118) 107 = .ok (.aload_n 0, 1) := by decide +kernel
theorem zd_118_108 : decode (zm_cc 118) 108 = .ok (.iconst 0, 1) := by decide +kernel
theorem zd_118_109 : decode (zm_cc 118) 109 = .ok (.invokevirtual 285, 3) := by decide +kernel
theorem zd_118_112 : decode (zm_cc 118) 112 = .ok (.iastore, 1) := by decide +kernel
theorem zd_118_113 : decode (zm_cc 118) 113 = .ok (.return_, 1) := by decide +kernel
theorem zd_119_0 : decode (zm_cc 119) 0 = .ok (.aload_n 0, 1) := by decide +kernel
theorem zd_119_1 : decode (zm_cc 119) 1 = .ok (.getfield 135, 3) := by decide +kernel
theorem zd_119_4 : decode (zm_cc 119) 4 = .ok (.ifCond .eq 5, 3) := by decide +kernel
theorem zd_119_7 : decode (zm_cc 119) 7 = .ok (.iconst 0, 1) := by decide +kernel
theorem zd_119_8 : decode (zm_cc 119) 8 = .ok (.ireturn, 1) := by decide +kernel
theorem zd_119_9 : decode (zm_cc 119) 9 = .ok (.aload_n 0, 1) := by decide +kernel
theorem zd_119_10 : decode (zm_cc 119) 10 = .ok (.getfield 148, 3) := by decide +kernel
theorem zd_119_13 : decode (zm_cc 119) 13 = .ok (.iconst 2, 1) := by decide +kernel
theorem zd_119_14 : decode (zm_cc 119) 14 = .ok (.if_icmp .ne 10, 3) := by decide +kernel
theorem zd_119_17 : decode (zm_cc 119) 17 = .ok (.aload_n 0, 1) := by decide +kernel
theorem zd_119_18 : decode (zm_cc 119) 18 = .ok (.invokevirtual 234, 3) := by decide +kernel
theorem zd_119_21 : decode (zm_cc 119) 21 = .ok (.goto 4, 3) := by decide +kernel
theorem zd_119_24 : decode (zm_cc 119) 24 = .ok (.iconst (-1), 1) := by decide +kernel
theorem zd_119_25 : decode (zm_cc 119) 25 = .ok (.istore_n 1, 1) := by decide +kernel
theorem zd_119_26 : decode (zm_cc 119) 26 = .ok (.aload_n 0, 1) := by decide +kernel
theorem zd_119_27 : decode (zm_cc 119) 27 = .ok (.getfield 148, 3) := by decide +kernel
theorem zd_119_30 : decode (zm_cc 119) 30 = .ok (.iconst 2, 1) := by decide +kernel
theorem zd_119_31 : decode (zm_cc 119) 31 = .ok (.if_icmp .ne 15, 3) := by decide +kernel
theorem zd_119_34 : decode (zm_cc 119) 34 = .ok (.iload_n 1, 1) := by decide +kernel
theorem zd_119_35 : decode (zm_cc 119) 35 = .ok (.iconst (-1), 1) := by decide +kernel
theorem zd_119_36 : decode (zm_cc 119) 36 = .ok (.if_icmp .ne 16, 3) := by decide +kernel
theorem zd_119_39 : decode (zm_cc 119) 39 = .ok (.aload_n 0, 1) := by decide +kernel
theorem zd_119_40 : decode (zm_cc 119) 40 = .ok (.invokevirtual 277, 3) := by decide +kernel
theorem zd_119_43 : decode (zm_cc 119) 43 = .ok (.ifCond .eq 9, 3) := by decide +kernel
theorem zd_119_46 : decode (zm_cc 119) 46 = .ok (.aload_n 0, 1) := by decide +kernel
theorem zd_119_47 : decode (zm_cc 119) 47 = .ok (.invokevirtual 212, 3) := by decide +kernel
theorem zd_119_50 : decode (zm_cc 119) 50 = .ok (.iconst 0, 1) := by decide +kernel
theorem zd_119_51 : decode (zm_cc 119) 51 = .ok (.ireturn, 1) := by decide +kernel
theorem zd_119_52 : decode (zm_cc 119) 52 = .ok (.iload_n 1, 1) := by decide +kernel
theorem zd_119_53 : decode (zm_cc 119) 53 = .ok (.iconst (-1), 1) := by decide +kernel
theorem zd_119_54 : decode (zm_cc 119) 54 = .ok (.if_icmp .ne 62, 3) := by decide +kernel
theorem zd_119_57 : decode (zm_cc 119) 57 = .ok (.aload_n 0, 1) := by decide +kernel
theorem zd_119_58 : decode (zm_cc 119) 58 = .ok (.bipush 17, 2) := by decide +kernel
theorem zd_119_60 : decode (zm_cc 119) 60 = .ok (.aload_n 0, 1) := by decide +kernel
theorem zd_119_61 : decode (zm_cc 119) 61 = .ok (.getfield 291, 3) := by decide +kernel
theorem zd_119_64 : decode (zm_cc 119) 64 = .ok (.invokevirtual 218, 3) := by decide +kernel
theorem zd_119_67 : decode (zm_cc 119) 67 = .ok (.istore_n 1, 1) := by decide +kernel
theorem zd_119_68 : decode (zm_cc 119) 68 = .ok (.iload_n 1, 1) := by decide +kernel
theorem zd_119_69 : decode (zm_cc 119) 69 = .ok (.iconst (-1), 1) := by decide +kernel
theorem zd_119_70 : decode (zm_cc 119) 70 = .ok (.if_icmp .ne 42, 3) := by decide +kernel
theorem zd_119_73 : decode (zm_cc 119) 73 = .ok (.aload_n 0, 1) := by decide +kernel
theorem zd_119_74 : decode (zm_cc 119) 74 = .ok (.bipush 17, 2) := by decide +kernel
theorem zd_119_76 : decode (zm_cc 119) 76 = .ok (.aload_n 0, 1) := by decide +kernel
theorem zd_119_77 : decode (zm_cc 119) 77 = .ok (.getfield 291, 3) := by decide +kernel
theorem zd_119_80 : decode (zm_cc 119) 80 = .ok (.iadd, 1) := by decide +kernel
theorem zd_119_81 : decode (zm_cc 119) 81 = .ok (.invokevirtual 274, 3) := by decide +kernel
theorem zd_119_84 : decode (zm_cc 119) 84 = .ok (.aload_n 0, 1) := by decide +kernel
theorem zd_119_85 : decode (zm_cc 119) 85 = .ok (.getfield 27, 3) := by decide +kernel
theorem zd_119_88 : decode (zm_cc 119) 88 = .ok (.aload_n 0, 1) := by decide +kernel
theorem zd_119_89 : decode (zm_cc 119) 89 = .ok (.getfield 291, 3) := by decide +kernel
theorem zd_119_92 : decode (zm_cc 119) 92 = .ok (.aload_n 0, 1) := by decide +kernel
theorem zd_119_93 : decode (zm_cc 119) 93 = .ok (.getfield 142, 3) := by decide +kernel
theorem zd_119_96 : decode (zm_cc 119) 96 = .ok (.iastore, 1) := by decide +kernel
theorem zd_119_97 : decode (zm_cc 119) 97 = .ok (.aload_n 0, 1) := by decide +kernel
theorem zd_119_98 : decode (zm_cc 119) 98 = .ok (.getfield 291, 3) := by decide +kernel
theorem zd_119_101 : decode (zm_cc 119) 101 = .ok (.istore_n 1, 1) := by decide +kernel
theorem zd_119_102 : decode (zm_cc 119) 102 = .ok (.aload_n 0, 1) := by decide +kernel
theorem zd_119_103 : decode (zm_cc 119) 103 = .ok (.dup, 1) := by decide +kernel
theorem zd_119_104 : decode (zm_cc 119) 104 = .ok (.getfield 291, 3) := by decide +kernel
theorem zd_119_107 : decode (zm_cc 119) 107 = .ok (.iconst 1, 1) := by decide +kernel
theorem zd_119_108 : decode (zm_cc 119) 108 = .ok (.iadd, 1) := by decide +kernel
theorem zd_119_109 : decode (zm_cc 119) 109 = .ok (.putfield 291, 3) := by decide +kernel
theorem zd_119_112 : decode (zm_cc 119) 112 = .ok (.iconst 4, 1) := by decide +kernel
theorem zd_119_113 : decode (zm_cc 119) 113 = .ok (.iload_n 1, 1) := by decide +kernel
theorem zd_119_114 : decode (zm_cc 119) 114 = .ok (.iadd, 1) := by decide +kernel
theorem zd_119_115 : decode (zm_cc 119) 115 = .ok (.istore_n 1, 1) := by decide +kernel
theorem zd_119_116 : decode (zm_cc 119) 116 = .ok (.aload_n 0, 1) := by decide +kernel
theorem zd_119_117 : decode (zm_cc 119) 117 = .ok (.invokevirtual 209, 3) := by decide +kernel
theorem zd_119_120 : decode (zm_cc 119) 120 = .ok (.iload_n 1, 1) := by decide +kernel
theorem zd_119_121 : decode (zm_cc 119) 121 = .ok (.ireturn, 1) := by decide +kernel
theorem zd_120_0 : decode (zm_cc 120) 0 = .ok (.iconst 0, 1) := by decide +kernel
theorem zd_120_1 : decode (zm_cc 120) 1 = .ok (.istore_n 1, 1) := by decide +kernel
theorem zd_120_2 : decode (zm_cc 120) 2 = .ok (.iload_n 1, 1) := by decide +kernel
theorem zd_120_3 : decode (zm_cc 120) 3 = .ok (.aload_n 0, 1) := by decide +kernel
theorem zd_120_4 : decode (zm_cc 120) 4 = .ok (.getfield 291, 3) := by decide +kernel
theorem zd_120_7 : decode (zm_cc 120) 7 = .ok (.if_icmp .ge 256, 3) := by decide +kernel
theorem zd_120_10 : decode (zm_cc 120) 10 = .ok (.aload_n 0, 1) := by decide +kernel
theorem zd_120_11 : decode (zm_cc 120) 11 = .ok (.getfield 135, 3) := by decide +kernel
theorem zd_120_14 : decode (zm_cc 120) 14 = .ok (.ifCond .ne 249, 3) := by decide +kernel
theorem zd_120_17 : decode (zm_cc 120) 17 = .ok (.iconst (-1), 1) := by decide +kernel
theorem zd_120_18 : decode (zm_cc 120) 18 = .ok (.istore_n 2, 1) := by decide +kernel
theorem zd_120_19 : decode (zm_cc 120) 19 = .ok (.iconst 0, 1) := by decide +kernel
theorem zd_120_20 : decode (zm_cc 120) 20 = .ok (.istore_n 3, 1) := by decide +kernel
theorem zd_120_21 : decode (zm_cc 120) 21 = .ok (.iload_n 3, 1) := by decide +kernel
theorem zd_120_22 : decode (zm_cc 120) 22 = .ok (.aload_n 0, 1) := by decide +kernel
theorem zd_120_23 : decode (zm_cc 120) 23 = .ok (.getfield 225, 3) := by decide +kernel
theorem zd_120_26 : decode (zm_cc 120) 26 = .ok (.if_icmp .ge 116, 3) := by decide +kernel
theorem zd_120_29 : decode (zm_cc 120) 29 = .ok (.aload_n 0, 1) := by decide +kernel
theorem zd_120_30 : decode (zm_cc 120) 30 = .ok (.getfield 23, 3) := by decide +kernel
theorem zd_120_33 : decode (zm_cc 120) 33 = .ok (.bipush 10, 2) := by decide +kernel
theorem zd_120_35 : decode (zm_cc 120) 35 = .ok (.iload_n 3, 1) := by decide +kernel
theorem zd_120_36 : decode (zm_cc 120) 36 = .ok (.iadd, 1) := by decide +kernel
theorem zd_120_37 : decode (zm_cc 120) 37 = .ok (.iaload, 1) := by decide +kernel
theorem zd_120_38 : decode (zm_cc 120) 38 = .ok (.aload_n 0, 1) := by decide +kernel
theorem zd_120_39 : decode (zm_cc 120) 39 = .ok (.getfield 23, 3) := by decide +kernel
theorem zd_120_42 : decode (zm_cc 120) 42 = .ok (.bipush 17, 2) := by decide +kernel
theorem zd_120_44 : decode (zm_cc 120) 44 = .ok (.iload_n 1, 1) := by decide +kernel
theorem zd_120_45 : decode (zm_cc 120) 45 = .ok (.iadd, 1) := by decide +kernel
theorem zd_120_46 : decode (zm_cc 120) 46 = .ok (.iaload, 1) := by decide +kernel
theorem zd_120_47 : decode (zm_cc 120) 47 = .ok (.if_icmp .ne 7, 3) := by decide +kernel
theorem zd_120_50 : decode (zm_cc 120) 50 = .ok (.iconst 1, 1) := by decide +kernel
theorem zd_120_51 : decode (zm_cc 120) 51 = .ok (.goto 4, 3) := by decide +kernel
theorem zd_120_54 : decode (zm_cc 120) 54 = .ok (.iconst 0, 1) := by decide +kernel
theorem zd_120_55 : decode (zm_cc 120) 55 = .ok (.istore 4, 2) := by decide +kernel
theorem zd_120_57 : decode (zm_cc 120) 57 = .ok (.iconst 0, 1) := by decide +kernel
theorem zd_120_58 : decode (zm_cc 120) 58 = .ok (.istore 5, 2) := by decide +kernel
theorem zd_120_60 : decode (zm_cc 120) 60 = .ok (.iload 5, 2) := by decide +kernel
theorem zd_120_62 : decode (zm_cc 120) 62 = .ok (.aload_n 0, 1) := by decide +kernel
theorem zd_120_63 : decode (zm_cc 120) 63 = .ok (.getfield 23, 3) := by decide +kernel
theorem zd_120_66 : decode (zm_cc 120) 66 = .ok (.bipush 17, 2) := by decide +kernel
theorem zd_120_68 : decode (zm_cc 120) 68 = .ok (.iload_n 1, 1) := by decide +kernel
theorem zd_120_69 : decode (zm_cc 120) 69 = .ok (.iadd, 1) := by decide +kernel
theorem zd_120_70 : decode (zm_cc 120) 70 = .ok (.iaload, 1) := by decide +kernel
theorem zd_120_71 : decode (zm_cc 120) 71 = .ok (.if_icmp .ge 54, 3) := by decide +kernel
theorem zd_120_74 : decode (zm_cc 120) 74 = .ok (.iload 4, 2) := by decide +kernel
theorem zd_120_76 : decode (zm_cc 120) 76 = .ok (.ifCond .eq 49, 3) := by decide +kernel
theorem zd_120_79 : decode (zm_cc 120) 79 = .ok (.aload_n 0, 1) := by decide +kernel
theorem zd_120_80 : decode (zm_cc 120) 80 = .ok (.getfield 20, 3) := by decide +kernel
theorem zd_120_83 : decode (zm_cc 120) 83 = .ok (.bipush 6, 2) := by decide +kernel
theorem zd_120_85 : decode (zm_cc 120) 85 = .ok (.bipush 10, 2) := by decide +kernel
theorem zd_120_87 : decode (zm_cc 120) 87 = .ok (.iload_n 3, 1) := by decide +kernel
theorem zd_120_88 : decode (zm_cc 120) 88 = .ok (.iadd, 1) := by decide +kernel
theorem zd_120_89 : decode (zm_cc 120) 89 = .ok (.imul, 1) := by decide +kernel
theorem zd_120_90 : decode (zm_cc 120) 90 = .ok (.iload 5, 2) := by decide +kernel
theorem zd_120_92 : decode (zm_cc 120) 92 = .ok (.iadd, 1) := by decide +kernel
theorem zd_120_93 : decode (zm_cc 120) 93 = .ok (.baload, 1) := by decide +kernel
theorem zd_120_94 : decode (zm_cc 120) 94 = .ok (.aload_n 0, 1) := by decide +kernel
theorem zd_120_95 : decode (zm_cc 120) 95 = .ok (.getfield 20, 3) := by decide +kernel
theorem zd_120_98 : decode (zm_cc 120) 98 = .ok (.bipush 6, 2) := by decide +kernel
theorem zd_120_100 : decode (zm_cc 120) 100 = .ok (.bipush 17, 2) := by decide +kernel
theorem zd_120_102 : decode (zm_cc 120) 102 = .ok (.iload_n 1, 1) := by decide +kernel
theorem zd_120_103 : decode (zm_cc 120) 103 = .ok (.iadd, 1) := by decide +kernel
theorem zd_120_104 : decode (zm_cc 120) 104 = .ok (.imul, 1) := by decide +kernel
theorem zd_120_105 : decode (zm_cc 120) 105 = .ok (.iload 5, 2) := by decide +kernel
theorem zd_120_107 : decode (zm_cc 120) 107 = .ok (.iadd, 1) := by decide +kernel
theorem zd_120_108 : decode (zm_cc 120) 108 = .ok (.baload, 1) := by decide +kernel
theorem zd_120_109 : decode (zm_cc 120) 109 = .ok (.if_icmp .ne 7, 3) := by decide +kernel
theorem zd_120_112 : decode (zm_cc 120) 112 = .ok (.iconst 1, 1) := by decide +kernel
theorem zd_120_113 : decode (zm_cc 120) 113 = .ok (.goto 4, 3) := by decide +kernel
theorem zd_120_116 : decode (zm_cc 120) 116 = .ok (.iconst 0, 1) := by decide +kernel
theorem zd_120_117 : decode (zm_cc 120) 117 = .ok (.istore 4, 2) := by decide +kernel
theorem zd_120_119 : decode (zm_cc 120) 119 = .ok (.iinc 5 1, 3) := by decide +kernel
theorem zd_120_122 : decode (zm_cc 120) 122 = .ok (.goto (-62), 3) := by decide +kernel
theorem zd_120_125 : decode (zm_cc 120) 125 = .ok (.iload 4, 2) := by decide +kernel
theorem zd_120_127 : decode (zm_cc 120) 127 = .ok (.ifCond .eq 7, 3) := by decide +kernel
theorem zd_120_130 : decode (zm_cc 120) 130 = .ok (.iload_n 3, 1) := by decide +kernel
theorem zd_120_131 : decode (zm_cc 120) 131 = .ok (.goto 4, 3) := by decide +kernel
theorem zd_120_134 : decode (zm_cc 120) 134 = .ok (.iload_n 2, 1) := by decide +kernel
theorem zd_120_135 : decode (zm_cc 120) 135 = .ok (.istore_n 2, 1) := by decide +kernel
theorem zd_120_136 : decode (zm_cc 120) 136 = .ok (.iinc 3 1, 3) := by decide +kernel
theorem zd_120_139 : decode (zm_cc 120) 139 = .ok (.goto (-118), 3) := by decide +kernel
theorem zd_120_142 : decode (zm_cc 120) 142 = .ok (.iload_n 2, 1) := by decide +kernel
theorem zd_120_143 : decode (zm_cc 120) 143 = .ok (.iconst (-1), 1) := by decide +kernel
theorem zd_120_144 : decode (zm_cc 120) 144 = .ok (.if_icmp .ne 23, 3) := by decide +kernel
theorem zd_120_147 : decode (zm_cc 120) 147 = .ok (.aload_n 0, 1) := by decide +kernel
theorem zd_120_148 : decode (zm_cc 120) 148 = .ok (.iconst 1, 1) := by decide +kernel
theorem zd_120_149 : decode (zm_cc 120) 149 = .ok (.putfield 135, 3) := by decide +kernel
theorem zd_120_152 : decode (zm_cc 120) 152 = .ok (.aload_n 0, 1) := by decide +kernel
theorem zd_120_153 : decode (zm_cc 120) 153 = .ok (.iconst 5, 1) := by decide +kernel
theorem zd_120_154 : decode (zm_cc 120) 154 = .ok (.putfield 139, 3) := by decide +kernel
theorem zd_120_157 : decode (zm_cc 120) 157 = .ok (.aload_n 0, 1) := by decide +kernel
theorem zd_120_158 : decode (zm_cc 120) 158 = .ok (.aload_n 0, 1) := by decide +kernel
theorem zd_120_159 : decode (zm_cc 120) 159 = .ok (.getfield 27, 3) := by decide +kernel
theorem zd_120_162 : decode (zm_cc 120) 162 = .ok (.iload_n 1, 1) := by decide +kernel
theorem zd_120_163 : decode (zm_cc 120) 163 = .ok (.iaload, 1) := by decide +kernel
theorem zd_120_164 : decode (zm_cc 120) 164 = .ok (.putfield 145, 3) := by decide +kernel
theorem zd_120_167 : decode (zm_cc 120) 167 = .ok (.iconst 0, 1) := by decide +kernel
theorem zd_120_168 : decode (zm_cc 120) 168 = .ok (.istore_n 3, 1) := by decide +kernel
theorem zd_120_169 : decode (zm_cc 120) 169 = .ok (.iload_n 3, 1) := by decide +kernel
theorem zd_120_170 : decode (zm_cc 120) 170 = .ok (.aload_n 0, 1) := by decide +kernel
theorem zd_120_171 : decode (zm_cc 120) 171 = .ok (.getfield 225, 3) := by decide +kernel
theorem zd_120_174 : decode (zm_cc 120) 174 = .ok (.if_icmp .ge 83, 3) := by decide +kernel
theorem zd_120_177 : decode (zm_cc 120) 177 = .ok (.iconst 0, 1) := by decide +kernel
theorem zd_120_178 : decode (zm_cc 120) 178 = .ok (.istore 4, 2) := by decide +kernel
theorem zd_120_180 : decode (zm_cc 120) 180 = .ok (.iload 4, 2) := by decide +kernel
theorem zd_120_182 : decode (zm_cc 120) 182 = .ok (.aload_n 0, 1) := by decide +kernel
theorem zd_120_183 : decode (zm_cc 120) 183 = .ok (.getfield 37, 3) := by decide +kernel
theorem zd_120_186 : decode (zm_cc 120) 186 = .ok (.iload_n 3, 1) := by decide +kernel
theorem zd_120_187 : decode (zm_cc 120) 187 = .ok (.iaload, 1) := by decide +kernel
theorem zd_120_188 : decode (zm_cc 120) 188 = .ok (.if_icmp .ge 63, 3) := by decide +kernel
theorem zd_120_191 : decode (zm_cc 120) 191 = .ok (.bipush 24, 2) := by decide +kernel
theorem zd_120_193 : decode (zm_cc 120) 193 = .ok (.iload_n 3, 1) := by decide +kernel
theorem zd_120_194 : decode (zm_cc 120) 194 = .ok (.imul, 1) := by decide +kernel
theorem zd_120_195 : decode (zm_cc 120) 195 = .ok (.iload 4, 2) := by decide +kernel
theorem zd_120_197 : decode (zm_cc 120) 197 = .ok (.iadd, 1) := by decide +kernel
theorem zd_120_198 : decode (zm_cc 120) 198 = .ok (.istore 5, 2) := by decide +kernel
theorem zd_120_200 : decode (zm_cc 120) 200 = .ok (.aload_n 0, 1) := by decide +kernel
theorem zd_120_201 : decode (zm_cc 120) 201 = .ok (.getfield 43, 3) := by decide +kernel
theorem zd_120_204 : decode (zm_cc 120) 204 = .ok (.iload 5, 2) := by decide +kernel
theorem zd_120_206 : decode (zm_cc 120) 206 = .ok (.iaload, 1) := by decide +kernel
theorem zd_120_207 : decode (zm_cc 120) 207 = .ok (.bipush 10, 2) := by decide +kernel
theorem zd_120_209 : decode (zm_cc 120) 209 = .ok (.if_icmp .eq 15, 3) := by decide +kernel
theorem zd_120_212 : decode (zm_cc 120) 212 = .ok (.aload_n 0, 1) := by decide +kernel
theorem zd_120_213 : decode (zm_cc 120) 213 = .ok (.getfield 43, 3) := by decide +kernel
theorem zd_120_216 : decode (zm_cc 120) 216 = .ok (.iload 5, 2) := by decide +kernel
theorem zd_120_218 : decode (zm_cc 120) 218 = .ok (.iaload, 1) := by decide +kernel
theorem zd_120_219 : decode (zm_cc 120) 219 = .ok (.bipush 11, 2) := by decide +kernel
theorem zd_120_221 : decode (zm_cc 120) 221 = .ok (.if_icmp .ne 24, 3) := by decide +kernel
theorem zd_120_224 : decode (zm_cc 120) 224 = .ok (.aload_n 0, 1) := by decide +kernel
theorem zd_120_225 : decode (zm_cc 120) 225 = .ok (.getfield 46, 3) := by decide +kernel
theorem zd_120_228 : decode (zm_cc 120) 228 = .ok (.iload 5, 2) := by decide +kernel
theorem zd_120_230 : decode (zm_cc 120) 230 = .ok (.iaload, 1) := by decide +kernel
theorem zd_120_231 : decode (zm_cc 120) 231 = .ok (.iconst 4, 1) := by decide +kernel
theorem zd_120_232 : decode (zm_cc 120) 232 = .ok (.iload_n 1, 1) := by decide +kernel
theorem zd_120_233 : decode (zm_cc 120) 233 = .ok (.iadd, 1) := by decide +kernel
theorem zd_120_234 : decode (zm_cc 120) 234 = .ok (.if_icmp .ne 11, 3) := by decide +kernel
theorem zd_120_237 : decode (zm_cc 120) 237 = .ok (.aload_n 0, 1) := by decide +kernel
theorem zd_120_238 : decode (zm_cc 120) 238 = .ok (.getfield 46, 3) := by decide +kernel
theorem zd_120_241 : decode (zm_cc 120) 241 = .ok (.iload 5, 2) := by decide +kernel
theorem zd_120_243 : decode (zm_cc 120) 243 = .ok (.iload_n 2, 1) := by decide +kernel
theorem zd_120_244 : decode (zm_cc 120) 244 = .ok (.iastore, 1) := by decide +kernel
theorem zd_120_245 : decode (zm_cc 120) 245 = .ok (.iinc 4 1, 3) := by decide +kernel
theorem zd_120_248 : decode (zm_cc 120) 248 = .ok (.goto (-68), 3) := by decide +kernel
theorem zd_120_251 : decode (zm_cc 120) 251 = .ok (.iinc 3 1, 3) := by decide +kernel
theorem zd_120_254 : decode (zm_cc 120) 254 = .ok (.goto (-85), 3) := by decide +kernel
theorem zd_120_257 : decode (zm_cc 120) 257 = .ok (.iinc 1 1, 3) := by decide +kernel
theorem zd_120_260 : decode (zm_cc 120) 260 = .ok (.goto (-258), 3) := by decide +kernel
theorem zd_120_263 : decode (zm_cc 120) 263 = .ok (.return_, 1) := by decide +kernel
theorem zd_121_0 : decode (zm_cc 121) 0 = .ok (.iconst 0, 1) := by decide +kernel
theorem zd_121_1 : decode (zm_cc 121) 1 = .ok (.istore_n 1, 1) := by decide +kernel
theorem zd_121_2 : decode (zm_cc 121) 2 = .ok (.iconst 0, 1) := by decide +kernel
theorem zd_121_3 : decode (zm_cc 121) 3 = .ok (.istore_n 2, 1) := by decide +kernel
theorem zd_121_4 : decode (zm_cc 121) 4 = .ok (.iload_n 2, 1) := by decide +kernel
theorem zd_121_5 : decode (zm_cc 121) 5 = .ok (.aload_n 0, 1) := by decide +kernel
theorem zd_121_6 : decode (zm_cc 121) 6 = .ok (.getfield 225, 3) := by decide +kernel
theorem zd_121_9 : decode (zm_cc 121) 9 = .ok (.if_icmp .ge 18, 3) := by decide +kernel
theorem zd_121_12 : decode (zm_cc 121) 12 = .ok (.iload_n 1, 1) := by decide +kernel
theorem zd_121_13 : decode (zm_cc 121) 13 = .ok (.aload_n 0, 1) := by decide +kernel
theorem zd_121_14 : decode (zm_cc 121) 14 = .ok (.getfield 37, 3) := by decide +kernel
theorem zd_121_17 : decode (zm_cc 121) 17 = .ok (.iload_n 2, 1) := by decide +kernel
theorem zd_121_18 : decode (zm_cc 121) 18 = .ok (.iaload, 1) := by decide +kernel
theorem zd_121_19 : decode (zm_cc 121) 19 = .ok (.iadd, 1) := by decide +kernel
theorem zd_121_20 : decode (zm_cc 121) 20 = .ok (.istore_n 1, 1) := by decide +kernel
theorem zd_121_21 : decode (zm_cc 121) 21 = .ok (.iinc 2 1, 3) := by decide +kernel
theorem zd_121_24 : decode (zm_cc 121) 24 = .ok (.goto (-20), 3) := by decide +kernel
theorem zd_121_27 : decode (zm_cc 121) 27 = .ok (.iload_n 1, 1) := by decide +kernel
theorem zd_121_28 : decode (zm_cc 121) 28 = .ok (.ireturn, 1) := by decide +kernel
theorem zd_122_0 : decode (zm_cc 122) 0 = .ok (.aload_n 0, 1) := by decide +kernel
theorem zd_122_1 : decode (zm_cc 122) 1 = .ok (.getfield 109, 3) := by decide +kernel
theorem zd_122_4 : decode (zm_cc 122) 4 = .ok (.ireturn, 1) := by decide +kernel
theorem zd_123_0 : decode (zm_cc 123) 0 = .ok (.aload_n 0, 1) := by decide +kernel
theorem zd_123_1 : decode (zm_cc 123) 1 = .ok (.iconst 0, 1) := by decide +kernel
theorem zd_123_2 : decode (zm_cc 123) 2 = .ok (.putfield 1, 3) := by decide +kernel
theorem zd_123_5 : decode (zm_cc 123) 5 = .ok (.aload_n 0, 1) := by decide +kernel
theorem zd_123_6 : decode (zm_cc 123) 6 = .ok (.getfield 338, 3) := by decide +kernel
theorem zd_123_9 : decode (zm_cc 123) 9 = .ok (.ireturn, 1) := by decide +kernel
theorem zd_124_0 : decode (zm_cc 124) 0 = .ok (.aload_n 0, 1) := by decide +kernel
theorem zd_124_1 : decode (zm_cc 124) 1 = .ok (.getfield 110, 3) := by decide +kernel
theorem zd_124_4 : decode (zm_cc 124) 4 = .ok (.ifCond .ne 6, 3) := by decide +kernel
theorem zd_124_7 : decode (zm_cc 124) 7 = .ok (.bipush (-101), 2) := by decide +kernel
theorem zd_124_9 : decode (zm_cc 124) 9 = .ok (.ireturn, 1) := by decide +kernel
theorem zd_124_10 : decode (zm_cc 124) 10 = .ok (.iload_n 1, 1) := by decide +kernel
theorem zd_124_11 : decode (zm_cc 124) 11 = .ok (.tableswitch 73 0 4 #[33, 41, 49, 57, 65], 33) := by decide +kernel
theorem zd_124_44 : decode (zm_cc 124) 44 = .ok (.aload_n 0, 1) := by decide +kernel
theorem zd_124_45 : decode (zm_cc 124) 45 = .ok (.getfield 16, 3) := by decide +kernel
theorem zd_124_48 : decode (zm_cc 124) 48 = .ok (.getfield 135, 3) := by decide +kernel
theorem zd_124_51 : decode (zm_cc 124) 51 = .ok (.ireturn, 1) := by decide +kernel
theorem zd_124_52 : decode (zm_cc 124) 52 = .ok (.aload_n 0, 1) := by decide +kernel
theorem zd_124_53 : decode (zm_cc 124) 53 = .ok (.getfield 16, 3) := by decide +kernel
theorem zd_124_56 : decode (zm_cc 124) 56 = .ok (.getfield 138, 3) := by decide +kernel
theorem zd_124_59 : decode (zm_cc 124) 59 = .ok (.ireturn, 1) := by decide +kernel
theorem zd_124_60 : decode (zm_cc 124) 60 = .ok (.aload_n 0, 1) := by decide +kernel
theorem zd_124_61 : decode (zm_cc 124) 61 = .ok (.getfield 16, 3) := by decide +kernel
theorem zd_124_64 : decode (zm_cc 124) 64 = .ok (.getfield 141, 3) := by decide +kernel
theorem zd_124_67 : decode (zm_cc 124) 67 = .ok (.ireturn, 1) := by decide +kernel
theorem zd_124_68 : decode (zm_cc 124) 68 = .ok (.aload_n 0, 1) := by decide +kernel
theorem zd_124_69 : decode (zm_cc 124) 69 = .ok (.getfield 16, 3) := by decide +kernel
theorem zd_124_72 : decode (zm_cc 124) 72 = .ok (.getfield 144, 3) := by decide +kernel
theorem zd_124_75 : decode (zm_cc 124) 75 = .ok (.ireturn, 1) := by decide +kernel
theorem zd_124_76 : decode (zm_cc 124) 76 = .ok (.aload_n 0, 1) := by decide +kernel
theorem zd_124_77 : decode (zm_cc 124) 77 = .ok (.getfield 16, 3) := by decide +kernel
theorem zd_124_80 : decode (zm_cc 124) 80 = .ok (.getfield 129, 3) := by decide +kernel
theorem zd_124_83 : decode (zm_cc 124) 83 = .ok (.ireturn, 1) := by decide +kernel
theorem zd_124_84 : decode (zm_cc 124) 84 = .ok (.bipush (-102), 2) := by decide +kernel
theorem zd_124_86 : decode (zm_cc 124) 86 = .ok (.ireturn, 1) := by decide +kernel
theorem zd_125_0 : decode (zm_cc 125) 0 = .ok (.aload_n 0, 1) := by decide +kernel
theorem zd_125_1 : decode (zm_cc 125) 1 = .ok (.iconst 0, 1) := by decide +kernel
theorem zd_125_2 : decode (zm_cc 125) 2 = .ok (.putfield 1, 3) := by decide +kernel
theorem zd_125_5 : decode (zm_cc 125) 5 = .ok (.aload_n 0, 1) := by decide +kernel
theorem zd_125_6 : decode (zm_cc 125) 6 = .ok (.getfield 335, 3) := by decide +kernel
theorem zd_125_9 : decode (zm_cc 125) 9 = .ok (.ifCond .ne 6, 3) := by decide +kernel
theorem zd_125_12 : decode (zm_cc 125) 12 = .ok (.bipush (-101), 2) := by decide +kernel
theorem zd_125_14 : decode (zm_cc 125) 14 = .ok (.ireturn, 1) := by decide +kernel
theorem zd_125_15 : decode (zm_cc 125) 15 = .ok (.iload_n 1, 1) := by decide +kernel
theorem zd_125_16 : decode (zm_cc 125) 16 = .ok (.tableswitch 61 0 4 #[36, 41, 46, 51, 56], 36) := by decide +kernel
theorem zd_125_52 : decode (zm_cc 125) 52 = .ok (.aload_n 0, 1) := by decide +kernel
theorem zd_125_53 : decode (zm_cc 125) 53 = .ok (.getfield 215, 3) := by decide +kernel
theorem zd_125_56 : decode (zm_cc 125) 56 = .ok (.ireturn, 1) := by decide +kernel
theorem zd_125_57 : decode (zm_cc 125) 57 = .ok (.aload_n 0, 1) := by decide +kernel
theorem zd_125_58 : decode (zm_cc 125) 58 = .ok (.getfield 222, 3) := by decide +kernel
theorem zd_125_61 : decode (zm_cc 125) 61 = .ok (.ireturn, 1) := by decide +kernel
theorem zd_125_62 : decode (zm_cc 125) 62 = .ok (.aload_n 0, 1) := by decide +kernel
theorem zd_125_63 : decode (zm_cc 125) 63 = .ok (.getfield 225, 3) := by decide +kernel
theorem zd_125_66 : decode (zm_cc 125) 66 = .ok (.ireturn, 1) := by decide +kernel
theorem zd_125_67 : decode (zm_cc 125) 67 = .ok (.aload_n 0, 1) := by decide +kernel
theorem zd_125_68 : decode (zm_cc 125) 68 = .ok (.getfield 303, 3) := by decide +kernel
theorem zd_125_71 : decode (zm_cc 125) 71 = .ok (.ireturn, 1) := by decide +kernel
theorem zd_125_72 : decode (zm_cc 125) 72 = .ok (.aload_n 0, 1) := by decide +kernel
theorem zd_125_73 : decode (zm_cc 125) 73 = .ok (.invokevirtual 341, 3) := by decide +kernel
theorem zd_125_76 : decode (zm_cc 125) 76 = .ok (.ireturn, 1) := by decide +kernel
theorem zd_125_77 : decode (zm_cc 125) 77 = .ok (.bipush (-102), 2) := by decide +kernel
theorem zd_125_79 : decode (zm_cc 125) 79 = .ok (.ireturn, 1) := by decide +kernel
theorem zd_126_0 : decode (zm_cc 126) 0 = .ok (.aload_n 0, 1) := by decide +kernel
theorem zd_126_1 : decode (zm_cc 126) 1 = .ok (.getfield 110, 3) := by decide +kernel
theorem zd_126_4 : decode (zm_cc 126) 4 = .ok (.ifCond .ne 6, 3) := by decide +kernel
theorem zd_126_7 : decode (zm_cc 126) 7 = .ok (.bipush (-101), 2) := by decide +kernel
theorem zd_126_9 : decode (zm_cc 126) 9 = .ok (.ireturn, 1) := by decide +kernel
theorem zd_126_10 : decode (zm_cc 126) 10 = .ok (.aload_n 0, 1) := by decide +kernel
theorem zd_126_11 : decode (zm_cc 126) 11 = .ok (.getfield 16, 3) := by decide +kernel
theorem zd_126_14 : decode (zm_cc 126) 14 = .ok (.iload_n 1, 1) := by decide +kernel
theorem zd_126_15 : decode (zm_cc 126) 15 = .ok (.iload_n 2, 1) := by decide +kernel
theorem zd_126_16 : decode (zm_cc 126) 16 = .ok (.invokevirtual 147, 3) := by decide +kernel
theorem zd_126_19 : decode (zm_cc 126) 19 = .ok (.istore 4, 2) := by decide +kernel
theorem zd_126_21 : decode (zm_cc 126) 21 = .ok (.iload 4, 2) := by decide +kernel
theorem zd_126_23 : decode (zm_cc 126) 23 = .ok (.bipush 96, 2) := by decide +kernel
theorem zd_126_25 : decode (zm_cc 126) 25 = .ok (.if_icmp .ne 6, 3) := by decide +kernel
theorem zd_126_28 : decode (zm_cc 126) 28 = .ok (.bipush (-102), 2) := by decide +kernel
theorem zd_126_30 : decode (zm_cc 126) 30 = .ok (.ireturn, 1) := by decide +kernel
theorem zd_126_31 : decode (zm_cc 126) 31 = .ok (.iload_n 3, 1) := by decide +kernel
theorem zd_126_32 : decode (zm_cc 126) 32 = .ok (.tableswitch 106 0 5 #[40, 51, 62, 73, 84, 95], 40) := by decide +kernel
theorem zd_126_72 : decode (zm_cc 126) 72 = .ok (.aload_n 0, 1) := by decide +kernel
theorem zd_126_73 : decode (zm_cc 126) 73 = .ok (.getfield 16, 3) := by decide +kernel
theorem zd_126_76 : decode (zm_cc 126) 76 = .ok (.getfield 151, 3) := by decide +kernel
theorem zd_126_79 : decode (zm_cc 126) 79 = .ok (.iload 4, 2) := by decide +kernel
theorem zd_126_81 : decode (zm_cc 126) 81 = .ok (.iaload, 1) := by decide +kernel
theorem zd_126_82 : decode (zm_cc 126) 82 = .ok (.ireturn, 1) := by decide +kernel
theorem zd_126_83 : decode (zm_cc 126) 83 = .ok (.aload_n 0, 1) := by decide +kernel
theorem zd_126_84 : decode (zm_cc 126) 84 = .ok (.getfield 16, 3) := by decide +kernel
theorem zd_126_87 : decode (zm_cc 126) 87 = .ok (.getfield 154, 3) := by decide +kernel
theorem zd_126_90 : decode (zm_cc 126) 90 = .ok (.iload 4, 2) := by decide +kernel
theorem zd_126_92 : decode (zm_cc 126) 92 = .ok (.iaload, 1) := by decide +kernel
theorem zd_126_93 : decode (zm_cc 126) 93 = .ok (.ireturn, 1) := by decide +kernel
theorem zd_126_94 : decode (zm_cc 126) 94 = .ok (.aload_n 0, 1) := by decide +kernel
theorem zd_126_95 : decode (zm_cc 126) 95 = .ok (.getfield 16, 3) := by decide +kernel
theorem zd_126_98 : decode (zm_cc 126) 98 = .ok (.getfield 157, 3) := by decide +kernel
theorem zd_126_101 : decode (zm_cc 126) 101 = .ok (.iload 4, 2) := by decide +kernel
theorem zd_126_103 : decode (zm_cc 126) 103 = .ok (.iaload, 1) := by decide +kernel
theorem zd_126_104 : decode (zm_cc 126) 104 = .ok (.ireturn, 1) := by decide +kernel
theorem zd_126_105 : decode (zm_cc 126) 105 = .ok (.aload_n 0, 1) := by decide +kernel
theorem zd_126_106 : decode (zm_cc 126) 106 = .ok (.getfield 16, 3) := by decide +kernel
theorem zd_126_109 : decode (zm_cc 126) 109 = .ok (.getfield 160, 3) := by decide +kernel
theorem zd_126_112 : decode (zm_cc 126) 112 = .ok (.iload 4, 2) := by decide +kernel
theorem zd_126_114 : decode (zm_cc 126) 114 = .ok (.iaload, 1) := by decide +kernel
theorem zd_126_115 : decode (zm_cc 126) 115 = .ok (.ireturn, 1) := by decide +kernel
theorem zd_126_116 : decode (zm_cc 126) 116 = .ok (.aload_n 0, 1) := by decide +kernel
theorem zd_126_117 : decode (zm_cc 126) 117 = .ok (.getfield 16, 3) := by decide +kernel
theorem zd_126_120 : decode (zm_cc 126) 120 = .ok (.getfield 163, 3) := by decide +kernel
theorem zd_126_123 : decode (zm_cc 126) 123 = .ok (.iload 4, 2) := by decide +kernel
theorem zd_126_125 : decode (zm_cc 126) 125 = .ok (.iaload, 1) := by decide +kernel
theorem zd_126_126 : decode (zm_cc 126) 126 = .ok (.ireturn, 1) := by decide +kernel
theorem zd_126_127 : decode (zm_cc 126) 127 = .ok (.aload_n 0, 1) := by decide +kernel
theorem zd_126_128 : decode (zm_cc 126) 128 = .ok (.getfield 16, 3) := by decide +kernel
theorem zd_126_131 : decode (zm_cc 126) 131 = .ok (.getfield 166, 3) := by decide +kernel
theorem zd_126_134 : decode (zm_cc 126) 134 = .ok (.iload 4, 2) := by decide +kernel
theorem zd_126_136 : decode (zm_cc 126) 136 = .ok (.iaload, 1) := by decide +kernel
theorem zd_126_137 : decode (zm_cc 126) 137 = .ok (.ireturn, 1) := by decide +kernel
theorem zd_126_138 : decode (zm_cc 126) 138 = .ok (.bipush (-102), 2) := by decide +kernel
theorem zd_126_140 : decode (zm_cc 126) 140 = .ok (.ireturn, 1) := by decide +kernel
theorem zd_127_0 : decode (zm_cc 127) 0 = .ok (.aload_n 0, 1) := by decide +kernel
theorem zd_127_1 : decode (zm_cc 127) 1 = .ok (.iconst 0, 1) := by decide +kernel
theorem zd_127_2 : decode (zm_cc 127) 2 = .ok (.putfield 1, 3) := by decide +kernel
theorem zd_127_5 : decode (zm_cc 127) 5 = .ok (.aload_n 0, 1) := by decide +kernel
theorem zd_127_6 : decode (zm_cc 127) 6 = .ok (.getfield 335, 3) := by decide +kernel
theorem zd_127_9 : decode (zm_cc 127) 9 = .ok (.ifCond .ne 6, 3) := by decide +kernel
theorem zd_127_12 : decode (zm_cc 127) 12 = .ok (.bipush (-101), 2) := by decide +kernel
theorem zd_127_14 : decode (zm_cc 127) 14 = .ok (.ireturn, 1) := by decide +kernel
theorem zd_127_15 : decode (zm_cc 127) 15 = .ok (.aload_n 0, 1) := by decide +kernel
theorem zd_127_16 : decode (zm_cc 127) 16 = .ok (.iload_n 1, 1) := by decide +kernel
theorem zd_127_17 : decode (zm_cc 127) 17 = .ok (.iload_n 2, 1) := by decide +kernel
theorem zd_127_18 : decode (zm_cc 127) 18 = .ok (.invokevirtual 344, 3) := by decide +kernel
theorem zd_127_21 : decode (zm_cc 127) 21 = .ok (.ifCond .ne 6, 3) := by decide +kernel
theorem zd_127_24 : decode (zm_cc 127) 24 = .ok (.bipush (-102), 2) := by decide +kernel
theorem zd_127_26 : decode (zm_cc 127) 26 = .ok (.ireturn, 1) := by decide +kernel
theorem zd_127_27 : decode (zm_cc 127) 27 = .ok (.bipush 24, 2) := by decide +kernel
theorem zd_127_29 : decode (zm_cc 127) 29 = .ok (.iload_n 1, 1) := by decide +kernel
theorem zd_127_30 : decode (zm_cc 127) 30 = .ok (.imul, 1) := by decide +kernel
theorem zd_127_31 : decode (zm_cc 127) 31 = .ok (.iload_n 2, 1) := by decide +kernel
theorem zd_127_32 : decode (zm_cc 127) 32 = .ok (.iadd, 1) := by decide +kernel
theorem zd_127_33 : decode (zm_cc 127) 33 = .ok (.istore 4, 2) := by decide +kernel
theorem zd_127_35 : decode (zm_cc 127) 35 = .ok (.aload_n 0, 1) := by decide +kernel
theorem zd_127_36 : decode (zm_cc 127) 36 = .ok (.getfield 43, 3) := by decide +kernel
theorem zd_127_39 : decode (zm_cc 127) 39 = .ok (.iload 4, 2) := by decide +kernel
theorem zd_127_41 : decode (zm_cc 127) 41 = .ok (.iaload, 1) := by decide +kernel
theorem zd_127_42 : decode (zm_cc 127) 42 = .ok (.ifCond .eq 46, 3) := by decide +kernel
theorem zd_127_45 : decode (zm_cc 127) 45 = .ok (.aload_n 0, 1) := by decide +kernel
theorem zd_127_46 : decode (zm_cc 127) 46 = .ok (.getfield 43, 3) := by decide +kernel
theorem zd_127_49 : decode (zm_cc 127) 49 = .ok (.iload 4, 2) := by decide +kernel
theorem zd_127_51 : decode (zm_cc 127) 51 = .ok (.iaload, 1) := by decide +kernel
theorem zd_127_52 : decode (zm_cc 127) 52 = .ok (.iconst 1, 1) := by decide +kernel
theorem zd_127_53 : decode (zm_cc 127) 53 = .ok (.if_icmp .eq 35, 3) := by decide +kernel
theorem zd_127_56 : decode (zm_cc 127) 56 = .ok (.aload_n 0, 1) := by decide +kernel
theorem zd_127_57 : decode (zm_cc 127) 57 = .ok (.getfield 43, 3) := by decide +kernel
theorem zd_127_60 : decode (zm_cc 127) 60 = .ok (.iload 4, 2) := by decide +kernel
theorem zd_127_62 : decode (zm_cc 127) 62 = .ok (.iaload, 1) := by decide +kernel
theorem zd_127_63 : decode (zm_cc 127) 63 = .ok (.iconst 3, 1) := by decide +kernel
theorem zd_127_64 : decode (zm_cc 127) 64 = .ok (.iconst 4, 1) := by decide +kernel
theorem zd_127_65 : decode (zm_cc 127) 65 = .ok (.invokestatic 128, 3) := by decide +kernel
theorem zd_127_68 : decode (zm_cc 127) 68 = .ok (.ifCond .ne 20, 3) := by decide +kernel
theorem zd_127_71 : decode (zm_cc 127) 71 = .ok (.aload_n 0, 1) := by decide +kernel
theorem zd_127_72 : decode (zm_cc 127) 72 = .ok (.getfield 43, 3) := by decide +kernel
theorem zd_127_75 : decode (zm_cc 127) 75 = .ok (.iload 4, 2) := by decide +kernel
theorem zd_127_77 : decode (zm_cc 127) 77 = .ok (.iaload, 1) := by decide +kernel
theorem zd_127_78 : decode (zm_cc 127) 78 = .ok (.bipush 7, 2) := by decide +kernel
theorem zd_127_80 : decode (zm_cc 127) 80 = .ok (.bipush 11, 2) := by decide +kernel
theorem zd_127_82 : decode (zm_cc 127) 82 = .ok (.invokestatic 128, 3) := by decide +kernel
theorem zd_127_85 : decode (zm_cc 127) 85 = .ok (.ifCond .eq 7, 3) := by decide +kernel
theorem zd_127_88 : decode (zm_cc 127) 88 = .ok (.iconst 1, 1) := by decide +kernel
theorem zd_127_89 : decode (zm_cc 127) 89 = .ok (.goto 4, 3) := by decide +kernel
theorem zd_127_92 : decode (zm_cc 127) 92 = .ok (.iconst 0, 1) := by decide +kernel
theorem zd_127_93 : decode (zm_cc 127) 93 = .ok (.istore 5, 2) := by decide +kernel
theorem zd_127_95 : decode (zm_cc 127) 95 = .ok (.iload_n 3, 1) := by decide +kernel
theorem zd_127_96 : decode (zm_cc 127) 96 = .ok (.tableswitch 124 0 5 #[40, 48, 65, 73, 108, 116], 40) := by decide +kernel
theorem zd_127_136 : decode (zm_cc 127) 136 = .ok (.aload_n 0, 1) := by decide +kernel
theorem zd_127_137 : decode (zm_cc 127) 137 = .ok (.getfield 43, 3) := by decide +kernel
theorem zd_127_140 : decode (zm_cc 127) 140 = .ok (.iload 4, 2) := by decide +kernel
theorem zd_127_142 : decode (zm_cc 127) 142 = .ok (.iaload, 1) := by decide +kernel
theorem zd_127_143 : decode (zm_cc 127) 143 = .ok (.ireturn, 1) := by decide +kernel
theorem zd_127_144 : decode (zm_cc 127) 144 = .ok (.iload 5, 2) := by decide +kernel
theorem zd_127_146 : decode (zm_cc 127) 146 = .ok (.ifCond .eq 13, 3) := by decide +kernel
theorem zd_127_149 : decode (zm_cc 127) 149 = .ok (.aload_n 0, 1) := by decide +kernel
theorem zd_127_150 : decode (zm_cc 127) 150 = .ok (.getfield 46, 3) := by decide +kernel
theorem zd_127_153 : decode (zm_cc 127) 153 = .ok (.iload 4, 2) := by decide +kernel
theorem zd_127_155 : decode (zm_cc 127) 155 = .ok (.iaload, 1) := by decide +kernel
theorem zd_127_156 : decode (zm_cc 127) 156 = .ok (.goto 4, 3) := by decide +kernel
theorem zd_127_159 : decode (zm_cc 127) 159 = .ok (.iconst (-1), 1) := by decide +kernel
theorem zd_127_160 : decode (zm_cc 127) 160 = .ok (.ireturn, 1) := by decide +kernel
theorem zd_127_161 : decode (zm_cc 127) 161 = .ok (.aload_n 0, 1) := by decide +kernel
theorem zd_127_162 : decode (zm_cc 127) 162 = .ok (.getfield 49, 3) := by decide +kernel
theorem zd_127_165 : decode (zm_cc 127) 165 = .ok (.iload 4, 2) := by decide +kernel
theorem zd_127_167 : decode (zm_cc 127) 167 = .ok (.iaload, 1) := by decide +kernel
theorem zd_127_168 : decode (zm_cc 127) 168 = .ok (.ireturn, 1) := by decide +kernel
theorem zd_127_169 : decode (zm_cc 127) 169 = .ok (.aload_n 0, 1) := by decide +kernel
theorem zd_127_170 : decode (zm_cc 127) 170 = .ok (.getfield 43, 3) := by decide +kernel
theorem zd_127_173 : decode (zm_cc 127) 173 = .ok (.iload 4, 2) := by decide +kernel
theorem zd_127_175 : decode (zm_cc 127) 175 = .ok (.iaload, 1) := by decide +kernel
theorem zd_127_176 : decode (zm_cc 127) 176 = .ok (.iconst 5, 1) := by decide +kernel
theorem zd_127_177 : decode (zm_cc 127) 177 = .ok (.if_icmp .eq 15, 3) := by decide +kernel
theorem zd_127_180 : decode (zm_cc 127) 180 = .ok (.aload_n 0, 1) := by decide +kernel
theorem zd_127_181 : decode (zm_cc 127) 181 = .ok (.getfield 43, 3) := by decide +kernel
theorem zd_127_184 : decode (zm_cc 127) 184 = .ok (.iload 4, 2) := by decide +kernel
theorem zd_127_186 : decode (zm_cc 127) 186 = .ok (.iaload, 1) := by decide +kernel
theorem zd_127_187 : decode (zm_cc 127) 187 = .ok (.bipush 6, 2) := by decide +kernel
theorem zd_127_189 : decode (zm_cc 127) 189 = .ok (.if_icmp .ne 13, 3) := by decide +kernel
theorem zd_127_192 : decode (zm_cc 127) 192 = .ok (.aload_n 0, 1) := by decide +kernel
theorem zd_127_193 : decode (zm_cc 127) 193 = .ok (.getfield 52, 3) := by decide +kernel
theorem zd_127_196 : decode (zm_cc 127) 196 = .ok (.iload 4, 2) := by decide +kernel
theorem zd_127_198 : decode (zm_cc 127) 198 = .ok (.iaload, 1) := by decide +kernel
theorem zd_127_199 : decode (zm_cc 127) 199 = .ok (.goto 4, 3) := by decide +kernel
theorem zd_127_202 : decode (zm_cc 127) 202 = .ok (.iconst (-1), 1) := by decide +kernel
theorem zd_127_203 : decode (zm_cc 127) 203 = .ok (.ireturn, 1) := by decide +kernel
theorem zd_127_204 : decode (zm_cc 127) 204 = .ok (.aload_n 0, 1) := by decide +kernel
theorem zd_127_205 : decode (zm_cc 127) 205 = .ok (.getfield 55, 3) := by decide +kernel
theorem zd_127_208 : decode (zm_cc 127) 208 = .ok (.iload 4, 2) := by decide +kernel
theorem zd_127_210 : decode (zm_cc 127) 210 = .ok (.iaload, 1) := by decide +kernel
theorem zd_127_211 : decode (zm_cc 127) 211 = .ok (.ireturn, 1) := by decide +kernel
theorem zd_127_212 : decode (zm_cc 127) 212 = .ok (.aload_n 0, 1) := by decide +kernel
theorem zd_127_213 : decode (zm_cc 127) 213 = .ok (.getfield 58, 3) := by decide +kernel
theorem zd_127_216 : decode (zm_cc 127) 216 = .ok (.iload 4, 2) := by decide +kernel
theorem zd_127_218 : decode (zm_cc 127) 218 = .ok (.iaload, 1) := by decide +kernel
theorem zd_127_219 : decode (zm_cc 127) 219 = .ok (.ireturn, 1) := by decide +kernel
theorem zd_127_220 : decode (zm_cc 127) 220 = .ok (.bipush (-102), 2) := by decide +kernel
theorem zd_127_222 : decode (zm_cc 127) 222 = .ok (.ireturn, 1) := by decide +kernel
theorem zd_128_0 : decode (zm_cc 128) 0 = .ok (.iload_n 1, 1) := by decide +kernel
theorem zd_128_1 : decode (zm_cc 128) 1 = .ok (.iconst 0, 1) := by decide +kernel
theorem zd_128_2 : decode (zm_cc 128) 2 = .ok (.aload_n 0, 1) := by decide +kernel
theorem zd_128_3 : decode (zm_cc 128) 3 = .ok (.getfield 225, 3) := by decide +kernel
theorem zd_128_6 : decode (zm_cc 128) 6 = .ok (.iconst 1, 1) := by decide +kernel
theorem zd_128_7 : decode (zm_cc 128) 7 = .ok (.isub, 1) := by decide +kernel
theorem zd_128_8 : decode (zm_cc 128) 8 = .ok (.invokestatic 128, 3) := by decide +kernel
theorem zd_128_11 : decode (zm_cc 128) 11 = .ok (.ifCond .eq 23, 3) := by decide +kernel
theorem zd_128_14 : decode (zm_cc 128) 14 = .ok (.iload_n 2, 1) := by decide +kernel
theorem zd_128_15 : decode (zm_cc 128) 15 = .ok (.iconst 0, 1) := by decide +kernel
theorem zd_128_16 : decode (zm_cc 128) 16 = .ok (.aload_n 0, 1) := by decide +kernel
theorem zd_128_17 : decode (zm_cc 128) 17 = .ok (.getfield 37, 3) := by decide +kernel
theorem zd_128_20 : decode (zm_cc 128) 20 = .ok (.iload_n 1, 1) := by decide +kernel
theorem zd_128_21 : decode (zm_cc 128) 21 = .ok (.iaload, 1) := by decide +kernel
theorem zd_128_22 : decode (zm_cc 128) 22 = .ok (.iconst 1, 1) := by decide +kernel
theorem zd_128_23 : decode (zm_cc 128) 23 = .ok (.isub, 1) := by decide +kernel
theorem zd_128_24 : decode (zm_cc 128) 24 = .ok (.invokestatic 128, 3) := by decide +kernel
theorem zd_128_27 : decode (zm_cc 128) 27 = .ok (.ifCond .eq 7, 3) := by decide +kernel
theorem zd_128_30 : decode (zm_cc 128) 30 = .ok (.iconst 1, 1) := by decide +kernel
theorem zd_128_31 : decode (zm_cc 128) 31 = .ok (.goto 4, 3) := by decide +kernel
theorem zd_128_34 : decode (zm_cc 128) 34 = .ok (.iconst 0, 1) := by decide +kernel
theorem zd_128_35 : decode (zm_cc 128) 35 = .ok (.ireturn, 1) := by decide +kernel
theorem zd_129_0 : decode (zm_cc 129) 0 = .ok (.aload_n 0, 1) := by decide +kernel
theorem zd_129_1 : decode (zm_cc 129) 1 = .ok (.getfield 110, 3) := by decide +kernel
theorem zd_129_4 : decode (zm_cc 129) 4 = .ok (.ifCond .ne 6, 3) := by decide +kernel
theorem zd_129_7 : decode (zm_cc 129) 7 = .ok (.bipush (-101), 2) := by decide +kernel
theorem zd_129_9 : decode (zm_cc 129) 9 = .ok (.ireturn, 1) := by decide +kernel
theorem zd_129_10 : decode (zm_cc 129) 10 = .ok (.aload_n 0, 1) := by decide +kernel
theorem zd_129_11 : decode (zm_cc 129) 11 = .ok (.iconst (-1), 1) := by decide +kernel
theorem zd_129_12 : decode (zm_cc 129) 12 = .ok (.putfield 80, 3) := by decide +kernel
theorem zd_129_15 : decode (zm_cc 129) 15 = .ok (.aload_n 0, 1) := by decide +kernel
theorem zd_129_16 : decode (zm_cc 129) 16 = .ok (.getfield 114, 3) := by decide +kernel
theorem zd_129_19 : decode (zm_cc 129) 19 = .ok (.ifCond .ne 38, 3) := by decide +kernel
theorem zd_129_22 : decode (zm_cc 129) 22 = .ok (.aload_n 0, 1) := by decide +kernel
theorem zd_129_23 : decode (zm_cc 129) 23 = .ok (.iconst 1, 1) := by decide +kernel
theorem zd_129_24 : decode (zm_cc 129) 24 = .ok (.putfield 114, 3) := by decide +kernel
theorem zd_129_27 : decode (zm_cc 129) 27 = .ok (.aload_n 0, 1) := by decide +kernel
theorem zd_129_28 : decode (zm_cc 129) 28 = .ok (.aload_n 0, 1) := by decide +kernel
theorem zd_129_29 : decode (zm_cc 129) 29 = .ok (.getfield 43, 3) := by decide +kernel
theorem zd_129_32 : decode (zm_cc 129) 32 = .ok (.iconst (-1), 1) := by decide +kernel
theorem zd_129_33 : decode (zm_cc 129) 33 = .ok (.invokevirtual 169, 3) := by decide +kernel
theorem zd_129_36 : decode (zm_cc 129) 36 = .ok (.putfield 117, 3) := by decide +kernel
theorem zd_129_39 : decode (zm_cc 129) 39 = .ok (.aload_n 0, 1) := by decide +kernel
theorem zd_129_40 : decode (zm_cc 129) 40 = .ok (.getfield 117, 3) := by decide +kernel
theorem zd_129_43 : decode (zm_cc 129) 43 = .ok (.ifCond .eq 14, 3) := by decide +kernel
theorem zd_129_46 : decode (zm_cc 129) 46 = .ok (.aload_n 0, 1) := by decide +kernel
theorem zd_129_47 : decode (zm_cc 129) 47 = .ok (.getfield 50, 3) := by decide +kernel
theorem zd_129_50 : decode (zm_cc 129) 50 = .ok (.aload_n 0, 1) := by decide +kernel
theorem zd_129_51 : decode (zm_cc 129) 51 = .ok (.getfield 43, 3) := by decide +kernel
theorem zd_129_54 : decode (zm_cc 129) 54 = .ok (.invokevirtual 173, 3) := by decide +kernel
theorem zd_129_57 : decode (zm_cc 129) 57 = .ok (.aload_n 0, 1) := by decide +kernel
theorem zd_129_58 : decode (zm_cc 129) 58 = .ok (.getfield 117, 3) := by decide +kernel
theorem zd_129_61 : decode (zm_cc 129) 61 = .ok (.ifCond .eq 13, 3) := by decide +kernel
theorem zd_129_64 : decode (zm_cc 129) 64 = .ok (.aload_n 0, 1) := by decide +kernel
theorem zd_129_65 : decode (zm_cc 129) 65 = .ok (.getfield 43, 3) := by decide +kernel
theorem zd_129_68 : decode (zm_cc 129) 68 = .ok (.getfield 177, 3) := by decide +kernel
theorem zd_129_71 : decode (zm_cc 129) 71 = .ok (.goto 5, 3) := by decide +kernel
theorem zd_129_74 : decode (zm_cc 129) 74 = .ok (.bipush (-103), 2) := by decide +kernel
theorem zd_129_76 : decode (zm_cc 129) 76 = .ok (.ireturn, 1) := by decide +kernel
theorem zd_130_0 : decode (zm_cc 130) 0 = .ok (.aload_n 0, 1) := by decide +kernel
theorem zd_130_1 : decode (zm_cc 130) 1 = .ok (.iconst 0, 1) := by decide +kernel
theorem zd_130_2 : decode (zm_cc 130) 2 = .ok (.putfield 33, 3) := by decide +kernel
theorem zd_130_5 : decode (zm_cc 130) 5 = .ok (.aload_n 0, 1) := by decide +kernel
theorem zd_130_6 : decode (zm_cc 130) 6 = .ok (.getfield 22, 3) := by decide +kernel
theorem zd_130_9 : decode (zm_cc 130) 9 = .ok (.iconst 0, 1) := by decide +kernel
theorem zd_130_10 : decode (zm_cc 130) 10 = .ok (.invokestatic 47, 3) := by decide +kernel
theorem zd_130_13 : decode (zm_cc 130) 13 = .ok (.aload_n 0, 1) := by decide +kernel
theorem zd_130_14 : decode (zm_cc 130) 14 = .ok (.getfield 29, 3) := by decide +kernel
theorem zd_130_17 : decode (zm_cc 130) 17 = .ok (.invokevirtual 52, 3) := by decide +kernel
theorem zd_130_20 : decode (zm_cc 130) 20 = .ok (.aload_n 0, 1) := by decide +kernel
theorem zd_130_21 : decode (zm_cc 130) 21 = .ok (.iconst 0, 1) := by decide +kernel
theorem zd_130_22 : decode (zm_cc 130) 22 = .ok (.invokevirtual 55, 3) := by decide +kernel
theorem zd_130_25 : decode (zm_cc 130) 25 = .ok (.istore_n 2, 1) := by decide +kernel
theorem zd_130_26 : decode (zm_cc 130) 26 = .ok (.iconst 0, 1) := by decide +kernel
theorem zd_130_27 : decode (zm_cc 130) 27 = .ok (.istore_n 3, 1) := by decide +kernel
theorem zd_130_28 : decode (zm_cc 130) 28 = .ok (.iload_n 3, 1) := by decide +kernel
theorem zd_130_29 : decode (zm_cc 130) 29 = .ok (.aload_n 0, 1) := by decide +kernel
theorem zd_130_30 : decode (zm_cc 130) 30 = .ok (.getfield 33, 3) := by decide +kernel
theorem zd_130_33 : decode (zm_cc 130) 33 = .ok (.if_icmp .ge 27, 3) := by decide +kernel
theorem zd_130_36 : decode (zm_cc 130) 36 = .ok (.iload_n 3, 1) := by decide +kernel
theorem zd_130_37 : decode (zm_cc 130) 37 = .ok (.sipush 4000, 3) := by decide +kernel
theorem zd_130_40 : decode (zm_cc 130) 40 = .ok (.if_icmp .ge 20, 3) := by decide +kernel
theorem zd_130_43 : decode (zm_cc 130) 43 = .ok (.iload_n 2, 1) := by decide +kernel
theorem zd_130_44 : decode (zm_cc 130) 44 = .ok (.ifCond .eq 16, 3) := by decide +kernel
theorem zd_130_47 : decode (zm_cc 130) 47 = .ok (.aload_n 0, 1) := by decide +kernel
theorem zd_130_48 : decode (zm_cc 130) 48 = .ok (.iload_n 3, 1) := by decide +kernel
theorem zd_130_49 : decode (zm_cc 130) 49 = .ok (.iload_n 1, 1) := by decide +kernel
theorem zd_130_50 : decode (zm_cc 130) 50 = .ok (.invokevirtual 58, 3) := by decide +kernel
theorem zd_130_53 : decode (zm_cc 130) 53 = .ok (.istore_n 2, 1) := by decide +kernel
theorem zd_130_54 : decode (zm_cc 130) 54 = .ok (.iinc 3 1, 3) := by decide +kernel
theorem zd_130_57 : decode (zm_cc 130) 57 = .ok (.goto (-29), 3) := by decide +kernel
theorem zd_130_60 : decode (zm_cc 130) 60 = .ok (.iload_n 2, 1) := by decide +kernel
theorem zd_130_61 : decode (zm_cc 130) 61 = .ok (.ireturn, 1) := by decide +kernel
theorem zd_131_0 : decode (zm_cc 131) 0 = .ok (.aload_n 0, 1) := by decide +kernel
theorem zd_131_1 : decode (zm_cc 131) 1 = .ok (.getfield 24, 3) := by decide +kernel
theorem zd_131_4 : decode (zm_cc 131) 4 = .ok (.iconst 0, 1) := by decide +kernel
theorem zd_131_5 : decode (zm_cc 131) 5 = .ok (.aload_n 0, 1) := by decide +kernel
theorem zd_131_6 : decode (zm_cc 131) 6 = .ok (.getfield 27, 3) := by decide +kernel
theorem zd_131_9 : decode (zm_cc 131) 9 = .ok (.getfield 31, 3) := by decide +kernel
theorem zd_131_12 : decode (zm_cc 131) 12 = .ok (.iastore, 1) := by decide +kernel
theorem zd_131_13 : decode (zm_cc 131) 13 = .ok (.iconst 0, 1) := by decide +kernel
theorem zd_131_14 : decode (zm_cc 131) 14 = .ok (.istore_n 1, 1) := by decide +kernel
theorem zd_131_15 : decode (zm_cc 131) 15 = .ok (.iload_n 1, 1) := by decide +kernel
theorem zd_131_16 : decode (zm_cc 131) 16 = .ok (.iconst 4, 1) := by decide +kernel
theorem zd_131_17 : decode (zm_cc 131) 17 = .ok (.if_icmp .ge 51, 3) := by decide +kernel
theorem zd_131_20 : decode (zm_cc 131) 20 = .ok (.aload_n 0, 1) := by decide +kernel
theorem zd_131_21 : decode (zm_cc 131) 21 = .ok (.getfield 27, 3) := by decide +kernel
theorem zd_131_24 : decode (zm_cc 131) 24 = .ok (.iload_n 1, 1) := by decide +kernel
theorem zd_131_25 : decode (zm_cc 131) 25 = .ok (.invokevirtual 37, 3) := by decide +kernel
theorem zd_131_28 : decode (zm_cc 131) 28 = .ok (.ifCond .ne 7, 3) := by decide +kernel
theorem zd_131_31 : decode (zm_cc 131) 31 = .ok (.iconst 4, 1) := by decide +kernel
theorem zd_131_32 : decode (zm_cc 131) 32 = .ok (.goto 4, 3) := by decide +kernel
theorem zd_131_35 : decode (zm_cc 131) 35 = .ok (.iconst 1, 1) := by decide +kernel
theorem zd_131_36 : decode (zm_cc 131) 36 = .ok (.istore_n 2, 1) := by decide +kernel
theorem zd_131_37 : decode (zm_cc 131) 37 = .ok (.aload_n 0, 1) := by decide +kernel
theorem zd_131_38 : decode (zm_cc 131) 38 = .ok (.getfield 27, 3) := by decide +kernel
theorem zd_131_41 : decode (zm_cc 131) 41 = .ok (.iload_n 1, 1) := by decide +kernel
theorem zd_131_42 : decode (zm_cc 131) 42 = .ok (.invokevirtual 41, 3) := by decide +kernel
theorem zd_131_45 : decode (zm_cc 131) 45 = .ok (.ifCond .eq 5, 3) := by decide +kernel
theorem zd_131_48 : decode (zm_cc 131) 48 = .ok (.iconst 0, 1) := by decide +kernel
theorem zd_131_49 : decode (zm_cc 131) 49 = .ok (.istore_n 2, 1) := by decide +kernel
theorem zd_131_50 : decode (zm_cc 131) 50 = .ok (.aload_n 0, 1) := by decide +kernel
theorem zd_131_51 : decode (zm_cc 131) 51 = .ok (.getfield 24, 3) := by decide +kernel
theorem zd_131_54 : decode (zm_cc 131) 54 = .ok (.iload_n 1, 1) := by decide +kernel
theorem zd_131_55 : decode (zm_cc 131) 55 = .ok (.iconst 1, 1) := by decide +kernel
theorem zd_131_56 : decode (zm_cc 131) 56 = .ok (.iadd, 1) := by decide +kernel
theorem zd_131_57 : decode (zm_cc 131) 57 = .ok (.iload_n 2, 1) := by decide +kernel
theorem zd_131_58 : decode (zm_cc 131) 58 = .ok (.bipush 14, 2) := by decide +kernel
theorem zd_131_60 : decode (zm_cc 131) 60 = .ok (.ishl, 1) := by decide +kernel
theorem zd_131_61 : decode (zm_cc 131) 61 = .ok (.iastore, 1) := by decide +kernel
theorem zd_131_62 : decode (zm_cc 131) 62 = .ok (.iinc 1 1, 3) := by decide +kernel
theorem zd_131_65 : decode (zm_cc 131) 65 = .ok (.goto (-50), 3) := by decide +kernel
theorem zd_131_68 : decode (zm_cc 131) 68 = .ok (.return_, 1) := by decide +kernel
theorem zd_132_0 : decode (zm_cc 132) 0 = .ok (.iload_n 1, 1) := by decide +kernel
theorem zd_132_1 : decode (zm_cc 132) 1 = .ok (.ifCond .lt 17, 3) := by decide +kernel
theorem zd_132_4 : decode (zm_cc 132) 4 = .ok (.iload_n 1, 1) := by decide +kernel
theorem zd_132_5 : decode (zm_cc 132) 5 = .ok (.iconst 4, 1) := by decide +kernel
theorem zd_132_6 : decode (zm_cc 132) 6 = .ok (.if_icmp .ge 12, 3) := by decide +kernel
theorem zd_132_9 : decode (zm_cc 132) 9 = .ok (.aload_n 0, 1) := by decide +kernel
theorem zd_132_10 : decode (zm_cc 132) 10 = .ok (.getfield 15, 3) := by decide +kernel
theorem zd_132_13 : decode (zm_cc 132) 13 = .ok (.iload_n 1, 1) := by decide +kernel
theorem zd_132_14 : decode (zm_cc 132) 14 = .ok (.iaload, 1) := by decide +kernel
theorem zd_132_15 : decode (zm_cc 132) 15 = .ok (.goto 4, 3) := by decide +kernel
theorem zd_132_18 : decode (zm_cc 132) 18 = .ok (.iconst 0, 1) := by decide +kernel
theorem zd_132_19 : decode (zm_cc 132) 19 = .ok (.ireturn, 1) := by decide +kernel
theorem zd_133_0 : decode (zm_cc 133) 0 = .ok (.aload_n 0, 1) := by decide +kernel
theorem zd_133_1 : decode (zm_cc 133) 1 = .ok (.invokevirtual 81, 3) := by decide +kernel
theorem zd_133_4 : decode (zm_cc 133) 4 = .ok (.istore_n 2, 1) := by decide +kernel
theorem zd_133_5 : decode (zm_cc 133) 5 = .ok (.aload_n 0, 1) := by decide +kernel
theorem zd_133_6 : decode (zm_cc 133) 6 = .ok (.getfield 22, 3) := by decide +kernel
theorem zd_133_9 : decode (zm_cc 133) 9 = .ok (.iload_n 2, 1) := by decide +kernel
theorem zd_133_10 : decode (zm_cc 133) 10 = .ok (.iaload, 1) := by decide +kernel
theorem zd_133_11 : decode (zm_cc 133) 11 = .ok (.ifCond .eq 5, 3) := by decide +kernel
theorem zd_133_14 : decode (zm_cc 133) 14 = .ok (.iconst 1, 1) := by decide +kernel
theorem zd_133_15 : decode (zm_cc 133) 15 = .ok (.ireturn, 1) := by decide +kernel
theorem zd_133_16 : decode (zm_cc 133) 16 = .ok (.aload_n 0, 1) := by decide +kernel
theorem zd_133_17 : decode (zm_cc 133) 17 = .ok (.getfield 33, 3) := by decide +kernel
theorem zd_133_20 : decode (zm_cc 133) 20 = .ok (.ifCond .lt 13, 3) := by decide +kernel
theorem zd_133_23 : decode (zm_cc 133) 23 = .ok (.aload_n 0, 1) := by decide +kernel
theorem zd_133_24 : decode (zm_cc 133) 24 = .ok (.getfield 33, 3) := by decide +kernel
theorem zd_133_27 : decode (zm_cc 133) 27 = .ok (.sipush 4000, 3) := by decide +kernel
theorem zd_133_30 : decode (zm_cc 133) 30 = .ok (.if_icmp .lt 5, 3) := by decide +kernel
theorem zd_133_33 : decode (zm_cc 133) 33 = .ok (.iconst 0, 1) := by decide +kernel
theorem zd_133_34 : decode (zm_cc 133) 34 = .ok (.ireturn, 1) := by decide +kernel
theorem zd_133_35 : decode (zm_cc 133) 35 = .ok (.aload_n 0, 1) := by decide +kernel
theorem zd_133_36 : decode (zm_cc 133) 36 = .ok (.getfield 29, 3) := by decide +kernel
theorem zd_133_39 : decode (zm_cc 133) 39 = .ok (.getfield 85, 3) := by decide +kernel
theorem zd_133_42 : decode (zm_cc 133) 42 = .ok (.iconst 0, 1) := by decide +kernel
theorem zd_133_43 : decode (zm_cc 133) 43 = .ok (.aload_n 0, 1) := by decide +kernel
theorem zd_133_44 : decode (zm_cc 133) 44 = .ok (.getfield 9, 3) := by decide +kernel
theorem zd_133_47 : decode (zm_cc 133) 47 = .ok (.aload_n 0, 1) := by decide +kernel
theorem zd_133_48 : decode (zm_cc 133) 48 = .ok (.getfield 33, 3) := by decide +kernel
theorem zd_133_51 : decode (zm_cc 133) 51 = .ok (.iconst 5, 1) := by decide +kernel
theorem zd_133_52 : decode (zm_cc 133) 52 = .ok (.imul, 1) := by decide +kernel
theorem zd_133_53 : decode (zm_cc 133) 53 = .ok (.iconst 5, 1) := by decide +kernel
theorem zd_133_54 : decode (zm_cc 133) 54 = .ok (.invokestatic 88, 3) := by decide +kernel
theorem zd_133_57 : decode (zm_cc 133) 57 = .ok (.aload_n 0, 1) := by decide +kernel
theorem zd_133_58 : decode (zm_cc 133) 58 = .ok (.getfield 15, 3) := by decide +kernel
theorem zd_133_61 : decode (zm_cc 133) 61 = .ok (.aload_n 0, 1) := by decide +kernel
theorem zd_133_62 : decode (zm_cc 133) 62 = .ok (.getfield 33, 3) := by decide +kernel
theorem zd_133_65 : decode (zm_cc 133) 65 = .ok (.iload_n 1, 1) := by decide +kernel
theorem zd_133_66 : decode (zm_cc 133) 66 = .ok (.iastore, 1) := by decide +kernel
theorem zd_133_67 : decode (zm_cc 133) 67 = .ok (.aload_n 0, 1) := by decide +kernel
theorem zd_133_68 : decode (zm_cc 133) 68 = .ok (.dup, 1) := by decide +kernel
theorem zd_133_69 : decode (zm_cc 133) 69 = .ok (.getfield 33, 3) := by decide +kernel
theorem zd_133_72 : decode (zm_cc 133) 72 = .ok (.iconst 1, 1) := by decide +kernel
theorem zd_133_73 : decode (zm_cc 133) 73 = .ok (.iadd, 1) := by decide +kernel
theorem zd_133_74 : decode (zm_cc 133) 74 = .ok (.putfield 33, 3) := by decide +kernel
theorem zd_133_77 : decode (zm_cc 133) 77 = .ok (.aload_n 0, 1) := by decide +kernel
theorem zd_133_78 : decode (zm_cc 133) 78 = .ok (.getfield 22, 3) := by decide +kernel
theorem zd_133_81 : decode (zm_cc 133) 81 = .ok (.iload_n 2, 1) := by decide +kernel
theorem zd_133_82 : decode (zm_cc 133) 82 = .ok (.aload_n 0, 1) := by decide +kernel
theorem zd_133_83 : decode (zm_cc 133) 83 = .ok (.getfield 33, 3) := by decide +kernel
theorem zd_133_86 : decode (zm_cc 133) 86 = .ok (.iastore, 1) := by decide +kernel
theorem zd_133_87 : decode (zm_cc 133) 87 = .ok (.iconst 1, 1) := by decide +kernel
theorem zd_133_88 : decode (zm_cc 133) 88 = .ok (.ireturn, 1) := by decide +kernel
theorem zd_134_0 : decode (zm_cc 134) 0 = .ok (.iconst 0, 1) := by decide +kernel
theorem zd_134_1 : decode (zm_cc 134) 1 = .ok (.istore_n 1, 1) := by decide +kernel
theorem zd_134_2 : decode (zm_cc 134) 2 = .ok (.iconst 0, 1) := by decide +kernel
theorem zd_134_3 : decode (zm_cc 134) 3 = .ok (.istore_n 2, 1) := by decide +kernel
theorem zd_134_4 : decode (zm_cc 134) 4 = .ok (.iload_n 2, 1) := by decide +kernel
theorem zd_134_5 : decode (zm_cc 134) 5 = .ok (.iconst 5, 1) := by decide +kernel
theorem zd_134_6 : decode (zm_cc 134) 6 = .ok (.if_icmp .ge 31, 3) := by decide +kernel
theorem zd_134_9 : decode (zm_cc 134) 9 = .ok (.iload_n 1, 1) := by decide +kernel
theorem zd_134_10 : decode (zm_cc 134) 10 = .ok (.aload_n 0, 1) := by decide +kernel
theorem zd_134_11 : decode (zm_cc 134) 11 = .ok (.getfield 29, 3) := by decide +kernel
theorem zd_134_14 : decode (zm_cc 134) 14 = .ok (.getfield 85, 3) := by decide +kernel
theorem zd_134_17 : decode (zm_cc 134) 17 = .ok (.iload_n 2, 1) := by decide +kernel
theorem zd_134_18 : decode (zm_cc 134) 18 = .ok (.iaload, 1) := by decide +kernel
theorem zd_134_19 : decode (zm_cc 134) 19 = .ok (.ixor, 1) := by decide +kernel
theorem zd_134_20 : decode (zm_cc 134) 20 = .ok (.ldc 94, 2) := by decide +kernel
theorem zd_134_22 : decode (zm_cc 134) 22 = .ok (.imul, 1) := by decide +kernel
theorem zd_134_23 : decode (zm_cc 134) 23 = .ok (.istore_n 1, 1) := by decide +kernel
theorem zd_134_24 : decode (zm_cc 134) 24 = .ok (.iload_n 1, 1) := by decide +kernel
theorem zd_134_25 : decode (zm_cc 134) 25 = .ok (.iload_n 1, 1) := by decide +kernel
theorem zd_134_26 : decode (zm_cc 134) 26 = .ok (.bipush 15, 2) := by decide +kernel
theorem zd_134_28 : decode (zm_cc 134) 28 = .ok (.iushr, 1) := by decide +kernel
theorem zd_134_29 : decode (zm_cc 134) 29 = .ok (.ixor, 1) := by decide +kernel
theorem zd_134_30 : decode (zm_cc 134) 30 = .ok (.istore_n 1, 1) := by decide +kernel
theorem zd_134_31 : decode (zm_cc 134) 31 = .ok (.iinc 2 1, 3) := by decide +kernel
theorem zd_134_34 : decode (zm_cc 134) 34 = .ok (.goto (-30), 3) := by decide +kernel
theorem zd_134_37 : decode (zm_cc 134) 37 = .ok (.iload_n 1, 1) := by decide +kernel
theorem zd_134_38 : decode (zm_cc 134) 38 = .ok (.sipush 8191, 3) := by decide +kernel
theorem zd_134_41 : decode (zm_cc 134) 41 = .ok (.iand, 1) := by decide +kernel
theorem zd_134_42 : decode (zm_cc 134) 42 = .ok (.istore_n 2, 1) := by decide +kernel
theorem zd_134_43 : decode (zm_cc 134) 43 = .ok (.iconst 0, 1) := by decide +kernel
theorem zd_134_44 : decode (zm_cc 134) 44 = .ok (.istore_n 3, 1) := by decide +kernel
theorem zd_134_45 : decode (zm_cc 134) 45 = .ok (.iload_n 3, 1) := by decide +kernel
theorem zd_134_46 : decode (zm_cc 134) 46 = .ok (.sipush 8192, 3) := by decide +kernel
theorem zd_134_49 : decode (zm_cc 134) 49 = .ok (.if_icmp .ge 43, 3) := by decide +kernel
theorem zd_134_52 : decode (zm_cc 134) 52 = .ok (.aload_n 0, 1) := by decide +kernel
theorem zd_134_53 : decode (zm_cc 134) 53 = .ok (.getfield 22, 3) := by decide +kernel
theorem zd_134_56 : decode (zm_cc 134) 56 = .ok (.iload_n 2, 1) := by decide +kernel
theorem zd_134_57 : decode (zm_cc 134) 57 = .ok (.iaload, 1) := by decide +kernel
theorem zd_134_58 : decode (zm_cc 134) 58 = .ok (.ifCond .eq 34, 3) := by decide +kernel
theorem zd_134_61 : decode (zm_cc 134) 61 = .ok (.aload_n 0, 1) := by decide +kernel
theorem zd_134_62 : decode (zm_cc 134) 62 = .ok (.aload_n 0, 1) := by decide +kernel
theorem zd_134_63 : decode (zm_cc 134) 63 = .ok (.getfield 22, 3) := by decide +kernel
theorem zd_134_66 : decode (zm_cc 134) 66 = .ok (.iload_n 2, 1) := by decide +kernel
theorem zd_134_67 : decode (zm_cc 134) 67 = .ok (.iaload, 1) := by decide +kernel
theorem zd_134_68 : decode (zm_cc 134) 68 = .ok (.iconst 1, 1) := by decide +kernel
theorem zd_134_69 : decode (zm_cc 134) 69 = .ok (.isub, 1) := by decide +kernel
theorem zd_134_70 : decode (zm_cc 134) 70 = .ok (.invokevirtual 95, 3) := by decide +kernel
theorem zd_134_73 : decode (zm_cc 134) 73 = .ok (.ifCond .eq 5, 3) := by decide +kernel
theorem zd_134_76 : decode (zm_cc 134) 76 = .ok (.iload_n 2, 1) := by decide +kernel
theorem zd_134_77 : decode (zm_cc 134) 77 = .ok (.ireturn, 1) := by decide +kernel
theorem zd_134_78 : decode (zm_cc 134) 78 = .ok (.iload_n 2, 1) := by decide +kernel
theorem zd_134_79 : decode (zm_cc 134) 79 = .ok (.iconst 1, 1) := by decide +kernel
theorem zd_134_80 : decode (zm_cc 134) 80 = .ok (.iadd, 1) := by decide +kernel
theorem zd_134_81 : decode (zm_cc 134) 81 = .ok (.sipush 8191, 3) := by decide +kernel
theorem zd_134_84 : decode (zm_cc 134) 84 = .ok (.iand, 1) := by decide +kernel
theorem zd_134_85 : decode (zm_cc 134) 85 = .ok (.istore_n 2, 1) := by decide +kernel
theorem zd_134_86 : decode (zm_cc 134) 86 = .ok (.iinc 3 1, 3) := by decide +kernel
theorem zd_134_89 : decode (zm_cc 134) 89 = .ok (.goto (-44), 3) := by decide +kernel
theorem zd_134_92 : decode (zm_cc 134) 92 = .ok (.iload_n 2, 1) := by decide +kernel
theorem zd_134_93 : decode (zm_cc 134) 93 = .ok (.ireturn, 1) := by decide +kernel
theorem zd_135_0 : decode (zm_cc 135) 0 = .ok (.iconst 0, 1) := by decide +kernel
theorem zd_135_1 : decode (zm_cc 135) 1 = .ok (.istore_n 2, 1) := by decide +kernel
theorem zd_135_2 : decode (zm_cc 135) 2 = .ok (.iload_n 2, 1) := by decide +kernel
theorem zd_135_3 : decode (zm_cc 135) 3 = .ok (.iconst 5, 1) := by decide +kernel
theorem zd_135_4 : decode (zm_cc 135) 4 = .ok (.if_icmp .ge 41, 3) := by decide +kernel
theorem zd_135_7 : decode (zm_cc 135) 7 = .ok (.aload_n 0, 1) := by decide +kernel
theorem zd_135_8 : decode (zm_cc 135) 8 = .ok (.iload_n 1, 1) := by decide +kernel
theorem zd_135_9 : decode (zm_cc 135) 9 = .ok (.invokevirtual 37, 3) := by decide +kernel
theorem zd_135_12 : decode (zm_cc 135) 12 = .ok (.ifCond .eq 33, 3) := by decide +kernel
theorem zd_135_15 : decode (zm_cc 135) 15 = .ok (.aload_n 0, 1) := by decide +kernel
theorem zd_135_16 : decode (zm_cc 135) 16 = .ok (.getfield 9, 3) := by decide +kernel
theorem zd_135_19 : decode (zm_cc 135) 19 = .ok (.iload_n 1, 1) := by decide +kernel
theorem zd_135_20 : decode (zm_cc 135) 20 = .ok (.iconst 5, 1) := by decide +kernel
theorem zd_135_21 : decode (zm_cc 135) 21 = .ok (.imul, 1) := by decide +kernel
theorem zd_135_22 : decode (zm_cc 135) 22 = .ok (.iload_n 2, 1) := by decide +kernel
theorem zd_135_23 : decode (zm_cc 135) 23 = .ok (.iadd, 1) := by decide +kernel
theorem zd_135_24 : decode (zm_cc 135) 24 = .ok (.iaload, 1) := by decide +kernel
theorem zd_135_25 : decode (zm_cc 135) 25 = .ok (.aload_n 0, 1) := by decide +kernel
theorem zd_135_26 : decode (zm_cc 135) 26 = .ok (.getfield 29, 3) := by decide +kernel
theorem zd_135_29 : decode (zm_cc 135) 29 = .ok (.getfield 85, 3) := by decide +kernel
theorem zd_135_32 : decode (zm_cc 135) 32 = .ok (.iload_n 2, 1) := by decide +kernel
theorem zd_135_33 : decode (zm_cc 135) 33 = .ok (.iaload, 1) := by decide +kernel
theorem zd_135_34 : decode (zm_cc 135) 34 = .ok (.if_icmp .eq 5, 3) := by decide +kernel
theorem zd_135_37 : decode (zm_cc 135) 37 = .ok (.iconst 0, 1) := by decide +kernel
theorem zd_135_38 : decode (zm_cc 135) 38 = .ok (.ireturn, 1) := by decide +kernel
theorem zd_135_39 : decode (zm_cc 135) 39 = .ok (.iinc 2 1, 3) := by decide +kernel
theorem zd_135_42 : decode (zm_cc 135) 42 = .ok (.goto (-40), 3) := by decide +kernel
theorem zd_135_45 : decode (zm_cc 135) 45 = .ok (.iconst 1, 1) := by decide +kernel
theorem zd_135_46 : decode (zm_cc 135) 46 = .ok (.ireturn, 1) := by decide +kernel
theorem zd_136_0 : decode (zm_cc 136) 0 = .ok (.iload_n 1, 1) := by decide +kernel
theorem zd_136_1 : decode (zm_cc 136) 1 = .ok (.ifCond .lt 22, 3) := by decide +kernel
theorem zd_136_4 : decode (zm_cc 136) 4 = .ok (.iload_n 1, 1) := by decide +kernel
theorem zd_136_5 : decode (zm_cc 136) 5 = .ok (.aload_n 0, 1) := by decide +kernel
theorem zd_136_6 : decode (zm_cc 136) 6 = .ok (.getfield 33, 3) := by decide +kernel
theorem zd_136_9 : decode (zm_cc 136) 9 = .ok (.if_icmp .ge 14, 3) := by decide +kernel
theorem zd_136_12 : decode (zm_cc 136) 12 = .ok (.iload_n 1, 1) := by decide +kernel
theorem zd_136_13 : decode (zm_cc 136) 13 = .ok (.sipush 4000, 3) := by decide +kernel
theorem zd_136_16 : decode (zm_cc 136) 16 = .ok (.if_icmp .ge 7, 3) := by decide +kernel
theorem zd_136_19 : decode (zm_cc 136) 19 = .ok (.iconst 1, 1) := by decide +kernel
theorem zd_136_20 : decode (zm_cc 136) 20 = .ok (.goto 4, 3) := by decide +kernel
theorem zd_136_23 : decode (zm_cc 136) 23 = .ok (.iconst 0, 1) := by decide +kernel
theorem zd_136_24 : decode (zm_cc 136) 24 = .ok (.ireturn, 1) := by decide +kernel
theorem zd_137_0 : decode (zm_cc 137) 0 = .ok (.aload_n 0, 1) := by decide +kernel
theorem zd_137_1 : decode (zm_cc 137) 1 = .ok (.iload_n 1, 1) := by decide +kernel
theorem zd_137_2 : decode (zm_cc 137) 2 = .ok (.invokevirtual 62, 3) := by decide +kernel
theorem zd_137_5 : decode (zm_cc 137) 5 = .ok (.aload_n 0, 1) := by decide +kernel
theorem zd_137_6 : decode (zm_cc 137) 6 = .ok (.getfield 29, 3) := by decide +kernel
theorem zd_137_9 : decode (zm_cc 137) 9 = .ok (.iload_n 2, 1) := by decide +kernel
theorem zd_137_10 : decode (zm_cc 137) 10 = .ok (.invokevirtual 65, 3) := by decide +kernel
theorem zd_137_13 : decode (zm_cc 137) 13 = .ok (.istore_n 3, 1) := by decide +kernel
theorem zd_137_14 : decode (zm_cc 137) 14 = .ok (.iconst 1, 1) := by decide +kernel
theorem zd_137_15 : decode (zm_cc 137) 15 = .ok (.istore 4, 2) := by decide +kernel
theorem zd_137_17 : decode (zm_cc 137) 17 = .ok (.iconst 0, 1) := by decide +kernel
theorem zd_137_18 : decode (zm_cc 137) 18 = .ok (.istore 5, 2) := by decide +kernel
theorem zd_137_20 : decode (zm_cc 137) 20 = .ok (.iload 5, 2) := by decide +kernel
theorem zd_137_22 : decode (zm_cc 137) 22 = .ok (.aload_n 0, 1) := by decide +kernel
theorem zd_137_23 : decode (zm_cc 137) 23 = .ok (.getfield 25, 3) := by decide +kernel
theorem zd_137_26 : decode (zm_cc 137) 26 = .ok (.getfield 69, 3) := by decide +kernel
theorem zd_137_29 : decode (zm_cc 137) 29 = .ok (.if_icmp .ge 72, 3) := by decide +kernel
theorem zd_137_32 : decode (zm_cc 137) 32 = .ok (.iload_n 3, 1) := by decide +kernel
theorem zd_137_33 : decode (zm_cc 137) 33 = .ok (.iconst (-1), 1) := by decide +kernel
theorem zd_137_34 : decode (zm_cc 137) 34 = .ok (.if_icmp .eq 9, 3) := by decide +kernel
theorem zd_137_37 : decode (zm_cc 137) 37 = .ok (.iload_n 3, 1) := by decide +kernel
theorem zd_137_38 : decode (zm_cc 137) 38 = .ok (.iload 5, 2) := by decide +kernel
theorem zd_137_40 : decode (zm_cc 137) 40 = .ok (.if_icmp .ne 7, 3) := by decide +kernel
theorem zd_137_43 : decode (zm_cc 137) 43 = .ok (.iconst 1, 1) := by decide +kernel
theorem zd_137_44 : decode (zm_cc 137) 44 = .ok (.goto 4, 3) := by decide +kernel
theorem zd_137_47 : decode (zm_cc 137) 47 = .ok (.iconst 0, 1) := by decide +kernel
theorem zd_137_48 : decode (zm_cc 137) 48 = .ok (.istore 6, 2) := by decide +kernel
theorem zd_137_50 : decode (zm_cc 137) 50 = .ok (.iload 6, 2) := by decide +kernel
theorem zd_137_52 : decode (zm_cc 137) 52 = .ok (.ifCond .eq 43, 3) := by decide +kernel
theorem zd_137_55 : decode (zm_cc 137) 55 = .ok (.aload_n 0, 1) := by decide +kernel
theorem zd_137_56 : decode (zm_cc 137) 56 = .ok (.getfield 29, 3) := by decide +kernel
theorem zd_137_59 : decode (zm_cc 137) 59 = .ok (.iload 5, 2) := by decide +kernel
theorem zd_137_61 : decode (zm_cc 137) 61 = .ok (.invokevirtual 74, 3) := by decide +kernel
theorem zd_137_64 : decode (zm_cc 137) 64 = .ok (.ifCond .eq 31, 3) := by decide +kernel
theorem zd_137_67 : decode (zm_cc 137) 67 = .ok (.iconst 0, 1) := by decide +kernel
theorem zd_137_68 : decode (zm_cc 137) 68 = .ok (.istore 4, 2) := by decide +kernel
theorem zd_137_70 : decode (zm_cc 137) 70 = .ok (.aload_n 0, 1) := by decide +kernel
theorem zd_137_71 : decode (zm_cc 137) 71 = .ok (.getfield 29, 3) := by decide +kernel
theorem zd_137_74 : decode (zm_cc 137) 74 = .ok (.iload 5, 2) := by decide +kernel
theorem zd_137_76 : decode (zm_cc 137) 76 = .ok (.iload_n 2, 1) := by decide +kernel
theorem zd_137_77 : decode (zm_cc 137) 77 = .ok (.invokevirtual 77, 3) := by decide +kernel
theorem zd_137_80 : decode (zm_cc 137) 80 = .ok (.aload_n 0, 1) := by decide +kernel
theorem zd_137_81 : decode (zm_cc 137) 81 = .ok (.iload_n 1, 1) := by decide +kernel
theorem zd_137_82 : decode (zm_cc 137) 82 = .ok (.iconst 4, 1) := by decide +kernel
theorem zd_137_83 : decode (zm_cc 137) 83 = .ok (.imul, 1) := by decide +kernel
theorem zd_137_84 : decode (zm_cc 137) 84 = .ok (.iload 5, 2) := by decide +kernel
theorem zd_137_86 : decode (zm_cc 137) 86 = .ok (.iadd, 1) := by decide +kernel
theorem zd_137_87 : decode (zm_cc 137) 87 = .ok (.invokevirtual 55, 3) := by decide +kernel
theorem zd_137_90 : decode (zm_cc 137) 90 = .ok (.ifCond .ne 5, 3) := by decide +kernel
theorem zd_137_93 : decode (zm_cc 137) 93 = .ok (.iconst 0, 1) := by decide +kernel
theorem zd_137_94 : decode (zm_cc 137) 94 = .ok (.ireturn, 1) := by decide +kernel
theorem zd_137_95 : decode (zm_cc 137) 95 = .ok (.iinc 5 1, 3) := by decide +kernel
theorem zd_137_98 : decode (zm_cc 137) 98 = .ok (.goto (-78), 3) := by decide +kernel
theorem zd_137_101 : decode (zm_cc 137) 101 = .ok (.aload_n 0, 1) := by decide +kernel
theorem zd_137_102 : decode (zm_cc 137) 102 = .ok (.iload_n 1, 1) := by decide +kernel
theorem zd_137_103 : decode (zm_cc 137) 103 = .ok (.invokevirtual 37, 3) := by decide +kernel
theorem zd_137_106 : decode (zm_cc 137) 106 = .ok (.ifCond .eq 11, 3) := by decide +kernel
theorem zd_137_109 : decode (zm_cc 137) 109 = .ok (.aload_n 0, 1) := by decide +kernel
theorem zd_137_110 : decode (zm_cc 137) 110 = .ok (.getfield 18, 3) := by decide +kernel
theorem zd_137_113 : decode (zm_cc 137) 113 = .ok (.iload_n 1, 1) := by decide +kernel
theorem zd_137_114 : decode (zm_cc 137) 114 = .ok (.iload 4, 2) := by decide +kernel
theorem zd_137_116 : decode (zm_cc 137) 116 = .ok (.bastore, 1) := by decide +kernel
theorem zd_137_117 : decode (zm_cc 137) 117 = .ok (.iconst 1, 1) := by decide +kernel
theorem zd_137_118 : decode (zm_cc 137) 118 = .ok (.ireturn, 1) := by decide +kernel
theorem zd_138_0 : decode (zm_cc 138) 0 = .ok (.aload_n 0, 1) := by decide +kernel
theorem zd_138_1 : decode (zm_cc 138) 1 = .ok (.iload_n 1, 1) := by decide +kernel
theorem zd_138_2 : decode (zm_cc 138) 2 = .ok (.invokevirtual 37, 3) := by decide +kernel
theorem zd_138_5 : decode (zm_cc 138) 5 = .ok (.ifCond .eq 17, 3) := by decide +kernel
theorem zd_138_8 : decode (zm_cc 138) 8 = .ok (.aload_n 0, 1) := by decide +kernel
theorem zd_138_9 : decode (zm_cc 138) 9 = .ok (.getfield 29, 3) := by decide +kernel
theorem zd_138_12 : decode (zm_cc 138) 12 = .ok (.aload_n 0, 1) := by decide +kernel
theorem zd_138_13 : decode (zm_cc 138) 13 = .ok (.getfield 9, 3) := by decide +kernel
theorem zd_138_16 : decode (zm_cc 138) 16 = .ok (.iload_n 1, 1) := by decide +kernel
theorem zd_138_17 : decode (zm_cc 138) 17 = .ok (.iconst 5, 1) := by decide +kernel
theorem zd_138_18 : decode (zm_cc 138) 18 = .ok (.imul, 1) := by decide +kernel
theorem zd_138_19 : decode (zm_cc 138) 19 = .ok (.invokevirtual 41, 3) := by decide +kernel
theorem zd_138_22 : decode (zm_cc 138) 22 = .ok (.return_, 1) := by decide +kernel
theorem zd_139_0 : decode (zm_cc 139) 0 = .ok (.iload_n 2, 1) := by decide +kernel
theorem zd_139_1 : decode (zm_cc 139) 1 = .ok (.ifCond .lt 11, 3) := by decide +kernel
theorem zd_139_4 : decode (zm_cc 139) 4 = .ok (.iload_n 2, 1) := by decide +kernel
theorem zd_139_5 : decode (zm_cc 139) 5 = .ok (.iconst 5, 1) := by decide +kernel
theorem zd_139_6 : decode (zm_cc 139) 6 = .ok (.iadd, 1) := by decide +kernel
theorem zd_139_7 : decode (zm_cc 139) 7 = .ok (.aload_n 1, 1) := by decide +kernel
theorem zd_139_8 : decode (zm_cc 139) 8 = .ok (.arraylength, 1) := by decide +kernel
theorem zd_139_9 : decode (zm_cc 139) 9 = .ok (.if_icmp .le 4, 3) := by decide +kernel
theorem zd_139_12 : decode (zm_cc 139) 12 = .ok (.return_, 1) := by decide +kernel
theorem zd_139_13 : decode (zm_cc 139) 13 = .ok (.aload_n 1, 1) := by decide +kernel
theorem zd_139_14 : decode (zm_cc 139) 14 = .ok (.iload_n 2, 1) := by decide +kernel
theorem zd_139_15 : decode (zm_cc 139) 15 = .ok (.aload_n 0, 1) := by decide +kernel
theorem zd_139_16 : decode (zm_cc 139) 16 = .ok (.getfield 21, 3) := by decide +kernel
theorem zd_139_19 : decode (zm_cc 139) 19 = .ok (.iconst 0, 1) := by decide +kernel
theorem zd_139_20 : decode (zm_cc 139) 20 = .ok (.iconst 5, 1) := by decide +kernel
theorem zd_139_21 : decode (zm_cc 139) 21 = .ok (.invokestatic 44, 3) := by decide +kernel
theorem zd_139_24 : decode (zm_cc 139) 24 = .ok (.aload_n 0, 1) := by decide +kernel
theorem zd_139_25 : decode (zm_cc 139) 25 = .ok (.getfield 18, 3) := by decide +kernel
theorem zd_139_28 : decode (zm_cc 139) 28 = .ok (.iconst (-1), 1) := by decide +kernel
theorem zd_139_29 : decode (zm_cc 139) 29 = .ok (.invokestatic 50, 3) := by decide +kernel
theorem zd_139_32 : decode (zm_cc 139) 32 = .ok (.iconst 0, 1) := by decide +kernel
theorem zd_139_33 : decode (zm_cc 139) 33 = .ok (.istore_n 3, 1) := by decide +kernel
theorem zd_139_34 : decode (zm_cc 139) 34 = .ok (.iload_n 3, 1) := by decide +kernel
theorem zd_139_35 : decode (zm_cc 139) 35 = .ok (.iconst 4, 1) := by decide +kernel
theorem zd_139_36 : decode (zm_cc 139) 36 = .ok (.if_icmp .ge 100, 3) := by decide +kernel
theorem zd_139_39 : decode (zm_cc 139) 39 = .ok (.aload_n 0, 1) := by decide +kernel
theorem zd_139_40 : decode (zm_cc 139) 40 = .ok (.getfield 21, 3) := by decide +kernel
theorem zd_139_43 : decode (zm_cc 139) 43 = .ok (.iload_n 3, 1) := by decide +kernel
theorem zd_139_44 : decode (zm_cc 139) 44 = .ok (.iconst 1, 1) := by decide +kernel
theorem zd_139_45 : decode (zm_cc 139) 45 = .ok (.iadd, 1) := by decide +kernel
theorem zd_139_46 : decode (zm_cc 139) 46 = .ok (.iaload, 1) := by decide +kernel
theorem zd_139_47 : decode (zm_cc 139) 47 = .ok (.istore 4, 2) := by decide +kernel
theorem zd_139_49 : decode (zm_cc 139) 49 = .ok (.aload_n 0, 1) := by decide +kernel
theorem zd_139_50 : decode (zm_cc 139) 50 = .ok (.getfield 9, 3) := by decide +kernel
theorem zd_139_53 : decode (zm_cc 139) 53 = .ok (.iload_n 3, 1) := by decide +kernel
theorem zd_139_54 : decode (zm_cc 139) 54 = .ok (.iload 4, 2) := by decide +kernel
theorem zd_139_56 : decode (zm_cc 139) 56 = .ok (.bipush 14, 2) := by decide +kernel
theorem zd_139_58 : decode (zm_cc 139) 58 = .ok (.iushr, 1) := by decide +kernel
theorem zd_139_59 : decode (zm_cc 139) 59 = .ok (.bipush 7, 2) := by decide +kernel
theorem zd_139_61 : decode (zm_cc 139) 61 = .ok (.iand, 1) := by decide +kernel
theorem zd_139_62 : decode (zm_cc 139) 62 = .ok (.iastore, 1) := by decide +kernel
theorem zd_139_63 : decode (zm_cc 139) 63 = .ok (.aload_n 0, 1) := by decide +kernel
theorem zd_139_64 : decode (zm_cc 139) 64 = .ok (.getfield 15, 3) := by decide +kernel
theorem zd_139_67 : decode (zm_cc 139) 67 = .ok (.iload_n 3, 1) := by decide +kernel
theorem zd_139_68 : decode (zm_cc 139) 68 = .ok (.aload_n 0, 1) := by decide +kernel
theorem zd_139_69 : decode (zm_cc 139) 69 = .ok (.getfield 27, 3) := by decide +kernel
theorem zd_139_72 : decode (zm_cc 139) 72 = .ok (.iload_n 3, 1) := by decide +kernel
theorem zd_139_73 : decode (zm_cc 139) 73 = .ok (.iload 4, 2) := by decide +kernel
theorem zd_139_75 : decode (zm_cc 139) 75 = .ok (.bipush 9, 2) := by decide +kernel
theorem zd_139_77 : decode (zm_cc 139) 77 = .ok (.iushr, 1) := by decide +kernel
theorem zd_139_78 : decode (zm_cc 139) 78 = .ok (.bipush 31, 2) := by decide +kernel
theorem zd_139_80 : decode (zm_cc 139) 80 = .ok (.iand, 1) := by decide +kernel
theorem zd_139_81 : decode (zm_cc 139) 81 = .ok (.invokevirtual 56, 3) := by decide +kernel
theorem zd_139_84 : decode (zm_cc 139) 84 = .ok (.iastore, 1) := by decide +kernel
theorem zd_139_85 : decode (zm_cc 139) 85 = .ok (.aload_n 0, 1) := by decide +kernel
theorem zd_139_86 : decode (zm_cc 139) 86 = .ok (.iload_n 3, 1) := by decide +kernel
theorem zd_139_87 : decode (zm_cc 139) 87 = .ok (.invokevirtual 60, 3) := by decide +kernel
theorem zd_139_90 : decode (zm_cc 139) 90 = .ok (.istore 5, 2) := by decide +kernel
theorem zd_139_92 : decode (zm_cc 139) 92 = .ok (.iconst 0, 1) := by decide +kernel
theorem zd_139_93 : decode (zm_cc 139) 93 = .ok (.istore 6, 2) := by decide +kernel
theorem zd_139_95 : decode (zm_cc 139) 95 = .ok (.iload 6, 2) := by decide +kernel
theorem zd_139_97 : decode (zm_cc 139) 97 = .ok (.iconst 4, 1) := by decide +kernel
theorem zd_139_98 : decode (zm_cc 139) 98 = .ok (.if_icmp .ge 32, 3) := by decide +kernel
theorem zd_139_101 : decode (zm_cc 139) 101 = .ok (.iload 5, 2) := by decide +kernel
theorem zd_139_103 : decode (zm_cc 139) 103 = .ok (.ifCond .eq 27, 3) := by decide +kernel
theorem zd_139_106 : decode (zm_cc 139) 106 = .ok (.iload 5, 2) := by decide +kernel
theorem zd_139_108 : decode (zm_cc 139) 108 = .ok (.iload 6, 2) := by decide +kernel
theorem zd_139_110 : decode (zm_cc 139) 110 = .ok (.iushr, 1) := by decide +kernel
theorem zd_139_111 : decode (zm_cc 139) 111 = .ok (.iconst 1, 1) := by decide +kernel
theorem zd_139_112 : decode (zm_cc 139) 112 = .ok (.iand, 1) := by decide +kernel
theorem zd_139_113 : decode (zm_cc 139) 113 = .ok (.ifCond .eq 11, 3) := by decide +kernel
theorem zd_139_116 : decode (zm_cc 139) 116 = .ok (.aload_n 0, 1) := by decide +kernel
theorem zd_139_117 : decode (zm_cc 139) 117 = .ok (.getfield 18, 3) := by decide +kernel
theorem zd_139_120 : decode (zm_cc 139) 120 = .ok (.iload 6, 2) := by decide +kernel
theorem zd_139_122 : decode (zm_cc 139) 122 = .ok (.iload_n 3, 1) := by decide +kernel
theorem zd_139_123 : decode (zm_cc 139) 123 = .ok (.iastore, 1) := by decide +kernel
theorem zd_139_124 : decode (zm_cc 139) 124 = .ok (.iinc 6 1, 3) := by decide +kernel
theorem zd_139_127 : decode (zm_cc 139) 127 = .ok (.goto (-32), 3) := by decide +kernel
theorem zd_139_130 : decode (zm_cc 139) 130 = .ok (.iinc 3 1, 3) := by decide +kernel
theorem zd_139_133 : decode (zm_cc 139) 133 = .ok (.goto (-99), 3) := by decide +kernel
theorem zd_139_136 : decode (zm_cc 139) 136 = .ok (.return_, 1) := by decide +kernel
theorem zd_140_0 : decode (zm_cc 140) 0 = .ok (.aload_n 0, 1) := by decide +kernel
theorem zd_140_1 : decode (zm_cc 140) 1 = .ok (.iload_n 1, 1) := by decide +kernel
theorem zd_140_2 : decode (zm_cc 140) 2 = .ok (.invokevirtual 63, 3) := by decide +kernel
theorem zd_140_5 : decode (zm_cc 140) 5 = .ok (.istore_n 2, 1) := by decide +kernel
theorem zd_140_6 : decode (zm_cc 140) 6 = .ok (.aload_n 0, 1) := by decide +kernel
theorem zd_140_7 : decode (zm_cc 140) 7 = .ok (.iload_n 1, 1) := by decide +kernel
theorem zd_140_8 : decode (zm_cc 140) 8 = .ok (.invokevirtual 65, 3) := by decide +kernel
theorem zd_140_11 : decode (zm_cc 140) 11 = .ok (.tableswitch 59 1 3 #[25, 35, 35], 25) := by decide +kernel
theorem zd_140_36 : decode (zm_cc 140) 36 = .ok (.aload_n 0, 1) := by decide +kernel
theorem zd_140_37 : decode (zm_cc 140) 37 = .ok (.getfield 27, 3) := by decide +kernel
theorem zd_140_40 : decode (zm_cc 140) 40 = .ok (.getfield 68, 3) := by decide +kernel
theorem zd_140_43 : decode (zm_cc 140) 43 = .ok (.iload_n 2, 1) := by decide +kernel
theorem zd_140_44 : decode (zm_cc 140) 44 = .ok (.iaload, 1) := by decide +kernel
theorem zd_140_45 : decode (zm_cc 140) 45 = .ok (.ireturn, 1) := by decide +kernel
theorem zd_140_46 : decode (zm_cc 140) 46 = .ok (.aload_n 0, 1) := by decide +kernel
theorem zd_140_47 : decode (zm_cc 140) 47 = .ok (.getfield 27, 3) := by decide +kernel
theorem zd_140_50 : decode (zm_cc 140) 50 = .ok (.getfield 68, 3) := by decide +kernel
theorem zd_140_53 : decode (zm_cc 140) 53 = .ok (.iload_n 2, 1) := by decide +kernel
theorem zd_140_54 : decode (zm_cc 140) 54 = .ok (.iaload, 1) := by decide +kernel
theorem zd_140_55 : decode (zm_cc 140) 55 = .ok (.iconst 1, 1) := by decide +kernel
theorem zd_140_56 : decode (zm_cc 140) 56 = .ok (.aload_n 0, 1) := by decide +kernel
theorem zd_140_57 : decode (zm_cc 140) 57 = .ok (.getfield 27, 3) := by decide +kernel
theorem zd_140_60 : decode (zm_cc 140) 60 = .ok (.getfield 71, 3) := by decide +kernel
theorem zd_140_63 : decode (zm_cc 140) 63 = .ok (.iload_n 2, 1) := by decide +kernel
theorem zd_140_64 : decode (zm_cc 140) 64 = .ok (.iaload, 1) := by decide +kernel
theorem zd_140_65 : decode (zm_cc 140) 65 = .ok (.ishl, 1) := by decide +kernel
theorem zd_140_66 : decode (zm_cc 140) 66 = .ok (.iconst (-1), 1) := by decide +kernel
theorem zd_140_67 : decode (zm_cc 140) 67 = .ok (.ixor, 1) := by decide +kernel
theorem zd_140_68 : decode (zm_cc 140) 68 = .ok (.iand, 1) := by decide +kernel
theorem zd_140_69 : decode (zm_cc 140) 69 = .ok (.ireturn, 1) := by decide +kernel
theorem zd_140_70 : decode (zm_cc 140) 70 = .ok (.iconst 0, 1) := by decide +kernel
theorem zd_140_71 : decode (zm_cc 140) 71 = .ok (.ireturn, 1) := by decide +kernel
theorem zd_141_0 : decode (zm_cc 141) 0 = .ok (.iload_n 1, 1) := by decide +kernel
theorem zd_141_1 : decode (zm_cc 141) 1 = .ok (.ifCond .lt 17, 3) := by decide +kernel
theorem zd_141_4 : decode (zm_cc 141) 4 = .ok (.iload_n 1, 1) := by decide +kernel
theorem zd_141_5 : decode (zm_cc 141) 5 = .ok (.iconst 4, 1) := by decide +kernel
theorem zd_141_6 : decode (zm_cc 141) 6 = .ok (.if_icmp .ge 12, 3) := by decide +kernel
theorem zd_141_9 : decode (zm_cc 141) 9 = .ok (.aload_n 0, 1) := by decide +kernel
theorem zd_141_10 : decode (zm_cc 141) 10 = .ok (.getfield 15, 3) := by decide +kernel
theorem zd_141_13 : decode (zm_cc 141) 13 = .ok (.iload_n 1, 1) := by decide +kernel
theorem zd_141_14 : decode (zm_cc 141) 14 = .ok (.iaload, 1) := by decide +kernel
theorem zd_141_15 : decode (zm_cc 141) 15 = .ok (.goto 5, 3) := by decide +kernel
theorem zd_141_18 : decode (zm_cc 141) 18 = .ok (.bipush 96, 2) := by decide +kernel
theorem zd_141_20 : decode (zm_cc 141) 20 = .ok (.ireturn, 1) := by decide +kernel
theorem zd_142_0 : decode (zm_cc 142) 0 = .ok (.iload_n 1, 1) := by decide +kernel
theorem zd_142_1 : decode (zm_cc 142) 1 = .ok (.ifCond .lt 17, 3) := by decide +kernel
theorem zd_142_4 : decode (zm_cc 142) 4 = .ok (.iload_n 1, 1) := by decide +kernel
theorem zd_142_5 : decode (zm_cc 142) 5 = .ok (.iconst 4, 1) := by decide +kernel
theorem zd_142_6 : decode (zm_cc 142) 6 = .ok (.if_icmp .ge 12, 3) := by decide +kernel
theorem zd_142_9 : decode (zm_cc 142) 9 = .ok (.aload_n 0, 1) := by decide +kernel
theorem zd_142_10 : decode (zm_cc 142) 10 = .ok (.getfield 9, 3) := by decide +kernel
theorem zd_142_13 : decode (zm_cc 142) 13 = .ok (.iload_n 1, 1) := by decide +kernel
theorem zd_142_14 : decode (zm_cc 142) 14 = .ok (.iaload, 1) := by decide +kernel
theorem zd_142_15 : decode (zm_cc 142) 15 = .ok (.goto 4, 3) := by decide +kernel
theorem zd_142_18 : decode (zm_cc 142) 18 = .ok (.iconst (-1), 1) := by decide +kernel
theorem zd_142_19 : decode (zm_cc 142) 19 = .ok (.ireturn, 1) := by decide +kernel
theorem zd_143_0 : decode (zm_cc 143) 0 = .ok (.iconst 0, 1) := by decide +kernel
theorem zd_143_1 : decode (zm_cc 143) 1 = .ok (.istore_n 2, 1) := by decide +kernel
theorem zd_143_2 : decode (zm_cc 143) 2 = .ok (.iload_n 2, 1) := by decide +kernel
theorem zd_143_3 : decode (zm_cc 143) 3 = .ok (.aload_n 0, 1) := by decide +kernel
theorem zd_143_4 : decode (zm_cc 143) 4 = .ok (.getfield 27, 3) := by decide +kernel
theorem zd_143_7 : decode (zm_cc 143) 7 = .ok (.getfield 83, 3) := by decide +kernel
theorem zd_143_10 : decode (zm_cc 143) 10 = .ok (.if_icmp .ge 73, 3) := by decide +kernel
theorem zd_143_13 : decode (zm_cc 143) 13 = .ok (.iload_n 1, 1) := by decide +kernel
theorem zd_143_14 : decode (zm_cc 143) 14 = .ok (.iconst (-1), 1) := by decide +kernel
theorem zd_143_15 : decode (zm_cc 143) 15 = .ok (.if_icmp .eq 68, 3) := by decide +kernel
theorem zd_143_18 : decode (zm_cc 143) 18 = .ok (.aload_n 0, 1) := by decide +kernel
theorem zd_143_19 : decode (zm_cc 143) 19 = .ok (.iload_n 2, 1) := by decide +kernel
theorem zd_143_20 : decode (zm_cc 143) 20 = .ok (.invokevirtual 74, 3) := by decide +kernel
theorem zd_143_23 : decode (zm_cc 143) 23 = .ok (.bipush 17, 2) := by decide +kernel
theorem zd_143_25 : decode (zm_cc 143) 25 = .ok (.iushr, 1) := by decide +kernel
theorem zd_143_26 : decode (zm_cc 143) 26 = .ok (.iconst 1, 1) := by decide +kernel
theorem zd_143_27 : decode (zm_cc 143) 27 = .ok (.iand, 1) := by decide +kernel
theorem zd_143_28 : decode (zm_cc 143) 28 = .ok (.ifCond .eq 33, 3) := by decide +kernel
theorem zd_143_31 : decode (zm_cc 143) 31 = .ok (.aload_n 0, 1) := by decide +kernel
theorem zd_143_32 : decode (zm_cc 143) 32 = .ok (.iload_n 2, 1) := by decide +kernel
theorem zd_143_33 : decode (zm_cc 143) 33 = .ok (.invokevirtual 65, 3) := by decide +kernel
theorem zd_143_36 : decode (zm_cc 143) 36 = .ok (.iconst 1, 1) := by decide +kernel
theorem zd_143_37 : decode (zm_cc 143) 37 = .ok (.if_icmp .ne 24, 3) := by decide +kernel
theorem zd_143_40 : decode (zm_cc 143) 40 = .ok (.aload_n 0, 1) := by decide +kernel
theorem zd_143_41 : decode (zm_cc 143) 41 = .ok (.getfield 27, 3) := by decide +kernel
theorem zd_143_44 : decode (zm_cc 143) 44 = .ok (.getfield 86, 3) := by decide +kernel
theorem zd_143_47 : decode (zm_cc 143) 47 = .ok (.aload_n 0, 1) := by decide +kernel
theorem zd_143_48 : decode (zm_cc 143) 48 = .ok (.iload_n 2, 1) := by decide +kernel
theorem zd_143_49 : decode (zm_cc 143) 49 = .ok (.invokevirtual 63, 3) := by decide +kernel
theorem zd_143_52 : decode (zm_cc 143) 52 = .ok (.iaload, 1) := by decide +kernel
theorem zd_143_53 : decode (zm_cc 143) 53 = .ok (.iload_n 1, 1) := by decide +kernel
theorem zd_143_54 : decode (zm_cc 143) 54 = .ok (.if_icmp .ne 7, 3) := by decide +kernel
theorem zd_143_57 : decode (zm_cc 143) 57 = .ok (.iconst 1, 1) := by decide +kernel
theorem zd_143_58 : decode (zm_cc 143) 58 = .ok (.goto 4, 3) := by decide +kernel
theorem zd_143_61 : decode (zm_cc 143) 61 = .ok (.iconst 0, 1) := by decide +kernel
theorem zd_143_62 : decode (zm_cc 143) 62 = .ok (.istore_n 3, 1) := by decide +kernel
theorem zd_143_63 : decode (zm_cc 143) 63 = .ok (.iload_n 3, 1) := by decide +kernel
theorem zd_143_64 : decode (zm_cc 143) 64 = .ok (.ifCond .eq 13, 3) := by decide +kernel
theorem zd_143_67 : decode (zm_cc 143) 67 = .ok (.aload_n 0, 1) := by decide +kernel
theorem zd_143_68 : decode (zm_cc 143) 68 = .ok (.iload_n 2, 1) := by decide +kernel
theorem zd_143_69 : decode (zm_cc 143) 69 = .ok (.invokevirtual 89, 3) := by decide +kernel
theorem zd_143_72 : decode (zm_cc 143) 72 = .ok (.ifCond .eq 5, 3) := by decide +kernel
theorem zd_143_75 : decode (zm_cc 143) 75 = .ok (.iload_n 2, 1) := by decide +kernel
theorem zd_143_76 : decode (zm_cc 143) 76 = .ok (.ireturn, 1) := by decide +kernel
theorem zd_143_77 : decode (zm_cc 143) 77 = .ok (.iinc 2 1, 3) := by decide +kernel
theorem zd_143_80 : decode (zm_cc 143) 80 = .ok (.goto (-78), 3) := by decide +kernel
theorem zd_143_83 : decode (zm_cc 143) 83 = .ok (.iconst (-1), 1) := by decide +kernel
theorem zd_143_84 : decode (zm_cc 143) 84 = .ok (.ireturn, 1) := by decide +kernel
theorem zd_144_0 : decode (zm_cc 144) 0 = .ok (.iload_n 1, 1) := by decide +kernel
theorem zd_144_1 : decode (zm_cc 144) 1 = .ok (.ifCond .lt 19, 3) := by decide +kernel
theorem zd_144_4 : decode (zm_cc 144) 4 = .ok (.iload_n 1, 1) := by decide +kernel
theorem zd_144_5 : decode (zm_cc 144) 5 = .ok (.iconst 4, 1) := by decide +kernel
theorem zd_144_6 : decode (zm_cc 144) 6 = .ok (.if_icmp .ge 14, 3) := by decide +kernel
theorem zd_144_9 : decode (zm_cc 144) 9 = .ok (.aload_n 0, 1) := by decide +kernel
theorem zd_144_10 : decode (zm_cc 144) 10 = .ok (.getfield 21, 3) := by decide +kernel
theorem zd_144_13 : decode (zm_cc 144) 13 = .ok (.iload_n 1, 1) := by decide +kernel
theorem zd_144_14 : decode (zm_cc 144) 14 = .ok (.iconst 1, 1) := by decide +kernel
theorem zd_144_15 : decode (zm_cc 144) 15 = .ok (.iadd, 1) := by decide +kernel
theorem zd_144_16 : decode (zm_cc 144) 16 = .ok (.iaload, 1) := by decide +kernel
theorem zd_144_17 : decode (zm_cc 144) 17 = .ok (.goto 4, 3) := by decide +kernel
theorem zd_144_20 : decode (zm_cc 144) 20 = .ok (.iconst 0, 1) := by decide +kernel
theorem zd_144_21 : decode (zm_cc 144) 21 = .ok (.ireturn, 1) := by decide +kernel
theorem zd_145_0 : decode (zm_cc 145) 0 = .ok (.aload_n 0, 1) := by decide +kernel
theorem zd_145_1 : decode (zm_cc 145) 1 = .ok (.iload_n 1, 1) := by decide +kernel
theorem zd_145_2 : decode (zm_cc 145) 2 = .ok (.invokevirtual 65, 3) := by decide +kernel
theorem zd_145_5 : decode (zm_cc 145) 5 = .ok (.istore_n 2, 1) := by decide +kernel
theorem zd_145_6 : decode (zm_cc 145) 6 = .ok (.aload_n 0, 1) := by decide +kernel
theorem zd_145_7 : decode (zm_cc 145) 7 = .ok (.iload_n 1, 1) := by decide +kernel
theorem zd_145_8 : decode (zm_cc 145) 8 = .ok (.invokevirtual 63, 3) := by decide +kernel
theorem zd_145_11 : decode (zm_cc 145) 11 = .ok (.istore_n 3, 1) := by decide +kernel
theorem zd_145_12 : decode (zm_cc 145) 12 = .ok (.aload_n 0, 1) := by decide +kernel
theorem zd_145_13 : decode (zm_cc 145) 13 = .ok (.getfield 27, 3) := by decide +kernel
theorem zd_145_16 : decode (zm_cc 145) 16 = .ok (.getfield 71, 3) := by decide +kernel
theorem zd_145_19 : decode (zm_cc 145) 19 = .ok (.iload_n 3, 1) := by decide +kernel
theorem zd_145_20 : decode (zm_cc 145) 20 = .ok (.iaload, 1) := by decide +kernel
theorem zd_145_21 : decode (zm_cc 145) 21 = .ok (.istore 4, 2) := by decide +kernel
theorem zd_145_23 : decode (zm_cc 145) 23 = .ok (.iload_n 2, 1) := by decide +kernel
theorem zd_145_24 : decode (zm_cc 145) 24 = .ok (.iconst 3, 1) := by decide +kernel
theorem zd_145_25 : decode (zm_cc 145) 25 = .ok (.if_icmp .ne 19, 3) := by decide +kernel
theorem zd_145_28 : decode (zm_cc 145) 28 = .ok (.aload_n 0, 1) := by decide +kernel
theorem zd_145_29 : decode (zm_cc 145) 29 = .ok (.iload 4, 2) := by decide +kernel
theorem zd_145_31 : decode (zm_cc 145) 31 = .ok (.invokevirtual 77, 3) := by decide +kernel
theorem zd_145_34 : decode (zm_cc 145) 34 = .ok (.iconst (-1), 1) := by decide +kernel
theorem zd_145_35 : decode (zm_cc 145) 35 = .ok (.if_icmp .ne 7, 3) := by decide +kernel
theorem zd_145_38 : decode (zm_cc 145) 38 = .ok (.iconst 1, 1) := by decide +kernel
theorem zd_145_39 : decode (zm_cc 145) 39 = .ok (.goto 4, 3) := by decide +kernel
theorem zd_145_42 : decode (zm_cc 145) 42 = .ok (.iconst 0, 1) := by decide +kernel
theorem zd_145_43 : decode (zm_cc 145) 43 = .ok (.ireturn, 1) := by decide +kernel
theorem zd_145_44 : decode (zm_cc 145) 44 = .ok (.iload_n 2, 1) := by decide +kernel
theorem zd_145_45 : decode (zm_cc 145) 45 = .ok (.iconst 1, 1) := by decide +kernel
theorem zd_145_46 : decode (zm_cc 145) 46 = .ok (.if_icmp .eq 5, 3) := by decide +kernel
theorem zd_145_49 : decode (zm_cc 145) 49 = .ok (.iconst 0, 1) := by decide +kernel
theorem zd_145_50 : decode (zm_cc 145) 50 = .ok (.ireturn, 1) := by decide +kernel
theorem zd_145_51 : decode (zm_cc 145) 51 = .ok (.aload_n 0, 1) := by decide +kernel
theorem zd_145_52 : decode (zm_cc 145) 52 = .ok (.getfield 27, 3) := by decide +kernel
theorem zd_145_55 : decode (zm_cc 145) 55 = .ok (.getfield 80, 3) := by decide +kernel
theorem zd_145_58 : decode (zm_cc 145) 58 = .ok (.iload_n 3, 1) := by decide +kernel
theorem zd_145_59 : decode (zm_cc 145) 59 = .ok (.iaload, 1) := by decide +kernel
theorem zd_145_60 : decode (zm_cc 145) 60 = .ok (.lookupswitch 80 #[(3, 28), (11, 54)], 28) := by decide +kernel
theorem zd_145_88 : decode (zm_cc 145) 88 = .ok (.aload_n 0, 1) := by decide +kernel
theorem zd_145_89 : decode (zm_cc 145) 89 = .ok (.iload 4, 2) := by decide +kernel
theorem zd_145_91 : decode (zm_cc 145) 91 = .ok (.invokevirtual 77, 3) := by decide +kernel
theorem zd_145_94 : decode (zm_cc 145) 94 = .ok (.iconst (-1), 1) := by decide +kernel
theorem zd_145_95 : decode (zm_cc 145) 95 = .ok (.if_icmp .eq 13, 3) := by decide +kernel
