/-! decode rows -/
theorem zd_86_111 : decode (zm_cc 86) 111 = .ok (.invokestatic 195, 3) := by decide +kernel
theorem zd_86_114 : decode (zm_cc 86) 114 = .ok (.ifCond .ne 19, 3) := by decide +kernel
theorem zd_86_117 : decode (zm_cc 86) 117 = .ok (.aload_n 0, 1) := by decide +kernel
theorem zd_86_118 : decode (zm_cc 86) 118 = .ok (.iload_n 1, 1) := by decide +kernel
theorem zd_86_119 : decode (zm_cc 86) 119 = .ok (.aload_n 0, 1) := by decide +kernel
theorem zd_86_120 : decode (zm_cc 86) 120 = .ok (.getfield 155, 3) := by decide +kernel
theorem zd_86_123 : decode (zm_cc 86) 123 = .ok (.iadd, 1) := by decide +kernel
theorem zd_86_124 : decode (zm_cc 86) 124 = .ok (.invokevirtual 158, 3) := by decide +kernel
theorem zd_86_127 : decode (zm_cc 86) 127 = .ok (.invokestatic 199, 3) := by decide +kernel
theorem zd_86_130 : decode (zm_cc 86) 130 = .ok (.ifCond .eq 16, 3) := by decide +kernel
theorem zd_86_133 : decode (zm_cc 86) 133 = .ok (.aload_n 0, 1) := by decide +kernel
theorem zd_86_134 : decode (zm_cc 86) 134 = .ok (.dup, 1) := by decide +kernel
theorem zd_86_135 : decode (zm_cc 86) 135 = .ok (.getfield 155, 3) := by decide +kernel
theorem zd_86_138 : decode (zm_cc 86) 138 = .ok (.iconst 1, 1) := by decide +kernel
theorem zd_86_139 : decode (zm_cc 86) 139 = .ok (.iadd, 1) := by decide +kernel
theorem zd_86_140 : decode (zm_cc 86) 140 = .ok (.putfield 155, 3) := by decide +kernel
theorem zd_86_143 : decode (zm_cc 86) 143 = .ok (.goto (-42), 3) := by decide +kernel
theorem zd_86_146 : decode (zm_cc 86) 146 = .ok (.aload_n 0, 1) := by decide +kernel
theorem zd_86_147 : decode (zm_cc 86) 147 = .ok (.aload_n 0, 1) := by decide +kernel
theorem zd_86_148 : decode (zm_cc 86) 148 = .ok (.getfield 155, 3) := by decide +kernel
theorem zd_86_151 : decode (zm_cc 86) 151 = .ok (.bipush 6, 2) := by decide +kernel
theorem zd_86_153 : decode (zm_cc 86) 153 = .ok (.if_icmp .le 7, 3) := by decide +kernel
theorem zd_86_156 : decode (zm_cc 86) 156 = .ok (.iconst 1, 1) := by decide +kernel
theorem zd_86_157 : decode (zm_cc 86) 157 = .ok (.goto 4, 3) := by decide +kernel
theorem zd_86_160 : decode (zm_cc 86) 160 = .ok (.iconst 2, 1) := by decide +kernel
theorem zd_86_161 : decode (zm_cc 86) 161 = .ok (.putfield 148, 3) := by decide +kernel
theorem zd_86_164 : decode (zm_cc 86) 164 = .ok (.aload_n 0, 1) := by decide +kernel
theorem zd_86_165 : decode (zm_cc 86) 165 = .ok (.getfield 148, 3) := by decide +kernel
theorem zd_86_168 : decode (zm_cc 86) 168 = .ok (.iconst 2, 1) := by decide +kernel
theorem zd_86_169 : decode (zm_cc 86) 169 = .ok (.if_icmp .ne 200, 3) := by decide +kernel
theorem zd_86_172 : decode (zm_cc 86) 172 = .ok (.aload_n 0, 1) := by decide +kernel
theorem zd_86_173 : decode (zm_cc 86) 173 = .ok (.invokevirtual 202, 3) := by decide +kernel
theorem zd_86_176 : decode (zm_cc 86) 176 = .ok (.ifCond .le 193, 3) := by decide +kernel
theorem zd_86_179 : decode (zm_cc 86) 179 = .ok (.aload_n 0, 1) := by decide +kernel
theorem zd_86_180 : decode (zm_cc 86) 180 = .ok (.iconst 5, 1) := by decide +kernel
theorem zd_86_181 : decode (zm_cc 86) 181 = .ok (.putfield 148, 3) := by decide +kernel
theorem zd_86_184 : decode (zm_cc 86) 184 = .ok (.aload_n 0, 1) := by decide +kernel
theorem zd_86_185 : decode (zm_cc 86) 185 = .ok (.aload_n 0, 1) := by decide +kernel
theorem zd_86_186 : decode (zm_cc 86) 186 = .ok (.invokevirtual 202, 3) := by decide +kernel
theorem zd_86_189 : decode (zm_cc 86) 189 = .ok (.putfield 192, 3) := by decide +kernel
theorem zd_86_192 : decode (zm_cc 86) 192 = .ok (.goto 177, 3) := by decide +kernel
theorem zd_86_195 : decode (zm_cc 86) 195 = .ok (.iload_n 2, 1) := by decide +kernel
theorem zd_86_196 : decode (zm_cc 86) 196 = .ok (.invokestatic 199, 3) := by decide +kernel
theorem zd_86_199 : decode (zm_cc 86) 199 = .ok (.ifCond .eq 46, 3) := by decide +kernel
theorem zd_86_202 : decode (zm_cc 86) 202 = .ok (.aload_n 0, 1) := by decide +kernel
theorem zd_86_203 : decode (zm_cc 86) 203 = .ok (.iload_n 2, 1) := by decide +kernel
theorem zd_86_204 : decode (zm_cc 86) 204 = .ok (.bipush 48, 2) := by decide +kernel
theorem zd_86_206 : decode (zm_cc 86) 206 = .ok (.isub, 1) := by decide +kernel
theorem zd_86_207 : decode (zm_cc 86) 207 = .ok (.putfield 192, 3) := by decide +kernel
theorem zd_86_210 : decode (zm_cc 86) 210 = .ok (.aload_n 0, 1) := by decide +kernel
theorem zd_86_211 : decode (zm_cc 86) 211 = .ok (.aload_n 0, 1) := by decide +kernel
theorem zd_86_212 : decode (zm_cc 86) 212 = .ok (.getfield 192, 3) := by decide +kernel
theorem zd_86_215 : decode (zm_cc 86) 215 = .ok (.bipush 7, 2) := by decide +kernel
theorem zd_86_217 : decode (zm_cc 86) 217 = .ok (.if_icmp .gt 17, 3) := by decide +kernel
theorem zd_86_220 : decode (zm_cc 86) 220 = .ok (.iload_n 3, 1) := by decide +kernel
theorem zd_86_221 : decode (zm_cc 86) 221 = .ok (.invokestatic 199, 3) := by decide +kernel
theorem zd_86_224 : decode (zm_cc 86) 224 = .ok (.ifCond .ne 10, 3) := by decide +kernel
theorem zd_86_227 : decode (zm_cc 86) 227 = .ok (.iload_n 3, 1) := by decide +kernel
theorem zd_86_228 : decode (zm_cc 86) 228 = .ok (.invokestatic 195, 3) := by decide +kernel
theorem zd_86_231 : decode (zm_cc 86) 231 = .ok (.ifCond .eq 7, 3) := by decide +kernel
theorem zd_86_234 : decode (zm_cc 86) 234 = .ok (.iconst 1, 1) := by decide +kernel
theorem zd_86_235 : decode (zm_cc 86) 235 = .ok (.goto 4, 3) := by decide +kernel
theorem zd_86_238 : decode (zm_cc 86) 238 = .ok (.iconst 3, 1) := by decide +kernel
theorem zd_86_239 : decode (zm_cc 86) 239 = .ok (.putfield 148, 3) := by decide +kernel
theorem zd_86_242 : decode (zm_cc 86) 242 = .ok (.goto 127, 3) := by decide +kernel
theorem zd_86_245 : decode (zm_cc 86) 245 = .ok (.iload_n 2, 1) := by decide +kernel
theorem zd_86_246 : decode (zm_cc 86) 246 = .ok (.bipush 61, 2) := by decide +kernel
theorem zd_86_248 : decode (zm_cc 86) 248 = .ok (.if_icmp .eq 9, 3) := by decide +kernel
theorem zd_86_251 : decode (zm_cc 86) 251 = .ok (.iload_n 2, 1) := by decide +kernel
theorem zd_86_252 : decode (zm_cc 86) 252 = .ok (.bipush 33, 2) := by decide +kernel
theorem zd_86_254 : decode (zm_cc 86) 254 = .ok (.if_icmp .ne 41, 3) := by decide +kernel
theorem zd_86_257 : decode (zm_cc 86) 257 = .ok (.iload_n 3, 1) := by decide +kernel
theorem zd_86_258 : decode (zm_cc 86) 258 = .ok (.bipush 61, 2) := by decide +kernel
theorem zd_86_260 : decode (zm_cc 86) 260 = .ok (.if_icmp .ne 35, 3) := by decide +kernel
theorem zd_86_263 : decode (zm_cc 86) 263 = .ok (.aload_n 0, 1) := by decide +kernel
theorem zd_86_264 : decode (zm_cc 86) 264 = .ok (.iconst 2, 1) := by decide +kernel
theorem zd_86_265 : decode (zm_cc 86) 265 = .ok (.putfield 155, 3) := by decide +kernel
theorem zd_86_268 : decode (zm_cc 86) 268 = .ok (.aload_n 0, 1) := by decide +kernel
theorem zd_86_269 : decode (zm_cc 86) 269 = .ok (.iconst 4, 1) := by decide +kernel
theorem zd_86_270 : decode (zm_cc 86) 270 = .ok (.putfield 148, 3) := by decide +kernel
theorem zd_86_273 : decode (zm_cc 86) 273 = .ok (.aload_n 0, 1) := by decide +kernel
theorem zd_86_274 : decode (zm_cc 86) 274 = .ok (.iload_n 2, 1) := by decide +kernel
theorem zd_86_275 : decode (zm_cc 86) 275 = .ok (.bipush 61, 2) := by decide +kernel
theorem zd_86_277 : decode (zm_cc 86) 277 = .ok (.if_icmp .ne 9, 3) := by decide +kernel
theorem zd_86_280 : decode (zm_cc 86) 280 = .ok (.sipush 1000, 3) := by decide +kernel
theorem zd_86_283 : decode (zm_cc 86) 283 = .ok (.goto 6, 3) := by decide +kernel
theorem zd_86_286 : decode (zm_cc 86) 286 = .ok (.sipush 1001, 3) := by decide +kernel
theorem zd_86_289 : decode (zm_cc 86) 289 = .ok (.putfield 192, 3) := by decide +kernel
theorem zd_86_292 : decode (zm_cc 86) 292 = .ok (.goto 77, 3) := by decide +kernel
theorem zd_86_295 : decode (zm_cc 86) 295 = .ok (.iload_n 2, 1) := by decide +kernel
theorem zd_86_296 : decode (zm_cc 86) 296 = .ok (.bipush 61, 2) := by decide +kernel
theorem zd_86_298 : decode (zm_cc 86) 298 = .ok (.if_icmp .eq 45, 3) := by decide +kernel
theorem zd_86_301 : decode (zm_cc 86) 301 = .ok (.iload_n 2, 1) := by decide +kernel
theorem zd_86_302 : decode (zm_cc 86) 302 = .ok (.bipush 59, 2) := by decide +kernel
theorem zd_86_304 : decode (zm_cc 86) 304 = .ok (.if_icmp .eq 39, 3) := by decide +kernel
theorem zd_86_307 : decode (zm_cc 86) 307 = .ok (.iload_n 2, 1) := by decide +kernel
theorem zd_86_308 : decode (zm_cc 86) 308 = .ok (.bipush 123, 2) := by decide +kernel
theorem zd_86_310 : decode (zm_cc 86) 310 = .ok (.if_icmp .eq 33, 3) := by decide +kernel
theorem zd_86_313 : decode (zm_cc 86) 313 = .ok (.iload_n 2, 1) := by decide +kernel
theorem zd_86_314 : decode (zm_cc 86) 314 = .ok (.bipush 125, 2) := by decide +kernel
theorem zd_86_316 : decode (zm_cc 86) 316 = .ok (.if_icmp .eq 27, 3) := by decide +kernel
theorem zd_86_319 : decode (zm_cc 86) 319 = .ok (.iload_n 2, 1) := by decide +kernel
theorem zd_86_320 : decode (zm_cc 86) 320 = .ok (.bipush 60, 2) := by decide +kernel
theorem zd_86_322 : decode (zm_cc 86) 322 = .ok (.if_icmp .eq 21, 3) := by decide +kernel
theorem zd_86_325 : decode (zm_cc 86) 325 = .ok (.iload_n 2, 1) := by decide +kernel
theorem zd_86_326 : decode (zm_cc 86) 326 = .ok (.bipush 62, 2) := by decide +kernel
theorem zd_86_328 : decode (zm_cc 86) 328 = .ok (.if_icmp .eq 15, 3) := by decide +kernel
theorem zd_86_331 : decode (zm_cc 86) 331 = .ok (.iload_n 2, 1) := by decide +kernel
theorem zd_86_332 : decode (zm_cc 86) 332 = .ok (.bipush 43, 2) := by decide +kernel
theorem zd_86_334 : decode (zm_cc 86) 334 = .ok (.if_icmp .eq 9, 3) := by decide +kernel
theorem zd_86_337 : decode (zm_cc 86) 337 = .ok (.iload_n 2, 1) := by decide +kernel
theorem zd_86_338 : decode (zm_cc 86) 338 = .ok (.bipush 45, 2) := by decide +kernel
theorem zd_86_340 : decode (zm_cc 86) 340 = .ok (.if_icmp .ne 7, 3) := by decide +kernel
theorem zd_86_343 : decode (zm_cc 86) 343 = .ok (.iconst 1, 1) := by decide +kernel
theorem zd_86_344 : decode (zm_cc 86) 344 = .ok (.goto 4, 3) := by decide +kernel
theorem zd_86_347 : decode (zm_cc 86) 347 = .ok (.iconst 0, 1) := by decide +kernel
theorem zd_86_348 : decode (zm_cc 86) 348 = .ok (.istore 4, 2) := by decide +kernel
theorem zd_86_350 : decode (zm_cc 86) 350 = .ok (.aload_n 0, 1) := by decide +kernel
theorem zd_86_351 : decode (zm_cc 86) 351 = .ok (.iload 4, 2) := by decide +kernel
theorem zd_86_353 : decode (zm_cc 86) 353 = .ok (.ifCond .eq 7, 3) := by decide +kernel
theorem zd_86_356 : decode (zm_cc 86) 356 = .ok (.iconst 4, 1) := by decide +kernel
theorem zd_86_357 : decode (zm_cc 86) 357 = .ok (.goto 4, 3) := by decide +kernel
theorem zd_86_360 : decode (zm_cc 86) 360 = .ok (.iconst 1, 1) := by decide +kernel
theorem zd_86_361 : decode (zm_cc 86) 361 = .ok (.putfield 148, 3) := by decide +kernel
theorem zd_86_364 : decode (zm_cc 86) 364 = .ok (.aload_n 0, 1) := by decide +kernel
theorem zd_86_365 : decode (zm_cc 86) 365 = .ok (.iload_n 2, 1) := by decide +kernel
theorem zd_86_366 : decode (zm_cc 86) 366 = .ok (.putfield 192, 3) := by decide +kernel
theorem zd_86_369 : decode (zm_cc 86) 369 = .ok (.return_, 1) := by decide +kernel
theorem zd_87_0 : decode (zm_cc 87) 0 = .ok (.iload_n 1, 1) := by decide +kernel
theorem zd_87_1 : decode (zm_cc 87) 1 = .ok (.aload_n 0, 1) := by decide +kernel
theorem zd_87_2 : decode (zm_cc 87) 2 = .ok (.getfield 132, 3) := by decide +kernel
theorem zd_87_5 : decode (zm_cc 87) 5 = .ok (.if_icmp .ge 16, 3) := by decide +kernel
theorem zd_87_8 : decode (zm_cc 87) 8 = .ok (.aload_n 0, 1) := by decide +kernel
theorem zd_87_9 : decode (zm_cc 87) 9 = .ok (.getfield 17, 3) := by decide +kernel
theorem zd_87_12 : decode (zm_cc 87) 12 = .ok (.iload_n 1, 1) := by decide +kernel
theorem zd_87_13 : decode (zm_cc 87) 13 = .ok (.baload, 1) := by decide +kernel
theorem zd_87_14 : decode (zm_cc 87) 14 = .ok (.sipush 255, 3) := by decide +kernel
theorem zd_87_17 : decode (zm_cc 87) 17 = .ok (.iand, 1) := by decide +kernel
theorem zd_87_18 : decode (zm_cc 87) 18 = .ok (.goto 4, 3) := by decide +kernel
theorem zd_87_21 : decode (zm_cc 87) 21 = .ok (.iconst 0, 1) := by decide +kernel
theorem zd_87_22 : decode (zm_cc 87) 22 = .ok (.ireturn, 1) := by decide +kernel
theorem zd_88_0 : decode (zm_cc 88) 0 = .ok (.iload_n 0, 1) := by decide +kernel
theorem zd_88_1 : decode (zm_cc 88) 1 = .ok (.bipush 97, 2) := by decide +kernel
theorem zd_88_3 : decode (zm_cc 88) 3 = .ok (.bipush 122, 2) := by decide +kernel
theorem zd_88_5 : decode (zm_cc 88) 5 = .ok (.invokestatic 128, 3) := by decide +kernel
theorem zd_88_8 : decode (zm_cc 88) 8 = .ok (.ireturn, 1) := by decide +kernel
theorem zd_89_0 : decode (zm_cc 89) 0 = .ok (.iload_n 0, 1) := by decide +kernel
theorem zd_89_1 : decode (zm_cc 89) 1 = .ok (.bipush 48, 2) := by decide +kernel
theorem zd_89_3 : decode (zm_cc 89) 3 = .ok (.bipush 57, 2) := by decide +kernel
theorem zd_89_5 : decode (zm_cc 89) 5 = .ok (.invokestatic 128, 3) := by decide +kernel
theorem zd_89_8 : decode (zm_cc 89) 8 = .ok (.ireturn, 1) := by decide +kernel
theorem zd_90_0 : decode (zm_cc 90) 0 = .ok (.lconst 0, 1) := by decide +kernel
theorem zd_90_1 : decode (zm_cc 90) 1 = .ok (.lstore_n 1, 1) := by decide +kernel
theorem zd_90_2 : decode (zm_cc 90) 2 = .ok (.iconst 0, 1) := by decide +kernel
theorem zd_90_3 : decode (zm_cc 90) 3 = .ok (.istore_n 3, 1) := by decide +kernel
theorem zd_90_4 : decode (zm_cc 90) 4 = .ok (.iload_n 3, 1) := by decide +kernel
theorem zd_90_5 : decode (zm_cc 90) 5 = .ok (.aload_n 0, 1) := by decide +kernel
theorem zd_90_6 : decode (zm_cc 90) 6 = .ok (.getfield 155, 3) := by decide +kernel
theorem zd_90_9 : decode (zm_cc 90) 9 = .ok (.if_icmp .ge 26, 3) := by decide +kernel
theorem zd_90_12 : decode (zm_cc 90) 12 = .ok (.lload_n 1, 1) := by decide +kernel
theorem zd_90_13 : decode (zm_cc 90) 13 = .ok (.bipush 8, 2) := by decide +kernel
theorem zd_90_15 : decode (zm_cc 90) 15 = .ok (.lshl, 1) := by decide +kernel
theorem zd_90_16 : decode (zm_cc 90) 16 = .ok (.aload_n 0, 1) := by decide +kernel
theorem zd_90_17 : decode (zm_cc 90) 17 = .ok (.aload_n 0, 1) := by decide +kernel
theorem zd_90_18 : decode (zm_cc 90) 18 = .ok (.getfield 142, 3) := by decide +kernel
theorem zd_90_21 : decode (zm_cc 90) 21 = .ok (.iload_n 3, 1) := by decide +kernel
theorem zd_90_22 : decode (zm_cc 90) 22 = .ok (.iadd, 1) := by decide +kernel
theorem zd_90_23 : decode (zm_cc 90) 23 = .ok (.invokevirtual 158, 3) := by decide +kernel
theorem zd_90_26 : decode (zm_cc 90) 26 = .ok (.i2l, 1) := by decide +kernel
theorem zd_90_27 : decode (zm_cc 90) 27 = .ok (.lor, 1) := by decide +kernel
theorem zd_90_28 : decode (zm_cc 90) 28 = .ok (.lstore_n 1, 1) := by decide +kernel
theorem zd_90_29 : decode (zm_cc 90) 29 = .ok (.iinc 3 1, 3) := by decide +kernel
theorem zd_90_32 : decode (zm_cc 90) 32 = .ok (.goto (-28), 3) := by decide +kernel
theorem zd_90_35 : decode (zm_cc 90) 35 = .ok (.lload_n 1, 1) := by decide +kernel
theorem zd_90_36 : decode (zm_cc 90) 36 = .ok (.ldc2_w 162, 3) := by decide +kernel
theorem zd_90_39 : decode (zm_cc 90) 39 = .ok (.lcmp, 1) := by decide +kernel
theorem zd_90_40 : decode (zm_cc 90) 40 = .ok (.ifCond .ne 5, 3) := by decide +kernel
theorem zd_90_43 : decode (zm_cc 90) 43 = .ok (.iconst 1, 1) := by decide +kernel
theorem zd_90_44 : decode (zm_cc 90) 44 = .ok (.ireturn, 1) := by decide +kernel
theorem zd_90_45 : decode (zm_cc 90) 45 = .ok (.lload_n 1, 1) := by decide +kernel
theorem zd_90_46 : decode (zm_cc 90) 46 = .ok (.ldc2_w 164, 3) := by decide +kernel
theorem zd_90_49 : decode (zm_cc 90) 49 = .ok (.lcmp, 1) := by decide +kernel
theorem zd_90_50 : decode (zm_cc 90) 50 = .ok (.ifCond .ne 5, 3) := by decide +kernel
theorem zd_90_53 : decode (zm_cc 90) 53 = .ok (.iconst 2, 1) := by decide +kernel
theorem zd_90_54 : decode (zm_cc 90) 54 = .ok (.ireturn, 1) := by decide +kernel
theorem zd_90_55 : decode (zm_cc 90) 55 = .ok (.lload_n 1, 1) := by decide +kernel
theorem zd_90_56 : decode (zm_cc 90) 56 = .ok (.ldc2_w 166, 3) := by decide +kernel
theorem zd_90_59 : decode (zm_cc 90) 59 = .ok (.lcmp, 1) := by decide +kernel
theorem zd_90_60 : decode (zm_cc 90) 60 = .ok (.ifCond .ne 5, 3) := by decide +kernel
theorem zd_90_63 : decode (zm_cc 90) 63 = .ok (.iconst 3, 1) := by decide +kernel
theorem zd_90_64 : decode (zm_cc 90) 64 = .ok (.ireturn, 1) := by decide +kernel
theorem zd_90_65 : decode (zm_cc 90) 65 = .ok (.lload_n 1, 1) := by decide +kernel
theorem zd_90_66 : decode (zm_cc 90) 66 = .ok (.ldc2_w 168, 3) := by decide +kernel
theorem zd_90_69 : decode (zm_cc 90) 69 = .ok (.lcmp, 1) := by decide +kernel
theorem zd_90_70 : decode (zm_cc 90) 70 = .ok (.ifCond .ne 5, 3) := by decide +kernel
theorem zd_90_73 : decode (zm_cc 90) 73 = .ok (.iconst 4, 1) := by decide +kernel
theorem zd_90_74 : decode (zm_cc 90) 74 = .ok (.ireturn, 1) := by decide +kernel
theorem zd_90_75 : decode (zm_cc 90) 75 = .ok (.lload_n 1, 1) := by decide +kernel
theorem zd_90_76 : decode (zm_cc 90) 76 = .ok (.ldc2_w 170, 3) := by decide +kernel
theorem zd_90_79 : decode (zm_cc 90) 79 = .ok (.lcmp, 1) := by decide +kernel
theorem zd_90_80 : decode (zm_cc 90) 80 = .ok (.ifCond .ne 5, 3) := by decide +kernel
theorem zd_90_83 : decode (zm_cc 90) 83 = .ok (.iconst 5, 1) := by decide +kernel
theorem zd_90_84 : decode (zm_cc 90) 84 = .ok (.ireturn, 1) := by decide +kernel
theorem zd_90_85 : decode (zm_cc 90) 85 = .ok (.lload_n 1, 1) := by decide +kernel
theorem zd_90_86 : decode (zm_cc 90) 86 = .ok (.ldc2_w 172, 3) := by decide +kernel
theorem zd_90_89 : decode (zm_cc 90) 89 = .ok (.lcmp, 1) := by decide +kernel
theorem zd_90_90 : decode (zm_cc 90) 90 = .ok (.ifCond .ne 6, 3) := by decide +kernel
theorem zd_90_93 : decode (zm_cc 90) 93 = .ok (.bipush 6, 2) := by decide +kernel
theorem zd_90_95 : decode (zm_cc 90) 95 = .ok (.ireturn, 1) := by decide +kernel
theorem zd_90_96 : decode (zm_cc 90) 96 = .ok (.lload_n 1, 1) := by decide +kernel
theorem zd_90_97 : decode (zm_cc 90) 97 = .ok (.ldc2_w 174, 3) := by decide +kernel
theorem zd_90_100 : decode (zm_cc 90) 100 = .ok (.lcmp, 1) := by decide +kernel
theorem zd_90_101 : decode (zm_cc 90) 101 = .ok (.ifCond .ne 6, 3) := by decide +kernel
theorem zd_90_104 : decode (zm_cc 90) 104 = .ok (.bipush 7, 2) := by decide +kernel
theorem zd_90_106 : decode (zm_cc 90) 106 = .ok (.ireturn, 1) := by decide +kernel
theorem zd_90_107 : decode (zm_cc 90) 107 = .ok (.lload_n 1, 1) := by decide +kernel
theorem zd_90_108 : decode (zm_cc 90) 108 = .ok (.ldc2_w 176, 3) := by decide +kernel
theorem zd_90_111 : decode (zm_cc 90) 111 = .ok (.lcmp, 1) := by decide +kernel
theorem zd_90_112 : decode (zm_cc 90) 112 = .ok (.ifCond .ne 6, 3) := by decide +kernel
theorem zd_90_115 : decode (zm_cc 90) 115 = .ok (.bipush 8, 2) := by decide +kernel
theorem zd_90_117 : decode (zm_cc 90) 117 = .ok (.ireturn, 1) := by decide +kernel
theorem zd_90_118 : decode (zm_cc 90) 118 = .ok (.lload_n 1, 1) := by decide +kernel
theorem zd_90_119 : decode (zm_cc 90) 119 = .ok (.ldc2_w 178, 3) := by decide +kernel
theorem zd_90_122 : decode (zm_cc 90) 122 = .ok (.lcmp, 1) := by decide +kernel
theorem zd_90_123 : decode (zm_cc 90) 123 = .ok (.ifCond .ne 6, 3) := by decide +kernel
theorem zd_90_126 : decode (zm_cc 90) 126 = .ok (.bipush 9, 2) := by decide +kernel
theorem zd_90_128 : decode (zm_cc 90) 128 = .ok (.ireturn, 1) := by decide +kernel
theorem zd_90_129 : decode (zm_cc 90) 129 = .ok (.lload_n 1, 1) := by decide +kernel
theorem zd_90_130 : decode (zm_cc 90) 130 = .ok (.ldc2_w 180, 3) := by decide +kernel
theorem zd_90_133 : decode (zm_cc 90) 133 = .ok (.lcmp, 1) := by decide +kernel
theorem zd_90_134 : decode (zm_cc 90) 134 = .ok (.ifCond .ne 6, 3) := by decide +kernel
theorem zd_90_137 : decode (zm_cc 90) 137 = .ok (.bipush 10, 2) := by decide +kernel
theorem zd_90_139 : decode (zm_cc 90) 139 = .ok (.ireturn, 1) := by decide +kernel
theorem zd_90_140 : decode (zm_cc 90) 140 = .ok (.lload_n 1, 1) := by decide +kernel
theorem zd_90_141 : decode (zm_cc 90) 141 = .ok (.ldc2_w 182, 3) := by decide +kernel
theorem zd_90_144 : decode (zm_cc 90) 144 = .ok (.lcmp, 1) := by decide +kernel
theorem zd_90_145 : decode (zm_cc 90) 145 = .ok (.ifCond .ne 6, 3) := by decide +kernel
theorem zd_90_148 : decode (zm_cc 90) 148 = .ok (.bipush 11, 2) := by decide +kernel
theorem zd_90_150 : decode (zm_cc 90) 150 = .ok (.ireturn, 1) := by decide +kernel
theorem zd_90_151 : decode (zm_cc 90) 151 = .ok (.lload_n 1, 1) := by decide +kernel
theorem zd_90_152 : decode (zm_cc 90) 152 = .ok (.ldc2_w 184, 3) := by decide +kernel
theorem zd_90_155 : decode (zm_cc 90) 155 = .ok (.lcmp, 1) := by decide +kernel
theorem zd_90_156 : decode (zm_cc 90) 156 = .ok (.ifCond .ne 6, 3) := by decide +kernel
theorem zd_90_159 : decode (zm_cc 90) 159 = .ok (.bipush 12, 2) := by decide +kernel
theorem zd_90_161 : decode (zm_cc 90) 161 = .ok (.ireturn, 1) := by decide +kernel
theorem zd_90_162 : decode (zm_cc 90) 162 = .ok (.lload_n 1, 1) := by decide +kernel
theorem zd_90_163 : decode (zm_cc 90) 163 = .ok (.ldc2_w 186, 3) := by decide +kernel
theorem zd_90_166 : decode (zm_cc 90) 166 = .ok (.lcmp, 1) := by decide +kernel
theorem zd_90_167 : decode (zm_cc 90) 167 = .ok (.ifCond .ne 6, 3) := by decide +kernel
theorem zd_90_170 : decode (zm_cc 90) 170 = .ok (.bipush 13, 2) := by decide +kernel
theorem zd_90_172 : decode (zm_cc 90) 172 = .ok (.ireturn, 1) := by decide +kernel
theorem zd_90_173 : decode (zm_cc 90) 173 = .ok (.lload_n 1, 1) := by decide +kernel
theorem zd_90_174 : decode (zm_cc 90) 174 = .ok (.ldc2_w 188, 3) := by decide +kernel
theorem zd_90_177 : decode (zm_cc 90) 177 = .ok (.lcmp, 1) := by decide +kernel
theorem zd_90_178 : decode (zm_cc 90) 178 = .ok (.ifCond .ne 6, 3) := by decide +kernel
theorem zd_90_181 : decode (zm_cc 90) 181 = .ok (.bipush 14, 2) := by decide +kernel
theorem zd_90_183 : decode (zm_cc 90) 183 = .ok (.ireturn, 1) := by decide +kernel
theorem zd_90_184 : decode (zm_cc 90) 184 = .ok (.lload_n 1, 1) := by decide +kernel
theorem zd_90_185 : decode (zm_cc 90) 185 = .ok (.ldc2_w 190, 3) := by decide +kernel
theorem zd_90_188 : decode (zm_cc 90) 188 = .ok (.lcmp, 1) := by decide +kernel
theorem zd_90_189 : decode (zm_cc 90) 189 = .ok (.ifCond .ne 6, 3) := by decide +kernel
theorem zd_90_192 : decode (zm_cc 90) 192 = .ok (.bipush 15, 2) := by decide +kernel
theorem zd_90_194 : decode (zm_cc 90) 194 = .ok (.ireturn, 1) := by decide +kernel
theorem zd_90_195 : decode (zm_cc 90) 195 = .ok (.iconst 0, 1) := by decide +kernel
theorem zd_90_196 : decode (zm_cc 90) 196 = .ok (.ireturn, 1) := by decide +kernel
theorem zd_91_0 : decode (zm_cc 91) 0 = .ok (.aload_n 0, 1) := by decide +kernel
theorem zd_91_1 : decode (zm_cc 91) 1 = .ok (.getfield 148, 3) := by decide +kernel
theorem zd_91_4 : decode (zm_cc 91) 4 = .ok (.iconst 5, 1) := by decide +kernel
theorem zd_91_5 : decode (zm_cc 91) 5 = .ok (.if_icmp .ne 15, 3) := by decide +kernel
theorem zd_91_8 : decode (zm_cc 91) 8 = .ok (.aload_n 0, 1) := by decide +kernel
theorem zd_91_9 : decode (zm_cc 91) 9 = .ok (.getfield 192, 3) := by decide +kernel
theorem zd_91_12 : decode (zm_cc 91) 12 = .ok (.iload_n 1, 1) := by decide +kernel
theorem zd_91_13 : decode (zm_cc 91) 13 = .ok (.if_icmp .ne 7, 3) := by decide +kernel
theorem zd_91_16 : decode (zm_cc 91) 16 = .ok (.iconst 1, 1) := by decide +kernel
theorem zd_91_17 : decode (zm_cc 91) 17 = .ok (.goto 4, 3) := by decide +kernel
theorem zd_91_20 : decode (zm_cc 91) 20 = .ok (.iconst 0, 1) := by decide +kernel
theorem zd_91_21 : decode (zm_cc 91) 21 = .ok (.ireturn, 1) := by decide +kernel
theorem zd_92_0 : decode (zm_cc 92) 0 = .ok (.aload_n 0, 1) := by decide +kernel
theorem zd_92_1 : decode (zm_cc 92) 1 = .ok (.getfield 148, 3) := by decide +kernel
theorem zd_92_4 : decode (zm_cc 92) 4 = .ok (.iconst 2, 1) := by decide +kernel
theorem zd_92_5 : decode (zm_cc 92) 5 = .ok (.if_icmp .eq 10, 3) := by decide +kernel
theorem zd_92_8 : decode (zm_cc 92) 8 = .ok (.aload_n 0, 1) := by decide +kernel
theorem zd_92_9 : decode (zm_cc 92) 9 = .ok (.invokevirtual 212, 3) := by decide +kernel
theorem zd_92_12 : decode (zm_cc 92) 12 = .ok (.goto 42, 3) := by decide +kernel
theorem zd_92_15 : decode (zm_cc 92) 15 = .ok (.aload_n 0, 1) := by decide +kernel
theorem zd_92_16 : decode (zm_cc 92) 16 = .ok (.invokevirtual 277, 3) := by decide +kernel
theorem zd_92_19 : decode (zm_cc 92) 19 = .ok (.ifCond .eq 11, 3) := by decide +kernel
theorem zd_92_22 : decode (zm_cc 92) 22 = .ok (.aload_n 0, 1) := by decide +kernel
theorem zd_92_23 : decode (zm_cc 92) 23 = .ok (.iconst 3, 1) := by decide +kernel
theorem zd_92_24 : decode (zm_cc 92) 24 = .ok (.invokevirtual 151, 3) := by decide +kernel
theorem zd_92_27 : decode (zm_cc 92) 27 = .ok (.goto 27, 3) := by decide +kernel
theorem zd_92_30 : decode (zm_cc 92) 30 = .ok (.iload_n 2, 1) := by decide +kernel
theorem zd_92_31 : decode (zm_cc 92) 31 = .ok (.iload_n 3, 1) := by decide +kernel
theorem zd_92_32 : decode (zm_cc 92) 32 = .ok (.if_icmp .ne 11, 3) := by decide +kernel
theorem zd_92_35 : decode (zm_cc 92) 35 = .ok (.aload_n 0, 1) := by decide +kernel
theorem zd_92_36 : decode (zm_cc 92) 36 = .ok (.iconst 4, 1) := by decide +kernel
theorem zd_92_37 : decode (zm_cc 92) 37 = .ok (.invokevirtual 151, 3) := by decide +kernel
theorem zd_92_40 : decode (zm_cc 92) 40 = .ok (.goto 14, 3) := by decide +kernel
theorem zd_92_43 : decode (zm_cc 92) 43 = .ok (.aload_n 0, 1) := by decide +kernel
theorem zd_92_44 : decode (zm_cc 92) 44 = .ok (.iload_n 1, 1) := by decide +kernel
theorem zd_92_45 : decode (zm_cc 92) 45 = .ok (.iload_n 2, 1) := by decide +kernel
theorem zd_92_46 : decode (zm_cc 92) 46 = .ok (.iadd, 1) := by decide +kernel
theorem zd_92_47 : decode (zm_cc 92) 47 = .ok (.invokevirtual 274, 3) := by decide +kernel
theorem zd_92_50 : decode (zm_cc 92) 50 = .ok (.aload_n 0, 1) := by decide +kernel
theorem zd_92_51 : decode (zm_cc 92) 51 = .ok (.invokevirtual 209, 3) := by decide +kernel
theorem zd_92_54 : decode (zm_cc 92) 54 = .ok (.return_, 1) := by decide +kernel
theorem zd_93_0 : decode (zm_cc 93) 0 = .ok (.aload_n 0, 1) := by decide +kernel
theorem zd_93_1 : decode (zm_cc 93) 1 = .ok (.aload_n 0, 1) := by decide +kernel
theorem zd_93_2 : decode (zm_cc 93) 2 = .ok (.getfield 148, 3) := by decide +kernel
theorem zd_93_5 : decode (zm_cc 93) 5 = .ok (.iconst 1, 1) := by decide +kernel
theorem zd_93_6 : decode (zm_cc 93) 6 = .ok (.if_icmp .ne 7, 3) := by decide +kernel
theorem zd_93_9 : decode (zm_cc 93) 9 = .ok (.iconst 1, 1) := by decide +kernel
theorem zd_93_10 : decode (zm_cc 93) 10 = .ok (.goto 4, 3) := by decide +kernel
theorem zd_93_13 : decode (zm_cc 93) 13 = .ok (.iconst 2, 1) := by decide +kernel
theorem zd_93_14 : decode (zm_cc 93) 14 = .ok (.invokevirtual 151, 3) := by decide +kernel
theorem zd_93_17 : decode (zm_cc 93) 17 = .ok (.return_, 1) := by decide +kernel
theorem zd_94_0 : decode (zm_cc 94) 0 = .ok (.aload_n 0, 1) := by decide +kernel
theorem zd_94_1 : decode (zm_cc 94) 1 = .ok (.getfield 135, 3) := by decide +kernel
theorem zd_94_4 : decode (zm_cc 94) 4 = .ok (.ifCond .ne 21, 3) := by decide +kernel
theorem zd_94_7 : decode (zm_cc 94) 7 = .ok (.aload_n 0, 1) := by decide +kernel
theorem zd_94_8 : decode (zm_cc 94) 8 = .ok (.iconst 1, 1) := by decide +kernel
theorem zd_94_9 : decode (zm_cc 94) 9 = .ok (.putfield 135, 3) := by decide +kernel
theorem zd_94_12 : decode (zm_cc 94) 12 = .ok (.aload_n 0, 1) := by decide +kernel
theorem zd_94_13 : decode (zm_cc 94) 13 = .ok (.iload_n 1, 1) := by decide +kernel
theorem zd_94_14 : decode (zm_cc 94) 14 = .ok (.putfield 139, 3) := by decide +kernel
theorem zd_94_17 : decode (zm_cc 94) 17 = .ok (.aload_n 0, 1) := by decide +kernel
theorem zd_94_18 : decode (zm_cc 94) 18 = .ok (.aload_n 0, 1) := by decide +kernel
theorem zd_94_19 : decode (zm_cc 94) 19 = .ok (.getfield 142, 3) := by decide +kernel
theorem zd_94_22 : decode (zm_cc 94) 22 = .ok (.putfield 145, 3) := by decide +kernel
theorem zd_94_25 : decode (zm_cc 94) 25 = .ok (.return_, 1) := by decide +kernel
theorem zd_95_0 : decode (zm_cc 95) 0 = .ok (.aload_n 0, 1) := by decide +kernel
theorem zd_95_1 : decode (zm_cc 95) 1 = .ok (.invokevirtual 228, 3) := by decide +kernel
theorem zd_95_4 : decode (zm_cc 95) 4 = .ok (.iconst (-1), 1) := by decide +kernel
theorem zd_95_5 : decode (zm_cc 95) 5 = .ok (.if_icmp .ne 19, 3) := by decide +kernel
theorem zd_95_8 : decode (zm_cc 95) 8 = .ok (.aload_n 0, 1) := by decide +kernel
theorem zd_95_9 : decode (zm_cc 95) 9 = .ok (.invokevirtual 231, 3) := by decide +kernel
theorem zd_95_12 : decode (zm_cc 95) 12 = .ok (.iconst (-1), 1) := by decide +kernel
theorem zd_95_13 : decode (zm_cc 95) 13 = .ok (.if_icmp .ne 11, 3) := by decide +kernel
theorem zd_95_16 : decode (zm_cc 95) 16 = .ok (.aload_n 0, 1) := by decide +kernel
theorem zd_95_17 : decode (zm_cc 95) 17 = .ok (.invokevirtual 234, 3) := by decide +kernel
theorem zd_95_20 : decode (zm_cc 95) 20 = .ok (.iconst (-1), 1) := by decide +kernel
theorem zd_95_21 : decode (zm_cc 95) 21 = .ok (.if_icmp .eq 7, 3) := by decide +kernel
theorem zd_95_24 : decode (zm_cc 95) 24 = .ok (.iconst 1, 1) := by decide +kernel
theorem zd_95_25 : decode (zm_cc 95) 25 = .ok (.goto 4, 3) := by decide +kernel
theorem zd_95_28 : decode (zm_cc 95) 28 = .ok (.iconst 0, 1) := by decide +kernel
theorem zd_95_29 : decode (zm_cc 95) 29 = .ok (.ireturn, 1) := by decide +kernel
theorem zd_96_0 : decode (zm_cc 96) 0 = .ok (.aload_n 0, 1) := by decide +kernel
theorem zd_96_1 : decode (zm_cc 96) 1 = .ok (.iconst 0, 1) := by decide +kernel
theorem zd_96_2 : decode (zm_cc 96) 2 = .ok (.aload_n 0, 1) := by decide +kernel
theorem zd_96_3 : decode (zm_cc 96) 3 = .ok (.getfield 215, 3) := by decide +kernel
theorem zd_96_6 : decode (zm_cc 96) 6 = .ok (.invokevirtual 218, 3) := by decide +kernel
theorem zd_96_9 : decode (zm_cc 96) 9 = .ok (.ireturn, 1) := by decide +kernel
theorem zd_97_0 : decode (zm_cc 97) 0 = .ok (.iconst 0, 1) := by decide +kernel
theorem zd_97_1 : decode (zm_cc 97) 1 = .ok (.istore_n 3, 1) := by decide +kernel
theorem zd_97_2 : decode (zm_cc 97) 2 = .ok (.iload_n 3, 1) := by decide +kernel
theorem zd_97_3 : decode (zm_cc 97) 3 = .ok (.iload_n 2, 1) := by decide +kernel
theorem zd_97_4 : decode (zm_cc 97) 4 = .ok (.if_icmp .ge 97, 3) := by decide +kernel
theorem zd_97_7 : decode (zm_cc 97) 7 = .ok (.aload_n 0, 1) := by decide +kernel
theorem zd_97_8 : decode (zm_cc 97) 8 = .ok (.getfield 23, 3) := by decide +kernel
theorem zd_97_11 : decode (zm_cc 97) 11 = .ok (.iload_n 1, 1) := by decide +kernel
theorem zd_97_12 : decode (zm_cc 97) 12 = .ok (.iload_n 3, 1) := by decide +kernel
theorem zd_97_13 : decode (zm_cc 97) 13 = .ok (.iadd, 1) := by decide +kernel
theorem zd_97_14 : decode (zm_cc 97) 14 = .ok (.iaload, 1) := by decide +kernel
theorem zd_97_15 : decode (zm_cc 97) 15 = .ok (.aload_n 0, 1) := by decide +kernel
theorem zd_97_16 : decode (zm_cc 97) 16 = .ok (.getfield 155, 3) := by decide +kernel
theorem zd_97_19 : decode (zm_cc 97) 19 = .ok (.if_icmp .ne 7, 3) := by decide +kernel
theorem zd_97_22 : decode (zm_cc 97) 22 = .ok (.iconst 1, 1) := by decide +kernel
theorem zd_97_23 : decode (zm_cc 97) 23 = .ok (.goto 4, 3) := by decide +kernel
theorem zd_97_26 : decode (zm_cc 97) 26 = .ok (.iconst 0, 1) := by decide +kernel
theorem zd_97_27 : decode (zm_cc 97) 27 = .ok (.istore 4, 2) := by decide +kernel
theorem zd_97_29 : decode (zm_cc 97) 29 = .ok (.iconst 0, 1) := by decide +kernel
theorem zd_97_30 : decode (zm_cc 97) 30 = .ok (.istore 5, 2) := by decide +kernel
theorem zd_97_32 : decode (zm_cc 97) 32 = .ok (.iload 5, 2) := by decide +kernel
theorem zd_97_34 : decode (zm_cc 97) 34 = .ok (.aload_n 0, 1) := by decide +kernel
theorem zd_97_35 : decode (zm_cc 97) 35 = .ok (.getfield 155, 3) := by decide +kernel
theorem zd_97_38 : decode (zm_cc 97) 38 = .ok (.if_icmp .ge 50, 3) := by decide +kernel
theorem zd_97_41 : decode (zm_cc 97) 41 = .ok (.iload 4, 2) := by decide +kernel
theorem zd_97_43 : decode (zm_cc 97) 43 = .ok (.ifCond .eq 45, 3) := by decide +kernel
theorem zd_97_46 : decode (zm_cc 97) 46 = .ok (.aload_n 0, 1) := by decide +kernel
theorem zd_97_47 : decode (zm_cc 97) 47 = .ok (.getfield 20, 3) := by decide +kernel
theorem zd_97_50 : decode (zm_cc 97) 50 = .ok (.bipush 6, 2) := by decide +kernel
theorem zd_97_52 : decode (zm_cc 97) 52 = .ok (.iload_n 1, 1) := by decide +kernel
theorem zd_97_53 : decode (zm_cc 97) 53 = .ok (.iload_n 3, 1) := by decide +kernel
theorem zd_97_54 : decode (zm_cc 97) 54 = .ok (.iadd, 1) := by decide +kernel
theorem zd_97_55 : decode (zm_cc 97) 55 = .ok (.imul, 1) := by decide +kernel
theorem zd_97_56 : decode (zm_cc 97) 56 = .ok (.iload 5, 2) := by decide +kernel
theorem zd_97_58 : decode (zm_cc 97) 58 = .ok (.iadd, 1) := by decide +kernel
theorem zd_97_59 : decode (zm_cc 97) 59 = .ok (.baload, 1) := by decide +kernel
theorem zd_97_60 : decode (zm_cc 97) 60 = .ok (.aload_n 0, 1) := by decide +kernel
theorem zd_97_61 : decode (zm_cc 97) 61 = .ok (.getfield 17, 3) := by decide +kernel
theorem zd_97_64 : decode (zm_cc 97) 64 = .ok (.aload_n 0, 1) := by decide +kernel
theorem zd_97_65 : decode (zm_cc 97) 65 = .ok (.getfield 142, 3) := by decide +kernel
theorem zd_97_68 : decode (zm_cc 97) 68 = .ok (.iload 5, 2) := by decide +kernel
theorem zd_97_70 : decode (zm_cc 97) 70 = .ok (.iadd, 1) := by decide +kernel
theorem zd_97_71 : decode (zm_cc 97) 71 = .ok (.baload, 1) := by decide +kernel
theorem zd_97_72 : decode (zm_cc 97) 72 = .ok (.if_icmp .ne 7, 3) := by decide +kernel
theorem zd_97_75 : decode (zm_cc 97) 75 = .ok (.iconst 1, 1) := by decide +kernel
theorem zd_97_76 : decode (zm_cc 97) 76 = .ok (.goto 4, 3) := by decide +kernel
theorem zd_97_79 : decode (zm_cc 97) 79 = .ok (.iconst 0, 1) := by decide +kernel
theorem zd_97_80 : decode (zm_cc 97) 80 = .ok (.istore 4, 2) := by decide +kernel
theorem zd_97_82 : decode (zm_cc 97) 82 = .ok (.iinc 5 1, 3) := by decide +kernel
theorem zd_97_85 : decode (zm_cc 97) 85 = .ok (.goto (-53), 3) := by decide +kernel
theorem zd_97_88 : decode (zm_cc 97) 88 = .ok (.iload 4, 2) := by decide +kernel
theorem zd_97_90 : decode (zm_cc 97) 90 = .ok (.ifCond .eq 5, 3) := by decide +kernel
theorem zd_97_93 : decode (zm_cc 97) 93 = .ok (.iload_n 3, 1) := by decide +kernel
theorem zd_97_94 : decode (zm_cc 97) 94 = .ok (.ireturn, 1) := by decide +kernel
theorem zd_97_95 : decode (zm_cc 97) 95 = .ok (.iinc 3 1, 3) := by decide +kernel
theorem zd_97_98 : decode (zm_cc 97) 98 = .ok (.goto (-96), 3) := by decide +kernel
theorem zd_97_101 : decode (zm_cc 97) 101 = .ok (.iconst (-1), 1) := by decide +kernel
theorem zd_97_102 : decode (zm_cc 97) 102 = .ok (.ireturn, 1) := by decide +kernel
theorem zd_98_0 : decode (zm_cc 98) 0 = .ok (.aload_n 0, 1) := by decide +kernel
theorem zd_98_1 : decode (zm_cc 98) 1 = .ok (.bipush 6, 2) := by decide +kernel
theorem zd_98_3 : decode (zm_cc 98) 3 = .ok (.aload_n 0, 1) := by decide +kernel
theorem zd_98_4 : decode (zm_cc 98) 4 = .ok (.getfield 222, 3) := by decide +kernel
theorem zd_98_7 : decode (zm_cc 98) 7 = .ok (.invokevirtual 218, 3) := by decide +kernel
theorem zd_98_10 : decode (zm_cc 98) 10 = .ok (.ireturn, 1) := by decide +kernel
theorem zd_99_0 : decode (zm_cc 99) 0 = .ok (.aload_n 0, 1) := by decide +kernel
theorem zd_99_1 : decode (zm_cc 99) 1 = .ok (.bipush 10, 2) := by decide +kernel
theorem zd_99_3 : decode (zm_cc 99) 3 = .ok (.aload_n 0, 1) := by decide +kernel
theorem zd_99_4 : decode (zm_cc 99) 4 = .ok (.getfield 225, 3) := by decide +kernel
theorem zd_99_7 : decode (zm_cc 99) 7 = .ok (.invokevirtual 218, 3) := by decide +kernel
theorem zd_99_10 : decode (zm_cc 99) 10 = .ok (.ireturn, 1) := by decide +kernel
theorem zd_100_0 : decode (zm_cc 100) 0 = .ok (.aload_n 0, 1) := by decide +kernel
theorem zd_100_1 : decode (zm_cc 100) 1 = .ok (.getfield 23, 3) := by decide +kernel
theorem zd_100_4 : decode (zm_cc 100) 4 = .ok (.iload_n 1, 1) := by decide +kernel
theorem zd_100_5 : decode (zm_cc 100) 5 = .ok (.aload_n 0, 1) := by decide +kernel
theorem zd_100_6 : decode (zm_cc 100) 6 = .ok (.getfield 155, 3) := by decide +kernel
theorem zd_100_9 : decode (zm_cc 100) 9 = .ok (.iastore, 1) := by decide +kernel
theorem zd_100_10 : decode (zm_cc 100) 10 = .ok (.iconst 0, 1) := by decide +kernel
theorem zd_100_11 : decode (zm_cc 100) 11 = .ok (.istore_n 2, 1) := by decide +kernel
theorem zd_100_12 : decode (zm_cc 100) 12 = .ok (.iload_n 2, 1) := by decide +kernel
theorem zd_100_13 : decode (zm_cc 100) 13 = .ok (.aload_n 0, 1) := by decide +kernel
theorem zd_100_14 : decode (zm_cc 100) 14 = .ok (.getfield 155, 3) := by decide +kernel
theorem zd_100_17 : decode (zm_cc 100) 17 = .ok (.if_icmp .ge 31, 3) := by decide +kernel
theorem zd_100_20 : decode (zm_cc 100) 20 = .ok (.aload_n 0, 1) := by decide +kernel
theorem zd_100_21 : decode (zm_cc 100) 21 = .ok (.getfield 20, 3) := by decide +kernel
theorem zd_100_24 : decode (zm_cc 100) 24 = .ok (.bipush 6, 2) := by decide +kernel
theorem zd_100_26 : decode (zm_cc 100) 26 = .ok (.iload_n 1, 1) := by decide +kernel
theorem zd_100_27 : decode (zm_cc 100) 27 = .ok (.imul, 1) := by decide +kernel
theorem zd_100_28 : decode (zm_cc 100) 28 = .ok (.iload_n 2, 1) := by decide +kernel
theorem zd_100_29 : decode (zm_cc 100) 29 = .ok (.iadd, 1) := by decide +kernel
theorem zd_100_30 : decode (zm_cc 100) 30 = .ok (.aload_n 0, 1) := by decide +kernel
theorem zd_100_31 : decode (zm_cc 100) 31 = .ok (.getfield 17, 3) := by decide +kernel
theorem zd_100_34 : decode (zm_cc 100) 34 = .ok (.aload_n 0, 1) := by decide +kernel
theorem zd_100_35 : decode (zm_cc 100) 35 = .ok (.getfield 142, 3) := by decide +kernel
theorem zd_100_38 : decode (zm_cc 100) 38 = .ok (.iload_n 2, 1) := by decide +kernel
theorem zd_100_39 : decode (zm_cc 100) 39 = .ok (.iadd, 1) := by decide +kernel
theorem zd_100_40 : decode (zm_cc 100) 40 = .ok (.baload, 1) := by decide +kernel
theorem zd_100_41 : decode (zm_cc 100) 41 = .ok (.bastore, 1) := by decide +kernel
theorem zd_100_42 : decode (zm_cc 100) 42 = .ok (.iinc 2 1, 3) := by decide +kernel
theorem zd_100_45 : decode (zm_cc 100) 45 = .ok (.goto (-33), 3) := by decide +kernel
theorem zd_100_48 : decode (zm_cc 100) 48 = .ok (.return_, 1) := by decide +kernel
theorem zd_101_0 : decode (zm_cc 101) 0 = .ok (.aload_n 0, 1) := by decide +kernel
theorem zd_101_1 : decode (zm_cc 101) 1 = .ok (.getfield 135, 3) := by decide +kernel
theorem zd_101_4 : decode (zm_cc 101) 4 = .ok (.ifCond .eq 4, 3) := by decide +kernel
theorem zd_101_7 : decode (zm_cc 101) 7 = .ok (.return_, 1) := by decide +kernel
theorem zd_101_8 : decode (zm_cc 101) 8 = .ok (.aload_n 0, 1) := by decide +kernel
theorem zd_101_9 : decode (zm_cc 101) 9 = .ok (.iload_n 1, 1) := by decide +kernel
theorem zd_101_10 : decode (zm_cc 101) 10 = .ok (.invokevirtual 206, 3) := by decide +kernel
theorem zd_101_13 : decode (zm_cc 101) 13 = .ok (.ifCond .eq 10, 3) := by decide +kernel
theorem zd_101_16 : decode (zm_cc 101) 16 = .ok (.aload_n 0, 1) := by decide +kernel
theorem zd_101_17 : decode (zm_cc 101) 17 = .ok (.invokevirtual 209, 3) := by decide +kernel
theorem zd_101_20 : decode (zm_cc 101) 20 = .ok (.goto 7, 3) := by decide +kernel
theorem zd_101_23 : decode (zm_cc 101) 23 = .ok (.aload_n 0, 1) := by decide +kernel
theorem zd_101_24 : decode (zm_cc 101) 24 = .ok (.invokevirtual 212, 3) := by decide +kernel
theorem zd_101_27 : decode (zm_cc 101) 27 = .ok (.return_, 1) := by decide +kernel
theorem zd_102_0 : decode (zm_cc 102) 0 = .ok (.aload_n 0, 1) := by decide +kernel
theorem zd_102_1 : decode (zm_cc 102) 1 = .ok (.getfield 148, 3) := by decide +kernel
theorem zd_102_4 : decode (zm_cc 102) 4 = .ok (.iconst 4, 1) := by decide +kernel
theorem zd_102_5 : decode (zm_cc 102) 5 = .ok (.if_icmp .ne 15, 3) := by decide +kernel
theorem zd_102_8 : decode (zm_cc 102) 8 = .ok (.aload_n 0, 1) := by decide +kernel
theorem zd_102_9 : decode (zm_cc 102) 9 = .ok (.getfield 192, 3) := by decide +kernel
theorem zd_102_12 : decode (zm_cc 102) 12 = .ok (.iload_n 1, 1) := by decide +kernel
theorem zd_102_13 : decode (zm_cc 102) 13 = .ok (.if_icmp .ne 7, 3) := by decide +kernel
theorem zd_102_16 : decode (zm_cc 102) 16 = .ok (.iconst 1, 1) := by decide +kernel
theorem zd_102_17 : decode (zm_cc 102) 17 = .ok (.goto 4, 3) := by decide +kernel
theorem zd_102_20 : decode (zm_cc 102) 20 = .ok (.iconst 0, 1) := by decide +kernel
theorem zd_102_21 : decode (zm_cc 102) 21 = .ok (.ireturn, 1) := by decide +kernel
theorem zd_103_0 : decode (zm_cc 103) 0 = .ok (.aload_n 0, 1) := by decide +kernel
theorem zd_103_1 : decode (zm_cc 103) 1 = .ok (.invokevirtual 209, 3) := by decide +kernel
theorem zd_103_4 : decode (zm_cc 103) 4 = .ok (.aload_n 0, 1) := by decide +kernel
theorem zd_103_5 : decode (zm_cc 103) 5 = .ok (.iconst 0, 1) := by decide +kernel
theorem zd_103_6 : decode (zm_cc 103) 6 = .ok (.aload_n 0, 1) := by decide +kernel
theorem zd_103_7 : decode (zm_cc 103) 7 = .ok (.getfield 215, 3) := by decide +kernel
theorem zd_103_10 : decode (zm_cc 103) 10 = .ok (.bipush 6, 2) := by decide +kernel
theorem zd_103_12 : decode (zm_cc 103) 12 = .ok (.invokevirtual 318, 3) := by decide +kernel
theorem zd_103_15 : decode (zm_cc 103) 15 = .ok (.aload_n 0, 1) := by decide +kernel
theorem zd_103_16 : decode (zm_cc 103) 16 = .ok (.getfield 135, 3) := by decide +kernel
theorem zd_103_19 : decode (zm_cc 103) 19 = .ok (.ifCond .eq 4, 3) := by decide +kernel
theorem zd_103_22 : decode (zm_cc 103) 22 = .ok (.return_, 1) := by decide +kernel
theorem zd_103_23 : decode (zm_cc 103) 23 = .ok (.aload_n 0, 1) := by decide +kernel
theorem zd_103_24 : decode (zm_cc 103) 24 = .ok (.getfield 30, 3) := by decide +kernel
theorem zd_103_27 : decode (zm_cc 103) 27 = .ok (.aload_n 0, 1) := by decide +kernel
theorem zd_103_28 : decode (zm_cc 103) 28 = .ok (.getfield 215, 3) := by decide +kernel
theorem zd_103_31 : decode (zm_cc 103) 31 = .ok (.iload_n 1, 1) := by decide +kernel
theorem zd_103_32 : decode (zm_cc 103) 32 = .ok (.bastore, 1) := by decide +kernel
theorem zd_103_33 : decode (zm_cc 103) 33 = .ok (.aload_n 0, 1) := by decide +kernel
theorem zd_103_34 : decode (zm_cc 103) 34 = .ok (.getfield 34, 3) := by decide +kernel
theorem zd_103_37 : decode (zm_cc 103) 37 = .ok (.aload_n 0, 1) := by decide +kernel
theorem zd_103_38 : decode (zm_cc 103) 38 = .ok (.getfield 215, 3) := by decide +kernel
theorem zd_103_41 : decode (zm_cc 103) 41 = .ok (.iconst 0, 1) := by decide +kernel
theorem zd_103_42 : decode (zm_cc 103) 42 = .ok (.iastore, 1) := by decide +kernel
theorem zd_103_43 : decode (zm_cc 103) 43 = .ok (.aload_n 0, 1) := by decide +kernel
theorem zd_103_44 : decode (zm_cc 103) 44 = .ok (.bipush 61, 2) := by decide +kernel
theorem zd_103_46 : decode (zm_cc 103) 46 = .ok (.invokevirtual 206, 3) := by decide +kernel
theorem zd_103_49 : decode (zm_cc 103) 49 = .ok (.ifCond .eq 37, 3) := by decide +kernel
theorem zd_103_52 : decode (zm_cc 103) 52 = .ok (.aload_n 0, 1) := by decide +kernel
theorem zd_103_53 : decode (zm_cc 103) 53 = .ok (.invokevirtual 209, 3) := by decide +kernel
theorem zd_103_56 : decode (zm_cc 103) 56 = .ok (.aload_n 0, 1) := by decide +kernel
theorem zd_103_57 : decode (zm_cc 103) 57 = .ok (.getfield 34, 3) := by decide +kernel
theorem zd_103_60 : decode (zm_cc 103) 60 = .ok (.aload_n 0, 1) := by decide +kernel
theorem zd_103_61 : decode (zm_cc 103) 61 = .ok (.getfield 215, 3) := by decide +kernel
theorem zd_103_64 : decode (zm_cc 103) 64 = .ok (.aload_n 0, 1) := by decide +kernel
theorem zd_103_65 : decode (zm_cc 103) 65 = .ok (.getfield 192, 3) := by decide +kernel
theorem zd_103_68 : decode (zm_cc 103) 68 = .ok (.iastore, 1) := by decide +kernel
theorem zd_103_69 : decode (zm_cc 103) 69 = .ok (.aload_n 0, 1) := by decide +kernel
theorem zd_103_70 : decode (zm_cc 103) 70 = .ok (.getfield 148, 3) := by decide +kernel
theorem zd_103_73 : decode (zm_cc 103) 73 = .ok (.iconst 3, 1) := by decide +kernel
theorem zd_103_74 : decode (zm_cc 103) 74 = .ok (.if_icmp .eq 8, 3) := by decide +kernel
theorem zd_103_77 : decode (zm_cc 103) 77 = .ok (.aload_n 0, 1) := by decide +kernel
theorem zd_103_78 : decode (zm_cc 103) 78 = .ok (.invokevirtual 212, 3) := by decide +kernel
theorem zd_103_81 : decode (zm_cc 103) 81 = .ok (.return_, 1) := by decide +kernel
theorem zd_103_82 : decode (zm_cc 103) 82 = .ok (.aload_n 0, 1) := by decide +kernel
theorem zd_103_83 : decode (zm_cc 103) 83 = .ok (.invokevirtual 209, 3) := by decide +kernel
theorem zd_103_86 : decode (zm_cc 103) 86 = .ok (.aload_n 0, 1) := by decide +kernel
theorem zd_103_87 : decode (zm_cc 103) 87 = .ok (.dup, 1) := by decide +kernel
theorem zd_103_88 : decode (zm_cc 103) 88 = .ok (.getfield 215, 3) := by decide +kernel
theorem zd_103_91 : decode (zm_cc 103) 91 = .ok (.iconst 1, 1) := by decide +kernel
theorem zd_103_92 : decode (zm_cc 103) 92 = .ok (.iadd, 1) := by decide +kernel
theorem zd_103_93 : decode (zm_cc 103) 93 = .ok (.putfield 215, 3) := by decide +kernel
theorem zd_103_96 : decode (zm_cc 103) 96 = .ok (.aload_n 0, 1) := by decide +kernel
theorem zd_103_97 : decode (zm_cc 103) 97 = .ok (.bipush 59, 2) := by decide +kernel
theorem zd_103_99 : decode (zm_cc 103) 99 = .ok (.invokevirtual 288, 3) := by decide +kernel
theorem zd_103_102 : decode (zm_cc 103) 102 = .ok (.return_, 1) := by decide +kernel
theorem zd_104_0 : decode (zm_cc 104) 0 = .ok (.aload_n 0, 1) := by decide +kernel
theorem zd_104_1 : decode (zm_cc 104) 1 = .ok (.invokevirtual 209, 3) := by decide +kernel
theorem zd_104_4 : decode (zm_cc 104) 4 = .ok (.aload_n 0, 1) := by decide +kernel
theorem zd_104_5 : decode (zm_cc 104) 5 = .ok (.getfield 148, 3) := by decide +kernel
theorem zd_104_8 : decode (zm_cc 104) 8 = .ok (.iconst 2, 1) := by decide +kernel
theorem zd_104_9 : decode (zm_cc 104) 9 = .ok (.if_icmp .eq 8, 3) := by decide +kernel
theorem zd_104_12 : decode (zm_cc 104) 12 = .ok (.aload_n 0, 1) := by decide +kernel
theorem zd_104_13 : decode (zm_cc 104) 13 = .ok (.invokevirtual 212, 3) := by decide +kernel
theorem zd_104_16 : decode (zm_cc 104) 16 = .ok (.return_, 1) := by decide +kernel
theorem zd_104_17 : decode (zm_cc 104) 17 = .ok (.aload_n 0, 1) := by decide +kernel
theorem zd_104_18 : decode (zm_cc 104) 18 = .ok (.invokevirtual 277, 3) := by decide +kernel
theorem zd_104_21 : decode (zm_cc 104) 21 = .ok (.ifCond .eq 9, 3) := by decide +kernel
theorem zd_104_24 : decode (zm_cc 104) 24 = .ok (.aload_n 0, 1) := by decide +kernel
theorem zd_104_25 : decode (zm_cc 104) 25 = .ok (.iconst 3, 1) := by decide +kernel
theorem zd_104_26 : decode (zm_cc 104) 26 = .ok (.invokevirtual 151, 3) := by decide +kernel
theorem zd_104_29 : decode (zm_cc 104) 29 = .ok (.return_, 1) := by decide +kernel
theorem zd_104_30 : decode (zm_cc 104) 30 = .ok (.aload_n 0, 1) := by decide +kernel
theorem zd_104_31 : decode (zm_cc 104) 31 = .ok (.getfield 225, 3) := by decide +kernel
theorem zd_104_34 : decode (zm_cc 104) 34 = .ok (.iconst 4, 1) := by decide +kernel
theorem zd_104_35 : decode (zm_cc 104) 35 = .ok (.if_icmp .ne 9, 3) := by decide +kernel
theorem zd_104_38 : decode (zm_cc 104) 38 = .ok (.aload_n 0, 1) := by decide +kernel
theorem zd_104_39 : decode (zm_cc 104) 39 = .ok (.iconst 4, 1) := by decide +kernel
theorem zd_104_40 : decode (zm_cc 104) 40 = .ok (.invokevirtual 151, 3) := by decide +kernel
theorem zd_104_43 : decode (zm_cc 104) 43 = .ok (.return_, 1) := by decide +kernel
theorem zd_104_44 : decode (zm_cc 104) 44 = .ok (.aload_n 0, 1) := by decide +kernel
theorem zd_104_45 : decode (zm_cc 104) 45 = .ok (.bipush 10, 2) := by decide +kernel
theorem zd_104_47 : decode (zm_cc 104) 47 = .ok (.aload_n 0, 1) := by decide +kernel
theorem zd_104_48 : decode (zm_cc 104) 48 = .ok (.getfield 225, 3) := by decide +kernel
theorem zd_104_51 : decode (zm_cc 104) 51 = .ok (.iadd, 1) := by decide +kernel
theorem zd_104_52 : decode (zm_cc 104) 52 = .ok (.invokevirtual 274, 3) := by decide +kernel
theorem zd_104_55 : decode (zm_cc 104) 55 = .ok (.aload_n 0, 1) := by decide +kernel
theorem zd_104_56 : decode (zm_cc 104) 56 = .ok (.aload_n 0, 1) := by decide +kernel
theorem zd_104_57 : decode (zm_cc 104) 57 = .ok (.getfield 225, 3) := by decide +kernel
theorem zd_104_60 : decode (zm_cc 104) 60 = .ok (.putfield 240, 3) := by decide +kernel
theorem zd_104_63 : decode (zm_cc 104) 63 = .ok (.aload_n 0, 1) := by decide +kernel
theorem zd_104_64 : decode (zm_cc 104) 64 = .ok (.dup, 1) := by decide +kernel
theorem zd_104_65 : decode (zm_cc 104) 65 = .ok (.getfield 225, 3) := by decide +kernel
theorem zd_104_68 : decode (zm_cc 104) 68 = .ok (.iconst 1, 1) := by decide +kernel
theorem zd_104_69 : decode (zm_cc 104) 69 = .ok (.iadd, 1) := by decide +kernel
theorem zd_104_70 : decode (zm_cc 104) 70 = .ok (.putfield 225, 3) := by decide +kernel
theorem zd_104_73 : decode (zm_cc 104) 73 = .ok (.aload_n 0, 1) := by decide +kernel
theorem zd_104_74 : decode (zm_cc 104) 74 = .ok (.invokevirtual 209, 3) := by decide +kernel
theorem zd_104_77 : decode (zm_cc 104) 77 = .ok (.aload_n 0, 1) := by decide +kernel
theorem zd_104_78 : decode (zm_cc 104) 78 = .ok (.getfield 37, 3) := by decide +kernel
theorem zd_104_81 : decode (zm_cc 104) 81 = .ok (.aload_n 0, 1) := by decide +kernel
theorem zd_104_82 : decode (zm_cc 104) 82 = .ok (.getfield 240, 3) := by decide +kernel
theorem zd_104_85 : decode (zm_cc 104) 85 = .ok (.iconst 0, 1) := by decide +kernel
theorem zd_104_86 : decode (zm_cc 104) 86 = .ok (.iastore, 1) := by decide +kernel
theorem zd_104_87 : decode (zm_cc 104) 87 = .ok (.aload_n 0, 1) := by decide +kernel
theorem zd_104_88 : decode (zm_cc 104) 88 = .ok (.iconst 0, 1) := by decide +kernel
theorem zd_104_89 : decode (zm_cc 104) 89 = .ok (.putfield 271, 3) := by decide +kernel
theorem zd_104_92 : decode (zm_cc 104) 92 = .ok (.aload_n 0, 1) := by decide +kernel
theorem zd_104_93 : decode (zm_cc 104) 93 = .ok (.iconst 0, 1) := by decide +kernel
theorem zd_104_94 : decode (zm_cc 104) 94 = .ok (.putfield 255, 3) := by decide +kernel
theorem zd_104_97 : decode (zm_cc 104) 97 = .ok (.aload_n 0, 1) := by decide +kernel
theorem zd_104_98 : decode (zm_cc 104) 98 = .ok (.iconst 0, 1) := by decide +kernel
theorem zd_104_99 : decode (zm_cc 104) 99 = .ok (.putfield 243, 3) := by decide +kernel
theorem zd_104_102 : decode (zm_cc 104) 102 = .ok (.aload_n 0, 1) := by decide +kernel
theorem zd_104_103 : decode (zm_cc 104) 103 = .ok (.iconst (-1), 1) := by decide +kernel
theorem zd_104_104 : decode (zm_cc 104) 104 = .ok (.putfield 246, 3) := by decide +kernel
theorem zd_104_107 : decode (zm_cc 104) 107 = .ok (.aload_n 0, 1) := by decide +kernel
theorem zd_104_108 : decode (zm_cc 104) 108 = .ok (.iconst (-1), 1) := by decide +kernel
theorem zd_104_109 : decode (zm_cc 104) 109 = .ok (.putfield 237, 3) := by decide +kernel
theorem zd_104_112 : decode (zm_cc 104) 112 = .ok (.aload_n 0, 1) := by decide +kernel
theorem zd_104_113 : decode (zm_cc 104) 113 = .ok (.iconst 0, 1) := by decide +kernel
theorem zd_104_114 : decode (zm_cc 104) 114 = .ok (.iconst 0, 1) := by decide +kernel
theorem zd_104_115 : decode (zm_cc 104) 115 = .ok (.invokevirtual 267, 3) := by decide +kernel
theorem zd_104_118 : decode (zm_cc 104) 118 = .ok (.aload_n 0, 1) := by decide +kernel
theorem zd_104_119 : decode (zm_cc 104) 119 = .ok (.getfield 135, 3) := by decide +kernel
theorem zd_104_122 : decode (zm_cc 104) 122 = .ok (.ifCond .ne 33, 3) := by decide +kernel
theorem zd_104_125 : decode (zm_cc 104) 125 = .ok (.aload_n 0, 1) := by decide +kernel
theorem zd_104_126 : decode (zm_cc 104) 126 = .ok (.getfield 255, 3) := by decide +kernel
theorem zd_104_129 : decode (zm_cc 104) 129 = .ok (.ifCond .le 26, 3) := by decide +kernel
theorem zd_104_132 : decode (zm_cc 104) 132 = .ok (.aload_n 0, 1) := by decide +kernel
theorem zd_104_133 : decode (zm_cc 104) 133 = .ok (.bipush 125, 2) := by decide +kernel
theorem zd_104_135 : decode (zm_cc 104) 135 = .ok (.invokevirtual 206, 3) := by decide +kernel
theorem zd_104_138 : decode (zm_cc 104) 138 = .ok (.ifCond .eq 10, 3) := by decide +kernel
theorem zd_104_141 : decode (zm_cc 104) 141 = .ok (.aload_n 0, 1) := by decide +kernel
theorem zd_104_142 : decode (zm_cc 104) 142 = .ok (.invokevirtual 312, 3) := by decide +kernel
theorem zd_104_145 : decode (zm_cc 104) 145 = .ok (.goto (-27), 3) := by decide +kernel
theorem zd_104_148 : decode (zm_cc 104) 148 = .ok (.aload_n 0, 1) := by decide +kernel
theorem zd_104_149 : decode (zm_cc 104) 149 = .ok (.invokevirtual 315, 3) := by decide +kernel
theorem zd_104_152 : decode (zm_cc 104) 152 = .ok (.goto (-34), 3) := by decide +kernel
theorem zd_104_155 : decode (zm_cc 104) 155 = .ok (.aload_n 0, 1) := by decide +kernel
theorem zd_104_156 : decode (zm_cc 104) 156 = .ok (.getfield 135, 3) := by decide +kernel
theorem zd_104_159 : decode (zm_cc 104) 159 = .ok (.ifCond .eq 4, 3) := by decide +kernel
theorem zd_104_162 : decode (zm_cc 104) 162 = .ok (.return_, 1) := by decide +kernel
theorem zd_104_163 : decode (zm_cc 104) 163 = .ok (.aload_n 0, 1) := by decide +kernel
theorem zd_104_164 : decode (zm_cc 104) 164 = .ok (.aload_n 0, 1) := by decide +kernel
theorem zd_104_165 : decode (zm_cc 104) 165 = .ok (.getfield 37, 3) := by decide +kernel
theorem zd_104_168 : decode (zm_cc 104) 168 = .ok (.aload_n 0, 1) := by decide +kernel
theorem zd_104_169 : decode (zm_cc 104) 169 = .ok (.getfield 240, 3) := by decide +kernel
theorem zd_104_172 : decode (zm_cc 104) 172 = .ok (.iaload, 1) := by decide +kernel
theorem zd_104_173 : decode (zm_cc 104) 173 = .ok (.invokevirtual 249, 3) := by decide +kernel
theorem zd_104_176 : decode (zm_cc 104) 176 = .ok (.iconst 0, 1) := by decide +kernel
theorem zd_104_177 : decode (zm_cc 104) 177 = .ok (.istore_n 1, 1) := by decide +kernel
theorem zd_104_178 : decode (zm_cc 104) 178 = .ok (.iload_n 1, 1) := by decide +kernel
theorem zd_104_179 : decode (zm_cc 104) 179 = .ok (.aload_n 0, 1) := by decide +kernel
theorem zd_104_180 : decode (zm_cc 104) 180 = .ok (.getfield 37, 3) := by decide +kernel
theorem zd_104_183 : decode (zm_cc 104) 183 = .ok (.aload_n 0, 1) := by decide +kernel
theorem zd_104_184 : decode (zm_cc 104) 184 = .ok (.getfield 240, 3) := by decide +kernel
theorem zd_104_187 : decode (zm_cc 104) 187 = .ok (.iaload, 1) := by decide +kernel
theorem zd_104_188 : decode (zm_cc 104) 188 = .ok (.if_icmp .ge 54, 3) := by decide +kernel
theorem zd_104_191 : decode (zm_cc 104) 191 = .ok (.bipush 24, 2) := by decide +kernel
theorem zd_104_193 : decode (zm_cc 104) 193 = .ok (.aload_n 0, 1) := by decide +kernel
theorem zd_104_194 : decode (zm_cc 104) 194 = .ok (.getfield 240, 3) := by decide +kernel
theorem zd_104_197 : decode (zm_cc 104) 197 = .ok (.imul, 1) := by decide +kernel
theorem zd_104_198 : decode (zm_cc 104) 198 = .ok (.iload_n 1, 1) := by decide +kernel
theorem zd_104_199 : decode (zm_cc 104) 199 = .ok (.iadd, 1) := by decide +kernel
theorem zd_104_200 : decode (zm_cc 104) 200 = .ok (.istore_n 2, 1) := by decide +kernel
theorem zd_104_201 : decode (zm_cc 104) 201 = .ok (.aload_n 0, 1) := by decide +kernel
theorem zd_104_202 : decode (zm_cc 104) 202 = .ok (.getfield 49, 3) := by decide +kernel
theorem zd_104_205 : decode (zm_cc 104) 205 = .ok (.iload_n 2, 1) := by decide +kernel
theorem zd_104_206 : decode (zm_cc 104) 206 = .ok (.aload_n 0, 1) := by decide +kernel
theorem zd_104_207 : decode (zm_cc 104) 207 = .ok (.getfield 43, 3) := by decide +kernel
theorem zd_104_210 : decode (zm_cc 104) 210 = .ok (.iload_n 2, 1) := by decide +kernel
theorem zd_104_211 : decode (zm_cc 104) 211 = .ok (.iaload, 1) := by decide +kernel
theorem zd_104_212 : decode (zm_cc 104) 212 = .ok (.bipush 13, 2) := by decide +kernel
theorem zd_104_214 : decode (zm_cc 104) 214 = .ok (.if_icmp .ne 15, 3) := by decide +kernel
theorem zd_104_217 : decode (zm_cc 104) 217 = .ok (.aload_n 0, 1) := by decide +kernel
theorem zd_104_218 : decode (zm_cc 104) 218 = .ok (.getfield 37, 3) := by decide +kernel
theorem zd_104_221 : decode (zm_cc 104) 221 = .ok (.aload_n 0, 1) := by decide +kernel
theorem zd_104_222 : decode (zm_cc 104) 222 = .ok (.getfield 240, 3) := by decide +kernel
theorem zd_104_225 : decode (zm_cc 104) 225 = .ok (.iaload, 1) := by decide +kernel
theorem zd_104_226 : decode (zm_cc 104) 226 = .ok (.goto 9, 3) := by decide +kernel
theorem zd_104_229 : decode (zm_cc 104) 229 = .ok (.aload_n 0, 1) := by decide +kernel
theorem zd_104_230 : decode (zm_cc 104) 230 = .ok (.getfield 49, 3) := by decide +kernel
theorem zd_104_233 : decode (zm_cc 104) 233 = .ok (.iload_n 2, 1) := by decide +kernel
theorem zd_104_234 : decode (zm_cc 104) 234 = .ok (.iaload, 1) := by decide +kernel
theorem zd_104_235 : decode (zm_cc 104) 235 = .ok (.iastore, 1) := by decide +kernel
theorem zd_104_236 : decode (zm_cc 104) 236 = .ok (.iinc 1 1, 3) := by decide +kernel
theorem zd_104_239 : decode (zm_cc 104) 239 = .ok (.goto (-61), 3) := by decide +kernel
theorem zd_104_242 : decode (zm_cc 104) 242 = .ok (.return_, 1) := by decide +kernel
theorem zd_105_0 : decode (zm_cc 105) 0 = .ok (.aload_n 0, 1) := by decide +kernel
theorem zd_105_1 : decode (zm_cc 105) 1 = .ok (.getfield 135, 3) := by decide +kernel
theorem zd_105_4 : decode (zm_cc 105) 4 = .ok (.ifCond .eq 4, 3) := by decide +kernel
theorem zd_105_7 : decode (zm_cc 105) 7 = .ok (.return_, 1) := by decide +kernel
theorem zd_105_8 : decode (zm_cc 105) 8 = .ok (.aload_n 0, 1) := by decide +kernel
theorem zd_105_9 : decode (zm_cc 105) 9 = .ok (.bipush 123, 2) := by decide +kernel
theorem zd_105_11 : decode (zm_cc 105) 11 = .ok (.invokevirtual 206, 3) := by decide +kernel
theorem zd_105_14 : decode (zm_cc 105) 14 = .ok (.ifCond .ne 8, 3) := by decide +kernel
theorem zd_105_17 : decode (zm_cc 105) 17 = .ok (.aload_n 0, 1) := by decide +kernel
theorem zd_105_18 : decode (zm_cc 105) 18 = .ok (.invokevirtual 212, 3) := by decide +kernel
theorem zd_105_21 : decode (zm_cc 105) 21 = .ok (.return_, 1) := by decide +kernel
theorem zd_105_22 : decode (zm_cc 105) 22 = .ok (.aload_n 0, 1) := by decide +kernel
theorem zd_105_23 : decode (zm_cc 105) 23 = .ok (.getfield 255, 3) := by decide +kernel
theorem zd_105_26 : decode (zm_cc 105) 26 = .ok (.bipush 8, 2) := by decide +kernel
theorem zd_105_28 : decode (zm_cc 105) 28 = .ok (.if_icmp .ne 9, 3) := by decide +kernel
theorem zd_105_31 : decode (zm_cc 105) 31 = .ok (.aload_n 0, 1) := by decide +kernel
theorem zd_105_32 : decode (zm_cc 105) 32 = .ok (.iconst 4, 1) := by decide +kernel
theorem zd_105_33 : decode (zm_cc 105) 33 = .ok (.invokevirtual 151, 3) := by decide +kernel
theorem zd_105_36 : decode (zm_cc 105) 36 = .ok (.return_, 1) := by decide +kernel
theorem zd_105_37 : decode (zm_cc 105) 37 = .ok (.aload_n 0, 1) := by decide +kernel
theorem zd_105_38 : decode (zm_cc 105) 38 = .ok (.invokevirtual 209, 3) := by decide +kernel
theorem zd_105_41 : decode (zm_cc 105) 41 = .ok (.aload_n 0, 1) := by decide +kernel
theorem zd_105_42 : decode (zm_cc 105) 42 = .ok (.getfield 76, 3) := by decide +kernel
theorem zd_105_45 : decode (zm_cc 105) 45 = .ok (.aload_n 0, 1) := by decide +kernel
theorem zd_105_46 : decode (zm_cc 105) 46 = .ok (.getfield 255, 3) := by decide +kernel
theorem zd_105_49 : decode (zm_cc 105) 49 = .ok (.iload_n 1, 1) := by decide +kernel
theorem zd_105_50 : decode (zm_cc 105) 50 = .ok (.iastore, 1) := by decide +kernel
theorem zd_105_51 : decode (zm_cc 105) 51 = .ok (.aload_n 0, 1) := by decide +kernel
theorem zd_105_52 : decode (zm_cc 105) 52 = .ok (.getfield 79, 3) := by decide +kernel
theorem zd_105_55 : decode (zm_cc 105) 55 = .ok (.aload_n 0, 1) := by decide +kernel
theorem zd_105_56 : decode (zm_cc 105) 56 = .ok (.getfield 255, 3) := by decide +kernel
theorem zd_105_59 : decode (zm_cc 105) 59 = .ok (.iload_n 2, 1) := by decide +kernel
theorem zd_105_60 : decode (zm_cc 105) 60 = .ok (.iastore, 1) := by decide +kernel
theorem zd_105_61 : decode (zm_cc 105) 61 = .ok (.aload_n 0, 1) := by decide +kernel
theorem zd_105_62 : decode (zm_cc 105) 62 = .ok (.getfield 85, 3) := by decide +kernel
theorem zd_105_65 : decode (zm_cc 105) 65 = .ok (.aload_n 0, 1) := by decide +kernel
theorem zd_105_66 : decode (zm_cc 105) 66 = .ok (.getfield 255, 3) := by decide +kernel
theorem zd_105_69 : decode (zm_cc 105) 69 = .ok (.aload_n 0, 1) := by decide +kernel
theorem zd_105_70 : decode (zm_cc 105) 70 = .ok (.getfield 243, 3) := by decide +kernel
theorem zd_105_73 : decode (zm_cc 105) 73 = .ok (.iastore, 1) := by decide +kernel
theorem zd_105_74 : decode (zm_cc 105) 74 = .ok (.aload_n 0, 1) := by decide +kernel
theorem zd_105_75 : decode (zm_cc 105) 75 = .ok (.dup, 1) := by decide +kernel
theorem zd_105_76 : decode (zm_cc 105) 76 = .ok (.getfield 255, 3) := by decide +kernel
theorem zd_105_79 : decode (zm_cc 105) 79 = .ok (.iconst 1, 1) := by decide +kernel
theorem zd_105_80 : decode (zm_cc 105) 80 = .ok (.iadd, 1) := by decide +kernel
theorem zd_105_81 : decode (zm_cc 105) 81 = .ok (.putfield 255, 3) := by decide +kernel
theorem zd_105_84 : decode (zm_cc 105) 84 = .ok (.return_, 1) := by decide +kernel
theorem zd_106_0 : decode (zm_cc 106) 0 = .ok (.aload_n 0, 1) := by decide +kernel
theorem zd_106_1 : decode (zm_cc 106) 1 = .ok (.getfield 255, 3) := by decide +kernel
theorem zd_106_4 : decode (zm_cc 106) 4 = .ok (.iconst 1, 1) := by decide +kernel
theorem zd_106_5 : decode (zm_cc 106) 5 = .ok (.isub, 1) := by decide +kernel
theorem zd_106_6 : decode (zm_cc 106) 6 = .ok (.istore_n 1, 1) := by decide +kernel
theorem zd_106_7 : decode (zm_cc 106) 7 = .ok (.bipush 24, 2) := by decide +kernel
theorem zd_106_9 : decode (zm_cc 106) 9 = .ok (.aload_n 0, 1) := by decide +kernel
theorem zd_106_10 : decode (zm_cc 106) 10 = .ok (.getfield 240, 3) := by decide +kernel
theorem zd_106_13 : decode (zm_cc 106) 13 = .ok (.imul, 1) := by decide +kernel
theorem zd_106_14 : decode (zm_cc 106) 14 = .ok (.istore_n 2, 1) := by decide +kernel
theorem zd_106_15 : decode (zm_cc 106) 15 = .ok (.aload_n 0, 1) := by decide +kernel
theorem zd_106_16 : decode (zm_cc 106) 16 = .ok (.getfield 76, 3) := by decide +kernel
theorem zd_106_19 : decode (zm_cc 106) 19 = .ok (.iload_n 1, 1) := by decide +kernel
theorem zd_106_20 : decode (zm_cc 106) 20 = .ok (.iaload, 1) := by decide +kernel
theorem zd_106_21 : decode (zm_cc 106) 21 = .ok (.tableswitch 156 1 5 #[35, 107, 156, 143, 115], 35) := by decide +kernel
theorem zd_106_56 : decode (zm_cc 106) 56 = .ok (.aload_n 0, 1) := by decide +kernel
theorem zd_106_57 : decode (zm_cc 106) 57 = .ok (.iconst 4, 1) := by decide +kernel
theorem zd_106_58 : decode (zm_cc 106) 58 = .ok (.aload_n 0, 1) := by decide +kernel
theorem zd_106_59 : decode (zm_cc 106) 59 = .ok (.getfield 46, 3) := by decide +kernel
theorem zd_106_62 : decode (zm_cc 106) 62 = .ok (.iload_n 2, 1) := by decide +kernel
theorem zd_106_63 : decode (zm_cc 106) 63 = .ok (.aload_n 0, 1) := by decide +kernel
theorem zd_106_64 : decode (zm_cc 106) 64 = .ok (.getfield 79, 3) := by decide +kernel
theorem zd_106_67 : decode (zm_cc 106) 67 = .ok (.iload_n 1, 1) := by decide +kernel
theorem zd_106_68 : decode (zm_cc 106) 68 = .ok (.iaload, 1) := by decide +kernel
theorem zd_106_69 : decode (zm_cc 106) 69 = .ok (.iadd, 1) := by decide +kernel
theorem zd_106_70 : decode (zm_cc 106) 70 = .ok (.iaload, 1) := by decide +kernel
theorem zd_106_71 : decode (zm_cc 106) 71 = .ok (.invokevirtual 258, 3) := by decide +kernel
theorem zd_106_74 : decode (zm_cc 106) 74 = .ok (.istore_n 3, 1) := by decide +kernel
theorem zd_106_75 : decode (zm_cc 106) 75 = .ok (.aload_n 0, 1) := by decide +kernel
theorem zd_106_76 : decode (zm_cc 106) 76 = .ok (.getfield 135, 3) := by decide +kernel
theorem zd_106_79 : decode (zm_cc 106) 79 = .ok (.ifCond .eq 4, 3) := by decide +kernel
theorem zd_106_82 : decode (zm_cc 106) 82 = .ok (.return_, 1) := by decide +kernel
theorem zd_106_83 : decode (zm_cc 106) 83 = .ok (.aload_n 0, 1) := by decide +kernel
theorem zd_106_84 : decode (zm_cc 106) 84 = .ok (.aload_n 0, 1) := by decide +kernel
theorem zd_106_85 : decode (zm_cc 106) 85 = .ok (.getfield 85, 3) := by decide +kernel
theorem zd_106_88 : decode (zm_cc 106) 88 = .ok (.iload_n 1, 1) := by decide +kernel
theorem zd_106_89 : decode (zm_cc 106) 89 = .ok (.iaload, 1) := by decide +kernel
theorem zd_106_90 : decode (zm_cc 106) 90 = .ok (.iconst 1, 1) := by decide +kernel
theorem zd_106_91 : decode (zm_cc 106) 91 = .ok (.aload_n 0, 1) := by decide +kernel
theorem zd_106_92 : decode (zm_cc 106) 92 = .ok (.getfield 46, 3) := by decide +kernel
theorem zd_106_95 : decode (zm_cc 106) 95 = .ok (.iload_n 2, 1) := by decide +kernel
theorem zd_106_96 : decode (zm_cc 106) 96 = .ok (.aload_n 0, 1) := by decide +kernel
theorem zd_106_97 : decode (zm_cc 106) 97 = .ok (.getfield 79, 3) := by decide +kernel
theorem zd_106_100 : decode (zm_cc 106) 100 = .ok (.iload_n 1, 1) := by decide +kernel
theorem zd_106_101 : decode (zm_cc 106) 101 = .ok (.iaload, 1) := by decide +kernel
theorem zd_106_102 : decode (zm_cc 106) 102 = .ok (.iadd, 1) := by decide +kernel
theorem zd_106_103 : decode (zm_cc 106) 103 = .ok (.iaload, 1) := by decide +kernel
theorem zd_106_104 : decode (zm_cc 106) 104 = .ok (.ishl, 1) := by decide +kernel
theorem zd_106_105 : decode (zm_cc 106) 105 = .ok (.iconst (-1), 1) := by decide +kernel
theorem zd_106_106 : decode (zm_cc 106) 106 = .ok (.ixor, 1) := by decide +kernel
theorem zd_106_107 : decode (zm_cc 106) 107 = .ok (.iand, 1) := by decide +kernel
theorem zd_106_108 : decode (zm_cc 106) 108 = .ok (.aload_n 0, 1) := by decide +kernel
theorem zd_106_109 : decode (zm_cc 106) 109 = .ok (.getfield 55, 3) := by decide +kernel
theorem zd_106_112 : decode (zm_cc 106) 112 = .ok (.iload_n 2, 1) := by decide +kernel
theorem zd_106_113 : decode (zm_cc 106) 113 = .ok (.aload_n 0, 1) := by decide +kernel
theorem zd_106_114 : decode (zm_cc 106) 114 = .ok (.getfield 79, 3) := by decide +kernel
theorem zd_106_117 : decode (zm_cc 106) 117 = .ok (.iload_n 1, 1) := by decide +kernel
theorem zd_106_118 : decode (zm_cc 106) 118 = .ok (.iaload, 1) := by decide +kernel
theorem zd_106_119 : decode (zm_cc 106) 119 = .ok (.iadd, 1) := by decide +kernel
theorem zd_106_120 : decode (zm_cc 106) 120 = .ok (.iaload, 1) := by decide +kernel
theorem zd_106_121 : decode (zm_cc 106) 121 = .ok (.ior, 1) := by decide +kernel
theorem zd_106_122 : decode (zm_cc 106) 122 = .ok (.putfield 243, 3) := by decide +kernel
theorem zd_106_125 : decode (zm_cc 106) 125 = .ok (.goto 52, 3) := by decide +kernel
theorem zd_106_128 : decode (zm_cc 106) 128 = .ok (.aload_n 0, 1) := by decide +kernel
theorem zd_106_129 : decode (zm_cc 106) 129 = .ok (.iconst (-1), 1) := by decide +kernel
theorem zd_106_130 : decode (zm_cc 106) 130 = .ok (.putfield 246, 3) := by decide +kernel
theorem zd_106_133 : decode (zm_cc 106) 133 = .ok (.goto 44, 3) := by decide +kernel
theorem zd_106_136 : decode (zm_cc 106) 136 = .ok (.aload_n 0, 1) := by decide +kernel
theorem zd_106_137 : decode (zm_cc 106) 137 = .ok (.aload_n 0, 1) := by decide +kernel
theorem zd_106_138 : decode (zm_cc 106) 138 = .ok (.getfield 79, 3) := by decide +kernel
theorem zd_106_141 : decode (zm_cc 106) 141 = .ok (.iload_n 1, 1) := by decide +kernel
theorem zd_106_142 : decode (zm_cc 106) 142 = .ok (.iaload, 1) := by decide +kernel
theorem zd_106_143 : decode (zm_cc 106) 143 = .ok (.invokevirtual 249, 3) := by decide +kernel
theorem zd_106_146 : decode (zm_cc 106) 146 = .ok (.aload_n 0, 1) := by decide +kernel
theorem zd_106_147 : decode (zm_cc 106) 147 = .ok (.aload_n 0, 1) := by decide +kernel
theorem zd_106_148 : decode (zm_cc 106) 148 = .ok (.aload_n 0, 1) := by decide +kernel
theorem zd_106_149 : decode (zm_cc 106) 149 = .ok (.getfield 79, 3) := by decide +kernel
theorem zd_106_152 : decode (zm_cc 106) 152 = .ok (.iload_n 1, 1) := by decide +kernel
theorem zd_106_153 : decode (zm_cc 106) 153 = .ok (.iaload, 1) := by decide +kernel
theorem zd_106_154 : decode (zm_cc 106) 154 = .ok (.iconst 1, 1) := by decide +kernel
theorem zd_106_155 : decode (zm_cc 106) 155 = .ok (.invokevirtual 252, 3) := by decide +kernel
theorem zd_106_158 : decode (zm_cc 106) 158 = .ok (.putfield 237, 3) := by decide +kernel
theorem zd_106_161 : decode (zm_cc 106) 161 = .ok (.goto 16, 3) := by decide +kernel
theorem zd_106_164 : decode (zm_cc 106) 164 = .ok (.aload_n 0, 1) := by decide +kernel
theorem zd_106_165 : decode (zm_cc 106) 165 = .ok (.aload_n 0, 1) := by decide +kernel
theorem zd_106_166 : decode (zm_cc 106) 166 = .ok (.getfield 82, 3) := by decide +kernel
theorem zd_106_169 : decode (zm_cc 106) 169 = .ok (.iload_n 1, 1) := by decide +kernel
theorem zd_106_170 : decode (zm_cc 106) 170 = .ok (.iaload, 1) := by decide +kernel
theorem zd_106_171 : decode (zm_cc 106) 171 = .ok (.invokevirtual 261, 3) := by decide +kernel
theorem zd_106_174 : decode (zm_cc 106) 174 = .ok (.goto 3, 3) := by decide +kernel
theorem zd_106_177 : decode (zm_cc 106) 177 = .ok (.aload_n 0, 1) := by decide +kernel
theorem zd_106_178 : decode (zm_cc 106) 178 = .ok (.dup, 1) := by decide +kernel
theorem zd_106_179 : decode (zm_cc 106) 179 = .ok (.getfield 255, 3) := by decide +kernel
theorem zd_106_182 : decode (zm_cc 106) 182 = .ok (.iconst 1, 1) := by decide +kernel
theorem zd_106_183 : decode (zm_cc 106) 183 = .ok (.isub, 1) := by decide +kernel
theorem zd_106_184 : decode (zm_cc 106) 184 = .ok (.putfield 255, 3) := by decide +kernel
theorem zd_106_187 : decode (zm_cc 106) 187 = .ok (.aload_n 0, 1) := by decide +kernel
theorem zd_106_188 : decode (zm_cc 106) 188 = .ok (.invokevirtual 209, 3) := by decide +kernel
theorem zd_106_191 : decode (zm_cc 106) 191 = .ok (.aload_n 0, 1) := by decide +kernel
theorem zd_106_192 : decode (zm_cc 106) 192 = .ok (.getfield 76, 3) := by decide +kernel
theorem zd_106_195 : decode (zm_cc 106) 195 = .ok (.iload_n 1, 1) := by decide +kernel
theorem zd_106_196 : decode (zm_cc 106) 196 = .ok (.iaload, 1) := by decide +kernel
theorem zd_106_197 : decode (zm_cc 106) 197 = .ok (.iconst 3, 1) := by decide +kernel
theorem zd_106_198 : decode (zm_cc 106) 198 = .ok (.if_icmp .ne 72, 3) := by decide +kernel
theorem zd_106_201 : decode (zm_cc 106) 201 = .ok (.aload_n 0, 1) := by decide +kernel
theorem zd_106_202 : decode (zm_cc 106) 202 = .ok (.bipush 6, 2) := by decide +kernel
theorem zd_106_204 : decode (zm_cc 106) 204 = .ok (.invokevirtual 264, 3) := by decide +kernel
theorem zd_106_207 : decode (zm_cc 106) 207 = .ok (.ifCond .eq 48, 3) := by decide +kernel
theorem zd_106_210 : decode (zm_cc 106) 210 = .ok (.aload_n 0, 1) := by decide +kernel
theorem zd_106_211 : decode (zm_cc 106) 211 = .ok (.invokevirtual 209, 3) := by decide +kernel
theorem zd_106_214 : decode (zm_cc 106) 214 = .ok (.aload_n 0, 1) := by decide +kernel
theorem zd_106_215 : decode (zm_cc 106) 215 = .ok (.getfield 237, 3) := by decide +kernel
theorem zd_106_218 : decode (zm_cc 106) 218 = .ok (.istore_n 3, 1) := by decide +kernel
theorem zd_106_219 : decode (zm_cc 106) 219 = .ok (.aload_n 0, 1) := by decide +kernel
theorem zd_106_220 : decode (zm_cc 106) 220 = .ok (.aload_n 0, 1) := by decide +kernel
theorem zd_106_221 : decode (zm_cc 106) 221 = .ok (.aload_n 0, 1) := by decide +kernel
theorem zd_106_222 : decode (zm_cc 106) 222 = .ok (.getfield 79, 3) := by decide +kernel
theorem zd_106_225 : decode (zm_cc 106) 225 = .ok (.iload_n 1, 1) := by decide +kernel
theorem zd_106_226 : decode (zm_cc 106) 226 = .ok (.iaload, 1) := by decide +kernel
theorem zd_106_227 : decode (zm_cc 106) 227 = .ok (.iconst 1, 1) := by decide +kernel
theorem zd_106_228 : decode (zm_cc 106) 228 = .ok (.invokevirtual 252, 3) := by decide +kernel
theorem zd_106_231 : decode (zm_cc 106) 231 = .ok (.putfield 237, 3) := by decide +kernel
theorem zd_106_234 : decode (zm_cc 106) 234 = .ok (.aload_n 0, 1) := by decide +kernel
theorem zd_106_235 : decode (zm_cc 106) 235 = .ok (.iconst 4, 1) := by decide +kernel
theorem zd_106_236 : decode (zm_cc 106) 236 = .ok (.aload_n 0, 1) := by decide +kernel
theorem zd_106_237 : decode (zm_cc 106) 237 = .ok (.getfield 79, 3) := by decide +kernel
theorem zd_106_240 : decode (zm_cc 106) 240 = .ok (.iload_n 1, 1) := by decide +kernel
theorem zd_106_241 : decode (zm_cc 106) 241 = .ok (.iaload, 1) := by decide +kernel
theorem zd_106_242 : decode (zm_cc 106) 242 = .ok (.invokevirtual 267, 3) := by decide +kernel
theorem zd_106_245 : decode (zm_cc 106) 245 = .ok (.aload_n 0, 1) := by decide +kernel
theorem zd_106_246 : decode (zm_cc 106) 246 = .ok (.getfield 82, 3) := by decide +kernel
theorem zd_106_249 : decode (zm_cc 106) 249 = .ok (.iload_n 1, 1) := by decide +kernel
theorem zd_106_250 : decode (zm_cc 106) 250 = .ok (.iload_n 3, 1) := by decide +kernel
theorem zd_106_251 : decode (zm_cc 106) 251 = .ok (.iastore, 1) := by decide +kernel
theorem zd_106_252 : decode (zm_cc 106) 252 = .ok (.goto 18, 3) := by decide +kernel
theorem zd_106_255 : decode (zm_cc 106) 255 = .ok (.aload_n 0, 1) := by decide +kernel
theorem zd_106_256 : decode (zm_cc 106) 256 = .ok (.aload_n 0, 1) := by decide +kernel
theorem zd_106_257 : decode (zm_cc 106) 257 = .ok (.aload_n 0, 1) := by decide +kernel
theorem zd_106_258 : decode (zm_cc 106) 258 = .ok (.getfield 79, 3) := by decide +kernel
theorem zd_106_261 : decode (zm_cc 106) 261 = .ok (.iload_n 1, 1) := by decide +kernel
theorem zd_106_262 : decode (zm_cc 106) 262 = .ok (.iaload, 1) := by decide +kernel
theorem zd_106_263 : decode (zm_cc 106) 263 = .ok (.iconst 1, 1) := by decide +kernel
theorem zd_106_264 : decode (zm_cc 106) 264 = .ok (.invokevirtual 252, 3) := by decide +kernel
theorem zd_106_267 : decode (zm_cc 106) 267 = .ok (.invokevirtual 261, 3) := by decide +kernel
theorem zd_106_270 : decode (zm_cc 106) 270 = .ok (.return_, 1) := by decide +kernel
theorem zd_107_0 : decode (zm_cc 107) 0 = .ok (.aload_n 0, 1) := by decide +kernel
theorem zd_107_1 : decode (zm_cc 107) 1 = .ok (.getfield 37, 3) := by decide +kernel
theorem zd_107_4 : decode (zm_cc 107) 4 = .ok (.aload_n 0, 1) := by decide +kernel
theorem zd_107_5 : decode (zm_cc 107) 5 = .ok (.getfield 240, 3) := by decide +kernel
theorem zd_107_8 : decode (zm_cc 107) 8 = .ok (.iaload, 1) := by decide +kernel
theorem zd_107_9 : decode (zm_cc 107) 9 = .ok (.istore_n 3, 1) := by decide +kernel
theorem zd_107_10 : decode (zm_cc 107) 10 = .ok (.iload_n 3, 1) := by decide +kernel
theorem zd_107_11 : decode (zm_cc 107) 11 = .ok (.bipush 24, 2) := by decide +kernel
theorem zd_107_13 : decode (zm_cc 107) 13 = .ok (.if_icmp .ne 10, 3) := by decide +kernel
theorem zd_107_16 : decode (zm_cc 107) 16 = .ok (.aload_n 0, 1) := by decide +kernel
theorem zd_107_17 : decode (zm_cc 107) 17 = .ok (.iconst 4, 1) := by decide +kernel
theorem zd_107_18 : decode (zm_cc 107) 18 = .ok (.invokevirtual 151, 3) := by decide +kernel
theorem zd_107_21 : decode (zm_cc 107) 21 = .ok (.iconst 0, 1) := by decide +kernel
theorem zd_107_22 : decode (zm_cc 107) 22 = .ok (.ireturn, 1) := by decide +kernel
theorem zd_107_23 : decode (zm_cc 107) 23 = .ok (.bipush 24, 2) := by decide +kernel
theorem zd_107_25 : decode (zm_cc 107) 25 = .ok (.aload_n 0, 1) := by decide +kernel
theorem zd_107_26 : decode (zm_cc 107) 26 = .ok (.getfield 240, 3) := by decide +kernel
theorem zd_107_29 : decode (zm_cc 107) 29 = .ok (.imul, 1) := by decide +kernel
theorem zd_107_30 : decode (zm_cc 107) 30 = .ok (.iload_n 3, 1) := by decide +kernel
theorem zd_107_31 : decode (zm_cc 107) 31 = .ok (.iadd, 1) := by decide +kernel
theorem zd_107_32 : decode (zm_cc 107) 32 = .ok (.istore 4, 2) := by decide +kernel
theorem zd_107_34 : decode (zm_cc 107) 34 = .ok (.aload_n 0, 1) := by decide +kernel
theorem zd_107_35 : decode (zm_cc 107) 35 = .ok (.getfield 43, 3) := by decide +kernel
theorem zd_107_38 : decode (zm_cc 107) 38 = .ok (.iload 4, 2) := by decide +kernel
theorem zd_107_40 : decode (zm_cc 107) 40 = .ok (.iload_n 1, 1) := by decide +kernel
theorem zd_107_41 : decode (zm_cc 107) 41 = .ok (.iastore, 1) := by decide +kernel
theorem zd_107_42 : decode (zm_cc 107) 42 = .ok (.aload_n 0, 1) := by decide +kernel
theorem zd_107_43 : decode (zm_cc 107) 43 = .ok (.getfield 46, 3) := by decide +kernel
theorem zd_107_46 : decode (zm_cc 107) 46 = .ok (.iload 4, 2) := by decide +kernel
theorem zd_107_48 : decode (zm_cc 107) 48 = .ok (.iload_n 2, 1) := by decide +kernel
theorem zd_107_49 : decode (zm_cc 107) 49 = .ok (.iastore, 1) := by decide +kernel
theorem zd_107_50 : decode (zm_cc 107) 50 = .ok (.aload_n 0, 1) := by decide +kernel
theorem zd_107_51 : decode (zm_cc 107) 51 = .ok (.getfield 49, 3) := by decide +kernel
theorem zd_107_54 : decode (zm_cc 107) 54 = .ok (.iload 4, 2) := by decide +kernel
theorem zd_107_56 : decode (zm_cc 107) 56 = .ok (.iconst (-1), 1) := by decide +kernel
theorem zd_107_57 : decode (zm_cc 107) 57 = .ok (.iastore, 1) := by decide +kernel
theorem zd_107_58 : decode (zm_cc 107) 58 = .ok (.aload_n 0, 1) := by decide +kernel
theorem zd_107_59 : decode (zm_cc 107) 59 = .ok (.getfield 52, 3) := by decide +kernel
theorem zd_107_62 : decode (zm_cc 107) 62 = .ok (.iload 4, 2) := by decide +kernel
theorem zd_107_64 : decode (zm_cc 107) 64 = .ok (.iconst (-1), 1) := by decide +kernel
theorem zd_107_65 : decode (zm_cc 107) 65 = .ok (.iastore, 1) := by decide +kernel
theorem zd_107_66 : decode (zm_cc 107) 66 = .ok (.aload_n 0, 1) := by decide +kernel
theorem zd_107_67 : decode (zm_cc 107) 67 = .ok (.getfield 55, 3) := by decide +kernel
theorem zd_107_70 : decode (zm_cc 107) 70 = .ok (.iload 4, 2) := by decide +kernel
theorem zd_107_72 : decode (zm_cc 107) 72 = .ok (.aload_n 0, 1) := by decide +kernel
theorem zd_107_73 : decode (zm_cc 107) 73 = .ok (.getfield 243, 3) := by decide +kernel
theorem zd_107_76 : decode (zm_cc 107) 76 = .ok (.iastore, 1) := by decide +kernel
theorem zd_107_77 : decode (zm_cc 107) 77 = .ok (.aload_n 0, 1) := by decide +kernel
theorem zd_107_78 : decode (zm_cc 107) 78 = .ok (.getfield 58, 3) := by decide +kernel
theorem zd_107_81 : decode (zm_cc 107) 81 = .ok (.iload 4, 2) := by decide +kernel
theorem zd_107_83 : decode (zm_cc 107) 83 = .ok (.aload_n 0, 1) := by decide +kernel
theorem zd_107_84 : decode (zm_cc 107) 84 = .ok (.getfield 246, 3) := by decide +kernel
theorem zd_107_87 : decode (zm_cc 107) 87 = .ok (.iastore, 1) := by decide +kernel
theorem zd_107_88 : decode (zm_cc 107) 88 = .ok (.aload_n 0, 1) := by decide +kernel
theorem zd_107_89 : decode (zm_cc 107) 89 = .ok (.iload_n 3, 1) := by decide +kernel
theorem zd_107_90 : decode (zm_cc 107) 90 = .ok (.invokevirtual 249, 3) := by decide +kernel
theorem zd_107_93 : decode (zm_cc 107) 93 = .ok (.aload_n 0, 1) := by decide +kernel
theorem zd_107_94 : decode (zm_cc 107) 94 = .ok (.getfield 37, 3) := by decide +kernel
theorem zd_107_97 : decode (zm_cc 107) 97 = .ok (.aload_n 0, 1) := by decide +kernel
theorem zd_107_98 : decode (zm_cc 107) 98 = .ok (.getfield 240, 3) := by decide +kernel
theorem zd_107_101 : decode (zm_cc 107) 101 = .ok (.dup2, 1) := by decide +kernel
theorem zd_107_102 : decode (zm_cc 107) 102 = .ok (.iaload, 1) := by decide +kernel
theorem zd_107_103 : decode (zm_cc 107) 103 = .ok (.iconst 1, 1) := by decide +kernel
theorem zd_107_104 : decode (zm_cc 107) 104 = .ok (.iadd, 1) := by decide +kernel
theorem zd_107_105 : decode (zm_cc 107) 105 = .ok (.iastore, 1) := by decide +kernel
theorem zd_107_106 : decode (zm_cc 107) 106 = .ok (.iload_n 1, 1) := by decide +kernel
theorem zd_107_107 : decode (zm_cc 107) 107 = .ok (.bipush 13, 2) := by decide +kernel
theorem zd_107_109 : decode (zm_cc 107) 109 = .ok (.if_icmp .eq 13, 3) := by decide +kernel
theorem zd_107_112 : decode (zm_cc 107) 112 = .ok (.aload_n 0, 1) := by decide +kernel
theorem zd_107_113 : decode (zm_cc 107) 113 = .ok (.aload_n 0, 1) := by decide +kernel
theorem zd_107_114 : decode (zm_cc 107) 114 = .ok (.iload_n 3, 1) := by decide +kernel
theorem zd_107_115 : decode (zm_cc 107) 115 = .ok (.iconst 0, 1) := by decide +kernel
theorem zd_107_116 : decode (zm_cc 107) 116 = .ok (.invokevirtual 252, 3) := by decide +kernel
theorem zd_107_119 : decode (zm_cc 107) 119 = .ok (.putfield 237, 3) := by decide +kernel
theorem zd_107_122 : decode (zm_cc 107) 122 = .ok (.iload_n 3, 1) := by decide +kernel
theorem zd_107_123 : decode (zm_cc 107) 123 = .ok (.ireturn, 1) := by decide +kernel
theorem zd_108_0 : decode (zm_cc 108) 0 = .ok (.bipush 24, 2) := by decide +kernel
theorem zd_108_2 : decode (zm_cc 108) 2 = .ok (.aload_n 0, 1) := by decide +kernel
theorem zd_108_3 : decode (zm_cc 108) 3 = .ok (.getfield 240, 3) := by decide +kernel
theorem zd_108_6 : decode (zm_cc 108) 6 = .ok (.imul, 1) := by decide +kernel
theorem zd_108_7 : decode (zm_cc 108) 7 = .ok (.istore_n 2, 1) := by decide +kernel
theorem zd_108_8 : decode (zm_cc 108) 8 = .ok (.aload_n 0, 1) := by decide +kernel
theorem zd_108_9 : decode (zm_cc 108) 9 = .ok (.getfield 237, 3) := by decide +kernel
theorem zd_108_12 : decode (zm_cc 108) 12 = .ok (.iconst (-1), 1) := by decide +kernel
theorem zd_108_13 : decode (zm_cc 108) 13 = .ok (.if_icmp .eq 52, 3) := by decide +kernel
theorem zd_108_16 : decode (zm_cc 108) 16 = .ok (.aload_n 0, 1) := by decide +kernel
theorem zd_108_17 : decode (zm_cc 108) 17 = .ok (.getfield 237, 3) := by decide +kernel
theorem zd_108_20 : decode (zm_cc 108) 20 = .ok (.istore_n 3, 1) := by decide +kernel
theorem zd_108_21 : decode (zm_cc 108) 21 = .ok (.aload_n 0, 1) := by decide +kernel
theorem zd_108_22 : decode (zm_cc 108) 22 = .ok (.aload_n 0, 1) := by decide +kernel
theorem zd_108_23 : decode (zm_cc 108) 23 = .ok (.getfield 73, 3) := by decide +kernel
theorem zd_108_26 : decode (zm_cc 108) 26 = .ok (.iload_n 3, 1) := by decide +kernel
theorem zd_108_27 : decode (zm_cc 108) 27 = .ok (.iaload, 1) := by decide +kernel
theorem zd_108_28 : decode (zm_cc 108) 28 = .ok (.putfield 237, 3) := by decide +kernel
theorem zd_108_31 : decode (zm_cc 108) 31 = .ok (.iload_n 3, 1) := by decide +kernel
theorem zd_108_32 : decode (zm_cc 108) 32 = .ok (.iconst 2, 1) := by decide +kernel
theorem zd_108_33 : decode (zm_cc 108) 33 = .ok (.irem, 1) := by decide +kernel
theorem zd_108_34 : decode (zm_cc 108) 34 = .ok (.ifCond .ne 17, 3) := by decide +kernel
theorem zd_108_37 : decode (zm_cc 108) 37 = .ok (.aload_n 0, 1) := by decide +kernel
theorem zd_108_38 : decode (zm_cc 108) 38 = .ok (.getfield 49, 3) := by decide +kernel
theorem zd_108_41 : decode (zm_cc 108) 41 = .ok (.iload_n 2, 1) := by decide +kernel
theorem zd_108_42 : decode (zm_cc 108) 42 = .ok (.iload_n 3, 1) := by decide +kernel
theorem zd_108_43 : decode (zm_cc 108) 43 = .ok (.iconst 2, 1) := by decide +kernel
theorem zd_108_44 : decode (zm_cc 108) 44 = .ok (.idiv, 1) := by decide +kernel
theorem zd_108_45 : decode (zm_cc 108) 45 = .ok (.iadd, 1) := by decide +kernel
theorem zd_108_46 : decode (zm_cc 108) 46 = .ok (.iload_n 1, 1) := by decide +kernel
theorem zd_108_47 : decode (zm_cc 108) 47 = .ok (.iastore, 1) := by decide +kernel
theorem zd_108_48 : decode (zm_cc 108) 48 = .ok (.goto 14, 3) := by decide +kernel
theorem zd_108_51 : decode (zm_cc 108) 51 = .ok (.aload_n 0, 1) := by decide +kernel
theorem zd_108_52 : decode (zm_cc 108) 52 = .ok (.getfield 52, 3) := by decide +kernel
theorem zd_108_55 : decode (zm_cc 108) 55 = .ok (.iload_n 2, 1) := by decide +kernel
theorem zd_108_56 : decode (zm_cc 108) 56 = .ok (.iload_n 3, 1) := by decide +kernel
theorem zd_108_57 : decode (zm_cc 108) 57 = .ok (.iconst 2, 1) := by decide +kernel
theorem zd_108_58 : decode (zm_cc 108) 58 = .ok (.idiv, 1) := by decide +kernel
theorem zd_108_59 : decode (zm_cc 108) 59 = .ok (.iadd, 1) := by decide +kernel
theorem zd_108_60 : decode (zm_cc 108) 60 = .ok (.iload_n 1, 1) := by decide +kernel
theorem zd_108_61 : decode (zm_cc 108) 61 = .ok (.iastore, 1) := by decide +kernel
theorem zd_108_62 : decode (zm_cc 108) 62 = .ok (.goto (-54), 3) := by decide +kernel
theorem zd_108_65 : decode (zm_cc 108) 65 = .ok (.return_, 1) := by decide +kernel
theorem zd_109_0 : decode (zm_cc 109) 0 = .ok (.aload_n 0, 1) := by decide +kernel
theorem zd_109_1 : decode (zm_cc 109) 1 = .ok (.getfield 73, 3) := by decide +kernel
theorem zd_109_4 : decode (zm_cc 109) 4 = .ok (.iconst 2, 1) := by decide +kernel
theorem zd_109_5 : decode (zm_cc 109) 5 = .ok (.iload_n 1, 1) := by decide +kernel
theorem zd_109_6 : decode (zm_cc 109) 6 = .ok (.imul, 1) := by decide +kernel
theorem zd_109_7 : decode (zm_cc 109) 7 = .ok (.iload_n 2, 1) := by decide +kernel
theorem zd_109_8 : decode (zm_cc 109) 8 = .ok (.iadd, 1) := by decide +kernel
theorem zd_109_9 : decode (zm_cc 109) 9 = .ok (.iconst (-1), 1) := by decide +kernel
theorem zd_109_10 : decode (zm_cc 109) 10 = .ok (.iastore, 1) := by decide +kernel
theorem zd_109_11 : decode (zm_cc 109) 11 = .ok (.iconst 2, 1) := by decide +kernel
theorem zd_109_12 : decode (zm_cc 109) 12 = .ok (.iload_n 1, 1) := by decide +kernel
theorem zd_109_13 : decode (zm_cc 109) 13 = .ok (.imul, 1) := by decide +kernel
theorem zd_109_14 : decode (zm_cc 109) 14 = .ok (.iload_n 2, 1) := by decide +kernel
theorem zd_109_15 : decode (zm_cc 109) 15 = .ok (.iadd, 1) := by decide +kernel
theorem zd_109_16 : decode (zm_cc 109) 16 = .ok (.ireturn, 1) := by decide +kernel
theorem zd_110_0 : decode (zm_cc 110) 0 = .ok (.iload_n 1, 1) := by decide +kernel
theorem zd_110_1 : decode (zm_cc 110) 1 = .ok (.iconst (-1), 1) := by decide +kernel
theorem zd_110_2 : decode (zm_cc 110) 2 = .ok (.if_icmp .ne 4, 3) := by decide +kernel
theorem zd_110_5 : decode (zm_cc 110) 5 = .ok (.return_, 1) := by decide +kernel
theorem zd_110_6 : decode (zm_cc 110) 6 = .ok (.iload_n 1, 1) := by decide +kernel
theorem zd_110_7 : decode (zm_cc 110) 7 = .ok (.istore_n 2, 1) := by decide +kernel
theorem zd_110_8 : decode (zm_cc 110) 8 = .ok (.aload_n 0, 1) := by decide +kernel
theorem zd_110_9 : decode (zm_cc 110) 9 = .ok (.getfield 73, 3) := by decide +kernel
theorem zd_110_12 : decode (zm_cc 110) 12 = .ok (.iload_n 2, 1) := by decide +kernel
theorem zd_110_13 : decode (zm_cc 110) 13 = .ok (.iaload, 1) := by decide +kernel
theorem zd_110_14 : decode (zm_cc 110) 14 = .ok (.iconst (-1), 1) := by decide +kernel
theorem zd_110_15 : decode (zm_cc 110) 15 = .ok (.if_icmp .eq 13, 3) := by decide +kernel
theorem zd_110_18 : decode (zm_cc 110) 18 = .ok (.aload_n 0, 1) := by decide +kernel
theorem zd_110_19 : decode (zm_cc 110) 19 = .ok (.getfield 73, 3) := by decide +kernel
theorem zd_110_22 : decode (zm_cc 110) 22 = .ok (.iload_n 2, 1) := by decide +kernel
theorem zd_110_23 : decode (zm_cc 110) 23 = .ok (.iaload, 1) := by decide +kernel
theorem zd_110_24 : decode (zm_cc 110) 24 = .ok (.istore_n 2, 1) := by decide +kernel
theorem zd_110_25 : decode (zm_cc 110) 25 = .ok (.goto (-17), 3) := by decide +kernel
theorem zd_110_28 : decode (zm_cc 110) 28 = .ok (.aload_n 0, 1) := by decide +kernel
theorem zd_110_29 : decode (zm_cc 110) 29 = .ok (.getfield 73, 3) := by decide +kernel
theorem zd_110_32 : decode (zm_cc 110) 32 = .ok (.iload_n 2, 1) := by decide +kernel
theorem zd_110_33 : decode (zm_cc 110) 33 = .ok (.aload_n 0, 1) := by decide +kernel
theorem zd_110_34 : decode (zm_cc 110) 34 = .ok (.getfield 237, 3) := by decide +kernel
theorem zd_110_37 : decode (zm_cc 110) 37 = .ok (.iastore, 1) := by decide +kernel
theorem zd_110_38 : decode (zm_cc 110) 38 = .ok (.aload_n 0, 1) := by decide +kernel
theorem zd_110_39 : decode (zm_cc 110) 39 = .ok (.iload_n 1, 1) := by decide +kernel
theorem zd_110_40 : decode (zm_cc 110) 40 = .ok (.putfield 237, 3) := by decide +kernel
theorem zd_110_43 : decode (zm_cc 110) 43 = .ok (.return_, 1) := by decide +kernel
theorem zd_111_0 : decode (zm_cc 111) 0 = .ok (.bipush 24, 2) := by decide +kernel
theorem zd_111_2 : decode (zm_cc 111) 2 = .ok (.aload_n 0, 1) := by decide +kernel
theorem zd_111_3 : decode (zm_cc 111) 3 = .ok (.getfield 240, 3) := by decide +kernel
theorem zd_111_6 : decode (zm_cc 111) 6 = .ok (.imul, 1) := by decide +kernel
theorem zd_111_7 : decode (zm_cc 111) 7 = .ok (.istore_n 1, 1) := by decide +kernel
theorem zd_111_8 : decode (zm_cc 111) 8 = .ok (.aload_n 0, 1) := by decide +kernel
theorem zd_111_9 : decode (zm_cc 111) 9 = .ok (.getfield 148, 3) := by decide +kernel
theorem zd_111_12 : decode (zm_cc 111) 12 = .ok (.iconst 2, 1) := by decide +kernel
theorem zd_111_13 : decode (zm_cc 111) 13 = .ok (.if_icmp .ne 8, 3) := by decide +kernel
theorem zd_111_16 : decode (zm_cc 111) 16 = .ok (.aload_n 0, 1) := by decide +kernel
theorem zd_111_17 : decode (zm_cc 111) 17 = .ok (.invokevirtual 294, 3) := by decide +kernel
theorem zd_111_20 : decode (zm_cc 111) 20 = .ok (.return_, 1) := by decide +kernel
theorem zd_111_21 : decode (zm_cc 111) 21 = .ok (.aload_n 0, 1) := by decide +kernel
theorem zd_111_22 : decode (zm_cc 111) 22 = .ok (.getfield 148, 3) := by decide +kernel
theorem zd_111_25 : decode (zm_cc 111) 25 = .ok (.iconst 5, 1) := by decide +kernel
theorem zd_111_26 : decode (zm_cc 111) 26 = .ok (.if_icmp .eq 8, 3) := by decide +kernel
theorem zd_111_29 : decode (zm_cc 111) 29 = .ok (.aload_n 0, 1) := by decide +kernel
theorem zd_111_30 : decode (zm_cc 111) 30 = .ok (.invokevirtual 212, 3) := by decide +kernel
theorem zd_111_33 : decode (zm_cc 111) 33 = .ok (.return_, 1) := by decide +kernel
theorem zd_111_34 : decode (zm_cc 111) 34 = .ok (.aload_n 0, 1) := by decide +kernel
theorem zd_111_35 : decode (zm_cc 111) 35 = .ok (.getfield 192, 3) := by decide +kernel
theorem zd_111_38 : decode (zm_cc 111) 38 = .ok (.tableswitch 441 3 15 #[66, 441, 200, 441, 225, 251, 284, 441, 347, 347, 394, 420, 124], 66) := by decide +kernel
theorem zd_111_104 : decode (zm_cc 111) 104 = .ok (.aload_n 0, 1) := by decide +kernel
theorem zd_111_105 : decode (zm_cc 111) 105 = .ok (.iconst 3, 1) := by decide +kernel
theorem zd_111_106 : decode (zm_cc 111) 106 = .ok (.iconst 0, 1) := by decide +kernel
theorem zd_111_107 : decode (zm_cc 111) 107 = .ok (.invokevirtual 258, 3) := by decide +kernel
theorem zd_111_110 : decode (zm_cc 111) 110 = .ok (.istore_n 2, 1) := by decide +kernel
theorem zd_111_111 : decode (zm_cc 111) 111 = .ok (.aload_n 0, 1) := by decide +kernel
theorem zd_111_112 : decode (zm_cc 111) 112 = .ok (.invokevirtual 297, 3) := by decide +kernel
theorem zd_111_115 : decode (zm_cc 111) 115 = .ok (.aload_n 0, 1) := by decide +kernel
theorem zd_111_116 : decode (zm_cc 111) 116 = .ok (.getfield 46, 3) := by decide +kernel
theorem zd_111_119 : decode (zm_cc 111) 119 = .ok (.iload_n 1, 1) := by decide +kernel
theorem zd_111_120 : decode (zm_cc 111) 120 = .ok (.iload_n 2, 1) := by decide +kernel
theorem zd_111_121 : decode (zm_cc 111) 121 = .ok (.iadd, 1) := by decide +kernel
theorem zd_111_122 : decode (zm_cc 111) 122 = .ok (.aload_n 0, 1) := by decide +kernel
theorem zd_111_123 : decode (zm_cc 111) 123 = .ok (.invokevirtual 300, 3) := by decide +kernel
theorem zd_111_126 : decode (zm_cc 111) 126 = .ok (.iastore, 1) := by decide +kernel
theorem zd_111_127 : decode (zm_cc 111) 127 = .ok (.aload_n 0, 1) := by decide +kernel
theorem zd_111_128 : decode (zm_cc 111) 128 = .ok (.getfield 135, 3) := by decide +kernel
theorem zd_111_131 : decode (zm_cc 111) 131 = .ok (.ifCond .ne 22, 3) := by decide +kernel
theorem zd_111_134 : decode (zm_cc 111) 134 = .ok (.aload_n 0, 1) := by decide +kernel
theorem zd_111_135 : decode (zm_cc 111) 135 = .ok (.aload_n 0, 1) := by decide +kernel
theorem zd_111_136 : decode (zm_cc 111) 136 = .ok (.getfield 243, 3) := by decide +kernel
theorem zd_111_139 : decode (zm_cc 111) 139 = .ok (.iconst 1, 1) := by decide +kernel
theorem zd_111_140 : decode (zm_cc 111) 140 = .ok (.aload_n 0, 1) := by decide +kernel
theorem zd_111_141 : decode (zm_cc 111) 141 = .ok (.getfield 46, 3) := by decide +kernel
theorem zd_111_144 : decode (zm_cc 111) 144 = .ok (.iload_n 1, 1) := by decide +kernel
theorem zd_111_145 : decode (zm_cc 111) 145 = .ok (.iload_n 2, 1) := by decide +kernel
theorem zd_111_146 : decode (zm_cc 111) 146 = .ok (.iadd, 1) := by decide +kernel
theorem zd_111_147 : decode (zm_cc 111) 147 = .ok (.iaload, 1) := by decide +kernel
theorem zd_111_148 : decode (zm_cc 111) 148 = .ok (.ishl, 1) := by decide +kernel
theorem zd_111_149 : decode (zm_cc 111) 149 = .ok (.ior, 1) := by decide +kernel
theorem zd_111_150 : decode (zm_cc 111) 150 = .ok (.putfield 243, 3) := by decide +kernel
theorem zd_111_153 : decode (zm_cc 111) 153 = .ok (.aload_n 0, 1) := by decide +kernel
theorem zd_111_154 : decode (zm_cc 111) 154 = .ok (.iconst 1, 1) := by decide +kernel
theorem zd_111_155 : decode (zm_cc 111) 155 = .ok (.iload_n 2, 1) := by decide +kernel
theorem zd_111_156 : decode (zm_cc 111) 156 = .ok (.invokevirtual 267, 3) := by decide +kernel
theorem zd_111_159 : decode (zm_cc 111) 159 = .ok (.goto 324, 3) := by decide +kernel
theorem zd_111_162 : decode (zm_cc 111) 162 = .ok (.aload_n 0, 1) := by decide +kernel
theorem zd_111_163 : decode (zm_cc 111) 163 = .ok (.getfield 246, 3) := by decide +kernel
theorem zd_111_166 : decode (zm_cc 111) 166 = .ok (.iconst (-1), 1) := by decide +kernel
theorem zd_111_167 : decode (zm_cc 111) 167 = .ok (.if_icmp .eq 10, 3) := by decide +kernel
theorem zd_111_170 : decode (zm_cc 111) 170 = .ok (.aload_n 0, 1) := by decide +kernel
theorem zd_111_171 : decode (zm_cc 111) 171 = .ok (.invokevirtual 212, 3) := by decide +kernel
theorem zd_111_174 : decode (zm_cc 111) 174 = .ok (.goto 309, 3) := by decide +kernel
theorem zd_111_177 : decode (zm_cc 111) 177 = .ok (.aload_n 0, 1) := by decide +kernel
theorem zd_111_178 : decode (zm_cc 111) 178 = .ok (.getfield 303, 3) := by decide +kernel
theorem zd_111_181 : decode (zm_cc 111) 181 = .ok (.bipush 6, 2) := by decide +kernel
theorem zd_111_183 : decode (zm_cc 111) 183 = .ok (.if_icmp .ne 11, 3) := by decide +kernel
theorem zd_111_186 : decode (zm_cc 111) 186 = .ok (.aload_n 0, 1) := by decide +kernel
theorem zd_111_187 : decode (zm_cc 111) 187 = .ok (.iconst 4, 1) := by decide +kernel
theorem zd_111_188 : decode (zm_cc 111) 188 = .ok (.invokevirtual 151, 3) := by decide +kernel
theorem zd_111_191 : decode (zm_cc 111) 191 = .ok (.goto 292, 3) := by decide +kernel
theorem zd_111_194 : decode (zm_cc 111) 194 = .ok (.aload_n 0, 1) := by decide +kernel
theorem zd_111_195 : decode (zm_cc 111) 195 = .ok (.invokevirtual 209, 3) := by decide +kernel
theorem zd_111_198 : decode (zm_cc 111) 198 = .ok (.aload_n 0, 1) := by decide +kernel
theorem zd_111_199 : decode (zm_cc 111) 199 = .ok (.iconst 2, 1) := by decide +kernel
theorem zd_111_200 : decode (zm_cc 111) 200 = .ok (.iconst 0, 1) := by decide +kernel
theorem zd_111_201 : decode (zm_cc 111) 201 = .ok (.invokevirtual 267, 3) := by decide +kernel
theorem zd_111_204 : decode (zm_cc 111) 204 = .ok (.aload_n 0, 1) := by decide +kernel
theorem zd_111_205 : decode (zm_cc 111) 205 = .ok (.aload_n 0, 1) := by decide +kernel
theorem zd_111_206 : decode (zm_cc 111) 206 = .ok (.getfield 303, 3) := by decide +kernel
theorem zd_111_209 : decode (zm_cc 111) 209 = .ok (.putfield 246, 3) := by decide +kernel
theorem zd_111_212 : decode (zm_cc 111) 212 = .ok (.aload_n 0, 1) := by decide +kernel
theorem zd_111_213 : decode (zm_cc 111) 213 = .ok (.getfield 40, 3) := by decide +kernel
theorem zd_111_216 : decode (zm_cc 111) 216 = .ok (.aload_n 0, 1) := by decide +kernel
theorem zd_111_217 : decode (zm_cc 111) 217 = .ok (.getfield 303, 3) := by decide +kernel
theorem zd_111_220 : decode (zm_cc 111) 220 = .ok (.aload_n 0, 1) := by decide +kernel
theorem zd_111_221 : decode (zm_cc 111) 221 = .ok (.getfield 240, 3) := by decide +kernel
theorem zd_111_224 : decode (zm_cc 111) 224 = .ok (.iastore, 1) := by decide +kernel
theorem zd_111_225 : decode (zm_cc 111) 225 = .ok (.aload_n 0, 1) := by decide +kernel
theorem zd_111_226 : decode (zm_cc 111) 226 = .ok (.dup, 1) := by decide +kernel
theorem zd_111_227 : decode (zm_cc 111) 227 = .ok (.getfield 303, 3) := by decide +kernel
theorem zd_111_230 : decode (zm_cc 111) 230 = .ok (.iconst 1, 1) := by decide +kernel
theorem zd_111_231 : decode (zm_cc 111) 231 = .ok (.iadd, 1) := by decide +kernel
theorem zd_111_232 : decode (zm_cc 111) 232 = .ok (.putfield 303, 3) := by decide +kernel
theorem zd_111_235 : decode (zm_cc 111) 235 = .ok (.goto 248, 3) := by decide +kernel
theorem zd_111_238 : decode (zm_cc 111) 238 = .ok (.aload_n 0, 1) := by decide +kernel
theorem zd_111_239 : decode (zm_cc 111) 239 = .ok (.iconst 5, 1) := by decide +kernel
theorem zd_111_240 : decode (zm_cc 111) 240 = .ok (.iconst (-1), 1) := by decide +kernel
theorem zd_111_241 : decode (zm_cc 111) 241 = .ok (.invokevirtual 258, 3) := by decide +kernel
theorem zd_111_244 : decode (zm_cc 111) 244 = .ok (.istore_n 2, 1) := by decide +kernel
theorem zd_111_245 : decode (zm_cc 111) 245 = .ok (.aload_n 0, 1) := by decide +kernel
theorem zd_111_246 : decode (zm_cc 111) 246 = .ok (.invokevirtual 297, 3) := by decide +kernel
theorem zd_111_249 : decode (zm_cc 111) 249 = .ok (.aload_n 0, 1) := by decide +kernel
theorem zd_111_250 : decode (zm_cc 111) 250 = .ok (.iload_n 2, 1) := by decide +kernel
theorem zd_111_251 : decode (zm_cc 111) 251 = .ok (.invokevirtual 306, 3) := by decide +kernel
theorem zd_111_254 : decode (zm_cc 111) 254 = .ok (.aload_n 0, 1) := by decide +kernel
theorem zd_111_255 : decode (zm_cc 111) 255 = .ok (.iconst 3, 1) := by decide +kernel
theorem zd_111_256 : decode (zm_cc 111) 256 = .ok (.iload_n 2, 1) := by decide +kernel
theorem zd_111_257 : decode (zm_cc 111) 257 = .ok (.invokevirtual 267, 3) := by decide +kernel
theorem zd_111_260 : decode (zm_cc 111) 260 = .ok (.goto 223, 3) := by decide +kernel
theorem zd_111_263 : decode (zm_cc 111) 263 = .ok (.aload_n 0, 1) := by decide +kernel
theorem zd_111_264 : decode (zm_cc 111) 264 = .ok (.bipush 6, 2) := by decide +kernel
theorem zd_111_266 : decode (zm_cc 111) 266 = .ok (.iconst (-1), 1) := by decide +kernel
theorem zd_111_267 : decode (zm_cc 111) 267 = .ok (.invokevirtual 258, 3) := by decide +kernel
theorem zd_111_270 : decode (zm_cc 111) 270 = .ok (.istore_n 2, 1) := by decide +kernel
theorem zd_111_271 : decode (zm_cc 111) 271 = .ok (.aload_n 0, 1) := by decide +kernel
theorem zd_111_272 : decode (zm_cc 111) 272 = .ok (.invokevirtual 297, 3) := by decide +kernel
theorem zd_111_275 : decode (zm_cc 111) 275 = .ok (.aload_n 0, 1) := by decide +kernel
theorem zd_111_276 : decode (zm_cc 111) 276 = .ok (.iload_n 2, 1) := by decide +kernel
theorem zd_111_277 : decode (zm_cc 111) 277 = .ok (.invokevirtual 306, 3) := by decide +kernel
theorem zd_111_280 : decode (zm_cc 111) 280 = .ok (.aload_n 0, 1) := by decide +kernel
theorem zd_111_281 : decode (zm_cc 111) 281 = .ok (.iconst 5, 1) := by decide +kernel
theorem zd_111_282 : decode (zm_cc 111) 282 = .ok (.iload_n 2, 1) := by decide +kernel
theorem zd_111_283 : decode (zm_cc 111) 283 = .ok (.invokevirtual 267, 3) := by decide +kernel
theorem zd_111_286 : decode (zm_cc 111) 286 = .ok (.goto 197, 3) := by decide +kernel
theorem zd_111_289 : decode (zm_cc 111) 289 = .ok (.aload_n 0, 1) := by decide +kernel
theorem zd_111_290 : decode (zm_cc 111) 290 = .ok (.bipush 7, 2) := by decide +kernel
theorem zd_111_292 : decode (zm_cc 111) 292 = .ok (.iconst 0, 1) := by decide +kernel
theorem zd_111_293 : decode (zm_cc 111) 293 = .ok (.invokevirtual 258, 3) := by decide +kernel
theorem zd_111_296 : decode (zm_cc 111) 296 = .ok (.istore_n 2, 1) := by decide +kernel
theorem zd_111_297 : decode (zm_cc 111) 297 = .ok (.aload_n 0, 1) := by decide +kernel
theorem zd_111_298 : decode (zm_cc 111) 298 = .ok (.invokevirtual 297, 3) := by decide +kernel
theorem zd_111_301 : decode (zm_cc 111) 301 = .ok (.aload_n 0, 1) := by decide +kernel
theorem zd_111_302 : decode (zm_cc 111) 302 = .ok (.getfield 46, 3) := by decide +kernel
theorem zd_111_305 : decode (zm_cc 111) 305 = .ok (.iload_n 1, 1) := by decide +kernel
theorem zd_111_306 : decode (zm_cc 111) 306 = .ok (.iload_n 2, 1) := by decide +kernel
theorem zd_111_307 : decode (zm_cc 111) 307 = .ok (.iadd, 1) := by decide +kernel
theorem zd_111_308 : decode (zm_cc 111) 308 = .ok (.aload_n 0, 1) := by decide +kernel
theorem zd_111_309 : decode (zm_cc 111) 309 = .ok (.invokevirtual 300, 3) := by decide +kernel
theorem zd_111_312 : decode (zm_cc 111) 312 = .ok (.iastore, 1) := by decide +kernel
theorem zd_111_313 : decode (zm_cc 111) 313 = .ok (.aload_n 0, 1) := by decide +kernel
theorem zd_111_314 : decode (zm_cc 111) 314 = .ok (.bipush 59, 2) := by decide +kernel
theorem zd_111_316 : decode (zm_cc 111) 316 = .ok (.invokevirtual 288, 3) := by decide +kernel
theorem zd_111_319 : decode (zm_cc 111) 319 = .ok (.goto 164, 3) := by decide +kernel
theorem zd_111_322 : decode (zm_cc 111) 322 = .ok (.aload_n 0, 1) := by decide +kernel
theorem zd_111_323 : decode (zm_cc 111) 323 = .ok (.bipush 8, 2) := by decide +kernel
theorem zd_111_325 : decode (zm_cc 111) 325 = .ok (.iconst 0, 1) := by decide +kernel
theorem zd_111_326 : decode (zm_cc 111) 326 = .ok (.invokevirtual 258, 3) := by decide +kernel
theorem zd_111_329 : decode (zm_cc 111) 329 = .ok (.istore_n 2, 1) := by decide +kernel
theorem zd_111_330 : decode (zm_cc 111) 330 = .ok (.aload_n 0, 1) := by decide +kernel
theorem zd_111_331 : decode (zm_cc 111) 331 = .ok (.invokevirtual 297, 3) := by decide +kernel
theorem zd_111_334 : decode (zm_cc 111) 334 = .ok (.aload_n 0, 1) := by decide +kernel
theorem zd_111_335 : decode (zm_cc 111) 335 = .ok (.getfield 135, 3) := by decide +kernel
theorem zd_111_338 : decode (zm_cc 111) 338 = .ok (.ifCond .ne 26, 3) := by decide +kernel
theorem zd_111_341 : decode (zm_cc 111) 341 = .ok (.aload_n 0, 1) := by decide +kernel
theorem zd_111_342 : decode (zm_cc 111) 342 = .ok (.bipush 10, 2) := by decide +kernel
theorem zd_111_344 : decode (zm_cc 111) 344 = .ok (.invokevirtual 264, 3) := by decide +kernel
theorem zd_111_347 : decode (zm_cc 111) 347 = .ok (.ifCond .eq 17, 3) := by decide +kernel
theorem zd_111_350 : decode (zm_cc 111) 350 = .ok (.aload_n 0, 1) := by decide +kernel
theorem zd_111_351 : decode (zm_cc 111) 351 = .ok (.getfield 43, 3) := by decide +kernel
theorem zd_111_354 : decode (zm_cc 111) 354 = .ok (.iload_n 1, 1) := by decide +kernel
theorem zd_111_355 : decode (zm_cc 111) 355 = .ok (.iload_n 2, 1) := by decide +kernel
theorem zd_111_356 : decode (zm_cc 111) 356 = .ok (.iadd, 1) := by decide +kernel
theorem zd_111_357 : decode (zm_cc 111) 357 = .ok (.bipush 9, 2) := by decide +kernel
theorem zd_111_359 : decode (zm_cc 111) 359 = .ok (.iastore, 1) := by decide +kernel
theorem zd_111_360 : decode (zm_cc 111) 360 = .ok (.aload_n 0, 1) := by decide +kernel
theorem zd_111_361 : decode (zm_cc 111) 361 = .ok (.invokevirtual 209, 3) := by decide +kernel
theorem zd_111_364 : decode (zm_cc 111) 364 = .ok (.aload_n 0, 1) := by decide +kernel
theorem zd_111_365 : decode (zm_cc 111) 365 = .ok (.getfield 46, 3) := by decide +kernel
theorem zd_111_368 : decode (zm_cc 111) 368 = .ok (.iload_n 1, 1) := by decide +kernel
theorem zd_111_369 : decode (zm_cc 111) 369 = .ok (.iload_n 2, 1) := by decide +kernel
theorem zd_111_370 : decode (zm_cc 111) 370 = .ok (.iadd, 1) := by decide +kernel
theorem zd_111_371 : decode (zm_cc 111) 371 = .ok (.aload_n 0, 1) := by decide +kernel
theorem zd_111_372 : decode (zm_cc 111) 372 = .ok (.invokevirtual 300, 3) := by decide +kernel
theorem zd_111_375 : decode (zm_cc 111) 375 = .ok (.iastore, 1) := by decide +kernel
theorem zd_111_376 : decode (zm_cc 111) 376 = .ok (.aload_n 0, 1) := by decide +kernel
theorem zd_111_377 : decode (zm_cc 111) 377 = .ok (.bipush 59, 2) := by decide +kernel
theorem zd_111_379 : decode (zm_cc 111) 379 = .ok (.invokevirtual 288, 3) := by decide +kernel
theorem zd_111_382 : decode (zm_cc 111) 382 = .ok (.goto 101, 3) := by decide +kernel
theorem zd_111_385 : decode (zm_cc 111) 385 = .ok (.aload_n 0, 1) := by decide +kernel
theorem zd_111_386 : decode (zm_cc 111) 386 = .ok (.aload_n 0, 1) := by decide +kernel
theorem zd_111_387 : decode (zm_cc 111) 387 = .ok (.getfield 192, 3) := by decide +kernel
theorem zd_111_390 : decode (zm_cc 111) 390 = .ok (.bipush 11, 2) := by decide +kernel
theorem zd_111_392 : decode (zm_cc 111) 392 = .ok (.if_icmp .ne 8, 3) := by decide +kernel
theorem zd_111_395 : decode (zm_cc 111) 395 = .ok (.bipush 10, 2) := by decide +kernel
theorem zd_111_397 : decode (zm_cc 111) 397 = .ok (.goto 5, 3) := by decide +kernel
theorem zd_111_400 : decode (zm_cc 111) 400 = .ok (.bipush 11, 2) := by decide +kernel
theorem zd_111_402 : decode (zm_cc 111) 402 = .ok (.iconst 0, 1) := by decide +kernel
theorem zd_111_403 : decode (zm_cc 111) 403 = .ok (.invokevirtual 258, 3) := by decide +kernel
theorem zd_111_406 : decode (zm_cc 111) 406 = .ok (.istore_n 2, 1) := by decide +kernel
theorem zd_111_407 : decode (zm_cc 111) 407 = .ok (.aload_n 0, 1) := by decide +kernel
theorem zd_111_408 : decode (zm_cc 111) 408 = .ok (.invokevirtual 297, 3) := by decide +kernel
theorem zd_111_411 : decode (zm_cc 111) 411 = .ok (.aload_n 0, 1) := by decide +kernel
theorem zd_111_412 : decode (zm_cc 111) 412 = .ok (.getfield 46, 3) := by decide +kernel
theorem zd_111_415 : decode (zm_cc 111) 415 = .ok (.iload_n 1, 1) := by decide +kernel
theorem zd_111_416 : decode (zm_cc 111) 416 = .ok (.iload_n 2, 1) := by decide +kernel
theorem zd_111_417 : decode (zm_cc 111) 417 = .ok (.iadd, 1) := by decide +kernel
theorem zd_111_418 : decode (zm_cc 111) 418 = .ok (.aload_n 0, 1) := by decide +kernel
theorem zd_111_419 : decode (zm_cc 111) 419 = .ok (.invokevirtual 309, 3) := by decide +kernel
theorem zd_111_422 : decode (zm_cc 111) 422 = .ok (.iastore, 1) := by decide +kernel
theorem zd_111_423 : decode (zm_cc 111) 423 = .ok (.aload_n 0, 1) := by decide +kernel
theorem zd_111_424 : decode (zm_cc 111) 424 = .ok (.bipush 59, 2) := by decide +kernel
theorem zd_111_426 : decode (zm_cc 111) 426 = .ok (.invokevirtual 288, 3) := by decide +kernel
theorem zd_111_429 : decode (zm_cc 111) 429 = .ok (.goto 54, 3) := by decide +kernel
theorem zd_111_432 : decode (zm_cc 111) 432 = .ok (.aload_n 0, 1) := by decide +kernel
theorem zd_111_433 : decode (zm_cc 111) 433 = .ok (.bipush 12, 2) := by decide +kernel
theorem zd_111_435 : decode (zm_cc 111) 435 = .ok (.iconst (-1), 1) := by decide +kernel
theorem zd_111_436 : decode (zm_cc 111) 436 = .ok (.invokevirtual 258, 3) := by decide +kernel
theorem zd_111_439 : decode (zm_cc 111) 439 = .ok (.istore_n 2, 1) := by decide +kernel
theorem zd_111_440 : decode (zm_cc 111) 440 = .ok (.aload_n 0, 1) := by decide +kernel
theorem zd_111_441 : decode (zm_cc 111) 441 = .ok (.invokevirtual 297, 3) := by decide +kernel
theorem zd_111_444 : decode (zm_cc 111) 444 = .ok (.aload_n 0, 1) := by decide +kernel
theorem zd_111_445 : decode (zm_cc 111) 445 = .ok (.iload_n 2, 1) := by decide +kernel
theorem zd_111_446 : decode (zm_cc 111) 446 = .ok (.invokevirtual 306, 3) := by decide +kernel
theorem zd_111_449 : decode (zm_cc 111) 449 = .ok (.aload_n 0, 1) := by decide +kernel
theorem zd_111_450 : decode (zm_cc 111) 450 = .ok (.bipush 59, 2) := by decide +kernel
theorem zd_111_452 : decode (zm_cc 111) 452 = .ok (.invokevirtual 288, 3) := by decide +kernel
theorem zd_111_455 : decode (zm_cc 111) 455 = .ok (.goto 28, 3) := by decide +kernel
theorem zd_111_458 : decode (zm_cc 111) 458 = .ok (.aload_n 0, 1) := by decide +kernel
theorem zd_111_459 : decode (zm_cc 111) 459 = .ok (.bipush 13, 2) := by decide +kernel
theorem zd_111_461 : decode (zm_cc 111) 461 = .ok (.iconst (-1), 1) := by decide +kernel
theorem zd_111_462 : decode (zm_cc 111) 462 = .ok (.invokevirtual 258, 3) := by decide +kernel
theorem zd_111_465 : decode (zm_cc 111) 465 = .ok (.istore_n 2, 1) := by decide +kernel
theorem zd_111_466 : decode (zm_cc 111) 466 = .ok (.aload_n 0, 1) := by decide +kernel
theorem zd_111_467 : decode (zm_cc 111) 467 = .ok (.invokevirtual 297, 3) := by decide +kernel
theorem zd_111_470 : decode (zm_cc 111) 470 = .ok (.aload_n 0, 1) := by decide +kernel
theorem zd_111_471 : decode (zm_cc 111) 471 = .ok (.bipush 59, 2) := by decide +kernel
theorem zd_111_473 : decode (zm_cc 111) 473 = .ok (.invokevirtual 288, 3) := by decide +kernel
theorem zd_111_476 : decode (zm_cc 111) 476 = .ok (.goto 7, 3) := by decide +kernel
theorem zd_111_479 : decode (zm_cc 111) 479 = .ok (.aload_n 0, 1) := by decide +kernel
theorem zd_111_480 : decode (zm_cc 111) 480 = .ok (.invokevirtual 212, 3) := by decide +kernel
theorem zd_111_483 : decode (zm_cc 111) 483 = .ok (.return_, 1) := by decide +kernel
theorem zd_112_0 : decode (zm_cc 112) 0 = .ok (.aload_n 0, 1) := by decide +kernel
theorem zd_112_1 : decode (zm_cc 112) 1 = .ok (.invokevirtual 228, 3) := by decide +kernel
theorem zd_112_4 : decode (zm_cc 112) 4 = .ok (.istore_n 1, 1) := by decide +kernel
theorem zd_112_5 : decode (zm_cc 112) 5 = .ok (.iload_n 1, 1) := by decide +kernel
theorem zd_112_6 : decode (zm_cc 112) 6 = .ok (.iconst (-1), 1) := by decide +kernel
theorem zd_112_7 : decode (zm_cc 112) 7 = .ok (.if_icmp .ne 15, 3) := by decide +kernel
theorem zd_112_10 : decode (zm_cc 112) 10 = .ok (.aload_n 0, 1) := by decide +kernel
theorem zd_112_11 : decode (zm_cc 112) 11 = .ok (.invokevirtual 277, 3) := by decide +kernel
theorem zd_112_14 : decode (zm_cc 112) 14 = .ok (.ifCond .eq 8, 3) := by decide +kernel
theorem zd_112_17 : decode (zm_cc 112) 17 = .ok (.aload_n 0, 1) := by decide +kernel
theorem zd_112_18 : decode (zm_cc 112) 18 = .ok (.invokevirtual 212, 3) := by decide +kernel
theorem zd_112_21 : decode (zm_cc 112) 21 = .ok (.return_, 1) := by decide +kernel
theorem zd_112_22 : decode (zm_cc 112) 22 = .ok (.iload_n 1, 1) := by decide +kernel
theorem zd_112_23 : decode (zm_cc 112) 23 = .ok (.iconst (-1), 1) := by decide +kernel
theorem zd_112_24 : decode (zm_cc 112) 24 = .ok (.if_icmp .ne 11, 3) := by decide +kernel
theorem zd_112_27 : decode (zm_cc 112) 27 = .ok (.aload_n 0, 1) := by decide +kernel
theorem zd_112_28 : decode (zm_cc 112) 28 = .ok (.iconst 1, 1) := by decide +kernel
theorem zd_112_29 : decode (zm_cc 112) 29 = .ok (.invokevirtual 281, 3) := by decide +kernel
theorem zd_112_32 : decode (zm_cc 112) 32 = .ok (.goto 4, 3) := by decide +kernel
theorem zd_112_35 : decode (zm_cc 112) 35 = .ok (.iconst 0, 1) := by decide +kernel
theorem zd_112_36 : decode (zm_cc 112) 36 = .ok (.istore_n 2, 1) := by decide +kernel
theorem zd_112_37 : decode (zm_cc 112) 37 = .ok (.aload_n 0, 1) := by decide +kernel
theorem zd_112_38 : decode (zm_cc 112) 38 = .ok (.getfield 135, 3) := by decide +kernel
theorem zd_112_41 : decode (zm_cc 112) 41 = .ok (.ifCond .eq 4, 3) := by decide +kernel
theorem zd_112_44 : decode (zm_cc 112) 44 = .ok (.return_, 1) := by decide +kernel
theorem zd_112_45 : decode (zm_cc 112) 45 = .ok (.aload_n 0, 1) := by decide +kernel
theorem zd_112_46 : decode (zm_cc 112) 46 = .ok (.iload_n 1, 1) := by decide +kernel
theorem zd_112_47 : decode (zm_cc 112) 47 = .ok (.iconst (-1), 1) := by decide +kernel
theorem zd_112_48 : decode (zm_cc 112) 48 = .ok (.if_icmp .ne 7, 3) := by decide +kernel
theorem zd_112_51 : decode (zm_cc 112) 51 = .ok (.iconst 2, 1) := by decide +kernel
theorem zd_112_52 : decode (zm_cc 112) 52 = .ok (.goto 4, 3) := by decide +kernel
theorem zd_112_55 : decode (zm_cc 112) 55 = .ok (.iconst 1, 1) := by decide +kernel
theorem zd_112_56 : decode (zm_cc 112) 56 = .ok (.iload_n 1, 1) := by decide +kernel
theorem zd_112_57 : decode (zm_cc 112) 57 = .ok (.invokevirtual 258, 3) := by decide +kernel
theorem zd_112_60 : decode (zm_cc 112) 60 = .ok (.istore_n 3, 1) := by decide +kernel
theorem zd_112_61 : decode (zm_cc 112) 61 = .ok (.aload_n 0, 1) := by decide +kernel
theorem zd_112_62 : decode (zm_cc 112) 62 = .ok (.getfield 135, 3) := by decide +kernel
theorem zd_112_65 : decode (zm_cc 112) 65 = .ok (.ifCond .eq 4, 3) := by decide +kernel
theorem zd_112_68 : decode (zm_cc 112) 68 = .ok (.return_, 1) := by decide +kernel
theorem zd_112_69 : decode (zm_cc 112) 69 = .ok (.bipush 24, 2) := by decide +kernel
theorem zd_112_71 : decode (zm_cc 112) 71 = .ok (.aload_n 0, 1) := by decide +kernel
theorem zd_112_72 : decode (zm_cc 112) 72 = .ok (.getfield 240, 3) := by decide +kernel
theorem zd_112_75 : decode (zm_cc 112) 75 = .ok (.imul, 1) := by decide +kernel
theorem zd_112_76 : decode (zm_cc 112) 76 = .ok (.iload_n 3, 1) := by decide +kernel
theorem zd_112_77 : decode (zm_cc 112) 77 = .ok (.iadd, 1) := by decide +kernel
theorem zd_112_78 : decode (zm_cc 112) 78 = .ok (.istore 4, 2) := by decide +kernel
theorem zd_112_80 : decode (zm_cc 112) 80 = .ok (.aload_n 0, 1) := by decide +kernel
theorem zd_112_81 : decode (zm_cc 112) 81 = .ok (.invokevirtual 209, 3) := by decide +kernel
theorem zd_112_84 : decode (zm_cc 112) 84 = .ok (.aload_n 0, 1) := by decide +kernel
theorem zd_112_85 : decode (zm_cc 112) 85 = .ok (.bipush 61, 2) := by decide +kernel
theorem zd_112_87 : decode (zm_cc 112) 87 = .ok (.invokevirtual 288, 3) := by decide +kernel
theorem zd_112_90 : decode (zm_cc 112) 90 = .ok (.aload_n 0, 1) := by decide +kernel
theorem zd_112_91 : decode (zm_cc 112) 91 = .ok (.getfield 135, 3) := by decide +kernel
theorem zd_112_94 : decode (zm_cc 112) 94 = .ok (.ifCond .eq 4, 3) := by decide +kernel
theorem zd_112_97 : decode (zm_cc 112) 97 = .ok (.return_, 1) := by decide +kernel
theorem zd_112_98 : decode (zm_cc 112) 98 = .ok (.aload_n 0, 1) := by decide +kernel
theorem zd_112_99 : decode (zm_cc 112) 99 = .ok (.getfield 61, 3) := by decide +kernel
theorem zd_112_102 : decode (zm_cc 112) 102 = .ok (.iload 4, 2) := by decide +kernel
theorem zd_112_104 : decode (zm_cc 112) 104 = .ok (.iload_n 2, 1) := by decide +kernel
theorem zd_112_105 : decode (zm_cc 112) 105 = .ok (.iastore, 1) := by decide +kernel
theorem zd_112_106 : decode (zm_cc 112) 106 = .ok (.aload_n 0, 1) := by decide +kernel
theorem zd_112_107 : decode (zm_cc 112) 107 = .ok (.getfield 70, 3) := by decide +kernel
theorem zd_112_110 : decode (zm_cc 112) 110 = .ok (.iload 4, 2) := by decide +kernel
theorem zd_112_112 : decode (zm_cc 112) 112 = .ok (.iconst 0, 1) := by decide +kernel
theorem zd_112_113 : decode (zm_cc 112) 113 = .ok (.iastore, 1) := by decide +kernel
theorem zd_112_114 : decode (zm_cc 112) 114 = .ok (.iload_n 1, 1) := by decide +kernel
theorem zd_112_115 : decode (zm_cc 112) 115 = .ok (.iconst (-1), 1) := by decide +kernel
theorem zd_112_116 : decode (zm_cc 112) 116 = .ok (.if_icmp .ne 45, 3) := by decide +kernel
theorem zd_112_119 : decode (zm_cc 112) 119 = .ok (.aload_n 0, 1) := by decide +kernel
theorem zd_112_120 : decode (zm_cc 112) 120 = .ok (.getfield 148, 3) := by decide +kernel
theorem zd_112_123 : decode (zm_cc 112) 123 = .ok (.iconst 2, 1) := by decide +kernel
theorem zd_112_124 : decode (zm_cc 112) 124 = .ok (.if_icmp .ne 37, 3) := by decide +kernel
theorem zd_112_127 : decode (zm_cc 112) 127 = .ok (.aload_n 0, 1) := by decide +kernel
theorem zd_112_128 : decode (zm_cc 112) 128 = .ok (.invokevirtual 228, 3) := by decide +kernel
theorem zd_112_131 : decode (zm_cc 112) 131 = .ok (.iconst (-1), 1) := by decide +kernel
theorem zd_112_132 : decode (zm_cc 112) 132 = .ok (.if_icmp .eq 29, 3) := by decide +kernel
theorem zd_112_135 : decode (zm_cc 112) 135 = .ok (.aload_n 0, 1) := by decide +kernel
theorem zd_112_136 : decode (zm_cc 112) 136 = .ok (.getfield 43, 3) := by decide +kernel
theorem zd_112_139 : decode (zm_cc 112) 139 = .ok (.iload 4, 2) := by decide +kernel
theorem zd_112_141 : decode (zm_cc 112) 141 = .ok (.iconst 0, 1) := by decide +kernel
theorem zd_112_142 : decode (zm_cc 112) 142 = .ok (.iastore, 1) := by decide +kernel
theorem zd_112_143 : decode (zm_cc 112) 143 = .ok (.aload_n 0, 1) := by decide +kernel
theorem zd_112_144 : decode (zm_cc 112) 144 = .ok (.getfield 46, 3) := by decide +kernel
theorem zd_112_147 : decode (zm_cc 112) 147 = .ok (.iload 4, 2) := by decide +kernel
theorem zd_112_149 : decode (zm_cc 112) 149 = .ok (.aload_n 0, 1) := by decide +kernel
theorem zd_112_150 : decode (zm_cc 112) 150 = .ok (.invokevirtual 228, 3) := by decide +kernel
theorem zd_112_153 : decode (zm_cc 112) 153 = .ok (.iastore, 1) := by decide +kernel
theorem zd_112_154 : decode (zm_cc 112) 154 = .ok (.aload_n 0, 1) := by decide +kernel
theorem zd_112_155 : decode (zm_cc 112) 155 = .ok (.invokevirtual 209, 3) := by decide +kernel
theorem zd_112_158 : decode (zm_cc 112) 158 = .ok (.goto 72, 3) := by decide +kernel
theorem zd_112_161 : decode (zm_cc 112) 161 = .ok (.aload_n 0, 1) := by decide +kernel
theorem zd_112_162 : decode (zm_cc 112) 162 = .ok (.getfield 64, 3) := by decide +kernel
theorem zd_112_165 : decode (zm_cc 112) 165 = .ok (.iload 4, 2) := by decide +kernel
theorem zd_112_167 : decode (zm_cc 112) 167 = .ok (.aload_n 0, 1) := by decide +kernel
theorem zd_112_168 : decode (zm_cc 112) 168 = .ok (.iconst 1, 1) := by decide +kernel
theorem zd_112_169 : decode (zm_cc 112) 169 = .ok (.invokevirtual 285, 3) := by decide +kernel
theorem zd_112_172 : decode (zm_cc 112) 172 = .ok (.iastore, 1) := by decide +kernel
theorem zd_112_173 : decode (zm_cc 112) 173 = .ok (.iload_n 1, 1) := by decide +kernel
theorem zd_112_174 : decode (zm_cc 112) 174 = .ok (.iconst (-1), 1) := by decide +kernel
theorem zd_112_175 : decode (zm_cc 112) 175 = .ok (.if_icmp .ne 55, 3) := by decide +kernel
theorem zd_112_178 : decode (zm_cc 112) 178 = .ok (.aload_n 0, 1) := by decide +kernel
theorem zd_112_179 : decode (zm_cc 112) 179 = .ok (.getfield 135, 3) := by decide +kernel
theorem zd_112_182 : decode (zm_cc 112) 182 = .ok (.ifCond .ne 48, 3) := by decide +kernel
theorem zd_112_185 : decode (zm_cc 112) 185 = .ok (.aload_n 0, 1) := by decide +kernel
theorem zd_112_186 : decode (zm_cc 112) 186 = .ok (.bipush 43, 2) := by decide +kernel
theorem zd_112_188 : decode (zm_cc 112) 188 = .ok (.invokevirtual 206, 3) := by decide +kernel
theorem zd_112_191 : decode (zm_cc 112) 191 = .ok (.ifCond .ne 12, 3) := by decide +kernel
theorem zd_112_194 : decode (zm_cc 112) 194 = .ok (.aload_n 0, 1) := by decide +kernel
theorem zd_112_195 : decode (zm_cc 112) 195 = .ok (.bipush 45, 2) := by decide +kernel
theorem zd_112_197 : decode (zm_cc 112) 197 = .ok (.invokevirtual 206, 3) := by decide +kernel
theorem zd_112_200 : decode (zm_cc 112) 200 = .ok (.ifCond .eq 30, 3) := by decide +kernel
theorem zd_112_203 : decode (zm_cc 112) 203 = .ok (.aload_n 0, 1) := by decide +kernel
theorem zd_112_204 : decode (zm_cc 112) 204 = .ok (.getfield 70, 3) := by decide +kernel
theorem zd_112_207 : decode (zm_cc 112) 207 = .ok (.iload 4, 2) := by decide +kernel
theorem zd_112_209 : decode (zm_cc 112) 209 = .ok (.aload_n 0, 1) := by decide +kernel
theorem zd_112_210 : decode (zm_cc 112) 210 = .ok (.getfield 192, 3) := by decide +kernel
theorem zd_112_213 : decode (zm_cc 112) 213 = .ok (.iastore, 1) := by decide +kernel
theorem zd_112_214 : decode (zm_cc 112) 214 = .ok (.aload_n 0, 1) := by decide +kernel
theorem zd_112_215 : decode (zm_cc 112) 215 = .ok (.invokevirtual 209, 3) := by decide +kernel
theorem zd_112_218 : decode (zm_cc 112) 218 = .ok (.aload_n 0, 1) := by decide +kernel
theorem zd_112_219 : decode (zm_cc 112) 219 = .ok (.getfield 67, 3) := by decide +kernel
theorem zd_112_222 : decode (zm_cc 112) 222 = .ok (.iload 4, 2) := by decide +kernel
theorem zd_112_224 : decode (zm_cc 112) 224 = .ok (.aload_n 0, 1) := by decide +kernel
theorem zd_112_225 : decode (zm_cc 112) 225 = .ok (.iconst 1, 1) := by decide +kernel
theorem zd_112_226 : decode (zm_cc 112) 226 = .ok (.invokevirtual 285, 3) := by decide +kernel
theorem zd_112_229 : decode (zm_cc 112) 229 = .ok (.iastore, 1) := by decide +kernel
theorem zd_112_230 : decode (zm_cc 112) 230 = .ok (.aload_n 0, 1) := by decide +kernel
theorem zd_112_231 : decode (zm_cc 112) 231 = .ok (.bipush 59, 2) := by decide +kernel
theorem zd_112_233 : decode (zm_cc 112) 233 = .ok (.invokevirtual 288, 3) := by decide +kernel
theorem zd_112_236 : decode (zm_cc 112) 236 = .ok (.return_, 1) := by decide +kernel
theorem zd_113_0 : decode (zm_cc 113) 0 = .ok (.aload_n 0, 1) := by decide +kernel
theorem zd_113_1 : decode (zm_cc 113) 1 = .ok (.bipush 14, 2) := by decide +kernel
theorem zd_113_3 : decode (zm_cc 113) 3 = .ok (.aload_n 0, 1) := by decide +kernel
theorem zd_113_4 : decode (zm_cc 113) 4 = .ok (.getfield 271, 3) := by decide +kernel
theorem zd_113_7 : decode (zm_cc 113) 7 = .ok (.invokevirtual 218, 3) := by decide +kernel
theorem zd_113_10 : decode (zm_cc 113) 10 = .ok (.istore_n 2, 1) := by decide +kernel
theorem zd_113_11 : decode (zm_cc 113) 11 = .ok (.iload_n 2, 1) := by decide +kernel
theorem zd_113_12 : decode (zm_cc 113) 12 = .ok (.iconst (-1), 1) := by decide +kernel
theorem zd_113_13 : decode (zm_cc 113) 13 = .ok (.if_icmp .eq 5, 3) := by decide +kernel
theorem zd_113_16 : decode (zm_cc 113) 16 = .ok (.iload_n 2, 1) := by decide +kernel
theorem zd_113_17 : decode (zm_cc 113) 17 = .ok (.ireturn, 1) := by decide +kernel
theorem zd_113_18 : decode (zm_cc 113) 18 = .ok (.iload_n 1, 1) := by decide +kernel
theorem zd_113_19 : decode (zm_cc 113) 19 = .ok (.ifCond .ne 10, 3) := by decide +kernel
theorem zd_113_22 : decode (zm_cc 113) 22 = .ok (.aload_n 0, 1) := by decide +kernel
theorem zd_113_23 : decode (zm_cc 113) 23 = .ok (.iconst 3, 1) := by decide +kernel
theorem zd_113_24 : decode (zm_cc 113) 24 = .ok (.invokevirtual 151, 3) := by decide +kernel
theorem zd_113_27 : decode (zm_cc 113) 27 = .ok (.iconst 0, 1) := by decide +kernel
theorem zd_113_28 : decode (zm_cc 113) 28 = .ok (.ireturn, 1) := by decide +kernel
theorem zd_113_29 : decode (zm_cc 113) 29 = .ok (.aload_n 0, 1) := by decide +kernel
theorem zd_113_30 : decode (zm_cc 113) 30 = .ok (.getfield 271, 3) := by decide +kernel
theorem zd_113_33 : decode (zm_cc 113) 33 = .ok (.iconst 3, 1) := by decide +kernel
theorem zd_113_34 : decode (zm_cc 113) 34 = .ok (.if_icmp .ne 10, 3) := by decide +kernel
theorem zd_113_37 : decode (zm_cc 113) 37 = .ok (.aload_n 0, 1) := by decide +kernel
theorem zd_113_38 : decode (zm_cc 113) 38 = .ok (.iconst 4, 1) := by decide +kernel
theorem zd_113_39 : decode (zm_cc 113) 39 = .ok (.invokevirtual 151, 3) := by decide +kernel
theorem zd_113_42 : decode (zm_cc 113) 42 = .ok (.iconst 0, 1) := by decide +kernel
theorem zd_113_43 : decode (zm_cc 113) 43 = .ok (.ireturn, 1) := by decide +kernel
theorem zd_113_44 : decode (zm_cc 113) 44 = .ok (.aload_n 0, 1) := by decide +kernel
theorem zd_113_45 : decode (zm_cc 113) 45 = .ok (.bipush 14, 2) := by decide +kernel
theorem zd_113_47 : decode (zm_cc 113) 47 = .ok (.aload_n 0, 1) := by decide +kernel
theorem zd_113_48 : decode (zm_cc 113) 48 = .ok (.getfield 271, 3) := by decide +kernel
theorem zd_113_51 : decode (zm_cc 113) 51 = .ok (.iadd, 1) := by decide +kernel
theorem zd_113_52 : decode (zm_cc 113) 52 = .ok (.invokevirtual 274, 3) := by decide +kernel
theorem zd_113_55 : decode (zm_cc 113) 55 = .ok (.aload_n 0, 1) := by decide +kernel
theorem zd_113_56 : decode (zm_cc 113) 56 = .ok (.dup, 1) := by decide +kernel
theorem zd_113_57 : decode (zm_cc 113) 57 = .ok (.getfield 271, 3) := by decide +kernel
theorem zd_113_60 : decode (zm_cc 113) 60 = .ok (.iconst 1, 1) := by decide +kernel
theorem zd_113_61 : decode (zm_cc 113) 61 = .ok (.iadd, 1) := by decide +kernel
theorem zd_113_62 : decode (zm_cc 113) 62 = .ok (.putfield 271, 3) := by decide +kernel
theorem zd_113_65 : decode (zm_cc 113) 65 = .ok (.aload_n 0, 1) := by decide +kernel
theorem zd_113_66 : decode (zm_cc 113) 66 = .ok (.getfield 271, 3) := by decide +kernel
theorem zd_113_69 : decode (zm_cc 113) 69 = .ok (.iconst 1, 1) := by decide +kernel
theorem zd_113_70 : decode (zm_cc 113) 70 = .ok (.isub, 1) := by decide +kernel
theorem zd_113_71 : decode (zm_cc 113) 71 = .ok (.ireturn, 1) := by decide +kernel
theorem zd_114_0 : decode (zm_cc 114) 0 = .ok (.aload_n 0, 1) := by decide +kernel
theorem zd_114_1 : decode (zm_cc 114) 1 = .ok (.getfield 192, 3) := by decide +kernel
theorem zd_114_4 : decode (zm_cc 114) 4 = .ok (.istore_n 2, 1) := by decide +kernel
theorem zd_114_5 : decode (zm_cc 114) 5 = .ok (.aload_n 0, 1) := by decide +kernel
theorem zd_114_6 : decode (zm_cc 114) 6 = .ok (.getfield 135, 3) := by decide +kernel
theorem zd_114_9 : decode (zm_cc 114) 9 = .ok (.ifCond .eq 5, 3) := by decide +kernel
theorem zd_114_12 : decode (zm_cc 114) 12 = .ok (.iconst 0, 1) := by decide +kernel
theorem zd_114_13 : decode (zm_cc 114) 13 = .ok (.ireturn, 1) := by decide +kernel
theorem zd_114_14 : decode (zm_cc 114) 14 = .ok (.aload_n 0, 1) := by decide +kernel
theorem zd_114_15 : decode (zm_cc 114) 15 = .ok (.getfield 148, 3) := by decide +kernel
theorem zd_114_18 : decode (zm_cc 114) 18 = .ok (.iconst 2, 1) := by decide +kernel
theorem zd_114_19 : decode (zm_cc 114) 19 = .ok (.if_icmp .ne 22, 3) := by decide +kernel
theorem zd_114_22 : decode (zm_cc 114) 22 = .ok (.aload_n 0, 1) := by decide +kernel
theorem zd_114_23 : decode (zm_cc 114) 23 = .ok (.invokevirtual 277, 3) := by decide +kernel
theorem zd_114_26 : decode (zm_cc 114) 26 = .ok (.ifCond .ne 15, 3) := by decide +kernel
theorem zd_114_29 : decode (zm_cc 114) 29 = .ok (.bipush 8, 2) := by decide +kernel
theorem zd_114_31 : decode (zm_cc 114) 31 = .ok (.aload_n 0, 1) := by decide +kernel
theorem zd_114_32 : decode (zm_cc 114) 32 = .ok (.iload_n 1, 1) := by decide +kernel
theorem zd_114_33 : decode (zm_cc 114) 33 = .ok (.invokevirtual 281, 3) := by decide +kernel
theorem zd_114_36 : decode (zm_cc 114) 36 = .ok (.iadd, 1) := by decide +kernel
theorem zd_114_37 : decode (zm_cc 114) 37 = .ok (.istore_n 2, 1) := by decide +kernel
theorem zd_114_38 : decode (zm_cc 114) 38 = .ok (.goto 15, 3) := by decide +kernel
theorem zd_114_41 : decode (zm_cc 114) 41 = .ok (.aload_n 0, 1) := by decide +kernel
theorem zd_114_42 : decode (zm_cc 114) 42 = .ok (.getfield 148, 3) := by decide +kernel
theorem zd_114_45 : decode (zm_cc 114) 45 = .ok (.iconst 3, 1) := by decide +kernel
theorem zd_114_46 : decode (zm_cc 114) 46 = .ok (.if_icmp .eq 7, 3) := by decide +kernel
theorem zd_114_49 : decode (zm_cc 114) 49 = .ok (.aload_n 0, 1) := by decide +kernel
theorem zd_114_50 : decode (zm_cc 114) 50 = .ok (.invokevirtual 212, 3) := by decide +kernel
theorem zd_114_53 : decode (zm_cc 114) 53 = .ok (.aload_n 0, 1) := by decide +kernel
theorem zd_114_54 : decode (zm_cc 114) 54 = .ok (.getfield 135, 3) := by decide +kernel
theorem zd_114_57 : decode (zm_cc 114) 57 = .ok (.ifCond .ne 7, 3) := by decide +kernel
theorem zd_114_60 : decode (zm_cc 114) 60 = .ok (.aload_n 0, 1) := by decide +kernel
theorem zd_114_61 : decode (zm_cc 114) 61 = .ok (.invokevirtual 209, 3) := by decide +kernel
theorem zd_114_64 : decode (zm_cc 114) 64 = .ok (.iload_n 2, 1) := by decide +kernel
theorem zd_114_65 : decode (zm_cc 114) 65 = .ok (.ireturn, 1) := by decide +kernel
theorem zd_115_0 : decode (zm_cc 115) 0 = .ok (.aload_n 0, 1) := by decide +kernel
theorem zd_115_1 : decode (zm_cc 115) 1 = .ok (.getfield 135, 3) := by decide +kernel
theorem zd_115_4 : decode (zm_cc 115) 4 = .ok (.ifCond .ne 7, 3) := by decide +kernel
theorem zd_115_7 : decode (zm_cc 115) 7 = .ok (.aload_n 0, 1) := by decide +kernel
theorem zd_115_8 : decode (zm_cc 115) 8 = .ok (.invokevirtual 209, 3) := by decide +kernel
theorem zd_115_11 : decode (zm_cc 115) 11 = .ok (.return_, 1) := by decide +kernel
theorem zd_116_0 : decode (zm_cc 116) 0 = .ok (.aload_n 0, 1) := by decide +kernel
theorem zd_116_1 : decode (zm_cc 116) 1 = .ok (.getfield 135, 3) := by decide +kernel
theorem zd_116_4 : decode (zm_cc 116) 4 = .ok (.ifCond .eq 5, 3) := by decide +kernel
theorem zd_116_7 : decode (zm_cc 116) 7 = .ok (.iconst 0, 1) := by decide +kernel
theorem zd_116_8 : decode (zm_cc 116) 8 = .ok (.ireturn, 1) := by decide +kernel
theorem zd_116_9 : decode (zm_cc 116) 9 = .ok (.aload_n 0, 1) := by decide +kernel
theorem zd_116_10 : decode (zm_cc 116) 10 = .ok (.getfield 148, 3) := by decide +kernel
theorem zd_116_13 : decode (zm_cc 116) 13 = .ok (.iconst 2, 1) := by decide +kernel
theorem zd_116_14 : decode (zm_cc 116) 14 = .ok (.if_icmp .ne 10, 3) := by decide +kernel
theorem zd_116_17 : decode (zm_cc 116) 17 = .ok (.aload_n 0, 1) := by decide +kernel
theorem zd_116_18 : decode (zm_cc 116) 18 = .ok (.invokevirtual 231, 3) := by decide +kernel
theorem zd_116_21 : decode (zm_cc 116) 21 = .ok (.goto 4, 3) := by decide +kernel
theorem zd_116_24 : decode (zm_cc 116) 24 = .ok (.iconst (-1), 1) := by decide +kernel
theorem zd_116_25 : decode (zm_cc 116) 25 = .ok (.istore_n 1, 1) := by decide +kernel
theorem zd_116_26 : decode (zm_cc 116) 26 = .ok (.aload_n 0, 1) := by decide +kernel
theorem zd_116_27 : decode (zm_cc 116) 27 = .ok (.getfield 148, 3) := by decide +kernel
theorem zd_116_30 : decode (zm_cc 116) 30 = .ok (.iconst 2, 1) := by decide +kernel
theorem zd_116_31 : decode (zm_cc 116) 31 = .ok (.if_icmp .ne 15, 3) := by decide +kernel
theorem zd_116_34 : decode (zm_cc 116) 34 = .ok (.iload_n 1, 1) := by decide +kernel
theorem zd_116_35 : decode (zm_cc 116) 35 = .ok (.iconst (-1), 1) := by decide +kernel
theorem zd_116_36 : decode (zm_cc 116) 36 = .ok (.if_icmp .ne 17, 3) := by decide +kernel
theorem zd_116_39 : decode (zm_cc 116) 39 = .ok (.aload_n 0, 1) := by decide +kernel
theorem zd_116_40 : decode (zm_cc 116) 40 = .ok (.invokevirtual 277, 3) := by decide +kernel
theorem zd_116_43 : decode (zm_cc 116) 43 = .ok (.ifCond .eq 10, 3) := by decide +kernel
theorem zd_116_46 : decode (zm_cc 116) 46 = .ok (.aload_n 0, 1) := by decide +kernel
theorem zd_116_47 : decode (zm_cc 116) 47 = .ok (.invokevirtual 212, 3) := by decide +kernel
theorem zd_116_50 : decode (zm_cc 116) 50 = .ok (.goto 13, 3) := by decide +kernel
theorem zd_116_53 : decode (zm_cc 116) 53 = .ok (.iload_n 1, 1) := by decide +kernel
theorem zd_116_54 : decode (zm_cc 116) 54 = .ok (.iconst (-1), 1) := by decide +kernel
theorem zd_116_55 : decode (zm_cc 116) 55 = .ok (.if_icmp .ne 8, 3) := by decide +kernel
theorem zd_116_58 : decode (zm_cc 116) 58 = .ok (.aload_n 0, 1) := by decide +kernel
theorem zd_116_59 : decode (zm_cc 116) 59 = .ok (.iconst 3, 1) := by decide +kernel
theorem zd_116_60 : decode (zm_cc 116) 60 = .ok (.invokevirtual 151, 3) := by decide +kernel
theorem zd_116_63 : decode (zm_cc 116) 63 = .ok (.aload_n 0, 1) := by decide +kernel
theorem zd_116_64 : decode (zm_cc 116) 64 = .ok (.getfield 135, 3) := by decide +kernel
theorem zd_116_67 : decode (zm_cc 116) 67 = .ok (.ifCond .ne 7, 3) := by decide +kernel
theorem zd_116_70 : decode (zm_cc 116) 70 = .ok (.aload_n 0, 1) := by decide +kernel
theorem zd_116_71 : decode (zm_cc 116) 71 = .ok (.invokevirtual 209, 3) := by decide +kernel
theorem zd_116_74 : decode (zm_cc 116) 74 = .ok (.iload_n 1, 1) := by decide +kernel
theorem zd_116_75 : decode (zm_cc 116) 75 = .ok (.ireturn, 1) := by decide +kernel
theorem zd_117_0 : decode (zm_cc 117) 0 = .ok (.bipush 24, 2) := by decide +kernel
theorem zd_117_2 : decode (zm_cc 117) 2 = .ok (.aload_n 0, 1) := by decide +kernel
theorem zd_117_3 : decode (zm_cc 117) 3 = .ok (.getfield 240, 3) := by decide +kernel
theorem zd_117_6 : decode (zm_cc 117) 6 = .ok (.imul, 1) := by decide +kernel
theorem zd_117_7 : decode (zm_cc 117) 7 = .ok (.iload_n 1, 1) := by decide +kernel
theorem zd_117_8 : decode (zm_cc 117) 8 = .ok (.iadd, 1) := by decide +kernel
theorem zd_117_9 : decode (zm_cc 117) 9 = .ok (.istore_n 2, 1) := by decide +kernel
theorem zd_117_10 : decode (zm_cc 117) 10 = .ok (.aload_n 0, 1) := by decide +kernel
theorem zd_117_11 : decode (zm_cc 117) 11 = .ok (.getfield 135, 3) := by decide +kernel
theorem zd_117_14 : decode (zm_cc 117) 14 = .ok (.ifCond .eq 4, 3) := by decide +kernel
theorem zd_117_17 : decode (zm_cc 117) 17 = .ok (.return_, 1) := by decide +kernel
theorem zd_117_18 : decode (zm_cc 117) 18 = .ok (.aload_n 0, 1) := by decide +kernel
theorem zd_117_19 : decode (zm_cc 117) 19 = .ok (.getfield 64, 3) := by decide +kernel
theorem zd_117_22 : decode (zm_cc 117) 22 = .ok (.iload_n 2, 1) := by decide +kernel
theorem zd_117_23 : decode (zm_cc 117) 23 = .ok (.aload_n 0, 1) := by decide +kernel
theorem zd_117_24 : decode (zm_cc 117) 24 = .ok (.iconst 0, 1) := by decide +kernel
theorem zd_117_25 : decode (zm_cc 117) 25 = .ok (.invokevirtual 285, 3) := by decide +kernel
theorem zd_117_28 : decode (zm_cc 117) 28 = .ok (.iastore, 1) := by decide +kernel
theorem zd_117_29 : decode (zm_cc 117) 29 = .ok (.aload_n 0, 1) := by decide +kernel
theorem zd_117_30 : decode (zm_cc 117) 30 = .ok (.getfield 135, 3) := by decide +kernel
theorem zd_117_33 : decode (zm_cc 117) 33 = .ok (.ifCond .eq 4, 3) := by decide +kernel
theorem zd_117_36 : decode (zm_cc 117) 36 = .ok (.return_, 1) := by decide +kernel
theorem zd_117_37 : decode (zm_cc 117) 37 = .ok (.aload_n 0, 1) := by decide +kernel
theorem zd_117_38 : decode (zm_cc 117) 38 = .ok (.getfield 70, 3) := by decide +kernel
theorem zd_117_41 : decode (zm_cc 117) 41 = .ok (.iload_n 2, 1) := by decide +kernel
theorem zd_117_42 : decode (zm_cc 117) 42 = .ok (.aload_n 0, 1) := by decide +kernel
theorem zd_117_43 : decode (zm_cc 117) 43 = .ok (.getfield 192, 3) := by decide +kernel
theorem zd_117_46 : decode (zm_cc 117) 46 = .ok (.iastore, 1) := by decide +kernel
theorem zd_117_47 : decode (zm_cc 117) 47 = .ok (.aload_n 0, 1) := by decide +kernel
theorem zd_117_48 : decode (zm_cc 117) 48 = .ok (.getfield 148, 3) := by decide +kernel
theorem zd_117_51 : decode (zm_cc 117) 51 = .ok (.iconst 4, 1) := by decide +kernel
theorem zd_117_52 : decode (zm_cc 117) 52 = .ok (.if_icmp .ne 41, 3) := by decide +kernel
theorem zd_117_55 : decode (zm_cc 117) 55 = .ok (.aload_n 0, 1) := by decide +kernel
theorem zd_117_56 : decode (zm_cc 117) 56 = .ok (.getfield 192, 3) := by decide +kernel
theorem zd_117_59 : decode (zm_cc 117) 59 = .ok (.sipush 1000, 3) := by decide +kernel
theorem zd_117_62 : decode (zm_cc 117) 62 = .ok (.if_icmp .eq 36, 3) := by decide +kernel
theorem zd_117_65 : decode (zm_cc 117) 65 = .ok (.aload_n 0, 1) := by decide +kernel
theorem zd_117_66 : decode (zm_cc 117) 66 = .ok (.getfield 192, 3) := by decide +kernel
theorem zd_117_69 : decode (zm_cc 117) 69 = .ok (.sipush 1001, 3) := by decide +kernel
theorem zd_117_72 : decode (zm_cc 117) 72 = .ok (.if_icmp .eq 26, 3) := by decide +kernel
theorem zd_117_75 : decode (zm_cc 117) 75 = .ok (.aload_n 0, 1) := by decide +kernel
theorem zd_117_76 : decode (zm_cc 117) 76 = .ok (.getfield 192, 3) := by decide +kernel
theorem zd_117_79 : decode (zm_cc 117) 79 = .ok (.bipush 60, 2) := by decide +kernel
theorem zd_117_81 : decode (zm_cc 117) 81 = .ok (.if_icmp .eq 17, 3) := by decide +kernel
theorem zd_117_84 : decode (zm_cc 117) 84 = .ok (.aload_n 0, 1) := by decide +kernel
theorem zd_117_85 : decode (zm_cc 117) 85 = .ok (.getfield 192, 3) := by decide +kernel
theorem zd_117_88 : decode (zm_cc 117) 88 = .ok (.bipush 62, 2) := by decide +kernel
theorem zd_117_90 : decode (zm_cc 117) 90 = .ok (.if_icmp .eq 8, 3) := by decide +kernel
theorem zd_117_93 : decode (zm_cc 117) 93 = .ok (.aload_n 0, 1) := by decide +kernel
theorem zd_117_94 : decode (zm_cc 117) 94 = .ok (.invokevirtual 212, 3) := by decide +kernel
theorem zd_117_97 : decode (zm_cc 117) 97 = .ok (.return_, 1) := by decide +kernel
theorem zd_117_98 : decode (zm_cc 117) 98 = .ok (.aload_n 0, 1) := by decide +kernel
theorem zd_117_99 : decode (zm_cc 117) 99 = .ok (.invokevirtual 209, 3) := by decide +kernel
theorem zd_117_102 : decode (zm_cc 117) 102 = .ok (.aload_n 0, 1) := by decide +kernel
theorem zd_117_103 : decode (zm_cc 117) 103 = .ok (.getfield 67, 3) := by decide +kernel
theorem zd_117_106 : decode (zm_cc 117) 106 = .ok (.iload_n 2, 1) := by decide +kernel
theorem zd_117_107 : decode (zm_cc 117) 107 = .ok (.aload_n 0, 1) := by decide +kernel
theorem zd_117_108 : decode (zm_cc 117) 108 = .ok (.iconst 0, 1) := by decide +kernel
theorem zd_117_109 : decode (zm_cc 117) 109 = .ok (.invokevirtual 285, 3) := by decide +kernel
theorem zd_117_112 : decode (zm_cc 117) 112 = .ok (.iastore, 1) := by decide +kernel
theorem zd_117_113 : decode (zm_cc 117) 113 = .ok (.return_, 1) := by decide +kernel
theorem zd_118_0 : decode (zm_cc 118) 0 = .ok (.aload_n 0, 1) := by decide +kernel
theorem zd_118_1 : decode (zm_cc 118) 1 = .ok (.getfield 135, 3) := by decide +kernel
theorem zd_118_4 : decode (zm_cc 118) 4 = .ok (.ifCond .eq 5, 3) := by decide +kernel
theorem zd_118_7 : decode (zm_cc 118) 7 = .ok (.iconst 0, 1) := by decide +kernel
theorem zd_118_8 : decode (zm_cc 118) 8 = .ok (.ireturn, 1) := by decide +kernel
theorem zd_118_9 : decode (zm_cc 118) 9 = .ok (.aload_n 0, 1) := by decide +kernel
theorem zd_118_10 : decode (zm_cc 118) 10 = .ok (.getfield 148, 3) := by decide +kernel
theorem zd_118_13 : decode (zm_cc 118) 13 = .ok (.iconst 2, 1) := by decide +kernel
theorem zd_118_14 : decode (zm_cc 118) 14 = .ok (.if_icmp .ne 10, 3) := by decide +kernel
theorem zd_118_17 : decode (zm_cc 118) 17 = .ok (.aload_n 0, 1) := by decide +kernel
theorem zd_118_18 : decode (zm_cc 118) 18 = .ok (.invokevirtual 234, 3) := by decide +kernel
theorem zd_118_21 : decode (zm_cc 118) 21 = .ok (.goto 4, 3) := by decide +kernel
theorem zd_118_24 : decode (zm_cc 118) 24 = .ok (.iconst (-1), 1) := by decide +kernel
theorem zd_118_25 : decode (zm_cc 118) 25 = .ok (.istore_n 1, 1) := by decide +kernel
theorem zd_118_26 : decode (zm_cc 118) 26 = .ok (.aload_n 0, 1) := by decide +kernel
theorem zd_118_27 : decode (zm_cc 118) 27 = .ok (.getfield 148, 3) := by decide +kernel
theorem zd_118_30 : decode (zm_cc 118) 30 = .ok (.iconst 2, 1) := by decide +kernel
theorem zd_118_31 : decode (zm_cc 118) 31 = .ok (.if_icmp .ne 15, 3) := by decide +kernel
theorem zd_118_34 : decode (zm_cc 118) 34 = .ok (.iload_n 1, 1) := by decide +kernel
theorem zd_118_35 : decode (zm_cc 118) 35 = .ok (.iconst (-1), 1) := by decide +kernel
theorem zd_118_36 : decode (zm_cc 118) 36 = .ok (.if_icmp .ne 16, 3) := by decide +kernel
theorem zd_118_39 : decode (zm_cc 118) 39 = .ok (.aload_n 0, 1) := by decide +kernel
theorem zd_118_40 : decode (zm_cc 118) 40 = .ok (.invokevirtual 277, 3) := by decide +kernel
theorem zd_118_43 : decode (zm_cc 118) 43 = .ok (.ifCond .eq 9, 3) := by decide +kernel
theorem zd_118_46 : decode (zm_cc 118) 46 = .ok (.aload_n 0, 1) := by decide +kernel
theorem zd_118_47 : decode (zm_cc 118) 47 = .ok (.invokevirtual 212, 3) := by decide +kernel
theorem zd_118_50 : decode (zm_cc 118) 50 = .ok (.iconst 0, 1) := by decide +kernel
theorem zd_118_51 : decode (zm_cc 118) 51 = .ok (.ireturn, 1) := by decide +kernel
theorem zd_118_52 : decode (zm_cc 118) 52 = .ok (.iload_n 1, 1) := by decide +kernel
theorem zd_118_53 : decode (zm_cc 118) 53 = .ok (.iconst (-1), 1) := by decide +kernel
theorem zd_118_54 : decode (zm_cc 118) 54 = .ok (.if_icmp .ne 62, 3) := by decide +kernel
theorem zd_118_57 : decode (zm_cc 118) 57 = .ok (.aload_n 0, 1) := by decide +kernel
theorem zd_118_58 : decode (zm_cc 118) 58 = .ok (.bipush 17, 2) := by decide +kernel
theorem zd_118_60 : decode (zm_cc 118) 60 = .ok (.aload_n 0, 1) := by decide +kernel
theorem zd_118_61 : decode (zm_cc 118) 61 = .ok (.getfield 291, 3) := by decide +kernel
theorem zd_118_64 : decode (zm_cc 118) 64 = .ok (.invokevirtual 218, 3) := by decide +kernel
theorem zd_118_67 : decode (zm_cc 118) 67 = .ok (.istore_n 1, 1) := by decide +kernel
theorem zd_118_68 : decode (zm_cc 118) 68 = .ok (.iload_n 1, 1) := by decide +kernel
theorem zd_118_69 : decode (zm_cc 118) 69 = .ok (.iconst (-1), 1) := by decide +kernel
theorem zd_118_70 : decode (zm_cc 118) 70 = .ok (.if_icmp .ne 42, 3) := by decide +kernel
theorem zd_118_73 : decode (zm_cc 118) 73 = .ok (.aload_n 0, 1) := by decide +kernel
theorem zd_118_74 : decode (zm_cc 118) 74 = .ok (.bipush 17, 2) := by decide +kernel
theorem zd_118_76 : decode (zm_cc 118) 76 = .ok (.aload_n 0, 1) := by decide +kernel
theorem zd_118_77 : decode (zm_cc 118) 77 = .ok (.getfield 291, 3) := by decide +kernel
theorem zd_118_80 : decode (zm_cc 118) 80 = .ok (.iadd, 1) := by decide +kernel
theorem zd_118_81 : decode (zm_cc 118) 81 = .ok (.invokevirtual 274, 3) := by decide +kernel
theorem zd_118_84 : decode (zm_cc 118) 84 = .ok (.aload_n 0, 1) := by decide +kernel
theorem zd_118_85 : decode (zm_cc 118) 85 = .ok (.getfield 27, 3) := by decide +kernel
theorem zd_118_88 : decode (zm_cc 118) 88 = .ok (.aload_n 0, 1) := by decide +kernel
theorem zd_118_89 : decode (zm_cc 118) 89 = .ok (.getfield 291, 3) := by decide +kernel
theorem zd_118_92 : decode (zm_cc 118) 92 = .ok (.aload_n 0, 1) := by decide +kernel
theorem zd_118_93 : decode (zm_cc 118) 93 = .ok (.getfield 142, 3) := by decide +kernel
theorem zd_118_96 : decode (zm_cc 118) 96 = .ok (.iastore, 1) := by decide +kernel
theorem zd_118_97 : decode (zm_cc 118) 97 = .ok (.aload_n 0, 1) := by decide +kernel
theorem zd_118_98 : decode (zm_cc 118) 98 = .ok (.getfield 291, 3) := by decide +kernel
theorem zd_118_101 : decode (zm_cc 118) 101 = .ok (.istore_n 1, 1) := by decide +kernel
theorem zd_118_102 : decode (zm_cc 118) 102 = .ok (.aload_n 0, 1) := by decide +kernel
theorem zd_118_103 : decode (zm_cc 118) 103 = .ok (.dup, 1) := by decide +kernel
theorem zd_118_104 : decode (zm_cc 118) 104 = .ok (.getfield 291, 3) := by decide +kernel
theorem zd_118_107 : decode (zm_cc 118) 107 = .ok (.iconst 1, 1) := by decide +kernel
theorem zd_118_108 : decode (zm_cc 118) 108 = .ok (.iadd, 1) := by decide +kernel
theorem zd_118_109 : decode (zm_cc 118) 109 = .ok (.putfield 291, 3) := by decide +kernel
theorem zd_118_112 : decode (zm_cc 118) 112 = .ok (.iconst 4, 1) := by decide +kernel
theorem zd_118_113 : decode (zm_cc 118) 113 = .ok (.iload_n 1, 1) := by decide +kernel
theorem zd_118_114 : decode (zm_cc 118) 114 = .ok (.iadd, 1) := by decide +kernel
theorem zd_118_115 : decode (zm_cc 118) 115 = .ok (.istore_n 1, 1) := by decide +kernel
theorem zd_118_116 : decode (zm_cc 118) 116 = .ok (.aload_n 0, 1) := by decide +kernel
theorem zd_118_117 : decode (zm_cc 118) 117 = .ok (.invokevirtual 209, 3) := by decide +kernel
theorem zd_118_120 : decode (zm_cc 118) 120 = .ok (.iload_n 1, 1) := by decide +kernel
theorem zd_118_121 : decode (zm_cc 118) 121 = .ok (.ireturn, 1) := by decide +kernel
theorem zd_119_0 : decode (zm_cc 119) 0 = .ok (.iconst 0, 1) := by decide +kernel
theorem zd_119_1 : decode (zm_cc 119) 1 = .ok (.istore_n 1, 1) := by decide +kernel
theorem zd_119_2 : decode (zm_cc 119) 2 = .ok (.iload_n 1, 1) := by decide +kernel
theorem zd_119_3 : decode (zm_cc 119) 3 = .ok (.aload_n 0, 1) := by decide +kernel
theorem zd_119_4 : decode (zm_cc 119) 4 = .ok (.getfield 291, 3) := by decide +kernel
theorem zd_119_7 : decode (zm_cc 119) 7 = .ok (.if_icmp .ge 256, 3) := by decide +kernel
theorem zd_119_10 : decode (zm_cc 119) 10 = .ok (.aload_n 0, 1) := by decide +kernel
theorem zd_119_11 : decode (zm_cc 119) 11 = .ok (.getfield 135, 3) := by decide +kernel
theorem zd_119_14 : decode (zm_cc 119) 14 = .ok (.ifCond .ne 249, 3) := by decide +kernel
theorem zd_119_17 : decode (zm_cc 119) 17 = .ok (.iconst (-1), 1) := by decide +kernel
theorem zd_119_18 : decode (zm_cc 119) 18 = .ok (.istore_n 2, 1) := by decide +kernel
theorem zd_119_19 : decode (zm_cc 119) 19 = .ok (.iconst 0, 1) := by decide +kernel
theorem zd_119_20 : decode (zm_cc 119) 20 = .ok (.istore_n 3, 1) := by decide +kernel
theorem zd_119_21 : decode (zm_cc 119) 21 = .ok (.iload_n 3, 1) := by decide +kernel
theorem zd_119_22 : decode (zm_cc 119) 22 = .ok (.aload_n 0, 1) := by decide +kernel
theorem zd_119_23 : decode (zm_cc 119) 23 = .ok (.getfield 225, 3) := by decide +kernel
theorem zd_119_26 : decode (zm_cc 119) 26 = .ok (.if_icmp .ge 116, 3) := by decide +kernel
theorem zd_119_29 : decode (zm_cc 119) 29 = .ok (.aload_n 0, 1) := by decide +kernel
theorem zd_119_30 : decode (zm_cc 119) 30 = .ok (.getfield 23, 3) := by decide +kernel
theorem zd_119_33 : decode (zm_cc 119) 33 = .ok (.bipush 10, 2) := by decide +kernel
theorem zd_119_35 : decode (zm_cc 119) 35 = .ok (.iload_n 3, 1) := by decide +kernel
theorem zd_119_36 : decode (zm_cc 119) 36 = .ok (.iadd, 1) := by decide +kernel
theorem zd_119_37 : decode (zm_cc 119) 37 = .ok (.iaload, 1) := by decide +kernel
theorem zd_119_38 : decode (zm_cc 119) 38 = .ok (.aload_n 0, 1) := by decide +kernel
theorem zd_119_39 : decode (zm_cc 119) 39 = .ok (.getfield 23, 3) := by decide +kernel
theorem zd_119_42 : decode (zm_cc 119) 42 = .ok (.bipush 17, 2) := by decide +kernel
theorem zd_119_44 : decode (zm_cc 119) 44 = .ok (.iload_n 1, 1) := by decide +kernel
theorem zd_119_45 : decode (zm_cc 119) 45 = .ok (.iadd, 1) := by decide +kernel
theorem zd_119_46 : decode (zm_cc 119) 46 = .ok (.iaload, 1) := by decide +kernel
theorem zd_119_47 : decode (zm_cc 119) 47 = .ok (.if_icmp .ne 7, 3) := by decide +kernel
theorem zd_119_50 : decode (zm_cc 119) 50 = .ok (.iconst 1, 1) := by decide +kernel
theorem zd_119_51 : decode (zm_cc 119) 51 = .ok (.goto 4, 3) := by decide +kernel
theorem zd_119_54 : decode (zm_cc 119) 54 = .ok (.iconst 0, 1) := by decide +kernel
theorem zd_119_55 : decode (zm_cc 119) 55 = .ok (.istore 4, 2) := by decide +kernel
theorem zd_119_57 : decode (zm_cc 119) 57 = .ok (.iconst 0, 1) := by decide +kernel
theorem zd_119_58 : decode (zm_cc 119) 58 = .ok (.istore 5, 2) := by decide +kernel
theorem zd_119_60 : decode (zm_cc 119) 60 = .ok (.iload 5, 2) := by decide +kernel
theorem zd_119_62 : decode (zm_cc 119) 62 = .ok (.aload_n 0, 1) := by decide +kernel
theorem zd_119_63 : decode (zm_cc 119) 63 = .ok (.getfield 23, 3) := by decide +kernel
theorem zd_119_66 : decode (zm_cc 119) 66 = .ok (.bipush 17, 2) := by decide +kernel
theorem zd_119_68 : decode (zm_cc 119) 68 = .ok (.iload_n 1, 1) := by decide +kernel
theorem zd_119_69 : decode (zm_cc 119) 69 = .ok (.iadd, 1) := by decide +kernel
theorem zd_119_70 : decode (zm_cc 119) 70 = .ok (.iaload, 1) := by decide +kernel
theorem zd_119_71 : decode (zm_cc 119) 71 = .ok (.if_icmp .ge 54, 3) := by decide +kernel
theorem zd_119_74 : decode (zm_cc 119) 74 = .ok (.iload 4, 2) := by decide +kernel
theorem zd_119_76 : decode (zm_cc 119) 76 = .ok (.ifCond .eq 49, 3) := by decide +kernel
theorem zd_119_79 : decode (zm_cc 119) 79 = .ok (.aload_n 0, 1) := by decide +kernel
theorem zd_119_80 : decode (zm_cc 119) 80 = .ok (.getfield 20, 3) := by decide +kernel
theorem zd_119_83 : decode (zm_cc 119) 83 = .ok (.bipush 6, 2) := by decide +kernel
theorem zd_119_85 : decode (zm_cc 119) 85 = .ok (.bipush 10, 2) := by decide +kernel
theorem zd_119_87 : decode (zm_cc 119) 87 = .ok (.iload_n 3, 1) := by decide +kernel
theorem zd_119_88 : decode (zm_cc 119) 88 = .ok (.iadd, 1) := by decide +kernel
theorem zd_119_89 : decode (zm_cc 119) 89 = .ok (.imul, 1) := by decide +kernel
theorem zd_119_90 : decode (zm_cc 119) 90 = .ok (.iload 5, 2) := by decide +kernel
theorem zd_119_92 : decode (zm_cc 119) 92 = .ok (.iadd, 1) := by decide +kernel
theorem zd_119_93 : decode (zm_cc 119) 93 = .ok (.baload, 1) := by decide +kernel
theorem zd_119_94 : decode (zm_cc 119) 94 = .ok (.aload_n 0, 1) := by decide +kernel
theorem zd_119_95 : decode (zm_cc 119) 95 = .ok (.getfield 20, 3) := by decide +kernel
theorem zd_119_98 : decode (zm_cc 119) 98 = .ok (.bipush 6, 2) := by decide +kernel
theorem zd_119_100 : decode (zm_cc 119) 100 = .ok (.bipush 17, 2) := by decide +kernel
theorem zd_119_102 : decode (zm_cc 119) 102 = .ok (.iload_n 1, 1) := by decide +kernel
theorem zd_119_103 : decode (zm_cc 119) 103 = .ok (.iadd, 1) := by decide +kernel
theorem zd_119_104 : decode (zm_cc 119) 104 = .ok (.imul, 1) := by decide +kernel
theorem zd_119_105 : decode (zm_cc 119) 105 = .ok (.iload 5, 2) := by decide +kernel
theorem zd_119_107 : decode (zm_cc 119) 107 = .ok (.iadd, 1) := by decide +kernel
theorem zd_119_108 : decode (zm_cc 119) 108 = .ok (.baload, 1) := by decide +kernel
theorem zd_119_109 : decode (zm_cc 119) 109 = .ok (.if_icmp .ne 7, 3) := by decide +kernel
theorem zd_119_112 : decode (zm_cc 119) 112 = .ok (.iconst 1, 1) := by decide +kernel
theorem zd_119_113 : decode (zm_cc 119) 113 = .ok (.goto 4, 3) := by decide +kernel
theorem zd_119_116 : decode (zm_cc 119) 116 = .ok (.iconst 0, 1) := by decide +kernel
theorem zd_119_117 : decode (zm_cc 119) 117 = .ok (.istore 4, 2) := by decide +kernel
theorem zd_119_119 : decode (zm_cc 119) 119 = .ok (.iinc 5 1, 3) := by decide +kernel
theorem zd_119_122 : decode (zm_cc 119) 122 = .ok (.goto (-62), 3) := by decide +kernel
theorem zd_119_125 : decode (zm_cc 119) 125 = .ok (.iload 4, 2) := by decide +kernel
theorem zd_119_127 : decode (zm_cc 119) 127 = .ok (.ifCond .eq 7, 3) := by decide +kernel
theorem zd_119_130 : decode (zm_cc 119) 130 = .ok (.iload_n 3, 1) := by decide +kernel
theorem zd_119_131 : decode (zm_cc 119) 131 = .ok (.goto 4, 3) := by decide +kernel
theorem zd_119_134 : decode (zm_cc 119) 134 = .ok (.iload_n 2, 1) := by decide +kernel
theorem zd_119_135 : decode (zm_cc 119) 135 = .ok (.istore_n 2, 1) := by decide +kernel
theorem zd_119_136 : decode (zm_cc 119) 136 = .ok (.iinc 3 1, 3) := by decide +kernel
theorem zd_119_139 : decode (zm_cc 119) 139 = .ok (.goto (-118), 3) := by decide +kernel
theorem zd_119_142 : decode (zm_cc 119) 142 = .ok (.iload_n 2, 1) := by decide +kernel
theorem zd_119_143 : decode (zm_cc 119) 143 = .ok (.iconst (-1), 1) := by decide +kernel
theorem zd_119_144 : decode (zm_cc 119) 144 = .ok (.if_icmp .ne 23, 3) := by decide +kernel
theorem zd_119_147 : decode (zm_cc 119) 147 = .ok (.aload_n 0, 1) := by decide +kernel
theorem zd_119_148 : decode (zm_cc 119) 148 = .ok (.iconst 1, 1) := by decide +kernel
theorem zd_119_149 : decode (zm_cc 119) 149 = .ok (.putfield 135, 3) := by decide +kernel
theorem zd_119_152 : decode (zm_cc 119) 152 = .ok (.aload_n 0, 1) := by decide +kernel
theorem zd_119_153 : decode (zm_cc 119) 153 = .ok (.iconst 5, 1) := by decide +kernel
theorem zd_119_154 : decode (zm_cc 119) 154 = .ok (.putfield 139, 3) := by decide +kernel
theorem zd_119_157 : decode (zm_cc 119) 157 = .ok (.aload_n 0, 1) := by decide +kernel
theorem zd_119_158 : decode (zm_cc 119) 158 = .ok (.aload_n 0, 1) := by decide +kernel
theorem zd_119_159 : decode (zm_cc 119) 159 = .ok (.getfield 27, 3) := by decide +kernel
theorem zd_119_162 : decode (zm_cc 119) 162 = .ok (.iload_n 1, 1) := by decide +kernel
theorem zd_119_163 : decode (zm_cc 119) 163 = .ok (.iaload, 1) := by decide +kernel
theorem zd_119_164 : decode (zm_cc 119) 164 = .ok (.putfield 145, 3) := by decide +kernel
theorem zd_119_167 : decode (zm_cc 119) 167 = .ok (.iconst 0, 1) := by decide +kernel
theorem zd_119_168 : decode (zm_cc 119) 168 = .ok (.istore_n 3, 1) := by decide +kernel
theorem zd_119_169 : decode (zm_cc 119) 169 = .ok (.iload_n 3, 1) := by decide +kernel
theorem zd_119_170 : decode (zm_cc 119) 170 = .ok (.aload_n 0, 1) := by decide +kernel
theorem zd_119_171 : decode (zm_cc 119) 171 = .ok (.getfield 225, 3) := by decide +kernel
theorem zd_119_174 : decode (zm_cc 119) 174 = .ok (.if_icmp .ge 83, 3) := by decide +kernel
theorem zd_119_177 : decode (zm_cc 119) 177 = .ok (.iconst 0, 1) := by decide +kernel
theorem zd_119_178 : decode (zm_cc 119) 178 = .ok (.istore 4, 2) := by decide +kernel
theorem zd_119_180 : decode (zm_cc 119) 180 = .ok (.iload 4, 2) := by decide +kernel
theorem zd_119_182 : decode (zm_cc 119) 182 = .ok (.aload_n 0, 1) := by decide +kernel
theorem zd_119_183 : decode (zm_cc 119) 183 = .ok (.getfield 37, 3) := by decide +kernel
theorem zd_119_186 : decode (zm_cc 119) 186 = .ok (.iload_n 3, 1) := by decide +kernel
theorem zd_119_187 : decode (zm_cc 119) 187 = .ok (.iaload, 1) := by decide +kernel
theorem zd_119_188 : decode (zm_cc 119) 188 = .ok (.if_icmp .ge 63, 3) := by decide +kernel
theorem zd_119_191 : decode (zm_cc 119) 191 = .ok (.bipush 24, 2) := by decide +kernel
theorem zd_119_193 : decode (zm_cc 119) 193 = .ok (.iload_n 3, 1) := by decide +kernel
theorem zd_119_194 : decode (zm_cc 119) 194 = .ok (.imul, 1) := by decide +kernel
theorem zd_119_195 : decode (zm_cc 119) 195 = .ok (.iload 4, 2) := by decide +kernel
theorem zd_119_197 : decode (zm_cc 119) 197 = .ok (.iadd, 1) := by decide +kernel
theorem zd_119_198 : decode (zm_cc 119) 198 = .ok (.istore 5, 2) := by decide +kernel
theorem zd_119_200 : decode (zm_cc 119) 200 = .ok (.aload_n 0, 1) := by decide +kernel
theorem zd_119_201 : decode (zm_cc 119) 201 = .ok (.getfield 43, 3) := by decide +kernel
theorem zd_119_204 : decode (zm_cc 119) 204 = .ok (.iload 5, 2) := by decide +kernel
theorem zd_119_206 : decode (zm_cc 119) 206 = .ok (.iaload, 1) := by decide +kernel
theorem zd_119_207 : decode (zm_cc 119) 207 = .ok (.bipush 10, 2) := by decide +kernel
theorem zd_119_209 : decode (zm_cc 119) 209 = .ok (.if_icmp .eq 15, 3) := by decide +kernel
theorem zd_119_212 : decode (zm_cc 119) 212 = .ok (.aload_n 0, 1) := by decide +kernel
theorem zd_119_213 : decode (zm_cc 119) 213 = .ok (.getfield 43, 3) := by decide +kernel
theorem zd_119_216 : decode (zm_cc 119) 216 = .ok (.iload 5, 2) := by decide +kernel
theorem zd_119_218 : decode (zm_cc 119) 218 = .ok (.iaload, 1) := by decide +kernel
theorem zd_119_219 : decode (zm_cc 119) 219 = .ok (.bipush 11, 2) := by decide +kernel
theorem zd_119_221 : decode (zm_cc 119) 221 = .ok (.if_icmp .ne 24, 3) := by decide +kernel
theorem zd_119_224 : decode (zm_cc 119) 224 = .ok (.aload_n 0, 1) := by decide +kernel
theorem zd_119_225 : decode (zm_cc 119) 225 = .ok (.getfield 46, 3) := by decide +kernel
theorem zd_119_228 : decode (zm_cc 119) 228 = .ok (.iload 5, 2) := by decide +kernel
theorem zd_119_230 : decode (zm_cc 119) 230 = .ok (.iaload, 1) := by decide +kernel
theorem zd_119_231 : decode (zm_cc 119) 231 = .ok (.iconst 4, 1) := by decide +kernel
theorem zd_119_232 : decode (zm_cc 119) 232 = .ok (.iload_n 1, 1) := by decide +kernel
theorem zd_119_233 : decode (zm_cc 119) 233 = .ok (.iadd, 1) := by decide +kernel
theorem zd_119_234 : decode (zm_cc 119) 234 = .ok (.if_icmp .ne 11, 3) := by decide +kernel
theorem zd_119_237 : decode (zm_cc 119) 237 = .ok (.aload_n 0, 1) := by decide +kernel
theorem zd_119_238 : decode (zm_cc 119) 238 = .ok (.getfield 46, 3) := by decide +kernel
theorem zd_119_241 : decode (zm_cc 119) 241 = .ok (.iload 5, 2) := by decide +kernel
theorem zd_119_243 : decode (zm_cc 119) 243 = .ok (.iload_n 2, 1) := by decide +kernel
theorem zd_119_244 : decode (zm_cc 119) 244 = .ok (.iastore, 1) := by decide +kernel
theorem zd_119_245 : decode (zm_cc 119) 245 = .ok (.iinc 4 1, 3) := by decide +kernel
theorem zd_119_248 : decode (zm_cc 119) 248 = .ok (.goto (-68), 3) := by decide +kernel
theorem zd_119_251 : decode (zm_cc 119) 251 = .ok (.iinc 3 1, 3) := by decide +kernel
theorem zd_119_254 : decode (zm_cc 119) 254 = .ok (.goto (-85), 3) := by decide +kernel
theorem zd_119_257 : decode (zm_cc 119) 257 = .ok (.iinc 1 1, 3) := by decide +kernel
theorem zd_119_260 : decode (zm_cc 119) 260 = .ok (.goto (-258), 3) := by decide +kernel
theorem zd_119_263 : decode (zm_cc 119) 263 = .ok (.return_, 1) := by decide +kernel
theorem zd_120_0 : decode (zm_cc 120) 0 = .ok (.iconst 0, 1) := by decide +kernel
theorem zd_120_1 : decode (zm_cc 120) 1 = .ok (.istore_n 1, 1) := by decide +kernel
theorem zd_120_2 : decode (zm_cc 120) 2 = .ok (.iconst 0, 1) := by decide +kernel
theorem zd_120_3 : decode (zm_cc 120) 3 = .ok (.istore_n 2, 1) := by decide +kernel
theorem zd_120_4 : decode (zm_cc 120) 4 = .ok (.iload_n 2, 1) := by decide +kernel
theorem zd_120_5 : decode (zm_cc 120) 5 = .ok (.aload_n 0, 1) := by decide +kernel
theorem zd_120_6 : decode (zm_cc 120) 6 = .ok (.getfield 225, 3) := by decide +kernel
theorem zd_120_9 : decode (zm_cc 120) 9 = .ok (.if_icmp .ge 18, 3) := by decide +kernel
theorem zd_120_12 : decode (zm_cc 120) 12 = .ok (.iload_n 1, 1) := by decide +kernel
theorem zd_120_13 : decode (zm_cc 120) 13 = .ok (.aload_n 0, 1) := by decide +kernel
theorem zd_120_14 : decode (zm_cc 120) 14 = .ok (.getfield 37, 3) := by decide +kernel
theorem zd_120_17 : decode (zm_cc 120) 17 = .ok (.iload_n 2, 1) := by decide +kernel
theorem zd_120_18 : decode (zm_cc 120) 18 = .ok (.iaload, 1) := by decide +kernel
theorem zd_120_19 : decode (zm_cc 120) 19 = .ok (.iadd, 1) := by decide +kernel
theorem zd_120_20 : decode (zm_cc 120) 20 = .ok (.istore_n 1, 1) := by decide +kernel
theorem zd_120_21 : decode (zm_cc 120) 21 = .ok (.iinc 2 1, 3) := by decide +kernel
theorem zd_120_24 : decode (zm_cc 120) 24 = .ok (.goto (-20), 3) := by decide +kernel
theorem zd_120_27 : decode (zm_cc 120) 27 = .ok (.iload_n 1, 1) := by decide +kernel
theorem zd_120_28 : decode (zm_cc 120) 28 = .ok (.ireturn, 1) := by decide +kernel
theorem zd_121_0 : decode (zm_cc 121) 0 = .ok (.aload_n 0, 1) := by decide +kernel
theorem zd_121_1 : decode (zm_cc 121) 1 = .ok (.getfield 109, 3) := by decide +kernel
theorem zd_121_4 : decode (zm_cc 121) 4 = .ok (.ireturn, 1) := by decide +kernel
theorem zd_122_0 : decode (zm_cc 122) 0 = .ok (.aload_n 0, 1) := by decide +kernel
theorem zd_122_1 : decode (zm_cc 122) 1 = .ok (.iconst 0, 1) := by decide +kernel
theorem zd_122_2 : decode (zm_cc 122) 2 = .ok (.putfield 1, 3) := by decide +kernel
theorem zd_122_5 : decode (zm_cc 122) 5 = .ok (.aload_n 0, 1) := by decide +kernel
theorem zd_122_6 : decode (zm_cc 122) 6 = .ok (.getfield 338, 3) := by decide +kernel
theorem zd_122_9 : decode (zm_cc 122) 9 = .ok (.ireturn, 1) := by decide +kernel
theorem zd_123_0 : decode (zm_cc 123) 0 = .ok (.aload_n 0, 1) := by decide +kernel
theorem zd_123_1 : decode (zm_cc 123) 1 = .ok (.getfield 110, 3) := by decide +kernel
theorem zd_123_4 : decode (zm_cc 123) 4 = .ok (.ifCond .ne 6, 3) := by decide +kernel
theorem zd_123_7 : decode (zm_cc 123) 7 = .ok (.bipush (-101), 2) := by decide +kernel
theorem zd_123_9 : decode (zm_cc 123) 9 = .ok (.ireturn, 1) := by decide +kernel
theorem zd_123_10 : decode (zm_cc 123) 10 = .ok (.iload_n 1, 1) := by decide +kernel
theorem zd_123_11 : decode (zm_cc 123) 11 = .ok (.tableswitch 73 0 4 #[33, 41, 49, 57, 65], 33) := by decide +kernel
theorem zd_123_44 : decode (zm_cc 123) 44 = .ok (.aload_n 0, 1) := by decide +kernel
theorem zd_123_45 : decode (zm_cc 123) 45 = .ok (.getfield 16, 3) := by decide +kernel
theorem zd_123_48 : decode (zm_cc 123) 48 = .ok (.getfield 135, 3) := by decide +kernel
theorem zd_123_51 : decode (zm_cc 123) 51 = .ok (.ireturn, 1) := by decide +kernel
theorem zd_123_52 : decode (zm_cc 123) 52 = .ok (.aload_n 0, 1) := by decide +kernel
theorem zd_123_53 : decode (zm_cc 123) 53 = .ok (.getfield 16, 3) := by decide +kernel
theorem zd_123_56 : decode (zm_cc 123) 56 = .ok (.getfield 138, 3) := by decide +kernel
theorem zd_123_59 : decode (zm_cc 123) 59 = .ok (.ireturn, 1) := by decide +kernel
theorem zd_123_60 : decode (zm_cc 123) 60 = .ok (.aload_n 0, 1) := by decide +kernel
theorem zd_123_61 : decode (zm_cc 123) 61 = .ok (.getfield 16, 3) := by decide +kernel
theorem zd_123_64 : decode (zm_cc 123) 64 = .ok (.getfield 141, 3) := by decide +kernel
theorem zd_123_67 : decode (zm_cc 123) 67 = .ok (.ireturn, 1) := by decide +kernel
theorem zd_123_68 : decode (zm_cc 123) 68 = .ok (.aload_n 0, 1) := by decide +kernel
theorem zd_123_69 : decode (zm_cc 123) 69 = .ok (.getfield 16, 3) := by decide +kernel
theorem zd_123_72 : decode (zm_cc 123) 72 = .ok (.getfield 144, 3) := by decide +kernel
theorem zd_123_75 : decode (zm_cc 123) 75 = .ok (.ireturn, 1) := by decide +kernel
theorem zd_123_76 : decode (zm_cc 123) 76 = .ok (.aload_n 0, 1) := by decide +kernel
theorem zd_123_77 : decode (zm_cc 123) 77 = .ok (.getfield 16, 3) := by decide +kernel
theorem zd_123_80 : decode (zm_cc 123) 80 = .ok (.getfield 129, 3) := by decide +kernel
theorem zd_123_83 : decode (zm_cc 123) 83 = .ok (.ireturn, 1) := by decide +kernel
theorem zd_123_84 : decode (zm_cc 123) 84 = .ok (.bipush (-102), 2) := by decide +kernel
theorem zd_123_86 : decode (zm_cc 123) 86 = .ok (.ireturn, 1) := by decide +kernel
theorem zd_124_0 : decode (zm_cc 124) 0 = .ok (.aload_n 0, 1) := by decide +kernel
theorem zd_124_1 : decode (zm_cc 124) 1 = .ok (.iconst 0, 1) := by decide +kernel
theorem zd_124_2 : decode (zm_cc 124) 2 = .ok (.putfield 1, 3) := by decide +kernel
theorem zd_124_5 : decode (zm_cc 124) 5 = .ok (.aload_n 0, 1) := by decide +kernel
theorem zd_124_6 : decode (zm_cc 124) 6 = .ok (.getfield 335, 3) := by decide +kernel
theorem zd_124_9 : decode (zm_cc 124) 9 = .ok (.ifCond .ne 6, 3) := by decide +kernel
theorem zd_124_12 : decode (zm_cc 124) 12 = .ok (.bipush (-101), 2) := by decide +kernel
theorem zd_124_14 : decode (zm_cc 124) 14 = .ok (.ireturn, 1) := by decide +kernel
theorem zd_124_15 : decode (zm_cc 124) 15 = .ok (.iload_n 1, 1) := by decide +kernel
theorem zd_124_16 : decode (zm_cc 124) 16 = .ok (.tableswitch 61 0 4 #[36, 41, 46, 51, 56], 36) := by decide +kernel
theorem zd_124_52 : decode (zm_cc 124) 52 = .ok (.aload_n 0, 1) := by decide +kernel
theorem zd_124_53 : decode (zm_cc 124) 53 = .ok (.getfield 215, 3) := by decide +kernel
theorem zd_124_56 : decode (zm_cc 124) 56 = .ok (.ireturn, 1) := by decide +kernel
theorem zd_124_57 : decode (zm_cc 124) 57 = .ok (.aload_n 0, 1) := by decide +kernel
theorem zd_124_58 : decode (zm_cc 124) 58 = .ok (.getfield 222, 3) := by decide +kernel
theorem zd_124_61 : decode (zm_cc 124) 61 = .ok (.ireturn, 1) := by decide +kernel
theorem zd_124_62 : decode (zm_cc 124) 62 = .ok (.aload_n 0, 1) := by decide +kernel
theorem zd_124_63 : decode (zm_cc 124) 63 = .ok (.getfield 225, 3) := by decide +kernel
theorem zd_124_66 : decode (zm_cc 124) 66 = .ok (.ireturn, 1) := by decide +kernel
theorem zd_124_67 : decode (zm_cc 124) 67 = .ok (.aload_n 0, 1) := by decide +kernel
theorem zd_124_68 : decode (zm_cc 124) 68 = .ok (.getfield 303, 3) := by decide +kernel
theorem zd_124_71 : decode (zm_cc 124) 71 = .ok (.ireturn, 1) := by decide +kernel
theorem zd_124_72 : decode (zm_cc 124) 72 = .ok (.aload_n 0, 1) := by decide +kernel
theorem zd_124_73 : decode (zm_cc 124) 73 = .ok (.invokevirtual 341, 3) := by decide +kernel
theorem zd_124_76 : decode (zm_cc 124) 76 = .ok (.ireturn, 1) := by decide +kernel
theorem zd_124_77 : decode (zm_cc 124) 77 = .ok (.bipush (-102), 2) := by decide +kernel
theorem zd_124_79 : decode (zm_cc 124) 79 = .ok (.ireturn, 1) := by decide +kernel
theorem zd_125_0 : decode (zm_cc 125) 0 = .ok (.aload_n 0, 1) := by decide +kernel
theorem zd_125_1 : decode (zm_cc 125) 1 = .ok (.getfield 110, 3) := by decide +kernel
theorem zd_125_4 : decode (zm_cc 125) 4 = .ok (.ifCond .ne 6, 3) := by decide +kernel
theorem zd_125_7 : decode (zm_cc 125) 7 = .ok (.bipush (-101), 2) := by decide +kernel
theorem zd_125_9 : decode (zm_cc 125) 9 = .ok (.ireturn, 1) := by decide +kernel
theorem zd_125_10 : decode (zm_cc 125) 10 = .ok (.aload_n 0, 1) := by decide +kernel
theorem zd_125_11 : decode (zm_cc 125) 11 = .ok (.getfield 16, 3) := by decide +kernel
theorem zd_125_14 : decode (zm_cc 125) 14 = .ok (.iload_n 1, 1) := by decide +kernel
theorem zd_125_15 : decode (zm_cc 125) 15 = .ok (.iload_n 2, 1) := by decide +kernel
theorem zd_125_16 : decode (zm_cc 125) 16 = .ok (.invokevirtual 147, 3) := by decide +kernel
theorem zd_125_19 : decode (zm_cc 125) 19 = .ok (.istore 4, 2) := by decide +kernel
theorem zd_125_21 : decode (zm_cc 125) 21 = .ok (.iload 4, 2) := by decide +kernel
theorem zd_125_23 : decode (zm_cc 125) 23 = .ok (.bipush 96, 2) := by decide +kernel
theorem zd_125_25 : decode (zm_cc 125) 25 = .ok (.if_icmp .ne 6, 3) := by decide +kernel
theorem zd_125_28 : decode (zm_cc 125) 28 = .ok (.bipush (-102), 2) := by decide +kernel
theorem zd_125_30 : decode (zm_cc 125) 30 = .ok (.ireturn, 1) := by decide +kernel
theorem zd_125_31 : decode (zm_cc 125) 31 = .ok (.iload_n 3, 1) := by decide +kernel
theorem zd_125_32 : decode (zm_cc 125) 32 = .ok (.tableswitch 106 0 5 #[40, 51, 62, 73, 84, 95], 40) := by decide +kernel
theorem zd_125_72 : decode (zm_cc 125) 72 = .ok (.aload_n 0, 1) := by decide +kernel
theorem zd_125_73 : decode (zm_cc 125) 73 = .ok (.getfield 16, 3) := by decide +kernel
theorem zd_125_76 : decode (zm_cc 125) 76 = .ok (.getfield 151, 3) := by decide +kernel
theorem zd_125_79 : decode (zm_cc 125) 79 = .ok (.iload 4, 2) := by decide +kernel
theorem zd_125_81 : decode (zm_cc 125) 81 = .ok (.iaload, 1) := by decide +kernel
theorem zd_125_82 : decode (zm_cc 125) 82 = .ok (.ireturn, 1) := by decide +kernel
theorem zd_125_83 : decode (zm_cc 125) 83 = .ok (.aload_n 0, 1) := by decide +kernel
theorem zd_125_84 : decode (zm_cc 125) 84 = .ok (.getfield 16, 3) := by decide +kernel
theorem zd_125_87 : decode (zm_cc 125) 87 = .ok (.getfield 154, 3) := by decide +kernel
theorem zd_125_90 : decode (zm_cc 125) 90 = .ok (.iload 4, 2) := by decide +kernel
theorem zd_125_92 : decode (zm_cc 125) 92 = .ok (.iaload, 1) := by decide +kernel
theorem zd_125_93 : decode (zm_cc 125) 93 = .ok (.ireturn, 1) := by decide +kernel
theorem zd_125_94 : decode (zm_cc 125) 94 = .ok (.aload_n 0, 1) := by decide +kernel
theorem zd_125_95 : decode (zm_cc 125) 95 = .ok (.getfield 16, 3) := by decide +kernel
theorem zd_125_98 : decode (zm_cc 125) 98 = .ok (.getfield 157, 3) := by decide +kernel
theorem zd_125_101 : decode (zm_cc 125) 101 = .ok (.iload 4, 2) := by decide +kernel
theorem zd_125_103 : decode (zm_cc 125) 103 = .ok (.iaload, 1) := by decide +kernel
theorem zd_125_104 : decode (zm_cc 125) 104 = .ok (.ireturn, 1) := by decide +kernel
theorem zd_125_105 : decode (zm_cc 125) 105 = .ok (.aload_n 0, 1) := by decide +kernel
theorem zd_125_106 : decode (zm_cc 125) 106 = .ok (.getfield 16, 3) := by decide +kernel
theorem zd_125_109 : decode (zm_cc 125) 109 = .ok (.getfield 160, 3) := by decide +kernel
theorem zd_125_112 : decode (zm_cc 125) 112 = .ok (.iload 4, 2) := by decide +kernel
theorem zd_125_114 : decode (zm_cc 125) 114 = .ok (.iaload, 1) := by decide +kernel
theorem zd_125_115 : decode (zm_cc 125) 115 = .ok (.ireturn, 1) := by decide +kernel
theorem zd_125_116 : decode (zm_cc 125) 116 = .ok (.aload_n 0, 1) := by decide +kernel
theorem zd_125_117 : decode (zm_cc 125) 117 = .ok (.getfield 16, 3) := by decide +kernel
theorem zd_125_120 : decode (zm_cc 125) 120 = .ok (.getfield 163, 3) := by decide +kernel
theorem zd_125_123 : decode (zm_cc 125) 123 = .ok (.iload 4, 2) := by decide +kernel
theorem zd_125_125 : decode (zm_cc 125) 125 = .ok (.iaload, 1) := by decide +kernel
theorem zd_125_126 : decode (zm_cc 125) 126 = .ok (.ireturn, 1) := by decide +kernel
theorem zd_125_127 : decode (zm_cc 125) 127 = .ok (.aload_n 0, 1) := by decide +kernel
theorem zd_125_128 : decode (zm_cc 125) 128 = .ok (.getfield 16, 3) := by decide +kernel
theorem zd_125_131 : decode (zm_cc 125) 131 = .ok (.getfield 166, 3) := by decide +kernel
theorem zd_125_134 : decode (zm_cc 125) 134 = .ok (.iload 4, 2) := by decide +kernel
theorem zd_125_136 : decode (zm_cc 125) 136 = .ok (.iaload, 1) := by decide +kernel
theorem zd_125_137 : decode (zm_cc 125) 137 = .ok (.ireturn, 1) := by decide +kernel
theorem zd_125_138 : decode (zm_cc 125) 138 = .ok (.bipush (-102), 2) := by decide +kernel
theorem zd_125_140 : decode (zm_cc 125) 140 = .ok (.ireturn, 1) := by decide +kernel
theorem zd_126_0 : decode (zm_cc 126) 0 = .ok (.aload_n 0, 1) := by decide +kernel
theorem zd_126_1 : decode (zm_cc 126) 1 = .ok (.iconst 0, 1) := by decide +kernel
theorem zd_126_2 : decode (zm_cc 126) 2 = .ok (.putfield 1, 3) := by decide +kernel
theorem zd_126_5 : decode (zm_cc 126) 5 = .ok (.aload_n 0, 1) := by decide +kernel
theorem zd_126_6 : decode (zm_cc 126) 6 = .ok (.getfield 335, 3) := by decide +kernel
theorem zd_126_9 : decode (zm_cc 126) 9 = .ok (.ifCond .ne 6, 3) := by decide +kernel
theorem zd_126_12 : decode (zm_cc 126) 12 = .ok (.bipush (-101), 2) := by decide +kernel
theorem zd_126_14 : decode (zm_cc 126) 14 = .ok (.ireturn, 1) := by decide +kernel
theorem zd_126_15 : decode (zm_cc 126) 15 = .ok (.aload_n 0, 1) := by decide +kernel
theorem zd_126_16 : decode (zm_cc 126) 16 = .ok (.iload_n 1, 1) := by decide +kernel
theorem zd_126_17 : decode (zm_cc 126) 17 = .ok (.iload_n 2, 1) := by decide +kernel
theorem zd_126_18 : decode (zm_cc 126) 18 = .ok (.invokevirtual 344, 3) := by decide +kernel
theorem zd_126_21 : decode (zm_cc 126) 21 = .ok (.ifCond .ne 6, 3) := by decide +kernel
theorem zd_126_24 : decode (zm_cc 126) 24 = .ok (.bipush (-102), 2) := by decide +kernel
theorem zd_126_26 : decode (zm_cc 126) 26 = .ok (.ireturn, 1) := by decide +kernel
theorem zd_126_27 : decode (zm_cc 126) 27 = .ok (.bipush 24, 2) := by decide +kernel
theorem zd_126_29 : decode (zm_cc 126) 29 = .ok (.iload_n 1, 1) := by decide +kernel
theorem zd_126_30 : decode (zm_cc 126) 30 = .ok (.imul, 1) := by decide +kernel
theorem zd_126_31 : decode (zm_cc 126) 31 = .ok (.iload_n 2, 1) := by decide +kernel
theorem zd_126_32 : decode (zm_cc 126) 32 = .ok (.iadd, 1) := by decide +kernel
theorem zd_126_33 : decode (zm_cc 126) 33 = .ok (.istore 4, 2) := by decide +kernel
theorem zd_126_35 : decode (zm_cc 126) 35 = .ok (.aload_n 0, 1) := by decide +kernel
theorem zd_126_36 : decode (zm_cc 126) 36 = .ok (.getfield 43, 3) := by decide +kernel
theorem zd_126_39 : decode (zm_cc 126) 39 = .ok (.iload 4, 2) := by decide +kernel
theorem zd_126_41 : decode (zm_cc 126) 41 = .ok (.iaload, 1) := by decide +kernel
theorem zd_126_42 : decode (zm_cc 126) 42 = .ok (.ifCond .eq 46, 3) := by decide +kernel
theorem zd_126_45 : decode (zm_cc 126) 45 = .ok (.aload_n 0, 1) := by decide +kernel
theorem zd_126_46 : decode (zm_cc 126) 46 = .ok (.getfield 43, 3) := by decide +kernel
theorem zd_126_49 : decode (zm_cc 126) 49 = .ok (.iload 4, 2) := by decide +kernel
theorem zd_126_51 : decode (zm_cc 126) 51 = .ok (.iaload, 1) := by decide +kernel
theorem zd_126_52 : decode (zm_cc 126) 52 = .ok (.iconst 1, 1) := by decide +kernel
theorem zd_126_53 : decode (zm_cc 126) 53 = .ok (.if_icmp .eq 35, 3) := by decide +kernel
theorem zd_126_56 : decode (zm_cc 126) 56 = .ok (.aload_n 0, 1) := by decide +kernel
theorem zd_126_57 : decode (zm_cc 126) 57 = .ok (.getfield 43, 3) := by decide +kernel
theorem zd_126_60 : decode (zm_cc 126) 60 = .ok (.iload 4, 2) := by decide +kernel
theorem zd_126_62 : decode (zm_cc 126) 62 = .ok (.iaload, 1) := by decide +kernel
theorem zd_126_63 : decode (zm_cc 126) 63 = .ok (.iconst 3, 1) := by decide +kernel
theorem zd_126_64 : decode (zm_cc 126) 64 = .ok (.iconst 4, 1) := by decide +kernel
theorem zd_126_65 : decode (zm_cc 126) 65 = .ok (.invokestatic 128, 3) := by decide +kernel
theorem zd_126_68 : decode (zm_cc 126) 68 = .ok (.ifCond .ne 20, 3) := by decide +kernel
theorem zd_126_71 : decode (zm_cc 126) 71 = .ok (.aload_n 0, 1) := by decide +kernel
theorem zd_126_72 : decode (zm_cc 126) 72 = .ok (.getfield 43, 3) := by decide +kernel
theorem zd_126_75 : decode (zm_cc 126) 75 = .ok (.iload 4, 2) := by decide +kernel
theorem zd_126_77 : decode (zm_cc 126) 77 = .ok (.iaload, 1) := by decide +kernel
theorem zd_126_78 : decode (zm_cc 126) 78 = .ok (.bipush 7, 2) := by decide +kernel
theorem zd_126_80 : decode (zm_cc 126) 80 = .ok (.bipush 11, 2) := by decide +kernel
theorem zd_126_82 : decode (zm_cc 126) 82 = .ok (.invokestatic 128, 3) := by decide +kernel
theorem zd_126_85 : decode (zm_cc 126) 85 = .ok (.ifCond .eq 7, 3) := by decide +kernel
theorem zd_126_88 : decode (zm_cc 126) 88 = .ok (.iconst 1, 1) := by decide +kernel
theorem zd_126_89 : decode (zm_cc 126) 89 = .ok (.goto 4, 3) := by decide +kernel
theorem zd_126_92 : decode (zm_cc 126) 92 = .ok (.iconst 0, 1) := by decide +kernel
theorem zd_126_93 : decode (zm_cc 126) 93 = .ok (.istore 5, 2) := by decide +kernel
theorem zd_126_95 : decode (zm_cc 126) 95 = .ok (.iload_n 3, 1) := by decide +kernel
theorem zd_126_96 : decode (zm_cc 126) 96 = .ok (.tableswitch 124 0 5 #[40, 48, 65, 73, 108, 116], 40) := by decide +kernel
theorem zd_126_136 : decode (zm_cc 126) 136 = .ok (.aload_n 0, 1) := by decide +kernel
theorem zd_126_137 : decode (zm_cc 126) 137 = .ok (.getfield 43, 3) := by decide +kernel
theorem zd_126_140 : decode (zm_cc 126) 140 = .ok (.iload 4, 2) := by decide +kernel
theorem zd_126_142 : decode (zm_cc 126) 142 = .ok (.iaload, 1) := by decide +kernel
theorem zd_126_143 : decode (zm_cc 126) 143 = .ok (.ireturn, 1) := by decide +kernel
theorem zd_126_144 : decode (zm_cc 126) 144 = .ok (.iload 5, 2) := by decide +kernel
theorem zd_126_146 : decode (zm_cc 126) 146 = .ok (.ifCond .eq 13, 3) := by decide +kernel
theorem zd_126_149 : decode (zm_cc 126) 149 = .ok (.aload_n 0, 1) := by decide +kernel
theorem zd_126_150 : decode (zm_cc 126) 150 = .ok (.getfield 46, 3) := by decide +kernel
theorem zd_126_153 : decode (zm_cc 126) 153 = .ok (.iload 4, 2) := by decide +kernel
theorem zd_126_155 : decode (zm_cc 126) 155 = .ok (.iaload, 1) := by decide +kernel
theorem zd_126_156 : decode (zm_cc 126) 156 = .ok (.goto 4, 3) := by decide +kernel
theorem zd_126_159 : decode (zm_cc 126) 159 = .ok (.iconst (-1), 1) := by decide +kernel
theorem zd_126_160 : decode (zm_cc 126) 160 = .ok (.ireturn, 1) := by decide +kernel
theorem zd_126_161 : decode (zm_cc 126) 161 = .ok (.aload_n 0, 1) := by decide +kernel
theorem zd_126_162 : decode (zm_cc 126) 162 = .ok (.getfield 49, 3) := by decide +kernel
theorem zd_126_165 : decode (zm_cc 126) 165 = .ok (.iload 4, 2) := by decide +kernel
theorem zd_126_167 : decode (zm_cc 126) 167 = .ok (.iaload, 1) := by decide +kernel
theorem zd_126_168 : decode (zm_cc 126) 168 = .ok (.ireturn, 1) := by decide +kernel
theorem zd_126_169 : decode (zm_cc 126) 169 = .ok (.aload_n 0, 1) := by decide +kernel
theorem zd_126_170 : decode (zm_cc 126) 170 = .ok (.getfield 43, 3) := by decide +kernel
theorem zd_126_173 : decode (zm_cc 126) 173 = .ok (.iload 4, 2) := by decide +kernel
theorem zd_126_175 : decode (zm_cc 126) 175 = .ok (.iaload, 1) := by decide +kernel
theorem zd_126_176 : decode (zm_cc 126) 176 = .ok (.iconst 5, 1) := by decide +kernel
theorem zd_126_177 : decode (zm_cc 126) 177 = .ok (.if_icmp .eq 15, 3) := by decide +kernel
theorem zd_126_180 : decode (zm_cc 126) 180 = .ok (.aload_n 0, 1) := by decide +kernel
theorem zd_126_181 : decode (zm_cc 126) 181 = .ok (.getfield 43, 3) := by decide +kernel
theorem zd_126_184 : decode (zm_cc 126) 184 = .ok (.iload 4, 2) := by decide +kernel
theorem zd_126_186 : decode (zm_cc 126) 186 = .ok (.iaload, 1) := by decide +kernel
theorem zd_126_187 : decode (zm_cc 126) 187 = .ok (.bipush 6, 2) := by decide +kernel
theorem zd_126_189 : decode (zm_cc 126) 189 = .ok (.if_icmp .ne 13, 3) := by decide +kernel
theorem zd_126_192 : decode (zm_cc 126) 192 = .ok (.aload_n 0, 1) := by decide +kernel
theorem zd_126_193 : decode (zm_cc 126) 193 = .ok (.getfield 52, 3) := by decide +kernel
theorem zd_126_196 : decode (zm_cc 126) 196 = .ok (.iload 4, 2) := by decide +kernel
theorem zd_126_198 : decode (zm_cc 126) 198 = .ok (.iaload, 1) := by decide +kernel
theorem zd_126_199 : decode (zm_cc 126) 199 = .ok (.goto 4, 3) := by decide +kernel
theorem zd_126_202 : decode (zm_cc 126) 202 = .ok (.iconst (-1), 1) := by decide +kernel
theorem zd_126_203 : decode (zm_cc 126) 203 = .ok (.ireturn, 1) := by decide +kernel
theorem zd_126_204 : decode (zm_cc 126) 204 = .ok (.aload_n 0, 1) := by decide +kernel
theorem zd_126_205 : decode (zm_cc 126) 205 = .ok (.getfield 55, 3) := by decide +kernel
theorem zd_126_208 : decode (zm_cc 126) 208 = .ok (.iload 4, 2) := by decide +kernel
theorem zd_126_210 : decode (zm_cc 126) 210 = .ok (.iaload, 1) := by decide +kernel
theorem zd_126_211 : decode (zm_cc 126) 211 = .ok (.ireturn, 1) := by decide +kernel
theorem zd_126_212 : decode (zm_cc 126) 212 = .ok (.aload_n 0, 1) := by decide +kernel
theorem zd_126_213 : decode (zm_cc 126) 213 = .ok (.getfield 58, 3) := by decide +kernel
theorem zd_126_216 : decode (zm_cc 126) 216 = .ok (.iload 4, 2) := by decide +kernel
theorem zd_126_218 : decode (zm_cc 126) 218 = .ok (.iaload, 1) := by decide +kernel
theorem zd_126_219 : decode (zm_cc 126) 219 = .ok (.ireturn, 1) := by decide +kernel
theorem zd_126_220 : decode (zm_cc 126) 220 = .ok (.bipush (-102), 2) := by decide +kernel
theorem zd_126_222 : decode (zm_cc 126) 222 = .ok (.ireturn, 1) := by decide +kernel
theorem zd_127_0 : decode (zm_cc 127) 0 = .ok (.iload_n 1, 1) := by decide +kernel
theorem zd_127_1 : decode (zm_cc 127) 1 = .ok (.iconst 0, 1) := by decide +kernel
theorem zd_127_2 : decode (zm_cc 127) 2 = .ok (.aload_n 0, 1) := by decide +kernel
theorem zd_127_3 : decode (zm_cc 127) 3 = .ok (.getfield 225, 3) := by decide +kernel
theorem zd_127_6 : decode (zm_cc 127) 6 = .ok (.iconst 1, 1) := by decide +kernel
theorem zd_127_7 : decode (zm_cc 127) 7 = .ok (.isub, 1) := by decide +kernel
theorem zd_127_8 : decode (zm_cc 127) 8 = .ok (.invokestatic 128, 3) := by decide +kernel
theorem zd_127_11 : decode (zm_cc 127) 11 = .ok (.ifCond .eq 23, 3) := by decide +kernel
theorem zd_127_14 : decode (zm_cc 127) 14 = .ok (.iload_n 2, 1) := by decide +kernel
theorem zd_127_15 : decode (zm_cc 127) 15 = .ok (.iconst 0, 1) := by decide +kernel
theorem zd_127_16 : decode (zm_cc 127) 16 = .ok (.aload_n 0, 1) := by decide +kernel
theorem zd_127_17 : decode (zm_cc 127) 17 = .ok (.getfield 37, 3) := by decide +kernel
theorem zd_127_20 : decode (zm_cc 127) 20 = .ok (.iload_n 1, 1) := by decide +kernel
theorem zd_127_21 : decode (zm_cc 127) 21 = .ok (.iaload, 1) := by decide +kernel
theorem zd_127_22 : decode (zm_cc 127) 22 = .ok (.iconst 1, 1) := by decide +kernel
theorem zd_127_23 : decode (zm_cc 127) 23 = .ok (.isub, 1) := by decide +kernel
theorem zd_127_24 : decode (zm_cc 127) 24 = .ok (.invokestatic 128, 3) := by decide +kernel
theorem zd_127_27 : decode (zm_cc 127) 27 = .ok (.ifCond .eq 7, 3) := by decide +kernel
theorem zd_127_30 : decode (zm_cc 127) 30 = .ok (.iconst 1, 1) := by decide +kernel
theorem zd_127_31 : decode (zm_cc 127) 31 = .ok (.goto 4, 3) := by decide +kernel
theorem zd_127_34 : decode (zm_cc 127) 34 = .ok (.iconst 0, 1) := by decide +kernel
theorem zd_127_35 : decode (zm_cc 127) 35 = .ok (.ireturn, 1) := by decide +kernel
theorem zd_128_0 : decode (zm_cc 128) 0 = .ok (.aload_n 0, 1) := by decide +kernel
theorem zd_128_1 : decode (zm_cc 128) 1 = .ok (.getfield 110, 3) := by decide +kernel
theorem zd_128_4 : decode (zm_cc 128) 4 = .ok (.ifCond .ne 6, 3) := by decide +kernel
theorem zd_128_7 : decode (zm_cc 128) 7 = .ok (.bipush (-101), 2) := by decide +kernel
theorem zd_128_9 : decode (zm_cc 128) 9 = .ok (.ireturn, 1) := by decide +kernel
theorem zd_128_10 : decode (zm_cc 128) 10 = .ok (.aload_n 0, 1) := by decide +kernel
theorem zd_128_11 : decode (zm_cc 128) 11 = .ok (.iconst (-1), 1) := by decide +kernel
theorem zd_128_12 : decode (zm_cc 128) 12 = .ok (.putfield 80, 3) := by decide +kernel
theorem zd_128_15 : decode (zm_cc 128) 15 = .ok (.aload_n 0, 1) := by decide +kernel
theorem zd_128_16 : decode (zm_cc 128) 16 = .ok (.getfield 114, 3) := by decide +kernel
theorem zd_128_19 : decode (zm_cc 128) 19 = .ok (.ifCond .ne 38, 3) := by decide +kernel
theorem zd_128_22 : decode (zm_cc 128) 22 = .ok (.aload_n 0, 1) := by decide +kernel
theorem zd_128_23 : decode (zm_cc 128) 23 = .ok (.iconst 1, 1) := by decide +kernel
theorem zd_128_24 : decode (zm_cc 128) 24 = .ok (.putfield 114, 3) := by decide +kernel
theorem zd_128_27 : decode (zm_cc 128) 27 = .ok (.aload_n 0, 1) := by decide +kernel
theorem zd_128_28 : decode (zm_cc 128) 28 = .ok (.aload_n 0, 1) := by decide +kernel
theorem zd_128_29 : decode (zm_cc 128) 29 = .ok (.getfield 43, 3) := by decide +kernel
theorem zd_128_32 : decode (zm_cc 128) 32 = .ok (.iconst (-1), 1) := by decide +kernel
theorem zd_128_33 : decode (zm_cc 128) 33 = .ok (.invokevirtual 169, 3) := by decide +kernel
theorem zd_128_36 : decode (zm_cc 128) 36 = .ok (.putfield 117, 3) := by decide +kernel
theorem zd_128_39 : decode (zm_cc 128) 39 = .ok (.aload_n 0, 1) := by decide +kernel
theorem zd_128_40 : decode (zm_cc 128) 40 = .ok (.getfield 117, 3) := by decide +kernel
theorem zd_128_43 : decode (zm_cc 128) 43 = .ok (.ifCond .eq 14, 3) := by decide +kernel
theorem zd_128_46 : decode (zm_cc 128) 46 = .ok (.aload_n 0, 1) := by decide +kernel
theorem zd_128_47 : decode (zm_cc 128) 47 = .ok (.getfield 50, 3) := by decide +kernel
theorem zd_128_50 : decode (zm_cc 128) 50 = .ok (.aload_n 0, 1) := by decide +kernel
theorem zd_128_51 : decode (zm_cc 128) 51 = .ok (.getfield 43, 3) := by decide +kernel
theorem zd_128_54 : decode (zm_cc 128) 54 = .ok (.invokevirtual 173, 3) := by decide +kernel
theorem zd_128_57 : decode (zm_cc 128) 57 = .ok (.aload_n 0, 1) := by decide +kernel
theorem zd_128_58 : decode (zm_cc 128) 58 = .ok (.getfield 117, 3) := by decide +kernel
theorem zd_128_61 : decode (zm_cc 128) 61 = .ok (.ifCond .eq 13, 3) := by decide +kernel
theorem zd_128_64 : decode (zm_cc 128) 64 = .ok (.aload_n 0, 1) := by decide +kernel
theorem zd_128_65 : decode (zm_cc 128) 65 = .ok (.getfield 43, 3) := by decide +kernel
theorem zd_128_68 : decode (zm_cc 128) 68 = .ok (.getfield 177, 3) := by decide +kernel
theorem zd_128_71 : decode (zm_cc 128) 71 = .ok (.goto 5, 3) := by decide +kernel
theorem zd_128_74 : decode (zm_cc 128) 74 = .ok (.bipush (-103), 2) := by decide +kernel
theorem zd_128_76 : decode (zm_cc 128) 76 = .ok (.ireturn, 1) := by decide +kernel
theorem zd_129_0 : decode (zm_cc 129) 0 = .ok (.aload_n 0, 1) := by decide +kernel
theorem zd_129_1 : decode (zm_cc 129) 1 = .ok (.iconst 0, 1) := by decide +kernel
theorem zd_129_2 : decode (zm_cc 129) 2 = .ok (.putfield 33, 3) := by decide +kernel
theorem zd_129_5 : decode (zm_cc 129) 5 = .ok (.aload_n 0, 1) := by decide +kernel
theorem zd_129_6 : decode (zm_cc 129) 6 = .ok (.getfield 22, 3) := by decide +kernel
theorem zd_129_9 : decode (zm_cc 129) 9 = .ok (.iconst 0, 1) := by decide +kernel
theorem zd_129_10 : decode (zm_cc 129) 10 = .ok (.invokestatic 47, 3) := by decide +kernel
theorem zd_129_13 : decode (zm_cc 129) 13 = .ok (.aload_n 0, 1) := by decide +kernel
theorem zd_129_14 : decode (zm_cc 129) 14 = .ok (.getfield 29, 3) := by decide +kernel
theorem zd_129_17 : decode (zm_cc 129) 17 = .ok (.invokevirtual 52, 3) := by decide +kernel
theorem zd_129_20 : decode (zm_cc 129) 20 = .ok (.aload_n 0, 1) := by decide +kernel
theorem zd_129_21 : decode (zm_cc 129) 21 = .ok (.iconst 0, 1) := by decide +kernel
theorem zd_129_22 : decode (zm_cc 129) 22 = .ok (.invokevirtual 55, 3) := by decide +kernel
theorem zd_129_25 : decode (zm_cc 129) 25 = .ok (.istore_n 2, 1) := by decide +kernel
theorem zd_129_26 : decode (zm_cc 129) 26 = .ok (.iconst 0, 1) := by decide +kernel
theorem zd_129_27 : decode (zm_cc 129) 27 = .ok (.istore_n 3, 1) := by decide +kernel
theorem zd_129_28 : decode (zm_cc 129) 28 = .ok (.iload_n 3, 1) := by decide +kernel
theorem zd_129_29 : decode (zm_cc 129) 29 = .ok (.aload_n 0, 1) := by decide +kernel
theorem zd_129_30 : decode (zm_cc 129) 30 = .ok (.getfield 33, 3) := by decide +kernel
theorem zd_129_33 : decode (zm_cc 129) 33 = .ok (.if_icmp .ge 27, 3) := by decide +kernel
theorem zd_129_36 : decode (zm_cc 129) 36 = .ok (.iload_n 3, 1) := by decide +kernel
theorem zd_129_37 : decode (zm_cc 129) 37 = .ok (.sipush 4000, 3) := by decide +kernel
theorem zd_129_40 : decode (zm_cc 129) 40 = .ok (.if_icmp .ge 20, 3) := by decide +kernel
theorem zd_129_43 : decode (zm_cc 129) 43 = .ok (.iload_n 2, 1) := by decide +kernel
theorem zd_129_44 : decode (zm_cc 129) 44 = .ok (.ifCond .eq 16, 3) := by decide +kernel
theorem zd_129_47 : decode (zm_cc 129) 47 = .ok (.aload_n 0, 1) := by decide +kernel
theorem zd_129_48 : decode (zm_cc 129) 48 = .ok (.iload_n 3, 1) := by decide +kernel
theorem zd_129_49 : decode (zm_cc 129) 49 = .ok (.iload_n 1, 1) := by decide +kernel
theorem zd_129_50 : decode (zm_cc 129) 50 = .ok (.invokevirtual 58, 3) := by decide +kernel
theorem zd_129_53 : decode (zm_cc 129) 53 = .ok (.istore_n 2, 1) := by decide +kernel
theorem zd_129_54 : decode (zm_cc 129) 54 = .ok (.iinc 3 1, 3) := by decide +kernel
theorem zd_129_57 : decode (zm_cc 129) 57 = .ok (.goto (-29), 3) := by decide +kernel
theorem zd_129_60 : decode (zm_cc 129) 60 = .ok (.iload_n 2, 1) := by decide +kernel
theorem zd_129_61 : decode (zm_cc 129) 61 = .ok (.ireturn, 1) := by decide +kernel
theorem zd_130_0 : decode (zm_cc 130) 0 = .ok (.aload_n 0, 1) := by decide +kernel
theorem zd_130_1 : decode (zm_cc 130) 1 = .ok (.getfield 24, 3) := by decide +kernel
theorem zd_130_4 : decode (zm_cc 130) 4 = .ok (.iconst 0, 1) := by decide +kernel
theorem zd_130_5 : decode (zm_cc 130) 5 = .ok (.aload_n 0, 1) := by decide +kernel
theorem zd_130_6 : decode (zm_cc 130) 6 = .ok (.getfield 27, 3) := by decide +kernel
theorem zd_130_9 : decode (zm_cc 130) 9 = .ok (.getfield 31, 3) := by decide +kernel
theorem zd_130_12 : decode (zm_cc 130) 12 = .ok (.iastore, 1) := by decide +kernel
theorem zd_130_13 : decode (zm_cc 130) 13 = .ok (.iconst 0, 1) := by decide +kernel
theorem zd_130_14 : decode (zm_cc 130) 14 = .ok (.istore_n 1, 1) := by decide +kernel
theorem zd_130_15 : decode (zm_cc 130) 15 = .ok (.iload_n 1, 1) := by decide +kernel
theorem zd_130_16 : decode (zm_cc 130) 16 = .ok (.iconst 4, 1) := by decide +kernel
theorem zd_130_17 : decode (zm_cc 130) 17 = .ok (.if_icmp .ge 51, 3) := by decide +kernel
theorem zd_130_20 : decode (zm_cc 130) 20 = .ok (.aload_n 0, 1) := by decide +kernel
theorem zd_130_21 : decode (zm_cc 130) 21 = .ok (.getfield 27, 3) := by decide +kernel
theorem zd_130_24 : decode (zm_cc 130) 24 = .ok (.iload_n 1, 1) := by decide +kernel
theorem zd_130_25 : decode (zm_cc 130) 25 = .ok (.invokevirtual 37, 3) := by decide +kernel
theorem zd_130_28 : decode (zm_cc 130) 28 = .ok (.ifCond .ne 7, 3) := by decide +kernel
theorem zd_130_31 : decode (zm_cc 130) 31 = .ok (.iconst 4, 1) := by decide +kernel
theorem zd_130_32 : decode (zm_cc 130) 32 = .ok (.goto 4, 3) := by decide +kernel
theorem zd_130_35 : decode (zm_cc 130) 35 = .ok (.iconst 1, 1) := by decide +kernel
theorem zd_130_36 : decode (zm_cc 130) 36 = .ok (.istore_n 2, 1) := by decide +kernel
theorem zd_130_37 : decode (zm_cc 130) 37 = .ok (.aload_n 0, 1) := by decide +kernel
theorem zd_130_38 : decode (zm_cc 130) 38 = .ok (.getfield 27, 3) := by decide +kernel
theorem zd_130_41 : decode (zm_cc 130) 41 = .ok (.iload_n 1, 1) := by decide +kernel
theorem zd_130_42 : decode (zm_cc 130) 42 = .ok (.invokevirtual 41, 3) := by decide +kernel
theorem zd_130_45 : decode (zm_cc 130) 45 = .ok (.ifCond .eq 5, 3) := by decide +kernel
theorem zd_130_48 : decode (zm_cc 130) 48 = .ok (.iconst 0, 1) := by decide +kernel
theorem zd_130_49 : decode (zm_cc 130) 49 = .ok (.istore_n 2, 1) := by decide +kernel
theorem zd_130_50 : decode (zm_cc 130) 50 = .ok (.aload_n 0, 1) := by decide +kernel
theorem zd_130_51 : decode (zm_cc 130) 51 = .ok (.getfield 24, 3) := by decide +kernel
theorem zd_130_54 : decode (zm_cc 130) 54 = .ok (.iload_n 1, 1) := by decide +kernel
theorem zd_130_55 : decode (zm_cc 130) 55 = .ok (.iconst 1, 1) := by decide +kernel
theorem zd_130_56 : decode (zm_cc 130) 56 = .ok (.iadd, 1) := by decide +kernel
theorem zd_130_57 : decode (zm_cc 130) 57 = .ok (.iload_n 2, 1) := by decide +kernel
theorem zd_130_58 : decode (zm_cc 130) 58 = .ok (.bipush 14, 2) := by decide +kernel
theorem zd_130_60 : decode (zm_cc 130) 60 = .ok (.ishl, 1) := by decide +kernel
theorem zd_130_61 : decode (zm_cc 130) 61 = .ok (.iastore, 1) := by decide +kernel
theorem zd_130_62 : decode (zm_cc 130) 62 = .ok (.iinc 1 1, 3) := by decide +kernel
theorem zd_130_65 : decode (zm_cc 130) 65 = .ok (.goto (-50), 3) := by decide +kernel
theorem zd_130_68 : decode (zm_cc 130) 68 = .ok (.return_, 1) := by decide +kernel
theorem zd_131_0 : decode (zm_cc 131) 0 = .ok (.iload_n 1, 1) := by decide +kernel
theorem zd_131_1 : decode (zm_cc 131) 1 = .ok (.ifCond .lt 17, 3) := by decide +kernel
theorem zd_131_4 : decode (zm_cc 131) 4 = .ok (.iload_n 1, 1) := by decide +kernel
theorem zd_131_5 : decode (zm_cc 131) 5 = .ok (.iconst 4, 1) := by decide +kernel
theorem zd_131_6 : decode (zm_cc 131) 6 = .ok (.if_icmp .ge 12, 3) := by decide +kernel
theorem zd_131_9 : decode (zm_cc 131) 9 = .ok (.aload_n 0, 1) := by decide +kernel
theorem zd_131_10 : decode (zm_cc 131) 10 = .ok (.getfield 15, 3) := by decide +kernel
theorem zd_131_13 : decode (zm_cc 131) 13 = .ok (.iload_n 1, 1) := by decide +kernel
theorem zd_131_14 : decode (zm_cc 131) 14 = .ok (.iaload, 1) := by decide +kernel
theorem zd_131_15 : decode (zm_cc 131) 15 = .ok (.goto 4, 3) := by decide +kernel
theorem zd_131_18 : decode (zm_cc 131) 18 = .ok (.iconst 0, 1) := by decide +kernel
theorem zd_131_19 : decode (zm_cc 131) 19 = .ok (.ireturn, 1) := by decide +kernel
theorem zd_132_0 : decode (zm_cc 132) 0 = .ok (.aload_n 0, 1) := by decide +kernel
theorem zd_132_1 : decode (zm_cc 132) 1 = .ok (.invokevirtual 81, 3) := by decide +kernel
theorem zd_132_4 : decode (zm_cc 132) 4 = .ok (.istore_n 2, 1) := by decide +kernel
theorem zd_132_5 : decode (zm_cc 132) 5 = .ok (.aload_n 0, 1) := by decide +kernel
theorem zd_132_6 : decode (zm_cc 132) 6 = .ok (.getfield 22, 3) := by decide +kernel
theorem zd_132_9 : decode (zm_cc 132) 9 = .ok (.iload_n 2, 1) := by decide +kernel
theorem zd_132_10 : decode (zm_cc 132) 10 = .ok (.iaload, 1) := by decide +kernel
theorem zd_132_11 : decode (zm_cc 132) 11 = .ok (.ifCond .eq 5, 3) := by decide +kernel
theorem zd_132_14 : decode (zm_cc 132) 14 = .ok (.iconst 1, 1) := by decide +kernel
theorem zd_132_15 : decode (zm_cc 132) 15 = .ok (.ireturn, 1) := by decide +kernel
theorem zd_132_16 : decode (zm_cc 132) 16 = .ok (.aload_n 0, 1) := by decide +kernel
theorem zd_132_17 : decode (zm_cc 132) 17 = .ok (.getfield 33, 3) := by decide +kernel
theorem zd_132_20 : decode (zm_cc 132) 20 = .ok (.ifCond .lt 13, 3) := by decide +kernel
theorem zd_132_23 : decode (zm_cc 132) 23 = .ok (.aload_n 0, 1) := by decide +kernel
theorem zd_132_24 : decode (zm_cc 132) 24 = .ok (.getfield 33, 3) := by decide +kernel
theorem zd_132_27 : decode (zm_cc 132) 27 = .ok (.sipush 4000, 3) := by decide +kernel
theorem zd_132_30 : decode (zm_cc 132) 30 = .ok (.if_icmp .lt 5, 3) := by decide +kernel
theorem zd_132_33 : decode (zm_cc 132) 33 = .ok (.iconst 0, 1) := by decide +kernel
theorem zd_132_34 : decode (zm_cc 132) 34 = .ok (.ireturn, 1) := by decide +kernel
theorem zd_132_35 : decode (zm_cc 132) 35 = .ok (.aload_n 0, 1) := by decide +kernel
theorem zd_132_36 : decode (zm_cc 132) 36 = .ok (.getfield 29, 3) := by decide +kernel
theorem zd_132_39 : decode (zm_cc 132) 39 = .ok (.getfield 85, 3) := by decide +kernel
theorem zd_132_42 : decode (zm_cc 132) 42 = .ok (.iconst 0, 1) := by decide +kernel
theorem zd_132_43 : decode (zm_cc 132) 43 = .ok (.aload_n 0, 1) := by decide +kernel
theorem zd_132_44 : decode (zm_cc 132) 44 = .ok (.getfield 9, 3) := by decide +kernel
theorem zd_132_47 : decode (zm_cc 132) 47 = .ok (.aload_n 0, 1) := by decide +kernel
theorem zd_132_48 : decode (zm_cc 132) 48 = .ok (.getfield 33, 3) := by decide +kernel
theorem zd_132_51 : decode (zm_cc 132) 51 = .ok (.iconst 5, 1) := by decide +kernel
theorem zd_132_52 : decode (zm_cc 132) 52 = .ok (.imul, 1) := by decide +kernel
theorem zd_132_53 : decode (zm_cc 132) 53 = .ok (.iconst 5, 1) := by decide +kernel
theorem zd_132_54 : decode (zm_cc 132) 54 = .ok (.invokestatic 88, 3) := by decide +kernel
theorem zd_132_57 : decode (zm_cc 132) 57 = .ok (.aload_n 0, 1) := by decide +kernel
theorem zd_132_58 : decode (zm_cc 132) 58 = .ok (.getfield 15, 3) := by decide +kernel
theorem zd_132_61 : decode (zm_cc 132) 61 = .ok (.aload_n 0, 1) := by decide +kernel
theorem zd_132_62 : decode (zm_cc 132) 62 = .ok (.getfield 33, 3) := by decide +kernel
theorem zd_132_65 : decode (zm_cc 132) 65 = .ok (.iload_n 1, 1) := by decide +kernel
theorem zd_132_66 : decode (zm_cc 132) 66 = .ok (.iastore, 1) := by decide +kernel
theorem zd_132_67 : decode (zm_cc 132) 67 = .ok (.aload_n 0, 1) := by decide +kernel
theorem zd_132_68 : decode (zm_cc 132) 68 = .ok (.dup, 1) := by decide +kernel
theorem zd_132_69 : decode (zm_cc 132) 69 = .ok (.getfield 33, 3) := by decide +kernel
theorem zd_132_72 : decode (zm_cc 132) 72 = .ok (.iconst 1, 1) := by decide +kernel
theorem zd_132_73 : decode (zm_cc 132) 73 = .ok (.iadd, 1) := by decide +kernel
theorem zd_132_74 : decode (zm_cc 132) 74 = .ok (.putfield 33, 3) := by decide +kernel
theorem zd_132_77 : decode (zm_cc 132) 77 = .ok (.aload_n 0, 1) := by decide +kernel
theorem zd_132_78 : decode (zm_cc 132) 78 = .ok (.getfield 22, 3) := by decide +kernel
theorem zd_132_81 : decode (zm_cc 132) 81 = .ok (.iload_n 2, 1) := by decide +kernel
theorem zd_132_82 : decode (zm_cc 132) 82 = .ok (.aload_n 0, 1) := by decide +kernel
theorem zd_132_83 : decode (zm_cc 132) 83 = .ok (.getfield 33, 3) := by decide +kernel
theorem zd_132_86 : decode (zm_cc 132) 86 = .ok (.iastore, 1) := by decide +kernel
theorem zd_132_87 : decode (zm_cc 132) 87 = .ok (.iconst 1, 1) := by decide +kernel
theorem zd_132_88 : decode (zm_cc 132) 88 = .ok (.ireturn, 1) := by decide +kernel
theorem zd_133_0 : decode (zm_cc 133) 0 = .ok (.iconst 0, 1) := by decide +kernel
theorem zd_133_1 : decode (zm_cc 133) 1 = .ok (.istore_n 1, 1) := by decide +kernel
theorem zd_133_2 : decode (zm_cc 133) 2 = .ok (.iconst 0, 1) := by decide +kernel
theorem zd_133_3 : decode (zm_cc 133) 3 = .ok (.istore_n 2, 1) := by decide +kernel
theorem zd_133_4 : decode (zm_cc 133) 4 = .ok (.iload_n 2, 1) := by decide +kernel
theorem zd_133_5 : decode (zm_cc 133) 5 = .ok (.iconst 5, 1) := by decide +kernel
theorem zd_133_6 : decode (zm_cc 133) 6 = .ok (.if_icmp .ge 31, 3) := by decide +kernel
theorem zd_133_9 : decode (zm_cc 133) 9 = .ok (.iload_n 1, 1) := by decide +kernel
theorem zd_133_10 : decode (zm_cc 133) 10 = .ok (.aload_n 0, 1) := by decide +kernel
theorem zd_133_11 : decode (zm_cc 133) 11 = .ok (.getfield 29, 3) := by decide +kernel
theorem zd_133_14 : decode (zm_cc 133) 14 = .ok (.getfield 85, 3) := by decide +kernel
theorem zd_133_17 : decode (zm_cc 133) 17 = .ok (.iload_n 2, 1) := by decide +kernel
theorem zd_133_18 : decode (zm_cc 133) 18 = .ok (.iaload, 1) := by decide +kernel
theorem zd_133_19 : decode (zm_cc 133) 19 = .ok (.ixor, 1) := by decide +kernel
theorem zd_133_20 : decode (zm_cc 133) 20 = .ok (.ldc 94, 2) := by decide +kernel
theorem zd_133_22 : decode (zm_cc 133) 22 = .ok (.imul, 1) := by decide +kernel
theorem zd_133_23 : decode (zm_cc 133) 23 = .ok (.istore_n 1, 1) := by decide +kernel
theorem zd_133_24 : decode (zm_cc 133) 24 = .ok (.iload_n 1, 1) := by decide +kernel
theorem zd_133_25 : decode (zm_cc 133) 25 = .ok (.iload_n 1, 1) := by decide +kernel
theorem zd_133_26 : decode (zm_cc 133) 26 = .ok (.bipush 15, 2) := by decide +kernel
theorem zd_133_28 : decode (zm_cc 133) 28 = .ok (.iushr, 1) := by decide +kernel
theorem zd_133_29 : decode (zm_cc 133) 29 = .ok (.ixor, 1) := by decide +kernel
theorem zd_133_30 : decode (zm_cc 133) 30 = .ok (.istore_n 1, 1) := by decide +kernel
theorem zd_133_31 : decode (zm_cc 133) 31 = .ok (.iinc 2 1, 3) := by decide +kernel
theorem zd_133_34 : decode (zm_cc 133) 34 = .ok (.goto (-30), 3) := by decide +kernel
theorem zd_133_37 : decode (zm_cc 133) 37 = .ok (.iload_n 1, 1) := by decide +kernel
theorem zd_133_38 : decode (zm_cc 133) 38 = .ok (.sipush 8191, 3) := by decide +kernel
theorem zd_133_41 : decode (zm_cc 133) 41 = .ok (.iand, 1) := by decide +kernel
theorem zd_133_42 : decode (zm_cc 133) 42 = .ok (.istore_n 2, 1) := by decide +kernel
theorem zd_133_43 : decode (zm_cc 133) 43 = .ok (.iconst 0, 1) := by decide +kernel
theorem zd_133_44 : decode (zm_cc 133) 44 = .ok (.istore_n 3, 1) := by decide +kernel
theorem zd_133_45 : decode (zm_cc 133) 45 = .ok (.iload_n 3, 1) := by decide +kernel
theorem zd_133_46 : decode (zm_cc 133) 46 = .ok (.sipush 8192, 3) := by decide +kernel
theorem zd_133_49 : decode (zm_cc 133) 49 = .ok (.if_icmp .ge 43, 3) := by decide +kernel
theorem zd_133_52 : decode (zm_cc 133) 52 = .ok (.aload_n 0, 1) := by decide +kernel
theorem zd_133_53 : decode (zm_cc 133) 53 = .ok (.getfield 22, 3) := by decide +kernel
theorem zd_133_56 : decode (zm_cc 133) 56 = .ok (.iload_n 2, 1) := by decide +kernel
theorem zd_133_57 : decode (zm_cc 133) 57 = .ok (.iaload, 1) := by decide +kernel
theorem zd_133_58 : decode (zm_cc 133) 58 = .ok (.ifCond .eq 34, 3) := by decide +kernel
theorem zd_133_61 : decode (zm_cc 133) 61 = .ok (.aload_n 0, 1) := by decide +kernel
theorem zd_133_62 : decode (zm_cc 133) 62 = .ok (.aload_n 0, 1) := by decide +kernel
theorem zd_133_63 : decode (zm_cc 133) 63 = .ok (.getfield 22, 3) := by decide +kernel
theorem zd_133_66 : decode (zm_cc 133) 66 = .ok (.iload_n 2, 1) := by decide +kernel
theorem zd_133_67 : decode (zm_cc 133) 67 = .ok (.iaload, 1) := by decide +kernel
theorem zd_133_68 : decode (zm_cc 133) 68 = .ok (.iconst 1, 1) := by decide +kernel
theorem zd_133_69 : decode (zm_cc 133) 69 = .ok (.isub, 1) := by decide +kernel
theorem zd_133_70 : decode (zm_cc 133) 70 = .ok (.invokevirtual 95, 3) := by decide +kernel
theorem zd_133_73 : decode (zm_cc 133) 73 = .ok (.ifCond .eq 5, 3) := by decide +kernel
theorem zd_133_76 : decode (zm_cc 133) 76 = .ok (.iload_n 2, 1) := by decide +kernel
theorem zd_133_77 : decode (zm_cc 133) 77 = .ok (.ireturn, 1) := by decide +kernel
theorem zd_133_78 : decode (zm_cc 133) 78 = .ok (.iload_n 2, 1) := by decide +kernel
theorem zd_133_79 : decode (zm_cc 133) 79 = .ok (.iconst 1, 1) := by decide +kernel
theorem zd_133_80 : decode (zm_cc 133) 80 = .ok (.iadd, 1) := by decide +kernel
theorem zd_133_81 : decode (zm_cc 133) 81 = .ok (.sipush 8191, 3) := by decide +kernel
theorem zd_133_84 : decode (zm_cc 133) 84 = .ok (.iand, 1) := by decide +kernel
theorem zd_133_85 : decode (zm_cc 133) 85 = .ok (.istore_n 2, 1) := by decide +kernel
theorem zd_133_86 : decode (zm_cc 133) 86 = .ok (.iinc 3 1, 3) := by decide +kernel
theorem zd_133_89 : decode (zm_cc 133) 89 = .ok (.goto (-44), 3) := by decide +kernel
theorem zd_133_92 : decode (zm_cc 133) 92 = .ok (.iload_n 2, 1) := by decide +kernel
theorem zd_133_93 : decode (zm_cc 133) 93 = .ok (.ireturn, 1) := by decide +kernel
theorem zd_134_0 : decode (zm_cc 134) 0 = .ok (.iconst 0, 1) := by decide +kernel
theorem zd_134_1 : decode (zm_cc 134) 1 = .ok (.istore_n 2, 1) := by decide +kernel
theorem zd_134_2 : decode (zm_cc 134) 2 = .ok (.iload_n 2, 1) := by decide +kernel
theorem zd_134_3 : decode (zm_cc 134) 3 = .ok (.iconst 5, 1) := by decide +kernel
theorem zd_134_4 : decode (zm_cc 134) 4 = .ok (.if_icmp .ge 41, 3) := by decide +kernel
theorem zd_134_7 : decode (zm_cc 134) 7 = .ok (.aload_n 0, 1) := by decide +kernel
theorem zd_134_8 : decode (zm_cc 134) 8 = .ok (.iload_n 1, 1) := by decide +kernel
theorem zd_134_9 : decode (zm_cc 134) 9 = .ok (.invokevirtual 37, 3) := by decide +kernel
theorem zd_134_12 : decode (zm_cc 134) 12 = .ok (.ifCond .eq 33, 3) := by decide +kernel
theorem zd_134_15 : decode (zm_cc 134) 15 = .ok (.aload_n 0, 1) := by decide +kernel
theorem zd_134_16 : decode (zm_cc 134) 16 = .ok (.getfield 9, 3) := by decide +kernel
theorem zd_134_19 : decode (zm_cc 134) 19 = .ok (.iload_n 1, 1) := by decide +kernel
theorem zd_134_20 : decode (zm_cc 134) 20 = .ok (.iconst 5, 1) := by decide +kernel
theorem zd_134_21 : decode (zm_cc 134) 21 = .ok (.imul, 1) := by decide +kernel
theorem zd_134_22 : decode (zm_cc 134) 22 = .ok (.iload_n 2, 1) := by decide +kernel
theorem zd_134_23 : decode (zm_cc 134) 23 = .ok (.iadd, 1) := by decide +kernel
theorem zd_134_24 : decode (zm_cc 134) 24 = .ok (.iaload, 1) := by decide +kernel
theorem zd_134_25 : decode (zm_cc 134) 25 = .ok (.aload_n 0, 1) := by decide +kernel
theorem zd_134_26 : decode (zm_cc 134) 26 = .ok (.getfield 29, 3) := by decide +kernel
theorem zd_134_29 : decode (zm_cc 134) 29 = .ok (.getfield 85, 3) := by decide +kernel
theorem zd_134_32 : decode (zm_cc 134) 32 = .ok (.iload_n 2, 1) := by decide +kernel
theorem zd_134_33 : decode (zm_cc 134) 33 = .ok (.iaload, 1) := by decide +kernel
theorem zd_134_34 : decode (zm_cc 134) 34 = .ok (.if_icmp .eq 5, 3) := by decide +kernel
theorem zd_134_37 : decode (zm_cc 134) 37 = .ok (.iconst 0, 1) := by decide +kernel
theorem zd_134_38 : decode (zm_cc 134) 38 = .ok (.ireturn, 1) := by decide +kernel
theorem zd_134_39 : decode (zm_cc 134) 39 = .ok (.iinc 2 1, 3) := by decide +kernel
theorem zd_134_42 : decode (zm_cc 134) 42 = .ok (.goto (-40), 3) := by decide +kernel
theorem zd_134_45 : decode (zm_cc 134) 45 = .ok (.iconst 1, 1) := by decide +kernel
theorem zd_134_46 : decode (zm_cc 134) 46 = .ok (.ireturn, 1) := by decide +kernel
theorem zd_135_0 : decode (zm_cc 135) 0 = .ok (.iload_n 1, 1) := by decide +kernel
theorem zd_135_1 : decode (zm_cc 135) 1 = .ok (.ifCond .lt 22, 3) := by decide +kernel
theorem zd_135_4 : decode (zm_cc 135) 4 = .ok (.iload_n 1, 1) := by decide +kernel
theorem zd_135_5 : decode (zm_cc 135) 5 = .ok (.aload_n 0, 1) := by decide +kernel
theorem zd_135_6 : decode (zm_cc 135) 6 = .ok (.getfield 33, 3) := by decide +kernel
theorem zd_135_9 : decode (zm_cc 135) 9 = .ok (.if_icmp .ge 14, 3) := by decide +kernel
theorem zd_135_12 : decode (zm_cc 135) 12 = .ok (.iload_n 1, 1) := by decide +kernel
theorem zd_135_13 : decode (zm_cc 135) 13 = .ok (.sipush 4000, 3) := by decide +kernel
theorem zd_135_16 : decode (zm_cc 135) 16 = .ok (.if_icmp .ge 7, 3) := by decide +kernel
theorem zd_135_19 : decode (zm_cc 135) 19 = .ok (.iconst 1, 1) := by decide +kernel
theorem zd_135_20 : decode (zm_cc 135) 20 = .ok (.goto 4, 3) := by decide +kernel
theorem zd_135_23 : decode (zm_cc 135) 23 = .ok (.iconst 0, 1) := by decide +kernel
theorem zd_135_24 : decode (zm_cc 135) 24 = .ok (.ireturn, 1) := by decide +kernel
theorem zd_136_0 : decode (zm_cc 136) 0 = .ok (.aload_n 0, 1) := by decide +kernel
theorem zd_136_1 : decode (zm_cc 136) 1 = .ok (.iload_n 1, 1) := by decide +kernel
theorem zd_136_2 : decode (zm_cc 136) 2 = .ok (.invokevirtual 62, 3) := by decide +kernel
theorem zd_136_5 : decode (zm_cc 136) 5 = .ok (.aload_n 0, 1) := by decide +kernel
theorem zd_136_6 : decode (zm_cc 136) 6 = .ok (.getfield 29, 3) := by decide +kernel
theorem zd_136_9 : decode (zm_cc 136) 9 = .ok (.iload_n 2, 1) := by decide +kernel
theorem zd_136_10 : decode (zm_cc 136) 10 = .ok (.invokevirtual 65, 3) := by decide +kernel
theorem zd_136_13 : decode (zm_cc 136) 13 = .ok (.istore_n 3, 1) := by decide +kernel
theorem zd_136_14 : decode (zm_cc 136) 14 = .ok (.iconst 1, 1) := by decide +kernel
theorem zd_136_15 : decode (zm_cc 136) 15 = .ok (.istore 4, 2) := by decide +kernel
theorem zd_136_17 : decode (zm_cc 136) 17 = .ok (.iconst 0, 1) := by decide +kernel
theorem zd_136_18 : decode (zm_cc 136) 18 = .ok (.istore 5, 2) := by decide +kernel
theorem zd_136_20 : decode (zm_cc 136) 20 = .ok (.iload 5, 2) := by decide +kernel
theorem zd_136_22 : decode (zm_cc 136) 22 = .ok (.aload_n 0, 1) := by decide +kernel
theorem zd_136_23 : decode (zm_cc 136) 23 = .ok (.getfield 25, 3) := by decide +kernel
theorem zd_136_26 : decode (zm_cc 136) 26 = .ok (.getfield 69, 3) := by decide +kernel
theorem zd_136_29 : decode (zm_cc 136) 29 = .ok (.if_icmp .ge 72, 3) := by decide +kernel
theorem zd_136_32 : decode (zm_cc 136) 32 = .ok (.iload_n 3, 1) := by decide +kernel
theorem zd_136_33 : decode (zm_cc 136) 33 = .ok (.iconst (-1), 1) := by decide +kernel
theorem zd_136_34 : decode (zm_cc 136) 34 = .ok (.if_icmp .eq 9, 3) := by decide +kernel
theorem zd_136_37 : decode (zm_cc 136) 37 = .ok (.iload_n 3, 1) := by decide +kernel
theorem zd_136_38 : decode (zm_cc 136) 38 = .ok (.iload 5, 2) := by decide +kernel
theorem zd_136_40 : decode (zm_cc 136) 40 = .ok (.if_icmp .ne 7, 3) := by decide +kernel
theorem zd_136_43 : decode (zm_cc 136) 43 = .ok (.iconst 1, 1) := by decide +kernel
theorem zd_136_44 : decode (zm_cc 136) 44 = .ok (.goto 4, 3) := by decide +kernel
theorem zd_136_47 : decode (zm_cc 136) 47 = .ok (.iconst 0, 1) := by decide +kernel
theorem zd_136_48 : decode (zm_cc 136) 48 = .ok (.istore 6, 2) := by decide +kernel
theorem zd_136_50 : decode (zm_cc 136) 50 = .ok (.iload 6, 2) := by decide +kernel
theorem zd_136_52 : decode (zm_cc 136) 52 = .ok (.ifCond .eq 43, 3) := by decide +kernel
theorem zd_136_55 : decode (zm_cc 136) 55 = .ok (.aload_n 0, 1) := by decide +kernel
theorem zd_136_56 : decode (zm_cc 136) 56 = .ok (.getfield 29, 3) := by decide +kernel
theorem zd_136_59 : decode (zm_cc 136) 59 = .ok (.iload 5, 2) := by decide +kernel
theorem zd_136_61 : decode (zm_cc 136) 61 = .ok (.invokevirtual 74, 3) := by decide +kernel
theorem zd_136_64 : decode (zm_cc 136) 64 = .ok (.ifCond .eq 31, 3) := by decide +kernel
theorem zd_136_67 : decode (zm_cc 136) 67 = .ok (.iconst 0, 1) := by decide +kernel
theorem zd_136_68 : decode (zm_cc 136) 68 = .ok (.istore 4, 2) := by decide +kernel
theorem zd_136_70 : decode (zm_cc 136) 70 = .ok (.aload_n 0, 1) := by decide +kernel
theorem zd_136_71 : decode (zm_cc 136) 71 = .ok (.getfield 29, 3) := by decide +kernel
theorem zd_136_74 : decode (zm_cc 136) 74 = .ok (.iload 5, 2) := by decide +kernel
theorem zd_136_76 : decode (zm_cc 136) 76 = .ok (.iload_n 2, 1) := by decide +kernel
theorem zd_136_77 : decode (zm_cc 136) 77 = .ok (.invokevirtual 77, 3) := by decide +kernel
theorem zd_136_80 : decode (zm_cc 136) 80 = .ok (.aload_n 0, 1) := by decide +kernel
theorem zd_136_81 : decode (zm_cc 136) 81 = .ok (.iload_n 1, 1) := by decide +kernel
theorem zd_136_82 : decode (zm_cc 136) 82 = .ok (.iconst 4, 1) := by decide +kernel
theorem zd_136_83 : decode (zm_cc 136) 83 = .ok (.imul, 1) := by decide +kernel
theorem zd_136_84 : decode (zm_cc 136) 84 = .ok (.iload 5, 2) := by decide +kernel
theorem zd_136_86 : decode (zm_cc 136) 86 = .ok (.iadd, 1) := by decide +kernel
theorem zd_136_87 : decode (zm_cc 136) 87 = .ok (.invokevirtual 55, 3) := by decide +kernel
theorem zd_136_90 : decode (zm_cc 136) 90 = .ok (.ifCond .ne 5, 3) := by decide +kernel
theorem zd_136_93 : decode (zm_cc 136) 93 = .ok (.iconst 0, 1) := by decide +kernel
theorem zd_136_94 : decode (zm_cc 136) 94 = .ok (.ireturn, 1) := by decide +kernel
theorem zd_136_95 : decode (zm_cc 136) 95 = .ok (.iinc 5 1, 3) := by decide +kernel
theorem zd_136_98 : decode (zm_cc 136) 98 = .ok (.goto (-78), 3) := by decide +kernel
theorem zd_136_101 : decode (zm_cc 136) 101 = .ok (.aload_n 0, 1) := by decide +kernel
theorem zd_136_102 : decode (zm_cc 136) 102 = .ok (.iload_n 1, 1) := by decide +kernel
theorem zd_136_103 : decode (zm_cc 136) 103 = .ok (.invokevirtual 37, 3) := by decide +kernel
theorem zd_136_106 : decode (zm_cc 136) 106 = .ok (.ifCond .eq 11, 3) := by decide +kernel
theorem zd_136_109 : decode (zm_cc 136) 109 = .ok (.aload_n 0, 1) := by decide +kernel
theorem zd_136_110 : decode (zm_cc 136) 110 = .ok (.getfield 18, 3) := by decide +kernel
theorem zd_136_113 : decode (zm_cc 136) 113 = .ok (.iload_n 1, 1) := by decide +kernel
theorem zd_136_114 : decode (zm_cc 136) 114 = .ok (.iload 4, 2) := by decide +kernel
theorem zd_136_116 : decode (zm_cc 136) 116 = .ok (.bastore, 1) := by decide +kernel
theorem zd_136_117 : decode (zm_cc 136) 117 = .ok (.iconst 1, 1) := by decide +kernel
theorem zd_136_118 : decode (zm_cc 136) 118 = .ok (.ireturn, 1) := by decide +kernel
theorem zd_137_0 : decode (zm_cc 137) 0 = .ok (.aload_n 0, 1) := by decide +kernel
theorem zd_137_1 : decode (zm_cc 137) 1 = .ok (.iload_n 1, 1) := by decide +kernel
theorem zd_137_2 : decode (zm_cc 137) 2 = .ok (.invokevirtual 37, 3) := by decide +kernel
theorem zd_137_5 : decode (zm_cc 137) 5 = .ok (.ifCond .eq 17, 3) := by decide +kernel
theorem zd_137_8 : decode (zm_cc 137) 8 = .ok (.aload_n 0, 1) := by decide +kernel
theorem zd_137_9 : decode (zm_cc 137) 9 = .ok (.getfield 29, 3) := by decide +kernel
theorem zd_137_12 : decode (zm_cc 137) 12 = .ok (.aload_n 0, 1) := by decide +kernel
theorem zd_137_13 : decode (zm_cc 137) 13 = .ok (.getfield 9, 3) := by decide +kernel
theorem zd_137_16 : decode (zm_cc 137) 16 = .ok (.iload_n 1, 1) := by decide +kernel
theorem zd_137_17 : decode (zm_cc 137) 17 = .ok (.iconst 5, 1) := by decide +kernel
theorem zd_137_18 : decode (zm_cc 137) 18 = .ok (.imul, 1) := by decide +kernel
theorem zd_137_19 : decode (zm_cc 137) 19 = .ok (.invokevirtual 41, 3) := by decide +kernel
theorem zd_137_22 : decode (zm_cc 137) 22 = .ok (.return_, 1) := by decide +kernel
theorem zd_138_0 : decode (zm_cc 138) 0 = .ok (.iload_n 2, 1) := by decide +kernel
theorem zd_138_1 : decode (zm_cc 138) 1 = .ok (.ifCond .lt 11, 3) := by decide +kernel
theorem zd_138_4 : decode (zm_cc 138) 4 = .ok (.iload_n 2, 1) := by decide +kernel
theorem zd_138_5 : decode (zm_cc 138) 5 = .ok (.iconst 5, 1) := by decide +kernel
theorem zd_138_6 : decode (zm_cc 138) 6 = .ok (.iadd, 1) := by decide +kernel
theorem zd_138_7 : decode (zm_cc 138) 7 = .ok (.aload_n 1, 1) := by decide +kernel
theorem zd_138_8 : decode (zm_cc 138) 8 = .ok (.arraylength, 1) := by decide +kernel
theorem zd_138_9 : decode (zm_cc 138) 9 = .ok (.if_icmp .le 4, 3) := by decide +kernel
theorem zd_138_12 : decode (zm_cc 138) 12 = .ok (.return_, 1) := by decide +kernel
theorem zd_138_13 : decode (zm_cc 138) 13 = .ok (.aload_n 1, 1) := by decide +kernel
theorem zd_138_14 : decode (zm_cc 138) 14 = .ok (.iload_n 2, 1) := by decide +kernel
theorem zd_138_15 : decode (zm_cc 138) 15 = .ok (.aload_n 0, 1) := by decide +kernel
theorem zd_138_16 : decode (zm_cc 138) 16 = .ok (.getfield 21, 3) := by decide +kernel
theorem zd_138_19 : decode (zm_cc 138) 19 = .ok (.iconst 0, 1) := by decide +kernel
theorem zd_138_20 : decode (zm_cc 138) 20 = .ok (.iconst 5, 1) := by decide +kernel
theorem zd_138_21 : decode (zm_cc 138) 21 = .ok (.invokestatic 44, 3) := by decide +kernel
theorem zd_138_24 : decode (zm_cc 138) 24 = .ok (.aload_n 0, 1) := by decide +kernel
theorem zd_138_25 : decode (zm_cc 138) 25 = .ok (.getfield 18, 3) := by decide +kernel
theorem zd_138_28 : decode (zm_cc 138) 28 = .ok (.iconst (-1), 1) := by decide +kernel
theorem zd_138_29 : decode (zm_cc 138) 29 = .ok (.invokestatic 50, 3) := by decide +kernel
theorem zd_138_32 : decode (zm_cc 138) 32 = .ok (.iconst 0, 1) := by decide +kernel
theorem zd_138_33 : decode (zm_cc 138) 33 = .ok (.istore_n 3, 1) := by decide +kernel
theorem zd_138_34 : decode (zm_cc 138) 34 = .ok (.iload_n 3, 1) := by decide +kernel
theorem zd_138_35 : decode (zm_cc 138) 35 = .ok (.iconst 4, 1) := by decide +kernel
theorem zd_138_36 : decode (zm_cc 138) 36 = .ok (.if_icmp .ge 100, 3) := by decide +kernel
theorem zd_138_39 : decode (zm_cc 138) 39 = .ok (.aload_n 0, 1) := by decide +kernel
theorem zd_138_40 : decode (zm_cc 138) 40 = .ok (.getfield 21, 3) := by decide +kernel
theorem zd_138_43 : decode (zm_cc 138) 43 = .ok (.iload_n 3, 1) := by decide +kernel
theorem zd_138_44 : decode (zm_cc 138) 44 = .ok (.iconst 1, 1) := by decide +kernel
theorem zd_138_45 : decode (zm_cc 138) 45 = .ok (.iadd, 1) := by decide +kernel
theorem zd_138_46 : decode (zm_cc 138) 46 = .ok (.iaload, 1) := by decide +kernel
theorem zd_138_47 : decode (zm_cc 138) 47 = .ok (.istore 4, 2) := by decide +kernel
theorem zd_138_49 : decode (zm_cc 138) 49 = .ok (.aload_n 0, 1) := by decide +kernel
theorem zd_138_50 : decode (zm_cc 138) 50 = .ok (.getfield 9, 3) := by decide +kernel
theorem zd_138_53 : decode (zm_cc 138) 53 = .ok (.iload_n 3, 1) := by decide +kernel
theorem zd_138_54 : decode (zm_cc 138) 54 = .ok (.iload 4, 2) := by decide +kernel
theorem zd_138_56 : decode (zm_cc 138) 56 = .ok (.bipush 14, 2) := by decide +kernel
theorem zd_138_58 : decode (zm_cc 138) 58 = .ok (.iushr, 1) := by decide +kernel
theorem zd_138_59 : decode (zm_cc 138) 59 = .ok (.bipush 7, 2) := by decide +kernel
theorem zd_138_61 : decode (zm_cc 138) 61 = .ok (.iand, 1) := by decide +kernel
theorem zd_138_62 : decode (zm_cc 138) 62 = .ok (.iastore, 1) := by decide +kernel
theorem zd_138_63 : decode (zm_cc 138) 63 = .ok (.aload_n 0, 1) := by decide +kernel
theorem zd_138_64 : decode (zm_cc 138) 64 = .ok (.getfield 15, 3) := by decide +kernel
theorem zd_138_67 : decode (zm_cc 138) 67 = .ok (.iload_n 3, 1) := by decide +kernel
theorem zd_138_68 : decode (zm_cc 138) 68 = .ok (.aload_n 0, 1) := by decide +kernel
theorem zd_138_69 : decode (zm_cc 138) 69 = .ok (.getfield 27, 3) := by decide +kernel
theorem zd_138_72 : decode (zm_cc 138) 72 = .ok (.iload_n 3, 1) := by decide +kernel
theorem zd_138_73 : decode (zm_cc 138) 73 = .ok (.iload 4, 2) := by decide +kernel
theorem zd_138_75 : decode (zm_cc 138) 75 = .ok (.bipush 9, 2) := by decide +kernel
theorem zd_138_77 : decode (zm_cc 138) 77 = .ok (.iushr, 1) := by decide +kernel
theorem zd_138_78 : decode (zm_cc 138) 78 = .ok (.bipush 31, 2) := by decide +kernel
theorem zd_138_80 : decode (zm_cc 138) 80 = .ok (.iand, 1) := by decide +kernel
theorem zd_138_81 : decode (zm_cc 138) 81 = .ok (.invokevirtual 56, 3) := by decide +kernel
theorem zd_138_84 : decode (zm_cc 138) 84 = .ok (.iastore, 1) := by decide +kernel
theorem zd_138_85 : decode (zm_cc 138) 85 = .ok (.aload_n 0, 1) := by decide +kernel
theorem zd_138_86 : decode (zm_cc 138) 86 = .ok (.iload_n 3, 1) := by decide +kernel
theorem zd_138_87 : decode (zm_cc 138) 87 = .ok (.invokevirtual 60, 3) := by decide +kernel
theorem zd_138_90 : decode (zm_cc 138) 90 = .ok (.istore 5, 2) := by decide +kernel
theorem zd_138_92 : decode (zm_cc 138) 92 = .ok (.iconst 0, 1) := by decide +kernel
theorem zd_138_93 : decode (zm_cc 138) 93 = .ok (.istore 6, 2) := by decide +kernel
theorem zd_138_95 : decode (zm_cc 138) 95 = .ok (.iload 6, 2) := by decide +kernel
theorem zd_138_97 : decode (zm_cc 138) 97 = .ok (.iconst 4, 1) := by decide +kernel
theorem zd_138_98 : decode (zm_cc 138) 98 = .ok (.if_icmp .ge 32, 3) := by decide +kernel
theorem zd_138_101 : decode (zm_cc 138) 101 = .ok (.iload 5, 2) := by decide +kernel
theorem zd_138_103 : decode (zm_cc 138) 103 = .ok (.ifCond .eq 27, 3) := by decide +kernel
theorem zd_138_106 : decode (zm_cc 138) 106 = .ok (.iload 5, 2) := by decide +kernel
theorem zd_138_108 : decode (zm_cc 138) 108 = .ok (.iload 6, 2) := by decide +kernel
theorem zd_138_110 : decode (zm_cc 138) 110 = .ok (.iushr, 1) := by decide +kernel
theorem zd_138_111 : decode (zm_cc 138) 111 = .ok (.iconst 1, 1) := by decide +kernel
theorem zd_138_112 : decode (zm_cc 138) 112 = .ok (.iand, 1) := by decide +kernel
theorem zd_138_113 : decode (zm_cc 138) 113 = .ok (.ifCond .eq 11, 3) := by decide +kernel
theorem zd_138_116 : decode (zm_cc 138) 116 = .ok (.aload_n 0, 1) := by decide +kernel
theorem zd_138_117 : decode (zm_cc 138) 117 = .ok (.getfield 18, 3) := by decide +kernel
theorem zd_138_120 : decode (zm_cc 138) 120 = .ok (.iload 6, 2) := by decide +kernel
theorem zd_138_122 : decode (zm_cc 138) 122 = .ok (.iload_n 3, 1) := by decide +kernel
theorem zd_138_123 : decode (zm_cc 138) 123 = .ok (.iastore, 1) := by decide +kernel
theorem zd_138_124 : decode (zm_cc 138) 124 = .ok (.iinc 6 1, 3) := by decide +kernel
theorem zd_138_127 : decode (zm_cc 138) 127 = .ok (.goto (-32), 3) := by decide +kernel
theorem zd_138_130 : decode (zm_cc 138) 130 = .ok (.iinc 3 1, 3) := by decide +kernel
theorem zd_138_133 : decode (zm_cc 138) 133 = .ok (.goto (-99), 3) := by decide +kernel
theorem zd_138_136 : decode (zm_cc 138) 136 = .ok (.return_, 1) := by decide +kernel
theorem zd_139_0 : decode (zm_cc 139) 0 = .ok (.aload_n 0, 1) := by decide +kernel
theorem zd_139_1 : decode (zm_cc 139) 1 = .ok (.iload_n 1, 1) := by decide +kernel
theorem zd_139_2 : decode (zm_cc 139) 2 = .ok (.invokevirtual 63, 3) := by decide +kernel
theorem zd_139_5 : decode (zm_cc 139) 5 = .ok (.istore_n 2, 1) := by decide +kernel
theorem zd_139_6 : decode (zm_cc 139) 6 = .ok (.aload_n 0, 1) := by decide +kernel
theorem zd_139_7 : decode (zm_cc 139) 7 = .ok (.iload_n 1, 1) := by decide +kernel
theorem zd_139_8 : decode (zm_cc 139) 8 = .ok (.invokevirtual 65, 3) := by decide +kernel
theorem zd_139_11 : decode (zm_cc 139) 11 = .ok (.tableswitch 59 1 3 #[25, 35, 35], 25) := by decide +kernel
theorem zd_139_36 : decode (zm_cc 139) 36 = .ok (.aload_n 0, 1) := by decide +kernel
theorem zd_139_37 : decode (zm_cc 139) 37 = .ok (.getfield 27, 3) := by decide +kernel
theorem zd_139_40 : decode (zm_cc 139) 40 = .ok (.getfield 68, 3) := by decide +kernel
theorem zd_139_43 : decode (zm_cc 139) 43 = .ok (.iload_n 2, 1) := by decide +kernel
theorem zd_139_44 : decode (zm_cc 139) 44 = .ok (.iaload, 1) := by decide +kernel
theorem zd_139_45 : decode (zm_cc 139) 45 = .ok (.ireturn, 1) := by decide +kernel
theorem zd_139_46 : decode (zm_cc 139) 46 = .ok (.aload_n 0, 1) := by decide +kernel
theorem zd_139_47 : decode (zm_cc 139) 47 = .ok (.getfield 27, 3) := by decide +kernel
theorem zd_139_50 : decode (zm_cc 139) 50 = .ok (.getfield 68, 3) := by decide +kernel
theorem zd_139_53 : decode (zm_cc 139) 53 = .ok (.iload_n 2, 1) := by decide +kernel
theorem zd_139_54 : decode (zm_cc 139) 54 = .ok (.iaload, 1) := by decide +kernel
theorem zd_139_55 : decode (zm_cc 139) 55 = .ok (.iconst 1, 1) := by decide +kernel
theorem zd_139_56 : decode (zm_cc 139) 56 = .ok (.aload_n 0, 1) := by decide +kernel
theorem zd_139_57 : decode (zm_cc 139) 57 = .ok (.getfield 27, 3) := by decide +kernel
theorem zd_139_60 : decode (zm_cc 139) 60 = .ok (.getfield 71, 3) := by decide +kernel
theorem zd_139_63 : decode (zm_cc 139) 63 = .ok (.iload_n 2, 1) := by decide +kernel
theorem zd_139_64 : decode (zm_cc 139) 64 = .ok (.iaload, 1) := by decide +kernel
theorem zd_139_65 : decode (zm_cc 139) 65 = .ok (.ishl, 1) := by decide +kernel
theorem zd_139_66 : decode (zm_cc 139) 66 = .ok (.iconst (-1), 1) := by decide +kernel
theorem zd_139_67 : decode (zm_cc 139) 67 = .ok (.ixor, 1) := by decide +kernel
theorem zd_139_68 : decode (zm_cc 139) 68 = .ok (.iand, 1) := by decide +kernel
theorem zd_139_69 : decode (zm_cc 139) 69 = .ok (.ireturn, 1) := by decide +kernel
theorem zd_139_70 : decode (zm_cc 139) 70 = .ok (.iconst 0, 1) := by decide +kernel
theorem zd_139_71 : decode (zm_cc 139) 71 = .ok (.ireturn, 1) := by decide +kernel
theorem zd_140_0 : decode (zm_cc 140) 0 = .ok (.iload_n 1, 1) := by decide +kernel
theorem zd_140_1 : decode (zm_cc 140) 1 = .ok (.ifCond .lt 17, 3) := by decide +kernel
theorem zd_140_4 : decode (zm_cc 140) 4 = .ok (.iload_n 1, 1) := by decide +kernel
theorem zd_140_5 : decode (zm_cc 140) 5 = .ok (.iconst 4, 1) := by decide +kernel
theorem zd_140_6 : decode (zm_cc 140) 6 = .ok (.if_icmp .ge 12, 3) := by decide +kernel
theorem zd_140_9 : decode (zm_cc 140) 9 = .ok (.aload_n 0, 1) := by decide +kernel
theorem zd_140_10 : decode (zm_cc 140) 10 = .ok (.getfield 15, 3) := by decide +kernel
theorem zd_140_13 : decode (zm_cc 140) 13 = .ok (.iload_n 1, 1) := by decide +kernel
theorem zd_140_14 : decode (zm_cc 140) 14 = .ok (.iaload, 1) := by decide +kernel
theorem zd_140_15 : decode (zm_cc 140) 15 = .ok (.goto 5, 3) := by decide +kernel
theorem zd_140_18 : decode (zm_cc 140) 18 = .ok (.bipush 96, 2) := by decide +kernel
theorem zd_140_20 : decode (zm_cc 140) 20 = .ok (.ireturn, 1) := by decide +kernel
theorem zd_141_0 : decode (zm_cc 141) 0 = .ok (.iload_n 1, 1) := by decide +kernel
theorem zd_141_1 : decode (zm_cc 141) 1 = .ok (.ifCond .lt 17, 3) := by decide +kernel
theorem zd_141_4 : decode (zm_cc 141) 4 = .ok (.iload_n 1, 1) := by decide +kernel
theorem zd_141_5 : decode (zm_cc 141) 5 = .ok (.iconst 4, 1) := by decide +kernel
theorem zd_141_6 : decode (zm_cc 141) 6 = .ok (.if_icmp .ge 12, 3) := by decide +kernel
theorem zd_141_9 : decode (zm_cc 141) 9 = .ok (.aload_n 0, 1) := by decide +kernel
theorem zd_141_10 : decode (zm_cc 141) 10 = .ok (.getfield 9, 3) := by decide +kernel
theorem zd_141_13 : decode (zm_cc 141) 13 = .ok (.iload_n 1, 1) := by decide +kernel
theorem zd_141_14 : decode (zm_cc 141) 14 = .ok (.iaload, 1) := by decide +kernel
theorem zd_141_15 : decode (zm_cc 141) 15 = .ok (.goto 4, 3) := by decide +kernel
theorem zd_141_18 : decode (zm_cc 141) 18 = .ok (.iconst (-1), 1) := by decide +kernel
theorem zd_141_19 : decode (zm_cc 141) 19 = .ok (.ireturn, 1) := by decide +kernel
theorem zd_142_0 : decode (zm_cc 142) 0 = .ok (.iconst 0, 1) := by decide +kernel
theorem zd_142_1 : decode (zm_cc 142) 1 = .ok (.istore_n 2, 1) := by decide +kernel
theorem zd_142_2 : decode (zm_cc 142) 2 = .ok (.iload_n 2, 1) := by decide +kernel
theorem zd_142_3 : decode (zm_cc 142) 3 = .ok (.aload_n 0, 1) := by decide +kernel
theorem zd_142_4 : decode (zm_cc 142) 4 = .ok (.getfield 27, 3) := by decide +kernel
theorem zd_142_7 : decode (zm_cc 142) 7 = .ok (.getfield 83, 3) := by decide +kernel
theorem zd_142_10 : decode (zm_cc 142) 10 = .ok (.if_icmp .ge 73, 3) := by decide +kernel
theorem zd_142_13 : decode (zm_cc 142) 13 = .ok (.iload_n 1, 1) := by decide +kernel
theorem zd_142_14 : decode (zm_cc 142) 14 = .ok (.iconst (-1), 1) := by decide +kernel
theorem zd_142_15 : decode (zm_cc 142) 15 = .ok (.if_icmp .eq 68, 3) := by decide +kernel
theorem zd_142_18 : decode (zm_cc 142) 18 = .ok (.aload_n 0, 1) := by decide +kernel
theorem zd_142_19 : decode (zm_cc 142) 19 = .ok (.iload_n 2, 1) := by decide +kernel
theorem zd_142_20 : decode (zm_cc 142) 20 = .ok (.invokevirtual 74, 3) := by decide +kernel
theorem zd_142_23 : decode (zm_cc 142) 23 = .ok (.bipush 17, 2) := by decide +kernel
theorem zd_142_25 : decode (zm_cc 142) 25 = .ok (.iushr, 1) := by decide +kernel
theorem zd_142_26 : decode (zm_cc 142) 26 = .ok (.iconst 1, 1) := by decide +kernel
theorem zd_142_27 : decode (zm_cc 142) 27 = .ok (.iand, 1) := by decide +kernel
theorem zd_142_28 : decode (zm_cc 142) 28 = .ok (.ifCond .eq 33, 3) := by decide +kernel
theorem zd_142_31 : decode (zm_cc 142) 31 = .ok (.aload_n 0, 1) := by decide +kernel
theorem zd_142_32 : decode (zm_cc 142) 32 = .ok (.iload_n 2, 1) := by decide +kernel
theorem zd_142_33 : decode (zm_cc 142) 33 = .ok (.invokevirtual 65, 3) := by decide +kernel
theorem zd_142_36 : decode (zm_cc 142) 36 = .ok (.iconst 1, 1) := by decide +kernel
theorem zd_142_37 : decode (zm_cc 142) 37 = .ok (.if_icmp .ne 24, 3) := by decide +kernel
theorem zd_142_40 : decode (zm_cc 142) 40 = .ok (.aload_n 0, 1) := by decide +kernel
theorem zd_142_41 : decode (zm_cc 142) 41 = .ok (.getfield 27, 3) := by decide +kernel
theorem zd_142_44 : decode (zm_cc 142) 44 = .ok (.getfield 86, 3) := by decide +kernel
theorem zd_142_47 : decode (zm_cc 142) 47 = .ok (.aload_n 0, 1) := by decide +kernel
theorem zd_142_48 : decode (zm_cc 142) 48 = .ok (.iload_n 2, 1) := by decide +kernel
theorem zd_142_49 : decode (zm_cc 142) 49 = .ok (.invokevirtual 63, 3) := by decide +kernel
theorem zd_142_52 : decode (zm_cc 142) 52 = .ok (.iaload, 1) := by decide +kernel
theorem zd_142_53 : decode (zm_cc 142) 53 = .ok (.iload_n 1, 1) := by decide +kernel
theorem zd_142_54 : decode (zm_cc 142) 54 = .ok (.if_icmp .ne 7, 3) := by decide +kernel
theorem zd_142_57 : decode (zm_cc 142) 57 = .ok (.iconst 1, 1) := by decide +kernel
theorem zd_142_58 : decode (zm_cc 142) 58 = .ok (.goto 4, 3) := by decide +kernel
theorem zd_142_61 : decode (zm_cc 142) 61 = .ok (.iconst 0, 1) := by decide +kernel
theorem zd_142_62 : decode (zm_cc 142) 62 = .ok (.istore_n 3, 1) := by decide +kernel
theorem zd_142_63 : decode (zm_cc 142) 63 = .ok (.iload_n 3, 1) := by decide +kernel
theorem zd_142_64 : decode (zm_cc 142) 64 = .ok (.ifCond .eq 13, 3) := by decide +kernel
theorem zd_142_67 : decode (zm_cc 142) 67 = .ok (.aload_n 0, 1) := by decide +kernel
theorem zd_142_68 : decode (zm_cc 142) 68 = .ok (.iload_n 2, 1) := by decide +kernel
theorem zd_142_69 : decode (zm_cc 142) 69 = .ok (.invokevirtual 89, 3) := by decide +kernel
theorem zd_142_72 : decode (zm_cc 142) 72 = .ok (.ifCond .eq 5, 3) := by decide +kernel
theorem zd_142_75 : decode (zm_cc 142) 75 = .ok (.iload_n 2, 1) := by decide +kernel
theorem zd_142_76 : decode (zm_cc 142) 76 = .ok (.ireturn, 1) := by decide +kernel
theorem zd_142_77 : decode (zm_cc 142) 77 = .ok (.iinc 2 1, 3) := by decide +kernel
theorem zd_142_80 : decode (zm_cc 142) 80 = .ok (.goto (-78), 3) := by decide +kernel
theorem zd_142_83 : decode (zm_cc 142) 83 = .ok (.iconst (-1), 1) := by decide +kernel
theorem zd_142_84 : decode (zm_cc 142) 84 = .ok (.ireturn, 1) := by decide +kernel
theorem zd_143_0 : decode (zm_cc 143) 0 = .ok (.iload_n 1, 1) := by decide +kernel
theorem zd_143_1 : decode (zm_cc 143) 1 = .ok (.ifCond .lt 19, 3) := by decide +kernel
theorem zd_143_4 : decode (zm_cc 143) 4 = .ok (.iload_n 1, 1) := by decide +kernel
theorem zd_143_5 : decode (zm_cc 143) 5 = .ok (.iconst 4, 1) := by decide +kernel
theorem zd_143_6 : decode (zm_cc 143) 6 = .ok (.if_icmp .ge 14, 3) := by decide +kernel
theorem zd_143_9 : decode (zm_cc 143) 9 = .ok (.aload_n 0, 1) := by decide +kernel
theorem zd_143_10 : decode (zm_cc 143) 10 = .ok (.getfield 21, 3) := by decide +kernel
theorem zd_143_13 : decode (zm_cc 143) 13 = .ok (.iload_n 1, 1) := by decide +kernel
theorem zd_143_14 : decode (zm_cc 143) 14 = .ok (.iconst 1, 1) := by decide +kernel
theorem zd_143_15 : decode (zm_cc 143) 15 = .ok (.iadd, 1) := by decide +kernel
theorem zd_143_16 : decode (zm_cc 143) 16 = .ok (.iaload, 1) := by decide +kernel
theorem zd_143_17 : decode (zm_cc 143) 17 = .ok (.goto 4, 3) := by decide +kernel
theorem zd_143_20 : decode (zm_cc 143) 20 = .ok (.iconst 0, 1) := by decide +kernel
theorem zd_143_21 : decode (zm_cc 143) 21 = .ok (.ireturn, 1) := by decide +kernel
theorem zd_144_0 : decode (zm_cc 144) 0 = .ok (.aload_n 0, 1) := by decide +kernel
theorem zd_144_1 : decode (zm_cc 144) 1 = .ok (.iload_n 1, 1) := by decide +kernel
theorem zd_144_2 : decode (zm_cc 144) 2 = .ok (.invokevirtual 65, 3) := by decide +kernel
theorem zd_144_5 : decode (zm_cc 144) 5 = .ok (.istore_n 2, 1) := by decide +kernel
theorem zd_144_6 : decode (zm_cc 144) 6 = .ok (.aload_n 0, 1) := by decide +kernel
theorem zd_144_7 : decode (zm_cc 144) 7 = .ok (.iload_n 1, 1) := by decide +kernel
theorem zd_144_8 : decode (zm_cc 144) 8 = .ok (.invokevirtual 63, 3) := by decide +kernel
theorem zd_144_11 : decode (zm_cc 144) 11 = .ok (.istore_n 3, 1) := by decide +kernel
theorem zd_144_12 : decode (zm_cc 144) 12 = .ok (.aload_n 0, 1) := by decide +kernel
theorem zd_144_13 : decode (zm_cc 144) 13 = .ok (.getfield 27, 3) := by decide +kernel
theorem zd_144_16 : decode (zm_cc 144) 16 = .ok (.getfield 71, 3) := by decide +kernel
theorem zd_144_19 : decode (zm_cc 144) 19 = .ok (.iload_n 3, 1) := by decide +kernel
theorem zd_144_20 : decode (zm_cc 144) 20 = .ok (.iaload, 1) := by decide +kernel
theorem zd_144_21 : decode (zm_cc 144) 21 = .ok (.istore 4, 2) := by decide +kernel
theorem zd_144_23 : decode (zm_cc 144) 23 = .ok (.iload_n 2, 1) := by decide +kernel
theorem zd_144_24 : decode (zm_cc 144) 24 = .ok (.iconst 3, 1) := by decide +kernel
theorem zd_144_25 : decode (zm_cc 144) 25 = .ok (.if_icmp .ne 19, 3) := by decide +kernel
theorem zd_144_28 : decode (zm_cc 144) 28 = .ok (.aload_n 0, 1) := by decide +kernel
theorem zd_144_29 : decode (zm_cc 144) 29 = .ok (.iload 4, 2) := by decide +kernel
theorem zd_144_31 : decode (zm_cc 144) 31 = .ok (.invokevirtual 77, 3) := by decide +kernel
theorem zd_144_34 : decode (zm_cc 144) 34 = .ok (.iconst (-1), 1) := by decide +kernel
theorem zd_144_35 : decode (zm_cc 144) 35 = .ok (.if_icmp .ne 7, 3) := by decide +kernel
theorem zd_144_38 : decode (zm_cc 144) 38 = .ok (.iconst 1, 1) := by decide +kernel
theorem zd_144_39 : decode (zm_cc 144) 39 = .ok (.goto 4, 3) := by decide +kernel
theorem zd_144_42 : decode (zm_cc 144) 42 = .ok (.iconst 0, 1) := by decide +kernel
theorem zd_144_43 : decode (zm_cc 144) 43 = .ok (.ireturn, 1) := by decide +kernel
theorem zd_144_44 : decode (zm_cc 144) 44 = .ok (.iload_n 2, 1) := by decide +kernel
theorem zd_144_45 : decode (zm_cc 144) 45 = .ok (.iconst 1, 1) := by decide +kernel
theorem zd_144_46 : decode (zm_cc 144) 46 = .ok (.if_icmp .eq 5, 3) := by decide +kernel
theorem zd_144_49 : decode (zm_cc 144) 49 = .ok (.iconst 0, 1) := by decide +kernel
theorem zd_144_50 : decode (zm_cc 144) 50 = .ok (.ireturn, 1) := by decide +kernel
theorem zd_144_51 : decode (zm_cc 144) 51 = .ok (.aload_n 0, 1) := by decide +kernel
theorem zd_144_52 : decode (zm_cc 144) 52 = .ok (.getfield 27, 3) := by decide +kernel
theorem zd_144_55 : decode (zm_cc 144) 55 = .ok (.getfield 80, 3) := by decide +kernel
theorem zd_144_58 : decode (zm_cc 144) 58 = .ok (.iload_n 3, 1) := by decide +kernel
theorem zd_144_59 : decode (zm_cc 144) 59 = .ok (.iaload, 1) := by decide +kernel
theorem zd_144_60 : decode (zm_cc 144) 60 = .ok (.lookupswitch 80 #[(3, 28), (11, 54)], 28) := by decide +kernel
theorem zd_144_88 : decode (zm_cc 144) 88 = .ok (.aload_n 0, 1) := by decide +kernel
theorem zd_144_89 : decode (zm_cc 144) 89 = .ok (.iload 4, 2) := by decide +kernel
theorem zd_144_91 : decode (zm_cc 144) 91 = .ok (.invokevirtual 77, 3) := by decide +kernel
theorem zd_144_94 : decode (zm_cc 144) 94 = .ok (.iconst (-1), 1) := by decide +kernel
theorem zd_144_95 : decode (zm_cc 144) 95 = .ok (.if_icmp .eq 13, 3) := by decide +kernel
theorem zd_144_98 : decode (zm_cc 144) 98 = .ok (.aload_n 0, 1) := by decide +kernel
theorem zd_144_99 : decode (zm_cc 144) 99 = .ok (.iload 4, 2) := by decide +kernel
