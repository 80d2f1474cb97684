theorem zd_145_98 : decode (zm_cc 145) 98 = .ok (.aload_n 0, 1) := by decide +kernel
theorem zd_145_99 : decode (zm_cc 145) 99 = .ok (.iload 4, 2) := by decide +kernel
theorem zd_145_101 : decode (zm_cc 145) 101 = .ok (.invokevirtual 77, 3) := by decide +kernel
theorem zd_145_104 : decode (zm_cc 145) 104 = .ok (.iload_n 1, 1) := by decide +kernel
theorem zd_145_105 : decode (zm_cc 145) 105 = .ok (.if_icmp .ne 7, 3) := by decide +kernel
theorem zd_145_108 : decode (zm_cc 145) 108 = .ok (.iconst 1, 1) := by decide +kernel
theorem zd_145_109 : decode (zm_cc 145) 109 = .ok (.goto 4, 3) := by decide +kernel
theorem zd_145_112 : decode (zm_cc 145) 112 = .ok (.iconst 0, 1) := by decide +kernel
theorem zd_145_113 : decode (zm_cc 145) 113 = .ok (.ireturn, 1) := by decide +kernel
theorem zd_145_114 : decode (zm_cc 145) 114 = .ok (.aload_n 0, 1) := by decide +kernel
theorem zd_145_115 : decode (zm_cc 145) 115 = .ok (.iload 4, 2) := by decide +kernel
theorem zd_145_117 : decode (zm_cc 145) 117 = .ok (.invokevirtual 65, 3) := by decide +kernel
theorem zd_145_120 : decode (zm_cc 145) 120 = .ok (.iconst 4, 1) := by decide +kernel
theorem zd_145_121 : decode (zm_cc 145) 121 = .ok (.if_icmp .eq 13, 3) := by decide +kernel
theorem zd_145_124 : decode (zm_cc 145) 124 = .ok (.aload_n 0, 1) := by decide +kernel
theorem zd_145_125 : decode (zm_cc 145) 125 = .ok (.iload 4, 2) := by decide +kernel
theorem zd_145_127 : decode (zm_cc 145) 127 = .ok (.invokevirtual 65, 3) := by decide +kernel
theorem zd_145_130 : decode (zm_cc 145) 130 = .ok (.iconst 5, 1) := by decide +kernel
theorem zd_145_131 : decode (zm_cc 145) 131 = .ok (.if_icmp .ne 7, 3) := by decide +kernel
theorem zd_145_134 : decode (zm_cc 145) 134 = .ok (.iconst 1, 1) := by decide +kernel
theorem zd_145_135 : decode (zm_cc 145) 135 = .ok (.goto 4, 3) := by decide +kernel
theorem zd_145_138 : decode (zm_cc 145) 138 = .ok (.iconst 0, 1) := by decide +kernel
theorem zd_145_139 : decode (zm_cc 145) 139 = .ok (.ireturn, 1) := by decide +kernel
theorem zd_145_140 : decode (zm_cc 145) 140 = .ok (.iconst 1, 1) := by decide +kernel
theorem zd_145_141 : decode (zm_cc 145) 141 = .ok (.ireturn, 1) := by decide +kernel
theorem zd_146_0 : decode (zm_cc 146) 0 = .ok (.iload_n 1, 1) := by decide +kernel
theorem zd_146_1 : decode (zm_cc 146) 1 = .ok (.ifCond .lt 17, 3) := by decide +kernel
theorem zd_146_4 : decode (zm_cc 146) 4 = .ok (.iload_n 1, 1) := by decide +kernel
theorem zd_146_5 : decode (zm_cc 146) 5 = .ok (.iconst 4, 1) := by decide +kernel
theorem zd_146_6 : decode (zm_cc 146) 6 = .ok (.if_icmp .ge 12, 3) := by decide +kernel
theorem zd_146_9 : decode (zm_cc 146) 9 = .ok (.aload_n 0, 1) := by decide +kernel
theorem zd_146_10 : decode (zm_cc 146) 10 = .ok (.getfield 18, 3) := by decide +kernel
theorem zd_146_13 : decode (zm_cc 146) 13 = .ok (.iload_n 1, 1) := by decide +kernel
theorem zd_146_14 : decode (zm_cc 146) 14 = .ok (.iaload, 1) := by decide +kernel
theorem zd_146_15 : decode (zm_cc 146) 15 = .ok (.goto 4, 3) := by decide +kernel
theorem zd_146_18 : decode (zm_cc 146) 18 = .ok (.iconst (-1), 1) := by decide +kernel
theorem zd_146_19 : decode (zm_cc 146) 19 = .ok (.ireturn, 1) := by decide +kernel
theorem zd_147_0 : decode (zm_cc 147) 0 = .ok (.iload_n 1, 1) := by decide +kernel
theorem zd_147_1 : decode (zm_cc 147) 1 = .ok (.ifCond .lt 8, 3) := by decide +kernel
theorem zd_147_4 : decode (zm_cc 147) 4 = .ok (.iload_n 1, 1) := by decide +kernel
theorem zd_147_5 : decode (zm_cc 147) 5 = .ok (.iconst 4, 1) := by decide +kernel
theorem zd_147_6 : decode (zm_cc 147) 6 = .ok (.if_icmp .lt 4, 3) := by decide +kernel
theorem zd_147_9 : decode (zm_cc 147) 9 = .ok (.return_, 1) := by decide +kernel
theorem zd_147_10 : decode (zm_cc 147) 10 = .ok (.aload_n 0, 1) := by decide +kernel
theorem zd_147_11 : decode (zm_cc 147) 11 = .ok (.iload_n 1, 1) := by decide +kernel
theorem zd_147_12 : decode (zm_cc 147) 12 = .ok (.invokevirtual 63, 3) := by decide +kernel
theorem zd_147_15 : decode (zm_cc 147) 15 = .ok (.istore_n 3, 1) := by decide +kernel
theorem zd_147_16 : decode (zm_cc 147) 16 = .ok (.iload_n 2, 1) := by decide +kernel
theorem zd_147_17 : decode (zm_cc 147) 17 = .ok (.iconst (-1), 1) := by decide +kernel
theorem zd_147_18 : decode (zm_cc 147) 18 = .ok (.if_icmp .eq 20, 3) := by decide +kernel
theorem zd_147_21 : decode (zm_cc 147) 21 = .ok (.aload_n 0, 1) := by decide +kernel
theorem zd_147_22 : decode (zm_cc 147) 22 = .ok (.getfield 27, 3) := by decide +kernel
theorem zd_147_25 : decode (zm_cc 147) 25 = .ok (.getfield 86, 3) := by decide +kernel
theorem zd_147_28 : decode (zm_cc 147) 28 = .ok (.iload_n 3, 1) := by decide +kernel
theorem zd_147_29 : decode (zm_cc 147) 29 = .ok (.iaload, 1) := by decide +kernel
theorem zd_147_30 : decode (zm_cc 147) 30 = .ok (.iload_n 2, 1) := by decide +kernel
theorem zd_147_31 : decode (zm_cc 147) 31 = .ok (.if_icmp .ne 7, 3) := by decide +kernel
theorem zd_147_34 : decode (zm_cc 147) 34 = .ok (.iconst 1, 1) := by decide +kernel
theorem zd_147_35 : decode (zm_cc 147) 35 = .ok (.goto 4, 3) := by decide +kernel
theorem zd_147_38 : decode (zm_cc 147) 38 = .ok (.iconst 0, 1) := by decide +kernel
theorem zd_147_39 : decode (zm_cc 147) 39 = .ok (.istore 4, 2) := by decide +kernel
theorem zd_147_41 : decode (zm_cc 147) 41 = .ok (.aload_n 0, 1) := by decide +kernel
theorem zd_147_42 : decode (zm_cc 147) 42 = .ok (.getfield 21, 3) := by decide +kernel
theorem zd_147_45 : decode (zm_cc 147) 45 = .ok (.iconst 0, 1) := by decide +kernel
theorem zd_147_46 : decode (zm_cc 147) 46 = .ok (.aload_n 0, 1) := by decide +kernel
theorem zd_147_47 : decode (zm_cc 147) 47 = .ok (.getfield 24, 3) := by decide +kernel
theorem zd_147_50 : decode (zm_cc 147) 50 = .ok (.iconst 0, 1) := by decide +kernel
theorem zd_147_51 : decode (zm_cc 147) 51 = .ok (.iconst 5, 1) := by decide +kernel
theorem zd_147_52 : decode (zm_cc 147) 52 = .ok (.invokestatic 44, 3) := by decide +kernel
theorem zd_147_55 : decode (zm_cc 147) 55 = .ok (.aload_n 0, 1) := by decide +kernel
theorem zd_147_56 : decode (zm_cc 147) 56 = .ok (.getfield 24, 3) := by decide +kernel
theorem zd_147_59 : decode (zm_cc 147) 59 = .ok (.iload_n 1, 1) := by decide +kernel
theorem zd_147_60 : decode (zm_cc 147) 60 = .ok (.iconst 1, 1) := by decide +kernel
theorem zd_147_61 : decode (zm_cc 147) 61 = .ok (.iadd, 1) := by decide +kernel
theorem zd_147_62 : decode (zm_cc 147) 62 = .ok (.aload_n 0, 1) := by decide +kernel
theorem zd_147_63 : decode (zm_cc 147) 63 = .ok (.getfield 21, 3) := by decide +kernel
theorem zd_147_66 : decode (zm_cc 147) 66 = .ok (.iload_n 1, 1) := by decide +kernel
theorem zd_147_67 : decode (zm_cc 147) 67 = .ok (.iconst 1, 1) := by decide +kernel
theorem zd_147_68 : decode (zm_cc 147) 68 = .ok (.iadd, 1) := by decide +kernel
theorem zd_147_69 : decode (zm_cc 147) 69 = .ok (.iaload, 1) := by decide +kernel
theorem zd_147_70 : decode (zm_cc 147) 70 = .ok (.ldc 93, 2) := by decide +kernel
theorem zd_147_72 : decode (zm_cc 147) 72 = .ok (.iand, 1) := by decide +kernel
theorem zd_147_73 : decode (zm_cc 147) 73 = .ok (.iload 4, 2) := by decide +kernel
theorem zd_147_75 : decode (zm_cc 147) 75 = .ok (.bipush 17, 2) := by decide +kernel
theorem zd_147_77 : decode (zm_cc 147) 77 = .ok (.ishl, 1) := by decide +kernel
theorem zd_147_78 : decode (zm_cc 147) 78 = .ok (.ior, 1) := by decide +kernel
theorem zd_147_79 : decode (zm_cc 147) 79 = .ok (.iastore, 1) := by decide +kernel
theorem zd_147_80 : decode (zm_cc 147) 80 = .ok (.iconst 1, 1) := by decide +kernel
theorem zd_147_81 : decode (zm_cc 147) 81 = .ok (.istore 5, 2) := by decide +kernel
theorem zd_147_83 : decode (zm_cc 147) 83 = .ok (.aload_n 0, 1) := by decide +kernel
theorem zd_147_84 : decode (zm_cc 147) 84 = .ok (.getfield 27, 3) := by decide +kernel
theorem zd_147_87 : decode (zm_cc 147) 87 = .ok (.getfield 94, 3) := by decide +kernel
theorem zd_147_90 : decode (zm_cc 147) 90 = .ok (.iload_n 3, 1) := by decide +kernel
theorem zd_147_91 : decode (zm_cc 147) 91 = .ok (.iaload, 1) := by decide +kernel
theorem zd_147_92 : decode (zm_cc 147) 92 = .ok (.istore 6, 2) := by decide +kernel
theorem zd_147_94 : decode (zm_cc 147) 94 = .ok (.aload_n 0, 1) := by decide +kernel
theorem zd_147_95 : decode (zm_cc 147) 95 = .ok (.iload_n 1, 1) := by decide +kernel
theorem zd_147_96 : decode (zm_cc 147) 96 = .ok (.invokevirtual 65, 3) := by decide +kernel
theorem zd_147_99 : decode (zm_cc 147) 99 = .ok (.iconst 3, 1) := by decide +kernel
theorem zd_147_100 : decode (zm_cc 147) 100 = .ok (.if_icmp .ne 7, 3) := by decide +kernel
theorem zd_147_103 : decode (zm_cc 147) 103 = .ok (.iconst (-1), 1) := by decide +kernel
theorem zd_147_104 : decode (zm_cc 147) 104 = .ok (.goto 12, 3) := by decide +kernel
theorem zd_147_107 : decode (zm_cc 147) 107 = .ok (.aload_n 0, 1) := by decide +kernel
theorem zd_147_108 : decode (zm_cc 147) 108 = .ok (.getfield 27, 3) := by decide +kernel
theorem zd_147_111 : decode (zm_cc 147) 111 = .ok (.getfield 80, 3) := by decide +kernel
theorem zd_147_114 : decode (zm_cc 147) 114 = .ok (.iload_n 3, 1) := by decide +kernel
theorem zd_147_115 : decode (zm_cc 147) 115 = .ok (.iaload, 1) := by decide +kernel
theorem zd_147_116 : decode (zm_cc 147) 116 = .ok (.tableswitch 145 0 12 #[68, 68, 68, 145, 145, 77, 77, 116, 116, 116, 127, 145, 105], 68) := by decide +kernel
theorem zd_147_184 : decode (zm_cc 147) 184 = .ok (.aload_n 0, 1) := by decide +kernel
theorem zd_147_185 : decode (zm_cc 147) 185 = .ok (.iload_n 1, 1) := by decide +kernel
theorem zd_147_186 : decode (zm_cc 147) 186 = .ok (.iload_n 3, 1) := by decide +kernel
theorem zd_147_187 : decode (zm_cc 147) 187 = .ok (.invokevirtual 97, 3) := by decide +kernel
theorem zd_147_190 : decode (zm_cc 147) 190 = .ok (.goto 71, 3) := by decide +kernel
theorem zd_147_193 : decode (zm_cc 147) 193 = .ok (.aload_n 0, 1) := by decide +kernel
theorem zd_147_194 : decode (zm_cc 147) 194 = .ok (.iload_n 1, 1) := by decide +kernel
theorem zd_147_195 : decode (zm_cc 147) 195 = .ok (.iload_n 3, 1) := by decide +kernel
theorem zd_147_196 : decode (zm_cc 147) 196 = .ok (.invokevirtual 101, 3) := by decide +kernel
theorem zd_147_199 : decode (zm_cc 147) 199 = .ok (.ifCond .eq 8, 3) := by decide +kernel
theorem zd_147_202 : decode (zm_cc 147) 202 = .ok (.iload 6, 2) := by decide +kernel
theorem zd_147_204 : decode (zm_cc 147) 204 = .ok (.goto 12, 3) := by decide +kernel
theorem zd_147_207 : decode (zm_cc 147) 207 = .ok (.aload_n 0, 1) := by decide +kernel
theorem zd_147_208 : decode (zm_cc 147) 208 = .ok (.getfield 27, 3) := by decide +kernel
theorem zd_147_211 : decode (zm_cc 147) 211 = .ok (.getfield 105, 3) := by decide +kernel
theorem zd_147_214 : decode (zm_cc 147) 214 = .ok (.iload_n 3, 1) := by decide +kernel
theorem zd_147_215 : decode (zm_cc 147) 215 = .ok (.iaload, 1) := by decide +kernel
theorem zd_147_216 : decode (zm_cc 147) 216 = .ok (.istore 6, 2) := by decide +kernel
theorem zd_147_218 : decode (zm_cc 147) 218 = .ok (.goto 43, 3) := by decide +kernel
theorem zd_147_221 : decode (zm_cc 147) 221 = .ok (.aload_n 0, 1) := by decide +kernel
theorem zd_147_222 : decode (zm_cc 147) 222 = .ok (.iload_n 1, 1) := by decide +kernel
theorem zd_147_223 : decode (zm_cc 147) 223 = .ok (.iload_n 3, 1) := by decide +kernel
theorem zd_147_224 : decode (zm_cc 147) 224 = .ok (.invokevirtual 101, 3) := by decide +kernel
theorem zd_147_227 : decode (zm_cc 147) 227 = .ok (.istore 5, 2) := by decide +kernel
theorem zd_147_229 : decode (zm_cc 147) 229 = .ok (.goto 32, 3) := by decide +kernel
theorem zd_147_232 : decode (zm_cc 147) 232 = .ok (.aload_n 0, 1) := by decide +kernel
theorem zd_147_233 : decode (zm_cc 147) 233 = .ok (.iload_n 1, 1) := by decide +kernel
theorem zd_147_234 : decode (zm_cc 147) 234 = .ok (.iload_n 3, 1) := by decide +kernel
theorem zd_147_235 : decode (zm_cc 147) 235 = .ok (.invokevirtual 108, 3) := by decide +kernel
theorem zd_147_238 : decode (zm_cc 147) 238 = .ok (.istore 5, 2) := by decide +kernel
theorem zd_147_240 : decode (zm_cc 147) 240 = .ok (.goto 21, 3) := by decide +kernel
theorem zd_147_243 : decode (zm_cc 147) 243 = .ok (.aload_n 0, 1) := by decide +kernel
theorem zd_147_244 : decode (zm_cc 147) 244 = .ok (.aload_n 0, 1) := by decide +kernel
theorem zd_147_245 : decode (zm_cc 147) 245 = .ok (.getfield 27, 3) := by decide +kernel
theorem zd_147_248 : decode (zm_cc 147) 248 = .ok (.getfield 71, 3) := by decide +kernel
theorem zd_147_251 : decode (zm_cc 147) 251 = .ok (.iload_n 3, 1) := by decide +kernel
theorem zd_147_252 : decode (zm_cc 147) 252 = .ok (.iaload, 1) := by decide +kernel
theorem zd_147_253 : decode (zm_cc 147) 253 = .ok (.invokevirtual 111, 3) := by decide +kernel
theorem zd_147_256 : decode (zm_cc 147) 256 = .ok (.istore 5, 2) := by decide +kernel
theorem zd_147_258 : decode (zm_cc 147) 258 = .ok (.goto 3, 3) := by decide +kernel
theorem zd_147_261 : decode (zm_cc 147) 261 = .ok (.iload 5, 2) := by decide +kernel
theorem zd_147_263 : decode (zm_cc 147) 263 = .ok (.ifCond .ne 17, 3) := by decide +kernel
theorem zd_147_266 : decode (zm_cc 147) 266 = .ok (.aload_n 0, 1) := by decide +kernel
theorem zd_147_267 : decode (zm_cc 147) 267 = .ok (.iload_n 1, 1) := by decide +kernel
theorem zd_147_268 : decode (zm_cc 147) 268 = .ok (.aload_n 0, 1) := by decide +kernel
theorem zd_147_269 : decode (zm_cc 147) 269 = .ok (.iload_n 1, 1) := by decide +kernel
theorem zd_147_270 : decode (zm_cc 147) 270 = .ok (.invokevirtual 114, 3) := by decide +kernel
theorem zd_147_273 : decode (zm_cc 147) 273 = .ok (.iconst 5, 1) := by decide +kernel
theorem zd_147_274 : decode (zm_cc 147) 274 = .ok (.invokevirtual 117, 3) := by decide +kernel
theorem zd_147_277 : decode (zm_cc 147) 277 = .ok (.goto 47, 3) := by decide +kernel
theorem zd_147_280 : decode (zm_cc 147) 280 = .ok (.aload_n 0, 1) := by decide +kernel
theorem zd_147_281 : decode (zm_cc 147) 281 = .ok (.iload_n 1, 1) := by decide +kernel
theorem zd_147_282 : decode (zm_cc 147) 282 = .ok (.invokevirtual 65, 3) := by decide +kernel
theorem zd_147_285 : decode (zm_cc 147) 285 = .ok (.iconst 1, 1) := by decide +kernel
theorem zd_147_286 : decode (zm_cc 147) 286 = .ok (.if_icmp .ne 31, 3) := by decide +kernel
theorem zd_147_289 : decode (zm_cc 147) 289 = .ok (.aload_n 0, 1) := by decide +kernel
theorem zd_147_290 : decode (zm_cc 147) 290 = .ok (.getfield 27, 3) := by decide +kernel
theorem zd_147_293 : decode (zm_cc 147) 293 = .ok (.getfield 80, 3) := by decide +kernel
theorem zd_147_296 : decode (zm_cc 147) 296 = .ok (.iload_n 3, 1) := by decide +kernel
theorem zd_147_297 : decode (zm_cc 147) 297 = .ok (.iaload, 1) := by decide +kernel
theorem zd_147_298 : decode (zm_cc 147) 298 = .ok (.bipush 7, 2) := by decide +kernel
theorem zd_147_300 : decode (zm_cc 147) 300 = .ok (.if_icmp .ne 17, 3) := by decide +kernel
theorem zd_147_303 : decode (zm_cc 147) 303 = .ok (.aload_n 0, 1) := by decide +kernel
theorem zd_147_304 : decode (zm_cc 147) 304 = .ok (.iload_n 1, 1) := by decide +kernel
theorem zd_147_305 : decode (zm_cc 147) 305 = .ok (.aload_n 0, 1) := by decide +kernel
theorem zd_147_306 : decode (zm_cc 147) 306 = .ok (.iload_n 1, 1) := by decide +kernel
theorem zd_147_307 : decode (zm_cc 147) 307 = .ok (.invokevirtual 114, 3) := by decide +kernel
theorem zd_147_310 : decode (zm_cc 147) 310 = .ok (.iconst 2, 1) := by decide +kernel
theorem zd_147_311 : decode (zm_cc 147) 311 = .ok (.invokevirtual 117, 3) := by decide +kernel
theorem zd_147_314 : decode (zm_cc 147) 314 = .ok (.goto 10, 3) := by decide +kernel
theorem zd_147_317 : decode (zm_cc 147) 317 = .ok (.aload_n 0, 1) := by decide +kernel
theorem zd_147_318 : decode (zm_cc 147) 318 = .ok (.iload_n 1, 1) := by decide +kernel
theorem zd_147_319 : decode (zm_cc 147) 319 = .ok (.iload 6, 2) := by decide +kernel
theorem zd_147_321 : decode (zm_cc 147) 321 = .ok (.invokevirtual 121, 3) := by decide +kernel
theorem zd_147_324 : decode (zm_cc 147) 324 = .ok (.return_, 1) := by decide +kernel
theorem zd_148_0 : decode (zm_cc 148) 0 = .ok (.aload_n 0, 1) := by decide +kernel
theorem zd_148_1 : decode (zm_cc 148) 1 = .ok (.getfield 27, 3) := by decide +kernel
theorem zd_148_4 : decode (zm_cc 148) 4 = .ok (.getfield 80, 3) := by decide +kernel
theorem zd_148_7 : decode (zm_cc 148) 7 = .ok (.iload_n 2, 1) := by decide +kernel
theorem zd_148_8 : decode (zm_cc 148) 8 = .ok (.iaload, 1) := by decide +kernel
theorem zd_148_9 : decode (zm_cc 148) 9 = .ok (.istore_n 3, 1) := by decide +kernel
theorem zd_148_10 : decode (zm_cc 148) 10 = .ok (.aload_n 0, 1) := by decide +kernel
theorem zd_148_11 : decode (zm_cc 148) 11 = .ok (.iload_n 1, 1) := by decide +kernel
theorem zd_148_12 : decode (zm_cc 148) 12 = .ok (.aload_n 0, 1) := by decide +kernel
theorem zd_148_13 : decode (zm_cc 148) 13 = .ok (.getfield 27, 3) := by decide +kernel
theorem zd_148_16 : decode (zm_cc 148) 16 = .ok (.getfield 128, 3) := by decide +kernel
theorem zd_148_19 : decode (zm_cc 148) 19 = .ok (.iload_n 2, 1) := by decide +kernel
theorem zd_148_20 : decode (zm_cc 148) 20 = .ok (.iaload, 1) := by decide +kernel
theorem zd_148_21 : decode (zm_cc 148) 21 = .ok (.invokevirtual 131, 3) := by decide +kernel
theorem zd_148_24 : decode (zm_cc 148) 24 = .ok (.istore 4, 2) := by decide +kernel
theorem zd_148_26 : decode (zm_cc 148) 26 = .ok (.aload_n 0, 1) := by decide +kernel
theorem zd_148_27 : decode (zm_cc 148) 27 = .ok (.iload_n 1, 1) := by decide +kernel
theorem zd_148_28 : decode (zm_cc 148) 28 = .ok (.aload_n 0, 1) := by decide +kernel
theorem zd_148_29 : decode (zm_cc 148) 29 = .ok (.getfield 27, 3) := by decide +kernel
theorem zd_148_32 : decode (zm_cc 148) 32 = .ok (.getfield 134, 3) := by decide +kernel
theorem zd_148_35 : decode (zm_cc 148) 35 = .ok (.iload_n 2, 1) := by decide +kernel
theorem zd_148_36 : decode (zm_cc 148) 36 = .ok (.iaload, 1) := by decide +kernel
theorem zd_148_37 : decode (zm_cc 148) 37 = .ok (.invokevirtual 131, 3) := by decide +kernel
theorem zd_148_40 : decode (zm_cc 148) 40 = .ok (.istore 5, 2) := by decide +kernel
theorem zd_148_42 : decode (zm_cc 148) 42 = .ok (.iload_n 3, 1) := by decide +kernel
theorem zd_148_43 : decode (zm_cc 148) 43 = .ok (.ifCond .ne 21, 3) := by decide +kernel
theorem zd_148_46 : decode (zm_cc 148) 46 = .ok (.aload_n 0, 1) := by decide +kernel
theorem zd_148_47 : decode (zm_cc 148) 47 = .ok (.aload_n 0, 1) := by decide +kernel
theorem zd_148_48 : decode (zm_cc 148) 48 = .ok (.getfield 27, 3) := by decide +kernel
theorem zd_148_51 : decode (zm_cc 148) 51 = .ok (.getfield 71, 3) := by decide +kernel
theorem zd_148_54 : decode (zm_cc 148) 54 = .ok (.iload_n 2, 1) := by decide +kernel
theorem zd_148_55 : decode (zm_cc 148) 55 = .ok (.iaload, 1) := by decide +kernel
theorem zd_148_56 : decode (zm_cc 148) 56 = .ok (.invokevirtual 137, 3) := by decide +kernel
theorem zd_148_59 : decode (zm_cc 148) 59 = .ok (.istore 4, 2) := by decide +kernel
theorem zd_148_61 : decode (zm_cc 148) 61 = .ok (.goto 48, 3) := by decide +kernel
theorem zd_148_64 : decode (zm_cc 148) 64 = .ok (.aload_n 0, 1) := by decide +kernel
theorem zd_148_65 : decode (zm_cc 148) 65 = .ok (.getfield 27, 3) := by decide +kernel
theorem zd_148_68 : decode (zm_cc 148) 68 = .ok (.getfield 140, 3) := by decide +kernel
theorem zd_148_71 : decode (zm_cc 148) 71 = .ok (.iload_n 2, 1) := by decide +kernel
theorem zd_148_72 : decode (zm_cc 148) 72 = .ok (.iaload, 1) := by decide +kernel
theorem zd_148_73 : decode (zm_cc 148) 73 = .ok (.bipush 43, 2) := by decide +kernel
theorem zd_148_75 : decode (zm_cc 148) 75 = .ok (.if_icmp .ne 13, 3) := by decide +kernel
theorem zd_148_78 : decode (zm_cc 148) 78 = .ok (.iload 4, 2) := by decide +kernel
theorem zd_148_80 : decode (zm_cc 148) 80 = .ok (.iload 5, 2) := by decide +kernel
theorem zd_148_82 : decode (zm_cc 148) 82 = .ok (.iadd, 1) := by decide +kernel
theorem zd_148_83 : decode (zm_cc 148) 83 = .ok (.istore 4, 2) := by decide +kernel
theorem zd_148_85 : decode (zm_cc 148) 85 = .ok (.goto 24, 3) := by decide +kernel
theorem zd_148_88 : decode (zm_cc 148) 88 = .ok (.aload_n 0, 1) := by decide +kernel
theorem zd_148_89 : decode (zm_cc 148) 89 = .ok (.getfield 27, 3) := by decide +kernel
theorem zd_148_92 : decode (zm_cc 148) 92 = .ok (.getfield 140, 3) := by decide +kernel
theorem zd_148_95 : decode (zm_cc 148) 95 = .ok (.iload_n 2, 1) := by decide +kernel
theorem zd_148_96 : decode (zm_cc 148) 96 = .ok (.iaload, 1) := by decide +kernel
theorem zd_148_97 : decode (zm_cc 148) 97 = .ok (.bipush 45, 2) := by decide +kernel
theorem zd_148_99 : decode (zm_cc 148) 99 = .ok (.if_icmp .ne 10, 3) := by decide +kernel
theorem zd_148_102 : decode (zm_cc 148) 102 = .ok (.iload 4, 2) := by decide +kernel
theorem zd_148_104 : decode (zm_cc 148) 104 = .ok (.iload 5, 2) := by decide +kernel
theorem zd_148_106 : decode (zm_cc 148) 106 = .ok (.isub, 1) := by decide +kernel
theorem zd_148_107 : decode (zm_cc 148) 107 = .ok (.istore 4, 2) := by decide +kernel
theorem zd_148_109 : decode (zm_cc 148) 109 = .ok (.iload_n 3, 1) := by decide +kernel
theorem zd_148_110 : decode (zm_cc 148) 110 = .ok (.iconst 1, 1) := by decide +kernel
theorem zd_148_111 : decode (zm_cc 148) 111 = .ok (.if_icmp .ne 7, 3) := by decide +kernel
theorem zd_148_114 : decode (zm_cc 148) 114 = .ok (.iconst 0, 1) := by decide +kernel
theorem zd_148_115 : decode (zm_cc 148) 115 = .ok (.goto 6, 3) := by decide +kernel
theorem zd_148_118 : decode (zm_cc 148) 118 = .ok (.iload_n 1, 1) := by decide +kernel
theorem zd_148_119 : decode (zm_cc 148) 119 = .ok (.iconst 1, 1) := by decide +kernel
theorem zd_148_120 : decode (zm_cc 148) 120 = .ok (.iadd, 1) := by decide +kernel
theorem zd_148_121 : decode (zm_cc 148) 121 = .ok (.istore 6, 2) := by decide +kernel
theorem zd_148_123 : decode (zm_cc 148) 123 = .ok (.iconst 3, 1) := by decide +kernel
theorem zd_148_124 : decode (zm_cc 148) 124 = .ok (.iload_n 3, 1) := by decide +kernel
theorem zd_148_125 : decode (zm_cc 148) 125 = .ok (.iconst 1, 1) := by decide +kernel
theorem zd_148_126 : decode (zm_cc 148) 126 = .ok (.if_icmp .ne 15, 3) := by decide +kernel
theorem zd_148_129 : decode (zm_cc 148) 129 = .ok (.aload_n 0, 1) := by decide +kernel
theorem zd_148_130 : decode (zm_cc 148) 130 = .ok (.getfield 27, 3) := by decide +kernel
theorem zd_148_133 : decode (zm_cc 148) 133 = .ok (.getfield 71, 3) := by decide +kernel
theorem zd_148_136 : decode (zm_cc 148) 136 = .ok (.iload_n 2, 1) := by decide +kernel
theorem zd_148_137 : decode (zm_cc 148) 137 = .ok (.iaload, 1) := by decide +kernel
theorem zd_148_138 : decode (zm_cc 148) 138 = .ok (.goto 12, 3) := by decide +kernel
theorem zd_148_141 : decode (zm_cc 148) 141 = .ok (.aload_n 0, 1) := by decide +kernel
theorem zd_148_142 : decode (zm_cc 148) 142 = .ok (.getfield 27, 3) := by decide +kernel
theorem zd_148_145 : decode (zm_cc 148) 145 = .ok (.getfield 143, 3) := by decide +kernel
theorem zd_148_148 : decode (zm_cc 148) 148 = .ok (.iload_n 2, 1) := by decide +kernel
theorem zd_148_149 : decode (zm_cc 148) 149 = .ok (.iaload, 1) := by decide +kernel
theorem zd_148_150 : decode (zm_cc 148) 150 = .ok (.imul, 1) := by decide +kernel
theorem zd_148_151 : decode (zm_cc 148) 151 = .ok (.istore 7, 2) := by decide +kernel
theorem zd_148_153 : decode (zm_cc 148) 153 = .ok (.iload 6, 2) := by decide +kernel
theorem zd_148_155 : decode (zm_cc 148) 155 = .ok (.ifCond .lt 40, 3) := by decide +kernel
theorem zd_148_158 : decode (zm_cc 148) 158 = .ok (.iload 6, 2) := by decide +kernel
theorem zd_148_160 : decode (zm_cc 148) 160 = .ok (.iconst 5, 1) := by decide +kernel
theorem zd_148_161 : decode (zm_cc 148) 161 = .ok (.if_icmp .ge 34, 3) := by decide +kernel
theorem zd_148_164 : decode (zm_cc 148) 164 = .ok (.aload_n 0, 1) := by decide +kernel
theorem zd_148_165 : decode (zm_cc 148) 165 = .ok (.getfield 24, 3) := by decide +kernel
theorem zd_148_168 : decode (zm_cc 148) 168 = .ok (.iload 6, 2) := by decide +kernel
theorem zd_148_170 : decode (zm_cc 148) 170 = .ok (.aload_n 0, 1) := by decide +kernel
theorem zd_148_171 : decode (zm_cc 148) 171 = .ok (.getfield 24, 3) := by decide +kernel
theorem zd_148_174 : decode (zm_cc 148) 174 = .ok (.iload 6, 2) := by decide +kernel
theorem zd_148_176 : decode (zm_cc 148) 176 = .ok (.iaload, 1) := by decide +kernel
theorem zd_148_177 : decode (zm_cc 148) 177 = .ok (.bipush 7, 2) := by decide +kernel
theorem zd_148_179 : decode (zm_cc 148) 179 = .ok (.iload 7, 2) := by decide +kernel
theorem zd_148_181 : decode (zm_cc 148) 181 = .ok (.ishl, 1) := by decide +kernel
theorem zd_148_182 : decode (zm_cc 148) 182 = .ok (.iconst (-1), 1) := by decide +kernel
theorem zd_148_183 : decode (zm_cc 148) 183 = .ok (.ixor, 1) := by decide +kernel
theorem zd_148_184 : decode (zm_cc 148) 184 = .ok (.iand, 1) := by decide +kernel
theorem zd_148_185 : decode (zm_cc 148) 185 = .ok (.iload 4, 2) := by decide +kernel
theorem zd_148_187 : decode (zm_cc 148) 187 = .ok (.bipush 7, 2) := by decide +kernel
theorem zd_148_189 : decode (zm_cc 148) 189 = .ok (.iand, 1) := by decide +kernel
theorem zd_148_190 : decode (zm_cc 148) 190 = .ok (.iload 7, 2) := by decide +kernel
theorem zd_148_192 : decode (zm_cc 148) 192 = .ok (.ishl, 1) := by decide +kernel
theorem zd_148_193 : decode (zm_cc 148) 193 = .ok (.ior, 1) := by decide +kernel
theorem zd_148_194 : decode (zm_cc 148) 194 = .ok (.iastore, 1) := by decide +kernel
theorem zd_148_195 : decode (zm_cc 148) 195 = .ok (.return_, 1) := by decide +kernel
theorem zd_149_0 : decode (zm_cc 149) 0 = .ok (.iload_n 2, 1) := by decide +kernel
theorem zd_149_1 : decode (zm_cc 149) 1 = .ok (.bipush 8, 2) := by decide +kernel
theorem zd_149_3 : decode (zm_cc 149) 3 = .ok (.if_icmp .ge 7, 3) := by decide +kernel
theorem zd_149_6 : decode (zm_cc 149) 6 = .ok (.iload_n 2, 1) := by decide +kernel
theorem zd_149_7 : decode (zm_cc 149) 7 = .ok (.goto 12, 3) := by decide +kernel
theorem zd_149_10 : decode (zm_cc 149) 10 = .ok (.aload_n 0, 1) := by decide +kernel
theorem zd_149_11 : decode (zm_cc 149) 11 = .ok (.iload_n 1, 1) := by decide +kernel
theorem zd_149_12 : decode (zm_cc 149) 12 = .ok (.iload_n 2, 1) := by decide +kernel
theorem zd_149_13 : decode (zm_cc 149) 13 = .ok (.bipush 8, 2) := by decide +kernel
theorem zd_149_15 : decode (zm_cc 149) 15 = .ok (.isub, 1) := by decide +kernel
theorem zd_149_16 : decode (zm_cc 149) 16 = .ok (.invokevirtual 125, 3) := by decide +kernel
theorem zd_149_19 : decode (zm_cc 149) 19 = .ok (.ireturn, 1) := by decide +kernel
theorem zd_150_0 : decode (zm_cc 150) 0 = .ok (.iload_n 1, 1) := by decide +kernel
theorem zd_150_1 : decode (zm_cc 150) 1 = .ok (.ifCond .lt 26, 3) := by decide +kernel
theorem zd_150_4 : decode (zm_cc 150) 4 = .ok (.iload_n 1, 1) := by decide +kernel
theorem zd_150_5 : decode (zm_cc 150) 5 = .ok (.iconst 4, 1) := by decide +kernel
theorem zd_150_6 : decode (zm_cc 150) 6 = .ok (.if_icmp .ge 21, 3) := by decide +kernel
theorem zd_150_9 : decode (zm_cc 150) 9 = .ok (.aload_n 0, 1) := by decide +kernel
theorem zd_150_10 : decode (zm_cc 150) 10 = .ok (.getfield 21, 3) := by decide +kernel
theorem zd_150_13 : decode (zm_cc 150) 13 = .ok (.iload_n 1, 1) := by decide +kernel
theorem zd_150_14 : decode (zm_cc 150) 14 = .ok (.iconst 1, 1) := by decide +kernel
theorem zd_150_15 : decode (zm_cc 150) 15 = .ok (.iadd, 1) := by decide +kernel
theorem zd_150_16 : decode (zm_cc 150) 16 = .ok (.iaload, 1) := by decide +kernel
theorem zd_150_17 : decode (zm_cc 150) 17 = .ok (.iconst 3, 1) := by decide +kernel
theorem zd_150_18 : decode (zm_cc 150) 18 = .ok (.iload_n 2, 1) := by decide +kernel
theorem zd_150_19 : decode (zm_cc 150) 19 = .ok (.imul, 1) := by decide +kernel
theorem zd_150_20 : decode (zm_cc 150) 20 = .ok (.iushr, 1) := by decide +kernel
theorem zd_150_21 : decode (zm_cc 150) 21 = .ok (.bipush 7, 2) := by decide +kernel
theorem zd_150_23 : decode (zm_cc 150) 23 = .ok (.iand, 1) := by decide +kernel
theorem zd_150_24 : decode (zm_cc 150) 24 = .ok (.goto 4, 3) := by decide +kernel
theorem zd_150_27 : decode (zm_cc 150) 27 = .ok (.iconst 0, 1) := by decide +kernel
theorem zd_150_28 : decode (zm_cc 150) 28 = .ok (.ireturn, 1) := by decide +kernel
theorem zd_151_0 : decode (zm_cc 151) 0 = .ok (.aload_n 0, 1) := by decide +kernel
theorem zd_151_1 : decode (zm_cc 151) 1 = .ok (.getfield 21, 3) := by decide +kernel
theorem zd_151_4 : decode (zm_cc 151) 4 = .ok (.iconst 0, 1) := by decide +kernel
theorem zd_151_5 : decode (zm_cc 151) 5 = .ok (.iaload, 1) := by decide +kernel
theorem zd_151_6 : decode (zm_cc 151) 6 = .ok (.iconst 3, 1) := by decide +kernel
theorem zd_151_7 : decode (zm_cc 151) 7 = .ok (.iload_n 1, 1) := by decide +kernel
theorem zd_151_8 : decode (zm_cc 151) 8 = .ok (.imul, 1) := by decide +kernel
theorem zd_151_9 : decode (zm_cc 151) 9 = .ok (.iushr, 1) := by decide +kernel
theorem zd_151_10 : decode (zm_cc 151) 10 = .ok (.bipush 7, 2) := by decide +kernel
theorem zd_151_12 : decode (zm_cc 151) 12 = .ok (.iand, 1) := by decide +kernel
theorem zd_151_13 : decode (zm_cc 151) 13 = .ok (.ireturn, 1) := by decide +kernel
theorem zd_152_0 : decode (zm_cc 152) 0 = .ok (.aload_n 0, 1) := by decide +kernel
theorem zd_152_1 : decode (zm_cc 152) 1 = .ok (.iload_n 1, 1) := by decide +kernel
theorem zd_152_2 : decode (zm_cc 152) 2 = .ok (.aload_n 0, 1) := by decide +kernel
theorem zd_152_3 : decode (zm_cc 152) 3 = .ok (.getfield 27, 3) := by decide +kernel
theorem zd_152_6 : decode (zm_cc 152) 6 = .ok (.getfield 128, 3) := by decide +kernel
theorem zd_152_9 : decode (zm_cc 152) 9 = .ok (.iload_n 2, 1) := by decide +kernel
theorem zd_152_10 : decode (zm_cc 152) 10 = .ok (.iaload, 1) := by decide +kernel
theorem zd_152_11 : decode (zm_cc 152) 11 = .ok (.invokevirtual 131, 3) := by decide +kernel
theorem zd_152_14 : decode (zm_cc 152) 14 = .ok (.istore_n 3, 1) := by decide +kernel
theorem zd_152_15 : decode (zm_cc 152) 15 = .ok (.aload_n 0, 1) := by decide +kernel
theorem zd_152_16 : decode (zm_cc 152) 16 = .ok (.iload_n 1, 1) := by decide +kernel
theorem zd_152_17 : decode (zm_cc 152) 17 = .ok (.aload_n 0, 1) := by decide +kernel
theorem zd_152_18 : decode (zm_cc 152) 18 = .ok (.getfield 27, 3) := by decide +kernel
theorem zd_152_21 : decode (zm_cc 152) 21 = .ok (.getfield 134, 3) := by decide +kernel
theorem zd_152_24 : decode (zm_cc 152) 24 = .ok (.iload_n 2, 1) := by decide +kernel
theorem zd_152_25 : decode (zm_cc 152) 25 = .ok (.iaload, 1) := by decide +kernel
theorem zd_152_26 : decode (zm_cc 152) 26 = .ok (.invokevirtual 131, 3) := by decide +kernel
theorem zd_152_29 : decode (zm_cc 152) 29 = .ok (.istore 4, 2) := by decide +kernel
theorem zd_152_31 : decode (zm_cc 152) 31 = .ok (.aload_n 0, 1) := by decide +kernel
theorem zd_152_32 : decode (zm_cc 152) 32 = .ok (.getfield 27, 3) := by decide +kernel
theorem zd_152_35 : decode (zm_cc 152) 35 = .ok (.getfield 140, 3) := by decide +kernel
theorem zd_152_38 : decode (zm_cc 152) 38 = .ok (.iload_n 2, 1) := by decide +kernel
theorem zd_152_39 : decode (zm_cc 152) 39 = .ok (.iaload, 1) := by decide +kernel
theorem zd_152_40 : decode (zm_cc 152) 40 = .ok (.lookupswitch 72 #[(60, 60), (256, 36), (257, 48)], 36) := by decide +kernel
theorem zd_152_76 : decode (zm_cc 152) 76 = .ok (.iload_n 3, 1) := by decide +kernel
theorem zd_152_77 : decode (zm_cc 152) 77 = .ok (.iload 4, 2) := by decide +kernel
theorem zd_152_79 : decode (zm_cc 152) 79 = .ok (.if_icmp .ne 7, 3) := by decide +kernel
theorem zd_152_82 : decode (zm_cc 152) 82 = .ok (.iconst 1, 1) := by decide +kernel
theorem zd_152_83 : decode (zm_cc 152) 83 = .ok (.goto 4, 3) := by decide +kernel
theorem zd_152_86 : decode (zm_cc 152) 86 = .ok (.iconst 0, 1) := by decide +kernel
theorem zd_152_87 : decode (zm_cc 152) 87 = .ok (.ireturn, 1) := by decide +kernel
theorem zd_152_88 : decode (zm_cc 152) 88 = .ok (.iload_n 3, 1) := by decide +kernel
theorem zd_152_89 : decode (zm_cc 152) 89 = .ok (.iload 4, 2) := by decide +kernel
theorem zd_152_91 : decode (zm_cc 152) 91 = .ok (.if_icmp .eq 7, 3) := by decide +kernel
theorem zd_152_94 : decode (zm_cc 152) 94 = .ok (.iconst 1, 1) := by decide +kernel
theorem zd_152_95 : decode (zm_cc 152) 95 = .ok (.goto 4, 3) := by decide +kernel
theorem zd_152_98 : decode (zm_cc 152) 98 = .ok (.iconst 0, 1) := by decide +kernel
theorem zd_152_99 : decode (zm_cc 152) 99 = .ok (.ireturn, 1) := by decide +kernel
theorem zd_152_100 : decode (zm_cc 152) 100 = .ok (.iload_n 3, 1) := by decide +kernel
theorem zd_152_101 : decode (zm_cc 152) 101 = .ok (.iload 4, 2) := by decide +kernel
theorem zd_152_103 : decode (zm_cc 152) 103 = .ok (.if_icmp .ge 7, 3) := by decide +kernel
theorem zd_152_106 : decode (zm_cc 152) 106 = .ok (.iconst 1, 1) := by decide +kernel
theorem zd_152_107 : decode (zm_cc 152) 107 = .ok (.goto 4, 3) := by decide +kernel
theorem zd_152_110 : decode (zm_cc 152) 110 = .ok (.iconst 0, 1) := by decide +kernel
theorem zd_152_111 : decode (zm_cc 152) 111 = .ok (.ireturn, 1) := by decide +kernel
theorem zd_152_112 : decode (zm_cc 152) 112 = .ok (.iload_n 3, 1) := by decide +kernel
theorem zd_152_113 : decode (zm_cc 152) 113 = .ok (.iload 4, 2) := by decide +kernel
theorem zd_152_115 : decode (zm_cc 152) 115 = .ok (.if_icmp .le 7, 3) := by decide +kernel
theorem zd_152_118 : decode (zm_cc 152) 118 = .ok (.iconst 1, 1) := by decide +kernel
theorem zd_152_119 : decode (zm_cc 152) 119 = .ok (.goto 4, 3) := by decide +kernel
theorem zd_152_122 : decode (zm_cc 152) 122 = .ok (.iconst 0, 1) := by decide +kernel
theorem zd_152_123 : decode (zm_cc 152) 123 = .ok (.ireturn, 1) := by decide +kernel
theorem zd_153_0 : decode (zm_cc 153) 0 = .ok (.aload_n 0, 1) := by decide +kernel
theorem zd_153_1 : decode (zm_cc 153) 1 = .ok (.getfield 27, 3) := by decide +kernel
theorem zd_153_4 : decode (zm_cc 153) 4 = .ok (.getfield 71, 3) := by decide +kernel
theorem zd_153_7 : decode (zm_cc 153) 7 = .ok (.iload_n 2, 1) := by decide +kernel
theorem zd_153_8 : decode (zm_cc 153) 8 = .ok (.iaload, 1) := by decide +kernel
theorem zd_153_9 : decode (zm_cc 153) 9 = .ok (.istore_n 3, 1) := by decide +kernel
theorem zd_153_10 : decode (zm_cc 153) 10 = .ok (.aload_n 0, 1) := by decide +kernel
theorem zd_153_11 : decode (zm_cc 153) 11 = .ok (.getfield 27, 3) := by decide +kernel
theorem zd_153_14 : decode (zm_cc 153) 14 = .ok (.getfield 80, 3) := by decide +kernel
theorem zd_153_17 : decode (zm_cc 153) 17 = .ok (.iload_n 2, 1) := by decide +kernel
theorem zd_153_18 : decode (zm_cc 153) 18 = .ok (.iaload, 1) := by decide +kernel
theorem zd_153_19 : decode (zm_cc 153) 19 = .ok (.istore 4, 2) := by decide +kernel
theorem zd_153_21 : decode (zm_cc 153) 21 = .ok (.aload_n 0, 1) := by decide +kernel
theorem zd_153_22 : decode (zm_cc 153) 22 = .ok (.iload_n 3, 1) := by decide +kernel
theorem zd_153_23 : decode (zm_cc 153) 23 = .ok (.invokevirtual 77, 3) := by decide +kernel
theorem zd_153_26 : decode (zm_cc 153) 26 = .ok (.iload_n 1, 1) := by decide +kernel
theorem zd_153_27 : decode (zm_cc 153) 27 = .ok (.if_icmp .eq 5, 3) := by decide +kernel
theorem zd_153_30 : decode (zm_cc 153) 30 = .ok (.iconst 0, 1) := by decide +kernel
theorem zd_153_31 : decode (zm_cc 153) 31 = .ok (.ireturn, 1) := by decide +kernel
theorem zd_153_32 : decode (zm_cc 153) 32 = .ok (.iload 4, 2) := by decide +kernel
theorem zd_153_34 : decode (zm_cc 153) 34 = .ok (.bipush 7, 2) := by decide +kernel
theorem zd_153_36 : decode (zm_cc 153) 36 = .ok (.if_icmp .eq 7, 3) := by decide +kernel
theorem zd_153_39 : decode (zm_cc 153) 39 = .ok (.iconst 1, 1) := by decide +kernel
theorem zd_153_40 : decode (zm_cc 153) 40 = .ok (.goto 4, 3) := by decide +kernel
theorem zd_153_43 : decode (zm_cc 153) 43 = .ok (.iconst 0, 1) := by decide +kernel
theorem zd_153_44 : decode (zm_cc 153) 44 = .ok (.istore 5, 2) := by decide +kernel
theorem zd_153_46 : decode (zm_cc 153) 46 = .ok (.iconst 0, 1) := by decide +kernel
theorem zd_153_47 : decode (zm_cc 153) 47 = .ok (.istore 6, 2) := by decide +kernel
theorem zd_153_49 : decode (zm_cc 153) 49 = .ok (.iload 6, 2) := by decide +kernel
theorem zd_153_51 : decode (zm_cc 153) 51 = .ok (.aload_n 0, 1) := by decide +kernel
theorem zd_153_52 : decode (zm_cc 153) 52 = .ok (.getfield 27, 3) := by decide +kernel
theorem zd_153_55 : decode (zm_cc 153) 55 = .ok (.getfield 83, 3) := by decide +kernel
theorem zd_153_58 : decode (zm_cc 153) 58 = .ok (.if_icmp .ge 69, 3) := by decide +kernel
theorem zd_153_61 : decode (zm_cc 153) 61 = .ok (.iload 5, 2) := by decide +kernel
theorem zd_153_63 : decode (zm_cc 153) 63 = .ok (.ifCond .eq 64, 3) := by decide +kernel
theorem zd_153_66 : decode (zm_cc 153) 66 = .ok (.aload_n 0, 1) := by decide +kernel
theorem zd_153_67 : decode (zm_cc 153) 67 = .ok (.iload 6, 2) := by decide +kernel
theorem zd_153_69 : decode (zm_cc 153) 69 = .ok (.invokevirtual 65, 3) := by decide +kernel
theorem zd_153_72 : decode (zm_cc 153) 72 = .ok (.iconst 2, 1) := by decide +kernel
theorem zd_153_73 : decode (zm_cc 153) 73 = .ok (.if_icmp .ne 48, 3) := by decide +kernel
theorem zd_153_76 : decode (zm_cc 153) 76 = .ok (.aload_n 0, 1) := by decide +kernel
theorem zd_153_77 : decode (zm_cc 153) 77 = .ok (.getfield 27, 3) := by decide +kernel
theorem zd_153_80 : decode (zm_cc 153) 80 = .ok (.getfield 71, 3) := by decide +kernel
theorem zd_153_83 : decode (zm_cc 153) 83 = .ok (.aload_n 0, 1) := by decide +kernel
theorem zd_153_84 : decode (zm_cc 153) 84 = .ok (.iload 6, 2) := by decide +kernel
theorem zd_153_86 : decode (zm_cc 153) 86 = .ok (.invokevirtual 63, 3) := by decide +kernel
theorem zd_153_89 : decode (zm_cc 153) 89 = .ok (.iaload, 1) := by decide +kernel
theorem zd_153_90 : decode (zm_cc 153) 90 = .ok (.iload_n 3, 1) := by decide +kernel
theorem zd_153_91 : decode (zm_cc 153) 91 = .ok (.if_icmp .ne 30, 3) := by decide +kernel
theorem zd_153_94 : decode (zm_cc 153) 94 = .ok (.aload_n 0, 1) := by decide +kernel
theorem zd_153_95 : decode (zm_cc 153) 95 = .ok (.iload 6, 2) := by decide +kernel
theorem zd_153_97 : decode (zm_cc 153) 97 = .ok (.aload_n 0, 1) := by decide +kernel
theorem zd_153_98 : decode (zm_cc 153) 98 = .ok (.iload 6, 2) := by decide +kernel
theorem zd_153_100 : decode (zm_cc 153) 100 = .ok (.invokevirtual 114, 3) := by decide +kernel
theorem zd_153_103 : decode (zm_cc 153) 103 = .ok (.iconst 3, 1) := by decide +kernel
theorem zd_153_104 : decode (zm_cc 153) 104 = .ok (.invokevirtual 117, 3) := by decide +kernel
theorem zd_153_107 : decode (zm_cc 153) 107 = .ok (.iload 4, 2) := by decide +kernel
theorem zd_153_109 : decode (zm_cc 153) 109 = .ok (.bipush 9, 2) := by decide +kernel
theorem zd_153_111 : decode (zm_cc 153) 111 = .ok (.if_icmp .ne 7, 3) := by decide +kernel
theorem zd_153_114 : decode (zm_cc 153) 114 = .ok (.iconst 1, 1) := by decide +kernel
theorem zd_153_115 : decode (zm_cc 153) 115 = .ok (.goto 4, 3) := by decide +kernel
theorem zd_153_118 : decode (zm_cc 153) 118 = .ok (.iconst 0, 1) := by decide +kernel
theorem zd_153_119 : decode (zm_cc 153) 119 = .ok (.istore 5, 2) := by decide +kernel
theorem zd_153_121 : decode (zm_cc 153) 121 = .ok (.iinc 6 1, 3) := by decide +kernel
theorem zd_153_124 : decode (zm_cc 153) 124 = .ok (.goto (-75), 3) := by decide +kernel
theorem zd_153_127 : decode (zm_cc 153) 127 = .ok (.iconst 1, 1) := by decide +kernel
theorem zd_153_128 : decode (zm_cc 153) 128 = .ok (.ireturn, 1) := by decide +kernel
theorem zd_154_0 : decode (zm_cc 154) 0 = .ok (.aload_n 0, 1) := by decide +kernel
theorem zd_154_1 : decode (zm_cc 154) 1 = .ok (.iload_n 1, 1) := by decide +kernel
theorem zd_154_2 : decode (zm_cc 154) 2 = .ok (.invokevirtual 74, 3) := by decide +kernel
theorem zd_154_5 : decode (zm_cc 154) 5 = .ok (.bipush 9, 2) := by decide +kernel
theorem zd_154_7 : decode (zm_cc 154) 7 = .ok (.iushr, 1) := by decide +kernel
theorem zd_154_8 : decode (zm_cc 154) 8 = .ok (.bipush 31, 2) := by decide +kernel
theorem zd_154_10 : decode (zm_cc 154) 10 = .ok (.iand, 1) := by decide +kernel
theorem zd_154_11 : decode (zm_cc 154) 11 = .ok (.ireturn, 1) := by decide +kernel
theorem zd_155_0 : decode (zm_cc 155) 0 = .ok (.iload_n 3, 1) := by decide +kernel
theorem zd_155_1 : decode (zm_cc 155) 1 = .ok (.iconst 4, 1) := by decide +kernel
theorem zd_155_2 : decode (zm_cc 155) 2 = .ok (.if_icmp .eq 8, 3) := by decide +kernel
theorem zd_155_5 : decode (zm_cc 155) 5 = .ok (.iload_n 3, 1) := by decide +kernel
theorem zd_155_6 : decode (zm_cc 155) 6 = .ok (.iconst 5, 1) := by decide +kernel
theorem zd_155_7 : decode (zm_cc 155) 7 = .ok (.if_icmp .ne 7, 3) := by decide +kernel
theorem zd_155_10 : decode (zm_cc 155) 10 = .ok (.iconst 1, 1) := by decide +kernel
theorem zd_155_11 : decode (zm_cc 155) 11 = .ok (.goto 4, 3) := by decide +kernel
theorem zd_155_14 : decode (zm_cc 155) 14 = .ok (.iconst 0, 1) := by decide +kernel
theorem zd_155_15 : decode (zm_cc 155) 15 = .ok (.istore 4, 2) := by decide +kernel
theorem zd_155_17 : decode (zm_cc 155) 17 = .ok (.iload 4, 2) := by decide +kernel
theorem zd_155_19 : decode (zm_cc 155) 19 = .ok (.ifCond .eq 9, 3) := by decide +kernel
theorem zd_155_22 : decode (zm_cc 155) 22 = .ok (.sipush 511, 3) := by decide +kernel
theorem zd_155_25 : decode (zm_cc 155) 25 = .ok (.goto 5, 3) := by decide +kernel
theorem zd_155_28 : decode (zm_cc 155) 28 = .ok (.ldc 124, 2) := by decide +kernel
theorem zd_155_30 : decode (zm_cc 155) 30 = .ok (.istore 5, 2) := by decide +kernel
theorem zd_155_32 : decode (zm_cc 155) 32 = .ok (.iload_n 1, 1) := by decide +kernel
theorem zd_155_33 : decode (zm_cc 155) 33 = .ok (.ifCond .lt 37, 3) := by decide +kernel
theorem zd_155_36 : decode (zm_cc 155) 36 = .ok (.iload_n 1, 1) := by decide +kernel
theorem zd_155_37 : decode (zm_cc 155) 37 = .ok (.iconst 4, 1) := by decide +kernel
theorem zd_155_38 : decode (zm_cc 155) 38 = .ok (.if_icmp .ge 32, 3) := by decide +kernel
theorem zd_155_41 : decode (zm_cc 155) 41 = .ok (.aload_n 0, 1) := by decide +kernel
theorem zd_155_42 : decode (zm_cc 155) 42 = .ok (.getfield 24, 3) := by decide +kernel
theorem zd_155_45 : decode (zm_cc 155) 45 = .ok (.iload_n 1, 1) := by decide +kernel
theorem zd_155_46 : decode (zm_cc 155) 46 = .ok (.iconst 1, 1) := by decide +kernel
theorem zd_155_47 : decode (zm_cc 155) 47 = .ok (.iadd, 1) := by decide +kernel
theorem zd_155_48 : decode (zm_cc 155) 48 = .ok (.aload_n 0, 1) := by decide +kernel
theorem zd_155_49 : decode (zm_cc 155) 49 = .ok (.getfield 24, 3) := by decide +kernel
theorem zd_155_52 : decode (zm_cc 155) 52 = .ok (.iload_n 1, 1) := by decide +kernel
theorem zd_155_53 : decode (zm_cc 155) 53 = .ok (.iconst 1, 1) := by decide +kernel
theorem zd_155_54 : decode (zm_cc 155) 54 = .ok (.iadd, 1) := by decide +kernel
theorem zd_155_55 : decode (zm_cc 155) 55 = .ok (.iaload, 1) := by decide +kernel
theorem zd_155_56 : decode (zm_cc 155) 56 = .ok (.iload 5, 2) := by decide +kernel
theorem zd_155_58 : decode (zm_cc 155) 58 = .ok (.iand, 1) := by decide +kernel
theorem zd_155_59 : decode (zm_cc 155) 59 = .ok (.iload_n 2, 1) := by decide +kernel
theorem zd_155_60 : decode (zm_cc 155) 60 = .ok (.bipush 9, 2) := by decide +kernel
theorem zd_155_62 : decode (zm_cc 155) 62 = .ok (.ishl, 1) := by decide +kernel
theorem zd_155_63 : decode (zm_cc 155) 63 = .ok (.ior, 1) := by decide +kernel
theorem zd_155_64 : decode (zm_cc 155) 64 = .ok (.iload_n 3, 1) := by decide +kernel
theorem zd_155_65 : decode (zm_cc 155) 65 = .ok (.bipush 14, 2) := by decide +kernel
theorem zd_155_67 : decode (zm_cc 155) 67 = .ok (.ishl, 1) := by decide +kernel
theorem zd_155_68 : decode (zm_cc 155) 68 = .ok (.ior, 1) := by decide +kernel
theorem zd_155_69 : decode (zm_cc 155) 69 = .ok (.iastore, 1) := by decide +kernel
theorem zd_155_70 : decode (zm_cc 155) 70 = .ok (.return_, 1) := by decide +kernel
theorem zd_156_0 : decode (zm_cc 156) 0 = .ok (.aload_n 0, 1) := by decide +kernel
theorem zd_156_1 : decode (zm_cc 156) 1 = .ok (.iload_n 1, 1) := by decide +kernel
theorem zd_156_2 : decode (zm_cc 156) 2 = .ok (.invokevirtual 65, 3) := by decide +kernel
theorem zd_156_5 : decode (zm_cc 156) 5 = .ok (.ifCond .eq 5, 3) := by decide +kernel
theorem zd_156_8 : decode (zm_cc 156) 8 = .ok (.iconst 0, 1) := by decide +kernel
theorem zd_156_9 : decode (zm_cc 156) 9 = .ok (.ireturn, 1) := by decide +kernel
theorem zd_156_10 : decode (zm_cc 156) 10 = .ok (.aload_n 0, 1) := by decide +kernel
theorem zd_156_11 : decode (zm_cc 156) 11 = .ok (.iload_n 1, 1) := by decide +kernel
theorem zd_156_12 : decode (zm_cc 156) 12 = .ok (.iconst 0, 1) := by decide +kernel
theorem zd_156_13 : decode (zm_cc 156) 13 = .ok (.invokevirtual 121, 3) := by decide +kernel
theorem zd_156_16 : decode (zm_cc 156) 16 = .ok (.iconst 1, 1) := by decide +kernel
theorem zd_156_17 : decode (zm_cc 156) 17 = .ok (.ireturn, 1) := by decide +kernel
theorem zd_157_0 : decode (zm_cc 157) 0 = .ok (.iload_n 2, 1) := by decide +kernel
theorem zd_157_1 : decode (zm_cc 157) 1 = .ok (.ifCond .lt 15, 3) := by decide +kernel
theorem zd_157_4 : decode (zm_cc 157) 4 = .ok (.iload_n 2, 1) := by decide +kernel
theorem zd_157_5 : decode (zm_cc 157) 5 = .ok (.aload_n 0, 1) := by decide +kernel
theorem zd_157_6 : decode (zm_cc 157) 6 = .ok (.getfield 27, 3) := by decide +kernel
theorem zd_157_9 : decode (zm_cc 157) 9 = .ok (.iload_n 1, 1) := by decide +kernel
theorem zd_157_10 : decode (zm_cc 157) 10 = .ok (.invokevirtual 37, 3) := by decide +kernel
theorem zd_157_13 : decode (zm_cc 157) 13 = .ok (.if_icmp .lt 7, 3) := by decide +kernel
theorem zd_157_16 : decode (zm_cc 157) 16 = .ok (.iconst 1, 1) := by decide +kernel
theorem zd_157_17 : decode (zm_cc 157) 17 = .ok (.goto 4, 3) := by decide +kernel
theorem zd_157_20 : decode (zm_cc 157) 20 = .ok (.iconst 0, 1) := by decide +kernel
theorem zd_157_21 : decode (zm_cc 157) 21 = .ok (.istore_n 3, 1) := by decide +kernel
theorem zd_157_22 : decode (zm_cc 157) 22 = .ok (.aload_n 0, 1) := by decide +kernel
theorem zd_157_23 : decode (zm_cc 157) 23 = .ok (.iload_n 1, 1) := by decide +kernel
theorem zd_157_24 : decode (zm_cc 157) 24 = .ok (.iload_n 3, 1) := by decide +kernel
theorem zd_157_25 : decode (zm_cc 157) 25 = .ok (.ifCond .eq 14, 3) := by decide +kernel
theorem zd_157_28 : decode (zm_cc 157) 28 = .ok (.aload_n 0, 1) := by decide +kernel
theorem zd_157_29 : decode (zm_cc 157) 29 = .ok (.getfield 27, 3) := by decide +kernel
theorem zd_157_32 : decode (zm_cc 157) 32 = .ok (.iload_n 1, 1) := by decide +kernel
theorem zd_157_33 : decode (zm_cc 157) 33 = .ok (.invokevirtual 37, 3) := by decide +kernel
theorem zd_157_36 : decode (zm_cc 157) 36 = .ok (.goto 4, 3) := by decide +kernel
theorem zd_157_39 : decode (zm_cc 157) 39 = .ok (.iload_n 2, 1) := by decide +kernel
theorem zd_157_40 : decode (zm_cc 157) 40 = .ok (.iload_n 3, 1) := by decide +kernel
theorem zd_157_41 : decode (zm_cc 157) 41 = .ok (.ifCond .eq 7, 3) := by decide +kernel
theorem zd_157_44 : decode (zm_cc 157) 44 = .ok (.iconst 4, 1) := by decide +kernel
theorem zd_157_45 : decode (zm_cc 157) 45 = .ok (.goto 4, 3) := by decide +kernel
theorem zd_157_48 : decode (zm_cc 157) 48 = .ok (.iconst 1, 1) := by decide +kernel
theorem zd_157_49 : decode (zm_cc 157) 49 = .ok (.invokevirtual 117, 3) := by decide +kernel
theorem zd_157_52 : decode (zm_cc 157) 52 = .ok (.return_, 1) := by decide +kernel
theorem zd_158_0 : decode (zm_cc 158) 0 = .ok (.aload_n 0, 1) := by decide +kernel
theorem zd_158_1 : decode (zm_cc 158) 1 = .ok (.getfield 14, 3) := by decide +kernel
theorem zd_158_4 : decode (zm_cc 158) 4 = .ok (.invokevirtual 53, 3) := by decide +kernel
theorem zd_158_7 : decode (zm_cc 158) 7 = .ok (.aload_n 0, 1) := by decide +kernel
theorem zd_158_8 : decode (zm_cc 158) 8 = .ok (.getfield 20, 3) := by decide +kernel
theorem zd_158_11 : decode (zm_cc 158) 11 = .ok (.invokevirtual 53, 3) := by decide +kernel
theorem zd_158_14 : decode (zm_cc 158) 14 = .ok (.aload_n 0, 1) := by decide +kernel
theorem zd_158_15 : decode (zm_cc 158) 15 = .ok (.getfield 23, 3) := by decide +kernel
theorem zd_158_18 : decode (zm_cc 158) 18 = .ok (.invokevirtual 53, 3) := by decide +kernel
theorem zd_158_21 : decode (zm_cc 158) 21 = .ok (.aload_n 0, 1) := by decide +kernel
theorem zd_158_22 : decode (zm_cc 158) 22 = .ok (.getfield 32, 3) := by decide +kernel
theorem zd_158_25 : decode (zm_cc 158) 25 = .ok (.iconst (-1), 1) := by decide +kernel
theorem zd_158_26 : decode (zm_cc 158) 26 = .ok (.invokestatic 56, 3) := by decide +kernel
theorem zd_158_29 : decode (zm_cc 158) 29 = .ok (.iconst 0, 1) := by decide +kernel
theorem zd_158_30 : decode (zm_cc 158) 30 = .ok (.istore_n 2, 1) := by decide +kernel
theorem zd_158_31 : decode (zm_cc 158) 31 = .ok (.iload_n 2, 1) := by decide +kernel
theorem zd_158_32 : decode (zm_cc 158) 32 = .ok (.aload_n 1, 1) := by decide +kernel
theorem zd_158_33 : decode (zm_cc 158) 33 = .ok (.getfield 62, 3) := by decide +kernel
theorem zd_158_36 : decode (zm_cc 158) 36 = .ok (.if_icmp .ge 72, 3) := by decide +kernel
theorem zd_158_39 : decode (zm_cc 158) 39 = .ok (.aload_n 1, 1) := by decide +kernel
theorem zd_158_40 : decode (zm_cc 158) 40 = .ok (.iload_n 2, 1) := by decide +kernel
theorem zd_158_41 : decode (zm_cc 158) 41 = .ok (.invokevirtual 68, 3) := by decide +kernel
theorem zd_158_44 : decode (zm_cc 158) 44 = .ok (.aload_n 0, 1) := by decide +kernel
theorem zd_158_45 : decode (zm_cc 158) 45 = .ok (.getfield 40, 3) := by decide +kernel
theorem zd_158_48 : decode (zm_cc 158) 48 = .ok (.invokevirtual 71, 3) := by decide +kernel
theorem zd_158_51 : decode (zm_cc 158) 51 = .ok (.ifCond .eq 11, 3) := by decide +kernel
theorem zd_158_54 : decode (zm_cc 158) 54 = .ok (.aload_n 0, 1) := by decide +kernel
theorem zd_158_55 : decode (zm_cc 158) 55 = .ok (.getfield 23, 3) := by decide +kernel
theorem zd_158_58 : decode (zm_cc 158) 58 = .ok (.iload_n 2, 1) := by decide +kernel
theorem zd_158_59 : decode (zm_cc 158) 59 = .ok (.invokevirtual 77, 3) := by decide +kernel
theorem zd_158_62 : decode (zm_cc 158) 62 = .ok (.aload_n 1, 1) := by decide +kernel
theorem zd_158_63 : decode (zm_cc 158) 63 = .ok (.iload_n 2, 1) := by decide +kernel
theorem zd_158_64 : decode (zm_cc 158) 64 = .ok (.invokevirtual 80, 3) := by decide +kernel
theorem zd_158_67 : decode (zm_cc 158) 67 = .ok (.ifCond .eq 30, 3) := by decide +kernel
theorem zd_158_70 : decode (zm_cc 158) 70 = .ok (.aload_n 0, 1) := by decide +kernel
theorem zd_158_71 : decode (zm_cc 158) 71 = .ok (.getfield 40, 3) := by decide +kernel
theorem zd_158_74 : decode (zm_cc 158) 74 = .ok (.invokevirtual 84, 3) := by decide +kernel
theorem zd_158_77 : decode (zm_cc 158) 77 = .ok (.ifCond .eq 10, 3) := by decide +kernel
theorem zd_158_80 : decode (zm_cc 158) 80 = .ok (.aload_n 0, 1) := by decide +kernel
theorem zd_158_81 : decode (zm_cc 158) 81 = .ok (.getfield 14, 3) := by decide +kernel
theorem zd_158_84 : decode (zm_cc 158) 84 = .ok (.goto 7, 3) := by decide +kernel
theorem zd_158_87 : decode (zm_cc 158) 87 = .ok (.aload_n 0, 1) := by decide +kernel
theorem zd_158_88 : decode (zm_cc 158) 88 = .ok (.getfield 20, 3) := by decide +kernel
theorem zd_158_91 : decode (zm_cc 158) 91 = .ok (.astore_n 3, 1) := by decide +kernel
theorem zd_158_92 : decode (zm_cc 158) 92 = .ok (.aload_n 3, 1) := by decide +kernel
theorem zd_158_93 : decode (zm_cc 158) 93 = .ok (.iload_n 2, 1) := by decide +kernel
theorem zd_158_94 : decode (zm_cc 158) 94 = .ok (.invokevirtual 77, 3) := by decide +kernel
theorem zd_158_97 : decode (zm_cc 158) 97 = .ok (.aload_n 0, 1) := by decide +kernel
theorem zd_158_98 : decode (zm_cc 158) 98 = .ok (.iload_n 2, 1) := by decide +kernel
theorem zd_158_99 : decode (zm_cc 158) 99 = .ok (.invokevirtual 88, 3) := by decide +kernel
theorem zd_158_102 : decode (zm_cc 158) 102 = .ok (.iinc 2 1, 3) := by decide +kernel
theorem zd_158_105 : decode (zm_cc 158) 105 = .ok (.goto (-74), 3) := by decide +kernel
theorem zd_158_108 : decode (zm_cc 158) 108 = .ok (.aload_n 0, 1) := by decide +kernel
theorem zd_158_109 : decode (zm_cc 158) 109 = .ok (.invokevirtual 91, 3) := by decide +kernel
theorem zd_158_112 : decode (zm_cc 158) 112 = .ok (.aload_n 0, 1) := by decide +kernel
theorem zd_158_113 : decode (zm_cc 158) 113 = .ok (.getfield 49, 3) := by decide +kernel
theorem zd_158_116 : decode (zm_cc 158) 116 = .ok (.aload_n 1, 1) := by decide +kernel
theorem zd_158_117 : decode (zm_cc 158) 117 = .ok (.invokevirtual 94, 3) := by decide +kernel
theorem zd_158_120 : decode (zm_cc 158) 120 = .ok (.return_, 1) := by decide +kernel
theorem zd_159_0 : decode (zm_cc 159) 0 = .ok (.aload_n 0, 1) := by decide +kernel
theorem zd_159_1 : decode (zm_cc 159) 1 = .ok (.iconst 0, 1) := by decide +kernel
theorem zd_159_2 : decode (zm_cc 159) 2 = .ok (.putfield 21, 3) := by decide +kernel
theorem zd_159_5 : decode (zm_cc 159) 5 = .ok (.return_, 1) := by decide +kernel
theorem zd_160_0 : decode (zm_cc 160) 0 = .ok (.iconst 0, 1) := by decide +kernel
theorem zd_160_1 : decode (zm_cc 160) 1 = .ok (.istore_n 1, 1) := by decide +kernel
theorem zd_160_2 : decode (zm_cc 160) 2 = .ok (.iconst 0, 1) := by decide +kernel
theorem zd_160_3 : decode (zm_cc 160) 3 = .ok (.istore_n 2, 1) := by decide +kernel
theorem zd_160_4 : decode (zm_cc 160) 4 = .ok (.iload_n 2, 1) := by decide +kernel
theorem zd_160_5 : decode (zm_cc 160) 5 = .ok (.aload_n 0, 1) := by decide +kernel
theorem zd_160_6 : decode (zm_cc 160) 6 = .ok (.getfield 27, 3) := by decide +kernel
theorem zd_160_9 : decode (zm_cc 160) 9 = .ok (.getfield 83, 3) := by decide +kernel
theorem zd_160_12 : decode (zm_cc 160) 12 = .ok (.if_icmp .ge 24, 3) := by decide +kernel
theorem zd_160_15 : decode (zm_cc 160) 15 = .ok (.aload_n 0, 1) := by decide +kernel
theorem zd_160_16 : decode (zm_cc 160) 16 = .ok (.iload_n 2, 1) := by decide +kernel
theorem zd_160_17 : decode (zm_cc 160) 17 = .ok (.invokevirtual 65, 3) := by decide +kernel
theorem zd_160_20 : decode (zm_cc 160) 20 = .ok (.iconst 5, 1) := by decide +kernel
theorem zd_160_21 : decode (zm_cc 160) 21 = .ok (.if_icmp .ne 9, 3) := by decide +kernel
theorem zd_160_24 : decode (zm_cc 160) 24 = .ok (.iload_n 1, 1) := by decide +kernel
theorem zd_160_25 : decode (zm_cc 160) 25 = .ok (.iconst 1, 1) := by decide +kernel
theorem zd_160_26 : decode (zm_cc 160) 26 = .ok (.iload_n 2, 1) := by decide +kernel
theorem zd_160_27 : decode (zm_cc 160) 27 = .ok (.ishl, 1) := by decide +kernel
theorem zd_160_28 : decode (zm_cc 160) 28 = .ok (.ior, 1) := by decide +kernel
theorem zd_160_29 : decode (zm_cc 160) 29 = .ok (.istore_n 1, 1) := by decide +kernel
theorem zd_160_30 : decode (zm_cc 160) 30 = .ok (.iinc 2 1, 3) := by decide +kernel
theorem zd_160_33 : decode (zm_cc 160) 33 = .ok (.goto (-29), 3) := by decide +kernel
theorem zd_160_36 : decode (zm_cc 160) 36 = .ok (.iload_n 1, 1) := by decide +kernel
theorem zd_160_37 : decode (zm_cc 160) 37 = .ok (.ireturn, 1) := by decide +kernel
theorem zd_161_0 : decode (zm_cc 161) 0 = .ok (.aload_n 0, 1) := by decide +kernel
theorem zd_161_1 : decode (zm_cc 161) 1 = .ok (.getfield 21, 3) := by decide +kernel
theorem zd_161_4 : decode (zm_cc 161) 4 = .ok (.ifCond .lt 35, 3) := by decide +kernel
theorem zd_161_7 : decode (zm_cc 161) 7 = .ok (.aload_n 0, 1) := by decide +kernel
theorem zd_161_8 : decode (zm_cc 161) 8 = .ok (.getfield 21, 3) := by decide +kernel
theorem zd_161_11 : decode (zm_cc 161) 11 = .ok (.aload_n 0, 1) := by decide +kernel
theorem zd_161_12 : decode (zm_cc 161) 12 = .ok (.getfield 15, 3) := by decide +kernel
theorem zd_161_15 : decode (zm_cc 161) 15 = .ok (.arraylength, 1) := by decide +kernel
theorem zd_161_16 : decode (zm_cc 161) 16 = .ok (.if_icmp .ge 23, 3) := by decide +kernel
theorem zd_161_19 : decode (zm_cc 161) 19 = .ok (.aload_n 0, 1) := by decide +kernel
theorem zd_161_20 : decode (zm_cc 161) 20 = .ok (.getfield 15, 3) := by decide +kernel
theorem zd_161_23 : decode (zm_cc 161) 23 = .ok (.aload_n 0, 1) := by decide +kernel
theorem zd_161_24 : decode (zm_cc 161) 24 = .ok (.getfield 21, 3) := by decide +kernel
theorem zd_161_27 : decode (zm_cc 161) 27 = .ok (.iload_n 1, 1) := by decide +kernel
theorem zd_161_28 : decode (zm_cc 161) 28 = .ok (.iastore, 1) := by decide +kernel
theorem zd_161_29 : decode (zm_cc 161) 29 = .ok (.aload_n 0, 1) := by decide +kernel
theorem zd_161_30 : decode (zm_cc 161) 30 = .ok (.dup, 1) := by decide +kernel
theorem zd_161_31 : decode (zm_cc 161) 31 = .ok (.getfield 21, 3) := by decide +kernel
theorem zd_161_34 : decode (zm_cc 161) 34 = .ok (.iconst 1, 1) := by decide +kernel
theorem zd_161_35 : decode (zm_cc 161) 35 = .ok (.iadd, 1) := by decide +kernel
theorem zd_161_36 : decode (zm_cc 161) 36 = .ok (.putfield 21, 3) := by decide +kernel
theorem zd_161_39 : decode (zm_cc 161) 39 = .ok (.return_, 1) := by decide +kernel
theorem zd_162_0 : decode (zm_cc 162) 0 = .ok (.aload_n 0, 1) := by decide +kernel
theorem zd_162_1 : decode (zm_cc 162) 1 = .ok (.iload_n 1, 1) := by decide +kernel
theorem zd_162_2 : decode (zm_cc 162) 2 = .ok (.invokevirtual 37, 3) := by decide +kernel
theorem zd_162_5 : decode (zm_cc 162) 5 = .ok (.ifCond .eq 16, 3) := by decide +kernel
theorem zd_162_8 : decode (zm_cc 162) 8 = .ok (.aload_n 0, 1) := by decide +kernel
theorem zd_162_9 : decode (zm_cc 162) 9 = .ok (.getfield 18, 3) := by decide +kernel
theorem zd_162_12 : decode (zm_cc 162) 12 = .ok (.iload_n 1, 1) := by decide +kernel
theorem zd_162_13 : decode (zm_cc 162) 13 = .ok (.baload, 1) := by decide +kernel
theorem zd_162_14 : decode (zm_cc 162) 14 = .ok (.ifCond .eq 7, 3) := by decide +kernel
theorem zd_162_17 : decode (zm_cc 162) 17 = .ok (.iconst 1, 1) := by decide +kernel
theorem zd_162_18 : decode (zm_cc 162) 18 = .ok (.goto 4, 3) := by decide +kernel
theorem zd_162_21 : decode (zm_cc 162) 21 = .ok (.iconst 0, 1) := by decide +kernel
theorem zd_162_22 : decode (zm_cc 162) 22 = .ok (.ireturn, 1) := by decide +kernel
theorem zd_163_0 : decode (zm_cc 163) 0 = .ok (.iconst 0, 1) := by decide +kernel
theorem zd_163_1 : decode (zm_cc 163) 1 = .ok (.istore_n 1, 1) := by decide +kernel
theorem zd_163_2 : decode (zm_cc 163) 2 = .ok (.iload_n 1, 1) := by decide +kernel
theorem zd_163_3 : decode (zm_cc 163) 3 = .ok (.aload_n 0, 1) := by decide +kernel
theorem zd_163_4 : decode (zm_cc 163) 4 = .ok (.getfield 27, 3) := by decide +kernel
theorem zd_163_7 : decode (zm_cc 163) 7 = .ok (.getfield 83, 3) := by decide +kernel
theorem zd_163_10 : decode (zm_cc 163) 10 = .ok (.if_icmp .ge 19, 3) := by decide +kernel
theorem zd_163_13 : decode (zm_cc 163) 13 = .ok (.aload_n 0, 1) := by decide +kernel
theorem zd_163_14 : decode (zm_cc 163) 14 = .ok (.iload_n 1, 1) := by decide +kernel
theorem zd_163_15 : decode (zm_cc 163) 15 = .ok (.invokevirtual 146, 3) := by decide +kernel
theorem zd_163_18 : decode (zm_cc 163) 18 = .ok (.ifCond .ne 5, 3) := by decide +kernel
theorem zd_163_21 : decode (zm_cc 163) 21 = .ok (.iconst 0, 1) := by decide +kernel
theorem zd_163_22 : decode (zm_cc 163) 22 = .ok (.ireturn, 1) := by decide +kernel
theorem zd_163_23 : decode (zm_cc 163) 23 = .ok (.iinc 1 1, 3) := by decide +kernel
theorem zd_163_26 : decode (zm_cc 163) 26 = .ok (.goto (-24), 3) := by decide +kernel
theorem zd_163_29 : decode (zm_cc 163) 29 = .ok (.iconst 1, 1) := by decide +kernel
theorem zd_163_30 : decode (zm_cc 163) 30 = .ok (.ireturn, 1) := by decide +kernel
theorem zd_164_0 : decode (zm_cc 164) 0 = .ok (.aload_n 0, 1) := by decide +kernel
theorem zd_164_1 : decode (zm_cc 164) 1 = .ok (.iload_n 1, 1) := by decide +kernel
theorem zd_164_2 : decode (zm_cc 164) 2 = .ok (.invokevirtual 65, 3) := by decide +kernel
theorem zd_164_5 : decode (zm_cc 164) 5 = .ok (.istore_n 2, 1) := by decide +kernel
theorem zd_164_6 : decode (zm_cc 164) 6 = .ok (.iload_n 2, 1) := by decide +kernel
theorem zd_164_7 : decode (zm_cc 164) 7 = .ok (.iconst 4, 1) := by decide +kernel
theorem zd_164_8 : decode (zm_cc 164) 8 = .ok (.if_icmp .eq 12, 3) := by decide +kernel
theorem zd_164_11 : decode (zm_cc 164) 11 = .ok (.iload_n 2, 1) := by decide +kernel
theorem zd_164_12 : decode (zm_cc 164) 12 = .ok (.iconst 5, 1) := by decide +kernel
theorem zd_164_13 : decode (zm_cc 164) 13 = .ok (.if_icmp .eq 7, 3) := by decide +kernel
theorem zd_164_16 : decode (zm_cc 164) 16 = .ok (.iload_n 2, 1) := by decide +kernel
theorem zd_164_17 : decode (zm_cc 164) 17 = .ok (.ifCond .ne 7, 3) := by decide +kernel
theorem zd_164_20 : decode (zm_cc 164) 20 = .ok (.iconst 1, 1) := by decide +kernel
theorem zd_164_21 : decode (zm_cc 164) 21 = .ok (.goto 4, 3) := by decide +kernel
theorem zd_164_24 : decode (zm_cc 164) 24 = .ok (.iconst 0, 1) := by decide +kernel
theorem zd_164_25 : decode (zm_cc 164) 25 = .ok (.ireturn, 1) := by decide +kernel
theorem zd_165_0 : decode (zm_cc 165) 0 = .ok (.iconst 0, 1) := by decide +kernel
theorem zd_165_1 : decode (zm_cc 165) 1 = .ok (.istore_n 2, 1) := by decide +kernel
theorem zd_165_2 : decode (zm_cc 165) 2 = .ok (.iload_n 2, 1) := by decide +kernel
theorem zd_165_3 : decode (zm_cc 165) 3 = .ok (.aload_n 0, 1) := by decide +kernel
theorem zd_165_4 : decode (zm_cc 165) 4 = .ok (.getfield 36, 3) := by decide +kernel
theorem zd_165_7 : decode (zm_cc 165) 7 = .ok (.getfield 98, 3) := by decide +kernel
theorem zd_165_10 : decode (zm_cc 165) 10 = .ok (.if_icmp .ge 85, 3) := by decide +kernel
theorem zd_165_13 : decode (zm_cc 165) 13 = .ok (.iload_n 2, 1) := by decide +kernel
theorem zd_165_14 : decode (zm_cc 165) 14 = .ok (.iconst 1, 1) := by decide +kernel
theorem zd_165_15 : decode (zm_cc 165) 15 = .ok (.iadd, 1) := by decide +kernel
theorem zd_165_16 : decode (zm_cc 165) 16 = .ok (.istore_n 3, 1) := by decide +kernel
theorem zd_165_17 : decode (zm_cc 165) 17 = .ok (.iload_n 3, 1) := by decide +kernel
theorem zd_165_18 : decode (zm_cc 165) 18 = .ok (.aload_n 0, 1) := by decide +kernel
theorem zd_165_19 : decode (zm_cc 165) 19 = .ok (.getfield 36, 3) := by decide +kernel
theorem zd_165_22 : decode (zm_cc 165) 22 = .ok (.getfield 98, 3) := by decide +kernel
theorem zd_165_25 : decode (zm_cc 165) 25 = .ok (.if_icmp .ge 64, 3) := by decide +kernel
theorem zd_165_28 : decode (zm_cc 165) 28 = .ok (.aload_n 0, 1) := by decide +kernel
theorem zd_165_29 : decode (zm_cc 165) 29 = .ok (.getfield 40, 3) := by decide +kernel
theorem zd_165_32 : decode (zm_cc 165) 32 = .ok (.iload_n 2, 1) := by decide +kernel
theorem zd_165_33 : decode (zm_cc 165) 33 = .ok (.invokevirtual 103, 3) := by decide +kernel
theorem zd_165_36 : decode (zm_cc 165) 36 = .ok (.iconst 1, 1) := by decide +kernel
theorem zd_165_37 : decode (zm_cc 165) 37 = .ok (.if_icmp .ne 46, 3) := by decide +kernel
theorem zd_165_40 : decode (zm_cc 165) 40 = .ok (.aload_n 0, 1) := by decide +kernel
theorem zd_165_41 : decode (zm_cc 165) 41 = .ok (.getfield 40, 3) := by decide +kernel
theorem zd_165_44 : decode (zm_cc 165) 44 = .ok (.iload_n 3, 1) := by decide +kernel
theorem zd_165_45 : decode (zm_cc 165) 45 = .ok (.invokevirtual 103, 3) := by decide +kernel
theorem zd_165_48 : decode (zm_cc 165) 48 = .ok (.iconst 1, 1) := by decide +kernel
theorem zd_165_49 : decode (zm_cc 165) 49 = .ok (.if_icmp .ne 34, 3) := by decide +kernel
theorem zd_165_52 : decode (zm_cc 165) 52 = .ok (.aload_n 0, 1) := by decide +kernel
theorem zd_165_53 : decode (zm_cc 165) 53 = .ok (.iload_n 2, 1) := by decide +kernel
theorem zd_165_54 : decode (zm_cc 165) 54 = .ok (.bipush 24, 2) := by decide +kernel
theorem zd_165_56 : decode (zm_cc 165) 56 = .ok (.imul, 1) := by decide +kernel
theorem zd_165_57 : decode (zm_cc 165) 57 = .ok (.aload_n 0, 1) := by decide +kernel
theorem zd_165_58 : decode (zm_cc 165) 58 = .ok (.getfield 40, 3) := by decide +kernel
theorem zd_165_61 : decode (zm_cc 165) 61 = .ok (.iload_n 2, 1) := by decide +kernel
theorem zd_165_62 : decode (zm_cc 165) 62 = .ok (.invokevirtual 107, 3) := by decide +kernel
theorem zd_165_65 : decode (zm_cc 165) 65 = .ok (.iadd, 1) := by decide +kernel
theorem zd_165_66 : decode (zm_cc 165) 66 = .ok (.iload_n 3, 1) := by decide +kernel
theorem zd_165_67 : decode (zm_cc 165) 67 = .ok (.bipush 24, 2) := by decide +kernel
theorem zd_165_69 : decode (zm_cc 165) 69 = .ok (.imul, 1) := by decide +kernel
theorem zd_165_70 : decode (zm_cc 165) 70 = .ok (.aload_n 0, 1) := by decide +kernel
theorem zd_165_71 : decode (zm_cc 165) 71 = .ok (.getfield 40, 3) := by decide +kernel
theorem zd_165_74 : decode (zm_cc 165) 74 = .ok (.iload_n 3, 1) := by decide +kernel
theorem zd_165_75 : decode (zm_cc 165) 75 = .ok (.invokevirtual 107, 3) := by decide +kernel
theorem zd_165_78 : decode (zm_cc 165) 78 = .ok (.iadd, 1) := by decide +kernel
theorem zd_165_79 : decode (zm_cc 165) 79 = .ok (.iload_n 1, 1) := by decide +kernel
theorem zd_165_80 : decode (zm_cc 165) 80 = .ok (.invokevirtual 110, 3) := by decide +kernel
theorem zd_165_83 : decode (zm_cc 165) 83 = .ok (.iinc 3 1, 3) := by decide +kernel
theorem zd_165_86 : decode (zm_cc 165) 86 = .ok (.goto (-69), 3) := by decide +kernel
theorem zd_165_89 : decode (zm_cc 165) 89 = .ok (.iinc 2 1, 3) := by decide +kernel
theorem zd_165_92 : decode (zm_cc 165) 92 = .ok (.goto (-90), 3) := by decide +kernel
theorem zd_165_95 : decode (zm_cc 165) 95 = .ok (.return_, 1) := by decide +kernel
theorem zd_166_0 : decode (zm_cc 166) 0 = .ok (.aload_n 0, 1) := by decide +kernel
theorem zd_166_1 : decode (zm_cc 166) 1 = .ok (.getfield 36, 3) := by decide +kernel
theorem zd_166_4 : decode (zm_cc 166) 4 = .ok (.iload_n 1, 1) := by decide +kernel
theorem zd_166_5 : decode (zm_cc 166) 5 = .ok (.iload_n 2, 1) := by decide +kernel
theorem zd_166_6 : decode (zm_cc 166) 6 = .ok (.invokevirtual 114, 3) := by decide +kernel
theorem zd_166_9 : decode (zm_cc 166) 9 = .ok (.ifCond .eq 45, 3) := by decide +kernel
theorem zd_166_12 : decode (zm_cc 166) 12 = .ok (.iload_n 1, 1) := by decide +kernel
theorem zd_166_13 : decode (zm_cc 166) 13 = .ok (.bipush 96, 2) := by decide +kernel
theorem zd_166_15 : decode (zm_cc 166) 15 = .ok (.imul, 1) := by decide +kernel
theorem zd_166_16 : decode (zm_cc 166) 16 = .ok (.iload_n 2, 1) := by decide +kernel
theorem zd_166_17 : decode (zm_cc 166) 17 = .ok (.iadd, 1) := by decide +kernel
theorem zd_166_18 : decode (zm_cc 166) 18 = .ok (.istore 4, 2) := by decide +kernel
theorem zd_166_20 : decode (zm_cc 166) 20 = .ok (.iload 4, 2) := by decide +kernel
theorem zd_166_22 : decode (zm_cc 166) 22 = .ok (.ifCond .lt 32, 3) := by decide +kernel
theorem zd_166_25 : decode (zm_cc 166) 25 = .ok (.iload 4, 2) := by decide +kernel
theorem zd_166_27 : decode (zm_cc 166) 27 = .ok (.aload_n 0, 1) := by decide +kernel
theorem zd_166_28 : decode (zm_cc 166) 28 = .ok (.getfield 32, 3) := by decide +kernel
theorem zd_166_31 : decode (zm_cc 166) 31 = .ok (.arraylength, 1) := by decide +kernel
theorem zd_166_32 : decode (zm_cc 166) 32 = .ok (.if_icmp .ge 22, 3) := by decide +kernel
theorem zd_166_35 : decode (zm_cc 166) 35 = .ok (.aload_n 0, 1) := by decide +kernel
theorem zd_166_36 : decode (zm_cc 166) 36 = .ok (.getfield 32, 3) := by decide +kernel
theorem zd_166_39 : decode (zm_cc 166) 39 = .ok (.iload 4, 2) := by decide +kernel
theorem zd_166_41 : decode (zm_cc 166) 41 = .ok (.iaload, 1) := by decide +kernel
theorem zd_166_42 : decode (zm_cc 166) 42 = .ok (.iconst (-1), 1) := by decide +kernel
theorem zd_166_43 : decode (zm_cc 166) 43 = .ok (.if_icmp .ne 11, 3) := by decide +kernel
theorem zd_166_46 : decode (zm_cc 166) 46 = .ok (.aload_n 0, 1) := by decide +kernel
theorem zd_166_47 : decode (zm_cc 166) 47 = .ok (.getfield 32, 3) := by decide +kernel
theorem zd_166_50 : decode (zm_cc 166) 50 = .ok (.iload 4, 2) := by decide +kernel
theorem zd_166_52 : decode (zm_cc 166) 52 = .ok (.iload_n 3, 1) := by decide +kernel
theorem zd_166_53 : decode (zm_cc 166) 53 = .ok (.iastore, 1) := by decide +kernel
theorem zd_166_54 : decode (zm_cc 166) 54 = .ok (.return_, 1) := by decide +kernel
theorem zd_167_0 : decode (zm_cc 167) 0 = .ok (.iload_n 1, 1) := by decide +kernel
theorem zd_167_1 : decode (zm_cc 167) 1 = .ok (.ifCond .lt 19, 3) := by decide +kernel
theorem zd_167_4 : decode (zm_cc 167) 4 = .ok (.iload_n 1, 1) := by decide +kernel
theorem zd_167_5 : decode (zm_cc 167) 5 = .ok (.bipush 96, 2) := by decide +kernel
theorem zd_167_7 : decode (zm_cc 167) 7 = .ok (.if_icmp .ge 13, 3) := by decide +kernel
theorem zd_167_10 : decode (zm_cc 167) 10 = .ok (.iload_n 2, 1) := by decide +kernel
theorem zd_167_11 : decode (zm_cc 167) 11 = .ok (.ifCond .lt 9, 3) := by decide +kernel
theorem zd_167_14 : decode (zm_cc 167) 14 = .ok (.iload_n 2, 1) := by decide +kernel
theorem zd_167_15 : decode (zm_cc 167) 15 = .ok (.bipush 96, 2) := by decide +kernel
theorem zd_167_17 : decode (zm_cc 167) 17 = .ok (.if_icmp .lt 5, 3) := by decide +kernel
theorem zd_167_20 : decode (zm_cc 167) 20 = .ok (.iconst 0, 1) := by decide +kernel
theorem zd_167_21 : decode (zm_cc 167) 21 = .ok (.ireturn, 1) := by decide +kernel
theorem zd_167_22 : decode (zm_cc 167) 22 = .ok (.aload_n 0, 1) := by decide +kernel
theorem zd_167_23 : decode (zm_cc 167) 23 = .ok (.getfield 21, 3) := by decide +kernel
theorem zd_167_26 : decode (zm_cc 167) 26 = .ok (.iload_n 1, 1) := by decide +kernel
theorem zd_167_27 : decode (zm_cc 167) 27 = .ok (.iaload, 1) := by decide +kernel
theorem zd_167_28 : decode (zm_cc 167) 28 = .ok (.istore_n 3, 1) := by decide +kernel
theorem zd_167_29 : decode (zm_cc 167) 29 = .ok (.aload_n 0, 1) := by decide +kernel
theorem zd_167_30 : decode (zm_cc 167) 30 = .ok (.getfield 18, 3) := by decide +kernel
theorem zd_167_33 : decode (zm_cc 167) 33 = .ok (.iload_n 1, 1) := by decide +kernel
theorem zd_167_34 : decode (zm_cc 167) 34 = .ok (.iaload, 1) := by decide +kernel
theorem zd_167_35 : decode (zm_cc 167) 35 = .ok (.iconst 1, 1) := by decide +kernel
theorem zd_167_36 : decode (zm_cc 167) 36 = .ok (.if_icmp .gt 17, 3) := by decide +kernel
theorem zd_167_39 : decode (zm_cc 167) 39 = .ok (.aload_n 0, 1) := by decide +kernel
theorem zd_167_40 : decode (zm_cc 167) 40 = .ok (.getfield 18, 3) := by decide +kernel
theorem zd_167_43 : decode (zm_cc 167) 43 = .ok (.iload_n 2, 1) := by decide +kernel
theorem zd_167_44 : decode (zm_cc 167) 44 = .ok (.iaload, 1) := by decide +kernel
theorem zd_167_45 : decode (zm_cc 167) 45 = .ok (.iconst 1, 1) := by decide +kernel
theorem zd_167_46 : decode (zm_cc 167) 46 = .ok (.if_icmp .gt 7, 3) := by decide +kernel
theorem zd_167_49 : decode (zm_cc 167) 49 = .ok (.iconst 1, 1) := by decide +kernel
theorem zd_167_50 : decode (zm_cc 167) 50 = .ok (.goto 4, 3) := by decide +kernel
theorem zd_167_53 : decode (zm_cc 167) 53 = .ok (.iconst 0, 1) := by decide +kernel
theorem zd_167_54 : decode (zm_cc 167) 54 = .ok (.istore 4, 2) := by decide +kernel
theorem zd_167_56 : decode (zm_cc 167) 56 = .ok (.aload_n 0, 1) := by decide +kernel
theorem zd_167_57 : decode (zm_cc 167) 57 = .ok (.getfield 18, 3) := by decide +kernel
theorem zd_167_60 : decode (zm_cc 167) 60 = .ok (.iload_n 1, 1) := by decide +kernel
theorem zd_167_61 : decode (zm_cc 167) 61 = .ok (.iaload, 1) := by decide +kernel
theorem zd_167_62 : decode (zm_cc 167) 62 = .ok (.iconst 1, 1) := by decide +kernel
theorem zd_167_63 : decode (zm_cc 167) 63 = .ok (.if_icmp .eq 13, 3) := by decide +kernel
theorem zd_167_66 : decode (zm_cc 167) 66 = .ok (.aload_n 0, 1) := by decide +kernel
theorem zd_167_67 : decode (zm_cc 167) 67 = .ok (.getfield 18, 3) := by decide +kernel
theorem zd_167_70 : decode (zm_cc 167) 70 = .ok (.iload_n 2, 1) := by decide +kernel
theorem zd_167_71 : decode (zm_cc 167) 71 = .ok (.iaload, 1) := by decide +kernel
theorem zd_167_72 : decode (zm_cc 167) 72 = .ok (.iconst 1, 1) := by decide +kernel
theorem zd_167_73 : decode (zm_cc 167) 73 = .ok (.if_icmp .ne 7, 3) := by decide +kernel
theorem zd_167_76 : decode (zm_cc 167) 76 = .ok (.iconst 1, 1) := by decide +kernel
theorem zd_167_77 : decode (zm_cc 167) 77 = .ok (.goto 4, 3) := by decide +kernel
theorem zd_167_80 : decode (zm_cc 167) 80 = .ok (.iconst 0, 1) := by decide +kernel
theorem zd_167_81 : decode (zm_cc 167) 81 = .ok (.istore 5, 2) := by decide +kernel
theorem zd_167_83 : decode (zm_cc 167) 83 = .ok (.iload 4, 2) := by decide +kernel
theorem zd_167_85 : decode (zm_cc 167) 85 = .ok (.ifCond .eq 33, 3) := by decide +kernel
theorem zd_167_88 : decode (zm_cc 167) 88 = .ok (.iload 5, 2) := by decide +kernel
theorem zd_167_90 : decode (zm_cc 167) 90 = .ok (.ifCond .eq 28, 3) := by decide +kernel
theorem zd_167_93 : decode (zm_cc 167) 93 = .ok (.iload_n 3, 1) := by decide +kernel
theorem zd_167_94 : decode (zm_cc 167) 94 = .ok (.aload_n 0, 1) := by decide +kernel
theorem zd_167_95 : decode (zm_cc 167) 95 = .ok (.getfield 21, 3) := by decide +kernel
theorem zd_167_98 : decode (zm_cc 167) 98 = .ok (.iload_n 2, 1) := by decide +kernel
theorem zd_167_99 : decode (zm_cc 167) 99 = .ok (.iaload, 1) := by decide +kernel
theorem zd_167_100 : decode (zm_cc 167) 100 = .ok (.if_icmp .ne 18, 3) := by decide +kernel
theorem zd_167_103 : decode (zm_cc 167) 103 = .ok (.aload_n 0, 1) := by decide +kernel
theorem zd_167_104 : decode (zm_cc 167) 104 = .ok (.getfield 67, 3) := by decide +kernel
theorem zd_167_107 : decode (zm_cc 167) 107 = .ok (.iload_n 3, 1) := by decide +kernel
theorem zd_167_108 : decode (zm_cc 167) 108 = .ok (.iushr, 1) := by decide +kernel
theorem zd_167_109 : decode (zm_cc 167) 109 = .ok (.iconst 1, 1) := by decide +kernel
theorem zd_167_110 : decode (zm_cc 167) 110 = .ok (.iand, 1) := by decide +kernel
theorem zd_167_111 : decode (zm_cc 167) 111 = .ok (.ifCond .ne 7, 3) := by decide +kernel
theorem zd_167_114 : decode (zm_cc 167) 114 = .ok (.iconst 1, 1) := by decide +kernel
theorem zd_167_115 : decode (zm_cc 167) 115 = .ok (.goto 4, 3) := by decide +kernel
theorem zd_167_118 : decode (zm_cc 167) 118 = .ok (.iconst 0, 1) := by decide +kernel
theorem zd_167_119 : decode (zm_cc 167) 119 = .ok (.ireturn, 1) := by decide +kernel
theorem zd_168_0 : decode (zm_cc 168) 0 = .ok (.aload_n 0, 1) := by decide +kernel
theorem zd_168_1 : decode (zm_cc 168) 1 = .ok (.getfield 26, 3) := by decide +kernel
theorem zd_168_4 : decode (zm_cc 168) 4 = .ok (.invokevirtual 53, 3) := by decide +kernel
theorem zd_168_7 : decode (zm_cc 168) 7 = .ok (.aload_n 0, 1) := by decide +kernel
theorem zd_168_8 : decode (zm_cc 168) 8 = .ok (.getfield 29, 3) := by decide +kernel
theorem zd_168_11 : decode (zm_cc 168) 11 = .ok (.invokevirtual 53, 3) := by decide +kernel
theorem zd_168_14 : decode (zm_cc 168) 14 = .ok (.iconst 0, 1) := by decide +kernel
theorem zd_168_15 : decode (zm_cc 168) 15 = .ok (.istore_n 1, 1) := by decide +kernel
theorem zd_168_16 : decode (zm_cc 168) 16 = .ok (.iload_n 1, 1) := by decide +kernel
theorem zd_168_17 : decode (zm_cc 168) 17 = .ok (.aload_n 0, 1) := by decide +kernel
theorem zd_168_18 : decode (zm_cc 168) 18 = .ok (.getfield 32, 3) := by decide +kernel
theorem zd_168_21 : decode (zm_cc 168) 21 = .ok (.arraylength, 1) := by decide +kernel
theorem zd_168_22 : decode (zm_cc 168) 22 = .ok (.if_icmp .ge 40, 3) := by decide +kernel
theorem zd_168_25 : decode (zm_cc 168) 25 = .ok (.aload_n 0, 1) := by decide +kernel
theorem zd_168_26 : decode (zm_cc 168) 26 = .ok (.getfield 32, 3) := by decide +kernel
theorem zd_168_29 : decode (zm_cc 168) 29 = .ok (.iload_n 1, 1) := by decide +kernel
theorem zd_168_30 : decode (zm_cc 168) 30 = .ok (.iaload, 1) := by decide +kernel
theorem zd_168_31 : decode (zm_cc 168) 31 = .ok (.iconst (-1), 1) := by decide +kernel
theorem zd_168_32 : decode (zm_cc 168) 32 = .ok (.if_icmp .eq 24, 3) := by decide +kernel
theorem zd_168_35 : decode (zm_cc 168) 35 = .ok (.aload_n 0, 1) := by decide +kernel
theorem zd_168_36 : decode (zm_cc 168) 36 = .ok (.getfield 26, 3) := by decide +kernel
theorem zd_168_39 : decode (zm_cc 168) 39 = .ok (.iload_n 1, 1) := by decide +kernel
theorem zd_168_40 : decode (zm_cc 168) 40 = .ok (.invokevirtual 77, 3) := by decide +kernel
theorem zd_168_43 : decode (zm_cc 168) 43 = .ok (.aload_n 0, 1) := by decide +kernel
theorem zd_168_44 : decode (zm_cc 168) 44 = .ok (.getfield 29, 3) := by decide +kernel
theorem zd_168_47 : decode (zm_cc 168) 47 = .ok (.aload_n 0, 1) := by decide +kernel
theorem zd_168_48 : decode (zm_cc 168) 48 = .ok (.getfield 32, 3) := by decide +kernel
theorem zd_168_51 : decode (zm_cc 168) 51 = .ok (.iload_n 1, 1) := by decide +kernel
theorem zd_168_52 : decode (zm_cc 168) 52 = .ok (.iaload, 1) := by decide +kernel
theorem zd_168_53 : decode (zm_cc 168) 53 = .ok (.invokevirtual 77, 3) := by decide +kernel
theorem zd_168_56 : decode (zm_cc 168) 56 = .ok (.iinc 1 1, 3) := by decide +kernel
theorem zd_168_59 : decode (zm_cc 168) 59 = .ok (.goto (-43), 3) := by decide +kernel
theorem zd_168_62 : decode (zm_cc 168) 62 = .ok (.return_, 1) := by decide +kernel
theorem zd_169_0 : decode (zm_cc 169) 0 = .ok (.aload_n 0, 1) := by decide +kernel
theorem zd_169_1 : decode (zm_cc 169) 1 = .ok (.getfield 14, 3) := by decide +kernel
theorem zd_169_4 : decode (zm_cc 169) 4 = .ok (.invokevirtual 31, 3) := by decide +kernel
theorem zd_169_7 : decode (zm_cc 169) 7 = .ok (.aload_n 0, 1) := by decide +kernel
theorem zd_169_8 : decode (zm_cc 169) 8 = .ok (.getfield 20, 3) := by decide +kernel
theorem zd_169_11 : decode (zm_cc 169) 11 = .ok (.invokevirtual 31, 3) := by decide +kernel
theorem zd_169_14 : decode (zm_cc 169) 14 = .ok (.aload_n 0, 1) := by decide +kernel
theorem zd_169_15 : decode (zm_cc 169) 15 = .ok (.getfield 23, 3) := by decide +kernel
theorem zd_169_18 : decode (zm_cc 169) 18 = .ok (.iconst 0, 1) := by decide +kernel
theorem zd_169_19 : decode (zm_cc 169) 19 = .ok (.invokestatic 34, 3) := by decide +kernel
theorem zd_169_22 : decode (zm_cc 169) 22 = .ok (.iconst 0, 1) := by decide +kernel
theorem zd_169_23 : decode (zm_cc 169) 23 = .ok (.istore_n 2, 1) := by decide +kernel
theorem zd_169_24 : decode (zm_cc 169) 24 = .ok (.iload_n 2, 1) := by decide +kernel
theorem zd_169_25 : decode (zm_cc 169) 25 = .ok (.aload_n 1, 1) := by decide +kernel
theorem zd_169_26 : decode (zm_cc 169) 26 = .ok (.getfield 40, 3) := by decide +kernel
theorem zd_169_29 : decode (zm_cc 169) 29 = .ok (.if_icmp .ge 34, 3) := by decide +kernel
theorem zd_169_32 : decode (zm_cc 169) 32 = .ok (.aload_n 1, 1) := by decide +kernel
theorem zd_169_33 : decode (zm_cc 169) 33 = .ok (.iload_n 2, 1) := by decide +kernel
theorem zd_169_34 : decode (zm_cc 169) 34 = .ok (.invokevirtual 46, 3) := by decide +kernel
theorem zd_169_37 : decode (zm_cc 169) 37 = .ok (.ifCond .eq 20, 3) := by decide +kernel
theorem zd_169_40 : decode (zm_cc 169) 40 = .ok (.aload_n 1, 1) := by decide +kernel
theorem zd_169_41 : decode (zm_cc 169) 41 = .ok (.iload_n 2, 1) := by decide +kernel
theorem zd_169_42 : decode (zm_cc 169) 42 = .ok (.invokevirtual 50, 3) := by decide +kernel
theorem zd_169_45 : decode (zm_cc 169) 45 = .ok (.aload_n 0, 1) := by decide +kernel
theorem zd_169_46 : decode (zm_cc 169) 46 = .ok (.aload_n 0, 1) := by decide +kernel
theorem zd_169_47 : decode (zm_cc 169) 47 = .ok (.getfield 27, 3) := by decide +kernel
theorem zd_169_50 : decode (zm_cc 169) 50 = .ok (.invokevirtual 53, 3) := by decide +kernel
theorem zd_169_53 : decode (zm_cc 169) 53 = .ok (.iload_n 2, 1) := by decide +kernel
theorem zd_169_54 : decode (zm_cc 169) 54 = .ok (.invokevirtual 59, 3) := by decide +kernel
theorem zd_169_57 : decode (zm_cc 169) 57 = .ok (.iinc 2 1, 3) := by decide +kernel
theorem zd_169_60 : decode (zm_cc 169) 60 = .ok (.goto (-36), 3) := by decide +kernel
theorem zd_169_63 : decode (zm_cc 169) 63 = .ok (.return_, 1) := by decide +kernel
theorem zd_170_0 : decode (zm_cc 170) 0 = .ok (.aload_n 0, 1) := by decide +kernel
theorem zd_170_1 : decode (zm_cc 170) 1 = .ok (.invokevirtual 152, 3) := by decide +kernel
theorem zd_170_4 : decode (zm_cc 170) 4 = .ok (.ifCond .eq 7, 3) := by decide +kernel
theorem zd_170_7 : decode (zm_cc 170) 7 = .ok (.iconst 0, 1) := by decide +kernel
theorem zd_170_8 : decode (zm_cc 170) 8 = .ok (.goto 4, 3) := by decide +kernel
theorem zd_170_11 : decode (zm_cc 170) 11 = .ok (.iconst 1, 1) := by decide +kernel
theorem zd_170_12 : decode (zm_cc 170) 12 = .ok (.istore_n 1, 1) := by decide +kernel
theorem zd_170_13 : decode (zm_cc 170) 13 = .ok (.aload_n 0, 1) := by decide +kernel
theorem zd_170_14 : decode (zm_cc 170) 14 = .ok (.getfield 21, 3) := by decide +kernel
theorem zd_170_17 : decode (zm_cc 170) 17 = .ok (.iconst 0, 1) := by decide +kernel
theorem zd_170_18 : decode (zm_cc 170) 18 = .ok (.iaload, 1) := by decide +kernel
theorem zd_170_19 : decode (zm_cc 170) 19 = .ok (.aload_n 0, 1) := by decide +kernel
theorem zd_170_20 : decode (zm_cc 170) 20 = .ok (.invokevirtual 156, 3) := by decide +kernel
theorem zd_170_23 : decode (zm_cc 170) 23 = .ok (.bipush 18, 2) := by decide +kernel
theorem zd_170_25 : decode (zm_cc 170) 25 = .ok (.ishl, 1) := by decide +kernel
theorem zd_170_26 : decode (zm_cc 170) 26 = .ok (.ior, 1) := by decide +kernel
theorem zd_170_27 : decode (zm_cc 170) 27 = .ok (.iload_n 1, 1) := by decide +kernel
theorem zd_170_28 : decode (zm_cc 170) 28 = .ok (.bipush 22, 2) := by decide +kernel
theorem zd_170_30 : decode (zm_cc 170) 30 = .ok (.ishl, 1) := by decide +kernel
theorem zd_170_31 : decode (zm_cc 170) 31 = .ok (.ior, 1) := by decide +kernel
theorem zd_170_32 : decode (zm_cc 170) 32 = .ok (.ireturn, 1) := by decide +kernel
theorem zd_171_0 : decode (zm_cc 171) 0 = .ok (.aload_n 0, 1) := by decide +kernel
theorem zd_171_1 : decode (zm_cc 171) 1 = .ok (.iload_n 1, 1) := by decide +kernel
theorem zd_171_2 : decode (zm_cc 171) 2 = .ok (.invokevirtual 63, 3) := by decide +kernel
theorem zd_171_5 : decode (zm_cc 171) 5 = .ok (.istore_n 3, 1) := by decide +kernel
theorem zd_171_6 : decode (zm_cc 171) 6 = .ok (.aload_n 0, 1) := by decide +kernel
theorem zd_171_7 : decode (zm_cc 171) 7 = .ok (.getfield 23, 3) := by decide +kernel
theorem zd_171_10 : decode (zm_cc 171) 10 = .ok (.iload_n 3, 1) := by decide +kernel
theorem zd_171_11 : decode (zm_cc 171) 11 = .ok (.iaload, 1) := by decide +kernel
theorem zd_171_12 : decode (zm_cc 171) 12 = .ok (.ifCond .ne 32, 3) := by decide +kernel
theorem zd_171_15 : decode (zm_cc 171) 15 = .ok (.aload_n 0, 1) := by decide +kernel
theorem zd_171_16 : decode (zm_cc 171) 16 = .ok (.getfield 14, 3) := by decide +kernel
theorem zd_171_19 : decode (zm_cc 171) 19 = .ok (.iload_n 1, 1) := by decide +kernel
theorem zd_171_20 : decode (zm_cc 171) 20 = .ok (.invokevirtual 67, 3) := by decide +kernel
theorem zd_171_23 : decode (zm_cc 171) 23 = .ok (.aload_n 0, 1) := by decide +kernel
theorem zd_171_24 : decode (zm_cc 171) 24 = .ok (.getfield 20, 3) := by decide +kernel
theorem zd_171_27 : decode (zm_cc 171) 27 = .ok (.iload_n 2, 1) := by decide +kernel
theorem zd_171_28 : decode (zm_cc 171) 28 = .ok (.invokevirtual 67, 3) := by decide +kernel
theorem zd_171_31 : decode (zm_cc 171) 31 = .ok (.aload_n 0, 1) := by decide +kernel
theorem zd_171_32 : decode (zm_cc 171) 32 = .ok (.getfield 23, 3) := by decide +kernel
theorem zd_171_35 : decode (zm_cc 171) 35 = .ok (.iload_n 3, 1) := by decide +kernel
theorem zd_171_36 : decode (zm_cc 171) 36 = .ok (.aload_n 0, 1) := by decide +kernel
theorem zd_171_37 : decode (zm_cc 171) 37 = .ok (.getfield 14, 3) := by decide +kernel
theorem zd_171_40 : decode (zm_cc 171) 40 = .ok (.getfield 70, 3) := by decide +kernel
theorem zd_171_43 : decode (zm_cc 171) 43 = .ok (.iastore, 1) := by decide +kernel
theorem zd_171_44 : decode (zm_cc 171) 44 = .ok (.return_, 1) := by decide +kernel
theorem zd_172_0 : decode (zm_cc 172) 0 = .ok (.iload_n 1, 1) := by decide +kernel
theorem zd_172_1 : decode (zm_cc 172) 1 = .ok (.ldc 71, 2) := by decide +kernel
theorem zd_172_3 : decode (zm_cc 172) 3 = .ok (.imul, 1) := by decide +kernel
theorem zd_172_4 : decode (zm_cc 172) 4 = .ok (.istore_n 2, 1) := by decide +kernel
theorem zd_172_5 : decode (zm_cc 172) 5 = .ok (.iload_n 2, 1) := by decide +kernel
theorem zd_172_6 : decode (zm_cc 172) 6 = .ok (.iload_n 2, 1) := by decide +kernel
theorem zd_172_7 : decode (zm_cc 172) 7 = .ok (.bipush 15, 2) := by decide +kernel
theorem zd_172_9 : decode (zm_cc 172) 9 = .ok (.iushr, 1) := by decide +kernel
theorem zd_172_10 : decode (zm_cc 172) 10 = .ok (.ixor, 1) := by decide +kernel
theorem zd_172_11 : decode (zm_cc 172) 11 = .ok (.sipush 8191, 3) := by decide +kernel
theorem zd_172_14 : decode (zm_cc 172) 14 = .ok (.iand, 1) := by decide +kernel
theorem zd_172_15 : decode (zm_cc 172) 15 = .ok (.istore_n 3, 1) := by decide +kernel
theorem zd_172_16 : decode (zm_cc 172) 16 = .ok (.iconst 0, 1) := by decide +kernel
theorem zd_172_17 : decode (zm_cc 172) 17 = .ok (.istore 4, 2) := by decide +kernel
theorem zd_172_19 : decode (zm_cc 172) 19 = .ok (.iload 4, 2) := by decide +kernel
theorem zd_172_21 : decode (zm_cc 172) 21 = .ok (.sipush 8192, 3) := by decide +kernel
theorem zd_172_24 : decode (zm_cc 172) 24 = .ok (.if_icmp .ge 47, 3) := by decide +kernel
theorem zd_172_27 : decode (zm_cc 172) 27 = .ok (.aload_n 0, 1) := by decide +kernel
theorem zd_172_28 : decode (zm_cc 172) 28 = .ok (.getfield 23, 3) := by decide +kernel
theorem zd_172_31 : decode (zm_cc 172) 31 = .ok (.iload_n 3, 1) := by decide +kernel
theorem zd_172_32 : decode (zm_cc 172) 32 = .ok (.iaload, 1) := by decide +kernel
theorem zd_172_33 : decode (zm_cc 172) 33 = .ok (.ifCond .eq 38, 3) := by decide +kernel
theorem zd_172_36 : decode (zm_cc 172) 36 = .ok (.aload_n 0, 1) := by decide +kernel
theorem zd_172_37 : decode (zm_cc 172) 37 = .ok (.getfield 14, 3) := by decide +kernel
theorem zd_172_40 : decode (zm_cc 172) 40 = .ok (.aload_n 0, 1) := by decide +kernel
theorem zd_172_41 : decode (zm_cc 172) 41 = .ok (.getfield 23, 3) := by decide +kernel
theorem zd_172_44 : decode (zm_cc 172) 44 = .ok (.iload_n 3, 1) := by decide +kernel
theorem zd_172_45 : decode (zm_cc 172) 45 = .ok (.iaload, 1) := by decide +kernel
theorem zd_172_46 : decode (zm_cc 172) 46 = .ok (.iconst 1, 1) := by decide +kernel
theorem zd_172_47 : decode (zm_cc 172) 47 = .ok (.isub, 1) := by decide +kernel
theorem zd_172_48 : decode (zm_cc 172) 48 = .ok (.invokevirtual 72, 3) := by decide +kernel
theorem zd_172_51 : decode (zm_cc 172) 51 = .ok (.iload_n 1, 1) := by decide +kernel
theorem zd_172_52 : decode (zm_cc 172) 52 = .ok (.if_icmp .ne 5, 3) := by decide +kernel
theorem zd_172_55 : decode (zm_cc 172) 55 = .ok (.iload_n 3, 1) := by decide +kernel
theorem zd_172_56 : decode (zm_cc 172) 56 = .ok (.ireturn, 1) := by decide +kernel
theorem zd_172_57 : decode (zm_cc 172) 57 = .ok (.iload_n 3, 1) := by decide +kernel
theorem zd_172_58 : decode (zm_cc 172) 58 = .ok (.iconst 1, 1) := by decide +kernel
theorem zd_172_59 : decode (zm_cc 172) 59 = .ok (.iadd, 1) := by decide +kernel
theorem zd_172_60 : decode (zm_cc 172) 60 = .ok (.sipush 8191, 3) := by decide +kernel
theorem zd_172_63 : decode (zm_cc 172) 63 = .ok (.iand, 1) := by decide +kernel
theorem zd_172_64 : decode (zm_cc 172) 64 = .ok (.istore_n 3, 1) := by decide +kernel
theorem zd_172_65 : decode (zm_cc 172) 65 = .ok (.iinc 4 1, 3) := by decide +kernel
theorem zd_172_68 : decode (zm_cc 172) 68 = .ok (.goto (-49), 3) := by decide +kernel
theorem zd_172_71 : decode (zm_cc 172) 71 = .ok (.iload_n 3, 1) := by decide +kernel
theorem zd_172_72 : decode (zm_cc 172) 72 = .ok (.ireturn, 1) := by decide +kernel
theorem zd_173_0 : decode (zm_cc 173) 0 = .ok (.iload_n 1, 1) := by decide +kernel
theorem zd_173_1 : decode (zm_cc 173) 1 = .ok (.ifCond .lt 20, 3) := by decide +kernel
theorem zd_173_4 : decode (zm_cc 173) 4 = .ok (.iload_n 1, 1) := by decide +kernel
theorem zd_173_5 : decode (zm_cc 173) 5 = .ok (.aload_n 0, 1) := by decide +kernel
theorem zd_173_6 : decode (zm_cc 173) 6 = .ok (.getfield 21, 3) := by decide +kernel
theorem zd_173_9 : decode (zm_cc 173) 9 = .ok (.if_icmp .ge 12, 3) := by decide +kernel
theorem zd_173_12 : decode (zm_cc 173) 12 = .ok (.iload_n 1, 1) := by decide +kernel
theorem zd_173_13 : decode (zm_cc 173) 13 = .ok (.aload_n 0, 1) := by decide +kernel
theorem zd_173_14 : decode (zm_cc 173) 14 = .ok (.getfield 15, 3) := by decide +kernel
theorem zd_173_17 : decode (zm_cc 173) 17 = .ok (.arraylength, 1) := by decide +kernel
theorem zd_173_18 : decode (zm_cc 173) 18 = .ok (.if_icmp .lt 7, 3) := by decide +kernel
theorem zd_173_21 : decode (zm_cc 173) 21 = .ok (.iconst (-1), 1) := by decide +kernel
theorem zd_173_22 : decode (zm_cc 173) 22 = .ok (.goto 9, 3) := by decide +kernel
theorem zd_173_25 : decode (zm_cc 173) 25 = .ok (.aload_n 0, 1) := by decide +kernel
theorem zd_173_26 : decode (zm_cc 173) 26 = .ok (.getfield 15, 3) := by decide +kernel
theorem zd_173_29 : decode (zm_cc 173) 29 = .ok (.iload_n 1, 1) := by decide +kernel
theorem zd_173_30 : decode (zm_cc 173) 30 = .ok (.iaload, 1) := by decide +kernel
theorem zd_173_31 : decode (zm_cc 173) 31 = .ok (.ireturn, 1) := by decide +kernel
theorem zd_174_0 : decode (zm_cc 174) 0 = .ok (.aload_n 0, 1) := by decide +kernel
theorem zd_174_1 : decode (zm_cc 174) 1 = .ok (.iconst 0, 1) := by decide +kernel
theorem zd_174_2 : decode (zm_cc 174) 2 = .ok (.putfield 1, 3) := by decide +kernel
theorem zd_174_5 : decode (zm_cc 174) 5 = .ok (.aload_n 0, 1) := by decide +kernel
theorem zd_174_6 : decode (zm_cc 174) 6 = .ok (.getfield 335, 3) := by decide +kernel
theorem zd_174_9 : decode (zm_cc 174) 9 = .ok (.ifCond .ne 6, 3) := by decide +kernel
theorem zd_174_12 : decode (zm_cc 174) 12 = .ok (.bipush (-101), 2) := by decide +kernel
theorem zd_174_14 : decode (zm_cc 174) 14 = .ok (.ireturn, 1) := by decide +kernel
theorem zd_174_15 : decode (zm_cc 174) 15 = .ok (.aload_n 0, 1) := by decide +kernel
theorem zd_174_16 : decode (zm_cc 174) 16 = .ok (.iconst 0, 1) := by decide +kernel
theorem zd_174_17 : decode (zm_cc 174) 17 = .ok (.putfield 322, 3) := by decide +kernel
theorem zd_174_20 : decode (zm_cc 174) 20 = .ok (.aload_n 0, 1) := by decide +kernel
theorem zd_174_21 : decode (zm_cc 174) 21 = .ok (.iconst (-1), 1) := by decide +kernel
theorem zd_174_22 : decode (zm_cc 174) 22 = .ok (.putfield 119, 3) := by decide +kernel
theorem zd_174_25 : decode (zm_cc 174) 25 = .ok (.aload_n 0, 1) := by decide +kernel
theorem zd_174_26 : decode (zm_cc 174) 26 = .ok (.iconst 0, 1) := by decide +kernel
theorem zd_174_27 : decode (zm_cc 174) 27 = .ok (.invokevirtual 389, 3) := by decide +kernel
theorem zd_174_30 : decode (zm_cc 174) 30 = .ok (.aload_n 0, 1) := by decide +kernel
theorem zd_174_31 : decode (zm_cc 174) 31 = .ok (.iconst 0, 1) := by decide +kernel
theorem zd_174_32 : decode (zm_cc 174) 32 = .ok (.putfield 392, 3) := by decide +kernel
theorem zd_174_35 : decode (zm_cc 174) 35 = .ok (.iconst 0, 1) := by decide +kernel
theorem zd_174_36 : decode (zm_cc 174) 36 = .ok (.istore_n 1, 1) := by decide +kernel
theorem zd_174_37 : decode (zm_cc 174) 37 = .ok (.iload_n 1, 1) := by decide +kernel
theorem zd_174_38 : decode (zm_cc 174) 38 = .ok (.sipush 9216, 3) := by decide +kernel
theorem zd_174_41 : decode (zm_cc 174) 41 = .ok (.if_icmp .ge 16, 3) := by decide +kernel
theorem zd_174_44 : decode (zm_cc 174) 44 = .ok (.aload_n 0, 1) := by decide +kernel
theorem zd_174_45 : decode (zm_cc 174) 45 = .ok (.getfield 110, 3) := by decide +kernel
theorem zd_174_48 : decode (zm_cc 174) 48 = .ok (.iload_n 1, 1) := by decide +kernel
theorem zd_174_49 : decode (zm_cc 174) 49 = .ok (.iconst 0, 1) := by decide +kernel
theorem zd_174_50 : decode (zm_cc 174) 50 = .ok (.iastore, 1) := by decide +kernel
theorem zd_174_51 : decode (zm_cc 174) 51 = .ok (.iinc 1 1, 3) := by decide +kernel
theorem zd_174_54 : decode (zm_cc 174) 54 = .ok (.goto (-17), 3) := by decide +kernel
theorem zd_174_57 : decode (zm_cc 174) 57 = .ok (.aload_n 0, 1) := by decide +kernel
theorem zd_174_58 : decode (zm_cc 174) 58 = .ok (.invokevirtual 395, 3) := by decide +kernel
theorem zd_174_61 : decode (zm_cc 174) 61 = .ok (.aload_n 0, 1) := by decide +kernel
theorem zd_174_62 : decode (zm_cc 174) 62 = .ok (.invokevirtual 398, 3) := by decide +kernel
theorem zd_174_65 : decode (zm_cc 174) 65 = .ok (.istore_n 1, 1) := by decide +kernel
theorem zd_174_66 : decode (zm_cc 174) 66 = .ok (.iconst 0, 1) := by decide +kernel
theorem zd_174_67 : decode (zm_cc 174) 67 = .ok (.istore_n 2, 1) := by decide +kernel
theorem zd_174_68 : decode (zm_cc 174) 68 = .ok (.iload_n 2, 1) := by decide +kernel
theorem zd_174_69 : decode (zm_cc 174) 69 = .ok (.aload_n 0, 1) := by decide +kernel
theorem zd_174_70 : decode (zm_cc 174) 70 = .ok (.getfield 377, 3) := by decide +kernel
theorem zd_174_73 : decode (zm_cc 174) 73 = .ok (.if_icmp .ge 208, 3) := by decide +kernel
theorem zd_174_76 : decode (zm_cc 174) 76 = .ok (.aload_n 0, 1) := by decide +kernel
theorem zd_174_77 : decode (zm_cc 174) 77 = .ok (.iload_n 2, 1) := by decide +kernel
theorem zd_174_78 : decode (zm_cc 174) 78 = .ok (.invokevirtual 401, 3) := by decide +kernel
theorem zd_174_81 : decode (zm_cc 174) 81 = .ok (.aload_n 0, 1) := by decide +kernel
theorem zd_174_82 : decode (zm_cc 174) 82 = .ok (.iload_n 2, 1) := by decide +kernel
theorem zd_174_83 : decode (zm_cc 174) 83 = .ok (.invokevirtual 404, 3) := by decide +kernel
theorem zd_174_86 : decode (zm_cc 174) 86 = .ok (.iconst 1, 1) := by decide +kernel
theorem zd_174_87 : decode (zm_cc 174) 87 = .ok (.istore_n 3, 1) := by decide +kernel
theorem zd_174_88 : decode (zm_cc 174) 88 = .ok (.iconst 0, 1) := by decide +kernel
theorem zd_174_89 : decode (zm_cc 174) 89 = .ok (.istore 4, 2) := by decide +kernel
theorem zd_174_91 : decode (zm_cc 174) 91 = .ok (.iload 4, 2) := by decide +kernel
theorem zd_174_93 : decode (zm_cc 174) 93 = .ok (.aload_n 0, 1) := by decide +kernel
theorem zd_174_94 : decode (zm_cc 174) 94 = .ok (.getfield 225, 3) := by decide +kernel
theorem zd_174_97 : decode (zm_cc 174) 97 = .ok (.if_icmp .ge 78, 3) := by decide +kernel
theorem zd_174_100 : decode (zm_cc 174) 100 = .ok (.aload_n 0, 1) := by decide +kernel
theorem zd_174_101 : decode (zm_cc 174) 101 = .ok (.iload_n 2, 1) := by decide +kernel
theorem zd_174_102 : decode (zm_cc 174) 102 = .ok (.invokevirtual 401, 3) := by decide +kernel
theorem zd_174_105 : decode (zm_cc 174) 105 = .ok (.aload_n 0, 1) := by decide +kernel
theorem zd_174_106 : decode (zm_cc 174) 106 = .ok (.iload 4, 2) := by decide +kernel
theorem zd_174_108 : decode (zm_cc 174) 108 = .ok (.invokevirtual 407, 3) := by decide +kernel
theorem zd_174_111 : decode (zm_cc 174) 111 = .ok (.ifCond .eq 58, 3) := by decide +kernel
theorem zd_174_114 : decode (zm_cc 174) 114 = .ok (.iconst 0, 1) := by decide +kernel
theorem zd_174_115 : decode (zm_cc 174) 115 = .ok (.istore_n 3, 1) := by decide +kernel
theorem zd_174_116 : decode (zm_cc 174) 116 = .ok (.aload_n 0, 1) := by decide +kernel
theorem zd_174_117 : decode (zm_cc 174) 117 = .ok (.iload 4, 2) := by decide +kernel
theorem zd_174_119 : decode (zm_cc 174) 119 = .ok (.invokevirtual 410, 3) := by decide +kernel
theorem zd_174_122 : decode (zm_cc 174) 122 = .ok (.aload_n 0, 1) := by decide +kernel
theorem zd_174_123 : decode (zm_cc 174) 123 = .ok (.getfield 377, 3) := by decide +kernel
theorem zd_174_126 : decode (zm_cc 174) 126 = .ok (.istore 5, 2) := by decide +kernel
theorem zd_174_128 : decode (zm_cc 174) 128 = .ok (.aload_n 0, 1) := by decide +kernel
theorem zd_174_129 : decode (zm_cc 174) 129 = .ok (.invokevirtual 398, 3) := by decide +kernel
theorem zd_174_132 : decode (zm_cc 174) 132 = .ok (.istore 6, 2) := by decide +kernel
theorem zd_174_134 : decode (zm_cc 174) 134 = .ok (.iload 6, 2) := by decide +kernel
theorem zd_174_136 : decode (zm_cc 174) 136 = .ok (.iconst (-1), 1) := by decide +kernel
theorem zd_174_137 : decode (zm_cc 174) 137 = .ok (.if_icmp .ne 6, 3) := by decide +kernel
theorem zd_174_140 : decode (zm_cc 174) 140 = .ok (.bipush (-103), 2) := by decide +kernel
theorem zd_174_142 : decode (zm_cc 174) 142 = .ok (.ireturn, 1) := by decide +kernel
theorem zd_174_143 : decode (zm_cc 174) 143 = .ok (.aload_n 0, 1) := by decide +kernel
theorem zd_174_144 : decode (zm_cc 174) 144 = .ok (.getfield 377, 3) := by decide +kernel
theorem zd_174_147 : decode (zm_cc 174) 147 = .ok (.iload 5, 2) := by decide +kernel
theorem zd_174_149 : decode (zm_cc 174) 149 = .ok (.if_icmp .le 20, 3) := by decide +kernel
theorem zd_174_152 : decode (zm_cc 174) 152 = .ok (.aload_n 0, 1) := by decide +kernel
theorem zd_174_153 : decode (zm_cc 174) 153 = .ok (.getfield 101, 3) := by decide +kernel
theorem zd_174_156 : decode (zm_cc 174) 156 = .ok (.iload 6, 2) := by decide +kernel
theorem zd_174_158 : decode (zm_cc 174) 158 = .ok (.iload_n 2, 1) := by decide +kernel
theorem zd_174_159 : decode (zm_cc 174) 159 = .ok (.iastore, 1) := by decide +kernel
theorem zd_174_160 : decode (zm_cc 174) 160 = .ok (.aload_n 0, 1) := by decide +kernel
theorem zd_174_161 : decode (zm_cc 174) 161 = .ok (.getfield 104, 3) := by decide +kernel
theorem zd_174_164 : decode (zm_cc 174) 164 = .ok (.iload 6, 2) := by decide +kernel
theorem zd_174_166 : decode (zm_cc 174) 166 = .ok (.iload 4, 2) := by decide +kernel
theorem zd_174_168 : decode (zm_cc 174) 168 = .ok (.iastore, 1) := by decide +kernel
theorem zd_174_169 : decode (zm_cc 174) 169 = .ok (.iinc 4 1, 3) := by decide +kernel
theorem zd_174_172 : decode (zm_cc 174) 172 = .ok (.goto (-81), 3) := by decide +kernel
theorem zd_174_175 : decode (zm_cc 174) 175 = .ok (.aload_n 0, 1) := by decide +kernel
theorem zd_174_176 : decode (zm_cc 174) 176 = .ok (.iload_n 2, 1) := by decide +kernel
theorem zd_174_177 : decode (zm_cc 174) 177 = .ok (.invokevirtual 401, 3) := by decide +kernel
theorem zd_174_180 : decode (zm_cc 174) 180 = .ok (.aload_n 0, 1) := by decide +kernel
theorem zd_174_181 : decode (zm_cc 174) 181 = .ok (.getfield 107, 3) := by decide +kernel
theorem zd_174_184 : decode (zm_cc 174) 184 = .ok (.iload_n 2, 1) := by decide +kernel
theorem zd_174_185 : decode (zm_cc 174) 185 = .ok (.iload_n 3, 1) := by decide +kernel
theorem zd_174_186 : decode (zm_cc 174) 186 = .ok (.ifCond .eq 10, 3) := by decide +kernel
theorem zd_174_189 : decode (zm_cc 174) 189 = .ok (.aload_n 0, 1) := by decide +kernel
theorem zd_174_190 : decode (zm_cc 174) 190 = .ok (.invokevirtual 413, 3) := by decide +kernel
theorem zd_174_193 : decode (zm_cc 174) 193 = .ok (.goto 4, 3) := by decide +kernel
theorem zd_174_196 : decode (zm_cc 174) 196 = .ok (.iconst 0, 1) := by decide +kernel
theorem zd_174_197 : decode (zm_cc 174) 197 = .ok (.iastore, 1) := by decide +kernel
theorem zd_174_198 : decode (zm_cc 174) 198 = .ok (.iload_n 3, 1) := by decide +kernel
theorem zd_174_199 : decode (zm_cc 174) 199 = .ok (.ifCond .eq 76, 3) := by decide +kernel
theorem zd_174_202 : decode (zm_cc 174) 202 = .ok (.iconst 1, 1) := by decide +kernel
theorem zd_174_203 : decode (zm_cc 174) 203 = .ok (.istore 4, 2) := by decide +kernel
theorem zd_174_205 : decode (zm_cc 174) 205 = .ok (.iconst 0, 1) := by decide +kernel
theorem zd_174_206 : decode (zm_cc 174) 206 = .ok (.istore 5, 2) := by decide +kernel
theorem zd_174_208 : decode (zm_cc 174) 208 = .ok (.iload 5, 2) := by decide +kernel
theorem zd_174_210 : decode (zm_cc 174) 210 = .ok (.aload_n 0, 1) := by decide +kernel
theorem zd_174_211 : decode (zm_cc 174) 211 = .ok (.getfield 392, 3) := by decide +kernel
theorem zd_174_214 : decode (zm_cc 174) 214 = .ok (.if_icmp .ge 36, 3) := by decide +kernel
theorem zd_174_217 : decode (zm_cc 174) 217 = .ok (.iload 4, 2) := by decide +kernel
theorem zd_174_219 : decode (zm_cc 174) 219 = .ok (.ifCond .eq 31, 3) := by decide +kernel
theorem zd_174_222 : decode (zm_cc 174) 222 = .ok (.aload_n 0, 1) := by decide +kernel
theorem zd_174_223 : decode (zm_cc 174) 223 = .ok (.aload_n 0, 1) := by decide +kernel
theorem zd_174_224 : decode (zm_cc 174) 224 = .ok (.getfield 113, 3) := by decide +kernel
theorem zd_174_227 : decode (zm_cc 174) 227 = .ok (.iload 5, 2) := by decide +kernel
theorem zd_174_229 : decode (zm_cc 174) 229 = .ok (.iaload, 1) := by decide +kernel
theorem zd_174_230 : decode (zm_cc 174) 230 = .ok (.iload_n 2, 1) := by decide +kernel
theorem zd_174_231 : decode (zm_cc 174) 231 = .ok (.invokevirtual 416, 3) := by decide +kernel
theorem zd_174_234 : decode (zm_cc 174) 234 = .ok (.ifCond .ne 7, 3) := by decide +kernel
theorem zd_174_237 : decode (zm_cc 174) 237 = .ok (.iconst 1, 1) := by decide +kernel
theorem zd_174_238 : decode (zm_cc 174) 238 = .ok (.goto 4, 3) := by decide +kernel
theorem zd_174_241 : decode (zm_cc 174) 241 = .ok (.iconst 0, 1) := by decide +kernel
theorem zd_174_242 : decode (zm_cc 174) 242 = .ok (.istore 4, 2) := by decide +kernel
theorem zd_174_244 : decode (zm_cc 174) 244 = .ok (.iinc 5 1, 3) := by decide +kernel
theorem zd_174_247 : decode (zm_cc 174) 247 = .ok (.goto (-39), 3) := by decide +kernel
theorem zd_174_250 : decode (zm_cc 174) 250 = .ok (.iload 4, 2) := by decide +kernel
theorem zd_174_252 : decode (zm_cc 174) 252 = .ok (.ifCond .eq 23, 3) := by decide +kernel
theorem zd_174_255 : decode (zm_cc 174) 255 = .ok (.aload_n 0, 1) := by decide +kernel
theorem zd_174_256 : decode (zm_cc 174) 256 = .ok (.getfield 113, 3) := by decide +kernel
theorem zd_174_259 : decode (zm_cc 174) 259 = .ok (.aload_n 0, 1) := by decide +kernel
theorem zd_174_260 : decode (zm_cc 174) 260 = .ok (.getfield 392, 3) := by decide +kernel
theorem zd_174_263 : decode (zm_cc 174) 263 = .ok (.iload_n 2, 1) := by decide +kernel
theorem zd_174_264 : decode (zm_cc 174) 264 = .ok (.iastore, 1) := by decide +kernel
theorem zd_174_265 : decode (zm_cc 174) 265 = .ok (.aload_n 0, 1) := by decide +kernel
theorem zd_174_266 : decode (zm_cc 174) 266 = .ok (.dup, 1) := by decide +kernel
theorem zd_174_267 : decode (zm_cc 174) 267 = .ok (.getfield 392, 3) := by decide +kernel
theorem zd_174_270 : decode (zm_cc 174) 270 = .ok (.iconst 1, 1) := by decide +kernel
theorem zd_174_271 : decode (zm_cc 174) 271 = .ok (.iadd, 1) := by decide +kernel
theorem zd_174_272 : decode (zm_cc 174) 272 = .ok (.putfield 392, 3) := by decide +kernel
theorem zd_174_275 : decode (zm_cc 174) 275 = .ok (.iinc 2 1, 3) := by decide +kernel
theorem zd_174_278 : decode (zm_cc 174) 278 = .ok (.goto (-210), 3) := by decide +kernel
theorem zd_174_281 : decode (zm_cc 174) 281 = .ok (.aload_n 0, 1) := by decide +kernel
theorem zd_174_282 : decode (zm_cc 174) 282 = .ok (.aload_n 0, 1) := by decide +kernel
theorem zd_174_283 : decode (zm_cc 174) 283 = .ok (.getfield 377, 3) := by decide +kernel
theorem zd_174_286 : decode (zm_cc 174) 286 = .ok (.putfield 419, 3) := by decide +kernel
theorem zd_174_289 : decode (zm_cc 174) 289 = .ok (.aload_n 0, 1) := by decide +kernel
theorem zd_174_290 : decode (zm_cc 174) 290 = .ok (.iconst 1, 1) := by decide +kernel
theorem zd_174_291 : decode (zm_cc 174) 291 = .ok (.putfield 322, 3) := by decide +kernel
theorem zd_174_294 : decode (zm_cc 174) 294 = .ok (.aload_n 0, 1) := by decide +kernel
theorem zd_174_295 : decode (zm_cc 174) 295 = .ok (.getfield 419, 3) := by decide +kernel
theorem zd_174_298 : decode (zm_cc 174) 298 = .ok (.ireturn, 1) := by decide +kernel
theorem zd_175_0 : decode (zm_cc 175) 0 = .ok (.iconst 0, 1) := by decide +kernel
theorem zd_175_1 : decode (zm_cc 175) 1 = .ok (.istore_n 2, 1) := by decide +kernel
theorem zd_175_2 : decode (zm_cc 175) 2 = .ok (.iload_n 2, 1) := by decide +kernel
theorem zd_175_3 : decode (zm_cc 175) 3 = .ok (.sipush 8192, 3) := by decide +kernel
theorem zd_175_6 : decode (zm_cc 175) 6 = .ok (.if_icmp .ge 16, 3) := by decide +kernel
theorem zd_175_9 : decode (zm_cc 175) 9 = .ok (.aload_n 0, 1) := by decide +kernel
theorem zd_175_10 : decode (zm_cc 175) 10 = .ok (.getfield 95, 3) := by decide +kernel
theorem zd_175_13 : decode (zm_cc 175) 13 = .ok (.iload_n 2, 1) := by decide +kernel
theorem zd_175_14 : decode (zm_cc 175) 14 = .ok (.iconst (-1), 1) := by decide +kernel
theorem zd_175_15 : decode (zm_cc 175) 15 = .ok (.iastore, 1) := by decide +kernel
theorem zd_175_16 : decode (zm_cc 175) 16 = .ok (.iinc 2 1, 3) := by decide +kernel
theorem zd_175_19 : decode (zm_cc 175) 19 = .ok (.goto (-17), 3) := by decide +kernel
theorem zd_175_22 : decode (zm_cc 175) 22 = .ok (.aload_n 0, 1) := by decide +kernel
theorem zd_175_23 : decode (zm_cc 175) 23 = .ok (.iload_n 1, 1) := by decide +kernel
theorem zd_175_24 : decode (zm_cc 175) 24 = .ok (.putfield 380, 3) := by decide +kernel
theorem zd_175_27 : decode (zm_cc 175) 27 = .ok (.aload_n 0, 1) := by decide +kernel
theorem zd_175_28 : decode (zm_cc 175) 28 = .ok (.iconst 0, 1) := by decide +kernel
theorem zd_175_29 : decode (zm_cc 175) 29 = .ok (.putfield 377, 3) := by decide +kernel
theorem zd_175_32 : decode (zm_cc 175) 32 = .ok (.return_, 1) := by decide +kernel
theorem zd_176_0 : decode (zm_cc 176) 0 = .ok (.iconst 0, 1) := by decide +kernel
theorem zd_176_1 : decode (zm_cc 176) 1 = .ok (.istore_n 1, 1) := by decide +kernel
theorem zd_176_2 : decode (zm_cc 176) 2 = .ok (.iload_n 1, 1) := by decide +kernel
theorem zd_176_3 : decode (zm_cc 176) 3 = .ok (.bipush 40, 2) := by decide +kernel
theorem zd_176_5 : decode (zm_cc 176) 5 = .ok (.if_icmp .ge 16, 3) := by decide +kernel
theorem zd_176_8 : decode (zm_cc 176) 8 = .ok (.aload_n 0, 1) := by decide +kernel
theorem zd_176_9 : decode (zm_cc 176) 9 = .ok (.getfield 88, 3) := by decide +kernel
theorem zd_176_12 : decode (zm_cc 176) 12 = .ok (.iload_n 1, 1) := by decide +kernel
theorem zd_176_13 : decode (zm_cc 176) 13 = .ok (.iconst 0, 1) := by decide +kernel
theorem zd_176_14 : decode (zm_cc 176) 14 = .ok (.iastore, 1) := by decide +kernel
theorem zd_176_15 : decode (zm_cc 176) 15 = .ok (.iinc 1 1, 3) := by decide +kernel
theorem zd_176_18 : decode (zm_cc 176) 18 = .ok (.goto (-16), 3) := by decide +kernel
theorem zd_176_21 : decode (zm_cc 176) 21 = .ok (.iconst 0, 1) := by decide +kernel
theorem zd_176_22 : decode (zm_cc 176) 22 = .ok (.istore_n 1, 1) := by decide +kernel
theorem zd_176_23 : decode (zm_cc 176) 23 = .ok (.iload_n 1, 1) := by decide +kernel
theorem zd_176_24 : decode (zm_cc 176) 24 = .ok (.aload_n 0, 1) := by decide +kernel
theorem zd_176_25 : decode (zm_cc 176) 25 = .ok (.getfield 215, 3) := by decide +kernel
theorem zd_176_28 : decode (zm_cc 176) 28 = .ok (.if_icmp .ge 21, 3) := by decide +kernel
theorem zd_176_31 : decode (zm_cc 176) 31 = .ok (.aload_n 0, 1) := by decide +kernel
theorem zd_176_32 : decode (zm_cc 176) 32 = .ok (.getfield 88, 3) := by decide +kernel
theorem zd_176_35 : decode (zm_cc 176) 35 = .ok (.iload_n 1, 1) := by decide +kernel
theorem zd_176_36 : decode (zm_cc 176) 36 = .ok (.aload_n 0, 1) := by decide +kernel
theorem zd_176_37 : decode (zm_cc 176) 37 = .ok (.getfield 34, 3) := by decide +kernel
theorem zd_176_40 : decode (zm_cc 176) 40 = .ok (.iload_n 1, 1) := by decide +kernel
theorem zd_176_41 : decode (zm_cc 176) 41 = .ok (.iaload, 1) := by decide +kernel
theorem zd_176_42 : decode (zm_cc 176) 42 = .ok (.iastore, 1) := by decide +kernel
theorem zd_176_43 : decode (zm_cc 176) 43 = .ok (.iinc 1 1, 3) := by decide +kernel
theorem zd_176_46 : decode (zm_cc 176) 46 = .ok (.goto (-23), 3) := by decide +kernel
theorem zd_176_49 : decode (zm_cc 176) 49 = .ok (.iconst 0, 1) := by decide +kernel
theorem zd_176_50 : decode (zm_cc 176) 50 = .ok (.istore_n 1, 1) := by decide +kernel
theorem zd_176_51 : decode (zm_cc 176) 51 = .ok (.iload_n 1, 1) := by decide +kernel
theorem zd_176_52 : decode (zm_cc 176) 52 = .ok (.aload_n 0, 1) := by decide +kernel
theorem zd_176_53 : decode (zm_cc 176) 53 = .ok (.getfield 225, 3) := by decide +kernel
theorem zd_176_56 : decode (zm_cc 176) 56 = .ok (.if_icmp .ge 86, 3) := by decide +kernel
theorem zd_176_59 : decode (zm_cc 176) 59 = .ok (.iconst 0, 1) := by decide +kernel
theorem zd_176_60 : decode (zm_cc 176) 60 = .ok (.istore_n 2, 1) := by decide +kernel
theorem zd_176_61 : decode (zm_cc 176) 61 = .ok (.iconst 0, 1) := by decide +kernel
theorem zd_176_62 : decode (zm_cc 176) 62 = .ok (.istore_n 3, 1) := by decide +kernel
theorem zd_176_63 : decode (zm_cc 176) 63 = .ok (.iload_n 3, 1) := by decide +kernel
theorem zd_176_64 : decode (zm_cc 176) 64 = .ok (.bipush 24, 2) := by decide +kernel
theorem zd_176_66 : decode (zm_cc 176) 66 = .ok (.aload_n 0, 1) := by decide +kernel
theorem zd_176_67 : decode (zm_cc 176) 67 = .ok (.getfield 225, 3) := by decide +kernel
theorem zd_176_70 : decode (zm_cc 176) 70 = .ok (.imul, 1) := by decide +kernel
theorem zd_176_71 : decode (zm_cc 176) 71 = .ok (.if_icmp .ge 56, 3) := by decide +kernel
theorem zd_176_74 : decode (zm_cc 176) 74 = .ok (.iload_n 2, 1) := by decide +kernel
theorem zd_176_75 : decode (zm_cc 176) 75 = .ok (.ifCond .ne 40, 3) := by decide +kernel
theorem zd_176_78 : decode (zm_cc 176) 78 = .ok (.iload_n 3, 1) := by decide +kernel
theorem zd_176_79 : decode (zm_cc 176) 79 = .ok (.bipush 24, 2) := by decide +kernel
theorem zd_176_81 : decode (zm_cc 176) 81 = .ok (.irem, 1) := by decide +kernel
theorem zd_176_82 : decode (zm_cc 176) 82 = .ok (.aload_n 0, 1) := by decide +kernel
theorem zd_176_83 : decode (zm_cc 176) 83 = .ok (.getfield 37, 3) := by decide +kernel
theorem zd_176_86 : decode (zm_cc 176) 86 = .ok (.iload_n 3, 1) := by decide +kernel
theorem zd_176_87 : decode (zm_cc 176) 87 = .ok (.bipush 24, 2) := by decide +kernel
theorem zd_176_89 : decode (zm_cc 176) 89 = .ok (.idiv, 1) := by decide +kernel
theorem zd_176_90 : decode (zm_cc 176) 90 = .ok (.iaload, 1) := by decide +kernel
theorem zd_176_91 : decode (zm_cc 176) 91 = .ok (.if_icmp .ge 28, 3) := by decide +kernel
theorem zd_176_94 : decode (zm_cc 176) 94 = .ok (.aload_n 0, 1) := by decide +kernel
theorem zd_176_95 : decode (zm_cc 176) 95 = .ok (.getfield 43, 3) := by decide +kernel
theorem zd_176_98 : decode (zm_cc 176) 98 = .ok (.iload_n 3, 1) := by decide +kernel
theorem zd_176_99 : decode (zm_cc 176) 99 = .ok (.iaload, 1) := by decide +kernel
theorem zd_176_100 : decode (zm_cc 176) 100 = .ok (.bipush 10, 2) := by decide +kernel
theorem zd_176_102 : decode (zm_cc 176) 102 = .ok (.if_icmp .ne 17, 3) := by decide +kernel
theorem zd_176_105 : decode (zm_cc 176) 105 = .ok (.aload_n 0, 1) := by decide +kernel
theorem zd_176_106 : decode (zm_cc 176) 106 = .ok (.getfield 46, 3) := by decide +kernel
theorem zd_176_109 : decode (zm_cc 176) 109 = .ok (.iload_n 3, 1) := by decide +kernel
theorem zd_176_110 : decode (zm_cc 176) 110 = .ok (.iaload, 1) := by decide +kernel
theorem zd_176_111 : decode (zm_cc 176) 111 = .ok (.iload_n 1, 1) := by decide +kernel
theorem zd_176_112 : decode (zm_cc 176) 112 = .ok (.if_icmp .ne 7, 3) := by decide +kernel
theorem zd_176_115 : decode (zm_cc 176) 115 = .ok (.iconst 1, 1) := by decide +kernel
theorem zd_176_116 : decode (zm_cc 176) 116 = .ok (.goto 4, 3) := by decide +kernel
theorem zd_176_119 : decode (zm_cc 176) 119 = .ok (.iconst 0, 1) := by decide +kernel
theorem zd_176_120 : decode (zm_cc 176) 120 = .ok (.istore_n 2, 1) := by decide +kernel
theorem zd_176_121 : decode (zm_cc 176) 121 = .ok (.iinc 3 1, 3) := by decide +kernel
theorem zd_176_124 : decode (zm_cc 176) 124 = .ok (.goto (-61), 3) := by decide +kernel
theorem zd_176_127 : decode (zm_cc 176) 127 = .ok (.iload_n 2, 1) := by decide +kernel
theorem zd_176_128 : decode (zm_cc 176) 128 = .ok (.ifCond .ne 8, 3) := by decide +kernel
theorem zd_176_131 : decode (zm_cc 176) 131 = .ok (.aload_n 0, 1) := by decide +kernel
theorem zd_176_132 : decode (zm_cc 176) 132 = .ok (.iload_n 1, 1) := by decide +kernel
theorem zd_176_133 : decode (zm_cc 176) 133 = .ok (.invokevirtual 373, 3) := by decide +kernel
theorem zd_176_136 : decode (zm_cc 176) 136 = .ok (.iinc 1 1, 3) := by decide +kernel
theorem zd_176_139 : decode (zm_cc 176) 139 = .ok (.goto (-88), 3) := by decide +kernel
theorem zd_176_142 : decode (zm_cc 176) 142 = .ok (.return_, 1) := by decide +kernel
theorem zd_177_0 : decode (zm_cc 177) 0 = .ok (.aload_n 0, 1) := by decide +kernel
theorem zd_177_1 : decode (zm_cc 177) 1 = .ok (.getfield 88, 3) := by decide +kernel
theorem zd_177_4 : decode (zm_cc 177) 4 = .ok (.aload_n 0, 1) := by decide +kernel
theorem zd_177_5 : decode (zm_cc 177) 5 = .ok (.iload_n 1, 1) := by decide +kernel
theorem zd_177_6 : decode (zm_cc 177) 6 = .ok (.invokevirtual 348, 3) := by decide +kernel
theorem zd_177_9 : decode (zm_cc 177) 9 = .ok (.iconst 1, 1) := by decide +kernel
theorem zd_177_10 : decode (zm_cc 177) 10 = .ok (.iadd, 1) := by decide +kernel
theorem zd_177_11 : decode (zm_cc 177) 11 = .ok (.iconst 1, 1) := by decide +kernel
theorem zd_177_12 : decode (zm_cc 177) 12 = .ok (.iastore, 1) := by decide +kernel
theorem zd_177_13 : decode (zm_cc 177) 13 = .ok (.aload_n 0, 1) := by decide +kernel
theorem zd_177_14 : decode (zm_cc 177) 14 = .ok (.iload_n 1, 1) := by decide +kernel
theorem zd_177_15 : decode (zm_cc 177) 15 = .ok (.iconst 0, 1) := by decide +kernel
theorem zd_177_16 : decode (zm_cc 177) 16 = .ok (.invokevirtual 360, 3) := by decide +kernel
theorem zd_177_19 : decode (zm_cc 177) 19 = .ok (.return_, 1) := by decide +kernel
theorem zd_178_0 : decode (zm_cc 178) 0 = .ok (.bipush 14, 2) := by decide +kernel
theorem zd_178_2 : decode (zm_cc 178) 2 = .ok (.bipush 6, 2) := by decide +kernel
theorem zd_178_4 : decode (zm_cc 178) 4 = .ok (.iload_n 1, 1) := by decide +kernel
theorem zd_178_5 : decode (zm_cc 178) 5 = .ok (.imul, 1) := by decide +kernel
theorem zd_178_6 : decode (zm_cc 178) 6 = .ok (.iadd, 1) := by decide +kernel
theorem zd_178_7 : decode (zm_cc 178) 7 = .ok (.ireturn, 1) := by decide +kernel
theorem zd_179_0 : decode (zm_cc 179) 0 = .ok (.aload_n 0, 1) := by decide +kernel
theorem zd_179_1 : decode (zm_cc 179) 1 = .ok (.getfield 88, 3) := by decide +kernel
theorem zd_179_4 : decode (zm_cc 179) 4 = .ok (.aload_n 0, 1) := by decide +kernel
theorem zd_179_5 : decode (zm_cc 179) 5 = .ok (.iload_n 1, 1) := by decide +kernel
theorem zd_179_6 : decode (zm_cc 179) 6 = .ok (.invokevirtual 348, 3) := by decide +kernel
theorem zd_179_9 : decode (zm_cc 179) 9 = .ok (.iload_n 2, 1) := by decide +kernel
theorem zd_179_10 : decode (zm_cc 179) 10 = .ok (.iastore, 1) := by decide +kernel
theorem zd_179_11 : decode (zm_cc 179) 11 = .ok (.iload_n 2, 1) := by decide +kernel
theorem zd_179_12 : decode (zm_cc 179) 12 = .ok (.aload_n 0, 1) := by decide +kernel
theorem zd_179_13 : decode (zm_cc 179) 13 = .ok (.getfield 37, 3) := by decide +kernel
theorem zd_179_16 : decode (zm_cc 179) 16 = .ok (.iload_n 1, 1) := by decide +kernel
theorem zd_179_17 : decode (zm_cc 179) 17 = .ok (.iaload, 1) := by decide +kernel
theorem zd_179_18 : decode (zm_cc 179) 18 = .ok (.if_icmp .ne 21, 3) := by decide +kernel
theorem zd_179_21 : decode (zm_cc 179) 21 = .ok (.aload_n 0, 1) := by decide +kernel
theorem zd_179_22 : decode (zm_cc 179) 22 = .ok (.getfield 88, 3) := by decide +kernel
theorem zd_179_25 : decode (zm_cc 179) 25 = .ok (.aload_n 0, 1) := by decide +kernel
theorem zd_179_26 : decode (zm_cc 179) 26 = .ok (.iload_n 1, 1) := by decide +kernel
theorem zd_179_27 : decode (zm_cc 179) 27 = .ok (.invokevirtual 348, 3) := by decide +kernel
theorem zd_179_30 : decode (zm_cc 179) 30 = .ok (.iconst 1, 1) := by decide +kernel
theorem zd_179_31 : decode (zm_cc 179) 31 = .ok (.iadd, 1) := by decide +kernel
theorem zd_179_32 : decode (zm_cc 179) 32 = .ok (.iconst 4, 1) := by decide +kernel
theorem zd_179_33 : decode (zm_cc 179) 33 = .ok (.iastore, 1) := by decide +kernel
theorem zd_179_34 : decode (zm_cc 179) 34 = .ok (.aload_n 0, 1) := by decide +kernel
theorem zd_179_35 : decode (zm_cc 179) 35 = .ok (.iload_n 1, 1) := by decide +kernel
theorem zd_179_36 : decode (zm_cc 179) 36 = .ok (.invokevirtual 354, 3) := by decide +kernel
theorem zd_179_39 : decode (zm_cc 179) 39 = .ok (.return_, 1) := by decide +kernel
theorem zd_180_0 : decode (zm_cc 180) 0 = .ok (.iconst 0, 1) := by decide +kernel
theorem zd_180_1 : decode (zm_cc 180) 1 = .ok (.istore_n 2, 1) := by decide +kernel
theorem zd_180_2 : decode (zm_cc 180) 2 = .ok (.iload_n 2, 1) := by decide +kernel
theorem zd_180_3 : decode (zm_cc 180) 3 = .ok (.iconst 4, 1) := by decide +kernel
theorem zd_180_4 : decode (zm_cc 180) 4 = .ok (.if_icmp .ge 44, 3) := by decide +kernel
theorem zd_180_7 : decode (zm_cc 180) 7 = .ok (.aload_n 0, 1) := by decide +kernel
theorem zd_180_8 : decode (zm_cc 180) 8 = .ok (.getfield 88, 3) := by decide +kernel
theorem zd_180_11 : decode (zm_cc 180) 11 = .ok (.bipush 6, 2) := by decide +kernel
theorem zd_180_13 : decode (zm_cc 180) 13 = .ok (.iload_n 2, 1) := by decide +kernel
theorem zd_180_14 : decode (zm_cc 180) 14 = .ok (.iadd, 1) := by decide +kernel
theorem zd_180_15 : decode (zm_cc 180) 15 = .ok (.iaload, 1) := by decide +kernel
theorem zd_180_16 : decode (zm_cc 180) 16 = .ok (.iload_n 1, 1) := by decide +kernel
theorem zd_180_17 : decode (zm_cc 180) 17 = .ok (.iconst 1, 1) := by decide +kernel
theorem zd_180_18 : decode (zm_cc 180) 18 = .ok (.iadd, 1) := by decide +kernel
theorem zd_180_19 : decode (zm_cc 180) 19 = .ok (.if_icmp .ne 23, 3) := by decide +kernel
theorem zd_180_22 : decode (zm_cc 180) 22 = .ok (.aload_n 0, 1) := by decide +kernel
theorem zd_180_23 : decode (zm_cc 180) 23 = .ok (.getfield 88, 3) := by decide +kernel
theorem zd_180_26 : decode (zm_cc 180) 26 = .ok (.bipush 6, 2) := by decide +kernel
theorem zd_180_28 : decode (zm_cc 180) 28 = .ok (.iload_n 2, 1) := by decide +kernel
theorem zd_180_29 : decode (zm_cc 180) 29 = .ok (.iadd, 1) := by decide +kernel
theorem zd_180_30 : decode (zm_cc 180) 30 = .ok (.iconst 0, 1) := by decide +kernel
theorem zd_180_31 : decode (zm_cc 180) 31 = .ok (.iastore, 1) := by decide +kernel
theorem zd_180_32 : decode (zm_cc 180) 32 = .ok (.aload_n 0, 1) := by decide +kernel
theorem zd_180_33 : decode (zm_cc 180) 33 = .ok (.getfield 88, 3) := by decide +kernel
theorem zd_180_36 : decode (zm_cc 180) 36 = .ok (.bipush 10, 2) := by decide +kernel
theorem zd_180_38 : decode (zm_cc 180) 38 = .ok (.iload_n 2, 1) := by decide +kernel
theorem zd_180_39 : decode (zm_cc 180) 39 = .ok (.iadd, 1) := by decide +kernel
theorem zd_180_40 : decode (zm_cc 180) 40 = .ok (.iconst 0, 1) := by decide +kernel
theorem zd_180_41 : decode (zm_cc 180) 41 = .ok (.iastore, 1) := by decide +kernel
theorem zd_180_42 : decode (zm_cc 180) 42 = .ok (.iinc 2 1, 3) := by decide +kernel
theorem zd_180_45 : decode (zm_cc 180) 45 = .ok (.goto (-43), 3) := by decide +kernel
theorem zd_180_48 : decode (zm_cc 180) 48 = .ok (.return_, 1) := by decide +kernel
theorem zd_181_0 : decode (zm_cc 181) 0 = .ok (.bipush 7, 2) := by decide +kernel
theorem zd_181_2 : decode (zm_cc 181) 2 = .ok (.istore_n 1, 1) := by decide +kernel
theorem zd_181_3 : decode (zm_cc 181) 3 = .ok (.iconst 0, 1) := by decide +kernel
theorem zd_181_4 : decode (zm_cc 181) 4 = .ok (.istore_n 2, 1) := by decide +kernel
theorem zd_181_5 : decode (zm_cc 181) 5 = .ok (.iload_n 2, 1) := by decide +kernel
theorem zd_181_6 : decode (zm_cc 181) 6 = .ok (.bipush 40, 2) := by decide +kernel
theorem zd_181_8 : decode (zm_cc 181) 8 = .ok (.if_icmp .ge 29, 3) := by decide +kernel
theorem zd_181_11 : decode (zm_cc 181) 11 = .ok (.iload_n 1, 1) := by decide +kernel
theorem zd_181_12 : decode (zm_cc 181) 12 = .ok (.aload_n 0, 1) := by decide +kernel
theorem zd_181_13 : decode (zm_cc 181) 13 = .ok (.getfield 88, 3) := by decide +kernel
theorem zd_181_16 : decode (zm_cc 181) 16 = .ok (.iload_n 2, 1) := by decide +kernel
theorem zd_181_17 : decode (zm_cc 181) 17 = .ok (.iaload, 1) := by decide +kernel
theorem zd_181_18 : decode (zm_cc 181) 18 = .ok (.ixor, 1) := by decide +kernel
theorem zd_181_19 : decode (zm_cc 181) 19 = .ok (.ldc_w 376, 3) := by decide +kernel
theorem zd_181_22 : decode (zm_cc 181) 22 = .ok (.imul, 1) := by decide +kernel
theorem zd_181_23 : decode (zm_cc 181) 23 = .ok (.istore_n 1, 1) := by decide +kernel
theorem zd_181_24 : decode (zm_cc 181) 24 = .ok (.iload_n 1, 1) := by decide +kernel
theorem zd_181_25 : decode (zm_cc 181) 25 = .ok (.iload_n 1, 1) := by decide +kernel
theorem zd_181_26 : decode (zm_cc 181) 26 = .ok (.bipush 15, 2) := by decide +kernel
theorem zd_181_28 : decode (zm_cc 181) 28 = .ok (.iushr, 1) := by decide +kernel
theorem zd_181_29 : decode (zm_cc 181) 29 = .ok (.ixor, 1) := by decide +kernel
theorem zd_181_30 : decode (zm_cc 181) 30 = .ok (.istore_n 1, 1) := by decide +kernel
theorem zd_181_31 : decode (zm_cc 181) 31 = .ok (.iinc 2 1, 3) := by decide +kernel
theorem zd_181_34 : decode (zm_cc 181) 34 = .ok (.goto (-29), 3) := by decide +kernel
theorem zd_181_37 : decode (zm_cc 181) 37 = .ok (.iload_n 1, 1) := by decide +kernel
theorem zd_181_38 : decode (zm_cc 181) 38 = .ok (.sipush 8191, 3) := by decide +kernel
theorem zd_181_41 : decode (zm_cc 181) 41 = .ok (.iand, 1) := by decide +kernel
theorem zd_181_42 : decode (zm_cc 181) 42 = .ok (.istore_n 1, 1) := by decide +kernel
theorem zd_181_43 : decode (zm_cc 181) 43 = .ok (.aload_n 0, 1) := by decide +kernel
theorem zd_181_44 : decode (zm_cc 181) 44 = .ok (.getfield 95, 3) := by decide +kernel
theorem zd_181_47 : decode (zm_cc 181) 47 = .ok (.iload_n 1, 1) := by decide +kernel
theorem zd_181_48 : decode (zm_cc 181) 48 = .ok (.iaload, 1) := by decide +kernel
theorem zd_181_49 : decode (zm_cc 181) 49 = .ok (.istore_n 2, 1) := by decide +kernel
theorem zd_181_50 : decode (zm_cc 181) 50 = .ok (.iload_n 2, 1) := by decide +kernel
theorem zd_181_51 : decode (zm_cc 181) 51 = .ok (.iconst (-1), 1) := by decide +kernel
theorem zd_181_52 : decode (zm_cc 181) 52 = .ok (.if_icmp .eq 69, 3) := by decide +kernel
theorem zd_181_55 : decode (zm_cc 181) 55 = .ok (.iconst 1, 1) := by decide +kernel
theorem zd_181_56 : decode (zm_cc 181) 56 = .ok (.istore_n 3, 1) := by decide +kernel
theorem zd_181_57 : decode (zm_cc 181) 57 = .ok (.iconst 0, 1) := by decide +kernel
theorem zd_181_58 : decode (zm_cc 181) 58 = .ok (.istore 4, 2) := by decide +kernel
theorem zd_181_60 : decode (zm_cc 181) 60 = .ok (.iload 4, 2) := by decide +kernel
theorem zd_181_62 : decode (zm_cc 181) 62 = .ok (.bipush 40, 2) := by decide +kernel
theorem zd_181_64 : decode (zm_cc 181) 64 = .ok (.if_icmp .ge 41, 3) := by decide +kernel
theorem zd_181_67 : decode (zm_cc 181) 67 = .ok (.iload_n 3, 1) := by decide +kernel
theorem zd_181_68 : decode (zm_cc 181) 68 = .ok (.ifCond .eq 37, 3) := by decide +kernel
theorem zd_181_71 : decode (zm_cc 181) 71 = .ok (.aload_n 0, 1) := by decide +kernel
theorem zd_181_72 : decode (zm_cc 181) 72 = .ok (.getfield 92, 3) := by decide +kernel
theorem zd_181_75 : decode (zm_cc 181) 75 = .ok (.bipush 40, 2) := by decide +kernel
theorem zd_181_77 : decode (zm_cc 181) 77 = .ok (.iload_n 2, 1) := by decide +kernel
theorem zd_181_78 : decode (zm_cc 181) 78 = .ok (.imul, 1) := by decide +kernel
theorem zd_181_79 : decode (zm_cc 181) 79 = .ok (.iload 4, 2) := by decide +kernel
theorem zd_181_81 : decode (zm_cc 181) 81 = .ok (.iadd, 1) := by decide +kernel
theorem zd_181_82 : decode (zm_cc 181) 82 = .ok (.baload, 1) := by decide +kernel
theorem zd_181_83 : decode (zm_cc 181) 83 = .ok (.aload_n 0, 1) := by decide +kernel
theorem zd_181_84 : decode (zm_cc 181) 84 = .ok (.getfield 88, 3) := by decide +kernel
theorem zd_181_87 : decode (zm_cc 181) 87 = .ok (.iload 4, 2) := by decide +kernel
theorem zd_181_89 : decode (zm_cc 181) 89 = .ok (.iaload, 1) := by decide +kernel
theorem zd_181_90 : decode (zm_cc 181) 90 = .ok (.if_icmp .ne 7, 3) := by decide +kernel
theorem zd_181_93 : decode (zm_cc 181) 93 = .ok (.iconst 1, 1) := by decide +kernel
theorem zd_181_94 : decode (zm_cc 181) 94 = .ok (.goto 4, 3) := by decide +kernel
theorem zd_181_97 : decode (zm_cc 181) 97 = .ok (.iconst 0, 1) := by decide +kernel
theorem zd_181_98 : decode (zm_cc 181) 98 = .ok (.istore_n 3, 1) := by decide +kernel
theorem zd_181_99 : decode (zm_cc 181) 99 = .ok (.iinc 4 1, 3) := by decide +kernel
theorem zd_181_102 : decode (zm_cc 181) 102 = .ok (.goto (-42), 3) := by decide +kernel
theorem zd_181_105 : decode (zm_cc 181) 105 = .ok (.iload_n 3, 1) := by decide +kernel
theorem zd_181_106 : decode (zm_cc 181) 106 = .ok (.ifCond .eq 5, 3) := by decide +kernel
theorem zd_181_109 : decode (zm_cc 181) 109 = .ok (.iload_n 2, 1) := by decide +kernel
theorem zd_181_110 : decode (zm_cc 181) 110 = .ok (.ireturn, 1) := by decide +kernel
theorem zd_181_111 : decode (zm_cc 181) 111 = .ok (.aload_n 0, 1) := by decide +kernel
theorem zd_181_112 : decode (zm_cc 181) 112 = .ok (.getfield 98, 3) := by decide +kernel
theorem zd_181_115 : decode (zm_cc 181) 115 = .ok (.iload_n 2, 1) := by decide +kernel
theorem zd_181_116 : decode (zm_cc 181) 116 = .ok (.iaload, 1) := by decide +kernel
theorem zd_181_117 : decode (zm_cc 181) 117 = .ok (.istore_n 2, 1) := by decide +kernel
theorem zd_181_118 : decode (zm_cc 181) 118 = .ok (.goto (-68), 3) := by decide +kernel
theorem zd_181_121 : decode (zm_cc 181) 121 = .ok (.aload_n 0, 1) := by decide +kernel
theorem zd_181_122 : decode (zm_cc 181) 122 = .ok (.getfield 377, 3) := by decide +kernel
theorem zd_181_125 : decode (zm_cc 181) 125 = .ok (.sipush 4000, 3) := by decide +kernel
theorem zd_181_128 : decode (zm_cc 181) 128 = .ok (.if_icmp .ne 5, 3) := by decide +kernel
theorem zd_181_131 : decode (zm_cc 181) 131 = .ok (.iconst (-1), 1) := by decide +kernel
theorem zd_181_132 : decode (zm_cc 181) 132 = .ok (.ireturn, 1) := by decide +kernel
theorem zd_181_133 : decode (zm_cc 181) 133 = .ok (.aload_n 0, 1) := by decide +kernel
theorem zd_181_134 : decode (zm_cc 181) 134 = .ok (.getfield 380, 3) := by decide +kernel
theorem zd_181_137 : decode (zm_cc 181) 137 = .ok (.aload_n 0, 1) := by decide +kernel
theorem zd_181_138 : decode (zm_cc 181) 138 = .ok (.getfield 377, 3) := by decide +kernel
theorem zd_181_141 : decode (zm_cc 181) 141 = .ok (.iadd, 1) := by decide +kernel
theorem zd_181_142 : decode (zm_cc 181) 142 = .ok (.istore_n 2, 1) := by decide +kernel
theorem zd_181_143 : decode (zm_cc 181) 143 = .ok (.iconst 0, 1) := by decide +kernel
theorem zd_181_144 : decode (zm_cc 181) 144 = .ok (.istore_n 3, 1) := by decide +kernel
theorem zd_181_145 : decode (zm_cc 181) 145 = .ok (.iload_n 3, 1) := by decide +kernel
theorem zd_181_146 : decode (zm_cc 181) 146 = .ok (.bipush 40, 2) := by decide +kernel
theorem zd_181_148 : decode (zm_cc 181) 148 = .ok (.if_icmp .ge 27, 3) := by decide +kernel
theorem zd_181_151 : decode (zm_cc 181) 151 = .ok (.aload_n 0, 1) := by decide +kernel
theorem zd_181_152 : decode (zm_cc 181) 152 = .ok (.getfield 92, 3) := by decide +kernel
theorem zd_181_155 : decode (zm_cc 181) 155 = .ok (.bipush 40, 2) := by decide +kernel
theorem zd_181_157 : decode (zm_cc 181) 157 = .ok (.iload_n 2, 1) := by decide +kernel
theorem zd_181_158 : decode (zm_cc 181) 158 = .ok (.imul, 1) := by decide +kernel
theorem zd_181_159 : decode (zm_cc 181) 159 = .ok (.iload_n 3, 1) := by decide +kernel
theorem zd_181_160 : decode (zm_cc 181) 160 = .ok (.iadd, 1) := by decide +kernel
theorem zd_181_161 : decode (zm_cc 181) 161 = .ok (.aload_n 0, 1) := by decide +kernel
theorem zd_181_162 : decode (zm_cc 181) 162 = .ok (.getfield 88, 3) := by decide +kernel
theorem zd_181_165 : decode (zm_cc 181) 165 = .ok (.iload_n 3, 1) := by decide +kernel
theorem zd_181_166 : decode (zm_cc 181) 166 = .ok (.iaload, 1) := by decide +kernel
theorem zd_181_167 : decode (zm_cc 181) 167 = .ok (.i2b, 1) := by decide +kernel
theorem zd_181_168 : decode (zm_cc 181) 168 = .ok (.bastore, 1) := by decide +kernel
theorem zd_181_169 : decode (zm_cc 181) 169 = .ok (.iinc 3 1, 3) := by decide +kernel
theorem zd_181_172 : decode (zm_cc 181) 172 = .ok (.goto (-27), 3) := by decide +kernel
theorem zd_181_175 : decode (zm_cc 181) 175 = .ok (.aload_n 0, 1) := by decide +kernel
theorem zd_181_176 : decode (zm_cc 181) 176 = .ok (.getfield 98, 3) := by decide +kernel
theorem zd_181_179 : decode (zm_cc 181) 179 = .ok (.iload_n 2, 1) := by decide +kernel
theorem zd_181_180 : decode (zm_cc 181) 180 = .ok (.aload_n 0, 1) := by decide +kernel
theorem zd_181_181 : decode (zm_cc 181) 181 = .ok (.getfield 95, 3) := by decide +kernel
theorem zd_181_184 : decode (zm_cc 181) 184 = .ok (.iload_n 1, 1) := by decide +kernel
theorem zd_181_185 : decode (zm_cc 181) 185 = .ok (.iaload, 1) := by decide +kernel
theorem zd_181_186 : decode (zm_cc 181) 186 = .ok (.iastore, 1) := by decide +kernel
theorem zd_181_187 : decode (zm_cc 181) 187 = .ok (.aload_n 0, 1) := by decide +kernel
theorem zd_181_188 : decode (zm_cc 181) 188 = .ok (.getfield 95, 3) := by decide +kernel
theorem zd_181_191 : decode (zm_cc 181) 191 = .ok (.iload_n 1, 1) := by decide +kernel
theorem zd_181_192 : decode (zm_cc 181) 192 = .ok (.iload_n 2, 1) := by decide +kernel
theorem zd_181_193 : decode (zm_cc 181) 193 = .ok (.iastore, 1) := by decide +kernel
theorem zd_181_194 : decode (zm_cc 181) 194 = .ok (.aload_n 0, 1) := by decide +kernel
theorem zd_181_195 : decode (zm_cc 181) 195 = .ok (.dup, 1) := by decide +kernel
theorem zd_181_196 : decode (zm_cc 181) 196 = .ok (.getfield 377, 3) := by decide +kernel
theorem zd_181_199 : decode (zm_cc 181) 199 = .ok (.iconst 1, 1) := by decide +kernel
theorem zd_181_200 : decode (zm_cc 181) 200 = .ok (.iadd, 1) := by decide +kernel
theorem zd_181_201 : decode (zm_cc 181) 201 = .ok (.putfield 377, 3) := by decide +kernel
theorem zd_181_204 : decode (zm_cc 181) 204 = .ok (.iload_n 2, 1) := by decide +kernel
theorem zd_181_205 : decode (zm_cc 181) 205 = .ok (.ireturn, 1) := by decide +kernel
theorem zd_182_0 : decode (zm_cc 182) 0 = .ok (.iconst 0, 1) := by decide +kernel
theorem zd_182_1 : decode (zm_cc 182) 1 = .ok (.istore_n 2, 1) := by decide +kernel
theorem zd_182_2 : decode (zm_cc 182) 2 = .ok (.iload_n 2, 1) := by decide +kernel
theorem zd_182_3 : decode (zm_cc 182) 3 = .ok (.bipush 40, 2) := by decide +kernel
theorem zd_182_5 : decode (zm_cc 182) 5 = .ok (.if_icmp .ge 26, 3) := by decide +kernel
theorem zd_182_8 : decode (zm_cc 182) 8 = .ok (.aload_n 0, 1) := by decide +kernel
theorem zd_182_9 : decode (zm_cc 182) 9 = .ok (.getfield 88, 3) := by decide +kernel
theorem zd_182_12 : decode (zm_cc 182) 12 = .ok (.iload_n 2, 1) := by decide +kernel
theorem zd_182_13 : decode (zm_cc 182) 13 = .ok (.aload_n 0, 1) := by decide +kernel
theorem zd_182_14 : decode (zm_cc 182) 14 = .ok (.getfield 92, 3) := by decide +kernel
theorem zd_182_17 : decode (zm_cc 182) 17 = .ok (.bipush 40, 2) := by decide +kernel
theorem zd_182_19 : decode (zm_cc 182) 19 = .ok (.iload_n 1, 1) := by decide +kernel
theorem zd_182_20 : decode (zm_cc 182) 20 = .ok (.imul, 1) := by decide +kernel
theorem zd_182_21 : decode (zm_cc 182) 21 = .ok (.iload_n 2, 1) := by decide +kernel
theorem zd_182_22 : decode (zm_cc 182) 22 = .ok (.iadd, 1) := by decide +kernel
theorem zd_182_23 : decode (zm_cc 182) 23 = .ok (.baload, 1) := by decide +kernel
theorem zd_182_24 : decode (zm_cc 182) 24 = .ok (.iastore, 1) := by decide +kernel
theorem zd_182_25 : decode (zm_cc 182) 25 = .ok (.iinc 2 1, 3) := by decide +kernel
theorem zd_182_28 : decode (zm_cc 182) 28 = .ok (.goto (-26), 3) := by decide +kernel
theorem zd_182_31 : decode (zm_cc 182) 31 = .ok (.return_, 1) := by decide +kernel
theorem zd_183_0 : decode (zm_cc 183) 0 = .ok (.iconst 0, 1) := by decide +kernel
theorem zd_183_1 : decode (zm_cc 183) 1 = .ok (.istore_n 2, 1) := by decide +kernel
theorem zd_183_2 : decode (zm_cc 183) 2 = .ok (.iload_n 2, 1) := by decide +kernel
theorem zd_183_3 : decode (zm_cc 183) 3 = .ok (.aload_n 0, 1) := by decide +kernel
theorem zd_183_4 : decode (zm_cc 183) 4 = .ok (.getfield 225, 3) := by decide +kernel
theorem zd_183_7 : decode (zm_cc 183) 7 = .ok (.if_icmp .ge 120, 3) := by decide +kernel
theorem zd_183_10 : decode (zm_cc 183) 10 = .ok (.iload_n 2, 1) := by decide +kernel
theorem zd_183_11 : decode (zm_cc 183) 11 = .ok (.iconst 1, 1) := by decide +kernel
theorem zd_183_12 : decode (zm_cc 183) 12 = .ok (.iadd, 1) := by decide +kernel
theorem zd_183_13 : decode (zm_cc 183) 13 = .ok (.istore_n 3, 1) := by decide +kernel
theorem zd_183_14 : decode (zm_cc 183) 14 = .ok (.iload_n 3, 1) := by decide +kernel
theorem zd_183_15 : decode (zm_cc 183) 15 = .ok (.aload_n 0, 1) := by decide +kernel
theorem zd_183_16 : decode (zm_cc 183) 16 = .ok (.getfield 225, 3) := by decide +kernel
theorem zd_183_19 : decode (zm_cc 183) 19 = .ok (.if_icmp .ge 102, 3) := by decide +kernel
theorem zd_183_22 : decode (zm_cc 183) 22 = .ok (.aload_n 0, 1) := by decide +kernel
theorem zd_183_23 : decode (zm_cc 183) 23 = .ok (.iload_n 2, 1) := by decide +kernel
theorem zd_183_24 : decode (zm_cc 183) 24 = .ok (.invokevirtual 357, 3) := by decide +kernel
theorem zd_183_27 : decode (zm_cc 183) 27 = .ok (.iconst 1, 1) := by decide +kernel
theorem zd_183_28 : decode (zm_cc 183) 28 = .ok (.if_icmp .ne 87, 3) := by decide +kernel
theorem zd_183_31 : decode (zm_cc 183) 31 = .ok (.aload_n 0, 1) := by decide +kernel
theorem zd_183_32 : decode (zm_cc 183) 32 = .ok (.iload_n 3, 1) := by decide +kernel
theorem zd_183_33 : decode (zm_cc 183) 33 = .ok (.invokevirtual 357, 3) := by decide +kernel
theorem zd_183_36 : decode (zm_cc 183) 36 = .ok (.iconst 1, 1) := by decide +kernel
theorem zd_183_37 : decode (zm_cc 183) 37 = .ok (.if_icmp .ne 78, 3) := by decide +kernel
theorem zd_183_40 : decode (zm_cc 183) 40 = .ok (.bipush 24, 2) := by decide +kernel
theorem zd_183_42 : decode (zm_cc 183) 42 = .ok (.iload_n 2, 1) := by decide +kernel
theorem zd_183_43 : decode (zm_cc 183) 43 = .ok (.imul, 1) := by decide +kernel
theorem zd_183_44 : decode (zm_cc 183) 44 = .ok (.aload_n 0, 1) := by decide +kernel
theorem zd_183_45 : decode (zm_cc 183) 45 = .ok (.getfield 88, 3) := by decide +kernel
theorem zd_183_48 : decode (zm_cc 183) 48 = .ok (.aload_n 0, 1) := by decide +kernel
theorem zd_183_49 : decode (zm_cc 183) 49 = .ok (.iload_n 2, 1) := by decide +kernel
theorem zd_183_50 : decode (zm_cc 183) 50 = .ok (.invokevirtual 348, 3) := by decide +kernel
theorem zd_183_53 : decode (zm_cc 183) 53 = .ok (.iaload, 1) := by decide +kernel
theorem zd_183_54 : decode (zm_cc 183) 54 = .ok (.iadd, 1) := by decide +kernel
theorem zd_183_55 : decode (zm_cc 183) 55 = .ok (.istore 4, 2) := by decide +kernel
theorem zd_183_57 : decode (zm_cc 183) 57 = .ok (.bipush 24, 2) := by decide +kernel
theorem zd_183_59 : decode (zm_cc 183) 59 = .ok (.iload_n 3, 1) := by decide +kernel
theorem zd_183_60 : decode (zm_cc 183) 60 = .ok (.imul, 1) := by decide +kernel
theorem zd_183_61 : decode (zm_cc 183) 61 = .ok (.aload_n 0, 1) := by decide +kernel
theorem zd_183_62 : decode (zm_cc 183) 62 = .ok (.getfield 88, 3) := by decide +kernel
theorem zd_183_65 : decode (zm_cc 183) 65 = .ok (.aload_n 0, 1) := by decide +kernel
theorem zd_183_66 : decode (zm_cc 183) 66 = .ok (.iload_n 3, 1) := by decide +kernel
theorem zd_183_67 : decode (zm_cc 183) 67 = .ok (.invokevirtual 348, 3) := by decide +kernel
theorem zd_183_70 : decode (zm_cc 183) 70 = .ok (.iaload, 1) := by decide +kernel
theorem zd_183_71 : decode (zm_cc 183) 71 = .ok (.iadd, 1) := by decide +kernel
theorem zd_183_72 : decode (zm_cc 183) 72 = .ok (.istore 5, 2) := by decide +kernel
theorem zd_183_74 : decode (zm_cc 183) 74 = .ok (.bipush 96, 2) := by decide +kernel
theorem zd_183_76 : decode (zm_cc 183) 76 = .ok (.iload 4, 2) := by decide +kernel
theorem zd_183_78 : decode (zm_cc 183) 78 = .ok (.imul, 1) := by decide +kernel
theorem zd_183_79 : decode (zm_cc 183) 79 = .ok (.iload 5, 2) := by decide +kernel
theorem zd_183_81 : decode (zm_cc 183) 81 = .ok (.iadd, 1) := by decide +kernel
theorem zd_183_82 : decode (zm_cc 183) 82 = .ok (.istore 6, 2) := by decide +kernel
theorem zd_183_84 : decode (zm_cc 183) 84 = .ok (.aload_n 0, 1) := by decide +kernel
theorem zd_183_85 : decode (zm_cc 183) 85 = .ok (.iload 4, 2) := by decide +kernel
theorem zd_183_87 : decode (zm_cc 183) 87 = .ok (.iload 5, 2) := by decide +kernel
theorem zd_183_89 : decode (zm_cc 183) 89 = .ok (.invokevirtual 386, 3) := by decide +kernel
theorem zd_183_92 : decode (zm_cc 183) 92 = .ok (.ifCond .eq 23, 3) := by decide +kernel
theorem zd_183_95 : decode (zm_cc 183) 95 = .ok (.aload_n 0, 1) := by decide +kernel
theorem zd_183_96 : decode (zm_cc 183) 96 = .ok (.getfield 110, 3) := by decide +kernel
theorem zd_183_99 : decode (zm_cc 183) 99 = .ok (.iload 6, 2) := by decide +kernel
theorem zd_183_101 : decode (zm_cc 183) 101 = .ok (.iaload, 1) := by decide +kernel
theorem zd_183_102 : decode (zm_cc 183) 102 = .ok (.ifCond .ne 13, 3) := by decide +kernel
theorem zd_183_105 : decode (zm_cc 183) 105 = .ok (.aload_n 0, 1) := by decide +kernel
theorem zd_183_106 : decode (zm_cc 183) 106 = .ok (.getfield 110, 3) := by decide +kernel
theorem zd_183_109 : decode (zm_cc 183) 109 = .ok (.iload 6, 2) := by decide +kernel
theorem zd_183_111 : decode (zm_cc 183) 111 = .ok (.iload_n 1, 1) := by decide +kernel
theorem zd_183_112 : decode (zm_cc 183) 112 = .ok (.iconst 1, 1) := by decide +kernel
theorem zd_183_113 : decode (zm_cc 183) 113 = .ok (.iadd, 1) := by decide +kernel
theorem zd_183_114 : decode (zm_cc 183) 114 = .ok (.iastore, 1) := by decide +kernel
theorem zd_183_115 : decode (zm_cc 183) 115 = .ok (.iinc 3 1, 3) := by decide +kernel
theorem zd_183_118 : decode (zm_cc 183) 118 = .ok (.goto (-104), 3) := by decide +kernel
theorem zd_183_121 : decode (zm_cc 183) 121 = .ok (.iinc 2 1, 3) := by decide +kernel
theorem zd_183_124 : decode (zm_cc 183) 124 = .ok (.goto (-122), 3) := by decide +kernel
theorem zd_183_127 : decode (zm_cc 183) 127 = .ok (.return_, 1) := by decide +kernel
theorem zd_184_0 : decode (zm_cc 184) 0 = .ok (.aload_n 0, 1) := by decide +kernel
theorem zd_184_1 : decode (zm_cc 184) 1 = .ok (.getfield 88, 3) := by decide +kernel
theorem zd_184_4 : decode (zm_cc 184) 4 = .ok (.aload_n 0, 1) := by decide +kernel
theorem zd_184_5 : decode (zm_cc 184) 5 = .ok (.iload_n 1, 1) := by decide +kernel
theorem zd_184_6 : decode (zm_cc 184) 6 = .ok (.invokevirtual 348, 3) := by decide +kernel
theorem zd_184_9 : decode (zm_cc 184) 9 = .ok (.iconst 1, 1) := by decide +kernel
theorem zd_184_10 : decode (zm_cc 184) 10 = .ok (.iadd, 1) := by decide +kernel
theorem zd_184_11 : decode (zm_cc 184) 11 = .ok (.iaload, 1) := by decide +kernel
theorem zd_184_12 : decode (zm_cc 184) 12 = .ok (.ireturn, 1) := by decide +kernel
theorem zd_185_0 : decode (zm_cc 185) 0 = .ok (.aload_n 0, 1) := by decide +kernel
theorem zd_185_1 : decode (zm_cc 185) 1 = .ok (.iload_n 1, 1) := by decide +kernel
theorem zd_185_2 : decode (zm_cc 185) 2 = .ok (.invokevirtual 383, 3) := by decide +kernel
theorem zd_185_5 : decode (zm_cc 185) 5 = .ok (.ifCond .eq 64, 3) := by decide +kernel
theorem zd_185_8 : decode (zm_cc 185) 8 = .ok (.aload_n 0, 1) := by decide +kernel
theorem zd_185_9 : decode (zm_cc 185) 9 = .ok (.iload_n 2, 1) := by decide +kernel
theorem zd_185_10 : decode (zm_cc 185) 10 = .ok (.invokevirtual 383, 3) := by decide +kernel
theorem zd_185_13 : decode (zm_cc 185) 13 = .ok (.ifCond .eq 56, 3) := by decide +kernel
theorem zd_185_16 : decode (zm_cc 185) 16 = .ok (.aload_n 0, 1) := by decide +kernel
theorem zd_185_17 : decode (zm_cc 185) 17 = .ok (.getfield 46, 3) := by decide +kernel
theorem zd_185_20 : decode (zm_cc 185) 20 = .ok (.iload_n 1, 1) := by decide +kernel
theorem zd_185_21 : decode (zm_cc 185) 21 = .ok (.iaload, 1) := by decide +kernel
theorem zd_185_22 : decode (zm_cc 185) 22 = .ok (.aload_n 0, 1) := by decide +kernel
theorem zd_185_23 : decode (zm_cc 185) 23 = .ok (.getfield 46, 3) := by decide +kernel
theorem zd_185_26 : decode (zm_cc 185) 26 = .ok (.iload_n 2, 1) := by decide +kernel
theorem zd_185_27 : decode (zm_cc 185) 27 = .ok (.iaload, 1) := by decide +kernel
theorem zd_185_28 : decode (zm_cc 185) 28 = .ok (.if_icmp .ne 41, 3) := by decide +kernel
theorem zd_185_31 : decode (zm_cc 185) 31 = .ok (.aload_n 0, 1) := by decide +kernel
theorem zd_185_32 : decode (zm_cc 185) 32 = .ok (.getfield 30, 3) := by decide +kernel
theorem zd_185_35 : decode (zm_cc 185) 35 = .ok (.aload_n 0, 1) := by decide +kernel
theorem zd_185_36 : decode (zm_cc 185) 36 = .ok (.getfield 46, 3) := by decide +kernel
theorem zd_185_39 : decode (zm_cc 185) 39 = .ok (.iload_n 1, 1) := by decide +kernel
theorem zd_185_40 : decode (zm_cc 185) 40 = .ok (.iaload, 1) := by decide +kernel
theorem zd_185_41 : decode (zm_cc 185) 41 = .ok (.baload, 1) := by decide +kernel
theorem zd_185_42 : decode (zm_cc 185) 42 = .ok (.ifCond .ne 27, 3) := by decide +kernel
theorem zd_185_45 : decode (zm_cc 185) 45 = .ok (.aload_n 0, 1) := by decide +kernel
theorem zd_185_46 : decode (zm_cc 185) 46 = .ok (.getfield 43, 3) := by decide +kernel
theorem zd_185_49 : decode (zm_cc 185) 49 = .ok (.iload_n 1, 1) := by decide +kernel
theorem zd_185_50 : decode (zm_cc 185) 50 = .ok (.iaload, 1) := by decide +kernel
theorem zd_185_51 : decode (zm_cc 185) 51 = .ok (.iconst 1, 1) := by decide +kernel
theorem zd_185_52 : decode (zm_cc 185) 52 = .ok (.if_icmp .eq 13, 3) := by decide +kernel
theorem zd_185_55 : decode (zm_cc 185) 55 = .ok (.aload_n 0, 1) := by decide +kernel
theorem zd_185_56 : decode (zm_cc 185) 56 = .ok (.getfield 43, 3) := by decide +kernel
theorem zd_185_59 : decode (zm_cc 185) 59 = .ok (.iload_n 2, 1) := by decide +kernel
theorem zd_185_60 : decode (zm_cc 185) 60 = .ok (.iaload, 1) := by decide +kernel
theorem zd_185_61 : decode (zm_cc 185) 61 = .ok (.iconst 1, 1) := by decide +kernel
theorem zd_185_62 : decode (zm_cc 185) 62 = .ok (.if_icmp .ne 7, 3) := by decide +kernel
theorem zd_185_65 : decode (zm_cc 185) 65 = .ok (.iconst 1, 1) := by decide +kernel
theorem zd_185_66 : decode (zm_cc 185) 66 = .ok (.goto 4, 3) := by decide +kernel
theorem zd_185_69 : decode (zm_cc 185) 69 = .ok (.iconst 0, 1) := by decide +kernel
theorem zd_185_70 : decode (zm_cc 185) 70 = .ok (.ireturn, 1) := by decide +kernel
theorem zd_186_0 : decode (zm_cc 186) 0 = .ok (.aload_n 0, 1) := by decide +kernel
theorem zd_186_1 : decode (zm_cc 186) 1 = .ok (.getfield 43, 3) := by decide +kernel
theorem zd_186_4 : decode (zm_cc 186) 4 = .ok (.iload_n 1, 1) := by decide +kernel
theorem zd_186_5 : decode (zm_cc 186) 5 = .ok (.iaload, 1) := by decide +kernel
theorem zd_186_6 : decode (zm_cc 186) 6 = .ok (.ifCond .eq 13, 3) := by decide +kernel
theorem zd_186_9 : decode (zm_cc 186) 9 = .ok (.aload_n 0, 1) := by decide +kernel
theorem zd_186_10 : decode (zm_cc 186) 10 = .ok (.getfield 43, 3) := by decide +kernel
theorem zd_186_13 : decode (zm_cc 186) 13 = .ok (.iload_n 1, 1) := by decide +kernel
theorem zd_186_14 : decode (zm_cc 186) 14 = .ok (.iaload, 1) := by decide +kernel
theorem zd_186_15 : decode (zm_cc 186) 15 = .ok (.iconst 1, 1) := by decide +kernel
theorem zd_186_16 : decode (zm_cc 186) 16 = .ok (.if_icmp .ne 7, 3) := by decide +kernel
theorem zd_186_19 : decode (zm_cc 186) 19 = .ok (.iconst 1, 1) := by decide +kernel
theorem zd_186_20 : decode (zm_cc 186) 20 = .ok (.goto 4, 3) := by decide +kernel
theorem zd_186_23 : decode (zm_cc 186) 23 = .ok (.iconst 0, 1) := by decide +kernel
theorem zd_186_24 : decode (zm_cc 186) 24 = .ok (.ireturn, 1) := by decide +kernel
theorem zd_187_0 : decode (zm_cc 187) 0 = .ok (.aload_n 0, 1) := by decide +kernel
theorem zd_187_1 : decode (zm_cc 187) 1 = .ok (.iload_n 1, 1) := by decide +kernel
theorem zd_187_2 : decode (zm_cc 187) 2 = .ok (.invokevirtual 357, 3) := by decide +kernel
theorem zd_187_5 : decode (zm_cc 187) 5 = .ok (.istore_n 2, 1) := by decide +kernel
theorem zd_187_6 : decode (zm_cc 187) 6 = .ok (.bipush 24, 2) := by decide +kernel
theorem zd_187_8 : decode (zm_cc 187) 8 = .ok (.iload_n 1, 1) := by decide +kernel
theorem zd_187_9 : decode (zm_cc 187) 9 = .ok (.imul, 1) := by decide +kernel
theorem zd_187_10 : decode (zm_cc 187) 10 = .ok (.aload_n 0, 1) := by decide +kernel
theorem zd_187_11 : decode (zm_cc 187) 11 = .ok (.getfield 88, 3) := by decide +kernel
theorem zd_187_14 : decode (zm_cc 187) 14 = .ok (.aload_n 0, 1) := by decide +kernel
theorem zd_187_15 : decode (zm_cc 187) 15 = .ok (.iload_n 1, 1) := by decide +kernel
theorem zd_187_16 : decode (zm_cc 187) 16 = .ok (.invokevirtual 348, 3) := by decide +kernel
theorem zd_187_19 : decode (zm_cc 187) 19 = .ok (.iaload, 1) := by decide +kernel
theorem zd_187_20 : decode (zm_cc 187) 20 = .ok (.iadd, 1) := by decide +kernel
theorem zd_187_21 : decode (zm_cc 187) 21 = .ok (.istore_n 3, 1) := by decide +kernel
theorem zd_187_22 : decode (zm_cc 187) 22 = .ok (.iload_n 2, 1) := by decide +kernel
theorem zd_187_23 : decode (zm_cc 187) 23 = .ok (.iconst 3, 1) := by decide +kernel
theorem zd_187_24 : decode (zm_cc 187) 24 = .ok (.if_icmp .ne 26, 3) := by decide +kernel
theorem zd_187_27 : decode (zm_cc 187) 27 = .ok (.aload_n 0, 1) := by decide +kernel
theorem zd_187_28 : decode (zm_cc 187) 28 = .ok (.getfield 88, 3) := by decide +kernel
theorem zd_187_31 : decode (zm_cc 187) 31 = .ok (.bipush 6, 2) := by decide +kernel
theorem zd_187_33 : decode (zm_cc 187) 33 = .ok (.aload_n 0, 1) := by decide +kernel
theorem zd_187_34 : decode (zm_cc 187) 34 = .ok (.getfield 46, 3) := by decide +kernel
theorem zd_187_37 : decode (zm_cc 187) 37 = .ok (.iload_n 3, 1) := by decide +kernel
theorem zd_187_38 : decode (zm_cc 187) 38 = .ok (.iaload, 1) := by decide +kernel
theorem zd_187_39 : decode (zm_cc 187) 39 = .ok (.iadd, 1) := by decide +kernel
theorem zd_187_40 : decode (zm_cc 187) 40 = .ok (.iaload, 1) := by decide +kernel
theorem zd_187_41 : decode (zm_cc 187) 41 = .ok (.ifCond .ne 7, 3) := by decide +kernel
theorem zd_187_44 : decode (zm_cc 187) 44 = .ok (.iconst 1, 1) := by decide +kernel
theorem zd_187_45 : decode (zm_cc 187) 45 = .ok (.goto 4, 3) := by decide +kernel
theorem zd_187_48 : decode (zm_cc 187) 48 = .ok (.iconst 0, 1) := by decide +kernel
theorem zd_187_49 : decode (zm_cc 187) 49 = .ok (.ireturn, 1) := by decide +kernel
theorem zd_187_50 : decode (zm_cc 187) 50 = .ok (.iload_n 2, 1) := by decide +kernel
theorem zd_187_51 : decode (zm_cc 187) 51 = .ok (.iconst 1, 1) := by decide +kernel
theorem zd_187_52 : decode (zm_cc 187) 52 = .ok (.if_icmp .eq 5, 3) := by decide +kernel
theorem zd_187_55 : decode (zm_cc 187) 55 = .ok (.iconst 0, 1) := by decide +kernel
theorem zd_187_56 : decode (zm_cc 187) 56 = .ok (.ireturn, 1) := by decide +kernel
theorem zd_187_57 : decode (zm_cc 187) 57 = .ok (.aload_n 0, 1) := by decide +kernel
theorem zd_187_58 : decode (zm_cc 187) 58 = .ok (.getfield 43, 3) := by decide +kernel
theorem zd_187_61 : decode (zm_cc 187) 61 = .ok (.iload_n 3, 1) := by decide +kernel
theorem zd_187_62 : decode (zm_cc 187) 62 = .ok (.iaload, 1) := by decide +kernel
theorem zd_187_63 : decode (zm_cc 187) 63 = .ok (.iconst 3, 1) := by decide +kernel
theorem zd_187_64 : decode (zm_cc 187) 64 = .ok (.if_icmp .ne 38, 3) := by decide +kernel
theorem zd_187_67 : decode (zm_cc 187) 67 = .ok (.aload_n 0, 1) := by decide +kernel
theorem zd_187_68 : decode (zm_cc 187) 68 = .ok (.getfield 88, 3) := by decide +kernel
theorem zd_187_71 : decode (zm_cc 187) 71 = .ok (.bipush 6, 2) := by decide +kernel
theorem zd_187_73 : decode (zm_cc 187) 73 = .ok (.aload_n 0, 1) := by decide +kernel
theorem zd_187_74 : decode (zm_cc 187) 74 = .ok (.getfield 46, 3) := by decide +kernel
theorem zd_187_77 : decode (zm_cc 187) 77 = .ok (.iload_n 3, 1) := by decide +kernel
theorem zd_187_78 : decode (zm_cc 187) 78 = .ok (.iaload, 1) := by decide +kernel
theorem zd_187_79 : decode (zm_cc 187) 79 = .ok (.iadd, 1) := by decide +kernel
theorem zd_187_80 : decode (zm_cc 187) 80 = .ok (.iaload, 1) := by decide +kernel
theorem zd_187_81 : decode (zm_cc 187) 81 = .ok (.istore 4, 2) := by decide +kernel
theorem zd_187_83 : decode (zm_cc 187) 83 = .ok (.iload 4, 2) := by decide +kernel
theorem zd_187_85 : decode (zm_cc 187) 85 = .ok (.ifCond .eq 11, 3) := by decide +kernel
theorem zd_187_88 : decode (zm_cc 187) 88 = .ok (.iload 4, 2) := by decide +kernel
theorem zd_187_90 : decode (zm_cc 187) 90 = .ok (.iload_n 1, 1) := by decide +kernel
theorem zd_187_91 : decode (zm_cc 187) 91 = .ok (.iconst 1, 1) := by decide +kernel
theorem zd_187_92 : decode (zm_cc 187) 92 = .ok (.iadd, 1) := by decide +kernel
theorem zd_187_93 : decode (zm_cc 187) 93 = .ok (.if_icmp .ne 7, 3) := by decide +kernel
theorem zd_187_96 : decode (zm_cc 187) 96 = .ok (.iconst 1, 1) := by decide +kernel
theorem zd_187_97 : decode (zm_cc 187) 97 = .ok (.goto 4, 3) := by decide +kernel
theorem zd_187_100 : decode (zm_cc 187) 100 = .ok (.iconst 0, 1) := by decide +kernel
theorem zd_187_101 : decode (zm_cc 187) 101 = .ok (.ireturn, 1) := by decide +kernel
theorem zd_187_102 : decode (zm_cc 187) 102 = .ok (.aload_n 0, 1) := by decide +kernel
theorem zd_187_103 : decode (zm_cc 187) 103 = .ok (.getfield 43, 3) := by decide +kernel
theorem zd_187_106 : decode (zm_cc 187) 106 = .ok (.iload_n 3, 1) := by decide +kernel
theorem zd_187_107 : decode (zm_cc 187) 107 = .ok (.iaload, 1) := by decide +kernel
theorem zd_187_108 : decode (zm_cc 187) 108 = .ok (.bipush 11, 2) := by decide +kernel
theorem zd_187_110 : decode (zm_cc 187) 110 = .ok (.if_icmp .ne 31, 3) := by decide +kernel
theorem zd_187_113 : decode (zm_cc 187) 113 = .ok (.aload_n 0, 1) := by decide +kernel
theorem zd_187_114 : decode (zm_cc 187) 114 = .ok (.aload_n 0, 1) := by decide +kernel
theorem zd_187_115 : decode (zm_cc 187) 115 = .ok (.getfield 46, 3) := by decide +kernel
theorem zd_187_118 : decode (zm_cc 187) 118 = .ok (.iload_n 3, 1) := by decide +kernel
theorem zd_187_119 : decode (zm_cc 187) 119 = .ok (.iaload, 1) := by decide +kernel
theorem zd_187_120 : decode (zm_cc 187) 120 = .ok (.invokevirtual 357, 3) := by decide +kernel
theorem zd_187_123 : decode (zm_cc 187) 123 = .ok (.iconst 4, 1) := by decide +kernel
theorem zd_187_124 : decode (zm_cc 187) 124 = .ok (.if_icmp .eq 17, 3) := by decide +kernel
theorem zd_187_127 : decode (zm_cc 187) 127 = .ok (.aload_n 0, 1) := by decide +kernel
theorem zd_187_128 : decode (zm_cc 187) 128 = .ok (.aload_n 0, 1) := by decide +kernel
theorem zd_187_129 : decode (zm_cc 187) 129 = .ok (.getfield 46, 3) := by decide +kernel
theorem zd_187_132 : decode (zm_cc 187) 132 = .ok (.iload_n 3, 1) := by decide +kernel
theorem zd_187_133 : decode (zm_cc 187) 133 = .ok (.iaload, 1) := by decide +kernel
theorem zd_187_134 : decode (zm_cc 187) 134 = .ok (.invokevirtual 357, 3) := by decide +kernel
theorem zd_187_137 : decode (zm_cc 187) 137 = .ok (.iconst 5, 1) := by decide +kernel
theorem zd_187_138 : decode (zm_cc 187) 138 = .ok (.if_icmp .ne 7, 3) := by decide +kernel
theorem zd_187_141 : decode (zm_cc 187) 141 = .ok (.iconst 1, 1) := by decide +kernel
theorem zd_187_142 : decode (zm_cc 187) 142 = .ok (.goto 4, 3) := by decide +kernel
theorem zd_187_145 : decode (zm_cc 187) 145 = .ok (.iconst 0, 1) := by decide +kernel
theorem zd_187_146 : decode (zm_cc 187) 146 = .ok (.ireturn, 1) := by decide +kernel
theorem zd_188_0 : decode (zm_cc 188) 0 = .ok (.bipush 24, 2) := by decide +kernel
theorem zd_188_2 : decode (zm_cc 188) 2 = .ok (.iload_n 1, 1) := by decide +kernel
theorem zd_188_3 : decode (zm_cc 188) 3 = .ok (.imul, 1) := by decide +kernel
theorem zd_188_4 : decode (zm_cc 188) 4 = .ok (.aload_n 0, 1) := by decide +kernel
theorem zd_188_5 : decode (zm_cc 188) 5 = .ok (.getfield 88, 3) := by decide +kernel
theorem zd_188_8 : decode (zm_cc 188) 8 = .ok (.aload_n 0, 1) := by decide +kernel
theorem zd_188_9 : decode (zm_cc 188) 9 = .ok (.iload_n 1, 1) := by decide +kernel
theorem zd_188_10 : decode (zm_cc 188) 10 = .ok (.invokevirtual 348, 3) := by decide +kernel
theorem zd_188_13 : decode (zm_cc 188) 13 = .ok (.iaload, 1) := by decide +kernel
theorem zd_188_14 : decode (zm_cc 188) 14 = .ok (.iadd, 1) := by decide +kernel
theorem zd_188_15 : decode (zm_cc 188) 15 = .ok (.istore_n 2, 1) := by decide +kernel
theorem zd_188_16 : decode (zm_cc 188) 16 = .ok (.aload_n 0, 1) := by decide +kernel
theorem zd_188_17 : decode (zm_cc 188) 17 = .ok (.getfield 46, 3) := by decide +kernel
theorem zd_188_20 : decode (zm_cc 188) 20 = .ok (.iload_n 2, 1) := by decide +kernel
theorem zd_188_21 : decode (zm_cc 188) 21 = .ok (.iaload, 1) := by decide +kernel
theorem zd_188_22 : decode (zm_cc 188) 22 = .ok (.istore_n 3, 1) := by decide +kernel
theorem zd_188_23 : decode (zm_cc 188) 23 = .ok (.aload_n 0, 1) := by decide +kernel
theorem zd_188_24 : decode (zm_cc 188) 24 = .ok (.iload_n 1, 1) := by decide +kernel
theorem zd_188_25 : decode (zm_cc 188) 25 = .ok (.invokevirtual 357, 3) := by decide +kernel
theorem zd_188_28 : decode (zm_cc 188) 28 = .ok (.iconst 3, 1) := by decide +kernel
theorem zd_188_29 : decode (zm_cc 188) 29 = .ok (.if_icmp .ne 74, 3) := by decide +kernel
theorem zd_188_32 : decode (zm_cc 188) 32 = .ok (.aload_n 0, 1) := by decide +kernel
theorem zd_188_33 : decode (zm_cc 188) 33 = .ok (.getfield 88, 3) := by decide +kernel
theorem zd_188_36 : decode (zm_cc 188) 36 = .ok (.bipush 6, 2) := by decide +kernel
theorem zd_188_38 : decode (zm_cc 188) 38 = .ok (.iload_n 3, 1) := by decide +kernel
theorem zd_188_39 : decode (zm_cc 188) 39 = .ok (.iadd, 1) := by decide +kernel
theorem zd_188_40 : decode (zm_cc 188) 40 = .ok (.iload_n 1, 1) := by decide +kernel
theorem zd_188_41 : decode (zm_cc 188) 41 = .ok (.iconst 1, 1) := by decide +kernel
theorem zd_188_42 : decode (zm_cc 188) 42 = .ok (.iadd, 1) := by decide +kernel
theorem zd_188_43 : decode (zm_cc 188) 43 = .ok (.iastore, 1) := by decide +kernel
theorem zd_188_44 : decode (zm_cc 188) 44 = .ok (.aload_n 0, 1) := by decide +kernel
theorem zd_188_45 : decode (zm_cc 188) 45 = .ok (.getfield 88, 3) := by decide +kernel
theorem zd_188_48 : decode (zm_cc 188) 48 = .ok (.bipush 10, 2) := by decide +kernel
theorem zd_188_50 : decode (zm_cc 188) 50 = .ok (.iload_n 3, 1) := by decide +kernel
theorem zd_188_51 : decode (zm_cc 188) 51 = .ok (.iadd, 1) := by decide +kernel
theorem zd_188_52 : decode (zm_cc 188) 52 = .ok (.aload_n 0, 1) := by decide +kernel
theorem zd_188_53 : decode (zm_cc 188) 53 = .ok (.getfield 88, 3) := by decide +kernel
theorem zd_188_56 : decode (zm_cc 188) 56 = .ok (.aload_n 0, 1) := by decide +kernel
theorem zd_188_57 : decode (zm_cc 188) 57 = .ok (.iload_n 1, 1) := by decide +kernel
theorem zd_188_58 : decode (zm_cc 188) 58 = .ok (.invokevirtual 348, 3) := by decide +kernel
theorem zd_188_61 : decode (zm_cc 188) 61 = .ok (.iconst 5, 1) := by decide +kernel
theorem zd_188_62 : decode (zm_cc 188) 62 = .ok (.iadd, 1) := by decide +kernel
theorem zd_188_63 : decode (zm_cc 188) 63 = .ok (.iaload, 1) := by decide +kernel
theorem zd_188_64 : decode (zm_cc 188) 64 = .ok (.iastore, 1) := by decide +kernel
theorem zd_188_65 : decode (zm_cc 188) 65 = .ok (.aload_n 0, 1) := by decide +kernel
theorem zd_188_66 : decode (zm_cc 188) 66 = .ok (.getfield 88, 3) := by decide +kernel
theorem zd_188_69 : decode (zm_cc 188) 69 = .ok (.aload_n 0, 1) := by decide +kernel
theorem zd_188_70 : decode (zm_cc 188) 70 = .ok (.iload_n 1, 1) := by decide +kernel
theorem zd_188_71 : decode (zm_cc 188) 71 = .ok (.invokevirtual 348, 3) := by decide +kernel
theorem zd_188_74 : decode (zm_cc 188) 74 = .ok (.iconst 5, 1) := by decide +kernel
theorem zd_188_75 : decode (zm_cc 188) 75 = .ok (.iadd, 1) := by decide +kernel
theorem zd_188_76 : decode (zm_cc 188) 76 = .ok (.iconst 0, 1) := by decide +kernel
theorem zd_188_77 : decode (zm_cc 188) 77 = .ok (.iastore, 1) := by decide +kernel
theorem zd_188_78 : decode (zm_cc 188) 78 = .ok (.aload_n 0, 1) := by decide +kernel
theorem zd_188_79 : decode (zm_cc 188) 79 = .ok (.getfield 88, 3) := by decide +kernel
theorem zd_188_82 : decode (zm_cc 188) 82 = .ok (.aload_n 0, 1) := by decide +kernel
theorem zd_188_83 : decode (zm_cc 188) 83 = .ok (.iload_n 1, 1) := by decide +kernel
theorem zd_188_84 : decode (zm_cc 188) 84 = .ok (.invokevirtual 348, 3) := by decide +kernel
theorem zd_188_87 : decode (zm_cc 188) 87 = .ok (.iconst 1, 1) := by decide +kernel
theorem zd_188_88 : decode (zm_cc 188) 88 = .ok (.iadd, 1) := by decide +kernel
theorem zd_188_89 : decode (zm_cc 188) 89 = .ok (.iconst 1, 1) := by decide +kernel
theorem zd_188_90 : decode (zm_cc 188) 90 = .ok (.iastore, 1) := by decide +kernel
theorem zd_188_91 : decode (zm_cc 188) 91 = .ok (.aload_n 0, 1) := by decide +kernel
theorem zd_188_92 : decode (zm_cc 188) 92 = .ok (.iload_n 1, 1) := by decide +kernel
theorem zd_188_93 : decode (zm_cc 188) 93 = .ok (.aload_n 0, 1) := by decide +kernel
theorem zd_188_94 : decode (zm_cc 188) 94 = .ok (.getfield 49, 3) := by decide +kernel
theorem zd_188_97 : decode (zm_cc 188) 97 = .ok (.iload_n 2, 1) := by decide +kernel
theorem zd_188_98 : decode (zm_cc 188) 98 = .ok (.iaload, 1) := by decide +kernel
theorem zd_188_99 : decode (zm_cc 188) 99 = .ok (.invokevirtual 360, 3) := by decide +kernel
theorem zd_188_102 : decode (zm_cc 188) 102 = .ok (.return_, 1) := by decide +kernel
theorem zd_188_103 : decode (zm_cc 188) 103 = .ok (.aload_n 0, 1) := by decide +kernel
theorem zd_188_104 : decode (zm_cc 188) 104 = .ok (.getfield 43, 3) := by decide +kernel
theorem zd_188_107 : decode (zm_cc 188) 107 = .ok (.iload_n 2, 1) := by decide +kernel
theorem zd_188_108 : decode (zm_cc 188) 108 = .ok (.iaload, 1) := by decide +kernel
theorem zd_188_109 : decode (zm_cc 188) 109 = .ok (.bipush 7, 2) := by decide +kernel
theorem zd_188_111 : decode (zm_cc 188) 111 = .ok (.bipush 9, 2) := by decide +kernel
theorem zd_188_113 : decode (zm_cc 188) 113 = .ok (.invokestatic 128, 3) := by decide +kernel
theorem zd_188_116 : decode (zm_cc 188) 116 = .ok (.ifCond .eq 22, 3) := by decide +kernel
theorem zd_188_119 : decode (zm_cc 188) 119 = .ok (.aload_n 0, 1) := by decide +kernel
theorem zd_188_120 : decode (zm_cc 188) 120 = .ok (.getfield 88, 3) := by decide +kernel
theorem zd_188_123 : decode (zm_cc 188) 123 = .ok (.bipush 6, 2) := by decide +kernel
theorem zd_188_125 : decode (zm_cc 188) 125 = .ok (.iload_n 3, 1) := by decide +kernel
theorem zd_188_126 : decode (zm_cc 188) 126 = .ok (.iadd, 1) := by decide +kernel
theorem zd_188_127 : decode (zm_cc 188) 127 = .ok (.iaload, 1) := by decide +kernel
theorem zd_188_128 : decode (zm_cc 188) 128 = .ok (.iload_n 1, 1) := by decide +kernel
theorem zd_188_129 : decode (zm_cc 188) 129 = .ok (.iconst 1, 1) := by decide +kernel
theorem zd_188_130 : decode (zm_cc 188) 130 = .ok (.iadd, 1) := by decide +kernel
theorem zd_188_131 : decode (zm_cc 188) 131 = .ok (.if_icmp .ne 7, 3) := by decide +kernel
theorem zd_188_134 : decode (zm_cc 188) 134 = .ok (.iconst 1, 1) := by decide +kernel
theorem zd_188_135 : decode (zm_cc 188) 135 = .ok (.goto 4, 3) := by decide +kernel
theorem zd_188_138 : decode (zm_cc 188) 138 = .ok (.iconst 0, 1) := by decide +kernel
theorem zd_188_139 : decode (zm_cc 188) 139 = .ok (.istore 4, 2) := by decide +kernel
theorem zd_188_141 : decode (zm_cc 188) 141 = .ok (.aload_n 0, 1) := by decide +kernel
theorem zd_188_142 : decode (zm_cc 188) 142 = .ok (.getfield 43, 3) := by decide +kernel
theorem zd_188_145 : decode (zm_cc 188) 145 = .ok (.iload_n 2, 1) := by decide +kernel
theorem zd_188_146 : decode (zm_cc 188) 146 = .ok (.iaload, 1) := by decide +kernel
theorem zd_188_147 : decode (zm_cc 188) 147 = .ok (.tableswitch 471 0 13 #[69, 97, 117, 217, 245, 289, 289, 319, 387, 387, 422, 471, 444, 459], 69) := by decide +kernel
theorem zd_188_216 : decode (zm_cc 188) 216 = .ok (.aload_n 0, 1) := by decide +kernel
theorem zd_188_217 : decode (zm_cc 188) 217 = .ok (.getfield 88, 3) := by decide +kernel
theorem zd_188_220 : decode (zm_cc 188) 220 = .ok (.aload_n 0, 1) := by decide +kernel
theorem zd_188_221 : decode (zm_cc 188) 221 = .ok (.iload_n 1, 1) := by decide +kernel
theorem zd_188_222 : decode (zm_cc 188) 222 = .ok (.invokevirtual 348, 3) := by decide +kernel
theorem zd_188_225 : decode (zm_cc 188) 225 = .ok (.iconst 2, 1) := by decide +kernel
theorem zd_188_226 : decode (zm_cc 188) 226 = .ok (.iadd, 1) := by decide +kernel
theorem zd_188_227 : decode (zm_cc 188) 227 = .ok (.aload_n 0, 1) := by decide +kernel
theorem zd_188_228 : decode (zm_cc 188) 228 = .ok (.getfield 61, 3) := by decide +kernel
theorem zd_188_231 : decode (zm_cc 188) 231 = .ok (.iload_n 2, 1) := by decide +kernel
theorem zd_188_232 : decode (zm_cc 188) 232 = .ok (.iaload, 1) := by decide +kernel
theorem zd_188_233 : decode (zm_cc 188) 233 = .ok (.iadd, 1) := by decide +kernel
theorem zd_188_234 : decode (zm_cc 188) 234 = .ok (.aload_n 0, 1) := by decide +kernel
theorem zd_188_235 : decode (zm_cc 188) 235 = .ok (.getfield 88, 3) := by decide +kernel
theorem zd_188_238 : decode (zm_cc 188) 238 = .ok (.iload_n 3, 1) := by decide +kernel
theorem zd_188_239 : decode (zm_cc 188) 239 = .ok (.iaload, 1) := by decide +kernel
theorem zd_188_240 : decode (zm_cc 188) 240 = .ok (.iastore, 1) := by decide +kernel
theorem zd_188_241 : decode (zm_cc 188) 241 = .ok (.goto 377, 3) := by decide +kernel
theorem zd_188_244 : decode (zm_cc 188) 244 = .ok (.aload_n 0, 1) := by decide +kernel
theorem zd_188_245 : decode (zm_cc 188) 245 = .ok (.getfield 88, 3) := by decide +kernel
theorem zd_188_248 : decode (zm_cc 188) 248 = .ok (.iload_n 3, 1) := by decide +kernel
theorem zd_188_249 : decode (zm_cc 188) 249 = .ok (.aload_n 0, 1) := by decide +kernel
theorem zd_188_250 : decode (zm_cc 188) 250 = .ok (.iload_n 1, 1) := by decide +kernel
theorem zd_188_251 : decode (zm_cc 188) 251 = .ok (.aload_n 0, 1) := by decide +kernel
theorem zd_188_252 : decode (zm_cc 188) 252 = .ok (.getfield 64, 3) := by decide +kernel
theorem zd_188_255 : decode (zm_cc 188) 255 = .ok (.iload_n 2, 1) := by decide +kernel
theorem zd_188_256 : decode (zm_cc 188) 256 = .ok (.iaload, 1) := by decide +kernel
theorem zd_188_257 : decode (zm_cc 188) 257 = .ok (.invokevirtual 351, 3) := by decide +kernel
theorem zd_188_260 : decode (zm_cc 188) 260 = .ok (.iastore, 1) := by decide +kernel
theorem zd_188_261 : decode (zm_cc 188) 261 = .ok (.goto 357, 3) := by decide +kernel
theorem zd_188_264 : decode (zm_cc 188) 264 = .ok (.aload_n 0, 1) := by decide +kernel
theorem zd_188_265 : decode (zm_cc 188) 265 = .ok (.iload_n 1, 1) := by decide +kernel
theorem zd_188_266 : decode (zm_cc 188) 266 = .ok (.aload_n 0, 1) := by decide +kernel
theorem zd_188_267 : decode (zm_cc 188) 267 = .ok (.getfield 64, 3) := by decide +kernel
theorem zd_188_270 : decode (zm_cc 188) 270 = .ok (.iload_n 2, 1) := by decide +kernel
theorem zd_188_271 : decode (zm_cc 188) 271 = .ok (.iaload, 1) := by decide +kernel
theorem zd_188_272 : decode (zm_cc 188) 272 = .ok (.invokevirtual 351, 3) := by decide +kernel
theorem zd_188_275 : decode (zm_cc 188) 275 = .ok (.istore 5, 2) := by decide +kernel
theorem zd_188_277 : decode (zm_cc 188) 277 = .ok (.aload_n 0, 1) := by decide +kernel
theorem zd_188_278 : decode (zm_cc 188) 278 = .ok (.getfield 70, 3) := by decide +kernel
theorem zd_188_281 : decode (zm_cc 188) 281 = .ok (.iload_n 2, 1) := by decide +kernel
theorem zd_188_282 : decode (zm_cc 188) 282 = .ok (.iaload, 1) := by decide +kernel
theorem zd_188_283 : decode (zm_cc 188) 283 = .ok (.bipush 43, 2) := by decide +kernel
theorem zd_188_285 : decode (zm_cc 188) 285 = .ok (.if_icmp .ne 20, 3) := by decide +kernel
theorem zd_188_288 : decode (zm_cc 188) 288 = .ok (.iload 5, 2) := by decide +kernel
theorem zd_188_290 : decode (zm_cc 188) 290 = .ok (.aload_n 0, 1) := by decide +kernel
theorem zd_188_291 : decode (zm_cc 188) 291 = .ok (.iload_n 1, 1) := by decide +kernel
theorem zd_188_292 : decode (zm_cc 188) 292 = .ok (.aload_n 0, 1) := by decide +kernel
theorem zd_188_293 : decode (zm_cc 188) 293 = .ok (.getfield 67, 3) := by decide +kernel
theorem zd_188_296 : decode (zm_cc 188) 296 = .ok (.iload_n 2, 1) := by decide +kernel
theorem zd_188_297 : decode (zm_cc 188) 297 = .ok (.iaload, 1) := by decide +kernel
theorem zd_188_298 : decode (zm_cc 188) 298 = .ok (.invokevirtual 351, 3) := by decide +kernel
theorem zd_188_301 : decode (zm_cc 188) 301 = .ok (.iadd, 1) := by decide +kernel
theorem zd_188_302 : decode (zm_cc 188) 302 = .ok (.goto 33, 3) := by decide +kernel
theorem zd_188_305 : decode (zm_cc 188) 305 = .ok (.aload_n 0, 1) := by decide +kernel
theorem zd_188_306 : decode (zm_cc 188) 306 = .ok (.getfield 70, 3) := by decide +kernel
theorem zd_188_309 : decode (zm_cc 188) 309 = .ok (.iload_n 2, 1) := by decide +kernel
theorem zd_188_310 : decode (zm_cc 188) 310 = .ok (.iaload, 1) := by decide +kernel
theorem zd_188_311 : decode (zm_cc 188) 311 = .ok (.bipush 45, 2) := by decide +kernel
theorem zd_188_313 : decode (zm_cc 188) 313 = .ok (.if_icmp .ne 20, 3) := by decide +kernel
theorem zd_188_316 : decode (zm_cc 188) 316 = .ok (.iload 5, 2) := by decide +kernel
theorem zd_188_318 : decode (zm_cc 188) 318 = .ok (.aload_n 0, 1) := by decide +kernel
theorem zd_188_319 : decode (zm_cc 188) 319 = .ok (.iload_n 1, 1) := by decide +kernel
theorem zd_188_320 : decode (zm_cc 188) 320 = .ok (.aload_n 0, 1) := by decide +kernel
theorem zd_188_321 : decode (zm_cc 188) 321 = .ok (.getfield 67, 3) := by decide +kernel
theorem zd_188_324 : decode (zm_cc 188) 324 = .ok (.iload_n 2, 1) := by decide +kernel
theorem zd_188_325 : decode (zm_cc 188) 325 = .ok (.iaload, 1) := by decide +kernel
theorem zd_188_326 : decode (zm_cc 188) 326 = .ok (.invokevirtual 351, 3) := by decide +kernel
theorem zd_188_329 : decode (zm_cc 188) 329 = .ok (.isub, 1) := by decide +kernel
theorem zd_188_330 : decode (zm_cc 188) 330 = .ok (.goto 5, 3) := by decide +kernel
theorem zd_188_333 : decode (zm_cc 188) 333 = .ok (.iload 5, 2) := by decide +kernel
theorem zd_188_335 : decode (zm_cc 188) 335 = .ok (.istore 5, 2) := by decide +kernel
theorem zd_188_337 : decode (zm_cc 188) 337 = .ok (.aload_n 0, 1) := by decide +kernel
theorem zd_188_338 : decode (zm_cc 188) 338 = .ok (.getfield 88, 3) := by decide +kernel
theorem zd_188_341 : decode (zm_cc 188) 341 = .ok (.aload_n 0, 1) := by decide +kernel
theorem zd_188_342 : decode (zm_cc 188) 342 = .ok (.iload_n 1, 1) := by decide +kernel
theorem zd_188_343 : decode (zm_cc 188) 343 = .ok (.invokevirtual 348, 3) := by decide +kernel
theorem zd_188_346 : decode (zm_cc 188) 346 = .ok (.iconst 2, 1) := by decide +kernel
theorem zd_188_347 : decode (zm_cc 188) 347 = .ok (.iadd, 1) := by decide +kernel
theorem zd_188_348 : decode (zm_cc 188) 348 = .ok (.aload_n 0, 1) := by decide +kernel
theorem zd_188_349 : decode (zm_cc 188) 349 = .ok (.getfield 61, 3) := by decide +kernel
theorem zd_188_352 : decode (zm_cc 188) 352 = .ok (.iload_n 2, 1) := by decide +kernel
theorem zd_188_353 : decode (zm_cc 188) 353 = .ok (.iaload, 1) := by decide +kernel
theorem zd_188_354 : decode (zm_cc 188) 354 = .ok (.iadd, 1) := by decide +kernel
theorem zd_188_355 : decode (zm_cc 188) 355 = .ok (.iload 5, 2) := by decide +kernel
theorem zd_188_357 : decode (zm_cc 188) 357 = .ok (.bipush 7, 2) := by decide +kernel
theorem zd_188_359 : decode (zm_cc 188) 359 = .ok (.iand, 1) := by decide +kernel
theorem zd_188_360 : decode (zm_cc 188) 360 = .ok (.iastore, 1) := by decide +kernel
theorem zd_188_361 : decode (zm_cc 188) 361 = .ok (.goto 257, 3) := by decide +kernel
theorem zd_188_364 : decode (zm_cc 188) 364 = .ok (.aload_n 0, 1) := by decide +kernel
theorem zd_188_365 : decode (zm_cc 188) 365 = .ok (.getfield 88, 3) := by decide +kernel
theorem zd_188_368 : decode (zm_cc 188) 368 = .ok (.bipush 6, 2) := by decide +kernel
theorem zd_188_370 : decode (zm_cc 188) 370 = .ok (.iload_n 3, 1) := by decide +kernel
theorem zd_188_371 : decode (zm_cc 188) 371 = .ok (.iadd, 1) := by decide +kernel
theorem zd_188_372 : decode (zm_cc 188) 372 = .ok (.iload_n 1, 1) := by decide +kernel
theorem zd_188_373 : decode (zm_cc 188) 373 = .ok (.iconst 1, 1) := by decide +kernel
theorem zd_188_374 : decode (zm_cc 188) 374 = .ok (.iadd, 1) := by decide +kernel
theorem zd_188_375 : decode (zm_cc 188) 375 = .ok (.iastore, 1) := by decide +kernel
theorem zd_188_376 : decode (zm_cc 188) 376 = .ok (.aload_n 0, 1) := by decide +kernel
theorem zd_188_377 : decode (zm_cc 188) 377 = .ok (.getfield 88, 3) := by decide +kernel
theorem zd_188_380 : decode (zm_cc 188) 380 = .ok (.bipush 10, 2) := by decide +kernel
theorem zd_188_382 : decode (zm_cc 188) 382 = .ok (.iload_n 3, 1) := by decide +kernel
theorem zd_188_383 : decode (zm_cc 188) 383 = .ok (.iadd, 1) := by decide +kernel
theorem zd_188_384 : decode (zm_cc 188) 384 = .ok (.dup2, 1) := by decide +kernel
theorem zd_188_385 : decode (zm_cc 188) 385 = .ok (.iaload, 1) := by decide +kernel
theorem zd_188_386 : decode (zm_cc 188) 386 = .ok (.iconst 1, 1) := by decide +kernel
theorem zd_188_387 : decode (zm_cc 188) 387 = .ok (.iadd, 1) := by decide +kernel
theorem zd_188_388 : decode (zm_cc 188) 388 = .ok (.iastore, 1) := by decide +kernel
theorem zd_188_389 : decode (zm_cc 188) 389 = .ok (.goto 229, 3) := by decide +kernel
theorem zd_188_392 : decode (zm_cc 188) 392 = .ok (.aload_n 0, 1) := by decide +kernel
theorem zd_188_393 : decode (zm_cc 188) 393 = .ok (.getfield 88, 3) := by decide +kernel
theorem zd_188_396 : decode (zm_cc 188) 396 = .ok (.bipush 10, 2) := by decide +kernel
theorem zd_188_398 : decode (zm_cc 188) 398 = .ok (.iload_n 3, 1) := by decide +kernel
theorem zd_188_399 : decode (zm_cc 188) 399 = .ok (.iadd, 1) := by decide +kernel
theorem zd_188_400 : decode (zm_cc 188) 400 = .ok (.dup2, 1) := by decide +kernel
theorem zd_188_401 : decode (zm_cc 188) 401 = .ok (.iaload, 1) := by decide +kernel
theorem zd_188_402 : decode (zm_cc 188) 402 = .ok (.iconst 1, 1) := by decide +kernel
theorem zd_188_403 : decode (zm_cc 188) 403 = .ok (.isub, 1) := by decide +kernel
theorem zd_188_404 : decode (zm_cc 188) 404 = .ok (.iastore, 1) := by decide +kernel
theorem zd_188_405 : decode (zm_cc 188) 405 = .ok (.aload_n 0, 1) := by decide +kernel
theorem zd_188_406 : decode (zm_cc 188) 406 = .ok (.getfield 88, 3) := by decide +kernel
theorem zd_188_409 : decode (zm_cc 188) 409 = .ok (.bipush 6, 2) := by decide +kernel
theorem zd_188_411 : decode (zm_cc 188) 411 = .ok (.iload_n 3, 1) := by decide +kernel
theorem zd_188_412 : decode (zm_cc 188) 412 = .ok (.iadd, 1) := by decide +kernel
theorem zd_188_413 : decode (zm_cc 188) 413 = .ok (.aload_n 0, 1) := by decide +kernel
theorem zd_188_414 : decode (zm_cc 188) 414 = .ok (.getfield 88, 3) := by decide +kernel
theorem zd_188_417 : decode (zm_cc 188) 417 = .ok (.bipush 10, 2) := by decide +kernel
theorem zd_188_419 : decode (zm_cc 188) 419 = .ok (.iload_n 3, 1) := by decide +kernel
theorem zd_188_420 : decode (zm_cc 188) 420 = .ok (.iadd, 1) := by decide +kernel
theorem zd_188_421 : decode (zm_cc 188) 421 = .ok (.iaload, 1) := by decide +kernel
theorem zd_188_422 : decode (zm_cc 188) 422 = .ok (.ifCond .ne 7, 3) := by decide +kernel
theorem zd_188_425 : decode (zm_cc 188) 425 = .ok (.iconst 0, 1) := by decide +kernel
theorem zd_188_426 : decode (zm_cc 188) 426 = .ok (.goto 6, 3) := by decide +kernel
theorem zd_188_429 : decode (zm_cc 188) 429 = .ok (.iload_n 1, 1) := by decide +kernel
theorem zd_188_430 : decode (zm_cc 188) 430 = .ok (.iconst 1, 1) := by decide +kernel
theorem zd_188_431 : decode (zm_cc 188) 431 = .ok (.iadd, 1) := by decide +kernel
theorem zd_188_432 : decode (zm_cc 188) 432 = .ok (.iastore, 1) := by decide +kernel
theorem zd_188_433 : decode (zm_cc 188) 433 = .ok (.goto 185, 3) := by decide +kernel
theorem zd_188_436 : decode (zm_cc 188) 436 = .ok (.aload_n 0, 1) := by decide +kernel
theorem zd_188_437 : decode (zm_cc 188) 437 = .ok (.iload_n 1, 1) := by decide +kernel
theorem zd_188_438 : decode (zm_cc 188) 438 = .ok (.aload_n 0, 1) := by decide +kernel
theorem zd_188_439 : decode (zm_cc 188) 439 = .ok (.iload_n 1, 1) := by decide +kernel
theorem zd_188_440 : decode (zm_cc 188) 440 = .ok (.iload_n 2, 1) := by decide +kernel
theorem zd_188_441 : decode (zm_cc 188) 441 = .ok (.invokevirtual 363, 3) := by decide +kernel
theorem zd_188_444 : decode (zm_cc 188) 444 = .ok (.ifCond .eq 12, 3) := by decide +kernel
theorem zd_188_447 : decode (zm_cc 188) 447 = .ok (.aload_n 0, 1) := by decide +kernel
theorem zd_188_448 : decode (zm_cc 188) 448 = .ok (.getfield 49, 3) := by decide +kernel
theorem zd_188_451 : decode (zm_cc 188) 451 = .ok (.iload_n 2, 1) := by decide +kernel
theorem zd_188_452 : decode (zm_cc 188) 452 = .ok (.iaload, 1) := by decide +kernel
theorem zd_188_453 : decode (zm_cc 188) 453 = .ok (.goto 9, 3) := by decide +kernel
theorem zd_188_456 : decode (zm_cc 188) 456 = .ok (.aload_n 0, 1) := by decide +kernel
theorem zd_188_457 : decode (zm_cc 188) 457 = .ok (.getfield 52, 3) := by decide +kernel
theorem zd_188_460 : decode (zm_cc 188) 460 = .ok (.iload_n 2, 1) := by decide +kernel
theorem zd_188_461 : decode (zm_cc 188) 461 = .ok (.iaload, 1) := by decide +kernel
theorem zd_188_462 : decode (zm_cc 188) 462 = .ok (.invokevirtual 360, 3) := by decide +kernel
theorem zd_188_465 : decode (zm_cc 188) 465 = .ok (.return_, 1) := by decide +kernel
theorem zd_188_466 : decode (zm_cc 188) 466 = .ok (.iload 4, 2) := by decide +kernel
theorem zd_188_468 : decode (zm_cc 188) 468 = .ok (.ifCond .eq 60, 3) := by decide +kernel
theorem zd_188_471 : decode (zm_cc 188) 471 = .ok (.aload_n 0, 1) := by decide +kernel
theorem zd_188_472 : decode (zm_cc 188) 472 = .ok (.getfield 88, 3) := by decide +kernel
theorem zd_188_475 : decode (zm_cc 188) 475 = .ok (.aload_n 0, 1) := by decide +kernel
theorem zd_188_476 : decode (zm_cc 188) 476 = .ok (.iload_n 1, 1) := by decide +kernel
theorem zd_188_477 : decode (zm_cc 188) 477 = .ok (.invokevirtual 348, 3) := by decide +kernel
theorem zd_188_480 : decode (zm_cc 188) 480 = .ok (.iconst 5, 1) := by decide +kernel
theorem zd_188_481 : decode (zm_cc 188) 481 = .ok (.iadd, 1) := by decide +kernel
theorem zd_188_482 : decode (zm_cc 188) 482 = .ok (.aload_n 0, 1) := by decide +kernel
theorem zd_188_483 : decode (zm_cc 188) 483 = .ok (.getfield 88, 3) := by decide +kernel
theorem zd_188_486 : decode (zm_cc 188) 486 = .ok (.bipush 10, 2) := by decide +kernel
theorem zd_188_488 : decode (zm_cc 188) 488 = .ok (.iload_n 3, 1) := by decide +kernel
theorem zd_188_489 : decode (zm_cc 188) 489 = .ok (.iadd, 1) := by decide +kernel
theorem zd_188_490 : decode (zm_cc 188) 490 = .ok (.iaload, 1) := by decide +kernel
theorem zd_188_491 : decode (zm_cc 188) 491 = .ok (.iastore, 1) := by decide +kernel
theorem zd_188_492 : decode (zm_cc 188) 492 = .ok (.aload_n 0, 1) := by decide +kernel
theorem zd_188_493 : decode (zm_cc 188) 493 = .ok (.getfield 88, 3) := by decide +kernel
theorem zd_188_496 : decode (zm_cc 188) 496 = .ok (.bipush 6, 2) := by decide +kernel
theorem zd_188_498 : decode (zm_cc 188) 498 = .ok (.iload_n 3, 1) := by decide +kernel
theorem zd_188_499 : decode (zm_cc 188) 499 = .ok (.iadd, 1) := by decide +kernel
theorem zd_188_500 : decode (zm_cc 188) 500 = .ok (.iconst 0, 1) := by decide +kernel
theorem zd_188_501 : decode (zm_cc 188) 501 = .ok (.iastore, 1) := by decide +kernel
theorem zd_188_502 : decode (zm_cc 188) 502 = .ok (.aload_n 0, 1) := by decide +kernel
theorem zd_188_503 : decode (zm_cc 188) 503 = .ok (.getfield 88, 3) := by decide +kernel
theorem zd_188_506 : decode (zm_cc 188) 506 = .ok (.bipush 10, 2) := by decide +kernel
theorem zd_188_508 : decode (zm_cc 188) 508 = .ok (.iload_n 3, 1) := by decide +kernel
theorem zd_188_509 : decode (zm_cc 188) 509 = .ok (.iadd, 1) := by decide +kernel
theorem zd_188_510 : decode (zm_cc 188) 510 = .ok (.iconst 0, 1) := by decide +kernel
theorem zd_188_511 : decode (zm_cc 188) 511 = .ok (.iastore, 1) := by decide +kernel
theorem zd_188_512 : decode (zm_cc 188) 512 = .ok (.aload_n 0, 1) := by decide +kernel
theorem zd_188_513 : decode (zm_cc 188) 513 = .ok (.getfield 88, 3) := by decide +kernel
theorem zd_188_516 : decode (zm_cc 188) 516 = .ok (.aload_n 0, 1) := by decide +kernel
theorem zd_188_517 : decode (zm_cc 188) 517 = .ok (.iload_n 1, 1) := by decide +kernel
theorem zd_188_518 : decode (zm_cc 188) 518 = .ok (.invokevirtual 348, 3) := by decide +kernel
theorem zd_188_521 : decode (zm_cc 188) 521 = .ok (.iconst 1, 1) := by decide +kernel
theorem zd_188_522 : decode (zm_cc 188) 522 = .ok (.iadd, 1) := by decide +kernel
theorem zd_188_523 : decode (zm_cc 188) 523 = .ok (.iconst 2, 1) := by decide +kernel
theorem zd_188_524 : decode (zm_cc 188) 524 = .ok (.iastore, 1) := by decide +kernel
theorem zd_188_525 : decode (zm_cc 188) 525 = .ok (.goto 8, 3) := by decide +kernel
theorem zd_188_528 : decode (zm_cc 188) 528 = .ok (.aload_n 0, 1) := by decide +kernel
theorem zd_188_529 : decode (zm_cc 188) 529 = .ok (.iload_n 1, 1) := by decide +kernel
theorem zd_188_530 : decode (zm_cc 188) 530 = .ok (.invokevirtual 366, 3) := by decide +kernel
theorem zd_188_533 : decode (zm_cc 188) 533 = .ok (.return_, 1) := by decide +kernel
theorem zd_188_534 : decode (zm_cc 188) 534 = .ok (.iload 4, 2) := by decide +kernel
theorem zd_188_536 : decode (zm_cc 188) 536 = .ok (.ifCond .ne 9, 3) := by decide +kernel
theorem zd_188_539 : decode (zm_cc 188) 539 = .ok (.aload_n 0, 1) := by decide +kernel
theorem zd_188_540 : decode (zm_cc 188) 540 = .ok (.iload_n 1, 1) := by decide +kernel
theorem zd_188_541 : decode (zm_cc 188) 541 = .ok (.invokevirtual 366, 3) := by decide +kernel
theorem zd_188_544 : decode (zm_cc 188) 544 = .ok (.return_, 1) := by decide +kernel
theorem zd_188_545 : decode (zm_cc 188) 545 = .ok (.aload_n 0, 1) := by decide +kernel
theorem zd_188_546 : decode (zm_cc 188) 546 = .ok (.iload_n 3, 1) := by decide +kernel
theorem zd_188_547 : decode (zm_cc 188) 547 = .ok (.aload_n 0, 1) := by decide +kernel
theorem zd_188_548 : decode (zm_cc 188) 548 = .ok (.getfield 43, 3) := by decide +kernel
theorem zd_188_551 : decode (zm_cc 188) 551 = .ok (.iload_n 2, 1) := by decide +kernel
theorem zd_188_552 : decode (zm_cc 188) 552 = .ok (.iaload, 1) := by decide +kernel
theorem zd_188_553 : decode (zm_cc 188) 553 = .ok (.bipush 9, 2) := by decide +kernel
theorem zd_188_555 : decode (zm_cc 188) 555 = .ok (.if_icmp .ne 7, 3) := by decide +kernel
theorem zd_188_558 : decode (zm_cc 188) 558 = .ok (.iconst 1, 1) := by decide +kernel
theorem zd_188_559 : decode (zm_cc 188) 559 = .ok (.goto 4, 3) := by decide +kernel
theorem zd_188_562 : decode (zm_cc 188) 562 = .ok (.iconst 0, 1) := by decide +kernel
theorem zd_188_563 : decode (zm_cc 188) 563 = .ok (.invokevirtual 369, 3) := by decide +kernel
theorem zd_188_566 : decode (zm_cc 188) 566 = .ok (.goto 52, 3) := by decide +kernel
theorem zd_188_569 : decode (zm_cc 188) 569 = .ok (.aload_n 0, 1) := by decide +kernel
theorem zd_188_570 : decode (zm_cc 188) 570 = .ok (.iload_n 3, 1) := by decide +kernel
theorem zd_188_571 : decode (zm_cc 188) 571 = .ok (.invokevirtual 357, 3) := by decide +kernel
theorem zd_188_574 : decode (zm_cc 188) 574 = .ok (.ifCond .eq 9, 3) := by decide +kernel
theorem zd_188_577 : decode (zm_cc 188) 577 = .ok (.aload_n 0, 1) := by decide +kernel
theorem zd_188_578 : decode (zm_cc 188) 578 = .ok (.iload_n 1, 1) := by decide +kernel
theorem zd_188_579 : decode (zm_cc 188) 579 = .ok (.invokevirtual 366, 3) := by decide +kernel
theorem zd_188_582 : decode (zm_cc 188) 582 = .ok (.return_, 1) := by decide +kernel
theorem zd_188_583 : decode (zm_cc 188) 583 = .ok (.aload_n 0, 1) := by decide +kernel
theorem zd_188_584 : decode (zm_cc 188) 584 = .ok (.iload_n 3, 1) := by decide +kernel
theorem zd_188_585 : decode (zm_cc 188) 585 = .ok (.invokevirtual 373, 3) := by decide +kernel
theorem zd_188_588 : decode (zm_cc 188) 588 = .ok (.goto 30, 3) := by decide +kernel
theorem zd_188_591 : decode (zm_cc 188) 591 = .ok (.aload_n 0, 1) := by decide +kernel
theorem zd_188_592 : decode (zm_cc 188) 592 = .ok (.iload_n 1, 1) := by decide +kernel
theorem zd_188_593 : decode (zm_cc 188) 593 = .ok (.iload_n 2, 1) := by decide +kernel
theorem zd_188_594 : decode (zm_cc 188) 594 = .ok (.invokevirtual 363, 3) := by decide +kernel
theorem zd_188_597 : decode (zm_cc 188) 597 = .ok (.ifCond .ne 21, 3) := by decide +kernel
theorem zd_188_600 : decode (zm_cc 188) 600 = .ok (.aload_n 0, 1) := by decide +kernel
theorem zd_188_601 : decode (zm_cc 188) 601 = .ok (.iload_n 1, 1) := by decide +kernel
theorem zd_188_602 : decode (zm_cc 188) 602 = .ok (.invokevirtual 366, 3) := by decide +kernel
theorem zd_188_605 : decode (zm_cc 188) 605 = .ok (.return_, 1) := by decide +kernel
theorem zd_188_606 : decode (zm_cc 188) 606 = .ok (.aload_n 0, 1) := by decide +kernel
theorem zd_188_607 : decode (zm_cc 188) 607 = .ok (.iload_n 1, 1) := by decide +kernel
theorem zd_188_608 : decode (zm_cc 188) 608 = .ok (.aload_n 0, 1) := by decide +kernel
theorem zd_188_609 : decode (zm_cc 188) 609 = .ok (.getfield 37, 3) := by decide +kernel
theorem zd_188_612 : decode (zm_cc 188) 612 = .ok (.iload_n 1, 1) := by decide +kernel
theorem zd_188_613 : decode (zm_cc 188) 613 = .ok (.iaload, 1) := by decide +kernel
theorem zd_188_614 : decode (zm_cc 188) 614 = .ok (.invokevirtual 360, 3) := by decide +kernel
theorem zd_188_617 : decode (zm_cc 188) 617 = .ok (.return_, 1) := by decide +kernel
theorem zd_188_618 : decode (zm_cc 188) 618 = .ok (.aload_n 0, 1) := by decide +kernel
theorem zd_188_619 : decode (zm_cc 188) 619 = .ok (.iload_n 1, 1) := by decide +kernel
theorem zd_188_620 : decode (zm_cc 188) 620 = .ok (.aload_n 0, 1) := by decide +kernel
theorem zd_188_621 : decode (zm_cc 188) 621 = .ok (.getfield 49, 3) := by decide +kernel
theorem zd_188_624 : decode (zm_cc 188) 624 = .ok (.iload_n 2, 1) := by decide +kernel
theorem zd_188_625 : decode (zm_cc 188) 625 = .ok (.iaload, 1) := by decide +kernel
theorem zd_188_626 : decode (zm_cc 188) 626 = .ok (.invokevirtual 360, 3) := by decide +kernel
theorem zd_188_629 : decode (zm_cc 188) 629 = .ok (.return_, 1) := by decide +kernel
theorem zd_189_0 : decode (zm_cc 189) 0 = .ok (.iload_n 2, 1) := by decide +kernel
theorem zd_189_1 : decode (zm_cc 189) 1 = .ok (.bipush 8, 2) := by decide +kernel
theorem zd_189_3 : decode (zm_cc 189) 3 = .ok (.if_icmp .ge 7, 3) := by decide +kernel
theorem zd_189_6 : decode (zm_cc 189) 6 = .ok (.iload_n 2, 1) := by decide +kernel
theorem zd_189_7 : decode (zm_cc 189) 7 = .ok (.goto 20, 3) := by decide +kernel
theorem zd_189_10 : decode (zm_cc 189) 10 = .ok (.aload_n 0, 1) := by decide +kernel
theorem zd_189_11 : decode (zm_cc 189) 11 = .ok (.getfield 88, 3) := by decide +kernel
theorem zd_189_14 : decode (zm_cc 189) 14 = .ok (.aload_n 0, 1) := by decide +kernel
theorem zd_189_15 : decode (zm_cc 189) 15 = .ok (.iload_n 1, 1) := by decide +kernel
theorem zd_189_16 : decode (zm_cc 189) 16 = .ok (.invokevirtual 348, 3) := by decide +kernel
theorem zd_189_19 : decode (zm_cc 189) 19 = .ok (.iconst 2, 1) := by decide +kernel
theorem zd_189_20 : decode (zm_cc 189) 20 = .ok (.iadd, 1) := by decide +kernel
theorem zd_189_21 : decode (zm_cc 189) 21 = .ok (.iload_n 2, 1) := by decide +kernel
theorem zd_189_22 : decode (zm_cc 189) 22 = .ok (.iadd, 1) := by decide +kernel
theorem zd_189_23 : decode (zm_cc 189) 23 = .ok (.bipush 8, 2) := by decide +kernel
theorem zd_189_25 : decode (zm_cc 189) 25 = .ok (.isub, 1) := by decide +kernel
theorem zd_189_26 : decode (zm_cc 189) 26 = .ok (.iaload, 1) := by decide +kernel
theorem zd_189_27 : decode (zm_cc 189) 27 = .ok (.ireturn, 1) := by decide +kernel
theorem zd_190_0 : decode (zm_cc 190) 0 = .ok (.aload_n 0, 1) := by decide +kernel
theorem zd_190_1 : decode (zm_cc 190) 1 = .ok (.iload_n 1, 1) := by decide +kernel
theorem zd_190_2 : decode (zm_cc 190) 2 = .ok (.aload_n 0, 1) := by decide +kernel
theorem zd_190_3 : decode (zm_cc 190) 3 = .ok (.getfield 64, 3) := by decide +kernel
theorem zd_190_6 : decode (zm_cc 190) 6 = .ok (.iload_n 2, 1) := by decide +kernel
theorem zd_190_7 : decode (zm_cc 190) 7 = .ok (.iaload, 1) := by decide +kernel
theorem zd_190_8 : decode (zm_cc 190) 8 = .ok (.invokevirtual 351, 3) := by decide +kernel
theorem zd_190_11 : decode (zm_cc 190) 11 = .ok (.istore_n 3, 1) := by decide +kernel
theorem zd_190_12 : decode (zm_cc 190) 12 = .ok (.aload_n 0, 1) := by decide +kernel
theorem zd_190_13 : decode (zm_cc 190) 13 = .ok (.iload_n 1, 1) := by decide +kernel
theorem zd_190_14 : decode (zm_cc 190) 14 = .ok (.aload_n 0, 1) := by decide +kernel
theorem zd_190_15 : decode (zm_cc 190) 15 = .ok (.getfield 67, 3) := by decide +kernel
theorem zd_190_18 : decode (zm_cc 190) 18 = .ok (.iload_n 2, 1) := by decide +kernel
theorem zd_190_19 : decode (zm_cc 190) 19 = .ok (.iaload, 1) := by decide +kernel
theorem zd_190_20 : decode (zm_cc 190) 20 = .ok (.invokevirtual 351, 3) := by decide +kernel
theorem zd_190_23 : decode (zm_cc 190) 23 = .ok (.istore 4, 2) := by decide +kernel
theorem zd_190_25 : decode (zm_cc 190) 25 = .ok (.aload_n 0, 1) := by decide +kernel
theorem zd_190_26 : decode (zm_cc 190) 26 = .ok (.getfield 70, 3) := by decide +kernel
theorem zd_190_29 : decode (zm_cc 190) 29 = .ok (.iload_n 2, 1) := by decide +kernel
theorem zd_190_30 : decode (zm_cc 190) 30 = .ok (.iaload, 1) := by decide +kernel
theorem zd_190_31 : decode (zm_cc 190) 31 = .ok (.sipush 1000, 3) := by decide +kernel
theorem zd_190_34 : decode (zm_cc 190) 34 = .ok (.if_icmp .ne 17, 3) := by decide +kernel
theorem zd_190_37 : decode (zm_cc 190) 37 = .ok (.iload_n 3, 1) := by decide +kernel
theorem zd_190_38 : decode (zm_cc 190) 38 = .ok (.iload 4, 2) := by decide +kernel
theorem zd_190_40 : decode (zm_cc 190) 40 = .ok (.if_icmp .ne 7, 3) := by decide +kernel
theorem zd_190_43 : decode (zm_cc 190) 43 = .ok (.iconst 1, 1) := by decide +kernel
theorem zd_190_44 : decode (zm_cc 190) 44 = .ok (.goto 69, 3) := by decide +kernel
theorem zd_190_47 : decode (zm_cc 190) 47 = .ok (.iconst 0, 1) := by decide +kernel
theorem zd_190_48 : decode (zm_cc 190) 48 = .ok (.goto 65, 3) := by decide +kernel
theorem zd_190_51 : decode (zm_cc 190) 51 = .ok (.aload_n 0, 1) := by decide +kernel
theorem zd_190_52 : decode (zm_cc 190) 52 = .ok (.getfield 70, 3) := by decide +kernel
theorem zd_190_55 : decode (zm_cc 190) 55 = .ok (.iload_n 2, 1) := by decide +kernel
theorem zd_190_56 : decode (zm_cc 190) 56 = .ok (.iaload, 1) := by decide +kernel
theorem zd_190_57 : decode (zm_cc 190) 57 = .ok (.sipush 1001, 3) := by decide +kernel
theorem zd_190_60 : decode (zm_cc 190) 60 = .ok (.if_icmp .ne 17, 3) := by decide +kernel
theorem zd_190_63 : decode (zm_cc 190) 63 = .ok (.iload_n 3, 1) := by decide +kernel
theorem zd_190_64 : decode (zm_cc 190) 64 = .ok (.iload 4, 2) := by decide +kernel
theorem zd_190_66 : decode (zm_cc 190) 66 = .ok (.if_icmp .eq 7, 3) := by decide +kernel
theorem zd_190_69 : decode (zm_cc 190) 69 = .ok (.iconst 1, 1) := by decide +kernel
theorem zd_190_70 : decode (zm_cc 190) 70 = .ok (.goto 43, 3) := by decide +kernel
theorem zd_190_73 : decode (zm_cc 190) 73 = .ok (.iconst 0, 1) := by decide +kernel
theorem zd_190_74 : decode (zm_cc 190) 74 = .ok (.goto 39, 3) := by decide +kernel
theorem zd_190_77 : decode (zm_cc 190) 77 = .ok (.aload_n 0, 1) := by decide +kernel
theorem zd_190_78 : decode (zm_cc 190) 78 = .ok (.getfield 70, 3) := by decide +kernel
theorem zd_190_81 : decode (zm_cc 190) 81 = .ok (.iload_n 2, 1) := by decide +kernel
theorem zd_190_82 : decode (zm_cc 190) 82 = .ok (.iaload, 1) := by decide +kernel
theorem zd_190_83 : decode (zm_cc 190) 83 = .ok (.bipush 60, 2) := by decide +kernel
theorem zd_190_85 : decode (zm_cc 190) 85 = .ok (.if_icmp .ne 17, 3) := by decide +kernel
theorem zd_190_88 : decode (zm_cc 190) 88 = .ok (.iload_n 3, 1) := by decide +kernel
theorem zd_190_89 : decode (zm_cc 190) 89 = .ok (.iload 4, 2) := by decide +kernel
theorem zd_190_91 : decode (zm_cc 190) 91 = .ok (.if_icmp .ge 7, 3) := by decide +kernel
theorem zd_190_94 : decode (zm_cc 190) 94 = .ok (.iconst 1, 1) := by decide +kernel
theorem zd_190_95 : decode (zm_cc 190) 95 = .ok (.goto 18, 3) := by decide +kernel
theorem zd_190_98 : decode (zm_cc 190) 98 = .ok (.iconst 0, 1) := by decide +kernel
theorem zd_190_99 : decode (zm_cc 190) 99 = .ok (.goto 14, 3) := by decide +kernel
theorem zd_190_102 : decode (zm_cc 190) 102 = .ok (.iload_n 3, 1) := by decide +kernel
theorem zd_190_103 : decode (zm_cc 190) 103 = .ok (.iload 4, 2) := by decide +kernel
theorem zd_190_105 : decode (zm_cc 190) 105 = .ok (.if_icmp .le 7, 3) := by decide +kernel
theorem zd_190_108 : decode (zm_cc 190) 108 = .ok (.iconst 1, 1) := by decide +kernel
theorem zd_190_109 : decode (zm_cc 190) 109 = .ok (.goto 4, 3) := by decide +kernel
theorem zd_190_112 : decode (zm_cc 190) 112 = .ok (.iconst 0, 1) := by decide +kernel
theorem zd_190_113 : decode (zm_cc 190) 113 = .ok (.ireturn, 1) := by decide +kernel
theorem zd_191_0 : decode (zm_cc 191) 0 = .ok (.aload_n 0, 1) := by decide +kernel
theorem zd_191_1 : decode (zm_cc 191) 1 = .ok (.getfield 88, 3) := by decide +kernel
theorem zd_191_4 : decode (zm_cc 191) 4 = .ok (.aload_n 0, 1) := by decide +kernel
theorem zd_191_5 : decode (zm_cc 191) 5 = .ok (.iload_n 1, 1) := by decide +kernel
theorem zd_191_6 : decode (zm_cc 191) 6 = .ok (.invokevirtual 348, 3) := by decide +kernel
theorem zd_191_9 : decode (zm_cc 191) 9 = .ok (.iconst 1, 1) := by decide +kernel
theorem zd_191_10 : decode (zm_cc 191) 10 = .ok (.iadd, 1) := by decide +kernel
theorem zd_191_11 : decode (zm_cc 191) 11 = .ok (.iconst 5, 1) := by decide +kernel
theorem zd_191_12 : decode (zm_cc 191) 12 = .ok (.iastore, 1) := by decide +kernel
theorem zd_191_13 : decode (zm_cc 191) 13 = .ok (.aload_n 0, 1) := by decide +kernel
theorem zd_191_14 : decode (zm_cc 191) 14 = .ok (.iload_n 1, 1) := by decide +kernel
theorem zd_191_15 : decode (zm_cc 191) 15 = .ok (.invokevirtual 354, 3) := by decide +kernel
theorem zd_191_18 : decode (zm_cc 191) 18 = .ok (.return_, 1) := by decide +kernel
theorem zd_192_0 : decode (zm_cc 192) 0 = .ok (.iconst 1, 1) := by decide +kernel
theorem zd_192_1 : decode (zm_cc 192) 1 = .ok (.istore_n 3, 1) := by decide +kernel
theorem zd_192_2 : decode (zm_cc 192) 2 = .ok (.iconst 0, 1) := by decide +kernel
theorem zd_192_3 : decode (zm_cc 192) 3 = .ok (.istore 4, 2) := by decide +kernel
theorem zd_192_5 : decode (zm_cc 192) 5 = .ok (.iload 4, 2) := by decide +kernel
theorem zd_192_7 : decode (zm_cc 192) 7 = .ok (.aload_n 0, 1) := by decide +kernel
theorem zd_192_8 : decode (zm_cc 192) 8 = .ok (.getfield 225, 3) := by decide +kernel
theorem zd_192_11 : decode (zm_cc 192) 11 = .ok (.if_icmp .ge 65, 3) := by decide +kernel
theorem zd_192_14 : decode (zm_cc 192) 14 = .ok (.iload_n 3, 1) := by decide +kernel
theorem zd_192_15 : decode (zm_cc 192) 15 = .ok (.ifCond .eq 61, 3) := by decide +kernel
theorem zd_192_18 : decode (zm_cc 192) 18 = .ok (.aload_n 0, 1) := by decide +kernel
theorem zd_192_19 : decode (zm_cc 192) 19 = .ok (.iload 4, 2) := by decide +kernel
theorem zd_192_21 : decode (zm_cc 192) 21 = .ok (.invokevirtual 357, 3) := by decide +kernel
theorem zd_192_24 : decode (zm_cc 192) 24 = .ok (.iconst 2, 1) := by decide +kernel
theorem zd_192_25 : decode (zm_cc 192) 25 = .ok (.if_icmp .ne 45, 3) := by decide +kernel
theorem zd_192_28 : decode (zm_cc 192) 28 = .ok (.aload_n 0, 1) := by decide +kernel
theorem zd_192_29 : decode (zm_cc 192) 29 = .ok (.getfield 46, 3) := by decide +kernel
theorem zd_192_32 : decode (zm_cc 192) 32 = .ok (.bipush 24, 2) := by decide +kernel
theorem zd_192_34 : decode (zm_cc 192) 34 = .ok (.iload 4, 2) := by decide +kernel
theorem zd_192_36 : decode (zm_cc 192) 36 = .ok (.imul, 1) := by decide +kernel
theorem zd_192_37 : decode (zm_cc 192) 37 = .ok (.aload_n 0, 1) := by decide +kernel
theorem zd_192_38 : decode (zm_cc 192) 38 = .ok (.getfield 88, 3) := by decide +kernel
theorem zd_192_41 : decode (zm_cc 192) 41 = .ok (.aload_n 0, 1) := by decide +kernel
theorem zd_192_42 : decode (zm_cc 192) 42 = .ok (.iload 4, 2) := by decide +kernel
theorem zd_192_44 : decode (zm_cc 192) 44 = .ok (.invokevirtual 348, 3) := by decide +kernel
theorem zd_192_47 : decode (zm_cc 192) 47 = .ok (.iaload, 1) := by decide +kernel
theorem zd_192_48 : decode (zm_cc 192) 48 = .ok (.iadd, 1) := by decide +kernel
theorem zd_192_49 : decode (zm_cc 192) 49 = .ok (.iaload, 1) := by decide +kernel
theorem zd_192_50 : decode (zm_cc 192) 50 = .ok (.iload_n 1, 1) := by decide +kernel
theorem zd_192_51 : decode (zm_cc 192) 51 = .ok (.if_icmp .ne 19, 3) := by decide +kernel
theorem zd_192_54 : decode (zm_cc 192) 54 = .ok (.aload_n 0, 1) := by decide +kernel
theorem zd_192_55 : decode (zm_cc 192) 55 = .ok (.getfield 88, 3) := by decide +kernel
theorem zd_192_58 : decode (zm_cc 192) 58 = .ok (.aload_n 0, 1) := by decide +kernel
theorem zd_192_59 : decode (zm_cc 192) 59 = .ok (.iload 4, 2) := by decide +kernel
theorem zd_192_61 : decode (zm_cc 192) 61 = .ok (.invokevirtual 348, 3) := by decide +kernel
theorem zd_192_64 : decode (zm_cc 192) 64 = .ok (.iconst 1, 1) := by decide +kernel
theorem zd_192_65 : decode (zm_cc 192) 65 = .ok (.iadd, 1) := by decide +kernel
theorem zd_192_66 : decode (zm_cc 192) 66 = .ok (.iconst 3, 1) := by decide +kernel
theorem zd_192_67 : decode (zm_cc 192) 67 = .ok (.iastore, 1) := by decide +kernel
theorem zd_192_68 : decode (zm_cc 192) 68 = .ok (.iload_n 2, 1) := by decide +kernel
theorem zd_192_69 : decode (zm_cc 192) 69 = .ok (.istore_n 3, 1) := by decide +kernel
theorem zd_192_70 : decode (zm_cc 192) 70 = .ok (.iinc 4 1, 3) := by decide +kernel
theorem zd_192_73 : decode (zm_cc 192) 73 = .ok (.goto (-68), 3) := by decide +kernel
theorem zd_192_76 : decode (zm_cc 192) 76 = .ok (.return_, 1) := by decide +kernel
theorem zd_193_0 : decode (zm_cc 193) 0 = .ok (.iconst 0, 1) := by decide +kernel
theorem zd_193_1 : decode (zm_cc 193) 1 = .ok (.istore_n 1, 1) := by decide +kernel
theorem zd_193_2 : decode (zm_cc 193) 2 = .ok (.iload_n 1, 1) := by decide +kernel
theorem zd_193_3 : decode (zm_cc 193) 3 = .ok (.aload_n 0, 1) := by decide +kernel
theorem zd_193_4 : decode (zm_cc 193) 4 = .ok (.getfield 225, 3) := by decide +kernel
theorem zd_193_7 : decode (zm_cc 193) 7 = .ok (.if_icmp .ge 31, 3) := by decide +kernel
theorem zd_193_10 : decode (zm_cc 193) 10 = .ok (.aload_n 0, 1) := by decide +kernel
theorem zd_193_11 : decode (zm_cc 193) 11 = .ok (.iload_n 1, 1) := by decide +kernel
theorem zd_193_12 : decode (zm_cc 193) 12 = .ok (.invokevirtual 357, 3) := by decide +kernel
theorem zd_193_15 : decode (zm_cc 193) 15 = .ok (.istore_n 2, 1) := by decide +kernel
theorem zd_193_16 : decode (zm_cc 193) 16 = .ok (.iload_n 2, 1) := by decide +kernel
theorem zd_193_17 : decode (zm_cc 193) 17 = .ok (.iconst 4, 1) := by decide +kernel
theorem zd_193_18 : decode (zm_cc 193) 18 = .ok (.if_icmp .eq 14, 3) := by decide +kernel
theorem zd_193_21 : decode (zm_cc 193) 21 = .ok (.iload_n 2, 1) := by decide +kernel
theorem zd_193_22 : decode (zm_cc 193) 22 = .ok (.iconst 5, 1) := by decide +kernel
theorem zd_193_23 : decode (zm_cc 193) 23 = .ok (.if_icmp .eq 9, 3) := by decide +kernel
theorem zd_193_26 : decode (zm_cc 193) 26 = .ok (.iload_n 2, 1) := by decide +kernel
theorem zd_193_27 : decode (zm_cc 193) 27 = .ok (.ifCond .eq 5, 3) := by decide +kernel
theorem zd_193_30 : decode (zm_cc 193) 30 = .ok (.iconst 2, 1) := by decide +kernel
theorem zd_193_31 : decode (zm_cc 193) 31 = .ok (.ireturn, 1) := by decide +kernel
theorem zd_193_32 : decode (zm_cc 193) 32 = .ok (.iinc 1 1, 3) := by decide +kernel
theorem zd_193_35 : decode (zm_cc 193) 35 = .ok (.goto (-33), 3) := by decide +kernel
theorem zd_193_38 : decode (zm_cc 193) 38 = .ok (.iconst 1, 1) := by decide +kernel
theorem zd_193_39 : decode (zm_cc 193) 39 = .ok (.ireturn, 1) := by decide +kernel
theorem zd_194_0 : decode (zm_cc 194) 0 = .ok (.iconst 1, 1) := by decide +kernel
theorem zd_194_1 : decode (zm_cc 194) 1 = .ok (.istore_n 3, 1) := by decide +kernel
theorem zd_194_2 : decode (zm_cc 194) 2 = .ok (.iconst 0, 1) := by decide +kernel
theorem zd_194_3 : decode (zm_cc 194) 3 = .ok (.istore 4, 2) := by decide +kernel
theorem zd_194_5 : decode (zm_cc 194) 5 = .ok (.iload 4, 2) := by decide +kernel
theorem zd_194_7 : decode (zm_cc 194) 7 = .ok (.aload_n 0, 1) := by decide +kernel
theorem zd_194_8 : decode (zm_cc 194) 8 = .ok (.getfield 215, 3) := by decide +kernel
theorem zd_194_11 : decode (zm_cc 194) 11 = .ok (.if_icmp .ge 46, 3) := by decide +kernel
theorem zd_194_14 : decode (zm_cc 194) 14 = .ok (.iload_n 3, 1) := by decide +kernel
theorem zd_194_15 : decode (zm_cc 194) 15 = .ok (.ifCond .eq 34, 3) := by decide +kernel
theorem zd_194_18 : decode (zm_cc 194) 18 = .ok (.aload_n 0, 1) := by decide +kernel
theorem zd_194_19 : decode (zm_cc 194) 19 = .ok (.getfield 92, 3) := by decide +kernel
theorem zd_194_22 : decode (zm_cc 194) 22 = .ok (.bipush 40, 2) := by decide +kernel
theorem zd_194_24 : decode (zm_cc 194) 24 = .ok (.iload_n 1, 1) := by decide +kernel
theorem zd_194_25 : decode (zm_cc 194) 25 = .ok (.imul, 1) := by decide +kernel
theorem zd_194_26 : decode (zm_cc 194) 26 = .ok (.iload 4, 2) := by decide +kernel
theorem zd_194_28 : decode (zm_cc 194) 28 = .ok (.iadd, 1) := by decide +kernel
theorem zd_194_29 : decode (zm_cc 194) 29 = .ok (.baload, 1) := by decide +kernel
theorem zd_194_30 : decode (zm_cc 194) 30 = .ok (.aload_n 0, 1) := by decide +kernel
theorem zd_194_31 : decode (zm_cc 194) 31 = .ok (.getfield 92, 3) := by decide +kernel
theorem zd_194_34 : decode (zm_cc 194) 34 = .ok (.bipush 40, 2) := by decide +kernel
theorem zd_194_36 : decode (zm_cc 194) 36 = .ok (.iload_n 2, 1) := by decide +kernel
theorem zd_194_37 : decode (zm_cc 194) 37 = .ok (.imul, 1) := by decide +kernel
theorem zd_194_38 : decode (zm_cc 194) 38 = .ok (.iload 4, 2) := by decide +kernel
theorem zd_194_40 : decode (zm_cc 194) 40 = .ok (.iadd, 1) := by decide +kernel
theorem zd_194_41 : decode (zm_cc 194) 41 = .ok (.baload, 1) := by decide +kernel
theorem zd_194_42 : decode (zm_cc 194) 42 = .ok (.if_icmp .ne 7, 3) := by decide +kernel
theorem zd_194_45 : decode (zm_cc 194) 45 = .ok (.iconst 1, 1) := by decide +kernel
theorem zd_194_46 : decode (zm_cc 194) 46 = .ok (.goto 4, 3) := by decide +kernel
theorem zd_194_49 : decode (zm_cc 194) 49 = .ok (.iconst 0, 1) := by decide +kernel
theorem zd_194_50 : decode (zm_cc 194) 50 = .ok (.istore_n 3, 1) := by decide +kernel
theorem zd_194_51 : decode (zm_cc 194) 51 = .ok (.iinc 4 1, 3) := by decide +kernel
theorem zd_194_54 : decode (zm_cc 194) 54 = .ok (.goto (-49), 3) := by decide +kernel
theorem zd_194_57 : decode (zm_cc 194) 57 = .ok (.iconst 0, 1) := by decide +kernel
theorem zd_194_58 : decode (zm_cc 194) 58 = .ok (.istore 4, 2) := by decide +kernel
theorem zd_194_60 : decode (zm_cc 194) 60 = .ok (.iconst 0, 1) := by decide +kernel
theorem zd_194_61 : decode (zm_cc 194) 61 = .ok (.istore 5, 2) := by decide +kernel
theorem zd_194_63 : decode (zm_cc 194) 63 = .ok (.iconst 0, 1) := by decide +kernel
theorem zd_194_64 : decode (zm_cc 194) 64 = .ok (.istore 6, 2) := by decide +kernel
theorem zd_194_66 : decode (zm_cc 194) 66 = .ok (.iload 6, 2) := by decide +kernel
theorem zd_194_68 : decode (zm_cc 194) 68 = .ok (.aload_n 0, 1) := by decide +kernel
theorem zd_194_69 : decode (zm_cc 194) 69 = .ok (.getfield 225, 3) := by decide +kernel
theorem zd_194_72 : decode (zm_cc 194) 72 = .ok (.if_icmp .ge 142, 3) := by decide +kernel
theorem zd_194_75 : decode (zm_cc 194) 75 = .ok (.aload_n 0, 1) := by decide +kernel
theorem zd_194_76 : decode (zm_cc 194) 76 = .ok (.getfield 92, 3) := by decide +kernel
theorem zd_194_79 : decode (zm_cc 194) 79 = .ok (.bipush 40, 2) := by decide +kernel
theorem zd_194_81 : decode (zm_cc 194) 81 = .ok (.iload_n 1, 1) := by decide +kernel
theorem zd_194_82 : decode (zm_cc 194) 82 = .ok (.imul, 1) := by decide +kernel
theorem zd_194_83 : decode (zm_cc 194) 83 = .ok (.aload_n 0, 1) := by decide +kernel
theorem zd_194_84 : decode (zm_cc 194) 84 = .ok (.iload 6, 2) := by decide +kernel
theorem zd_194_86 : decode (zm_cc 194) 86 = .ok (.invokevirtual 348, 3) := by decide +kernel
theorem zd_194_89 : decode (zm_cc 194) 89 = .ok (.iadd, 1) := by decide +kernel
theorem zd_194_90 : decode (zm_cc 194) 90 = .ok (.iconst 1, 1) := by decide +kernel
theorem zd_194_91 : decode (zm_cc 194) 91 = .ok (.iadd, 1) := by decide +kernel
theorem zd_194_92 : decode (zm_cc 194) 92 = .ok (.baload, 1) := by decide +kernel
theorem zd_194_93 : decode (zm_cc 194) 93 = .ok (.istore 7, 2) := by decide +kernel
theorem zd_194_95 : decode (zm_cc 194) 95 = .ok (.aload_n 0, 1) := by decide +kernel
theorem zd_194_96 : decode (zm_cc 194) 96 = .ok (.getfield 92, 3) := by decide +kernel
theorem zd_194_99 : decode (zm_cc 194) 99 = .ok (.bipush 40, 2) := by decide +kernel
theorem zd_194_101 : decode (zm_cc 194) 101 = .ok (.iload_n 2, 1) := by decide +kernel
theorem zd_194_102 : decode (zm_cc 194) 102 = .ok (.imul, 1) := by decide +kernel
theorem zd_194_103 : decode (zm_cc 194) 103 = .ok (.aload_n 0, 1) := by decide +kernel
theorem zd_194_104 : decode (zm_cc 194) 104 = .ok (.iload 6, 2) := by decide +kernel
theorem zd_194_106 : decode (zm_cc 194) 106 = .ok (.invokevirtual 348, 3) := by decide +kernel
theorem zd_194_109 : decode (zm_cc 194) 109 = .ok (.iadd, 1) := by decide +kernel
theorem zd_194_110 : decode (zm_cc 194) 110 = .ok (.iconst 1, 1) := by decide +kernel
theorem zd_194_111 : decode (zm_cc 194) 111 = .ok (.iadd, 1) := by decide +kernel
theorem zd_194_112 : decode (zm_cc 194) 112 = .ok (.baload, 1) := by decide +kernel
theorem zd_194_113 : decode (zm_cc 194) 113 = .ok (.istore 8, 2) := by decide +kernel
theorem zd_194_115 : decode (zm_cc 194) 115 = .ok (.iload_n 3, 1) := by decide +kernel
theorem zd_194_116 : decode (zm_cc 194) 116 = .ok (.ifCond .eq 32, 3) := by decide +kernel
theorem zd_194_119 : decode (zm_cc 194) 119 = .ok (.iload 7, 2) := by decide +kernel
theorem zd_194_121 : decode (zm_cc 194) 121 = .ok (.iconst 5, 1) := by decide +kernel
theorem zd_194_122 : decode (zm_cc 194) 122 = .ok (.if_icmp .ne 7, 3) := by decide +kernel
theorem zd_194_125 : decode (zm_cc 194) 125 = .ok (.iconst 1, 1) := by decide +kernel
theorem zd_194_126 : decode (zm_cc 194) 126 = .ok (.goto 4, 3) := by decide +kernel
theorem zd_194_129 : decode (zm_cc 194) 129 = .ok (.iconst 0, 1) := by decide +kernel
theorem zd_194_130 : decode (zm_cc 194) 130 = .ok (.iload 8, 2) := by decide +kernel
theorem zd_194_132 : decode (zm_cc 194) 132 = .ok (.iconst 5, 1) := by decide +kernel
theorem zd_194_133 : decode (zm_cc 194) 133 = .ok (.if_icmp .ne 7, 3) := by decide +kernel
theorem zd_194_136 : decode (zm_cc 194) 136 = .ok (.iconst 1, 1) := by decide +kernel
theorem zd_194_137 : decode (zm_cc 194) 137 = .ok (.goto 4, 3) := by decide +kernel
theorem zd_194_140 : decode (zm_cc 194) 140 = .ok (.iconst 0, 1) := by decide +kernel
theorem zd_194_141 : decode (zm_cc 194) 141 = .ok (.if_icmp .ne 7, 3) := by decide +kernel
theorem zd_194_144 : decode (zm_cc 194) 144 = .ok (.iconst 1, 1) := by decide +kernel
theorem zd_194_145 : decode (zm_cc 194) 145 = .ok (.goto 4, 3) := by decide +kernel
theorem zd_194_148 : decode (zm_cc 194) 148 = .ok (.iconst 0, 1) := by decide +kernel
theorem zd_194_149 : decode (zm_cc 194) 149 = .ok (.istore_n 3, 1) := by decide +kernel
theorem zd_194_150 : decode (zm_cc 194) 150 = .ok (.iload 4, 2) := by decide +kernel
theorem zd_194_152 : decode (zm_cc 194) 152 = .ok (.ifCond .ne 20, 3) := by decide +kernel
theorem zd_194_155 : decode (zm_cc 194) 155 = .ok (.iload 7, 2) := by decide +kernel
theorem zd_194_157 : decode (zm_cc 194) 157 = .ok (.iconst 4, 1) := by decide +kernel
theorem zd_194_158 : decode (zm_cc 194) 158 = .ok (.if_icmp .eq 18, 3) := by decide +kernel
theorem zd_194_161 : decode (zm_cc 194) 161 = .ok (.iload 7, 2) := by decide +kernel
theorem zd_194_163 : decode (zm_cc 194) 163 = .ok (.iconst 5, 1) := by decide +kernel
theorem zd_194_164 : decode (zm_cc 194) 164 = .ok (.if_icmp .eq 12, 3) := by decide +kernel
theorem zd_194_167 : decode (zm_cc 194) 167 = .ok (.iload 7, 2) := by decide +kernel
theorem zd_194_169 : decode (zm_cc 194) 169 = .ok (.ifCond .eq 7, 3) := by decide +kernel
theorem zd_194_172 : decode (zm_cc 194) 172 = .ok (.iconst 1, 1) := by decide +kernel
theorem zd_194_173 : decode (zm_cc 194) 173 = .ok (.goto 4, 3) := by decide +kernel
theorem zd_194_176 : decode (zm_cc 194) 176 = .ok (.iconst 0, 1) := by decide +kernel
theorem zd_194_177 : decode (zm_cc 194) 177 = .ok (.istore 4, 2) := by decide +kernel
theorem zd_194_179 : decode (zm_cc 194) 179 = .ok (.iload 5, 2) := by decide +kernel
theorem zd_194_181 : decode (zm_cc 194) 181 = .ok (.ifCond .ne 20, 3) := by decide +kernel
theorem zd_194_184 : decode (zm_cc 194) 184 = .ok (.iload 8, 2) := by decide +kernel
theorem zd_194_186 : decode (zm_cc 194) 186 = .ok (.iconst 4, 1) := by decide +kernel
theorem zd_194_187 : decode (zm_cc 194) 187 = .ok (.if_icmp .eq 18, 3) := by decide +kernel
theorem zd_194_190 : decode (zm_cc 194) 190 = .ok (.iload 8, 2) := by decide +kernel
theorem zd_194_192 : decode (zm_cc 194) 192 = .ok (.iconst 5, 1) := by decide +kernel
theorem zd_194_193 : decode (zm_cc 194) 193 = .ok (.if_icmp .eq 12, 3) := by decide +kernel
theorem zd_194_196 : decode (zm_cc 194) 196 = .ok (.iload 8, 2) := by decide +kernel
theorem zd_194_198 : decode (zm_cc 194) 198 = .ok (.ifCond .eq 7, 3) := by decide +kernel
theorem zd_194_201 : decode (zm_cc 194) 201 = .ok (.iconst 1, 1) := by decide +kernel
theorem zd_194_202 : decode (zm_cc 194) 202 = .ok (.goto 4, 3) := by decide +kernel
theorem zd_194_205 : decode (zm_cc 194) 205 = .ok (.iconst 0, 1) := by decide +kernel
theorem zd_194_206 : decode (zm_cc 194) 206 = .ok (.istore 5, 2) := by decide +kernel
theorem zd_194_208 : decode (zm_cc 194) 208 = .ok (.iinc 6 1, 3) := by decide +kernel
theorem zd_194_211 : decode (zm_cc 194) 211 = .ok (.goto (-145), 3) := by decide +kernel
theorem zd_194_214 : decode (zm_cc 194) 214 = .ok (.iload_n 3, 1) := by decide +kernel
theorem zd_194_215 : decode (zm_cc 194) 215 = .ok (.ifCond .eq 14, 3) := by decide +kernel
theorem zd_194_218 : decode (zm_cc 194) 218 = .ok (.iload 4, 2) := by decide +kernel
theorem zd_194_220 : decode (zm_cc 194) 220 = .ok (.iload 5, 2) := by decide +kernel
theorem zd_194_222 : decode (zm_cc 194) 222 = .ok (.if_icmp .ne 7, 3) := by decide +kernel
theorem zd_194_225 : decode (zm_cc 194) 225 = .ok (.iconst 1, 1) := by decide +kernel
theorem zd_194_226 : decode (zm_cc 194) 226 = .ok (.goto 4, 3) := by decide +kernel
theorem zd_194_229 : decode (zm_cc 194) 229 = .ok (.iconst 0, 1) := by decide +kernel
theorem zd_194_230 : decode (zm_cc 194) 230 = .ok (.ireturn, 1) := by decide +kernel
theorem zd_195_0 : decode (zm_cc 195) 0 = .ok (.aload_n 0, 1) := by decide +kernel
theorem zd_195_1 : decode (zm_cc 195) 1 = .ok (.getfield 117, 3) := by decide +kernel
theorem zd_195_4 : decode (zm_cc 195) 4 = .ok (.ifCond .ne 6, 3) := by decide +kernel
theorem zd_195_7 : decode (zm_cc 195) 7 = .ok (.bipush (-101), 2) := by decide +kernel
theorem zd_195_9 : decode (zm_cc 195) 9 = .ok (.ireturn, 1) := by decide +kernel
theorem zd_195_10 : decode (zm_cc 195) 10 = .ok (.iload_n 1, 1) := by decide +kernel
theorem zd_195_11 : decode (zm_cc 195) 11 = .ok (.tableswitch 91 0 4 #[33, 44, 55, 66, 80], 33) := by decide +kernel
theorem zd_195_44 : decode (zm_cc 195) 44 = .ok (.aload_n 0, 1) := by decide +kernel
theorem zd_195_45 : decode (zm_cc 195) 45 = .ok (.getfield 50, 3) := by decide +kernel
theorem zd_195_48 : decode (zm_cc 195) 48 = .ok (.getfield 180, 3) := by decide +kernel
theorem zd_195_51 : decode (zm_cc 195) 51 = .ok (.getfield 184, 3) := by decide +kernel
theorem zd_195_54 : decode (zm_cc 195) 54 = .ok (.ireturn, 1) := by decide +kernel
theorem zd_195_55 : decode (zm_cc 195) 55 = .ok (.aload_n 0, 1) := by decide +kernel
theorem zd_195_56 : decode (zm_cc 195) 56 = .ok (.getfield 50, 3) := by decide +kernel
theorem zd_195_59 : decode (zm_cc 195) 59 = .ok (.getfield 187, 3) := by decide +kernel
theorem zd_195_62 : decode (zm_cc 195) 62 = .ok (.getfield 184, 3) := by decide +kernel
theorem zd_195_65 : decode (zm_cc 195) 65 = .ok (.ireturn, 1) := by decide +kernel
theorem zd_195_66 : decode (zm_cc 195) 66 = .ok (.aload_n 0, 1) := by decide +kernel
theorem zd_195_67 : decode (zm_cc 195) 67 = .ok (.getfield 50, 3) := by decide +kernel
theorem zd_195_70 : decode (zm_cc 195) 70 = .ok (.getfield 190, 3) := by decide +kernel
theorem zd_195_73 : decode (zm_cc 195) 73 = .ok (.getfield 184, 3) := by decide +kernel
theorem zd_195_76 : decode (zm_cc 195) 76 = .ok (.ireturn, 1) := by decide +kernel
theorem zd_195_77 : decode (zm_cc 195) 77 = .ok (.aload_n 0, 1) := by decide +kernel
theorem zd_195_78 : decode (zm_cc 195) 78 = .ok (.getfield 50, 3) := by decide +kernel
theorem zd_195_81 : decode (zm_cc 195) 81 = .ok (.getfield 193, 3) := by decide +kernel
theorem zd_195_84 : decode (zm_cc 195) 84 = .ok (.getfield 196, 3) := by decide +kernel
theorem zd_195_87 : decode (zm_cc 195) 87 = .ok (.getfield 184, 3) := by decide +kernel
theorem zd_195_90 : decode (zm_cc 195) 90 = .ok (.ireturn, 1) := by decide +kernel
theorem zd_195_91 : decode (zm_cc 195) 91 = .ok (.aload_n 0, 1) := by decide +kernel
theorem zd_195_92 : decode (zm_cc 195) 92 = .ok (.getfield 50, 3) := by decide +kernel
theorem zd_195_95 : decode (zm_cc 195) 95 = .ok (.getfield 199, 3) := by decide +kernel
theorem zd_195_98 : decode (zm_cc 195) 98 = .ok (.getfield 184, 3) := by decide +kernel
theorem zd_195_101 : decode (zm_cc 195) 101 = .ok (.ireturn, 1) := by decide +kernel
theorem zd_195_102 : decode (zm_cc 195) 102 = .ok (.bipush (-102), 2) := by decide +kernel
theorem zd_195_104 : decode (zm_cc 195) 104 = .ok (.ireturn, 1) := by decide +kernel
theorem zd_196_0 : decode (zm_cc 196) 0 = .ok (.aload_n 0, 1) := by decide +kernel
theorem zd_196_1 : decode (zm_cc 196) 1 = .ok (.iconst 0, 1) := by decide +kernel
theorem zd_196_2 : decode (zm_cc 196) 2 = .ok (.putfield 1, 3) := by decide +kernel
theorem zd_196_5 : decode (zm_cc 196) 5 = .ok (.aload_n 0, 1) := by decide +kernel
theorem zd_196_6 : decode (zm_cc 196) 6 = .ok (.getfield 322, 3) := by decide +kernel
theorem zd_196_9 : decode (zm_cc 196) 9 = .ok (.ifCond .ne 6, 3) := by decide +kernel
theorem zd_196_12 : decode (zm_cc 196) 12 = .ok (.bipush (-101), 2) := by decide +kernel
theorem zd_196_14 : decode (zm_cc 196) 14 = .ok (.ireturn, 1) := by decide +kernel
theorem zd_196_15 : decode (zm_cc 196) 15 = .ok (.iload_n 1, 1) := by decide +kernel
theorem zd_196_16 : decode (zm_cc 196) 16 = .ok (.tableswitch 64 0 4 #[36, 42, 48, 53, 58], 36) := by decide +kernel
theorem zd_196_52 : decode (zm_cc 196) 52 = .ok (.aload_n 0, 1) := by decide +kernel
theorem zd_196_53 : decode (zm_cc 196) 53 = .ok (.iconst 2, 1) := by decide +kernel
theorem zd_196_54 : decode (zm_cc 196) 54 = .ok (.invokevirtual 425, 3) := by decide +kernel
theorem zd_196_57 : decode (zm_cc 196) 57 = .ok (.ireturn, 1) := by decide +kernel
theorem zd_196_58 : decode (zm_cc 196) 58 = .ok (.aload_n 0, 1) := by decide +kernel
theorem zd_196_59 : decode (zm_cc 196) 59 = .ok (.iconst 1, 1) := by decide +kernel
theorem zd_196_60 : decode (zm_cc 196) 60 = .ok (.invokevirtual 425, 3) := by decide +kernel
theorem zd_196_63 : decode (zm_cc 196) 63 = .ok (.ireturn, 1) := by decide +kernel
theorem zd_196_64 : decode (zm_cc 196) 64 = .ok (.aload_n 0, 1) := by decide +kernel
theorem zd_196_65 : decode (zm_cc 196) 65 = .ok (.invokevirtual 428, 3) := by decide +kernel
theorem zd_196_68 : decode (zm_cc 196) 68 = .ok (.ireturn, 1) := by decide +kernel
theorem zd_196_69 : decode (zm_cc 196) 69 = .ok (.aload_n 0, 1) := by decide +kernel
theorem zd_196_70 : decode (zm_cc 196) 70 = .ok (.getfield 392, 3) := by decide +kernel
theorem zd_196_73 : decode (zm_cc 196) 73 = .ok (.ireturn, 1) := by decide +kernel
theorem zd_196_74 : decode (zm_cc 196) 74 = .ok (.aload_n 0, 1) := by decide +kernel
theorem zd_196_75 : decode (zm_cc 196) 75 = .ok (.iconst 4, 1) := by decide +kernel
theorem zd_196_76 : decode (zm_cc 196) 76 = .ok (.invokevirtual 425, 3) := by decide +kernel
theorem zd_196_79 : decode (zm_cc 196) 79 = .ok (.ireturn, 1) := by decide +kernel
theorem zd_196_80 : decode (zm_cc 196) 80 = .ok (.bipush (-102), 2) := by decide +kernel
theorem zd_196_82 : decode (zm_cc 196) 82 = .ok (.ireturn, 1) := by decide +kernel
theorem zd_197_0 : decode (zm_cc 197) 0 = .ok (.iconst 0, 1) := by decide +kernel
theorem zd_197_1 : decode (zm_cc 197) 1 = .ok (.istore_n 2, 1) := by decide +kernel
theorem zd_197_2 : decode (zm_cc 197) 2 = .ok (.iconst 0, 1) := by decide +kernel
theorem zd_197_3 : decode (zm_cc 197) 3 = .ok (.istore_n 3, 1) := by decide +kernel
theorem zd_197_4 : decode (zm_cc 197) 4 = .ok (.iload_n 3, 1) := by decide +kernel
theorem zd_197_5 : decode (zm_cc 197) 5 = .ok (.aload_n 0, 1) := by decide +kernel
theorem zd_197_6 : decode (zm_cc 197) 6 = .ok (.getfield 419, 3) := by decide +kernel
theorem zd_197_9 : decode (zm_cc 197) 9 = .ok (.if_icmp .ge 26, 3) := by decide +kernel
theorem zd_197_12 : decode (zm_cc 197) 12 = .ok (.iload_n 2, 1) := by decide +kernel
theorem zd_197_13 : decode (zm_cc 197) 13 = .ok (.aload_n 0, 1) := by decide +kernel
theorem zd_197_14 : decode (zm_cc 197) 14 = .ok (.iload_n 3, 1) := by decide +kernel
theorem zd_197_15 : decode (zm_cc 197) 15 = .ok (.iload_n 1, 1) := by decide +kernel
theorem zd_197_16 : decode (zm_cc 197) 16 = .ok (.invokevirtual 422, 3) := by decide +kernel
theorem zd_197_19 : decode (zm_cc 197) 19 = .ok (.ifCond .eq 7, 3) := by decide +kernel
theorem zd_197_22 : decode (zm_cc 197) 22 = .ok (.iconst 1, 1) := by decide +kernel
theorem zd_197_23 : decode (zm_cc 197) 23 = .ok (.goto 4, 3) := by decide +kernel
theorem zd_197_26 : decode (zm_cc 197) 26 = .ok (.iconst 0, 1) := by decide +kernel
theorem zd_197_27 : decode (zm_cc 197) 27 = .ok (.iadd, 1) := by decide +kernel
theorem zd_197_28 : decode (zm_cc 197) 28 = .ok (.istore_n 2, 1) := by decide +kernel
theorem zd_197_29 : decode (zm_cc 197) 29 = .ok (.iinc 3 1, 3) := by decide +kernel
theorem zd_197_32 : decode (zm_cc 197) 32 = .ok (.goto (-28), 3) := by decide +kernel
theorem zd_197_35 : decode (zm_cc 197) 35 = .ok (.iload_n 2, 1) := by decide +kernel
theorem zd_197_36 : decode (zm_cc 197) 36 = .ok (.ireturn, 1) := by decide +kernel
theorem zd_198_0 : decode (zm_cc 198) 0 = .ok (.iload_n 2, 1) := by decide +kernel
theorem zd_198_1 : decode (zm_cc 198) 1 = .ok (.iconst 1, 1) := by decide +kernel
theorem zd_198_2 : decode (zm_cc 198) 2 = .ok (.if_icmp .ne 19, 3) := by decide +kernel
theorem zd_198_5 : decode (zm_cc 198) 5 = .ok (.aload_n 0, 1) := by decide +kernel
theorem zd_198_6 : decode (zm_cc 198) 6 = .ok (.getfield 107, 3) := by decide +kernel
theorem zd_198_9 : decode (zm_cc 198) 9 = .ok (.iload_n 1, 1) := by decide +kernel
theorem zd_198_10 : decode (zm_cc 198) 10 = .ok (.iaload, 1) := by decide +kernel
theorem zd_198_11 : decode (zm_cc 198) 11 = .ok (.iconst 2, 1) := by decide +kernel
theorem zd_198_12 : decode (zm_cc 198) 12 = .ok (.if_icmp .ne 7, 3) := by decide +kernel
theorem zd_198_15 : decode (zm_cc 198) 15 = .ok (.iconst 1, 1) := by decide +kernel
theorem zd_198_16 : decode (zm_cc 198) 16 = .ok (.goto 4, 3) := by decide +kernel
theorem zd_198_19 : decode (zm_cc 198) 19 = .ok (.iconst 0, 1) := by decide +kernel
theorem zd_198_20 : decode (zm_cc 198) 20 = .ok (.ireturn, 1) := by decide +kernel
theorem zd_198_21 : decode (zm_cc 198) 21 = .ok (.iload_n 2, 1) := by decide +kernel
theorem zd_198_22 : decode (zm_cc 198) 22 = .ok (.iconst 2, 1) := by decide +kernel
theorem zd_198_23 : decode (zm_cc 198) 23 = .ok (.if_icmp .ne 19, 3) := by decide +kernel
theorem zd_198_26 : decode (zm_cc 198) 26 = .ok (.aload_n 0, 1) := by decide +kernel
theorem zd_198_27 : decode (zm_cc 198) 27 = .ok (.getfield 107, 3) := by decide +kernel
theorem zd_198_30 : decode (zm_cc 198) 30 = .ok (.iload_n 1, 1) := by decide +kernel
theorem zd_198_31 : decode (zm_cc 198) 31 = .ok (.iaload, 1) := by decide +kernel
theorem zd_198_32 : decode (zm_cc 198) 32 = .ok (.iconst 1, 1) := by decide +kernel
theorem zd_198_33 : decode (zm_cc 198) 33 = .ok (.if_icmp .ne 7, 3) := by decide +kernel
theorem zd_198_36 : decode (zm_cc 198) 36 = .ok (.iconst 1, 1) := by decide +kernel
theorem zd_198_37 : decode (zm_cc 198) 37 = .ok (.goto 4, 3) := by decide +kernel
theorem zd_198_40 : decode (zm_cc 198) 40 = .ok (.iconst 0, 1) := by decide +kernel
theorem zd_198_41 : decode (zm_cc 198) 41 = .ok (.ireturn, 1) := by decide +kernel
theorem zd_198_42 : decode (zm_cc 198) 42 = .ok (.iconst 0, 1) := by decide +kernel
theorem zd_198_43 : decode (zm_cc 198) 43 = .ok (.istore_n 3, 1) := by decide +kernel
theorem zd_198_44 : decode (zm_cc 198) 44 = .ok (.iconst 0, 1) := by decide +kernel
theorem zd_198_45 : decode (zm_cc 198) 45 = .ok (.istore 4, 2) := by decide +kernel
theorem zd_198_47 : decode (zm_cc 198) 47 = .ok (.iload 4, 2) := by decide +kernel
theorem zd_198_49 : decode (zm_cc 198) 49 = .ok (.aload_n 0, 1) := by decide +kernel
theorem zd_198_50 : decode (zm_cc 198) 50 = .ok (.getfield 225, 3) := by decide +kernel
theorem zd_198_53 : decode (zm_cc 198) 53 = .ok (.if_icmp .ge 41, 3) := by decide +kernel
theorem zd_198_56 : decode (zm_cc 198) 56 = .ok (.iload_n 3, 1) := by decide +kernel
theorem zd_198_57 : decode (zm_cc 198) 57 = .ok (.ifCond .ne 25, 3) := by decide +kernel
theorem zd_198_60 : decode (zm_cc 198) 60 = .ok (.aload_n 0, 1) := by decide +kernel
theorem zd_198_61 : decode (zm_cc 198) 61 = .ok (.getfield 92, 3) := by decide +kernel
theorem zd_198_64 : decode (zm_cc 198) 64 = .ok (.bipush 40, 2) := by decide +kernel
theorem zd_198_66 : decode (zm_cc 198) 66 = .ok (.iload_n 1, 1) := by decide +kernel
theorem zd_198_67 : decode (zm_cc 198) 67 = .ok (.imul, 1) := by decide +kernel
theorem zd_198_68 : decode (zm_cc 198) 68 = .ok (.aload_n 0, 1) := by decide +kernel
theorem zd_198_69 : decode (zm_cc 198) 69 = .ok (.iload 4, 2) := by decide +kernel
theorem zd_198_71 : decode (zm_cc 198) 71 = .ok (.invokevirtual 348, 3) := by decide +kernel
theorem zd_198_74 : decode (zm_cc 198) 74 = .ok (.iadd, 1) := by decide +kernel
theorem zd_198_75 : decode (zm_cc 198) 75 = .ok (.iconst 1, 1) := by decide +kernel
theorem zd_198_76 : decode (zm_cc 198) 76 = .ok (.iadd, 1) := by decide +kernel
theorem zd_198_77 : decode (zm_cc 198) 77 = .ok (.baload, 1) := by decide +kernel
theorem zd_198_78 : decode (zm_cc 198) 78 = .ok (.iconst 5, 1) := by decide +kernel
theorem zd_198_79 : decode (zm_cc 198) 79 = .ok (.if_icmp .ne 7, 3) := by decide +kernel
theorem zd_198_82 : decode (zm_cc 198) 82 = .ok (.iconst 1, 1) := by decide +kernel
theorem zd_198_83 : decode (zm_cc 198) 83 = .ok (.goto 4, 3) := by decide +kernel
theorem zd_198_86 : decode (zm_cc 198) 86 = .ok (.iconst 0, 1) := by decide +kernel
theorem zd_198_87 : decode (zm_cc 198) 87 = .ok (.istore_n 3, 1) := by decide +kernel
theorem zd_198_88 : decode (zm_cc 198) 88 = .ok (.iinc 4 1, 3) := by decide +kernel
theorem zd_198_91 : decode (zm_cc 198) 91 = .ok (.goto (-44), 3) := by decide +kernel
theorem zd_198_94 : decode (zm_cc 198) 94 = .ok (.iload_n 3, 1) := by decide +kernel
theorem zd_198_95 : decode (zm_cc 198) 95 = .ok (.ireturn, 1) := by decide +kernel
theorem zd_199_0 : decode (zm_cc 199) 0 = .ok (.iconst 0, 1) := by decide +kernel
theorem zd_199_1 : decode (zm_cc 199) 1 = .ok (.istore_n 1, 1) := by decide +kernel
theorem zd_199_2 : decode (zm_cc 199) 2 = .ok (.iconst 0, 1) := by decide +kernel
theorem zd_199_3 : decode (zm_cc 199) 3 = .ok (.istore_n 2, 1) := by decide +kernel
theorem zd_199_4 : decode (zm_cc 199) 4 = .ok (.iload_n 2, 1) := by decide +kernel
theorem zd_199_5 : decode (zm_cc 199) 5 = .ok (.sipush 9216, 3) := by decide +kernel
theorem zd_199_8 : decode (zm_cc 199) 8 = .ok (.if_icmp .ge 26, 3) := by decide +kernel
theorem zd_199_11 : decode (zm_cc 199) 11 = .ok (.iload_n 1, 1) := by decide +kernel
theorem zd_199_12 : decode (zm_cc 199) 12 = .ok (.aload_n 0, 1) := by decide +kernel
theorem zd_199_13 : decode (zm_cc 199) 13 = .ok (.getfield 110, 3) := by decide +kernel
theorem zd_199_16 : decode (zm_cc 199) 16 = .ok (.iload_n 2, 1) := by decide +kernel
theorem zd_199_17 : decode (zm_cc 199) 17 = .ok (.iaload, 1) := by decide +kernel
theorem zd_199_18 : decode (zm_cc 199) 18 = .ok (.ifCond .le 7, 3) := by decide +kernel
theorem zd_199_21 : decode (zm_cc 199) 21 = .ok (.iconst 1, 1) := by decide +kernel
theorem zd_199_22 : decode (zm_cc 199) 22 = .ok (.goto 4, 3) := by decide +kernel
theorem zd_199_25 : decode (zm_cc 199) 25 = .ok (.iconst 0, 1) := by decide +kernel
theorem zd_199_26 : decode (zm_cc 199) 26 = .ok (.iadd, 1) := by decide +kernel
theorem zd_199_27 : decode (zm_cc 199) 27 = .ok (.istore_n 1, 1) := by decide +kernel
theorem zd_199_28 : decode (zm_cc 199) 28 = .ok (.iinc 2 1, 3) := by decide +kernel
theorem zd_199_31 : decode (zm_cc 199) 31 = .ok (.goto (-27), 3) := by decide +kernel
theorem zd_199_34 : decode (zm_cc 199) 34 = .ok (.iload_n 1, 1) := by decide +kernel
theorem zd_199_35 : decode (zm_cc 199) 35 = .ok (.ireturn, 1) := by decide +kernel
theorem zd_200_0 : decode (zm_cc 200) 0 = .ok (.aload_n 0, 1) := by decide +kernel
theorem zd_200_1 : decode (zm_cc 200) 1 = .ok (.getfield 117, 3) := by decide +kernel
theorem zd_200_4 : decode (zm_cc 200) 4 = .ok (.ifCond .ne 6, 3) := by decide +kernel
theorem zd_200_7 : decode (zm_cc 200) 7 = .ok (.bipush (-101), 2) := by decide +kernel
theorem zd_200_9 : decode (zm_cc 200) 9 = .ok (.ireturn, 1) := by decide +kernel
theorem zd_200_10 : decode (zm_cc 200) 10 = .ok (.aload_n 0, 1) := by decide +kernel
theorem zd_200_11 : decode (zm_cc 200) 11 = .ok (.iload_n 1, 1) := by decide +kernel
theorem zd_200_12 : decode (zm_cc 200) 12 = .ok (.iload_n 2, 1) := by decide +kernel
theorem zd_200_13 : decode (zm_cc 200) 13 = .ok (.invokevirtual 202, 3) := by decide +kernel
theorem zd_200_16 : decode (zm_cc 200) 16 = .ok (.istore_n 3, 1) := by decide +kernel
theorem zd_200_17 : decode (zm_cc 200) 17 = .ok (.iload_n 3, 1) := by decide +kernel
theorem zd_200_18 : decode (zm_cc 200) 18 = .ok (.iconst (-1), 1) := by decide +kernel
theorem zd_200_19 : decode (zm_cc 200) 19 = .ok (.if_icmp .ne 6, 3) := by decide +kernel
theorem zd_200_22 : decode (zm_cc 200) 22 = .ok (.bipush (-102), 2) := by decide +kernel
theorem zd_200_24 : decode (zm_cc 200) 24 = .ok (.ireturn, 1) := by decide +kernel
theorem zd_200_25 : decode (zm_cc 200) 25 = .ok (.aload_n 0, 1) := by decide +kernel
theorem zd_200_26 : decode (zm_cc 200) 26 = .ok (.aload_n 0, 1) := by decide +kernel
theorem zd_200_27 : decode (zm_cc 200) 27 = .ok (.getfield 43, 3) := by decide +kernel
theorem zd_200_30 : decode (zm_cc 200) 30 = .ok (.iload_n 3, 1) := by decide +kernel
theorem zd_200_31 : decode (zm_cc 200) 31 = .ok (.aload_n 0, 1) := by decide +kernel
theorem zd_200_32 : decode (zm_cc 200) 32 = .ok (.getfield 77, 3) := by decide +kernel
theorem zd_200_35 : decode (zm_cc 200) 35 = .ok (.invokevirtual 205, 3) := by decide +kernel
theorem zd_200_38 : decode (zm_cc 200) 38 = .ok (.putfield 80, 3) := by decide +kernel
theorem zd_200_41 : decode (zm_cc 200) 41 = .ok (.iload_n 3, 1) := by decide +kernel
theorem zd_200_42 : decode (zm_cc 200) 42 = .ok (.ireturn, 1) := by decide +kernel
theorem zd_201_0 : decode (zm_cc 201) 0 = .ok (.iload_n 1, 1) := by decide +kernel
theorem zd_201_1 : decode (zm_cc 201) 1 = .ok (.tableswitch 98 0 4 #[35, 47, 59, 71, 86], 35) := by decide +kernel
theorem zd_201_36 : decode (zm_cc 201) 36 = .ok (.aload_n 0, 1) := by decide +kernel
theorem zd_201_37 : decode (zm_cc 201) 37 = .ok (.getfield 50, 3) := by decide +kernel
theorem zd_201_40 : decode (zm_cc 201) 40 = .ok (.getfield 209, 3) := by decide +kernel
theorem zd_201_43 : decode (zm_cc 201) 43 = .ok (.iload_n 2, 1) := by decide +kernel
theorem zd_201_44 : decode (zm_cc 201) 44 = .ok (.invokevirtual 212, 3) := by decide +kernel
theorem zd_201_47 : decode (zm_cc 201) 47 = .ok (.ireturn, 1) := by decide +kernel
theorem zd_201_48 : decode (zm_cc 201) 48 = .ok (.aload_n 0, 1) := by decide +kernel
theorem zd_201_49 : decode (zm_cc 201) 49 = .ok (.getfield 50, 3) := by decide +kernel
theorem zd_201_52 : decode (zm_cc 201) 52 = .ok (.getfield 187, 3) := by decide +kernel
theorem zd_201_55 : decode (zm_cc 201) 55 = .ok (.iload_n 2, 1) := by decide +kernel
theorem zd_201_56 : decode (zm_cc 201) 56 = .ok (.invokevirtual 212, 3) := by decide +kernel
theorem zd_201_59 : decode (zm_cc 201) 59 = .ok (.ireturn, 1) := by decide +kernel
theorem zd_201_60 : decode (zm_cc 201) 60 = .ok (.aload_n 0, 1) := by decide +kernel
theorem zd_201_61 : decode (zm_cc 201) 61 = .ok (.getfield 50, 3) := by decide +kernel
theorem zd_201_64 : decode (zm_cc 201) 64 = .ok (.getfield 180, 3) := by decide +kernel
theorem zd_201_67 : decode (zm_cc 201) 67 = .ok (.iload_n 2, 1) := by decide +kernel
theorem zd_201_68 : decode (zm_cc 201) 68 = .ok (.invokevirtual 212, 3) := by decide +kernel
theorem zd_201_71 : decode (zm_cc 201) 71 = .ok (.ireturn, 1) := by decide +kernel
theorem zd_201_72 : decode (zm_cc 201) 72 = .ok (.aload_n 0, 1) := by decide +kernel
theorem zd_201_73 : decode (zm_cc 201) 73 = .ok (.getfield 50, 3) := by decide +kernel
theorem zd_201_76 : decode (zm_cc 201) 76 = .ok (.getfield 193, 3) := by decide +kernel
theorem zd_201_79 : decode (zm_cc 201) 79 = .ok (.getfield 196, 3) := by decide +kernel
theorem zd_201_82 : decode (zm_cc 201) 82 = .ok (.iload_n 2, 1) := by decide +kernel
theorem zd_201_83 : decode (zm_cc 201) 83 = .ok (.invokevirtual 212, 3) := by decide +kernel
theorem zd_201_86 : decode (zm_cc 201) 86 = .ok (.ireturn, 1) := by decide +kernel
theorem zd_201_87 : decode (zm_cc 201) 87 = .ok (.aload_n 0, 1) := by decide +kernel
theorem zd_201_88 : decode (zm_cc 201) 88 = .ok (.getfield 50, 3) := by decide +kernel
theorem zd_201_91 : decode (zm_cc 201) 91 = .ok (.getfield 199, 3) := by decide +kernel
theorem zd_201_94 : decode (zm_cc 201) 94 = .ok (.iload_n 2, 1) := by decide +kernel
theorem zd_201_95 : decode (zm_cc 201) 95 = .ok (.invokevirtual 212, 3) := by decide +kernel
theorem zd_201_98 : decode (zm_cc 201) 98 = .ok (.ireturn, 1) := by decide +kernel
theorem zd_201_99 : decode (zm_cc 201) 99 = .ok (.iconst (-1), 1) := by decide +kernel
theorem zd_201_100 : decode (zm_cc 201) 100 = .ok (.ireturn, 1) := by decide +kernel
theorem zd_202_0 : decode (zm_cc 202) 0 = .ok (.iconst 0, 1) := by decide +kernel
theorem zd_202_1 : decode (zm_cc 202) 1 = .ok (.istore_n 3, 1) := by decide +kernel
theorem zd_202_2 : decode (zm_cc 202) 2 = .ok (.iload_n 1, 1) := by decide +kernel
theorem zd_202_3 : decode (zm_cc 202) 3 = .ok (.istore 4, 2) := by decide +kernel
theorem zd_202_5 : decode (zm_cc 202) 5 = .ok (.iload 4, 2) := by decide +kernel
theorem zd_202_7 : decode (zm_cc 202) 7 = .ok (.ifCond .le 36, 3) := by decide +kernel
theorem zd_202_10 : decode (zm_cc 202) 10 = .ok (.aload_n 0, 1) := by decide +kernel
theorem zd_202_11 : decode (zm_cc 202) 11 = .ok (.iload 4, 2) := by decide +kernel
theorem zd_202_13 : decode (zm_cc 202) 13 = .ok (.invokevirtual 37, 3) := by decide +kernel
theorem zd_202_16 : decode (zm_cc 202) 16 = .ok (.ifCond .eq 27, 3) := by decide +kernel
theorem zd_202_19 : decode (zm_cc 202) 19 = .ok (.iload_n 3, 1) := by decide +kernel
theorem zd_202_20 : decode (zm_cc 202) 20 = .ok (.sipush 4000, 3) := by decide +kernel
theorem zd_202_23 : decode (zm_cc 202) 23 = .ok (.if_icmp .ge 20, 3) := by decide +kernel
theorem zd_202_26 : decode (zm_cc 202) 26 = .ok (.iinc 3 1, 3) := by decide +kernel
theorem zd_202_29 : decode (zm_cc 202) 29 = .ok (.aload_n 0, 1) := by decide +kernel
theorem zd_202_30 : decode (zm_cc 202) 30 = .ok (.getfield 15, 3) := by decide +kernel
theorem zd_202_33 : decode (zm_cc 202) 33 = .ok (.iload 4, 2) := by decide +kernel
theorem zd_202_35 : decode (zm_cc 202) 35 = .ok (.iaload, 1) := by decide +kernel
theorem zd_202_36 : decode (zm_cc 202) 36 = .ok (.iconst 4, 1) := by decide +kernel
theorem zd_202_37 : decode (zm_cc 202) 37 = .ok (.idiv, 1) := by decide +kernel
theorem zd_202_38 : decode (zm_cc 202) 38 = .ok (.istore 4, 2) := by decide +kernel
theorem zd_202_40 : decode (zm_cc 202) 40 = .ok (.goto (-35), 3) := by decide +kernel
theorem zd_202_43 : decode (zm_cc 202) 43 = .ok (.iload_n 3, 1) := by decide +kernel
theorem zd_202_44 : decode (zm_cc 202) 44 = .ok (.iconst 1, 1) := by decide +kernel
theorem zd_202_45 : decode (zm_cc 202) 45 = .ok (.isub, 1) := by decide +kernel
theorem zd_202_46 : decode (zm_cc 202) 46 = .ok (.istore 4, 2) := by decide +kernel
theorem zd_202_48 : decode (zm_cc 202) 48 = .ok (.iload_n 1, 1) := by decide +kernel
theorem zd_202_49 : decode (zm_cc 202) 49 = .ok (.istore 5, 2) := by decide +kernel
theorem zd_202_51 : decode (zm_cc 202) 51 = .ok (.iload 5, 2) := by decide +kernel
theorem zd_202_53 : decode (zm_cc 202) 53 = .ok (.ifCond .le 54, 3) := by decide +kernel
theorem zd_202_56 : decode (zm_cc 202) 56 = .ok (.aload_n 0, 1) := by decide +kernel
theorem zd_202_57 : decode (zm_cc 202) 57 = .ok (.iload 5, 2) := by decide +kernel
theorem zd_202_59 : decode (zm_cc 202) 59 = .ok (.invokevirtual 37, 3) := by decide +kernel
theorem zd_202_62 : decode (zm_cc 202) 62 = .ok (.ifCond .eq 45, 3) := by decide +kernel
theorem zd_202_65 : decode (zm_cc 202) 65 = .ok (.iload 4, 2) := by decide +kernel
theorem zd_202_67 : decode (zm_cc 202) 67 = .ok (.ifCond .lt 40, 3) := by decide +kernel
theorem zd_202_70 : decode (zm_cc 202) 70 = .ok (.iload 4, 2) := by decide +kernel
