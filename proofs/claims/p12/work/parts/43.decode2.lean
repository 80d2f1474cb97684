/-! decode rows -/
theorem zd_144_101 : decode (zm_cc 144) 101 = .ok (.invokevirtual 77, 3) := by decide +kernel
theorem zd_144_104 : decode (zm_cc 144) 104 = .ok (.iload_n 1, 1) := by decide +kernel
theorem zd_144_105 : decode (zm_cc 144) 105 = .ok (.if_icmp .ne 7, 3) := by decide +kernel
theorem zd_144_108 : decode (zm_cc 144) 108 = .ok (.iconst 1, 1) := by decide +kernel
theorem zd_144_109 : decode (zm_cc 144) 109 = .ok (.goto 4, 3) := by decide +kernel
theorem zd_144_112 : decode (zm_cc 144) 112 = .ok (.iconst 0, 1) := by decide +kernel
theorem zd_144_113 : decode (zm_cc 144) 113 = .ok (.ireturn, 1) := by decide +kernel
theorem zd_144_114 : decode (zm_cc 144) 114 = .ok (.aload_n 0, 1) := by decide +kernel
theorem zd_144_115 : decode (zm_cc 144) 115 = .ok (.iload 4, 2) := by decide +kernel
theorem zd_144_117 : decode (zm_cc 144) 117 = .ok (.invokevirtual 65, 3) := by decide +kernel
theorem zd_144_120 : decode (zm_cc 144) 120 = .ok (.iconst 4, 1) := by decide +kernel
theorem zd_144_121 : decode (zm_cc 144) 121 = .ok (.if_icmp .eq 13, 3) := by decide +kernel
theorem zd_144_124 : decode (zm_cc 144) 124 = .ok (.aload_n 0, 1) := by decide +kernel
theorem zd_144_125 : decode (zm_cc 144) 125 = .ok (.iload 4, 2) := by decide +kernel
theorem zd_144_127 : decode (zm_cc 144) 127 = .ok (.invokevirtual 65, 3) := by decide +kernel
theorem zd_144_130 : decode (zm_cc 144) 130 = .ok (.iconst 5, 1) := by decide +kernel
theorem zd_144_131 : decode (zm_cc 144) 131 = .ok (.if_icmp .ne 7, 3) := by decide +kernel
theorem zd_144_134 : decode (zm_cc 144) 134 = .ok (.iconst 1, 1) := by decide +kernel
theorem zd_144_135 : decode (zm_cc 144) 135 = .ok (.goto 4, 3) := by decide +kernel
theorem zd_144_138 : decode (zm_cc 144) 138 = .ok (.iconst 0, 1) := by decide +kernel
theorem zd_144_139 : decode (zm_cc 144) 139 = .ok (.ireturn, 1) := by decide +kernel
theorem zd_144_140 : decode (zm_cc 144) 140 = .ok (.iconst 1, 1) := by decide +kernel
theorem zd_144_141 : decode (zm_cc 144) 141 = .ok (.ireturn, 1) := by decide +kernel
theorem zd_145_0 : decode (zm_cc 145) 0 = .ok (.iload_n 1, 1) := by decide +kernel
theorem zd_145_1 : decode (zm_cc 145) 1 = .ok (.ifCond .lt 17, 3) := by decide +kernel
theorem zd_145_4 : decode (zm_cc 145) 4 = .ok (.iload_n 1, 1) := by decide +kernel
theorem zd_145_5 : decode (zm_cc 145) 5 = .ok (.iconst 4, 1) := by decide +kernel
theorem zd_145_6 : decode (zm_cc 145) 6 = .ok (.if_icmp .ge 12, 3) := by decide +kernel
theorem zd_145_9 : decode (zm_cc 145) 9 = .ok (.aload_n 0, 1) := by decide +kernel
theorem zd_145_10 : decode (zm_cc 145) 10 = .ok (.getfield 18, 3) := by decide +kernel
theorem zd_145_13 : decode (zm_cc 145) 13 = .ok (.iload_n 1, 1) := by decide +kernel
theorem zd_145_14 : decode (zm_cc 145) 14 = .ok (.iaload, 1) := by decide +kernel
theorem zd_145_15 : decode (zm_cc 145) 15 = .ok (.goto 4, 3) := by decide +kernel
theorem zd_145_18 : decode (zm_cc 145) 18 = .ok (.iconst (-1), 1) := by decide +kernel
theorem zd_145_19 : decode (zm_cc 145) 19 = .ok (.ireturn, 1) := by decide +kernel
theorem zd_146_0 : decode (zm_cc 146) 0 = .ok (.iload_n 1, 1) := by decide +kernel
theorem zd_146_1 : decode (zm_cc 146) 1 = .ok (.ifCond .lt 8, 3) := by decide +kernel
theorem zd_146_4 : decode (zm_cc 146) 4 = .ok (.iload_n 1, 1) := by decide +kernel
theorem zd_146_5 : decode (zm_cc 146) 5 = .ok (.iconst 4, 1) := by decide +kernel
theorem zd_146_6 : decode (zm_cc 146) 6 = .ok (.if_icmp .lt 4, 3) := by decide +kernel
theorem zd_146_9 : decode (zm_cc 146) 9 = .ok (.return_, 1) := by decide +kernel
theorem zd_146_10 : decode (zm_cc 146) 10 = .ok (.aload_n 0, 1) := by decide +kernel
theorem zd_146_11 : decode (zm_cc 146) 11 = .ok (.iload_n 1, 1) := by decide +kernel
theorem zd_146_12 : decode (zm_cc 146) 12 = .ok (.invokevirtual 63, 3) := by decide +kernel
theorem zd_146_15 : decode (zm_cc 146) 15 = .ok (.istore_n 3, 1) := by decide +kernel
theorem zd_146_16 : decode (zm_cc 146) 16 = .ok (.iload_n 2, 1) := by decide +kernel
theorem zd_146_17 : decode (zm_cc 146) 17 = .ok (.iconst (-1), 1) := by decide +kernel
theorem zd_146_18 : decode (zm_cc 146) 18 = .ok (.if_icmp .eq 20, 3) := by decide +kernel
theorem zd_146_21 : decode (zm_cc 146) 21 = .ok (.aload_n 0, 1) := by decide +kernel
theorem zd_146_22 : decode (zm_cc 146) 22 = .ok (.getfield 27, 3) := by decide +kernel
theorem zd_146_25 : decode (zm_cc 146) 25 = .ok (.getfield 86, 3) := by decide +kernel
theorem zd_146_28 : decode (zm_cc 146) 28 = .ok (.iload_n 3, 1) := by decide +kernel
theorem zd_146_29 : decode (zm_cc 146) 29 = .ok (.iaload, 1) := by decide +kernel
theorem zd_146_30 : decode (zm_cc 146) 30 = .ok (.iload_n 2, 1) := by decide +kernel
theorem zd_146_31 : decode (zm_cc 146) 31 = .ok (.if_icmp .ne 7, 3) := by decide +kernel
theorem zd_146_34 : decode (zm_cc 146) 34 = .ok (.iconst 1, 1) := by decide +kernel
theorem zd_146_35 : decode (zm_cc 146) 35 = .ok (.goto 4, 3) := by decide +kernel
theorem zd_146_38 : decode (zm_cc 146) 38 = .ok (.iconst 0, 1) := by decide +kernel
theorem zd_146_39 : decode (zm_cc 146) 39 = .ok (.istore 4, 2) := by decide +kernel
theorem zd_146_41 : decode (zm_cc 146) 41 = .ok (.aload_n 0, 1) := by decide +kernel
theorem zd_146_42 : decode (zm_cc 146) 42 = .ok (.getfield 21, 3) := by decide +kernel
theorem zd_146_45 : decode (zm_cc 146) 45 = .ok (.iconst 0, 1) := by decide +kernel
theorem zd_146_46 : decode (zm_cc 146) 46 = .ok (.aload_n 0, 1) := by decide +kernel
theorem zd_146_47 : decode (zm_cc 146) 47 = .ok (.getfield 24, 3) := by decide +kernel
theorem zd_146_50 : decode (zm_cc 146) 50 = .ok (.iconst 0, 1) := by decide +kernel
theorem zd_146_51 : decode (zm_cc 146) 51 = .ok (.iconst 5, 1) := by decide +kernel
theorem zd_146_52 : decode (zm_cc 146) 52 = .ok (.invokestatic 44, 3) := by decide +kernel
theorem zd_146_55 : decode (zm_cc 146) 55 = .ok (.aload_n 0, 1) := by decide +kernel
theorem zd_146_56 : decode (zm_cc 146) 56 = .ok (.getfield 24, 3) := by decide +kernel
theorem zd_146_59 : decode (zm_cc 146) 59 = .ok (.iload_n 1, 1) := by decide +kernel
theorem zd_146_60 : decode (zm_cc 146) 60 = .ok (.iconst 1, 1) := by decide +kernel
theorem zd_146_61 : decode (zm_cc 146) 61 = .ok (.iadd, 1) := by decide +kernel
theorem zd_146_62 : decode (zm_cc 146) 62 = .ok (.aload_n 0, 1) := by decide +kernel
theorem zd_146_63 : decode (zm_cc 146) 63 = .ok (.getfield 21, 3) := by decide +kernel
theorem zd_146_66 : decode (zm_cc 146) 66 = .ok (.iload_n 1, 1) := by decide +kernel
theorem zd_146_67 : decode (zm_cc 146) 67 = .ok (.iconst 1, 1) := by decide +kernel
theorem zd_146_68 : decode (zm_cc 146) 68 = .ok (.iadd, 1) := by decide +kernel
theorem zd_146_69 : decode (zm_cc 146) 69 = .ok (.iaload, 1) := by decide +kernel
theorem zd_146_70 : decode (zm_cc 146) 70 = .ok (.ldc 93, 2) := by decide +kernel
theorem zd_146_72 : decode (zm_cc 146) 72 = .ok (.iand, 1) := by decide +kernel
theorem zd_146_73 : decode (zm_cc 146) 73 = .ok (.iload 4, 2) := by decide +kernel
theorem zd_146_75 : decode (zm_cc 146) 75 = .ok (.bipush 17, 2) := by decide +kernel
theorem zd_146_77 : decode (zm_cc 146) 77 = .ok (.ishl, 1) := by decide +kernel
theorem zd_146_78 : decode (zm_cc 146) 78 = .ok (.ior, 1) := by decide +kernel
theorem zd_146_79 : decode (zm_cc 146) 79 = .ok (.iastore, 1) := by decide +kernel
theorem zd_146_80 : decode (zm_cc 146) 80 = .ok (.iconst 1, 1) := by decide +kernel
theorem zd_146_81 : decode (zm_cc 146) 81 = .ok (.istore 5, 2) := by decide +kernel
theorem zd_146_83 : decode (zm_cc 146) 83 = .ok (.aload_n 0, 1) := by decide +kernel
theorem zd_146_84 : decode (zm_cc 146) 84 = .ok (.getfield 27, 3) := by decide +kernel
theorem zd_146_87 : decode (zm_cc 146) 87 = .ok (.getfield 94, 3) := by decide +kernel
theorem zd_146_90 : decode (zm_cc 146) 90 = .ok (.iload_n 3, 1) := by decide +kernel
theorem zd_146_91 : decode (zm_cc 146) 91 = .ok (.iaload, 1) := by decide +kernel
theorem zd_146_92 : decode (zm_cc 146) 92 = .ok (.istore 6, 2) := by decide +kernel
theorem zd_146_94 : decode (zm_cc 146) 94 = .ok (.aload_n 0, 1) := by decide +kernel
theorem zd_146_95 : decode (zm_cc 146) 95 = .ok (.iload_n 1, 1) := by decide +kernel
theorem zd_146_96 : decode (zm_cc 146) 96 = .ok (.invokevirtual 65, 3) := by decide +kernel
theorem zd_146_99 : decode (zm_cc 146) 99 = .ok (.iconst 3, 1) := by decide +kernel
theorem zd_146_100 : decode (zm_cc 146) 100 = .ok (.if_icmp .ne 7, 3) := by decide +kernel
theorem zd_146_103 : decode (zm_cc 146) 103 = .ok (.iconst (-1), 1) := by decide +kernel
theorem zd_146_104 : decode (zm_cc 146) 104 = .ok (.goto 12, 3) := by decide +kernel
theorem zd_146_107 : decode (zm_cc 146) 107 = .ok (.aload_n 0, 1) := by decide +kernel
theorem zd_146_108 : decode (zm_cc 146) 108 = .ok (.getfield 27, 3) := by decide +kernel
theorem zd_146_111 : decode (zm_cc 146) 111 = .ok (.getfield 80, 3) := by decide +kernel
theorem zd_146_114 : decode (zm_cc 146) 114 = .ok (.iload_n 3, 1) := by decide +kernel
theorem zd_146_115 : decode (zm_cc 146) 115 = .ok (.iaload, 1) := by decide +kernel
theorem zd_146_116 : decode (zm_cc 146) 116 = .ok (.tableswitch 145 0 12 #[68, 68, 68, 145, 145, 77, 77, 116, 116, 116, 127, 145, 105], 68) := by decide +kernel
theorem zd_146_184 : decode (zm_cc 146) 184 = .ok (.aload_n 0, 1) := by decide +kernel
theorem zd_146_185 : decode (zm_cc 146) 185 = .ok (.iload_n 1, 1) := by decide +kernel
theorem zd_146_186 : decode (zm_cc 146) 186 = .ok (.iload_n 3, 1) := by decide +kernel
theorem zd_146_187 : decode (zm_cc 146) 187 = .ok (.invokevirtual 97, 3) := by decide +kernel
theorem zd_146_190 : decode (zm_cc 146) 190 = .ok (.goto 71, 3) := by decide +kernel
theorem zd_146_193 : decode (zm_cc 146) 193 = .ok (.aload_n 0, 1) := by decide +kernel
theorem zd_146_194 : decode (zm_cc 146) 194 = .ok (.iload_n 1, 1) := by decide +kernel
theorem zd_146_195 : decode (zm_cc 146) 195 = .ok (.iload_n 3, 1) := by decide +kernel
theorem zd_146_196 : decode (zm_cc 146) 196 = .ok (.invokevirtual 101, 3) := by decide +kernel
theorem zd_146_199 : decode (zm_cc 146) 199 = .ok (.ifCond .eq 8, 3) := by decide +kernel
theorem zd_146_202 : decode (zm_cc 146) 202 = .ok (.iload 6, 2) := by decide +kernel
theorem zd_146_204 : decode (zm_cc 146) 204 = .ok (.goto 12, 3) := by decide +kernel
theorem zd_146_207 : decode (zm_cc 146) 207 = .ok (.aload_n 0, 1) := by decide +kernel
theorem zd_146_208 : decode (zm_cc 146) 208 = .ok (.getfield 27, 3) := by decide +kernel
theorem zd_146_211 : decode (zm_cc 146) 211 = .ok (.getfield 105, 3) := by decide +kernel
theorem zd_146_214 : decode (zm_cc 146) 214 = .ok (.iload_n 3, 1) := by decide +kernel
theorem zd_146_215 : decode (zm_cc 146) 215 = .ok (.iaload, 1) := by decide +kernel
theorem zd_146_216 : decode (zm_cc 146) 216 = .ok (.istore 6, 2) := by decide +kernel
theorem zd_146_218 : decode (zm_cc 146) 218 = .ok (.goto 43, 3) := by decide +kernel
theorem zd_146_221 : decode (zm_cc 146) 221 = .ok (.aload_n 0, 1) := by decide +kernel
theorem zd_146_222 : decode (zm_cc 146) 222 = .ok (.iload_n 1, 1) := by decide +kernel
theorem zd_146_223 : decode (zm_cc 146) 223 = .ok (.iload_n 3, 1) := by decide +kernel
theorem zd_146_224 : decode (zm_cc 146) 224 = .ok (.invokevirtual 101, 3) := by decide +kernel
theorem zd_146_227 : decode (zm_cc 146) 227 = .ok (.istore 5, 2) := by decide +kernel
theorem zd_146_229 : decode (zm_cc 146) 229 = .ok (.goto 32, 3) := by decide +kernel
theorem zd_146_232 : decode (zm_cc 146) 232 = .ok (.aload_n 0, 1) := by decide +kernel
theorem zd_146_233 : decode (zm_cc 146) 233 = .ok (.iload_n 1, 1) := by decide +kernel
theorem zd_146_234 : decode (zm_cc 146) 234 = .ok (.iload_n 3, 1) := by decide +kernel
theorem zd_146_235 : decode (zm_cc 146) 235 = .ok (.invokevirtual 108, 3) := by decide +kernel
theorem zd_146_238 : decode (zm_cc 146) 238 = .ok (.istore 5, 2) := by decide +kernel
theorem zd_146_240 : decode (zm_cc 146) 240 = .ok (.goto 21, 3) := by decide +kernel
theorem zd_146_243 : decode (zm_cc 146) 243 = .ok (.aload_n 0, 1) := by decide +kernel
theorem zd_146_244 : decode (zm_cc 146) 244 = .ok (.aload_n 0, 1) := by decide +kernel
theorem zd_146_245 : decode (zm_cc 146) 245 = .ok (.getfield 27, 3) := by decide +kernel
theorem zd_146_248 : decode (zm_cc 146) 248 = .ok (.getfield 71, 3) := by decide +kernel
theorem zd_146_251 : decode (zm_cc 146) 251 = .ok (.iload_n 3, 1) := by decide +kernel
theorem zd_146_252 : decode (zm_cc 146) 252 = .ok (.iaload, 1) := by decide +kernel
theorem zd_146_253 : decode (zm_cc 146) 253 = .ok (.invokevirtual 111, 3) := by decide +kernel
theorem zd_146_256 : decode (zm_cc 146) 256 = .ok (.istore 5, 2) := by decide +kernel
theorem zd_146_258 : decode (zm_cc 146) 258 = .ok (.goto 3, 3) := by decide +kernel
theorem zd_146_261 : decode (zm_cc 146) 261 = .ok (.iload 5, 2) := by decide +kernel
theorem zd_146_263 : decode (zm_cc 146) 263 = .ok (.ifCond .ne 17, 3) := by decide +kernel
theorem zd_146_266 : decode (zm_cc 146) 266 = .ok (.aload_n 0, 1) := by decide +kernel
theorem zd_146_267 : decode (zm_cc 146) 267 = .ok (.iload_n 1, 1) := by decide +kernel
theorem zd_146_268 : decode (zm_cc 146) 268 = .ok (.aload_n 0, 1) := by decide +kernel
theorem zd_146_269 : decode (zm_cc 146) 269 = .ok (.iload_n 1, 1) := by decide +kernel
theorem zd_146_270 : decode (zm_cc 146) 270 = .ok (.invokevirtual 114, 3) := by decide +kernel
theorem zd_146_273 : decode (zm_cc 146) 273 = .ok (.iconst 5, 1) := by decide +kernel
theorem zd_146_274 : decode (zm_cc 146) 274 = .ok (.invokevirtual 117, 3) := by decide +kernel
theorem zd_146_277 : decode (zm_cc 146) 277 = .ok (.goto 47, 3) := by decide +kernel
theorem zd_146_280 : decode (zm_cc 146) 280 = .ok (.aload_n 0, 1) := by decide +kernel
theorem zd_146_281 : decode (zm_cc 146) 281 = .ok (.iload_n 1, 1) := by decide +kernel
theorem zd_146_282 : decode (zm_cc 146) 282 = .ok (.invokevirtual 65, 3) := by decide +kernel
theorem zd_146_285 : decode (zm_cc 146) 285 = .ok (.iconst 1, 1) := by decide +kernel
theorem zd_146_286 : decode (zm_cc 146) 286 = .ok (.if_icmp .ne 31, 3) := by decide +kernel
theorem zd_146_289 : decode (zm_cc 146) 289 = .ok (.aload_n 0, 1) := by decide +kernel
theorem zd_146_290 : decode (zm_cc 146) 290 = .ok (.getfield 27, 3) := by decide +kernel
theorem zd_146_293 : decode (zm_cc 146) 293 = .ok (.getfield 80, 3) := by decide +kernel
theorem zd_146_296 : decode (zm_cc 146) 296 = .ok (.iload_n 3, 1) := by decide +kernel
theorem zd_146_297 : decode (zm_cc 146) 297 = .ok (.iaload, 1) := by decide +kernel
theorem zd_146_298 : decode (zm_cc 146) 298 = .ok (.bipush 7, 2) := by decide +kernel
theorem zd_146_300 : decode (zm_cc 146) 300 = .ok (.if_icmp .ne 17, 3) := by decide +kernel
theorem zd_146_303 : decode (zm_cc 146) 303 = .ok (.aload_n 0, 1) := by decide +kernel
theorem zd_146_304 : decode (zm_cc 146) 304 = .ok (.iload_n 1, 1) := by decide +kernel
theorem zd_146_305 : decode (zm_cc 146) 305 = .ok (.aload_n 0, 1) := by decide +kernel
theorem zd_146_306 : decode (zm_cc 146) 306 = .ok (.iload_n 1, 1) := by decide +kernel
theorem zd_146_307 : decode (zm_cc 146) 307 = .ok (.invokevirtual 114, 3) := by decide +kernel
theorem zd_146_310 : decode (zm_cc 146) 310 = .ok (.iconst 2, 1) := by decide +kernel
theorem zd_146_311 : decode (zm_cc 146) 311 = .ok (.invokevirtual 117, 3) := by decide +kernel
theorem zd_146_314 : decode (zm_cc 146) 314 = .ok (.goto 10, 3) := by decide +kernel
theorem zd_146_317 : decode (zm_cc 146) 317 = .ok (.aload_n 0, 1) := by decide +kernel
theorem zd_146_318 : decode (zm_cc 146) 318 = .ok (.iload_n 1, 1) := by decide +kernel
theorem zd_146_319 : decode (zm_cc 146) 319 = .ok (.iload 6, 2) := by decide +kernel
theorem zd_146_321 : decode (zm_cc 146) 321 = .ok (.invokevirtual 121, 3) := by decide +kernel
theorem zd_146_324 : decode (zm_cc 146) 324 = .ok (.return_, 1) := by decide +kernel
theorem zd_147_0 : decode (zm_cc 147) 0 = .ok (.aload_n 0, 1) := by decide +kernel
theorem zd_147_1 : decode (zm_cc 147) 1 = .ok (.getfield 27, 3) := by decide +kernel
theorem zd_147_4 : decode (zm_cc 147) 4 = .ok (.getfield 80, 3) := by decide +kernel
theorem zd_147_7 : decode (zm_cc 147) 7 = .ok (.iload_n 2, 1) := by decide +kernel
theorem zd_147_8 : decode (zm_cc 147) 8 = .ok (.iaload, 1) := by decide +kernel
theorem zd_147_9 : decode (zm_cc 147) 9 = .ok (.istore_n 3, 1) := by decide +kernel
theorem zd_147_10 : decode (zm_cc 147) 10 = .ok (.aload_n 0, 1) := by decide +kernel
theorem zd_147_11 : decode (zm_cc 147) 11 = .ok (.iload_n 1, 1) := by decide +kernel
theorem zd_147_12 : decode (zm_cc 147) 12 = .ok (.aload_n 0, 1) := by decide +kernel
theorem zd_147_13 : decode (zm_cc 147) 13 = .ok (.getfield 27, 3) := by decide +kernel
theorem zd_147_16 : decode (zm_cc 147) 16 = .ok (.getfield 128, 3) := by decide +kernel
theorem zd_147_19 : decode (zm_cc 147) 19 = .ok (.iload_n 2, 1) := by decide +kernel
theorem zd_147_20 : decode (zm_cc 147) 20 = .ok (.iaload, 1) := by decide +kernel
theorem zd_147_21 : decode (zm_cc 147) 21 = .ok (.invokevirtual 131, 3) := by decide +kernel
theorem zd_147_24 : decode (zm_cc 147) 24 = .ok (.istore 4, 2) := by decide +kernel
theorem zd_147_26 : decode (zm_cc 147) 26 = .ok (.aload_n 0, 1) := by decide +kernel
theorem zd_147_27 : decode (zm_cc 147) 27 = .ok (.iload_n 1, 1) := by decide +kernel
theorem zd_147_28 : decode (zm_cc 147) 28 = .ok (.aload_n 0, 1) := by decide +kernel
theorem zd_147_29 : decode (zm_cc 147) 29 = .ok (.getfield 27, 3) := by decide +kernel
theorem zd_147_32 : decode (zm_cc 147) 32 = .ok (.getfield 134, 3) := by decide +kernel
theorem zd_147_35 : decode (zm_cc 147) 35 = .ok (.iload_n 2, 1) := by decide +kernel
theorem zd_147_36 : decode (zm_cc 147) 36 = .ok (.iaload, 1) := by decide +kernel
theorem zd_147_37 : decode (zm_cc 147) 37 = .ok (.invokevirtual 131, 3) := by decide +kernel
theorem zd_147_40 : decode (zm_cc 147) 40 = .ok (.istore 5, 2) := by decide +kernel
theorem zd_147_42 : decode (zm_cc 147) 42 = .ok (.iload_n 3, 1) := by decide +kernel
theorem zd_147_43 : decode (zm_cc 147) 43 = .ok (.ifCond .ne 21, 3) := by decide +kernel
theorem zd_147_46 : decode (zm_cc 147) 46 = .ok (.aload_n 0, 1) := by decide +kernel
theorem zd_147_47 : decode (zm_cc 147) 47 = .ok (.aload_n 0, 1) := by decide +kernel
theorem zd_147_48 : decode (zm_cc 147) 48 = .ok (.getfield 27, 3) := by decide +kernel
theorem zd_147_51 : decode (zm_cc 147) 51 = .ok (.getfield 71, 3) := by decide +kernel
theorem zd_147_54 : decode (zm_cc 147) 54 = .ok (.iload_n 2, 1) := by decide +kernel
theorem zd_147_55 : decode (zm_cc 147) 55 = .ok (.iaload, 1) := by decide +kernel
theorem zd_147_56 : decode (zm_cc 147) 56 = .ok (.invokevirtual 137, 3) := by decide +kernel
theorem zd_147_59 : decode (zm_cc 147) 59 = .ok (.istore 4, 2) := by decide +kernel
theorem zd_147_61 : decode (zm_cc 147) 61 = .ok (.goto 48, 3) := by decide +kernel
theorem zd_147_64 : decode (zm_cc 147) 64 = .ok (.aload_n 0, 1) := by decide +kernel
theorem zd_147_65 : decode (zm_cc 147) 65 = .ok (.getfield 27, 3) := by decide +kernel
theorem zd_147_68 : decode (zm_cc 147) 68 = .ok (.getfield 140, 3) := by decide +kernel
theorem zd_147_71 : decode (zm_cc 147) 71 = .ok (.iload_n 2, 1) := by decide +kernel
theorem zd_147_72 : decode (zm_cc 147) 72 = .ok (.iaload, 1) := by decide +kernel
theorem zd_147_73 : decode (zm_cc 147) 73 = .ok (.bipush 43, 2) := by decide +kernel
theorem zd_147_75 : decode (zm_cc 147) 75 = .ok (.if_icmp .ne 13, 3) := by decide +kernel
theorem zd_147_78 : decode (zm_cc 147) 78 = .ok (.iload 4, 2) := by decide +kernel
theorem zd_147_80 : decode (zm_cc 147) 80 = .ok (.iload 5, 2) := by decide +kernel
theorem zd_147_82 : decode (zm_cc 147) 82 = .ok (.iadd, 1) := by decide +kernel
theorem zd_147_83 : decode (zm_cc 147) 83 = .ok (.istore 4, 2) := by decide +kernel
theorem zd_147_85 : decode (zm_cc 147) 85 = .ok (.goto 24, 3) := by decide +kernel
theorem zd_147_88 : decode (zm_cc 147) 88 = .ok (.aload_n 0, 1) := by decide +kernel
theorem zd_147_89 : decode (zm_cc 147) 89 = .ok (.getfield 27, 3) := by decide +kernel
theorem zd_147_92 : decode (zm_cc 147) 92 = .ok (.getfield 140, 3) := by decide +kernel
theorem zd_147_95 : decode (zm_cc 147) 95 = .ok (.iload_n 2, 1) := by decide +kernel
theorem zd_147_96 : decode (zm_cc 147) 96 = .ok (.iaload, 1) := by decide +kernel
theorem zd_147_97 : decode (zm_cc 147) 97 = .ok (.bipush 45, 2) := by decide +kernel
theorem zd_147_99 : decode (zm_cc 147) 99 = .ok (.if_icmp .ne 10, 3) := by decide +kernel
theorem zd_147_102 : decode (zm_cc 147) 102 = .ok (.iload 4, 2) := by decide +kernel
theorem zd_147_104 : decode (zm_cc 147) 104 = .ok (.iload 5, 2) := by decide +kernel
theorem zd_147_106 : decode (zm_cc 147) 106 = .ok (.isub, 1) := by decide +kernel
theorem zd_147_107 : decode (zm_cc 147) 107 = .ok (.istore 4, 2) := by decide +kernel
theorem zd_147_109 : decode (zm_cc 147) 109 = .ok (.iload_n 3, 1) := by decide +kernel
theorem zd_147_110 : decode (zm_cc 147) 110 = .ok (.iconst 1, 1) := by decide +kernel
theorem zd_147_111 : decode (zm_cc 147) 111 = .ok (.if_icmp .ne 7, 3) := by decide +kernel
theorem zd_147_114 : decode (zm_cc 147) 114 = .ok (.iconst 0, 1) := by decide +kernel
theorem zd_147_115 : decode (zm_cc 147) 115 = .ok (.goto 6, 3) := by decide +kernel
theorem zd_147_118 : decode (zm_cc 147) 118 = .ok (.iload_n 1, 1) := by decide +kernel
theorem zd_147_119 : decode (zm_cc 147) 119 = .ok (.iconst 1, 1) := by decide +kernel
theorem zd_147_120 : decode (zm_cc 147) 120 = .ok (.iadd, 1) := by decide +kernel
theorem zd_147_121 : decode (zm_cc 147) 121 = .ok (.istore 6, 2) := by decide +kernel
theorem zd_147_123 : decode (zm_cc 147) 123 = .ok (.iconst 3, 1) := by decide +kernel
theorem zd_147_124 : decode (zm_cc 147) 124 = .ok (.iload_n 3, 1) := by decide +kernel
theorem zd_147_125 : decode (zm_cc 147) 125 = .ok (.iconst 1, 1) := by decide +kernel
theorem zd_147_126 : decode (zm_cc 147) 126 = .ok (.if_icmp .ne 15, 3) := by decide +kernel
theorem zd_147_129 : decode (zm_cc 147) 129 = .ok (.aload_n 0, 1) := by decide +kernel
theorem zd_147_130 : decode (zm_cc 147) 130 = .ok (.getfield 27, 3) := by decide +kernel
theorem zd_147_133 : decode (zm_cc 147) 133 = .ok (.getfield 71, 3) := by decide +kernel
theorem zd_147_136 : decode (zm_cc 147) 136 = .ok (.iload_n 2, 1) := by decide +kernel
theorem zd_147_137 : decode (zm_cc 147) 137 = .ok (.iaload, 1) := by decide +kernel
theorem zd_147_138 : decode (zm_cc 147) 138 = .ok (.goto 12, 3) := by decide +kernel
theorem zd_147_141 : decode (zm_cc 147) 141 = .ok (.aload_n 0, 1) := by decide +kernel
theorem zd_147_142 : decode (zm_cc 147) 142 = .ok (.getfield 27, 3) := by decide +kernel
theorem zd_147_145 : decode (zm_cc 147) 145 = .ok (.getfield 143, 3) := by decide +kernel
theorem zd_147_148 : decode (zm_cc 147) 148 = .ok (.iload_n 2, 1) := by decide +kernel
theorem zd_147_149 : decode (zm_cc 147) 149 = .ok (.iaload, 1) := by decide +kernel
theorem zd_147_150 : decode (zm_cc 147) 150 = .ok (.imul, 1) := by decide +kernel
theorem zd_147_151 : decode (zm_cc 147) 151 = .ok (.istore 7, 2) := by decide +kernel
theorem zd_147_153 : decode (zm_cc 147) 153 = .ok (.iload 6, 2) := by decide +kernel
theorem zd_147_155 : decode (zm_cc 147) 155 = .ok (.ifCond .lt 40, 3) := by decide +kernel
theorem zd_147_158 : decode (zm_cc 147) 158 = .ok (.iload 6, 2) := by decide +kernel
theorem zd_147_160 : decode (zm_cc 147) 160 = .ok (.iconst 5, 1) := by decide +kernel
theorem zd_147_161 : decode (zm_cc 147) 161 = .ok (.if_icmp .ge 34, 3) := by decide +kernel
theorem zd_147_164 : decode (zm_cc 147) 164 = .ok (.aload_n 0, 1) := by decide +kernel
theorem zd_147_165 : decode (zm_cc 147) 165 = .ok (.getfield 24, 3) := by decide +kernel
theorem zd_147_168 : decode (zm_cc 147) 168 = .ok (.iload 6, 2) := by decide +kernel
theorem zd_147_170 : decode (zm_cc 147) 170 = .ok (.aload_n 0, 1) := by decide +kernel
theorem zd_147_171 : decode (zm_cc 147) 171 = .ok (.getfield 24, 3) := by decide +kernel
theorem zd_147_174 : decode (zm_cc 147) 174 = .ok (.iload 6, 2) := by decide +kernel
theorem zd_147_176 : decode (zm_cc 147) 176 = .ok (.iaload, 1) := by decide +kernel
theorem zd_147_177 : decode (zm_cc 147) 177 = .ok (.bipush 7, 2) := by decide +kernel
theorem zd_147_179 : decode (zm_cc 147) 179 = .ok (.iload 7, 2) := by decide +kernel
theorem zd_147_181 : decode (zm_cc 147) 181 = .ok (.ishl, 1) := by decide +kernel
theorem zd_147_182 : decode (zm_cc 147) 182 = .ok (.iconst (-1), 1) := by decide +kernel
theorem zd_147_183 : decode (zm_cc 147) 183 = .ok (.ixor, 1) := by decide +kernel
theorem zd_147_184 : decode (zm_cc 147) 184 = .ok (.iand, 1) := by decide +kernel
theorem zd_147_185 : decode (zm_cc 147) 185 = .ok (.iload 4, 2) := by decide +kernel
theorem zd_147_187 : decode (zm_cc 147) 187 = .ok (.bipush 7, 2) := by decide +kernel
theorem zd_147_189 : decode (zm_cc 147) 189 = .ok (.iand, 1) := by decide +kernel
theorem zd_147_190 : decode (zm_cc 147) 190 = .ok (.iload 7, 2) := by decide +kernel
theorem zd_147_192 : decode (zm_cc 147) 192 = .ok (.ishl, 1) := by decide +kernel
theorem zd_147_193 : decode (zm_cc 147) 193 = .ok (.ior, 1) := by decide +kernel
theorem zd_147_194 : decode (zm_cc 147) 194 = .ok (.iastore, 1) := by decide +kernel
theorem zd_147_195 : decode (zm_cc 147) 195 = .ok (.return_, 1) := by decide +kernel
theorem zd_148_0 : decode (zm_cc 148) 0 = .ok (.iload_n 2, 1) := by decide +kernel
theorem zd_148_1 : decode (zm_cc 148) 1 = .ok (.bipush 8, 2) := by decide +kernel
theorem zd_148_3 : decode (zm_cc 148) 3 = .ok (.if_icmp .ge 7, 3) := by decide +kernel
theorem zd_148_6 : decode (zm_cc 148) 6 = .ok (.iload_n 2, 1) := by decide +kernel
theorem zd_148_7 : decode (zm_cc 148) 7 = .ok (.goto 12, 3) := by decide +kernel
theorem zd_148_10 : decode (zm_cc 148) 10 = .ok (.aload_n 0, 1) := by decide +kernel
theorem zd_148_11 : decode (zm_cc 148) 11 = .ok (.iload_n 1, 1) := by decide +kernel
theorem zd_148_12 : decode (zm_cc 148) 12 = .ok (.iload_n 2, 1) := by decide +kernel
theorem zd_148_13 : decode (zm_cc 148) 13 = .ok (.bipush 8, 2) := by decide +kernel
theorem zd_148_15 : decode (zm_cc 148) 15 = .ok (.isub, 1) := by decide +kernel
theorem zd_148_16 : decode (zm_cc 148) 16 = .ok (.invokevirtual 125, 3) := by decide +kernel
theorem zd_148_19 : decode (zm_cc 148) 19 = .ok (.ireturn, 1) := by decide +kernel
theorem zd_149_0 : decode (zm_cc 149) 0 = .ok (.iload_n 1, 1) := by decide +kernel
theorem zd_149_1 : decode (zm_cc 149) 1 = .ok (.ifCond .lt 26, 3) := by decide +kernel
theorem zd_149_4 : decode (zm_cc 149) 4 = .ok (.iload_n 1, 1) := by decide +kernel
theorem zd_149_5 : decode (zm_cc 149) 5 = .ok (.iconst 4, 1) := by decide +kernel
theorem zd_149_6 : decode (zm_cc 149) 6 = .ok (.if_icmp .ge 21, 3) := by decide +kernel
theorem zd_149_9 : decode (zm_cc 149) 9 = .ok (.aload_n 0, 1) := by decide +kernel
theorem zd_149_10 : decode (zm_cc 149) 10 = .ok (.getfield 21, 3) := by decide +kernel
theorem zd_149_13 : decode (zm_cc 149) 13 = .ok (.iload_n 1, 1) := by decide +kernel
theorem zd_149_14 : decode (zm_cc 149) 14 = .ok (.iconst 1, 1) := by decide +kernel
theorem zd_149_15 : decode (zm_cc 149) 15 = .ok (.iadd, 1) := by decide +kernel
theorem zd_149_16 : decode (zm_cc 149) 16 = .ok (.iaload, 1) := by decide +kernel
theorem zd_149_17 : decode (zm_cc 149) 17 = .ok (.iconst 3, 1) := by decide +kernel
theorem zd_149_18 : decode (zm_cc 149) 18 = .ok (.iload_n 2, 1) := by decide +kernel
theorem zd_149_19 : decode (zm_cc 149) 19 = .ok (.imul, 1) := by decide +kernel
theorem zd_149_20 : decode (zm_cc 149) 20 = .ok (.iushr, 1) := by decide +kernel
theorem zd_149_21 : decode (zm_cc 149) 21 = .ok (.bipush 7, 2) := by decide +kernel
theorem zd_149_23 : decode (zm_cc 149) 23 = .ok (.iand, 1) := by decide +kernel
theorem zd_149_24 : decode (zm_cc 149) 24 = .ok (.goto 4, 3) := by decide +kernel
theorem zd_149_27 : decode (zm_cc 149) 27 = .ok (.iconst 0, 1) := by decide +kernel
theorem zd_149_28 : decode (zm_cc 149) 28 = .ok (.ireturn, 1) := by decide +kernel
theorem zd_150_0 : decode (zm_cc 150) 0 = .ok (.aload_n 0, 1) := by decide +kernel
theorem zd_150_1 : decode (zm_cc 150) 1 = .ok (.getfield 21, 3) := by decide +kernel
theorem zd_150_4 : decode (zm_cc 150) 4 = .ok (.iconst 0, 1) := by decide +kernel
theorem zd_150_5 : decode (zm_cc 150) 5 = .ok (.iaload, 1) := by decide +kernel
theorem zd_150_6 : decode (zm_cc 150) 6 = .ok (.iconst 3, 1) := by decide +kernel
theorem zd_150_7 : decode (zm_cc 150) 7 = .ok (.iload_n 1, 1) := by decide +kernel
theorem zd_150_8 : decode (zm_cc 150) 8 = .ok (.imul, 1) := by decide +kernel
theorem zd_150_9 : decode (zm_cc 150) 9 = .ok (.iushr, 1) := by decide +kernel
theorem zd_150_10 : decode (zm_cc 150) 10 = .ok (.bipush 7, 2) := by decide +kernel
theorem zd_150_12 : decode (zm_cc 150) 12 = .ok (.iand, 1) := by decide +kernel
theorem zd_150_13 : decode (zm_cc 150) 13 = .ok (.ireturn, 1) := by decide +kernel
theorem zd_151_0 : decode (zm_cc 151) 0 = .ok (.aload_n 0, 1) := by decide +kernel
theorem zd_151_1 : decode (zm_cc 151) 1 = .ok (.iload_n 1, 1) := by decide +kernel
theorem zd_151_2 : decode (zm_cc 151) 2 = .ok (.aload_n 0, 1) := by decide +kernel
theorem zd_151_3 : decode (zm_cc 151) 3 = .ok (.getfield 27, 3) := by decide +kernel
theorem zd_151_6 : decode (zm_cc 151) 6 = .ok (.getfield 128, 3) := by decide +kernel
theorem zd_151_9 : decode (zm_cc 151) 9 = .ok (.iload_n 2, 1) := by decide +kernel
theorem zd_151_10 : decode (zm_cc 151) 10 = .ok (.iaload, 1) := by decide +kernel
theorem zd_151_11 : decode (zm_cc 151) 11 = .ok (.invokevirtual 131, 3) := by decide +kernel
theorem zd_151_14 : decode (zm_cc 151) 14 = .ok (.istore_n 3, 1) := by decide +kernel
theorem zd_151_15 : decode (zm_cc 151) 15 = .ok (.aload_n 0, 1) := by decide +kernel
theorem zd_151_16 : decode (zm_cc 151) 16 = .ok (.iload_n 1, 1) := by decide +kernel
theorem zd_151_17 : decode (zm_cc 151) 17 = .ok (.aload_n 0, 1) := by decide +kernel
theorem zd_151_18 : decode (zm_cc 151) 18 = .ok (.getfield 27, 3) := by decide +kernel
theorem zd_151_21 : decode (zm_cc 151) 21 = .ok (.getfield 134, 3) := by decide +kernel
theorem zd_151_24 : decode (zm_cc 151) 24 = .ok (.iload_n 2, 1) := by decide +kernel
theorem zd_151_25 : decode (zm_cc 151) 25 = .ok (.iaload, 1) := by decide +kernel
theorem zd_151_26 : decode (zm_cc 151) 26 = .ok (.invokevirtual 131, 3) := by decide +kernel
theorem zd_151_29 : decode (zm_cc 151) 29 = .ok (.istore 4, 2) := by decide +kernel
theorem zd_151_31 : decode (zm_cc 151) 31 = .ok (.aload_n 0, 1) := by decide +kernel
theorem zd_151_32 : decode (zm_cc 151) 32 = .ok (.getfield 27, 3) := by decide +kernel
theorem zd_151_35 : decode (zm_cc 151) 35 = .ok (.getfield 140, 3) := by decide +kernel
theorem zd_151_38 : decode (zm_cc 151) 38 = .ok (.iload_n 2, 1) := by decide +kernel
theorem zd_151_39 : decode (zm_cc 151) 39 = .ok (.iaload, 1) := by decide +kernel
theorem zd_151_40 : decode (zm_cc 151) 40 = .ok (.lookupswitch 72 #[(60, 60), (256, 36), (257, 48)], 36) := by decide +kernel
theorem zd_151_76 : decode (zm_cc 151) 76 = .ok (.iload_n 3, 1) := by decide +kernel
theorem zd_151_77 : decode (zm_cc 151) 77 = .ok (.iload 4, 2) := by decide +kernel
theorem zd_151_79 : decode (zm_cc 151) 79 = .ok (.if_icmp .ne 7, 3) := by decide +kernel
theorem zd_151_82 : decode (zm_cc 151) 82 = .ok (.iconst 1, 1) := by decide +kernel
theorem zd_151_83 : decode (zm_cc 151) 83 = .ok (.goto 4, 3) := by decide +kernel
theorem zd_151_86 : decode (zm_cc 151) 86 = .ok (.iconst 0, 1) := by decide +kernel
theorem zd_151_87 : decode (zm_cc 151) 87 = .ok (.ireturn, 1) := by decide +kernel
theorem zd_151_88 : decode (zm_cc 151) 88 = .ok (.iload_n 3, 1) := by decide +kernel
theorem zd_151_89 : decode (zm_cc 151) 89 = .ok (.iload 4, 2) := by decide +kernel
theorem zd_151_91 : decode (zm_cc 151) 91 = .ok (.if_icmp .eq 7, 3) := by decide +kernel
theorem zd_151_94 : decode (zm_cc 151) 94 = .ok (.iconst 1, 1) := by decide +kernel
theorem zd_151_95 : decode (zm_cc 151) 95 = .ok (.goto 4, 3) := by decide +kernel
theorem zd_151_98 : decode (zm_cc 151) 98 = .ok (.iconst 0, 1) := by decide +kernel
theorem zd_151_99 : decode (zm_cc 151) 99 = .ok (.ireturn, 1) := by decide +kernel
theorem zd_151_100 : decode (zm_cc 151) 100 = .ok (.iload_n 3, 1) := by decide +kernel
theorem zd_151_101 : decode (zm_cc 151) 101 = .ok (.iload 4, 2) := by decide +kernel
theorem zd_151_103 : decode (zm_cc 151) 103 = .ok (.if_icmp .ge 7, 3) := by decide +kernel
theorem zd_151_106 : decode (zm_cc 151) 106 = .ok (.iconst 1, 1) := by decide +kernel
theorem zd_151_107 : decode (zm_cc 151) 107 = .ok (.goto 4, 3) := by decide +kernel
theorem zd_151_110 : decode (zm_cc 151) 110 = .ok (.iconst 0, 1) := by decide +kernel
theorem zd_151_111 : decode (zm_cc 151) 111 = .ok (.ireturn, 1) := by decide +kernel
theorem zd_151_112 : decode (zm_cc 151) 112 = .ok (.iload_n 3, 1) := by decide +kernel
theorem zd_151_113 : decode (zm_cc 151) 113 = .ok (.iload 4, 2) := by decide +kernel
theorem zd_151_115 : decode (zm_cc 151) 115 = .ok (.if_icmp .le 7, 3) := by decide +kernel
theorem zd_151_118 : decode (zm_cc 151) 118 = .ok (.iconst 1, 1) := by decide +kernel
theorem zd_151_119 : decode (zm_cc 151) 119 = .ok (.goto 4, 3) := by decide +kernel
theorem zd_151_122 : decode (zm_cc 151) 122 = .ok (.iconst 0, 1) := by decide +kernel
theorem zd_151_123 : decode (zm_cc 151) 123 = .ok (.ireturn, 1) := by decide +kernel
theorem zd_152_0 : decode (zm_cc 152) 0 = .ok (.aload_n 0, 1) := by decide +kernel
theorem zd_152_1 : decode (zm_cc 152) 1 = .ok (.getfield 27, 3) := by decide +kernel
theorem zd_152_4 : decode (zm_cc 152) 4 = .ok (.getfield 71, 3) := by decide +kernel
theorem zd_152_7 : decode (zm_cc 152) 7 = .ok (.iload_n 2, 1) := by decide +kernel
theorem zd_152_8 : decode (zm_cc 152) 8 = .ok (.iaload, 1) := by decide +kernel
theorem zd_152_9 : decode (zm_cc 152) 9 = .ok (.istore_n 3, 1) := by decide +kernel
theorem zd_152_10 : decode (zm_cc 152) 10 = .ok (.aload_n 0, 1) := by decide +kernel
theorem zd_152_11 : decode (zm_cc 152) 11 = .ok (.getfield 27, 3) := by decide +kernel
theorem zd_152_14 : decode (zm_cc 152) 14 = .ok (.getfield 80, 3) := by decide +kernel
theorem zd_152_17 : decode (zm_cc 152) 17 = .ok (.iload_n 2, 1) := by decide +kernel
theorem zd_152_18 : decode (zm_cc 152) 18 = .ok (.iaload, 1) := by decide +kernel
theorem zd_152_19 : decode (zm_cc 152) 19 = .ok (.istore 4, 2) := by decide +kernel
theorem zd_152_21 : decode (zm_cc 152) 21 = .ok (.aload_n 0, 1) := by decide +kernel
theorem zd_152_22 : decode (zm_cc 152) 22 = .ok (.iload_n 3, 1) := by decide +kernel
theorem zd_152_23 : decode (zm_cc 152) 23 = .ok (.invokevirtual 77, 3) := by decide +kernel
theorem zd_152_26 : decode (zm_cc 152) 26 = .ok (.iload_n 1, 1) := by decide +kernel
theorem zd_152_27 : decode (zm_cc 152) 27 = .ok (.if_icmp .eq 5, 3) := by decide +kernel
theorem zd_152_30 : decode (zm_cc 152) 30 = .ok (.iconst 0, 1) := by decide +kernel
theorem zd_152_31 : decode (zm_cc 152) 31 = .ok (.ireturn, 1) := by decide +kernel
theorem zd_152_32 : decode (zm_cc 152) 32 = .ok (.iload 4, 2) := by decide +kernel
theorem zd_152_34 : decode (zm_cc 152) 34 = .ok (.bipush 7, 2) := by decide +kernel
theorem zd_152_36 : decode (zm_cc 152) 36 = .ok (.if_icmp .eq 7, 3) := by decide +kernel
theorem zd_152_39 : decode (zm_cc 152) 39 = .ok (.iconst 1, 1) := by decide +kernel
theorem zd_152_40 : decode (zm_cc 152) 40 = .ok (.goto 4, 3) := by decide +kernel
theorem zd_152_43 : decode (zm_cc 152) 43 = .ok (.iconst 0, 1) := by decide +kernel
theorem zd_152_44 : decode (zm_cc 152) 44 = .ok (.istore 5, 2) := by decide +kernel
theorem zd_152_46 : decode (zm_cc 152) 46 = .ok (.iconst 0, 1) := by decide +kernel
theorem zd_152_47 : decode (zm_cc 152) 47 = .ok (.istore 6, 2) := by decide +kernel
theorem zd_152_49 : decode (zm_cc 152) 49 = .ok (.iload 6, 2) := by decide +kernel
theorem zd_152_51 : decode (zm_cc 152) 51 = .ok (.aload_n 0, 1) := by decide +kernel
theorem zd_152_52 : decode (zm_cc 152) 52 = .ok (.getfield 27, 3) := by decide +kernel
theorem zd_152_55 : decode (zm_cc 152) 55 = .ok (.getfield 83, 3) := by decide +kernel
theorem zd_152_58 : decode (zm_cc 152) 58 = .ok (.if_icmp .ge 69, 3) := by decide +kernel
theorem zd_152_61 : decode (zm_cc 152) 61 = .ok (.iload 5, 2) := by decide +kernel
theorem zd_152_63 : decode (zm_cc 152) 63 = .ok (.ifCond .eq 64, 3) := by decide +kernel
theorem zd_152_66 : decode (zm_cc 152) 66 = .ok (.aload_n 0, 1) := by decide +kernel
theorem zd_152_67 : decode (zm_cc 152) 67 = .ok (.iload 6, 2) := by decide +kernel
theorem zd_152_69 : decode (zm_cc 152) 69 = .ok (.invokevirtual 65, 3) := by decide +kernel
theorem zd_152_72 : decode (zm_cc 152) 72 = .ok (.iconst 2, 1) := by decide +kernel
theorem zd_152_73 : decode (zm_cc 152) 73 = .ok (.if_icmp .ne 48, 3) := by decide +kernel
theorem zd_152_76 : decode (zm_cc 152) 76 = .ok (.aload_n 0, 1) := by decide +kernel
theorem zd_152_77 : decode (zm_cc 152) 77 = .ok (.getfield 27, 3) := by decide +kernel
theorem zd_152_80 : decode (zm_cc 152) 80 = .ok (.getfield 71, 3) := by decide +kernel
theorem zd_152_83 : decode (zm_cc 152) 83 = .ok (.aload_n 0, 1) := by decide +kernel
theorem zd_152_84 : decode (zm_cc 152) 84 = .ok (.iload 6, 2) := by decide +kernel
theorem zd_152_86 : decode (zm_cc 152) 86 = .ok (.invokevirtual 63, 3) := by decide +kernel
theorem zd_152_89 : decode (zm_cc 152) 89 = .ok (.iaload, 1) := by decide +kernel
theorem zd_152_90 : decode (zm_cc 152) 90 = .ok (.iload_n 3, 1) := by decide +kernel
theorem zd_152_91 : decode (zm_cc 152) 91 = .ok (.if_icmp .ne 30, 3) := by decide +kernel
theorem zd_152_94 : decode (zm_cc 152) 94 = .ok (.aload_n 0, 1) := by decide +kernel
theorem zd_152_95 : decode (zm_cc 152) 95 = .ok (.iload 6, 2) := by decide +kernel
theorem zd_152_97 : decode (zm_cc 152) 97 = .ok (.aload_n 0, 1) := by decide +kernel
theorem zd_152_98 : decode (zm_cc 152) 98 = .ok (.iload 6, 2) := by decide +kernel
theorem zd_152_100 : decode (zm_cc 152) 100 = .ok (.invokevirtual 114, 3) := by decide +kernel
theorem zd_152_103 : decode (zm_cc 152) 103 = .ok (.iconst 3, 1) := by decide +kernel
theorem zd_152_104 : decode (zm_cc 152) 104 = .ok (.invokevirtual 117, 3) := by decide +kernel
theorem zd_152_107 : decode (zm_cc 152) 107 = .ok (.iload 4, 2) := by decide +kernel
theorem zd_152_109 : decode (zm_cc 152) 109 = .ok (.bipush 9, 2) := by decide +kernel
theorem zd_152_111 : decode (zm_cc 152) 111 = .ok (.if_icmp .ne 7, 3) := by decide +kernel
theorem zd_152_114 : decode (zm_cc 152) 114 = .ok (.iconst 1, 1) := by decide +kernel
theorem zd_152_115 : decode (zm_cc 152) 115 = .ok (.goto 4, 3) := by decide +kernel
theorem zd_152_118 : decode (zm_cc 152) 118 = .ok (.iconst 0, 1) := by decide +kernel
theorem zd_152_119 : decode (zm_cc 152) 119 = .ok (.istore 5, 2) := by decide +kernel
theorem zd_152_121 : decode (zm_cc 152) 121 = .ok (.iinc 6 1, 3) := by decide +kernel
theorem zd_152_124 : decode (zm_cc 152) 124 = .ok (.goto (-75), 3) := by decide +kernel
theorem zd_152_127 : decode (zm_cc 152) 127 = .ok (.iconst 1, 1) := by decide +kernel
theorem zd_152_128 : decode (zm_cc 152) 128 = .ok (.ireturn, 1) := by decide +kernel
theorem zd_153_0 : decode (zm_cc 153) 0 = .ok (.aload_n 0, 1) := by decide +kernel
theorem zd_153_1 : decode (zm_cc 153) 1 = .ok (.iload_n 1, 1) := by decide +kernel
theorem zd_153_2 : decode (zm_cc 153) 2 = .ok (.invokevirtual 74, 3) := by decide +kernel
theorem zd_153_5 : decode (zm_cc 153) 5 = .ok (.bipush 9, 2) := by decide +kernel
theorem zd_153_7 : decode (zm_cc 153) 7 = .ok (.iushr, 1) := by decide +kernel
theorem zd_153_8 : decode (zm_cc 153) 8 = .ok (.bipush 31, 2) := by decide +kernel
theorem zd_153_10 : decode (zm_cc 153) 10 = .ok (.iand, 1) := by decide +kernel
theorem zd_153_11 : decode (zm_cc 153) 11 = .ok (.ireturn, 1) := by decide +kernel
theorem zd_154_0 : decode (zm_cc 154) 0 = .ok (.iload_n 3, 1) := by decide +kernel
theorem zd_154_1 : decode (zm_cc 154) 1 = .ok (.iconst 4, 1) := by decide +kernel
theorem zd_154_2 : decode (zm_cc 154) 2 = .ok (.if_icmp .eq 8, 3) := by decide +kernel
theorem zd_154_5 : decode (zm_cc 154) 5 = .ok (.iload_n 3, 1) := by decide +kernel
theorem zd_154_6 : decode (zm_cc 154) 6 = .ok (.iconst 5, 1) := by decide +kernel
theorem zd_154_7 : decode (zm_cc 154) 7 = .ok (.if_icmp .ne 7, 3) := by decide +kernel
theorem zd_154_10 : decode (zm_cc 154) 10 = .ok (.iconst 1, 1) := by decide +kernel
theorem zd_154_11 : decode (zm_cc 154) 11 = .ok (.goto 4, 3) := by decide +kernel
theorem zd_154_14 : decode (zm_cc 154) 14 = .ok (.iconst 0, 1) := by decide +kernel
theorem zd_154_15 : decode (zm_cc 154) 15 = .ok (.istore 4, 2) := by decide +kernel
theorem zd_154_17 : decode (zm_cc 154) 17 = .ok (.iload 4, 2) := by decide +kernel
theorem zd_154_19 : decode (zm_cc 154) 19 = .ok (.ifCond .eq 9, 3) := by decide +kernel
theorem zd_154_22 : decode (zm_cc 154) 22 = .ok (.sipush 511, 3) := by decide +kernel
theorem zd_154_25 : decode (zm_cc 154) 25 = .ok (.goto 5, 3) := by decide +kernel
theorem zd_154_28 : decode (zm_cc 154) 28 = .ok (.ldc 124, 2) := by decide +kernel
theorem zd_154_30 : decode (zm_cc 154) 30 = .ok (.istore 5, 2) := by decide +kernel
theorem zd_154_32 : decode (zm_cc 154) 32 = .ok (.iload_n 1, 1) := by decide +kernel
theorem zd_154_33 : decode (zm_cc 154) 33 = .ok (.ifCond .lt 37, 3) := by decide +kernel
theorem zd_154_36 : decode (zm_cc 154) 36 = .ok (.iload_n 1, 1) := by decide +kernel
theorem zd_154_37 : decode (zm_cc 154) 37 = .ok (.iconst 4, 1) := by decide +kernel
theorem zd_154_38 : decode (zm_cc 154) 38 = .ok (.if_icmp .ge 32, 3) := by decide +kernel
theorem zd_154_41 : decode (zm_cc 154) 41 = .ok (.aload_n 0, 1) := by decide +kernel
theorem zd_154_42 : decode (zm_cc 154) 42 = .ok (.getfield 24, 3) := by decide +kernel
theorem zd_154_45 : decode (zm_cc 154) 45 = .ok (.iload_n 1, 1) := by decide +kernel
theorem zd_154_46 : decode (zm_cc 154) 46 = .ok (.iconst 1, 1) := by decide +kernel
theorem zd_154_47 : decode (zm_cc 154) 47 = .ok (.iadd, 1) := by decide +kernel
theorem zd_154_48 : decode (zm_cc 154) 48 = .ok (.aload_n 0, 1) := by decide +kernel
theorem zd_154_49 : decode (zm_cc 154) 49 = .ok (.getfield 24, 3) := by decide +kernel
theorem zd_154_52 : decode (zm_cc 154) 52 = .ok (.iload_n 1, 1) := by decide +kernel
theorem zd_154_53 : decode (zm_cc 154) 53 = .ok (.iconst 1, 1) := by decide +kernel
theorem zd_154_54 : decode (zm_cc 154) 54 = .ok (.iadd, 1) := by decide +kernel
theorem zd_154_55 : decode (zm_cc 154) 55 = .ok (.iaload, 1) := by decide +kernel
theorem zd_154_56 : decode (zm_cc 154) 56 = .ok (.iload 5, 2) := by decide +kernel
theorem zd_154_58 : decode (zm_cc 154) 58 = .ok (.iand, 1) := by decide +kernel
theorem zd_154_59 : decode (zm_cc 154) 59 = .ok (.iload_n 2, 1) := by decide +kernel
theorem zd_154_60 : decode (zm_cc 154) 60 = .ok (.bipush 9, 2) := by decide +kernel
theorem zd_154_62 : decode (zm_cc 154) 62 = .ok (.ishl, 1) := by decide +kernel
theorem zd_154_63 : decode (zm_cc 154) 63 = .ok (.ior, 1) := by decide +kernel
theorem zd_154_64 : decode (zm_cc 154) 64 = .ok (.iload_n 3, 1) := by decide +kernel
theorem zd_154_65 : decode (zm_cc 154) 65 = .ok (.bipush 14, 2) := by decide +kernel
theorem zd_154_67 : decode (zm_cc 154) 67 = .ok (.ishl, 1) := by decide +kernel
theorem zd_154_68 : decode (zm_cc 154) 68 = .ok (.ior, 1) := by decide +kernel
theorem zd_154_69 : decode (zm_cc 154) 69 = .ok (.iastore, 1) := by decide +kernel
theorem zd_154_70 : decode (zm_cc 154) 70 = .ok (.return_, 1) := by decide +kernel
theorem zd_155_0 : decode (zm_cc 155) 0 = .ok (.aload_n 0, 1) := by decide +kernel
theorem zd_155_1 : decode (zm_cc 155) 1 = .ok (.iload_n 1, 1) := by decide +kernel
theorem zd_155_2 : decode (zm_cc 155) 2 = .ok (.invokevirtual 65, 3) := by decide +kernel
theorem zd_155_5 : decode (zm_cc 155) 5 = .ok (.ifCond .eq 5, 3) := by decide +kernel
theorem zd_155_8 : decode (zm_cc 155) 8 = .ok (.iconst 0, 1) := by decide +kernel
theorem zd_155_9 : decode (zm_cc 155) 9 = .ok (.ireturn, 1) := by decide +kernel
theorem zd_155_10 : decode (zm_cc 155) 10 = .ok (.aload_n 0, 1) := by decide +kernel
theorem zd_155_11 : decode (zm_cc 155) 11 = .ok (.iload_n 1, 1) := by decide +kernel
theorem zd_155_12 : decode (zm_cc 155) 12 = .ok (.iconst 0, 1) := by decide +kernel
theorem zd_155_13 : decode (zm_cc 155) 13 = .ok (.invokevirtual 121, 3) := by decide +kernel
theorem zd_155_16 : decode (zm_cc 155) 16 = .ok (.iconst 1, 1) := by decide +kernel
theorem zd_155_17 : decode (zm_cc 155) 17 = .ok (.ireturn, 1) := by decide +kernel
theorem zd_156_0 : decode (zm_cc 156) 0 = .ok (.iload_n 2, 1) := by decide +kernel
theorem zd_156_1 : decode (zm_cc 156) 1 = .ok (.ifCond .lt 15, 3) := by decide +kernel
theorem zd_156_4 : decode (zm_cc 156) 4 = .ok (.iload_n 2, 1) := by decide +kernel
theorem zd_156_5 : decode (zm_cc 156) 5 = .ok (.aload_n 0, 1) := by decide +kernel
theorem zd_156_6 : decode (zm_cc 156) 6 = .ok (.getfield 27, 3) := by decide +kernel
theorem zd_156_9 : decode (zm_cc 156) 9 = .ok (.iload_n 1, 1) := by decide +kernel
theorem zd_156_10 : decode (zm_cc 156) 10 = .ok (.invokevirtual 37, 3) := by decide +kernel
theorem zd_156_13 : decode (zm_cc 156) 13 = .ok (.if_icmp .lt 7, 3) := by decide +kernel
theorem zd_156_16 : decode (zm_cc 156) 16 = .ok (.iconst 1, 1) := by decide +kernel
theorem zd_156_17 : decode (zm_cc 156) 17 = .ok (.goto 4, 3) := by decide +kernel
theorem zd_156_20 : decode (zm_cc 156) 20 = .ok (.iconst 0, 1) := by decide +kernel
theorem zd_156_21 : decode (zm_cc 156) 21 = .ok (.istore_n 3, 1) := by decide +kernel
theorem zd_156_22 : decode (zm_cc 156) 22 = .ok (.aload_n 0, 1) := by decide +kernel
theorem zd_156_23 : decode (zm_cc 156) 23 = .ok (.iload_n 1, 1) := by decide +kernel
theorem zd_156_24 : decode (zm_cc 156) 24 = .ok (.iload_n 3, 1) := by decide +kernel
theorem zd_156_25 : decode (zm_cc 156) 25 = .ok (.ifCond .eq 14, 3) := by decide +kernel
theorem zd_156_28 : decode (zm_cc 156) 28 = .ok (.aload_n 0, 1) := by decide +kernel
theorem zd_156_29 : decode (zm_cc 156) 29 = .ok (.getfield 27, 3) := by decide +kernel
theorem zd_156_32 : decode (zm_cc 156) 32 = .ok (.iload_n 1, 1) := by decide +kernel
theorem zd_156_33 : decode (zm_cc 156) 33 = .ok (.invokevirtual 37, 3) := by decide +kernel
theorem zd_156_36 : decode (zm_cc 156) 36 = .ok (.goto 4, 3) := by decide +kernel
theorem zd_156_39 : decode (zm_cc 156) 39 = .ok (.iload_n 2, 1) := by decide +kernel
theorem zd_156_40 : decode (zm_cc 156) 40 = .ok (.iload_n 3, 1) := by decide +kernel
theorem zd_156_41 : decode (zm_cc 156) 41 = .ok (.ifCond .eq 7, 3) := by decide +kernel
theorem zd_156_44 : decode (zm_cc 156) 44 = .ok (.iconst 4, 1) := by decide +kernel
theorem zd_156_45 : decode (zm_cc 156) 45 = .ok (.goto 4, 3) := by decide +kernel
theorem zd_156_48 : decode (zm_cc 156) 48 = .ok (.iconst 1, 1) := by decide +kernel
theorem zd_156_49 : decode (zm_cc 156) 49 = .ok (.invokevirtual 117, 3) := by decide +kernel
theorem zd_156_52 : decode (zm_cc 156) 52 = .ok (.return_, 1) := by decide +kernel
theorem zd_157_0 : decode (zm_cc 157) 0 = .ok (.aload_n 0, 1) := by decide +kernel
theorem zd_157_1 : decode (zm_cc 157) 1 = .ok (.getfield 14, 3) := by decide +kernel
theorem zd_157_4 : decode (zm_cc 157) 4 = .ok (.invokevirtual 53, 3) := by decide +kernel
theorem zd_157_7 : decode (zm_cc 157) 7 = .ok (.aload_n 0, 1) := by decide +kernel
theorem zd_157_8 : decode (zm_cc 157) 8 = .ok (.getfield 20, 3) := by decide +kernel
theorem zd_157_11 : decode (zm_cc 157) 11 = .ok (.invokevirtual 53, 3) := by decide +kernel
theorem zd_157_14 : decode (zm_cc 157) 14 = .ok (.aload_n 0, 1) := by decide +kernel
theorem zd_157_15 : decode (zm_cc 157) 15 = .ok (.getfield 23, 3) := by decide +kernel
theorem zd_157_18 : decode (zm_cc 157) 18 = .ok (.invokevirtual 53, 3) := by decide +kernel
theorem zd_157_21 : decode (zm_cc 157) 21 = .ok (.aload_n 0, 1) := by decide +kernel
theorem zd_157_22 : decode (zm_cc 157) 22 = .ok (.getfield 32, 3) := by decide +kernel
theorem zd_157_25 : decode (zm_cc 157) 25 = .ok (.iconst (-1), 1) := by decide +kernel
theorem zd_157_26 : decode (zm_cc 157) 26 = .ok (.invokestatic 56, 3) := by decide +kernel
theorem zd_157_29 : decode (zm_cc 157) 29 = .ok (.iconst 0, 1) := by decide +kernel
theorem zd_157_30 : decode (zm_cc 157) 30 = .ok (.istore_n 2, 1) := by decide +kernel
theorem zd_157_31 : decode (zm_cc 157) 31 = .ok (.iload_n 2, 1) := by decide +kernel
theorem zd_157_32 : decode (zm_cc 157) 32 = .ok (.aload_n 1, 1) := by decide +kernel
theorem zd_157_33 : decode (zm_cc 157) 33 = .ok (.getfield 62, 3) := by decide +kernel
theorem zd_157_36 : decode (zm_cc 157) 36 = .ok (.if_icmp .ge 72, 3) := by decide +kernel
theorem zd_157_39 : decode (zm_cc 157) 39 = .ok (.aload_n 1, 1) := by decide +kernel
theorem zd_157_40 : decode (zm_cc 157) 40 = .ok (.iload_n 2, 1) := by decide +kernel
theorem zd_157_41 : decode (zm_cc 157) 41 = .ok (.invokevirtual 68, 3) := by decide +kernel
theorem zd_157_44 : decode (zm_cc 157) 44 = .ok (.aload_n 0, 1) := by decide +kernel
theorem zd_157_45 : decode (zm_cc 157) 45 = .ok (.getfield 40, 3) := by decide +kernel
theorem zd_157_48 : decode (zm_cc 157) 48 = .ok (.invokevirtual 71, 3) := by decide +kernel
theorem zd_157_51 : decode (zm_cc 157) 51 = .ok (.ifCond .eq 11, 3) := by decide +kernel
theorem zd_157_54 : decode (zm_cc 157) 54 = .ok (.aload_n 0, 1) := by decide +kernel
theorem zd_157_55 : decode (zm_cc 157) 55 = .ok (.getfield 23, 3) := by decide +kernel
theorem zd_157_58 : decode (zm_cc 157) 58 = .ok (.iload_n 2, 1) := by decide +kernel
theorem zd_157_59 : decode (zm_cc 157) 59 = .ok (.invokevirtual 77, 3) := by decide +kernel
theorem zd_157_62 : decode (zm_cc 157) 62 = .ok (.aload_n 1, 1) := by decide +kernel
theorem zd_157_63 : decode (zm_cc 157) 63 = .ok (.iload_n 2, 1) := by decide +kernel
theorem zd_157_64 : decode (zm_cc 157) 64 = .ok (.invokevirtual 80, 3) := by decide +kernel
theorem zd_157_67 : decode (zm_cc 157) 67 = .ok (.ifCond .eq 30, 3) := by decide +kernel
theorem zd_157_70 : decode (zm_cc 157) 70 = .ok (.aload_n 0, 1) := by decide +kernel
theorem zd_157_71 : decode (zm_cc 157) 71 = .ok (.getfield 40, 3) := by decide +kernel
theorem zd_157_74 : decode (zm_cc 157) 74 = .ok (.invokevirtual 84, 3) := by decide +kernel
theorem zd_157_77 : decode (zm_cc 157) 77 = .ok (.ifCond .eq 10, 3) := by decide +kernel
theorem zd_157_80 : decode (zm_cc 157) 80 = .ok (.aload_n 0, 1) := by decide +kernel
theorem zd_157_81 : decode (zm_cc 157) 81 = .ok (.getfield 14, 3) := by decide +kernel
theorem zd_157_84 : decode (zm_cc 157) 84 = .ok (.goto 7, 3) := by decide +kernel
theorem zd_157_87 : decode (zm_cc 157) 87 = .ok (.aload_n 0, 1) := by decide +kernel
theorem zd_157_88 : decode (zm_cc 157) 88 = .ok (.getfield 20, 3) := by decide +kernel
theorem zd_157_91 : decode (zm_cc 157) 91 = .ok (.astore_n 3, 1) := by decide +kernel
theorem zd_157_92 : decode (zm_cc 157) 92 = .ok (.aload_n 3, 1) := by decide +kernel
theorem zd_157_93 : decode (zm_cc 157) 93 = .ok (.iload_n 2, 1) := by decide +kernel
theorem zd_157_94 : decode (zm_cc 157) 94 = .ok (.invokevirtual 77, 3) := by decide +kernel
theorem zd_157_97 : decode (zm_cc 157) 97 = .ok (.aload_n 0, 1) := by decide +kernel
theorem zd_157_98 : decode (zm_cc 157) 98 = .ok (.iload_n 2, 1) := by decide +kernel
theorem zd_157_99 : decode (zm_cc 157) 99 = .ok (.invokevirtual 88, 3) := by decide +kernel
theorem zd_157_102 : decode (zm_cc 157) 102 = .ok (.iinc 2 1, 3) := by decide +kernel
theorem zd_157_105 : decode (zm_cc 157) 105 = .ok (.goto (-74), 3) := by decide +kernel
theorem zd_157_108 : decode (zm_cc 157) 108 = .ok (.aload_n 0, 1) := by decide +kernel
theorem zd_157_109 : decode (zm_cc 157) 109 = .ok (.invokevirtual 91, 3) := by decide +kernel
theorem zd_157_112 : decode (zm_cc 157) 112 = .ok (.aload_n 0, 1) := by decide +kernel
theorem zd_157_113 : decode (zm_cc 157) 113 = .ok (.getfield 49, 3) := by decide +kernel
theorem zd_157_116 : decode (zm_cc 157) 116 = .ok (.aload_n 1, 1) := by decide +kernel
theorem zd_157_117 : decode (zm_cc 157) 117 = .ok (.invokevirtual 94, 3) := by decide +kernel
theorem zd_157_120 : decode (zm_cc 157) 120 = .ok (.return_, 1) := by decide +kernel
theorem zd_158_0 : decode (zm_cc 158) 0 = .ok (.aload_n 0, 1) := by decide +kernel
theorem zd_158_1 : decode (zm_cc 158) 1 = .ok (.iconst 0, 1) := by decide +kernel
theorem zd_158_2 : decode (zm_cc 158) 2 = .ok (.putfield 21, 3) := by decide +kernel
theorem zd_158_5 : decode (zm_cc 158) 5 = .ok (.return_, 1) := by decide +kernel
theorem zd_159_0 : decode (zm_cc 159) 0 = .ok (.iconst 0, 1) := by decide +kernel
theorem zd_159_1 : decode (zm_cc 159) 1 = .ok (.istore_n 1, 1) := by decide +kernel
theorem zd_159_2 : decode (zm_cc 159) 2 = .ok (.iconst 0, 1) := by decide +kernel
theorem zd_159_3 : decode (zm_cc 159) 3 = .ok (.istore_n 2, 1) := by decide +kernel
theorem zd_159_4 : decode (zm_cc 159) 4 = .ok (.iload_n 2, 1) := by decide +kernel
theorem zd_159_5 : decode (zm_cc 159) 5 = .ok (.aload_n 0, 1) := by decide +kernel
theorem zd_159_6 : decode (zm_cc 159) 6 = .ok (.getfield 27, 3) := by decide +kernel
theorem zd_159_9 : decode (zm_cc 159) 9 = .ok (.getfield 83, 3) := by decide +kernel
theorem zd_159_12 : decode (zm_cc 159) 12 = .ok (.if_icmp .ge 24, 3) := by decide +kernel
theorem zd_159_15 : decode (zm_cc 159) 15 = .ok (.aload_n 0, 1) := by decide +kernel
theorem zd_159_16 : decode (zm_cc 159) 16 = .ok (.iload_n 2, 1) := by decide +kernel
theorem zd_159_17 : decode (zm_cc 159) 17 = .ok (.invokevirtual 65, 3) := by decide +kernel
theorem zd_159_20 : decode (zm_cc 159) 20 = .ok (.iconst 5, 1) := by decide +kernel
theorem zd_159_21 : decode (zm_cc 159) 21 = .ok (.if_icmp .ne 9, 3) := by decide +kernel
theorem zd_159_24 : decode (zm_cc 159) 24 = .ok (.iload_n 1, 1) := by decide +kernel
theorem zd_159_25 : decode (zm_cc 159) 25 = .ok (.iconst 1, 1) := by decide +kernel
theorem zd_159_26 : decode (zm_cc 159) 26 = .ok (.iload_n 2, 1) := by decide +kernel
theorem zd_159_27 : decode (zm_cc 159) 27 = .ok (.ishl, 1) := by decide +kernel
theorem zd_159_28 : decode (zm_cc 159) 28 = .ok (.ior, 1) := by decide +kernel
theorem zd_159_29 : decode (zm_cc 159) 29 = .ok (.istore_n 1, 1) := by decide +kernel
theorem zd_159_30 : decode (zm_cc 159) 30 = .ok (.iinc 2 1, 3) := by decide +kernel
theorem zd_159_33 : decode (zm_cc 159) 33 = .ok (.goto (-29), 3) := by decide +kernel
theorem zd_159_36 : decode (zm_cc 159) 36 = .ok (.iload_n 1, 1) := by decide +kernel
theorem zd_159_37 : decode (zm_cc 159) 37 = .ok (.ireturn, 1) := by decide +kernel
theorem zd_160_0 : decode (zm_cc 160) 0 = .ok (.aload_n 0, 1) := by decide +kernel
theorem zd_160_1 : decode (zm_cc 160) 1 = .ok (.getfield 21, 3) := by decide +kernel
theorem zd_160_4 : decode (zm_cc 160) 4 = .ok (.ifCond .lt 35, 3) := by decide +kernel
theorem zd_160_7 : decode (zm_cc 160) 7 = .ok (.aload_n 0, 1) := by decide +kernel
theorem zd_160_8 : decode (zm_cc 160) 8 = .ok (.getfield 21, 3) := by decide +kernel
theorem zd_160_11 : decode (zm_cc 160) 11 = .ok (.aload_n 0, 1) := by decide +kernel
theorem zd_160_12 : decode (zm_cc 160) 12 = .ok (.getfield 15, 3) := by decide +kernel
theorem zd_160_15 : decode (zm_cc 160) 15 = .ok (.arraylength, 1) := by decide +kernel
theorem zd_160_16 : decode (zm_cc 160) 16 = .ok (.if_icmp .ge 23, 3) := by decide +kernel
theorem zd_160_19 : decode (zm_cc 160) 19 = .ok (.aload_n 0, 1) := by decide +kernel
theorem zd_160_20 : decode (zm_cc 160) 20 = .ok (.getfield 15, 3) := by decide +kernel
theorem zd_160_23 : decode (zm_cc 160) 23 = .ok (.aload_n 0, 1) := by decide +kernel
theorem zd_160_24 : decode (zm_cc 160) 24 = .ok (.getfield 21, 3) := by decide +kernel
theorem zd_160_27 : decode (zm_cc 160) 27 = .ok (.iload_n 1, 1) := by decide +kernel
theorem zd_160_28 : decode (zm_cc 160) 28 = .ok (.iastore, 1) := by decide +kernel
theorem zd_160_29 : decode (zm_cc 160) 29 = .ok (.aload_n 0, 1) := by decide +kernel
theorem zd_160_30 : decode (zm_cc 160) 30 = .ok (.dup, 1) := by decide +kernel
theorem zd_160_31 : decode (zm_cc 160) 31 = .ok (.getfield 21, 3) := by decide +kernel
theorem zd_160_34 : decode (zm_cc 160) 34 = .ok (.iconst 1, 1) := by decide +kernel
theorem zd_160_35 : decode (zm_cc 160) 35 = .ok (.iadd, 1) := by decide +kernel
theorem zd_160_36 : decode (zm_cc 160) 36 = .ok (.putfield 21, 3) := by decide +kernel
theorem zd_160_39 : decode (zm_cc 160) 39 = .ok (.return_, 1) := by decide +kernel
theorem zd_161_0 : decode (zm_cc 161) 0 = .ok (.aload_n 0, 1) := by decide +kernel
theorem zd_161_1 : decode (zm_cc 161) 1 = .ok (.iload_n 1, 1) := by decide +kernel
theorem zd_161_2 : decode (zm_cc 161) 2 = .ok (.invokevirtual 37, 3) := by decide +kernel
theorem zd_161_5 : decode (zm_cc 161) 5 = .ok (.ifCond .eq 16, 3) := by decide +kernel
theorem zd_161_8 : decode (zm_cc 161) 8 = .ok (.aload_n 0, 1) := by decide +kernel
theorem zd_161_9 : decode (zm_cc 161) 9 = .ok (.getfield 18, 3) := by decide +kernel
theorem zd_161_12 : decode (zm_cc 161) 12 = .ok (.iload_n 1, 1) := by decide +kernel
theorem zd_161_13 : decode (zm_cc 161) 13 = .ok (.baload, 1) := by decide +kernel
theorem zd_161_14 : decode (zm_cc 161) 14 = .ok (.ifCond .eq 7, 3) := by decide +kernel
theorem zd_161_17 : decode (zm_cc 161) 17 = .ok (.iconst 1, 1) := by decide +kernel
theorem zd_161_18 : decode (zm_cc 161) 18 = .ok (.goto 4, 3) := by decide +kernel
theorem zd_161_21 : decode (zm_cc 161) 21 = .ok (.iconst 0, 1) := by decide +kernel
theorem zd_161_22 : decode (zm_cc 161) 22 = .ok (.ireturn, 1) := by decide +kernel
theorem zd_162_0 : decode (zm_cc 162) 0 = .ok (.iconst 0, 1) := by decide +kernel
theorem zd_162_1 : decode (zm_cc 162) 1 = .ok (.istore_n 1, 1) := by decide +kernel
theorem zd_162_2 : decode (zm_cc 162) 2 = .ok (.iload_n 1, 1) := by decide +kernel
theorem zd_162_3 : decode (zm_cc 162) 3 = .ok (.aload_n 0, 1) := by decide +kernel
theorem zd_162_4 : decode (zm_cc 162) 4 = .ok (.getfield 27, 3) := by decide +kernel
theorem zd_162_7 : decode (zm_cc 162) 7 = .ok (.getfield 83, 3) := by decide +kernel
theorem zd_162_10 : decode (zm_cc 162) 10 = .ok (.if_icmp .ge 19, 3) := by decide +kernel
theorem zd_162_13 : decode (zm_cc 162) 13 = .ok (.aload_n 0, 1) := by decide +kernel
theorem zd_162_14 : decode (zm_cc 162) 14 = .ok (.iload_n 1, 1) := by decide +kernel
theorem zd_162_15 : decode (zm_cc 162) 15 = .ok (.invokevirtual 146, 3) := by decide +kernel
theorem zd_162_18 : decode (zm_cc 162) 18 = .ok (.ifCond .ne 5, 3) := by decide +kernel
theorem zd_162_21 : decode (zm_cc 162) 21 = .ok (.iconst 0, 1) := by decide +kernel
theorem zd_162_22 : decode (zm_cc 162) 22 = .ok (.ireturn, 1) := by decide +kernel
theorem zd_162_23 : decode (zm_cc 162) 23 = .ok (.iinc 1 1, 3) := by decide +kernel
theorem zd_162_26 : decode (zm_cc 162) 26 = .ok (.goto (-24), 3) := by decide +kernel
theorem zd_162_29 : decode (zm_cc 162) 29 = .ok (.iconst 1, 1) := by decide +kernel
theorem zd_162_30 : decode (zm_cc 162) 30 = .ok (.ireturn, 1) := by decide +kernel
theorem zd_163_0 : decode (zm_cc 163) 0 = .ok (.aload_n 0, 1) := by decide +kernel
theorem zd_163_1 : decode (zm_cc 163) 1 = .ok (.iload_n 1, 1) := by decide +kernel
theorem zd_163_2 : decode (zm_cc 163) 2 = .ok (.invokevirtual 65, 3) := by decide +kernel
theorem zd_163_5 : decode (zm_cc 163) 5 = .ok (.istore_n 2, 1) := by decide +kernel
theorem zd_163_6 : decode (zm_cc 163) 6 = .ok (.iload_n 2, 1) := by decide +kernel
theorem zd_163_7 : decode (zm_cc 163) 7 = .ok (.iconst 4, 1) := by decide +kernel
theorem zd_163_8 : decode (zm_cc 163) 8 = .ok (.if_icmp .eq 12, 3) := by decide +kernel
theorem zd_163_11 : decode (zm_cc 163) 11 = .ok (.iload_n 2, 1) := by decide +kernel
theorem zd_163_12 : decode (zm_cc 163) 12 = .ok (.iconst 5, 1) := by decide +kernel
theorem zd_163_13 : decode (zm_cc 163) 13 = .ok (.if_icmp .eq 7, 3) := by decide +kernel
theorem zd_163_16 : decode (zm_cc 163) 16 = .ok (.iload_n 2, 1) := by decide +kernel
theorem zd_163_17 : decode (zm_cc 163) 17 = .ok (.ifCond .ne 7, 3) := by decide +kernel
theorem zd_163_20 : decode (zm_cc 163) 20 = .ok (.iconst 1, 1) := by decide +kernel
theorem zd_163_21 : decode (zm_cc 163) 21 = .ok (.goto 4, 3) := by decide +kernel
theorem zd_163_24 : decode (zm_cc 163) 24 = .ok (.iconst 0, 1) := by decide +kernel
theorem zd_163_25 : decode (zm_cc 163) 25 = .ok (.ireturn, 1) := by decide +kernel
theorem zd_164_0 : decode (zm_cc 164) 0 = .ok (.iconst 0, 1) := by decide +kernel
theorem zd_164_1 : decode (zm_cc 164) 1 = .ok (.istore_n 2, 1) := by decide +kernel
theorem zd_164_2 : decode (zm_cc 164) 2 = .ok (.iload_n 2, 1) := by decide +kernel
theorem zd_164_3 : decode (zm_cc 164) 3 = .ok (.aload_n 0, 1) := by decide +kernel
theorem zd_164_4 : decode (zm_cc 164) 4 = .ok (.getfield 36, 3) := by decide +kernel
theorem zd_164_7 : decode (zm_cc 164) 7 = .ok (.getfield 98, 3) := by decide +kernel
theorem zd_164_10 : decode (zm_cc 164) 10 = .ok (.if_icmp .ge 85, 3) := by decide +kernel
theorem zd_164_13 : decode (zm_cc 164) 13 = .ok (.iload_n 2, 1) := by decide +kernel
theorem zd_164_14 : decode (zm_cc 164) 14 = .ok (.iconst 1, 1) := by decide +kernel
theorem zd_164_15 : decode (zm_cc 164) 15 = .ok (.iadd, 1) := by decide +kernel
theorem zd_164_16 : decode (zm_cc 164) 16 = .ok (.istore_n 3, 1) := by decide +kernel
theorem zd_164_17 : decode (zm_cc 164) 17 = .ok (.iload_n 3, 1) := by decide +kernel
theorem zd_164_18 : decode (zm_cc 164) 18 = .ok (.aload_n 0, 1) := by decide +kernel
theorem zd_164_19 : decode (zm_cc 164) 19 = .ok (.getfield 36, 3) := by decide +kernel
theorem zd_164_22 : decode (zm_cc 164) 22 = .ok (.getfield 98, 3) := by decide +kernel
theorem zd_164_25 : decode (zm_cc 164) 25 = .ok (.if_icmp .ge 64, 3) := by decide +kernel
theorem zd_164_28 : decode (zm_cc 164) 28 = .ok (.aload_n 0, 1) := by decide +kernel
theorem zd_164_29 : decode (zm_cc 164) 29 = .ok (.getfield 40, 3) := by decide +kernel
theorem zd_164_32 : decode (zm_cc 164) 32 = .ok (.iload_n 2, 1) := by decide +kernel
theorem zd_164_33 : decode (zm_cc 164) 33 = .ok (.invokevirtual 103, 3) := by decide +kernel
theorem zd_164_36 : decode (zm_cc 164) 36 = .ok (.iconst 1, 1) := by decide +kernel
theorem zd_164_37 : decode (zm_cc 164) 37 = .ok (.if_icmp .ne 46, 3) := by decide +kernel
theorem zd_164_40 : decode (zm_cc 164) 40 = .ok (.aload_n 0, 1) := by decide +kernel
theorem zd_164_41 : decode (zm_cc 164) 41 = .ok (.getfield 40, 3) := by decide +kernel
theorem zd_164_44 : decode (zm_cc 164) 44 = .ok (.iload_n 3, 1) := by decide +kernel
theorem zd_164_45 : decode (zm_cc 164) 45 = .ok (.invokevirtual 103, 3) := by decide +kernel
theorem zd_164_48 : decode (zm_cc 164) 48 = .ok (.iconst 1, 1) := by decide +kernel
theorem zd_164_49 : decode (zm_cc 164) 49 = .ok (.if_icmp .ne 34, 3) := by decide +kernel
theorem zd_164_52 : decode (zm_cc 164) 52 = .ok (.aload_n 0, 1) := by decide +kernel
theorem zd_164_53 : decode (zm_cc 164) 53 = .ok (.iload_n 2, 1) := by decide +kernel
theorem zd_164_54 : decode (zm_cc 164) 54 = .ok (.bipush 24, 2) := by decide +kernel
theorem zd_164_56 : decode (zm_cc 164) 56 = .ok (.imul, 1) := by decide +kernel
theorem zd_164_57 : decode (zm_cc 164) 57 = .ok (.aload_n 0, 1) := by decide +kernel
theorem zd_164_58 : decode (zm_cc 164) 58 = .ok (.getfield 40, 3) := by decide +kernel
theorem zd_164_61 : decode (zm_cc 164) 61 = .ok (.iload_n 2, 1) := by decide +kernel
theorem zd_164_62 : decode (zm_cc 164) 62 = .ok (.invokevirtual 107, 3) := by decide +kernel
theorem zd_164_65 : decode (zm_cc 164) 65 = .ok (.iadd, 1) := by decide +kernel
theorem zd_164_66 : decode (zm_cc 164) 66 = .ok (.iload_n 3, 1) := by decide +kernel
theorem zd_164_67 : decode (zm_cc 164) 67 = .ok (.bipush 24, 2) := by decide +kernel
theorem zd_164_69 : decode (zm_cc 164) 69 = .ok (.imul, 1) := by decide +kernel
theorem zd_164_70 : decode (zm_cc 164) 70 = .ok (.aload_n 0, 1) := by decide +kernel
theorem zd_164_71 : decode (zm_cc 164) 71 = .ok (.getfield 40, 3) := by decide +kernel
theorem zd_164_74 : decode (zm_cc 164) 74 = .ok (.iload_n 3, 1) := by decide +kernel
theorem zd_164_75 : decode (zm_cc 164) 75 = .ok (.invokevirtual 107, 3) := by decide +kernel
theorem zd_164_78 : decode (zm_cc 164) 78 = .ok (.iadd, 1) := by decide +kernel
theorem zd_164_79 : decode (zm_cc 164) 79 = .ok (.iload_n 1, 1) := by decide +kernel
theorem zd_164_80 : decode (zm_cc 164) 80 = .ok (.invokevirtual 110, 3) := by decide +kernel
theorem zd_164_83 : decode (zm_cc 164) 83 = .ok (.iinc 3 1, 3) := by decide +kernel
theorem zd_164_86 : decode (zm_cc 164) 86 = .ok (.goto (-69), 3) := by decide +kernel
theorem zd_164_89 : decode (zm_cc 164) 89 = .ok (.iinc 2 1, 3) := by decide +kernel
theorem zd_164_92 : decode (zm_cc 164) 92 = .ok (.goto (-90), 3) := by decide +kernel
theorem zd_164_95 : decode (zm_cc 164) 95 = .ok (.return_, 1) := by decide +kernel
theorem zd_165_0 : decode (zm_cc 165) 0 = .ok (.aload_n 0, 1) := by decide +kernel
theorem zd_165_1 : decode (zm_cc 165) 1 = .ok (.getfield 36, 3) := by decide +kernel
theorem zd_165_4 : decode (zm_cc 165) 4 = .ok (.iload_n 1, 1) := by decide +kernel
theorem zd_165_5 : decode (zm_cc 165) 5 = .ok (.iload_n 2, 1) := by decide +kernel
theorem zd_165_6 : decode (zm_cc 165) 6 = .ok (.invokevirtual 114, 3) := by decide +kernel
theorem zd_165_9 : decode (zm_cc 165) 9 = .ok (.ifCond .eq 45, 3) := by decide +kernel
theorem zd_165_12 : decode (zm_cc 165) 12 = .ok (.iload_n 1, 1) := by decide +kernel
theorem zd_165_13 : decode (zm_cc 165) 13 = .ok (.bipush 96, 2) := by decide +kernel
theorem zd_165_15 : decode (zm_cc 165) 15 = .ok (.imul, 1) := by decide +kernel
theorem zd_165_16 : decode (zm_cc 165) 16 = .ok (.iload_n 2, 1) := by decide +kernel
theorem zd_165_17 : decode (zm_cc 165) 17 = .ok (.iadd, 1) := by decide +kernel
theorem zd_165_18 : decode (zm_cc 165) 18 = .ok (.istore 4, 2) := by decide +kernel
theorem zd_165_20 : decode (zm_cc 165) 20 = .ok (.iload 4, 2) := by decide +kernel
theorem zd_165_22 : decode (zm_cc 165) 22 = .ok (.ifCond .lt 32, 3) := by decide +kernel
theorem zd_165_25 : decode (zm_cc 165) 25 = .ok (.iload 4, 2) := by decide +kernel
theorem zd_165_27 : decode (zm_cc 165) 27 = .ok (.aload_n 0, 1) := by decide +kernel
theorem zd_165_28 : decode (zm_cc 165) 28 = .ok (.getfield 32, 3) := by decide +kernel
theorem zd_165_31 : decode (zm_cc 165) 31 = .ok (.arraylength, 1) := by decide +kernel
theorem zd_165_32 : decode (zm_cc 165) 32 = .ok (.if_icmp .ge 22, 3) := by decide +kernel
theorem zd_165_35 : decode (zm_cc 165) 35 = .ok (.aload_n 0, 1) := by decide +kernel
theorem zd_165_36 : decode (zm_cc 165) 36 = .ok (.getfield 32, 3) := by decide +kernel
theorem zd_165_39 : decode (zm_cc 165) 39 = .ok (.iload 4, 2) := by decide +kernel
theorem zd_165_41 : decode (zm_cc 165) 41 = .ok (.iaload, 1) := by decide +kernel
theorem zd_165_42 : decode (zm_cc 165) 42 = .ok (.iconst (-1), 1) := by decide +kernel
theorem zd_165_43 : decode (zm_cc 165) 43 = .ok (.if_icmp .ne 11, 3) := by decide +kernel
theorem zd_165_46 : decode (zm_cc 165) 46 = .ok (.aload_n 0, 1) := by decide +kernel
theorem zd_165_47 : decode (zm_cc 165) 47 = .ok (.getfield 32, 3) := by decide +kernel
theorem zd_165_50 : decode (zm_cc 165) 50 = .ok (.iload 4, 2) := by decide +kernel
theorem zd_165_52 : decode (zm_cc 165) 52 = .ok (.iload_n 3, 1) := by decide +kernel
theorem zd_165_53 : decode (zm_cc 165) 53 = .ok (.iastore, 1) := by decide +kernel
theorem zd_165_54 : decode (zm_cc 165) 54 = .ok (.return_, 1) := by decide +kernel
theorem zd_166_0 : decode (zm_cc 166) 0 = .ok (.iload_n 1, 1) := by decide +kernel
theorem zd_166_1 : decode (zm_cc 166) 1 = .ok (.ifCond .lt 19, 3) := by decide +kernel
theorem zd_166_4 : decode (zm_cc 166) 4 = .ok (.iload_n 1, 1) := by decide +kernel
theorem zd_166_5 : decode (zm_cc 166) 5 = .ok (.bipush 96, 2) := by decide +kernel
theorem zd_166_7 : decode (zm_cc 166) 7 = .ok (.if_icmp .ge 13, 3) := by decide +kernel
theorem zd_166_10 : decode (zm_cc 166) 10 = .ok (.iload_n 2, 1) := by decide +kernel
theorem zd_166_11 : decode (zm_cc 166) 11 = .ok (.ifCond .lt 9, 3) := by decide +kernel
theorem zd_166_14 : decode (zm_cc 166) 14 = .ok (.iload_n 2, 1) := by decide +kernel
theorem zd_166_15 : decode (zm_cc 166) 15 = .ok (.bipush 96, 2) := by decide +kernel
theorem zd_166_17 : decode (zm_cc 166) 17 = .ok (.if_icmp .lt 5, 3) := by decide +kernel
theorem zd_166_20 : decode (zm_cc 166) 20 = .ok (.iconst 0, 1) := by decide +kernel
theorem zd_166_21 : decode (zm_cc 166) 21 = .ok (.ireturn, 1) := by decide +kernel
theorem zd_166_22 : decode (zm_cc 166) 22 = .ok (.aload_n 0, 1) := by decide +kernel
theorem zd_166_23 : decode (zm_cc 166) 23 = .ok (.getfield 21, 3) := by decide +kernel
theorem zd_166_26 : decode (zm_cc 166) 26 = .ok (.iload_n 1, 1) := by decide +kernel
theorem zd_166_27 : decode (zm_cc 166) 27 = .ok (.iaload, 1) := by decide +kernel
theorem zd_166_28 : decode (zm_cc 166) 28 = .ok (.istore_n 3, 1) := by decide +kernel
theorem zd_166_29 : decode (zm_cc 166) 29 = .ok (.aload_n 0, 1) := by decide +kernel
theorem zd_166_30 : decode (zm_cc 166) 30 = .ok (.getfield 18, 3) := by decide +kernel
theorem zd_166_33 : decode (zm_cc 166) 33 = .ok (.iload_n 1, 1) := by decide +kernel
theorem zd_166_34 : decode (zm_cc 166) 34 = .ok (.iaload, 1) := by decide +kernel
theorem zd_166_35 : decode (zm_cc 166) 35 = .ok (.iconst 1, 1) := by decide +kernel
theorem zd_166_36 : decode (zm_cc 166) 36 = .ok (.if_icmp .gt 17, 3) := by decide +kernel
theorem zd_166_39 : decode (zm_cc 166) 39 = .ok (.aload_n 0, 1) := by decide +kernel
theorem zd_166_40 : decode (zm_cc 166) 40 = .ok (.getfield 18, 3) := by decide +kernel
theorem zd_166_43 : decode (zm_cc 166) 43 = .ok (.iload_n 2, 1) := by decide +kernel
theorem zd_166_44 : decode (zm_cc 166) 44 = .ok (.iaload, 1) := by decide +kernel
theorem zd_166_45 : decode (zm_cc 166) 45 = .ok (.iconst 1, 1) := by decide +kernel
theorem zd_166_46 : decode (zm_cc 166) 46 = .ok (.if_icmp .gt 7, 3) := by decide +kernel
theorem zd_166_49 : decode (zm_cc 166) 49 = .ok (.iconst 1, 1) := by decide +kernel
theorem zd_166_50 : decode (zm_cc 166) 50 = .ok (.goto 4, 3) := by decide +kernel
theorem zd_166_53 : decode (zm_cc 166) 53 = .ok (.iconst 0, 1) := by decide +kernel
theorem zd_166_54 : decode (zm_cc 166) 54 = .ok (.istore 4, 2) := by decide +kernel
theorem zd_166_56 : decode (zm_cc 166) 56 = .ok (.aload_n 0, 1) := by decide +kernel
theorem zd_166_57 : decode (zm_cc 166) 57 = .ok (.getfield 18, 3) := by decide +kernel
theorem zd_166_60 : decode (zm_cc 166) 60 = .ok (.iload_n 1, 1) := by decide +kernel
theorem zd_166_61 : decode (zm_cc 166) 61 = .ok (.iaload, 1) := by decide +kernel
theorem zd_166_62 : decode (zm_cc 166) 62 = .ok (.iconst 1, 1) := by decide +kernel
theorem zd_166_63 : decode (zm_cc 166) 63 = .ok (.if_icmp .eq 13, 3) := by decide +kernel
theorem zd_166_66 : decode (zm_cc 166) 66 = .ok (.aload_n 0, 1) := by decide +kernel
theorem zd_166_67 : decode (zm_cc 166) 67 = .ok (.getfield 18, 3) := by decide +kernel
theorem zd_166_70 : decode (zm_cc 166) 70 = .ok (.iload_n 2, 1) := by decide +kernel
theorem zd_166_71 : decode (zm_cc 166) 71 = .ok (.iaload, 1) := by decide +kernel
theorem zd_166_72 : decode (zm_cc 166) 72 = .ok (.iconst 1, 1) := by decide +kernel
theorem zd_166_73 : decode (zm_cc 166) 73 = .ok (.if_icmp .ne 7, 3) := by decide +kernel
theorem zd_166_76 : decode (zm_cc 166) 76 = .ok (.iconst 1, 1) := by decide +kernel
theorem zd_166_77 : decode (zm_cc 166) 77 = .ok (.goto 4, 3) := by decide +kernel
theorem zd_166_80 : decode (zm_cc 166) 80 = .ok (.iconst 0, 1) := by decide +kernel
theorem zd_166_81 : decode (zm_cc 166) 81 = .ok (.istore 5, 2) := by decide +kernel
theorem zd_166_83 : decode (zm_cc 166) 83 = .ok (.iload 4, 2) := by decide +kernel
theorem zd_166_85 : decode (zm_cc 166) 85 = .ok (.ifCond .eq 33, 3) := by decide +kernel
theorem zd_166_88 : decode (zm_cc 166) 88 = .ok (.iload 5, 2) := by decide +kernel
theorem zd_166_90 : decode (zm_cc 166) 90 = .ok (.ifCond .eq 28, 3) := by decide +kernel
theorem zd_166_93 : decode (zm_cc 166) 93 = .ok (.iload_n 3, 1) := by decide +kernel
theorem zd_166_94 : decode (zm_cc 166) 94 = .ok (.aload_n 0, 1) := by decide +kernel
theorem zd_166_95 : decode (zm_cc 166) 95 = .ok (.getfield 21, 3) := by decide +kernel
theorem zd_166_98 : decode (zm_cc 166) 98 = .ok (.iload_n 2, 1) := by decide +kernel
theorem zd_166_99 : decode (zm_cc 166) 99 = .ok (.iaload, 1) := by decide +kernel
theorem zd_166_100 : decode (zm_cc 166) 100 = .ok (.if_icmp .ne 18, 3) := by decide +kernel
theorem zd_166_103 : decode (zm_cc 166) 103 = .ok (.aload_n 0, 1) := by decide +kernel
theorem zd_166_104 : decode (zm_cc 166) 104 = .ok (.getfield 67, 3) := by decide +kernel
theorem zd_166_107 : decode (zm_cc 166) 107 = .ok (.iload_n 3, 1) := by decide +kernel
theorem zd_166_108 : decode (zm_cc 166) 108 = .ok (.iushr, 1) := by decide +kernel
theorem zd_166_109 : decode (zm_cc 166) 109 = .ok (.iconst 1, 1) := by decide +kernel
theorem zd_166_110 : decode (zm_cc 166) 110 = .ok (.iand, 1) := by decide +kernel
theorem zd_166_111 : decode (zm_cc 166) 111 = .ok (.ifCond .ne 7, 3) := by decide +kernel
theorem zd_166_114 : decode (zm_cc 166) 114 = .ok (.iconst 1, 1) := by decide +kernel
theorem zd_166_115 : decode (zm_cc 166) 115 = .ok (.goto 4, 3) := by decide +kernel
theorem zd_166_118 : decode (zm_cc 166) 118 = .ok (.iconst 0, 1) := by decide +kernel
theorem zd_166_119 : decode (zm_cc 166) 119 = .ok (.ireturn, 1) := by decide +kernel
theorem zd_167_0 : decode (zm_cc 167) 0 = .ok (.aload_n 0, 1) := by decide +kernel
theorem zd_167_1 : decode (zm_cc 167) 1 = .ok (.getfield 26, 3) := by decide +kernel
theorem zd_167_4 : decode (zm_cc 167) 4 = .ok (.invokevirtual 53, 3) := by decide +kernel
theorem zd_167_7 : decode (zm_cc 167) 7 = .ok (.aload_n 0, 1) := by decide +kernel
theorem zd_167_8 : decode (zm_cc 167) 8 = .ok (.getfield 29, 3) := by decide +kernel
theorem zd_167_11 : decode (zm_cc 167) 11 = .ok (.invokevirtual 53, 3) := by decide +kernel
theorem zd_167_14 : decode (zm_cc 167) 14 = .ok (.iconst 0, 1) := by decide +kernel
theorem zd_167_15 : decode (zm_cc 167) 15 = .ok (.istore_n 1, 1) := by decide +kernel
theorem zd_167_16 : decode (zm_cc 167) 16 = .ok (.iload_n 1, 1) := by decide +kernel
theorem zd_167_17 : decode (zm_cc 167) 17 = .ok (.aload_n 0, 1) := by decide +kernel
theorem zd_167_18 : decode (zm_cc 167) 18 = .ok (.getfield 32, 3) := by decide +kernel
theorem zd_167_21 : decode (zm_cc 167) 21 = .ok (.arraylength, 1) := by decide +kernel
theorem zd_167_22 : decode (zm_cc 167) 22 = .ok (.if_icmp .ge 40, 3) := by decide +kernel
theorem zd_167_25 : decode (zm_cc 167) 25 = .ok (.aload_n 0, 1) := by decide +kernel
theorem zd_167_26 : decode (zm_cc 167) 26 = .ok (.getfield 32, 3) := by decide +kernel
theorem zd_167_29 : decode (zm_cc 167) 29 = .ok (.iload_n 1, 1) := by decide +kernel
theorem zd_167_30 : decode (zm_cc 167) 30 = .ok (.iaload, 1) := by decide +kernel
theorem zd_167_31 : decode (zm_cc 167) 31 = .ok (.iconst (-1), 1) := by decide +kernel
theorem zd_167_32 : decode (zm_cc 167) 32 = .ok (.if_icmp .eq 24, 3) := by decide +kernel
theorem zd_167_35 : decode (zm_cc 167) 35 = .ok (.aload_n 0, 1) := by decide +kernel
theorem zd_167_36 : decode (zm_cc 167) 36 = .ok (.getfield 26, 3) := by decide +kernel
theorem zd_167_39 : decode (zm_cc 167) 39 = .ok (.iload_n 1, 1) := by decide +kernel
theorem zd_167_40 : decode (zm_cc 167) 40 = .ok (.invokevirtual 77, 3) := by decide +kernel
theorem zd_167_43 : decode (zm_cc 167) 43 = .ok (.aload_n 0, 1) := by decide +kernel
theorem zd_167_44 : decode (zm_cc 167) 44 = .ok (.getfield 29, 3) := by decide +kernel
theorem zd_167_47 : decode (zm_cc 167) 47 = .ok (.aload_n 0, 1) := by decide +kernel
theorem zd_167_48 : decode (zm_cc 167) 48 = .ok (.getfield 32, 3) := by decide +kernel
theorem zd_167_51 : decode (zm_cc 167) 51 = .ok (.iload_n 1, 1) := by decide +kernel
theorem zd_167_52 : decode (zm_cc 167) 52 = .ok (.iaload, 1) := by decide +kernel
theorem zd_167_53 : decode (zm_cc 167) 53 = .ok (.invokevirtual 77, 3) := by decide +kernel
theorem zd_167_56 : decode (zm_cc 167) 56 = .ok (.iinc 1 1, 3) := by decide +kernel
theorem zd_167_59 : decode (zm_cc 167) 59 = .ok (.goto (-43), 3) := by decide +kernel
theorem zd_167_62 : decode (zm_cc 167) 62 = .ok (.return_, 1) := by decide +kernel
theorem zd_168_0 : decode (zm_cc 168) 0 = .ok (.aload_n 0, 1) := by decide +kernel
theorem zd_168_1 : decode (zm_cc 168) 1 = .ok (.getfield 14, 3) := by decide +kernel
theorem zd_168_4 : decode (zm_cc 168) 4 = .ok (.invokevirtual 31, 3) := by decide +kernel
theorem zd_168_7 : decode (zm_cc 168) 7 = .ok (.aload_n 0, 1) := by decide +kernel
theorem zd_168_8 : decode (zm_cc 168) 8 = .ok (.getfield 20, 3) := by decide +kernel
theorem zd_168_11 : decode (zm_cc 168) 11 = .ok (.invokevirtual 31, 3) := by decide +kernel
theorem zd_168_14 : decode (zm_cc 168) 14 = .ok (.aload_n 0, 1) := by decide +kernel
theorem zd_168_15 : decode (zm_cc 168) 15 = .ok (.getfield 23, 3) := by decide +kernel
theorem zd_168_18 : decode (zm_cc 168) 18 = .ok (.iconst 0, 1) := by decide +kernel
theorem zd_168_19 : decode (zm_cc 168) 19 = .ok (.invokestatic 34, 3) := by decide +kernel
theorem zd_168_22 : decode (zm_cc 168) 22 = .ok (.iconst 0, 1) := by decide +kernel
theorem zd_168_23 : decode (zm_cc 168) 23 = .ok (.istore_n 2, 1) := by decide +kernel
theorem zd_168_24 : decode (zm_cc 168) 24 = .ok (.iload_n 2, 1) := by decide +kernel
theorem zd_168_25 : decode (zm_cc 168) 25 = .ok (.aload_n 1, 1) := by decide +kernel
theorem zd_168_26 : decode (zm_cc 168) 26 = .ok (.getfield 40, 3) := by decide +kernel
theorem zd_168_29 : decode (zm_cc 168) 29 = .ok (.if_icmp .ge 34, 3) := by decide +kernel
theorem zd_168_32 : decode (zm_cc 168) 32 = .ok (.aload_n 1, 1) := by decide +kernel
theorem zd_168_33 : decode (zm_cc 168) 33 = .ok (.iload_n 2, 1) := by decide +kernel
theorem zd_168_34 : decode (zm_cc 168) 34 = .ok (.invokevirtual 46, 3) := by decide +kernel
theorem zd_168_37 : decode (zm_cc 168) 37 = .ok (.ifCond .eq 20, 3) := by decide +kernel
theorem zd_168_40 : decode (zm_cc 168) 40 = .ok (.aload_n 1, 1) := by decide +kernel
theorem zd_168_41 : decode (zm_cc 168) 41 = .ok (.iload_n 2, 1) := by decide +kernel
theorem zd_168_42 : decode (zm_cc 168) 42 = .ok (.invokevirtual 50, 3) := by decide +kernel
theorem zd_168_45 : decode (zm_cc 168) 45 = .ok (.aload_n 0, 1) := by decide +kernel
theorem zd_168_46 : decode (zm_cc 168) 46 = .ok (.aload_n 0, 1) := by decide +kernel
theorem zd_168_47 : decode (zm_cc 168) 47 = .ok (.getfield 27, 3) := by decide +kernel
theorem zd_168_50 : decode (zm_cc 168) 50 = .ok (.invokevirtual 53, 3) := by decide +kernel
theorem zd_168_53 : decode (zm_cc 168) 53 = .ok (.iload_n 2, 1) := by decide +kernel
theorem zd_168_54 : decode (zm_cc 168) 54 = .ok (.invokevirtual 59, 3) := by decide +kernel
theorem zd_168_57 : decode (zm_cc 168) 57 = .ok (.iinc 2 1, 3) := by decide +kernel
theorem zd_168_60 : decode (zm_cc 168) 60 = .ok (.goto (-36), 3) := by decide +kernel
theorem zd_168_63 : decode (zm_cc 168) 63 = .ok (.return_, 1) := by decide +kernel
theorem zd_169_0 : decode (zm_cc 169) 0 = .ok (.aload_n 0, 1) := by decide +kernel
theorem zd_169_1 : decode (zm_cc 169) 1 = .ok (.invokevirtual 152, 3) := by decide +kernel
theorem zd_169_4 : decode (zm_cc 169) 4 = .ok (.ifCond .eq 7, 3) := by decide +kernel
theorem zd_169_7 : decode (zm_cc 169) 7 = .ok (.iconst 0, 1) := by decide +kernel
theorem zd_169_8 : decode (zm_cc 169) 8 = .ok (.goto 4, 3) := by decide +kernel
theorem zd_169_11 : decode (zm_cc 169) 11 = .ok (.iconst 1, 1) := by decide +kernel
theorem zd_169_12 : decode (zm_cc 169) 12 = .ok (.istore_n 1, 1) := by decide +kernel
theorem zd_169_13 : decode (zm_cc 169) 13 = .ok (.aload_n 0, 1) := by decide +kernel
theorem zd_169_14 : decode (zm_cc 169) 14 = .ok (.getfield 21, 3) := by decide +kernel
theorem zd_169_17 : decode (zm_cc 169) 17 = .ok (.iconst 0, 1) := by decide +kernel
theorem zd_169_18 : decode (zm_cc 169) 18 = .ok (.iaload, 1) := by decide +kernel
theorem zd_169_19 : decode (zm_cc 169) 19 = .ok (.aload_n 0, 1) := by decide +kernel
theorem zd_169_20 : decode (zm_cc 169) 20 = .ok (.invokevirtual 156, 3) := by decide +kernel
theorem zd_169_23 : decode (zm_cc 169) 23 = .ok (.bipush 18, 2) := by decide +kernel
theorem zd_169_25 : decode (zm_cc 169) 25 = .ok (.ishl, 1) := by decide +kernel
theorem zd_169_26 : decode (zm_cc 169) 26 = .ok (.ior, 1) := by decide +kernel
theorem zd_169_27 : decode (zm_cc 169) 27 = .ok (.iload_n 1, 1) := by decide +kernel
theorem zd_169_28 : decode (zm_cc 169) 28 = .ok (.bipush 22, 2) := by decide +kernel
theorem zd_169_30 : decode (zm_cc 169) 30 = .ok (.ishl, 1) := by decide +kernel
theorem zd_169_31 : decode (zm_cc 169) 31 = .ok (.ior, 1) := by decide +kernel
theorem zd_169_32 : decode (zm_cc 169) 32 = .ok (.ireturn, 1) := by decide +kernel
theorem zd_170_0 : decode (zm_cc 170) 0 = .ok (.aload_n 0, 1) := by decide +kernel
theorem zd_170_1 : decode (zm_cc 170) 1 = .ok (.iload_n 1, 1) := by decide +kernel
theorem zd_170_2 : decode (zm_cc 170) 2 = .ok (.invokevirtual 63, 3) := by decide +kernel
theorem zd_170_5 : decode (zm_cc 170) 5 = .ok (.istore_n 3, 1) := by decide +kernel
theorem zd_170_6 : decode (zm_cc 170) 6 = .ok (.aload_n 0, 1) := by decide +kernel
theorem zd_170_7 : decode (zm_cc 170) 7 = .ok (.getfield 23, 3) := by decide +kernel
theorem zd_170_10 : decode (zm_cc 170) 10 = .ok (.iload_n 3, 1) := by decide +kernel
theorem zd_170_11 : decode (zm_cc 170) 11 = .ok (.iaload, 1) := by decide +kernel
theorem zd_170_12 : decode (zm_cc 170) 12 = .ok (.ifCond .ne 32, 3) := by decide +kernel
theorem zd_170_15 : decode (zm_cc 170) 15 = .ok (.aload_n 0, 1) := by decide +kernel
theorem zd_170_16 : decode (zm_cc 170) 16 = .ok (.getfield 14, 3) := by decide +kernel
theorem zd_170_19 : decode (zm_cc 170) 19 = .ok (.iload_n 1, 1) := by decide +kernel
theorem zd_170_20 : decode (zm_cc 170) 20 = .ok (.invokevirtual 67, 3) := by decide +kernel
theorem zd_170_23 : decode (zm_cc 170) 23 = .ok (.aload_n 0, 1) := by decide +kernel
theorem zd_170_24 : decode (zm_cc 170) 24 = .ok (.getfield 20, 3) := by decide +kernel
theorem zd_170_27 : decode (zm_cc 170) 27 = .ok (.iload_n 2, 1) := by decide +kernel
theorem zd_170_28 : decode (zm_cc 170) 28 = .ok (.invokevirtual 67, 3) := by decide +kernel
theorem zd_170_31 : decode (zm_cc 170) 31 = .ok (.aload_n 0, 1) := by decide +kernel
theorem zd_170_32 : decode (zm_cc 170) 32 = .ok (.getfield 23, 3) := by decide +kernel
theorem zd_170_35 : decode (zm_cc 170) 35 = .ok (.iload_n 3, 1) := by decide +kernel
theorem zd_170_36 : decode (zm_cc 170) 36 = .ok (.aload_n 0, 1) := by decide +kernel
theorem zd_170_37 : decode (zm_cc 170) 37 = .ok (.getfield 14, 3) := by decide +kernel
theorem zd_170_40 : decode (zm_cc 170) 40 = .ok (.getfield 70, 3) := by decide +kernel
theorem zd_170_43 : decode (zm_cc 170) 43 = .ok (.iastore, 1) := by decide +kernel
theorem zd_170_44 : decode (zm_cc 170) 44 = .ok (.return_, 1) := by decide +kernel
theorem zd_171_0 : decode (zm_cc 171) 0 = .ok (.iload_n 1, 1) := by decide +kernel
theorem zd_171_1 : decode (zm_cc 171) 1 = .ok (.ldc 71, 2) := by decide +kernel
theorem zd_171_3 : decode (zm_cc 171) 3 = .ok (.imul, 1) := by decide +kernel
theorem zd_171_4 : decode (zm_cc 171) 4 = .ok (.istore_n 2, 1) := by decide +kernel
theorem zd_171_5 : decode (zm_cc 171) 5 = .ok (.iload_n 2, 1) := by decide +kernel
theorem zd_171_6 : decode (zm_cc 171) 6 = .ok (.iload_n 2, 1) := by decide +kernel
theorem zd_171_7 : decode (zm_cc 171) 7 = .ok (.bipush 15, 2) := by decide +kernel
theorem zd_171_9 : decode (zm_cc 171) 9 = .ok (.iushr, 1) := by decide +kernel
theorem zd_171_10 : decode (zm_cc 171) 10 = .ok (.ixor, 1) := by decide +kernel
theorem zd_171_11 : decode (zm_cc 171) 11 = .ok (.sipush 8191, 3) := by decide +kernel
theorem zd_171_14 : decode (zm_cc 171) 14 = .ok (.iand, 1) := by decide +kernel
theorem zd_171_15 : decode (zm_cc 171) 15 = .ok (.istore_n 3, 1) := by decide +kernel
theorem zd_171_16 : decode (zm_cc 171) 16 = .ok (.iconst 0, 1) := by decide +kernel
theorem zd_171_17 : decode (zm_cc 171) 17 = .ok (.istore 4, 2) := by decide +kernel
theorem zd_171_19 : decode (zm_cc 171) 19 = .ok (.iload 4, 2) := by decide +kernel
theorem zd_171_21 : decode (zm_cc 171) 21 = .ok (.sipush 8192, 3) := by decide +kernel
theorem zd_171_24 : decode (zm_cc 171) 24 = .ok (.if_icmp .ge 47, 3) := by decide +kernel
theorem zd_171_27 : decode (zm_cc 171) 27 = .ok (.aload_n 0, 1) := by decide +kernel
theorem zd_171_28 : decode (zm_cc 171) 28 = .ok (.getfield 23, 3) := by decide +kernel
theorem zd_171_31 : decode (zm_cc 171) 31 = .ok (.iload_n 3, 1) := by decide +kernel
theorem zd_171_32 : decode (zm_cc 171) 32 = .ok (.iaload, 1) := by decide +kernel
theorem zd_171_33 : decode (zm_cc 171) 33 = .ok (.ifCond .eq 38, 3) := by decide +kernel
theorem zd_171_36 : decode (zm_cc 171) 36 = .ok (.aload_n 0, 1) := by decide +kernel
theorem zd_171_37 : decode (zm_cc 171) 37 = .ok (.getfield 14, 3) := by decide +kernel
theorem zd_171_40 : decode (zm_cc 171) 40 = .ok (.aload_n 0, 1) := by decide +kernel
theorem zd_171_41 : decode (zm_cc 171) 41 = .ok (.getfield 23, 3) := by decide +kernel
theorem zd_171_44 : decode (zm_cc 171) 44 = .ok (.iload_n 3, 1) := by decide +kernel
theorem zd_171_45 : decode (zm_cc 171) 45 = .ok (.iaload, 1) := by decide +kernel
theorem zd_171_46 : decode (zm_cc 171) 46 = .ok (.iconst 1, 1) := by decide +kernel
theorem zd_171_47 : decode (zm_cc 171) 47 = .ok (.isub, 1) := by decide +kernel
theorem zd_171_48 : decode (zm_cc 171) 48 = .ok (.invokevirtual 72, 3) := by decide +kernel
theorem zd_171_51 : decode (zm_cc 171) 51 = .ok (.iload_n 1, 1) := by decide +kernel
theorem zd_171_52 : decode (zm_cc 171) 52 = .ok (.if_icmp .ne 5, 3) := by decide +kernel
theorem zd_171_55 : decode (zm_cc 171) 55 = .ok (.iload_n 3, 1) := by decide +kernel
theorem zd_171_56 : decode (zm_cc 171) 56 = .ok (.ireturn, 1) := by decide +kernel
theorem zd_171_57 : decode (zm_cc 171) 57 = .ok (.iload_n 3, 1) := by decide +kernel
theorem zd_171_58 : decode (zm_cc 171) 58 = .ok (.iconst 1, 1) := by decide +kernel
theorem zd_171_59 : decode (zm_cc 171) 59 = .ok (.iadd, 1) := by decide +kernel
theorem zd_171_60 : decode (zm_cc 171) 60 = .ok (.sipush 8191, 3) := by decide +kernel
theorem zd_171_63 : decode (zm_cc 171) 63 = .ok (.iand, 1) := by decide +kernel
theorem zd_171_64 : decode (zm_cc 171) 64 = .ok (.istore_n 3, 1) := by decide +kernel
theorem zd_171_65 : decode (zm_cc 171) 65 = .ok (.iinc 4 1, 3) := by decide +kernel
theorem zd_171_68 : decode (zm_cc 171) 68 = .ok (.goto (-49), 3) := by decide +kernel
theorem zd_171_71 : decode (zm_cc 171) 71 = .ok (.iload_n 3, 1) := by decide +kernel
theorem zd_171_72 : decode (zm_cc 171) 72 = .ok (.ireturn, 1) := by decide +kernel
theorem zd_172_0 : decode (zm_cc 172) 0 = .ok (.iload_n 1, 1) := by decide +kernel
theorem zd_172_1 : decode (zm_cc 172) 1 = .ok (.ifCond .lt 20, 3) := by decide +kernel
theorem zd_172_4 : decode (zm_cc 172) 4 = .ok (.iload_n 1, 1) := by decide +kernel
theorem zd_172_5 : decode (zm_cc 172) 5 = .ok (.aload_n 0, 1) := by decide +kernel
theorem zd_172_6 : decode (zm_cc 172) 6 = .ok (.getfield 21, 3) := by decide +kernel
theorem zd_172_9 : decode (zm_cc 172) 9 = .ok (.if_icmp .ge 12, 3) := by decide +kernel
theorem zd_172_12 : decode (zm_cc 172) 12 = .ok (.iload_n 1, 1) := by decide +kernel
theorem zd_172_13 : decode (zm_cc 172) 13 = .ok (.aload_n 0, 1) := by decide +kernel
theorem zd_172_14 : decode (zm_cc 172) 14 = .ok (.getfield 15, 3) := by decide +kernel
theorem zd_172_17 : decode (zm_cc 172) 17 = .ok (.arraylength, 1) := by decide +kernel
theorem zd_172_18 : decode (zm_cc 172) 18 = .ok (.if_icmp .lt 7, 3) := by decide +kernel
theorem zd_172_21 : decode (zm_cc 172) 21 = .ok (.iconst (-1), 1) := by decide +kernel
theorem zd_172_22 : decode (zm_cc 172) 22 = .ok (.goto 9, 3) := by decide +kernel
theorem zd_172_25 : decode (zm_cc 172) 25 = .ok (.aload_n 0, 1) := by decide +kernel
theorem zd_172_26 : decode (zm_cc 172) 26 = .ok (.getfield 15, 3) := by decide +kernel
theorem zd_172_29 : decode (zm_cc 172) 29 = .ok (.iload_n 1, 1) := by decide +kernel
theorem zd_172_30 : decode (zm_cc 172) 30 = .ok (.iaload, 1) := by decide +kernel
theorem zd_172_31 : decode (zm_cc 172) 31 = .ok (.ireturn, 1) := by decide +kernel
theorem zd_173_0 : decode (zm_cc 173) 0 = .ok (.aload_n 0, 1) := by decide +kernel
theorem zd_173_1 : decode (zm_cc 173) 1 = .ok (.iconst 0, 1) := by decide +kernel
theorem zd_173_2 : decode (zm_cc 173) 2 = .ok (.putfield 1, 3) := by decide +kernel
theorem zd_173_5 : decode (zm_cc 173) 5 = .ok (.aload_n 0, 1) := by decide +kernel
theorem zd_173_6 : decode (zm_cc 173) 6 = .ok (.getfield 335, 3) := by decide +kernel
theorem zd_173_9 : decode (zm_cc 173) 9 = .ok (.ifCond .ne 6, 3) := by decide +kernel
theorem zd_173_12 : decode (zm_cc 173) 12 = .ok (.bipush (-101), 2) := by decide +kernel
theorem zd_173_14 : decode (zm_cc 173) 14 = .ok (.ireturn, 1) := by decide +kernel
theorem zd_173_15 : decode (zm_cc 173) 15 = .ok (.aload_n 0, 1) := by decide +kernel
theorem zd_173_16 : decode (zm_cc 173) 16 = .ok (.iconst 0, 1) := by decide +kernel
theorem zd_173_17 : decode (zm_cc 173) 17 = .ok (.putfield 322, 3) := by decide +kernel
theorem zd_173_20 : decode (zm_cc 173) 20 = .ok (.aload_n 0, 1) := by decide +kernel
theorem zd_173_21 : decode (zm_cc 173) 21 = .ok (.iconst (-1), 1) := by decide +kernel
theorem zd_173_22 : decode (zm_cc 173) 22 = .ok (.putfield 119, 3) := by decide +kernel
theorem zd_173_25 : decode (zm_cc 173) 25 = .ok (.aload_n 0, 1) := by decide +kernel
theorem zd_173_26 : decode (zm_cc 173) 26 = .ok (.iconst 0, 1) := by decide +kernel
theorem zd_173_27 : decode (zm_cc 173) 27 = .ok (.invokevirtual 389, 3) := by decide +kernel
theorem zd_173_30 : decode (zm_cc 173) 30 = .ok (.aload_n 0, 1) := by decide +kernel
theorem zd_173_31 : decode (zm_cc 173) 31 = .ok (.iconst 0, 1) := by decide +kernel
theorem zd_173_32 : decode (zm_cc 173) 32 = .ok (.putfield 392, 3) := by decide +kernel
theorem zd_173_35 : decode (zm_cc 173) 35 = .ok (.iconst 0, 1) := by decide +kernel
theorem zd_173_36 : decode (zm_cc 173) 36 = .ok (.istore_n 1, 1) := by decide +kernel
theorem zd_173_37 : decode (zm_cc 173) 37 = .ok (.iload_n 1, 1) := by decide +kernel
theorem zd_173_38 : decode (zm_cc 173) 38 = .ok (.sipush 9216, 3) := by decide +kernel
theorem zd_173_41 : decode (zm_cc 173) 41 = .ok (.if_icmp .ge 16, 3) := by decide +kernel
theorem zd_173_44 : decode (zm_cc 173) 44 = .ok (.aload_n 0, 1) := by decide +kernel
theorem zd_173_45 : decode (zm_cc 173) 45 = .ok (.getfield 110, 3) := by decide +kernel
theorem zd_173_48 : decode (zm_cc 173) 48 = .ok (.iload_n 1, 1) := by decide +kernel
theorem zd_173_49 : decode (zm_cc 173) 49 = .ok (.iconst 0, 1) := by decide +kernel
theorem zd_173_50 : decode (zm_cc 173) 50 = .ok (.iastore, 1) := by decide +kernel
theorem zd_173_51 : decode (zm_cc 173) 51 = .ok (.iinc 1 1, 3) := by decide +kernel
theorem zd_173_54 : decode (zm_cc 173) 54 = .ok (.goto (-17), 3) := by decide +kernel
theorem zd_173_57 : decode (zm_cc 173) 57 = .ok (.aload_n 0, 1) := by decide +kernel
theorem zd_173_58 : decode (zm_cc 173) 58 = .ok (.invokevirtual 395, 3) := by decide +kernel
theorem zd_173_61 : decode (zm_cc 173) 61 = .ok (.aload_n 0, 1) := by decide +kernel
theorem zd_173_62 : decode (zm_cc 173) 62 = .ok (.invokevirtual 398, 3) := by decide +kernel
theorem zd_173_65 : decode (zm_cc 173) 65 = .ok (.istore_n 1, 1) := by decide +kernel
theorem zd_173_66 : decode (zm_cc 173) 66 = .ok (.iconst 0, 1) := by decide +kernel
theorem zd_173_67 : decode (zm_cc 173) 67 = .ok (.istore_n 2, 1) := by decide +kernel
theorem zd_173_68 : decode (zm_cc 173) 68 = .ok (.iload_n 2, 1) := by decide +kernel
theorem zd_173_69 : decode (zm_cc 173) 69 = .ok (.aload_n 0, 1) := by decide +kernel
theorem zd_173_70 : decode (zm_cc 173) 70 = .ok (.getfield 377, 3) := by decide +kernel
theorem zd_173_73 : decode (zm_cc 173) 73 = .ok (.if_icmp .ge 208, 3) := by decide +kernel
theorem zd_173_76 : decode (zm_cc 173) 76 = .ok (.aload_n 0, 1) := by decide +kernel
theorem zd_173_77 : decode (zm_cc 173) 77 = .ok (.iload_n 2, 1) := by decide +kernel
theorem zd_173_78 : decode (zm_cc 173) 78 = .ok (.invokevirtual 401, 3) := by decide +kernel
theorem zd_173_81 : decode (zm_cc 173) 81 = .ok (.aload_n 0, 1) := by decide +kernel
theorem zd_173_82 : decode (zm_cc 173) 82 = .ok (.iload_n 2, 1) := by decide +kernel
theorem zd_173_83 : decode (zm_cc 173) 83 = .ok (.invokevirtual 404, 3) := by decide +kernel
theorem zd_173_86 : decode (zm_cc 173) 86 = .ok (.iconst 1, 1) := by decide +kernel
theorem zd_173_87 : decode (zm_cc 173) 87 = .ok (.istore_n 3, 1) := by decide +kernel
theorem zd_173_88 : decode (zm_cc 173) 88 = .ok (.iconst 0, 1) := by decide +kernel
theorem zd_173_89 : decode (zm_cc 173) 89 = .ok (.istore 4, 2) := by decide +kernel
theorem zd_173_91 : decode (zm_cc 173) 91 = .ok (.iload 4, 2) := by decide +kernel
theorem zd_173_93 : decode (zm_cc 173) 93 = .ok (.aload_n 0, 1) := by decide +kernel
theorem zd_173_94 : decode (zm_cc 173) 94 = .ok (.getfield 225, 3) := by decide +kernel
theorem zd_173_97 : decode (zm_cc 173) 97 = .ok (.if_icmp .ge 78, 3) := by decide +kernel
theorem zd_173_100 : decode (zm_cc 173) 100 = .ok (.aload_n 0, 1) := by decide +kernel
theorem zd_173_101 : decode (zm_cc 173) 101 = .ok (.iload_n 2, 1) := by decide +kernel
theorem zd_173_102 : decode (zm_cc 173) 102 = .ok (.invokevirtual 401, 3) := by decide +kernel
theorem zd_173_105 : decode (zm_cc 173) 105 = .ok (.aload_n 0, 1) := by decide +kernel
theorem zd_173_106 : decode (zm_cc 173) 106 = .ok (.iload 4, 2) := by decide +kernel
theorem zd_173_108 : decode (zm_cc 173) 108 = .ok (.invokevirtual 407, 3) := by decide +kernel
theorem zd_173_111 : decode (zm_cc 173) 111 = .ok (.ifCond .eq 58, 3) := by decide +kernel
theorem zd_173_114 : decode (zm_cc 173) 114 = .ok (.iconst 0, 1) := by decide +kernel
theorem zd_173_115 : decode (zm_cc 173) 115 = .ok (.istore_n 3, 1) := by decide +kernel
theorem zd_173_116 : decode (zm_cc 173) 116 = .ok (.aload_n 0, 1) := by decide +kernel
theorem zd_173_117 : decode (zm_cc 173) 117 = .ok (.iload 4, 2) := by decide +kernel
theorem zd_173_119 : decode (zm_cc 173) 119 = .ok (.invokevirtual 410, 3) := by decide +kernel
theorem zd_173_122 : decode (zm_cc 173) 122 = .ok (.aload_n 0, 1) := by decide +kernel
theorem zd_173_123 : decode (zm_cc 173) 123 = .ok (.getfield 377, 3) := by decide +kernel
theorem zd_173_126 : decode (zm_cc 173) 126 = .ok (.istore 5, 2) := by decide +kernel
theorem zd_173_128 : decode (zm_cc 173) 128 = .ok (.aload_n 0, 1) := by decide +kernel
theorem zd_173_129 : decode (zm_cc 173) 129 = .ok (.invokevirtual 398, 3) := by decide +kernel
theorem zd_173_132 : decode (zm_cc 173) 132 = .ok (.istore 6, 2) := by decide +kernel
theorem zd_173_134 : decode (zm_cc 173) 134 = .ok (.iload 6, 2) := by decide +kernel
theorem zd_173_136 : decode (zm_cc 173) 136 = .ok (.iconst (-1), 1) := by decide +kernel
theorem zd_173_137 : decode (zm_cc 173) 137 = .ok (.if_icmp .ne 6, 3) := by decide +kernel
theorem zd_173_140 : decode (zm_cc 173) 140 = .ok (.bipush (-103), 2) := by decide +kernel
theorem zd_173_142 : decode (zm_cc 173) 142 = .ok (.ireturn, 1) := by decide +kernel
theorem zd_173_143 : decode (zm_cc 173) 143 = .ok (.aload_n 0, 1) := by decide +kernel
theorem zd_173_144 : decode (zm_cc 173) 144 = .ok (.getfield 377, 3) := by decide +kernel
theorem zd_173_147 : decode (zm_cc 173) 147 = .ok (.iload 5, 2) := by decide +kernel
theorem zd_173_149 : decode (zm_cc 173) 149 = .ok (.if_icmp .le 20, 3) := by decide +kernel
theorem zd_173_152 : decode (zm_cc 173) 152 = .ok (.aload_n 0, 1) := by decide +kernel
theorem zd_173_153 : decode (zm_cc 173) 153 = .ok (.getfield 101, 3) := by decide +kernel
theorem zd_173_156 : decode (zm_cc 173) 156 = .ok (.iload 6, 2) := by decide +kernel
theorem zd_173_158 : decode (zm_cc 173) 158 = .ok (.iload_n 2, 1) := by decide +kernel
theorem zd_173_159 : decode (zm_cc 173) 159 = .ok (.iastore, 1) := by decide +kernel
theorem zd_173_160 : decode (zm_cc 173) 160 = .ok (.aload_n 0, 1) := by decide +kernel
theorem zd_173_161 : decode (zm_cc 173) 161 = .ok (.getfield 104, 3) := by decide +kernel
theorem zd_173_164 : decode (zm_cc 173) 164 = .ok (.iload 6, 2) := by decide +kernel
theorem zd_173_166 : decode (zm_cc 173) 166 = .ok (.iload 4, 2) := by decide +kernel
theorem zd_173_168 : decode (zm_cc 173) 168 = .ok (.iastore, 1) := by decide +kernel
theorem zd_173_169 : decode (zm_cc 173) 169 = .ok (.iinc 4 1, 3) := by decide +kernel
theorem zd_173_172 : decode (zm_cc 173) 172 = .ok (.goto (-81), 3) := by decide +kernel
theorem zd_173_175 : decode (zm_cc 173) 175 = .ok (.aload_n 0, 1) := by decide +kernel
theorem zd_173_176 : decode (zm_cc 173) 176 = .ok (.iload_n 2, 1) := by decide +kernel
theorem zd_173_177 : decode (zm_cc 173) 177 = .ok (.invokevirtual 401, 3) := by decide +kernel
theorem zd_173_180 : decode (zm_cc 173) 180 = .ok (.aload_n 0, 1) := by decide +kernel
theorem zd_173_181 : decode (zm_cc 173) 181 = .ok (.getfield 107, 3) := by decide +kernel
theorem zd_173_184 : decode (zm_cc 173) 184 = .ok (.iload_n 2, 1) := by decide +kernel
theorem zd_173_185 : decode (zm_cc 173) 185 = .ok (.iload_n 3, 1) := by decide +kernel
theorem zd_173_186 : decode (zm_cc 173) 186 = .ok (.ifCond .eq 10, 3) := by decide +kernel
theorem zd_173_189 : decode (zm_cc 173) 189 = .ok (.aload_n 0, 1) := by decide +kernel
theorem zd_173_190 : decode (zm_cc 173) 190 = .ok (.invokevirtual 413, 3) := by decide +kernel
theorem zd_173_193 : decode (zm_cc 173) 193 = .ok (.goto 4, 3) := by decide +kernel
theorem zd_173_196 : decode (zm_cc 173) 196 = .ok (.iconst 0, 1) := by decide +kernel
theorem zd_173_197 : decode (zm_cc 173) 197 = .ok (.iastore, 1) := by decide +kernel
theorem zd_173_198 : decode (zm_cc 173) 198 = .ok (.iload_n 3, 1) := by decide +kernel
theorem zd_173_199 : decode (zm_cc 173) 199 = .ok (.ifCond .eq 76, 3) := by decide +kernel
theorem zd_173_202 : decode (zm_cc 173) 202 = .ok (.iconst 1, 1) := by decide +kernel
theorem zd_173_203 : decode (zm_cc 173) 203 = .ok (.istore 4, 2) := by decide +kernel
theorem zd_173_205 : decode (zm_cc 173) 205 = .ok (.iconst 0, 1) := by decide +kernel
theorem zd_173_206 : decode (zm_cc 173) 206 = .ok (.istore 5, 2) := by decide +kernel
theorem zd_173_208 : decode (zm_cc 173) 208 = .ok (.iload 5, 2) := by decide +kernel
theorem zd_173_210 : decode (zm_cc 173) 210 = .ok (.aload_n 0, 1) := by decide +kernel
theorem zd_173_211 : decode (zm_cc 173) 211 = .ok (.getfield 392, 3) := by decide +kernel
theorem zd_173_214 : decode (zm_cc 173) 214 = .ok (.if_icmp .ge 36, 3) := by decide +kernel
theorem zd_173_217 : decode (zm_cc 173) 217 = .ok (.iload 4, 2) := by decide +kernel
theorem zd_173_219 : decode (zm_cc 173) 219 = .ok (.ifCond .eq 31, 3) := by decide +kernel
theorem zd_173_222 : decode (zm_cc 173) 222 = .ok (.aload_n 0, 1) := by decide +kernel
theorem zd_173_223 : decode (zm_cc 173) 223 = .ok (.aload_n 0, 1) := by decide +kernel
theorem zd_173_224 : decode (zm_cc 173) 224 = .ok (.getfield 113, 3) := by decide +kernel
theorem zd_173_227 : decode (zm_cc 173) 227 = .ok (.iload 5, 2) := by decide +kernel
theorem zd_173_229 : decode (zm_cc 173) 229 = .ok (.iaload, 1) := by decide +kernel
theorem zd_173_230 : decode (zm_cc 173) 230 = .ok (.iload_n 2, 1) := by decide +kernel
theorem zd_173_231 : decode (zm_cc 173) 231 = .ok (.invokevirtual 416, 3) := by decide +kernel
theorem zd_173_234 : decode (zm_cc 173) 234 = .ok (.ifCond .ne 7, 3) := by decide +kernel
theorem zd_173_237 : decode (zm_cc 173) 237 = .ok (.iconst 1, 1) := by decide +kernel
theorem zd_173_238 : decode (zm_cc 173) 238 = .ok (.goto 4, 3) := by decide +kernel
theorem zd_173_241 : decode (zm_cc 173) 241 = .ok (.iconst 0, 1) := by decide +kernel
theorem zd_173_242 : decode (zm_cc 173) 242 = .ok (.istore 4, 2) := by decide +kernel
theorem zd_173_244 : decode (zm_cc 173) 244 = .ok (.iinc 5 1, 3) := by decide +kernel
theorem zd_173_247 : decode (zm_cc 173) 247 = .ok (.goto (-39), 3) := by decide +kernel
theorem zd_173_250 : decode (zm_cc 173) 250 = .ok (.iload 4, 2) := by decide +kernel
theorem zd_173_252 : decode (zm_cc 173) 252 = .ok (.ifCond .eq 23, 3) := by decide +kernel
theorem zd_173_255 : decode (zm_cc 173) 255 = .ok (.aload_n 0, 1) := by decide +kernel
theorem zd_173_256 : decode (zm_cc 173) 256 = .ok (.getfield 113, 3) := by decide +kernel
theorem zd_173_259 : decode (zm_cc 173) 259 = .ok (.aload_n 0, 1) := by decide +kernel
theorem zd_173_260 : decode (zm_cc 173) 260 = .ok (.getfield 392, 3) := by decide +kernel
theorem zd_173_263 : decode (zm_cc 173) 263 = .ok (.iload_n 2, 1) := by decide +kernel
theorem zd_173_264 : decode (zm_cc 173) 264 = .ok (.iastore, 1) := by decide +kernel
theorem zd_173_265 : decode (zm_cc 173) 265 = .ok (.aload_n 0, 1) := by decide +kernel
theorem zd_173_266 : decode (zm_cc 173) 266 = .ok (.dup, 1) := by decide +kernel
theorem zd_173_267 : decode (zm_cc 173) 267 = .ok (.getfield 392, 3) := by decide +kernel
theorem zd_173_270 : decode (zm_cc 173) 270 = .ok (.iconst 1, 1) := by decide +kernel
theorem zd_173_271 : decode (zm_cc 173) 271 = .ok (.iadd, 1) := by decide +kernel
theorem zd_173_272 : decode (zm_cc 173) 272 = .ok (.putfield 392, 3) := by decide +kernel
theorem zd_173_275 : decode (zm_cc 173) 275 = .ok (.iinc 2 1, 3) := by decide +kernel
theorem zd_173_278 : decode (zm_cc 173) 278 = .ok (.goto (-210), 3) := by decide +kernel
theorem zd_173_281 : decode (zm_cc 173) 281 = .ok (.aload_n 0, 1) := by decide +kernel
theorem zd_173_282 : decode (zm_cc 173) 282 = .ok (.aload_n 0, 1) := by decide +kernel
theorem zd_173_283 : decode (zm_cc 173) 283 = .ok (.getfield 377, 3) := by decide +kernel
theorem zd_173_286 : decode (zm_cc 173) 286 = .ok (.putfield 419, 3) := by decide +kernel
theorem zd_173_289 : decode (zm_cc 173) 289 = .ok (.aload_n 0, 1) := by decide +kernel
theorem zd_173_290 : decode (zm_cc 173) 290 = .ok (.iconst 1, 1) := by decide +kernel
theorem zd_173_291 : decode (zm_cc 173) 291 = .ok (.putfield 322, 3) := by decide +kernel
theorem zd_173_294 : decode (zm_cc 173) 294 = .ok (.aload_n 0, 1) := by decide +kernel
theorem zd_173_295 : decode (zm_cc 173) 295 = .ok (.getfield 419, 3) := by decide +kernel
theorem zd_173_298 : decode (zm_cc 173) 298 = .ok (.ireturn, 1) := by decide +kernel
theorem zd_174_0 : decode (zm_cc 174) 0 = .ok (.iconst 0, 1) := by decide +kernel
theorem zd_174_1 : decode (zm_cc 174) 1 = .ok (.istore_n 2, 1) := by decide +kernel
theorem zd_174_2 : decode (zm_cc 174) 2 = .ok (.iload_n 2, 1) := by decide +kernel
theorem zd_174_3 : decode (zm_cc 174) 3 = .ok (.sipush 8192, 3) := by decide +kernel
theorem zd_174_6 : decode (zm_cc 174) 6 = .ok (.if_icmp .ge 16, 3) := by decide +kernel
theorem zd_174_9 : decode (zm_cc 174) 9 = .ok (.aload_n 0, 1) := by decide +kernel
theorem zd_174_10 : decode (zm_cc 174) 10 = .ok (.getfield 95, 3) := by decide +kernel
theorem zd_174_13 : decode (zm_cc 174) 13 = .ok (.iload_n 2, 1) := by decide +kernel
theorem zd_174_14 : decode (zm_cc 174) 14 = .ok (.iconst (-1), 1) := by decide +kernel
theorem zd_174_15 : decode (zm_cc 174) 15 = .ok (.iastore, 1) := by decide +kernel
theorem zd_174_16 : decode (zm_cc 174) 16 = .ok (.iinc 2 1, 3) := by decide +kernel
theorem zd_174_19 : decode (zm_cc 174) 19 = .ok (.goto (-17), 3) := by decide +kernel
theorem zd_174_22 : decode (zm_cc 174) 22 = .ok (.aload_n 0, 1) := by decide +kernel
theorem zd_174_23 : decode (zm_cc 174) 23 = .ok (.iload_n 1, 1) := by decide +kernel
theorem zd_174_24 : decode (zm_cc 174) 24 = .ok (.putfield 380, 3) := by decide +kernel
theorem zd_174_27 : decode (zm_cc 174) 27 = .ok (.aload_n 0, 1) := by decide +kernel
theorem zd_174_28 : decode (zm_cc 174) 28 = .ok (.iconst 0, 1) := by decide +kernel
theorem zd_174_29 : decode (zm_cc 174) 29 = .ok (.putfield 377, 3) := by decide +kernel
theorem zd_174_32 : decode (zm_cc 174) 32 = .ok (.return_, 1) := by decide +kernel
theorem zd_175_0 : decode (zm_cc 175) 0 = .ok (.iconst 0, 1) := by decide +kernel
theorem zd_175_1 : decode (zm_cc 175) 1 = .ok (.istore_n 1, 1) := by decide +kernel
theorem zd_175_2 : decode (zm_cc 175) 2 = .ok (.iload_n 1, 1) := by decide +kernel
theorem zd_175_3 : decode (zm_cc 175) 3 = .ok (.bipush 40, 2) := by decide +kernel
theorem zd_175_5 : decode (zm_cc 175) 5 = .ok (.if_icmp .ge 16, 3) := by decide +kernel
theorem zd_175_8 : decode (zm_cc 175) 8 = .ok (.aload_n 0, 1) := by decide +kernel
theorem zd_175_9 : decode (zm_cc 175) 9 = .ok (.getfield 88, 3) := by decide +kernel
theorem zd_175_12 : decode (zm_cc 175) 12 = .ok (.iload_n 1, 1) := by decide +kernel
theorem zd_175_13 : decode (zm_cc 175) 13 = .ok (.iconst 0, 1) := by decide +kernel
theorem zd_175_14 : decode (zm_cc 175) 14 = .ok (.iastore, 1) := by decide +kernel
theorem zd_175_15 : decode (zm_cc 175) 15 = .ok (.iinc 1 1, 3) := by decide +kernel
theorem zd_175_18 : decode (zm_cc 175) 18 = .ok (.goto (-16), 3) := by decide +kernel
theorem zd_175_21 : decode (zm_cc 175) 21 = .ok (.iconst 0, 1) := by decide +kernel
theorem zd_175_22 : decode (zm_cc 175) 22 = .ok (.istore_n 1, 1) := by decide +kernel
theorem zd_175_23 : decode (zm_cc 175) 23 = .ok (.iload_n 1, 1) := by decide +kernel
theorem zd_175_24 : decode (zm_cc 175) 24 = .ok (.aload_n 0, 1) := by decide +kernel
theorem zd_175_25 : decode (zm_cc 175) 25 = .ok (.getfield 215, 3) := by decide +kernel
theorem zd_175_28 : decode (zm_cc 175) 28 = .ok (.if_icmp .ge 21, 3) := by decide +kernel
theorem zd_175_31 : decode (zm_cc 175) 31 = .ok (.aload_n 0, 1) := by decide +kernel
theorem zd_175_32 : decode (zm_cc 175) 32 = .ok (.getfield 88, 3) := by decide +kernel
theorem zd_175_35 : decode (zm_cc 175) 35 = .ok (.iload_n 1, 1) := by decide +kernel
theorem zd_175_36 : decode (zm_cc 175) 36 = .ok (.aload_n 0, 1) := by decide +kernel
theorem zd_175_37 : decode (zm_cc 175) 37 = .ok (.getfield 34, 3) := by decide +kernel
theorem zd_175_40 : decode (zm_cc 175) 40 = .ok (.iload_n 1, 1) := by decide +kernel
theorem zd_175_41 : decode (zm_cc 175) 41 = .ok (.iaload, 1) := by decide +kernel
theorem zd_175_42 : decode (zm_cc 175) 42 = .ok (.iastore, 1) := by decide +kernel
theorem zd_175_43 : decode (zm_cc 175) 43 = .ok (.iinc 1 1, 3) := by decide +kernel
theorem zd_175_46 : decode (zm_cc 175) 46 = .ok (.goto (-23), 3) := by decide +kernel
theorem zd_175_49 : decode (zm_cc 175) 49 = .ok (.iconst 0, 1) := by decide +kernel
theorem zd_175_50 : decode (zm_cc 175) 50 = .ok (.istore_n 1, 1) := by decide +kernel
theorem zd_175_51 : decode (zm_cc 175) 51 = .ok (.iload_n 1, 1) := by decide +kernel
theorem zd_175_52 : decode (zm_cc 175) 52 = .ok (.aload_n 0, 1) := by decide +kernel
theorem zd_175_53 : decode (zm_cc 175) 53 = .ok (.getfield 225, 3) := by decide +kernel
theorem zd_175_56 : decode (zm_cc 175) 56 = .ok (.if_icmp .ge 86, 3) := by decide +kernel
theorem zd_175_59 : decode (zm_cc 175) 59 = .ok (.iconst 0, 1) := by decide +kernel
theorem zd_175_60 : decode (zm_cc 175) 60 = .ok (.istore_n 2, 1) := by decide +kernel
theorem zd_175_61 : decode (zm_cc 175) 61 = .ok (.iconst 0, 1) := by decide +kernel
theorem zd_175_62 : decode (zm_cc 175) 62 = .ok (.istore_n 3, 1) := by decide +kernel
theorem zd_175_63 : decode (zm_cc 175) 63 = .ok (.iload_n 3, 1) := by decide +kernel
theorem zd_175_64 : decode (zm_cc 175) 64 = .ok (.bipush 24, 2) := by decide +kernel
theorem zd_175_66 : decode (zm_cc 175) 66 = .ok (.aload_n 0, 1) := by decide +kernel
theorem zd_175_67 : decode (zm_cc 175) 67 = .ok (.getfield 225, 3) := by decide +kernel
theorem zd_175_70 : decode (zm_cc 175) 70 = .ok (.imul, 1) := by decide +kernel
theorem zd_175_71 : decode (zm_cc 175) 71 = .ok (.if_icmp .ge 56, 3) := by decide +kernel
theorem zd_175_74 : decode (zm_cc 175) 74 = .ok (.iload_n 2, 1) := by decide +kernel
theorem zd_175_75 : decode (zm_cc 175) 75 = .ok (.ifCond .ne 40, 3) := by decide +kernel
theorem zd_175_78 : decode (zm_cc 175) 78 = .ok (.iload_n 3, 1) := by decide +kernel
theorem zd_175_79 : decode (zm_cc 175) 79 = .ok (.bipush 24, 2) := by decide +kernel
theorem zd_175_81 : decode (zm_cc 175) 81 = .ok (.irem, 1) := by decide +kernel
theorem zd_175_82 : decode (zm_cc 175) 82 = .ok (.aload_n 0, 1) := by decide +kernel
theorem zd_175_83 : decode (zm_cc 175) 83 = .ok (.getfield 37, 3) := by decide +kernel
theorem zd_175_86 : decode (zm_cc 175) 86 = .ok (.iload_n 3, 1) := by decide +kernel
theorem zd_175_87 : decode (zm_cc 175) 87 = .ok (.bipush 24, 2) := by decide +kernel
theorem zd_175_89 : decode (zm_cc 175) 89 = .ok (.idiv, 1) := by decide +kernel
theorem zd_175_90 : decode (zm_cc 175) 90 = .ok (.iaload, 1) := by decide +kernel
theorem zd_175_91 : decode (zm_cc 175) 91 = .ok (.if_icmp .ge 28, 3) := by decide +kernel
theorem zd_175_94 : decode (zm_cc 175) 94 = .ok (.aload_n 0, 1) := by decide +kernel
theorem zd_175_95 : decode (zm_cc 175) 95 = .ok (.getfield 43, 3) := by decide +kernel
theorem zd_175_98 : decode (zm_cc 175) 98 = .ok (.iload_n 3, 1) := by decide +kernel
theorem zd_175_99 : decode (zm_cc 175) 99 = .ok (.iaload, 1) := by decide +kernel
theorem zd_175_100 : decode (zm_cc 175) 100 = .ok (.bipush 10, 2) := by decide +kernel
theorem zd_175_102 : decode (zm_cc 175) 102 = .ok (.if_icmp .ne 17, 3) := by decide +kernel
theorem zd_175_105 : decode (zm_cc 175) 105 = .ok (.aload_n 0, 1) := by decide +kernel
theorem zd_175_106 : decode (zm_cc 175) 106 = .ok (.getfield 46, 3) := by decide +kernel
theorem zd_175_109 : decode (zm_cc 175) 109 = .ok (.iload_n 3, 1) := by decide +kernel
theorem zd_175_110 : decode (zm_cc 175) 110 = .ok (.iaload, 1) := by decide +kernel
theorem zd_175_111 : decode (zm_cc 175) 111 = .ok (.iload_n 1, 1) := by decide +kernel
theorem zd_175_112 : decode (zm_cc 175) 112 = .ok (.if_icmp .ne 7, 3) := by decide +kernel
theorem zd_175_115 : decode (zm_cc 175) 115 = .ok (.iconst 1, 1) := by decide +kernel
theorem zd_175_116 : decode (zm_cc 175) 116 = .ok (.goto 4, 3) := by decide +kernel
theorem zd_175_119 : decode (zm_cc 175) 119 = .ok (.iconst 0, 1) := by decide +kernel
theorem zd_175_120 : decode (zm_cc 175) 120 = .ok (.istore_n 2, 1) := by decide +kernel
theorem zd_175_121 : decode (zm_cc 175) 121 = .ok (.iinc 3 1, 3) := by decide +kernel
theorem zd_175_124 : decode (zm_cc 175) 124 = .ok (.goto (-61), 3) := by decide +kernel
theorem zd_175_127 : decode (zm_cc 175) 127 = .ok (.iload_n 2, 1) := by decide +kernel
theorem zd_175_128 : decode (zm_cc 175) 128 = .ok (.ifCond .ne 8, 3) := by decide +kernel
theorem zd_175_131 : decode (zm_cc 175) 131 = .ok (.aload_n 0, 1) := by decide +kernel
theorem zd_175_132 : decode (zm_cc 175) 132 = .ok (.iload_n 1, 1) := by decide +kernel
theorem zd_175_133 : decode (zm_cc 175) 133 = .ok (.invokevirtual 373, 3) := by decide +kernel
theorem zd_175_136 : decode (zm_cc 175) 136 = .ok (.iinc 1 1, 3) := by decide +kernel
theorem zd_175_139 : decode (zm_cc 175) 139 = .ok (.goto (-88), 3) := by decide +kernel
theorem zd_175_142 : decode (zm_cc 175) 142 = .ok (.return_, 1) := by decide +kernel
theorem zd_176_0 : decode (zm_cc 176) 0 = .ok (.aload_n 0, 1) := by decide +kernel
theorem zd_176_1 : decode (zm_cc 176) 1 = .ok (.getfield 88, 3) := by decide +kernel
theorem zd_176_4 : decode (zm_cc 176) 4 = .ok (.aload_n 0, 1) := by decide +kernel
theorem zd_176_5 : decode (zm_cc 176) 5 = .ok (.iload_n 1, 1) := by decide +kernel
theorem zd_176_6 : decode (zm_cc 176) 6 = .ok (.invokevirtual 348, 3) := by decide +kernel
theorem zd_176_9 : decode (zm_cc 176) 9 = .ok (.iconst 1, 1) := by decide +kernel
theorem zd_176_10 : decode (zm_cc 176) 10 = .ok (.iadd, 1) := by decide +kernel
theorem zd_176_11 : decode (zm_cc 176) 11 = .ok (.iconst 1, 1) := by decide +kernel
theorem zd_176_12 : decode (zm_cc 176) 12 = .ok (.iastore, 1) := by decide +kernel
theorem zd_176_13 : decode (zm_cc 176) 13 = .ok (.aload_n 0, 1) := by decide +kernel
theorem zd_176_14 : decode (zm_cc 176) 14 = .ok (.iload_n 1, 1) := by decide +kernel
theorem zd_176_15 : decode (zm_cc 176) 15 = .ok (.iconst 0, 1) := by decide +kernel
theorem zd_176_16 : decode (zm_cc 176) 16 = .ok (.invokevirtual 360, 3) := by decide +kernel
theorem zd_176_19 : decode (zm_cc 176) 19 = .ok (.return_, 1) := by decide +kernel
theorem zd_177_0 : decode (zm_cc 177) 0 = .ok (.bipush 14, 2) := by decide +kernel
theorem zd_177_2 : decode (zm_cc 177) 2 = .ok (.bipush 6, 2) := by decide +kernel
theorem zd_177_4 : decode (zm_cc 177) 4 = .ok (.iload_n 1, 1) := by decide +kernel
theorem zd_177_5 : decode (zm_cc 177) 5 = .ok (.imul, 1) := by decide +kernel
theorem zd_177_6 : decode (zm_cc 177) 6 = .ok (.iadd, 1) := by decide +kernel
theorem zd_177_7 : decode (zm_cc 177) 7 = .ok (.ireturn, 1) := by decide +kernel
theorem zd_178_0 : decode (zm_cc 178) 0 = .ok (.aload_n 0, 1) := by decide +kernel
theorem zd_178_1 : decode (zm_cc 178) 1 = .ok (.getfield 88, 3) := by decide +kernel
theorem zd_178_4 : decode (zm_cc 178) 4 = .ok (.aload_n 0, 1) := by decide +kernel
theorem zd_178_5 : decode (zm_cc 178) 5 = .ok (.iload_n 1, 1) := by decide +kernel
theorem zd_178_6 : decode (zm_cc 178) 6 = .ok (.invokevirtual 348, 3) := by decide +kernel
theorem zd_178_9 : decode (zm_cc 178) 9 = .ok (.iload_n 2, 1) := by decide +kernel
theorem zd_178_10 : decode (zm_cc 178) 10 = .ok (.iastore, 1) := by decide +kernel
theorem zd_178_11 : decode (zm_cc 178) 11 = .ok (.iload_n 2, 1) := by decide +kernel
theorem zd_178_12 : decode (zm_cc 178) 12 = .ok (.aload_n 0, 1) := by decide +kernel
theorem zd_178_13 : decode (zm_cc 178) 13 = .ok (.getfield 37, 3) := by decide +kernel
theorem zd_178_16 : decode (zm_cc 178) 16 = .ok (.iload_n 1, 1) := by decide +kernel
theorem zd_178_17 : decode (zm_cc 178) 17 = .ok (.iaload, 1) := by decide +kernel
theorem zd_178_18 : decode (zm_cc 178) 18 = .ok (.if_icmp .ne 21, 3) := by decide +kernel
theorem zd_178_21 : decode (zm_cc 178) 21 = .ok (.aload_n 0, 1) := by decide +kernel
theorem zd_178_22 : decode (zm_cc 178) 22 = .ok (.getfield 88, 3) := by decide +kernel
theorem zd_178_25 : decode (zm_cc 178) 25 = .ok (.aload_n 0, 1) := by decide +kernel
theorem zd_178_26 : decode (zm_cc 178) 26 = .ok (.iload_n 1, 1) := by decide +kernel
theorem zd_178_27 : decode (zm_cc 178) 27 = .ok (.invokevirtual 348, 3) := by decide +kernel
theorem zd_178_30 : decode (zm_cc 178) 30 = .ok (.iconst 1, 1) := by decide +kernel
theorem zd_178_31 : decode (zm_cc 178) 31 = .ok (.iadd, 1) := by decide +kernel
theorem zd_178_32 : decode (zm_cc 178) 32 = .ok (.iconst 4, 1) := by decide +kernel
theorem zd_178_33 : decode (zm_cc 178) 33 = .ok (.iastore, 1) := by decide +kernel
theorem zd_178_34 : decode (zm_cc 178) 34 = .ok (.aload_n 0, 1) := by decide +kernel
theorem zd_178_35 : decode (zm_cc 178) 35 = .ok (.iload_n 1, 1) := by decide +kernel
theorem zd_178_36 : decode (zm_cc 178) 36 = .ok (.invokevirtual 354, 3) := by decide +kernel
theorem zd_178_39 : decode (zm_cc 178) 39 = .ok (.return_, 1) := by decide +kernel
theorem zd_179_0 : decode (zm_cc 179) 0 = .ok (.iconst 0, 1) := by decide +kernel
theorem zd_179_1 : decode (zm_cc 179) 1 = .ok (.istore_n 2, 1) := by decide +kernel
theorem zd_179_2 : decode (zm_cc 179) 2 = .ok (.iload_n 2, 1) := by decide +kernel
theorem zd_179_3 : decode (zm_cc 179) 3 = .ok (.iconst 4, 1) := by decide +kernel
theorem zd_179_4 : decode (zm_cc 179) 4 = .ok (.if_icmp .ge 44, 3) := by decide +kernel
theorem zd_179_7 : decode (zm_cc 179) 7 = .ok (.aload_n 0, 1) := by decide +kernel
theorem zd_179_8 : decode (zm_cc 179) 8 = .ok (.getfield 88, 3) := by decide +kernel
theorem zd_179_11 : decode (zm_cc 179) 11 = .ok (.bipush 6, 2) := by decide +kernel
theorem zd_179_13 : decode (zm_cc 179) 13 = .ok (.iload_n 2, 1) := by decide +kernel
theorem zd_179_14 : decode (zm_cc 179) 14 = .ok (.iadd, 1) := by decide +kernel
theorem zd_179_15 : decode (zm_cc 179) 15 = .ok (.iaload, 1) := by decide +kernel
theorem zd_179_16 : decode (zm_cc 179) 16 = .ok (.iload_n 1, 1) := by decide +kernel
theorem zd_179_17 : decode (zm_cc 179) 17 = .ok (.iconst 1, 1) := by decide +kernel
theorem zd_179_18 : decode (zm_cc 179) 18 = .ok (.iadd, 1) := by decide +kernel
theorem zd_179_19 : decode (zm_cc 179) 19 = .ok (.if_icmp .ne 23, 3) := by decide +kernel
theorem zd_179_22 : decode (zm_cc 179) 22 = .ok (.aload_n 0, 1) := by decide +kernel
theorem zd_179_23 : decode (zm_cc 179) 23 = .ok (.getfield 88, 3) := by decide +kernel
theorem zd_179_26 : decode (zm_cc 179) 26 = .ok (.bipush 6, 2) := by decide +kernel
theorem zd_179_28 : decode (zm_cc 179) 28 = .ok (.iload_n 2, 1) := by decide +kernel
theorem zd_179_29 : decode (zm_cc 179) 29 = .ok (.iadd, 1) := by decide +kernel
theorem zd_179_30 : decode (zm_cc 179) 30 = .ok (.iconst 0, 1) := by decide +kernel
theorem zd_179_31 : decode (zm_cc 179) 31 = .ok (.iastore, 1) := by decide +kernel
theorem zd_179_32 : decode (zm_cc 179) 32 = .ok (.aload_n 0, 1) := by decide +kernel
theorem zd_179_33 : decode (zm_cc 179) 33 = .ok (.getfield 88, 3) := by decide +kernel
theorem zd_179_36 : decode (zm_cc 179) 36 = .ok (.bipush 10, 2) := by decide +kernel
theorem zd_179_38 : decode (zm_cc 179) 38 = .ok (.iload_n 2, 1) := by decide +kernel
theorem zd_179_39 : decode (zm_cc 179) 39 = .ok (.iadd, 1) := by decide +kernel
theorem zd_179_40 : decode (zm_cc 179) 40 = .ok (.iconst 0, 1) := by decide +kernel
theorem zd_179_41 : decode (zm_cc 179) 41 = .ok (.iastore, 1) := by decide +kernel
theorem zd_179_42 : decode (zm_cc 179) 42 = .ok (.iinc 2 1, 3) := by decide +kernel
theorem zd_179_45 : decode (zm_cc 179) 45 = .ok (.goto (-43), 3) := by decide +kernel
theorem zd_179_48 : decode (zm_cc 179) 48 = .ok (.return_, 1) := by decide +kernel
theorem zd_180_0 : decode (zm_cc 180) 0 = .ok (.bipush 7, 2) := by decide +kernel
theorem zd_180_2 : decode (zm_cc 180) 2 = .ok (.istore_n 1, 1) := by decide +kernel
theorem zd_180_3 : decode (zm_cc 180) 3 = .ok (.iconst 0, 1) := by decide +kernel
theorem zd_180_4 : decode (zm_cc 180) 4 = .ok (.istore_n 2, 1) := by decide +kernel
theorem zd_180_5 : decode (zm_cc 180) 5 = .ok (.iload_n 2, 1) := by decide +kernel
theorem zd_180_6 : decode (zm_cc 180) 6 = .ok (.bipush 40, 2) := by decide +kernel
theorem zd_180_8 : decode (zm_cc 180) 8 = .ok (.if_icmp .ge 29, 3) := by decide +kernel
theorem zd_180_11 : decode (zm_cc 180) 11 = .ok (.iload_n 1, 1) := by decide +kernel
theorem zd_180_12 : decode (zm_cc 180) 12 = .ok (.aload_n 0, 1) := by decide +kernel
theorem zd_180_13 : decode (zm_cc 180) 13 = .ok (.getfield 88, 3) := by decide +kernel
theorem zd_180_16 : decode (zm_cc 180) 16 = .ok (.iload_n 2, 1) := by decide +kernel
theorem zd_180_17 : decode (zm_cc 180) 17 = .ok (.iaload, 1) := by decide +kernel
theorem zd_180_18 : decode (zm_cc 180) 18 = .ok (.ixor, 1) := by decide +kernel
theorem zd_180_19 : decode (zm_cc 180) 19 = .ok (.ldc_w 376, 3) := by decide +kernel
theorem zd_180_22 : decode (zm_cc 180) 22 = .ok (.imul, 1) := by decide +kernel
theorem zd_180_23 : decode (zm_cc 180) 23 = .ok (.istore_n 1, 1) := by decide +kernel
theorem zd_180_24 : decode (zm_cc 180) 24 = .ok (.iload_n 1, 1) := by decide +kernel
theorem zd_180_25 : decode (zm_cc 180) 25 = .ok (.iload_n 1, 1) := by decide +kernel
theorem zd_180_26 : decode (zm_cc 180) 26 = .ok (.bipush 15, 2) := by decide +kernel
theorem zd_180_28 : decode (zm_cc 180) 28 = .ok (.iushr, 1) := by decide +kernel
theorem zd_180_29 : decode (zm_cc 180) 29 = .ok (.ixor, 1) := by decide +kernel
theorem zd_180_30 : decode (zm_cc 180) 30 = .ok (.istore_n 1, 1) := by decide +kernel
theorem zd_180_31 : decode (zm_cc 180) 31 = .ok (.iinc 2 1, 3) := by decide +kernel
theorem zd_180_34 : decode (zm_cc 180) 34 = .ok (.goto (-29), 3) := by decide +kernel
theorem zd_180_37 : decode (zm_cc 180) 37 = .ok (.iload_n 1, 1) := by decide +kernel
theorem zd_180_38 : decode (zm_cc 180) 38 = .ok (.sipush 8191, 3) := by decide +kernel
theorem zd_180_41 : decode (zm_cc 180) 41 = .ok (.iand, 1) := by decide +kernel
theorem zd_180_42 : decode (zm_cc 180) 42 = .ok (.istore_n 1, 1) := by decide +kernel
theorem zd_180_43 : decode (zm_cc 180) 43 = .ok (.aload_n 0, 1) := by decide +kernel
theorem zd_180_44 : decode (zm_cc 180) 44 = .ok (.getfield 95, 3) := by decide +kernel
theorem zd_180_47 : decode (zm_cc 180) 47 = .ok (.iload_n 1, 1) := by decide +kernel
theorem zd_180_48 : decode (zm_cc 180) 48 = .ok (.iaload, 1) := by decide +kernel
theorem zd_180_49 : decode (zm_cc 180) 49 = .ok (.istore_n 2, 1) := by decide +kernel
theorem zd_180_50 : decode (zm_cc 180) 50 = .ok (.iload_n 2, 1) := by decide +kernel
theorem zd_180_51 : decode (zm_cc 180) 51 = .ok (.iconst (-1), 1) := by decide +kernel
theorem zd_180_52 : decode (zm_cc 180) 52 = .ok (.if_icmp .eq 69, 3) := by decide +kernel
theorem zd_180_55 : decode (zm_cc 180) 55 = .ok (.iconst 1, 1) := by decide +kernel
theorem zd_180_56 : decode (zm_cc 180) 56 = .ok (.istore_n 3, 1) := by decide +kernel
theorem zd_180_57 : decode (zm_cc 180) 57 = .ok (.iconst 0, 1) := by decide +kernel
theorem zd_180_58 : decode (zm_cc 180) 58 = .ok (.istore 4, 2) := by decide +kernel
theorem zd_180_60 : decode (zm_cc 180) 60 = .ok (.iload 4, 2) := by decide +kernel
theorem zd_180_62 : decode (zm_cc 180) 62 = .ok (.bipush 40, 2) := by decide +kernel
theorem zd_180_64 : decode (zm_cc 180) 64 = .ok (.if_icmp .ge 41, 3) := by decide +kernel
theorem zd_180_67 : decode (zm_cc 180) 67 = .ok (.iload_n 3, 1) := by decide +kernel
theorem zd_180_68 : decode (zm_cc 180) 68 = .ok (.ifCond .eq 37, 3) := by decide +kernel
theorem zd_180_71 : decode (zm_cc 180) 71 = .ok (.aload_n 0, 1) := by decide +kernel
theorem zd_180_72 : decode (zm_cc 180) 72 = .ok (.getfield 92, 3) := by decide +kernel
theorem zd_180_75 : decode (zm_cc 180) 75 = .ok (.bipush 40, 2) := by decide +kernel
theorem zd_180_77 : decode (zm_cc 180) 77 = .ok (.iload_n 2, 1) := by decide +kernel
theorem zd_180_78 : decode (zm_cc 180) 78 = .ok (.imul, 1) := by decide +kernel
theorem zd_180_79 : decode (zm_cc 180) 79 = .ok (.iload 4, 2) := by decide +kernel
theorem zd_180_81 : decode (zm_cc 180) 81 = .ok (.iadd, 1) := by decide +kernel
theorem zd_180_82 : decode (zm_cc 180) 82 = .ok (.baload, 1) := by decide +kernel
theorem zd_180_83 : decode (zm_cc 180) 83 = .ok (.aload_n 0, 1) := by decide +kernel
theorem zd_180_84 : decode (zm_cc 180) 84 = .ok (.getfield 88, 3) := by decide +kernel
theorem zd_180_87 : decode (zm_cc 180) 87 = .ok (.iload 4, 2) := by decide +kernel
theorem zd_180_89 : decode (zm_cc 180) 89 = .ok (.iaload, 1) := by decide +kernel
theorem zd_180_90 : decode (zm_cc 180) 90 = .ok (.if_icmp .ne 7, 3) := by decide +kernel
theorem zd_180_93 : decode (zm_cc 180) 93 = .ok (.iconst 1, 1) := by decide +kernel
theorem zd_180_94 : decode (zm_cc 180) 94 = .ok (.goto 4, 3) := by decide +kernel
theorem zd_180_97 : decode (zm_cc 180) 97 = .ok (.iconst 0, 1) := by decide +kernel
theorem zd_180_98 : decode (zm_cc 180) 98 = .ok (.istore_n 3, 1) := by decide +kernel
theorem zd_180_99 : decode (zm_cc 180) 99 = .ok (.iinc 4 1, 3) := by decide +kernel
theorem zd_180_102 : decode (zm_cc 180) 102 = .ok (.goto (-42), 3) := by decide +kernel
theorem zd_180_105 : decode (zm_cc 180) 105 = .ok (.iload_n 3, 1) := by decide +kernel
theorem zd_180_106 : decode (zm_cc 180) 106 = .ok (.ifCond .eq 5, 3) := by decide +kernel
theorem zd_180_109 : decode (zm_cc 180) 109 = .ok (.iload_n 2, 1) := by decide +kernel
theorem zd_180_110 : decode (zm_cc 180) 110 = .ok (.ireturn, 1) := by decide +kernel
theorem zd_180_111 : decode (zm_cc 180) 111 = .ok (.aload_n 0, 1) := by decide +kernel
theorem zd_180_112 : decode (zm_cc 180) 112 = .ok (.getfield 98, 3) := by decide +kernel
theorem zd_180_115 : decode (zm_cc 180) 115 = .ok (.iload_n 2, 1) := by decide +kernel
theorem zd_180_116 : decode (zm_cc 180) 116 = .ok (.iaload, 1) := by decide +kernel
theorem zd_180_117 : decode (zm_cc 180) 117 = .ok (.istore_n 2, 1) := by decide +kernel
theorem zd_180_118 : decode (zm_cc 180) 118 = .ok (.goto (-68), 3) := by decide +kernel
theorem zd_180_121 : decode (zm_cc 180) 121 = .ok (.aload_n 0, 1) := by decide +kernel
theorem zd_180_122 : decode (zm_cc 180) 122 = .ok (.getfield 377, 3) := by decide +kernel
theorem zd_180_125 : decode (zm_cc 180) 125 = .ok (.sipush 4000, 3) := by decide +kernel
theorem zd_180_128 : decode (zm_cc 180) 128 = .ok (.if_icmp .ne 5, 3) := by decide +kernel
theorem zd_180_131 : decode (zm_cc 180) 131 = .ok (.iconst (-1), 1) := by decide +kernel
theorem zd_180_132 : decode (zm_cc 180) 132 = .ok (.ireturn, 1) := by decide +kernel
theorem zd_180_133 : decode (zm_cc 180) 133 = .ok (.aload_n 0, 1) := by decide +kernel
theorem zd_180_134 : decode (zm_cc 180) 134 = .ok (.getfield 380, 3) := by decide +kernel
theorem zd_180_137 : decode (zm_cc 180) 137 = .ok (.aload_n 0, 1) := by decide +kernel
theorem zd_180_138 : decode (zm_cc 180) 138 = .ok (.getfield 377, 3) := by decide +kernel
theorem zd_180_141 : decode (zm_cc 180) 141 = .ok (.iadd, 1) := by decide +kernel
theorem zd_180_142 : decode (zm_cc 180) 142 = .ok (.istore_n 2, 1) := by decide +kernel
theorem zd_180_143 : decode (zm_cc 180) 143 = .ok (.iconst 0, 1) := by decide +kernel
theorem zd_180_144 : decode (zm_cc 180) 144 = .ok (.istore_n 3, 1) := by decide +kernel
theorem zd_180_145 : decode (zm_cc 180) 145 = .ok (.iload_n 3, 1) := by decide +kernel
theorem zd_180_146 : decode (zm_cc 180) 146 = .ok (.bipush 40, 2) := by decide +kernel
theorem zd_180_148 : decode (zm_cc 180) 148 = .ok (.if_icmp .ge 27, 3) := by decide +kernel
theorem zd_180_151 : decode (zm_cc 180) 151 = .ok (.aload_n 0, 1) := by decide +kernel
theorem zd_180_152 : decode (zm_cc 180) 152 = .ok (.getfield 92, 3) := by decide +kernel
theorem zd_180_155 : decode (zm_cc 180) 155 = .ok (.bipush 40, 2) := by decide +kernel
theorem zd_180_157 : decode (zm_cc 180) 157 = .ok (.iload_n 2, 1) := by decide +kernel
theorem zd_180_158 : decode (zm_cc 180) 158 = .ok (.imul, 1) := by decide +kernel
theorem zd_180_159 : decode (zm_cc 180) 159 = .ok (.iload_n 3, 1) := by decide +kernel
theorem zd_180_160 : decode (zm_cc 180) 160 = .ok (.iadd, 1) := by decide +kernel
theorem zd_180_161 : decode (zm_cc 180) 161 = .ok (.aload_n 0, 1) := by decide +kernel
theorem zd_180_162 : decode (zm_cc 180) 162 = .ok (.getfield 88, 3) := by decide +kernel
theorem zd_180_165 : decode (zm_cc 180) 165 = .ok (.iload_n 3, 1) := by decide +kernel
theorem zd_180_166 : decode (zm_cc 180) 166 = .ok (.iaload, 1) := by decide +kernel
theorem zd_180_167 : decode (zm_cc 180) 167 = .ok (.i2b, 1) := by decide +kernel
theorem zd_180_168 : decode (zm_cc 180) 168 = .ok (.bastore, 1) := by decide +kernel
theorem zd_180_169 : decode (zm_cc 180) 169 = .ok (.iinc 3 1, 3) := by decide +kernel
theorem zd_180_172 : decode (zm_cc 180) 172 = .ok (.goto (-27), 3) := by decide +kernel
theorem zd_180_175 : decode (zm_cc 180) 175 = .ok (.aload_n 0, 1) := by decide +kernel
theorem zd_180_176 : decode (zm_cc 180) 176 = .ok (.getfield 98, 3) := by decide +kernel
theorem zd_180_179 : decode (zm_cc 180) 179 = .ok (.iload_n 2, 1) := by decide +kernel
theorem zd_180_180 : decode (zm_cc 180) 180 = .ok (.aload_n 0, 1) := by decide +kernel
theorem zd_180_181 : decode (zm_cc 180) 181 = .ok (.getfield 95, 3) := by decide +kernel
theorem zd_180_184 : decode (zm_cc 180) 184 = .ok (.iload_n 1, 1) := by decide +kernel
theorem zd_180_185 : decode (zm_cc 180) 185 = .ok (.iaload, 1) := by decide +kernel
theorem zd_180_186 : decode (zm_cc 180) 186 = .ok (.iastore, 1) := by decide +kernel
theorem zd_180_187 : decode (zm_cc 180) 187 = .ok (.aload_n 0, 1) := by decide +kernel
theorem zd_180_188 : decode (zm_cc 180) 188 = .ok (.getfield 95, 3) := by decide +kernel
theorem zd_180_191 : decode (zm_cc 180) 191 = .ok (.iload_n 1, 1) := by decide +kernel
theorem zd_180_192 : decode (zm_cc 180) 192 = .ok (.iload_n 2, 1) := by decide +kernel
theorem zd_180_193 : decode (zm_cc 180) 193 = .ok (.iastore, 1) := by decide +kernel
theorem zd_180_194 : decode (zm_cc 180) 194 = .ok (.aload_n 0, 1) := by decide +kernel
theorem zd_180_195 : decode (zm_cc 180) 195 = .ok (.dup, 1) := by decide +kernel
theorem zd_180_196 : decode (zm_cc 180) 196 = .ok (.getfield 377, 3) := by decide +kernel
theorem zd_180_199 : decode (zm_cc 180) 199 = .ok (.iconst 1, 1) := by decide +kernel
theorem zd_180_200 : decode (zm_cc 180) 200 = .ok (.iadd, 1) := by decide +kernel
theorem zd_180_201 : decode (zm_cc 180) 201 = .ok (.putfield 377, 3) := by decide +kernel
theorem zd_180_204 : decode (zm_cc 180) 204 = .ok (.iload_n 2, 1) := by decide +kernel
theorem zd_180_205 : decode (zm_cc 180) 205 = .ok (.ireturn, 1) := by decide +kernel
theorem zd_181_0 : decode (zm_cc 181) 0 = .ok (.iconst 0, 1) := by decide +kernel
theorem zd_181_1 : decode (zm_cc 181) 1 = .ok (.istore_n 2, 1) := by decide +kernel
theorem zd_181_2 : decode (zm_cc 181) 2 = .ok (.iload_n 2, 1) := by decide +kernel
theorem zd_181_3 : decode (zm_cc 181) 3 = .ok (.bipush 40, 2) := by decide +kernel
theorem zd_181_5 : decode (zm_cc 181) 5 = .ok (.if_icmp .ge 26, 3) := by decide +kernel
theorem zd_181_8 : decode (zm_cc 181) 8 = .ok (.aload_n 0, 1) := by decide +kernel
theorem zd_181_9 : decode (zm_cc 181) 9 = .ok (.getfield 88, 3) := by decide +kernel
theorem zd_181_12 : decode (zm_cc 181) 12 = .ok (.iload_n 2, 1) := by decide +kernel
theorem zd_181_13 : decode (zm_cc 181) 13 = .ok (.aload_n 0, 1) := by decide +kernel
theorem zd_181_14 : decode (zm_cc 181) 14 = .ok (.getfield 92, 3) := by decide +kernel
theorem zd_181_17 : decode (zm_cc 181) 17 = .ok (.bipush 40, 2) := by decide +kernel
theorem zd_181_19 : decode (zm_cc 181) 19 = .ok (.iload_n 1, 1) := by decide +kernel
theorem zd_181_20 : decode (zm_cc 181) 20 = .ok (.imul, 1) := by decide +kernel
theorem zd_181_21 : decode (zm_cc 181) 21 = .ok (.iload_n 2, 1) := by decide +kernel
theorem zd_181_22 : decode (zm_cc 181) 22 = .ok (.iadd, 1) := by decide +kernel
theorem zd_181_23 : decode (zm_cc 181) 23 = .ok (.baload, 1) := by decide +kernel
theorem zd_181_24 : decode (zm_cc 181) 24 = .ok (.iastore, 1) := by decide +kernel
theorem zd_181_25 : decode (zm_cc 181) 25 = .ok (.iinc 2 1, 3) := by decide +kernel
theorem zd_181_28 : decode (zm_cc 181) 28 = .ok (.goto (-26), 3) := by decide +kernel
theorem zd_181_31 : decode (zm_cc 181) 31 = .ok (.return_, 1) := by decide +kernel
theorem zd_182_0 : decode (zm_cc 182) 0 = .ok (.iconst 0, 1) := by decide +kernel
theorem zd_182_1 : decode (zm_cc 182) 1 = .ok (.istore_n 2, 1) := by decide +kernel
theorem zd_182_2 : decode (zm_cc 182) 2 = .ok (.iload_n 2, 1) := by decide +kernel
theorem zd_182_3 : decode (zm_cc 182) 3 = .ok (.aload_n 0, 1) := by decide +kernel
theorem zd_182_4 : decode (zm_cc 182) 4 = .ok (.getfield 225, 3) := by decide +kernel
theorem zd_182_7 : decode (zm_cc 182) 7 = .ok (.if_icmp .ge 120, 3) := by decide +kernel
theorem zd_182_10 : decode (zm_cc 182) 10 = .ok (.iload_n 2, 1) := by decide +kernel
theorem zd_182_11 : decode (zm_cc 182) 11 = .ok (.iconst 1, 1) := by decide +kernel
theorem zd_182_12 : decode (zm_cc 182) 12 = .ok (.iadd, 1) := by decide +kernel
theorem zd_182_13 : decode (zm_cc 182) 13 = .ok (.istore_n 3, 1) := by decide +kernel
theorem zd_182_14 : decode (zm_cc 182) 14 = .ok (.iload_n 3, 1) := by decide +kernel
theorem zd_182_15 : decode (zm_cc 182) 15 = .ok (.aload_n 0, 1) := by decide +kernel
theorem zd_182_16 : decode (zm_cc 182) 16 = .ok (.getfield 225, 3) := by decide +kernel
theorem zd_182_19 : decode (zm_cc 182) 19 = .ok (.if_icmp .ge 102, 3) := by decide +kernel
theorem zd_182_22 : decode (zm_cc 182) 22 = .ok (.aload_n 0, 1) := by decide +kernel
theorem zd_182_23 : decode (zm_cc 182) 23 = .ok (.iload_n 2, 1) := by decide +kernel
theorem zd_182_24 : decode (zm_cc 182) 24 = .ok (.invokevirtual 357, 3) := by decide +kernel
theorem zd_182_27 : decode (zm_cc 182) 27 = .ok (.iconst 1, 1) := by decide +kernel
theorem zd_182_28 : decode (zm_cc 182) 28 = .ok (.if_icmp .ne 87, 3) := by decide +kernel
theorem zd_182_31 : decode (zm_cc 182) 31 = .ok (.aload_n 0, 1) := by decide +kernel
theorem zd_182_32 : decode (zm_cc 182) 32 = .ok (.iload_n 3, 1) := by decide +kernel
theorem zd_182_33 : decode (zm_cc 182) 33 = .ok (.invokevirtual 357, 3) := by decide +kernel
theorem zd_182_36 : decode (zm_cc 182) 36 = .ok (.iconst 1, 1) := by decide +kernel
theorem zd_182_37 : decode (zm_cc 182) 37 = .ok (.if_icmp .ne 78, 3) := by decide +kernel
theorem zd_182_40 : decode (zm_cc 182) 40 = .ok (.bipush 24, 2) := by decide +kernel
theorem zd_182_42 : decode (zm_cc 182) 42 = .ok (.iload_n 2, 1) := by decide +kernel
theorem zd_182_43 : decode (zm_cc 182) 43 = .ok (.imul, 1) := by decide +kernel
theorem zd_182_44 : decode (zm_cc 182) 44 = .ok (.aload_n 0, 1) := by decide +kernel
theorem zd_182_45 : decode (zm_cc 182) 45 = .ok (.getfield 88, 3) := by decide +kernel
theorem zd_182_48 : decode (zm_cc 182) 48 = .ok (.aload_n 0, 1) := by decide +kernel
theorem zd_182_49 : decode (zm_cc 182) 49 = .ok (.iload_n 2, 1) := by decide +kernel
theorem zd_182_50 : decode (zm_cc 182) 50 = .ok (.invokevirtual 348, 3) := by decide +kernel
theorem zd_182_53 : decode (zm_cc 182) 53 = .ok (.iaload, 1) := by decide +kernel
theorem zd_182_54 : decode (zm_cc 182) 54 = .ok (.iadd, 1) := by decide +kernel
theorem zd_182_55 : decode (zm_cc 182) 55 = .ok (.istore 4, 2) := by decide +kernel
theorem zd_182_57 : decode (zm_cc 182) 57 = .ok (.bipush 24, 2) := by decide +kernel
theorem zd_182_59 : decode (zm_cc 182) 59 = .ok (.iload_n 3, 1) := by decide +kernel
theorem zd_182_60 : decode (zm_cc 182) 60 = .ok (.imul, 1) := by decide +kernel
theorem zd_182_61 : decode (zm_cc 182) 61 = .ok (.aload_n 0, 1) := by decide +kernel
theorem zd_182_62 : decode (zm_cc 182) 62 = .ok (.getfield 88, 3) := by decide +kernel
theorem zd_182_65 : decode (zm_cc 182) 65 = .ok (.aload_n 0, 1) := by decide +kernel
theorem zd_182_66 : decode (zm_cc 182) 66 = .ok (.iload_n 3, 1) := by decide +kernel
theorem zd_182_67 : decode (zm_cc 182) 67 = .ok (.invokevirtual 348, 3) := by decide +kernel
theorem zd_182_70 : decode (zm_cc 182) 70 = .ok (.iaload, 1) := by decide +kernel
theorem zd_182_71 : decode (zm_cc 182) 71 = .ok (.iadd, 1) := by decide +kernel
theorem zd_182_72 : decode (zm_cc 182) 72 = .ok (.istore 5, 2) := by decide +kernel
theorem zd_182_74 : decode (zm_cc 182) 74 = .ok (.bipush 96, 2) := by decide +kernel
theorem zd_182_76 : decode (zm_cc 182) 76 = .ok (.iload 4, 2) := by decide +kernel
theorem zd_182_78 : decode (zm_cc 182) 78 = .ok (.imul, 1) := by decide +kernel
theorem zd_182_79 : decode (zm_cc 182) 79 = .ok (.iload 5, 2) := by decide +kernel
theorem zd_182_81 : decode (zm_cc 182) 81 = .ok (.iadd, 1) := by decide +kernel
theorem zd_182_82 : decode (zm_cc 182) 82 = .ok (.istore 6, 2) := by decide +kernel
theorem zd_182_84 : decode (zm_cc 182) 84 = .ok (.aload_n 0, 1) := by decide +kernel
theorem zd_182_85 : decode (zm_cc 182) 85 = .ok (.iload 4, 2) := by decide +kernel
theorem zd_182_87 : decode (zm_cc 182) 87 = .ok (.iload 5, 2) := by decide +kernel
theorem zd_182_89 : decode (zm_cc 182) 89 = .ok (.invokevirtual 386, 3) := by decide +kernel
theorem zd_182_92 : decode (zm_cc 182) 92 = .ok (.ifCond .eq 23, 3) := by decide +kernel
theorem zd_182_95 : decode (zm_cc 182) 95 = .ok (.aload_n 0, 1) := by decide +kernel
theorem zd_182_96 : decode (zm_cc 182) 96 = .ok (.getfield 110, 3) := by decide +kernel
theorem zd_182_99 : decode (zm_cc 182) 99 = .ok (.iload 6, 2) := by decide +kernel
theorem zd_182_101 : decode (zm_cc 182) 101 = .ok (.iaload, 1) := by decide +kernel
theorem zd_182_102 : decode (zm_cc 182) 102 = .ok (.ifCond .ne 13, 3) := by decide +kernel
theorem zd_182_105 : decode (zm_cc 182) 105 = .ok (.aload_n 0, 1) := by decide +kernel
theorem zd_182_106 : decode (zm_cc 182) 106 = .ok (.getfield 110, 3) := by decide +kernel
theorem zd_182_109 : decode (zm_cc 182) 109 = .ok (.iload 6, 2) := by decide +kernel
theorem zd_182_111 : decode (zm_cc 182) 111 = .ok (.iload_n 1, 1) := by decide +kernel
theorem zd_182_112 : decode (zm_cc 182) 112 = .ok (.iconst 1, 1) := by decide +kernel
theorem zd_182_113 : decode (zm_cc 182) 113 = .ok (.iadd, 1) := by decide +kernel
theorem zd_182_114 : decode (zm_cc 182) 114 = .ok (.iastore, 1) := by decide +kernel
theorem zd_182_115 : decode (zm_cc 182) 115 = .ok (.iinc 3 1, 3) := by decide +kernel
theorem zd_182_118 : decode (zm_cc 182) 118 = .ok (.goto (-104), 3) := by decide +kernel
theorem zd_182_121 : decode (zm_cc 182) 121 = .ok (.iinc 2 1, 3) := by decide +kernel
theorem zd_182_124 : decode (zm_cc 182) 124 = .ok (.goto (-122), 3) := by decide +kernel
theorem zd_182_127 : decode (zm_cc 182) 127 = .ok (.return_, 1) := by decide +kernel
theorem zd_183_0 : decode (zm_cc 183) 0 = .ok (.aload_n 0, 1) := by decide +kernel
theorem zd_183_1 : decode (zm_cc 183) 1 = .ok (.getfield 88, 3) := by decide +kernel
theorem zd_183_4 : decode (zm_cc 183) 4 = .ok (.aload_n 0, 1) := by decide +kernel
theorem zd_183_5 : decode (zm_cc 183) 5 = .ok (.iload_n 1, 1) := by decide +kernel
theorem zd_183_6 : decode (zm_cc 183) 6 = .ok (.invokevirtual 348, 3) := by decide +kernel
theorem zd_183_9 : decode (zm_cc 183) 9 = .ok (.iconst 1, 1) := by decide +kernel
theorem zd_183_10 : decode (zm_cc 183) 10 = .ok (.iadd, 1) := by decide +kernel
theorem zd_183_11 : decode (zm_cc 183) 11 = .ok (.iaload, 1) := by decide +kernel
theorem zd_183_12 : decode (zm_cc 183) 12 = .ok (.ireturn, 1) := by decide +kernel
theorem zd_184_0 : decode (zm_cc 184) 0 = .ok (.aload_n 0, 1) := by decide +kernel
theorem zd_184_1 : decode (zm_cc 184) 1 = .ok (.iload_n 1, 1) := by decide +kernel
theorem zd_184_2 : decode (zm_cc 184) 2 = .ok (.invokevirtual 383, 3) := by decide +kernel
theorem zd_184_5 : decode (zm_cc 184) 5 = .ok (.ifCond .eq 64, 3) := by decide +kernel
theorem zd_184_8 : decode (zm_cc 184) 8 = .ok (.aload_n 0, 1) := by decide +kernel
theorem zd_184_9 : decode (zm_cc 184) 9 = .ok (.iload_n 2, 1) := by decide +kernel
theorem zd_184_10 : decode (zm_cc 184) 10 = .ok (.invokevirtual 383, 3) := by decide +kernel
theorem zd_184_13 : decode (zm_cc 184) 13 = .ok (.ifCond .eq 56, 3) := by decide +kernel
theorem zd_184_16 : decode (zm_cc 184) 16 = .ok (.aload_n 0, 1) := by decide +kernel
theorem zd_184_17 : decode (zm_cc 184) 17 = .ok (.getfield 46, 3) := by decide +kernel
theorem zd_184_20 : decode (zm_cc 184) 20 = .ok (.iload_n 1, 1) := by decide +kernel
theorem zd_184_21 : decode (zm_cc 184) 21 = .ok (.iaload, 1) := by decide +kernel
theorem zd_184_22 : decode (zm_cc 184) 22 = .ok (.aload_n 0, 1) := by decide +kernel
theorem zd_184_23 : decode (zm_cc 184) 23 = .ok (.getfield 46, 3) := by decide +kernel
theorem zd_184_26 : decode (zm_cc 184) 26 = .ok (.iload_n 2, 1) := by decide +kernel
theorem zd_184_27 : decode (zm_cc 184) 27 = .ok (.iaload, 1) := by decide +kernel
theorem zd_184_28 : decode (zm_cc 184) 28 = .ok (.if_icmp .ne 41, 3) := by decide +kernel
theorem zd_184_31 : decode (zm_cc 184) 31 = .ok (.aload_n 0, 1) := by decide +kernel
theorem zd_184_32 : decode (zm_cc 184) 32 = .ok (.getfield 30, 3) := by decide +kernel
theorem zd_184_35 : decode (zm_cc 184) 35 = .ok (.aload_n 0, 1) := by decide +kernel
theorem zd_184_36 : decode (zm_cc 184) 36 = .ok (.getfield 46, 3) := by decide +kernel
theorem zd_184_39 : decode (zm_cc 184) 39 = .ok (.iload_n 1, 1) := by decide +kernel
theorem zd_184_40 : decode (zm_cc 184) 40 = .ok (.iaload, 1) := by decide +kernel
theorem zd_184_41 : decode (zm_cc 184) 41 = .ok (.baload, 1) := by decide +kernel
theorem zd_184_42 : decode (zm_cc 184) 42 = .ok (.ifCond .ne 27, 3) := by decide +kernel
theorem zd_184_45 : decode (zm_cc 184) 45 = .ok (.aload_n 0, 1) := by decide +kernel
theorem zd_184_46 : decode (zm_cc 184) 46 = .ok (.getfield 43, 3) := by decide +kernel
theorem zd_184_49 : decode (zm_cc 184) 49 = .ok (.iload_n 1, 1) := by decide +kernel
theorem zd_184_50 : decode (zm_cc 184) 50 = .ok (.iaload, 1) := by decide +kernel
theorem zd_184_51 : decode (zm_cc 184) 51 = .ok (.iconst 1, 1) := by decide +kernel
theorem zd_184_52 : decode (zm_cc 184) 52 = .ok (.if_icmp .eq 13, 3) := by decide +kernel
theorem zd_184_55 : decode (zm_cc 184) 55 = .ok (.aload_n 0, 1) := by decide +kernel
theorem zd_184_56 : decode (zm_cc 184) 56 = .ok (.getfield 43, 3) := by decide +kernel
theorem zd_184_59 : decode (zm_cc 184) 59 = .ok (.iload_n 2, 1) := by decide +kernel
theorem zd_184_60 : decode (zm_cc 184) 60 = .ok (.iaload, 1) := by decide +kernel
theorem zd_184_61 : decode (zm_cc 184) 61 = .ok (.iconst 1, 1) := by decide +kernel
theorem zd_184_62 : decode (zm_cc 184) 62 = .ok (.if_icmp .ne 7, 3) := by decide +kernel
theorem zd_184_65 : decode (zm_cc 184) 65 = .ok (.iconst 1, 1) := by decide +kernel
theorem zd_184_66 : decode (zm_cc 184) 66 = .ok (.goto 4, 3) := by decide +kernel
theorem zd_184_69 : decode (zm_cc 184) 69 = .ok (.iconst 0, 1) := by decide +kernel
theorem zd_184_70 : decode (zm_cc 184) 70 = .ok (.ireturn, 1) := by decide +kernel
theorem zd_185_0 : decode (zm_cc 185) 0 = .ok (.aload_n 0, 1) := by decide +kernel
theorem zd_185_1 : decode (zm_cc 185) 1 = .ok (.getfield 43, 3) := by decide +kernel
theorem zd_185_4 : decode (zm_cc 185) 4 = .ok (.iload_n 1, 1) := by decide +kernel
theorem zd_185_5 : decode (zm_cc 185) 5 = .ok (.iaload, 1) := by decide +kernel
theorem zd_185_6 : decode (zm_cc 185) 6 = .ok (.ifCond .eq 13, 3) := by decide +kernel
theorem zd_185_9 : decode (zm_cc 185) 9 = .ok (.aload_n 0, 1) := by decide +kernel
theorem zd_185_10 : decode (zm_cc 185) 10 = .ok (.getfield 43, 3) := by decide +kernel
theorem zd_185_13 : decode (zm_cc 185) 13 = .ok (.iload_n 1, 1) := by decide +kernel
theorem zd_185_14 : decode (zm_cc 185) 14 = .ok (.iaload, 1) := by decide +kernel
theorem zd_185_15 : decode (zm_cc 185) 15 = .ok (.iconst 1, 1) := by decide +kernel
theorem zd_185_16 : decode (zm_cc 185) 16 = .ok (.if_icmp .ne 7, 3) := by decide +kernel
theorem zd_185_19 : decode (zm_cc 185) 19 = .ok (.iconst 1, 1) := by decide +kernel
theorem zd_185_20 : decode (zm_cc 185) 20 = .ok (.goto 4, 3) := by decide +kernel
theorem zd_185_23 : decode (zm_cc 185) 23 = .ok (.iconst 0, 1) := by decide +kernel
theorem zd_185_24 : decode (zm_cc 185) 24 = .ok (.ireturn, 1) := by decide +kernel
theorem zd_186_0 : decode (zm_cc 186) 0 = .ok (.aload_n 0, 1) := by decide +kernel
theorem zd_186_1 : decode (zm_cc 186) 1 = .ok (.iload_n 1, 1) := by decide +kernel
theorem zd_186_2 : decode (zm_cc 186) 2 = .ok (.invokevirtual 357, 3) := by decide +kernel
theorem zd_186_5 : decode (zm_cc 186) 5 = .ok (.istore_n 2, 1) := by decide +kernel
theorem zd_186_6 : decode (zm_cc 186) 6 = .ok (.bipush 24, 2) := by decide +kernel
theorem zd_186_8 : decode (zm_cc 186) 8 = .ok (.iload_n 1, 1) := by decide +kernel
theorem zd_186_9 : decode (zm_cc 186) 9 = .ok (.imul, 1) := by decide +kernel
theorem zd_186_10 : decode (zm_cc 186) 10 = .ok (.aload_n 0, 1) := by decide +kernel
theorem zd_186_11 : decode (zm_cc 186) 11 = .ok (.getfield 88, 3) := by decide +kernel
theorem zd_186_14 : decode (zm_cc 186) 14 = .ok (.aload_n 0, 1) := by decide +kernel
theorem zd_186_15 : decode (zm_cc 186) 15 = .ok (.iload_n 1, 1) := by decide +kernel
theorem zd_186_16 : decode (zm_cc 186) 16 = .ok (.invokevirtual 348, 3) := by decide +kernel
theorem zd_186_19 : decode (zm_cc 186) 19 = .ok (.iaload, 1) := by decide +kernel
theorem zd_186_20 : decode (zm_cc 186) 20 = .ok (.iadd, 1) := by decide +kernel
theorem zd_186_21 : decode (zm_cc 186) 21 = .ok (.istore_n 3, 1) := by decide +kernel
theorem zd_186_22 : decode (zm_cc 186) 22 = .ok (.iload_n 2, 1) := by decide +kernel
theorem zd_186_23 : decode (zm_cc 186) 23 = .ok (.iconst 3, 1) := by decide +kernel
theorem zd_186_24 : decode (zm_cc 186) 24 = .ok (.if_icmp .ne 26, 3) := by decide +kernel
theorem zd_186_27 : decode (zm_cc 186) 27 = .ok (.aload_n 0, 1) := by decide +kernel
theorem zd_186_28 : decode (zm_cc 186) 28 = .ok (.getfield 88, 3) := by decide +kernel
theorem zd_186_31 : decode (zm_cc 186) 31 = .ok (.bipush 6, 2) := by decide +kernel
theorem zd_186_33 : decode (zm_cc 186) 33 = .ok (.aload_n 0, 1) := by decide +kernel
theorem zd_186_34 : decode (zm_cc 186) 34 = .ok (.getfield 46, 3) := by decide +kernel
theorem zd_186_37 : decode (zm_cc 186) 37 = .ok (.iload_n 3, 1) := by decide +kernel
theorem zd_186_38 : decode (zm_cc 186) 38 = .ok (.iaload, 1) := by decide +kernel
theorem zd_186_39 : decode (zm_cc 186) 39 = .ok (.iadd, 1) := by decide +kernel
theorem zd_186_40 : decode (zm_cc 186) 40 = .ok (.iaload, 1) := by decide +kernel
theorem zd_186_41 : decode (zm_cc 186) 41 = .ok (.ifCond .ne 7, 3) := by decide +kernel
theorem zd_186_44 : decode (zm_cc 186) 44 = .ok (.iconst 1, 1) := by decide +kernel
theorem zd_186_45 : decode (zm_cc 186) 45 = .ok (.goto 4, 3) := by decide +kernel
theorem zd_186_48 : decode (zm_cc 186) 48 = .ok (.iconst 0, 1) := by decide +kernel
theorem zd_186_49 : decode (zm_cc 186) 49 = .ok (.ireturn, 1) := by decide +kernel
theorem zd_186_50 : decode (zm_cc 186) 50 = .ok (.iload_n 2, 1) := by decide +kernel
theorem zd_186_51 : decode (zm_cc 186) 51 = .ok (.iconst 1, 1) := by decide +kernel
theorem zd_186_52 : decode (zm_cc 186) 52 = .ok (.if_icmp .eq 5, 3) := by decide +kernel
theorem zd_186_55 : decode (zm_cc 186) 55 = .ok (.iconst 0, 1) := by decide +kernel
theorem zd_186_56 : decode (zm_cc 186) 56 = .ok (.ireturn, 1) := by decide +kernel
theorem zd_186_57 : decode (zm_cc 186) 57 = .ok (.aload_n 0, 1) := by decide +kernel
theorem zd_186_58 : decode (zm_cc 186) 58 = .ok (.getfield 43, 3) := by decide +kernel
theorem zd_186_61 : decode (zm_cc 186) 61 = .ok (.iload_n 3, 1) := by decide +kernel
theorem zd_186_62 : decode (zm_cc 186) 62 = .ok (.iaload, 1) := by decide +kernel
theorem zd_186_63 : decode (zm_cc 186) 63 = .ok (.iconst 3, 1) := by decide +kernel
theorem zd_186_64 : decode (zm_cc 186) 64 = .ok (.if_icmp .ne 38, 3) := by decide +kernel
theorem zd_186_67 : decode (zm_cc 186) 67 = .ok (.aload_n 0, 1) := by decide +kernel
theorem zd_186_68 : decode (zm_cc 186) 68 = .ok (.getfield 88, 3) := by decide +kernel
theorem zd_186_71 : decode (zm_cc 186) 71 = .ok (.bipush 6, 2) := by decide +kernel
theorem zd_186_73 : decode (zm_cc 186) 73 = .ok (.aload_n 0, 1) := by decide +kernel
theorem zd_186_74 : decode (zm_cc 186) 74 = .ok (.getfield 46, 3) := by decide +kernel
theorem zd_186_77 : decode (zm_cc 186) 77 = .ok (.iload_n 3, 1) := by decide +kernel
theorem zd_186_78 : decode (zm_cc 186) 78 = .ok (.iaload, 1) := by decide +kernel
theorem zd_186_79 : decode (zm_cc 186) 79 = .ok (.iadd, 1) := by decide +kernel
theorem zd_186_80 : decode (zm_cc 186) 80 = .ok (.iaload, 1) := by decide +kernel
theorem zd_186_81 : decode (zm_cc 186) 81 = .ok (.istore 4, 2) := by decide +kernel
theorem zd_186_83 : decode (zm_cc 186) 83 = .ok (.iload 4, 2) := by decide +kernel
theorem zd_186_85 : decode (zm_cc 186) 85 = .ok (.ifCond .eq 11, 3) := by decide +kernel
theorem zd_186_88 : decode (zm_cc 186) 88 = .ok (.iload 4, 2) := by decide +kernel
theorem zd_186_90 : decode (zm_cc 186) 90 = .ok (.iload_n 1, 1) := by decide +kernel
theorem zd_186_91 : decode (zm_cc 186) 91 = .ok (.iconst 1, 1) := by decide +kernel
theorem zd_186_92 : decode (zm_cc 186) 92 = .ok (.iadd, 1) := by decide +kernel
theorem zd_186_93 : decode (zm_cc 186) 93 = .ok (.if_icmp .ne 7, 3) := by decide +kernel
theorem zd_186_96 : decode (zm_cc 186) 96 = .ok (.iconst 1, 1) := by decide +kernel
theorem zd_186_97 : decode (zm_cc 186) 97 = .ok (.goto 4, 3) := by decide +kernel
theorem zd_186_100 : decode (zm_cc 186) 100 = .ok (.iconst 0, 1) := by decide +kernel
theorem zd_186_101 : decode (zm_cc 186) 101 = .ok (.ireturn, 1) := by decide +kernel
theorem zd_186_102 : decode (zm_cc 186) 102 = .ok (.aload_n 0, 1) := by decide +kernel
theorem zd_186_103 : decode (zm_cc 186) 103 = .ok (.getfield 43, 3) := by decide +kernel
theorem zd_186_106 : decode (zm_cc 186) 106 = .ok (.iload_n 3, 1) := by decide +kernel
theorem zd_186_107 : decode (zm_cc 186) 107 = .ok (.iaload, 1) := by decide +kernel
theorem zd_186_108 : decode (zm_cc 186) 108 = .ok (.bipush 11, 2) := by decide +kernel
theorem zd_186_110 : decode (zm_cc 186) 110 = .ok (.if_icmp .ne 31, 3) := by decide +kernel
theorem zd_186_113 : decode (zm_cc 186) 113 = .ok (.aload_n 0, 1) := by decide +kernel
theorem zd_186_114 : decode (zm_cc 186) 114 = .ok (.aload_n 0, 1) := by decide +kernel
theorem zd_186_115 : decode (zm_cc 186) 115 = .ok (.getfield 46, 3) := by decide +kernel
theorem zd_186_118 : decode (zm_cc 186) 118 = .ok (.iload_n 3, 1) := by decide +kernel
theorem zd_186_119 : decode (zm_cc 186) 119 = .ok (.iaload, 1) := by decide +kernel
theorem zd_186_120 : decode (zm_cc 186) 120 = .ok (.invokevirtual 357, 3) := by decide +kernel
theorem zd_186_123 : decode (zm_cc 186) 123 = .ok (.iconst 4, 1) := by decide +kernel
theorem zd_186_124 : decode (zm_cc 186) 124 = .ok (.if_icmp .eq 17, 3) := by decide +kernel
theorem zd_186_127 : decode (zm_cc 186) 127 = .ok (.aload_n 0, 1) := by decide +kernel
theorem zd_186_128 : decode (zm_cc 186) 128 = .ok (.aload_n 0, 1) := by decide +kernel
theorem zd_186_129 : decode (zm_cc 186) 129 = .ok (.getfield 46, 3) := by decide +kernel
theorem zd_186_132 : decode (zm_cc 186) 132 = .ok (.iload_n 3, 1) := by decide +kernel
theorem zd_186_133 : decode (zm_cc 186) 133 = .ok (.iaload, 1) := by decide +kernel
theorem zd_186_134 : decode (zm_cc 186) 134 = .ok (.invokevirtual 357, 3) := by decide +kernel
theorem zd_186_137 : decode (zm_cc 186) 137 = .ok (.iconst 5, 1) := by decide +kernel
theorem zd_186_138 : decode (zm_cc 186) 138 = .ok (.if_icmp .ne 7, 3) := by decide +kernel
theorem zd_186_141 : decode (zm_cc 186) 141 = .ok (.iconst 1, 1) := by decide +kernel
theorem zd_186_142 : decode (zm_cc 186) 142 = .ok (.goto 4, 3) := by decide +kernel
theorem zd_186_145 : decode (zm_cc 186) 145 = .ok (.iconst 0, 1) := by decide +kernel
theorem zd_186_146 : decode (zm_cc 186) 146 = .ok (.ireturn, 1) := by decide +kernel
theorem zd_187_0 : decode (zm_cc 187) 0 = .ok (.bipush 24, 2) := by decide +kernel
theorem zd_187_2 : decode (zm_cc 187) 2 = .ok (.iload_n 1, 1) := by decide +kernel
theorem zd_187_3 : decode (zm_cc 187) 3 = .ok (.imul, 1) := by decide +kernel
theorem zd_187_4 : decode (zm_cc 187) 4 = .ok (.aload_n 0, 1) := by decide +kernel
theorem zd_187_5 : decode (zm_cc 187) 5 = .ok (.getfield 88, 3) := by decide +kernel
theorem zd_187_8 : decode (zm_cc 187) 8 = .ok (.aload_n 0, 1) := by decide +kernel
theorem zd_187_9 : decode (zm_cc 187) 9 = .ok (.iload_n 1, 1) := by decide +kernel
theorem zd_187_10 : decode (zm_cc 187) 10 = .ok (.invokevirtual 348, 3) := by decide +kernel
theorem zd_187_13 : decode (zm_cc 187) 13 = .ok (.iaload, 1) := by decide +kernel
theorem zd_187_14 : decode (zm_cc 187) 14 = .ok (.iadd, 1) := by decide +kernel
theorem zd_187_15 : decode (zm_cc 187) 15 = .ok (.istore_n 2, 1) := by decide +kernel
theorem zd_187_16 : decode (zm_cc 187) 16 = .ok (.aload_n 0, 1) := by decide +kernel
theorem zd_187_17 : decode (zm_cc 187) 17 = .ok (.getfield 46, 3) := by decide +kernel
theorem zd_187_20 : decode (zm_cc 187) 20 = .ok (.iload_n 2, 1) := by decide +kernel
theorem zd_187_21 : decode (zm_cc 187) 21 = .ok (.iaload, 1) := by decide +kernel
theorem zd_187_22 : decode (zm_cc 187) 22 = .ok (.istore_n 3, 1) := by decide +kernel
theorem zd_187_23 : decode (zm_cc 187) 23 = .ok (.aload_n 0, 1) := by decide +kernel
theorem zd_187_24 : decode (zm_cc 187) 24 = .ok (.iload_n 1, 1) := by decide +kernel
theorem zd_187_25 : decode (zm_cc 187) 25 = .ok (.invokevirtual 357, 3) := by decide +kernel
theorem zd_187_28 : decode (zm_cc 187) 28 = .ok (.iconst 3, 1) := by decide +kernel
theorem zd_187_29 : decode (zm_cc 187) 29 = .ok (.if_icmp .ne 74, 3) := by decide +kernel
theorem zd_187_32 : decode (zm_cc 187) 32 = .ok (.aload_n 0, 1) := by decide +kernel
theorem zd_187_33 : decode (zm_cc 187) 33 = .ok (.getfield 88, 3) := by decide +kernel
theorem zd_187_36 : decode (zm_cc 187) 36 = .ok (.bipush 6, 2) := by decide +kernel
theorem zd_187_38 : decode (zm_cc 187) 38 = .ok (.iload_n 3, 1) := by decide +kernel
theorem zd_187_39 : decode (zm_cc 187) 39 = .ok (.iadd, 1) := by decide +kernel
theorem zd_187_40 : decode (zm_cc 187) 40 = .ok (.iload_n 1, 1) := by decide +kernel
theorem zd_187_41 : decode (zm_cc 187) 41 = .ok (.iconst 1, 1) := by decide +kernel
theorem zd_187_42 : decode (zm_cc 187) 42 = .ok (.iadd, 1) := by decide +kernel
theorem zd_187_43 : decode (zm_cc 187) 43 = .ok (.iastore, 1) := by decide +kernel
theorem zd_187_44 : decode (zm_cc 187) 44 = .ok (.aload_n 0, 1) := by decide +kernel
theorem zd_187_45 : decode (zm_cc 187) 45 = .ok (.getfield 88, 3) := by decide +kernel
theorem zd_187_48 : decode (zm_cc 187) 48 = .ok (.bipush 10, 2) := by decide +kernel
theorem zd_187_50 : decode (zm_cc 187) 50 = .ok (.iload_n 3, 1) := by decide +kernel
theorem zd_187_51 : decode (zm_cc 187) 51 = .ok (.iadd, 1) := by decide +kernel
theorem zd_187_52 : decode (zm_cc 187) 52 = .ok (.aload_n 0, 1) := by decide +kernel
theorem zd_187_53 : decode (zm_cc 187) 53 = .ok (.getfield 88, 3) := by decide +kernel
theorem zd_187_56 : decode (zm_cc 187) 56 = .ok (.aload_n 0, 1) := by decide +kernel
theorem zd_187_57 : decode (zm_cc 187) 57 = .ok (.iload_n 1, 1) := by decide +kernel
theorem zd_187_58 : decode (zm_cc 187) 58 = .ok (.invokevirtual 348, 3) := by decide +kernel
theorem zd_187_61 : decode (zm_cc 187) 61 = .ok (.iconst 5, 1) := by decide +kernel
theorem zd_187_62 : decode (zm_cc 187) 62 = .ok (.iadd, 1) := by decide +kernel
theorem zd_187_63 : decode (zm_cc 187) 63 = .ok (.iaload, 1) := by decide +kernel
theorem zd_187_64 : decode (zm_cc 187) 64 = .ok (.iastore, 1) := by decide +kernel
theorem zd_187_65 : decode (zm_cc 187) 65 = .ok (.aload_n 0, 1) := by decide +kernel
theorem zd_187_66 : decode (zm_cc 187) 66 = .ok (.getfield 88, 3) := by decide +kernel
theorem zd_187_69 : decode (zm_cc 187) 69 = .ok (.aload_n 0, 1) := by decide +kernel
theorem zd_187_70 : decode (zm_cc 187) 70 = .ok (.iload_n 1, 1) := by decide +kernel
theorem zd_187_71 : decode (zm_cc 187) 71 = .ok (.invokevirtual 348, 3) := by decide +kernel
theorem zd_187_74 : decode (zm_cc 187) 74 = .ok (.iconst 5, 1) := by decide +kernel
theorem zd_187_75 : decode (zm_cc 187) 75 = .ok (.iadd, 1) := by decide +kernel
theorem zd_187_76 : decode (zm_cc 187) 76 = .ok (.iconst 0, 1) := by decide +kernel
theorem zd_187_77 : decode (zm_cc 187) 77 = .ok (.iastore, 1) := by decide +kernel
theorem zd_187_78 : decode (zm_cc 187) 78 = .ok (.aload_n 0, 1) := by decide +kernel
theorem zd_187_79 : decode (zm_cc 187) 79 = .ok (.getfield 88, 3) := by decide +kernel
theorem zd_187_82 : decode (zm_cc 187) 82 = .ok (.aload_n 0, 1) := by decide +kernel
theorem zd_187_83 : decode (zm_cc 187) 83 = .ok (.iload_n 1, 1) := by decide +kernel
theorem zd_187_84 : decode (zm_cc 187) 84 = .ok (.invokevirtual 348, 3) := by decide +kernel
theorem zd_187_87 : decode (zm_cc 187) 87 = .ok (.iconst 1, 1) := by decide +kernel
theorem zd_187_88 : decode (zm_cc 187) 88 = .ok (.iadd, 1) := by decide +kernel
theorem zd_187_89 : decode (zm_cc 187) 89 = .ok (.iconst 1, 1) := by decide +kernel
theorem zd_187_90 : decode (zm_cc 187) 90 = .ok (.iastore, 1) := by decide +kernel
theorem zd_187_91 : decode (zm_cc 187) 91 = .ok (.aload_n 0, 1) := by decide +kernel
theorem zd_187_92 : decode (zm_cc 187) 92 = .ok (.iload_n 1, 1) := by decide +kernel
theorem zd_187_93 : decode (zm_cc 187) 93 = .ok (.aload_n 0, 1) := by decide +kernel
theorem zd_187_94 : decode (zm_cc 187) 94 = .ok (.getfield 49, 3) := by decide +kernel
theorem zd_187_97 : decode (zm_cc 187) 97 = .ok (.iload_n 2, 1) := by decide +kernel
theorem zd_187_98 : decode (zm_cc 187) 98 = .ok (.iaload, 1) := by decide +kernel
theorem zd_187_99 : decode (zm_cc 187) 99 = .ok (.invokevirtual 360, 3) := by decide +kernel
theorem zd_187_102 : decode (zm_cc 187) 102 = .ok (.return_, 1) := by decide +kernel
theorem zd_187_103 : decode (zm_cc 187) 103 = .ok (.aload_n 0, 1) := by decide +kernel
theorem zd_187_104 : decode (zm_cc 187) 104 = .ok (.getfield 43, 3) := by decide +kernel
theorem zd_187_107 : decode (zm_cc 187) 107 = .ok (.iload_n 2, 1) := by decide +kernel
theorem zd_187_108 : decode (zm_cc 187) 108 = .ok (.iaload, 1) := by decide +kernel
theorem zd_187_109 : decode (zm_cc 187) 109 = .ok (.bipush 7, 2) := by decide +kernel
theorem zd_187_111 : decode (zm_cc 187) 111 = .ok (.bipush 9, 2) := by decide +kernel
theorem zd_187_113 : decode (zm_cc 187) 113 = .ok (.invokestatic 128, 3) := by decide +kernel
theorem zd_187_116 : decode (zm_cc 187) 116 = .ok (.ifCond .eq 22, 3) := by decide +kernel
theorem zd_187_119 : decode (zm_cc 187) 119 = .ok (.aload_n 0, 1) := by decide +kernel
theorem zd_187_120 : decode (zm_cc 187) 120 = .ok (.getfield 88, 3) := by decide +kernel
theorem zd_187_123 : decode (zm_cc 187) 123 = .ok (.bipush 6, 2) := by decide +kernel
theorem zd_187_125 : decode (zm_cc 187) 125 = .ok (.iload_n 3, 1) := by decide +kernel
theorem zd_187_126 : decode (zm_cc 187) 126 = .ok (.iadd, 1) := by decide +kernel
theorem zd_187_127 : decode (zm_cc 187) 127 = .ok (.iaload, 1) := by decide +kernel
theorem zd_187_128 : decode (zm_cc 187) 128 = .ok (.iload_n 1, 1) := by decide +kernel
theorem zd_187_129 : decode (zm_cc 187) 129 = .ok (.iconst 1, 1) := by decide +kernel
theorem zd_187_130 : decode (zm_cc 187) 130 = .ok (.iadd, 1) := by decide +kernel
theorem zd_187_131 : decode (zm_cc 187) 131 = .ok (.if_icmp .ne 7, 3) := by decide +kernel
theorem zd_187_134 : decode (zm_cc 187) 134 = .ok (.iconst 1, 1) := by decide +kernel
theorem zd_187_135 : decode (zm_cc 187) 135 = .ok (.goto 4, 3) := by decide +kernel
theorem zd_187_138 : decode (zm_cc 187) 138 = .ok (.iconst 0, 1) := by decide +kernel
theorem zd_187_139 : decode (zm_cc 187) 139 = .ok (.istore 4, 2) := by decide +kernel
theorem zd_187_141 : decode (zm_cc 187) 141 = .ok (.aload_n 0, 1) := by decide +kernel
theorem zd_187_142 : decode (zm_cc 187) 142 = .ok (.getfield 43, 3) := by decide +kernel
theorem zd_187_145 : decode (zm_cc 187) 145 = .ok (.iload_n 2, 1) := by decide +kernel
theorem zd_187_146 : decode (zm_cc 187) 146 = .ok (.iaload, 1) := by decide +kernel
theorem zd_187_147 : decode (zm_cc 187) 147 = .ok (.tableswitch 471 0 13 #[69, 97, 117, 217, 245, 289, 289, 319, 387, 387, 422, 471, 444, 459], 69) := by decide +kernel
theorem zd_187_216 : decode (zm_cc 187) 216 = .ok (.aload_n 0, 1) := by decide +kernel
theorem zd_187_217 : decode (zm_cc 187) 217 = .ok (.getfield 88, 3) := by decide +kernel
theorem zd_187_220 : decode (zm_cc 187) 220 = .ok (.aload_n 0, 1) := by decide +kernel
theorem zd_187_221 : decode (zm_cc 187) 221 = .ok (.iload_n 1, 1) := by decide +kernel
theorem zd_187_222 : decode (zm_cc 187) 222 = .ok (.invokevirtual 348, 3) := by decide +kernel
theorem zd_187_225 : decode (zm_cc 187) 225 = .ok (.iconst 2, 1) := by decide +kernel
theorem zd_187_226 : decode (zm_cc 187) 226 = .ok (.iadd, 1) := by decide +kernel
theorem zd_187_227 : decode (zm_cc 187) 227 = .ok (.aload_n 0, 1) := by decide +kernel
theorem zd_187_228 : decode (zm_cc 187) 228 = .ok (.getfield 61, 3) := by decide +kernel
theorem zd_187_231 : decode (zm_cc 187) 231 = .ok (.iload_n 2, 1) := by decide +kernel
theorem zd_187_232 : decode (zm_cc 187) 232 = .ok (.iaload, 1) := by decide +kernel
theorem zd_187_233 : decode (zm_cc 187) 233 = .ok (.iadd, 1) := by decide +kernel
theorem zd_187_234 : decode (zm_cc 187) 234 = .ok (.aload_n 0, 1) := by decide +kernel
theorem zd_187_235 : decode (zm_cc 187) 235 = .ok (.getfield 88, 3) := by decide +kernel
theorem zd_187_238 : decode (zm_cc 187) 238 = .ok (.iload_n 3, 1) := by decide +kernel
theorem zd_187_239 : decode (zm_cc 187) 239 = .ok (.iaload, 1) := by decide +kernel
theorem zd_187_240 : decode (zm_cc 187) 240 = .ok (.iastore, 1) := by decide +kernel
theorem zd_187_241 : decode (zm_cc 187) 241 = .ok (.goto 377, 3) := by decide +kernel
theorem zd_187_244 : decode (zm_cc 187) 244 = .ok (.aload_n 0, 1) := by decide +kernel
theorem zd_187_245 : decode (zm_cc 187) 245 = .ok (.getfield 88, 3) := by decide +kernel
theorem zd_187_248 : decode (zm_cc 187) 248 = .ok (.iload_n 3, 1) := by decide +kernel
theorem zd_187_249 : decode (zm_cc 187) 249 = .ok (.aload_n 0, 1) := by decide +kernel
theorem zd_187_250 : decode (zm_cc 187) 250 = .ok (.iload_n 1, 1) := by decide +kernel
theorem zd_187_251 : decode (zm_cc 187) 251 = .ok (.aload_n 0, 1) := by decide +kernel
theorem zd_187_252 : decode (zm_cc 187) 252 = .ok (.getfield 64, 3) := by decide +kernel
theorem zd_187_255 : decode (zm_cc 187) 255 = .ok (.iload_n 2, 1) := by decide +kernel
theorem zd_187_256 : decode (zm_cc 187) 256 = .ok (.iaload, 1) := by decide +kernel
theorem zd_187_257 : decode (zm_cc 187) 257 = .ok (.invokevirtual 351, 3) := by decide +kernel
theorem zd_187_260 : decode (zm_cc 187) 260 = .ok (.iastore, 1) := by decide +kernel
theorem zd_187_261 : decode (zm_cc 187) 261 = .ok (.goto 357, 3) := by decide +kernel
theorem zd_187_264 : decode (zm_cc 187) 264 = .ok (.aload_n 0, 1) := by decide +kernel
theorem zd_187_265 : decode (zm_cc 187) 265 = .ok (.iload_n 1, 1) := by decide +kernel
theorem zd_187_266 : decode (zm_cc 187) 266 = .ok (.aload_n 0, 1) := by decide +kernel
theorem zd_187_267 : decode (zm_cc 187) 267 = .ok (.getfield 64, 3) := by decide +kernel
theorem zd_187_270 : decode (zm_cc 187) 270 = .ok (.iload_n 2, 1) := by decide +kernel
theorem zd_187_271 : decode (zm_cc 187) 271 = .ok (.iaload, 1) := by decide +kernel
theorem zd_187_272 : decode (zm_cc 187) 272 = .ok (.invokevirtual 351, 3) := by decide +kernel
theorem zd_187_275 : decode (zm_cc 187) 275 = .ok (.istore 5, 2) := by decide +kernel
theorem zd_187_277 : decode (zm_cc 187) 277 = .ok (.aload_n 0, 1) := by decide +kernel
theorem zd_187_278 : decode (zm_cc 187) 278 = .ok (.getfield 70, 3) := by decide +kernel
theorem zd_187_281 : decode (zm_cc 187) 281 = .ok (.iload_n 2, 1) := by decide +kernel
theorem zd_187_282 : decode (zm_cc 187) 282 = .ok (.iaload, 1) := by decide +kernel
theorem zd_187_283 : decode (zm_cc 187) 283 = .ok (.bipush 43, 2) := by decide +kernel
theorem zd_187_285 : decode (zm_cc 187) 285 = .ok (.if_icmp .ne 20, 3) := by decide +kernel
theorem zd_187_288 : decode (zm_cc 187) 288 = .ok (.iload 5, 2) := by decide +kernel
theorem zd_187_290 : decode (zm_cc 187) 290 = .ok (.aload_n 0, 1) := by decide +kernel
theorem zd_187_291 : decode (zm_cc 187) 291 = .ok (.iload_n 1, 1) := by decide +kernel
theorem zd_187_292 : decode (zm_cc 187) 292 = .ok (.aload_n 0, 1) := by decide +kernel
theorem zd_187_293 : decode (zm_cc 187) 293 = .ok (.getfield 67, 3) := by decide +kernel
theorem zd_187_296 : decode (zm_cc 187) 296 = .ok (.iload_n 2, 1) := by decide +kernel
theorem zd_187_297 : decode (zm_cc 187) 297 = .ok (.iaload, 1) := by decide +kernel
theorem zd_187_298 : decode (zm_cc 187) 298 = .ok (.invokevirtual 351, 3) := by decide +kernel
theorem zd_187_301 : decode (zm_cc 187) 301 = .ok (.iadd, 1) := by decide +kernel
theorem zd_187_302 : decode (zm_cc 187) 302 = .ok (.goto 33, 3) := by decide +kernel
theorem zd_187_305 : decode (zm_cc 187) 305 = .ok (.aload_n 0, 1) := by decide +kernel
theorem zd_187_306 : decode (zm_cc 187) 306 = .ok (.getfield 70, 3) := by decide +kernel
theorem zd_187_309 : decode (zm_cc 187) 309 = .ok (.iload_n 2, 1) := by decide +kernel
theorem zd_187_310 : decode (zm_cc 187) 310 = .ok (.iaload, 1) := by decide +kernel
theorem zd_187_311 : decode (zm_cc 187) 311 = .ok (.bipush 45, 2) := by decide +kernel
theorem zd_187_313 : decode (zm_cc 187) 313 = .ok (.if_icmp .ne 20, 3) := by decide +kernel
theorem zd_187_316 : decode (zm_cc 187) 316 = .ok (.iload 5, 2) := by decide +kernel
theorem zd_187_318 : decode (zm_cc 187) 318 = .ok (.aload_n 0, 1) := by decide +kernel
theorem zd_187_319 : decode (zm_cc 187) 319 = .ok (.iload_n 1, 1) := by decide +kernel
theorem zd_187_320 : decode (zm_cc 187) 320 = .ok (.aload_n 0, 1) := by decide +kernel
theorem zd_187_321 : decode (zm_cc 187) 321 = .ok (.getfield 67, 3) := by decide +kernel
theorem zd_187_324 : decode (zm_cc 187) 324 = .ok (.iload_n 2, 1) := by decide +kernel
theorem zd_187_325 : decode (zm_cc 187) 325 = .ok (.iaload, 1) := by decide +kernel
theorem zd_187_326 : decode (zm_cc 187) 326 = .ok (.invokevirtual 351, 3) := by decide +kernel
theorem zd_187_329 : decode (zm_cc 187) 329 = .ok (.isub, 1) := by decide +kernel
theorem zd_187_330 : decode (zm_cc 187) 330 = .ok (.goto 5, 3) := by decide +kernel
theorem zd_187_333 : decode (zm_cc 187) 333 = .ok (.iload 5, 2) := by decide +kernel
theorem zd_187_335 : decode (zm_cc 187) 335 = .ok (.istore 5, 2) := by decide +kernel
theorem zd_187_337 : decode (zm_cc 187) 337 = .ok (.aload_n 0, 1) := by decide +kernel
theorem zd_187_338 : decode (zm_cc 187) 338 = .ok (.getfield 88, 3) := by decide +kernel
theorem zd_187_341 : decode (zm_cc 187) 341 = .ok (.aload_n 0, 1) := by decide +kernel
theorem zd_187_342 : decode (zm_cc 187) 342 = .ok (.iload_n 1, 1) := by decide +kernel
theorem zd_187_343 : decode (zm_cc 187) 343 = .ok (.invokevirtual 348, 3) := by decide +kernel
theorem zd_187_346 : decode (zm_cc 187) 346 = .ok (.iconst 2, 1) := by decide +kernel
theorem zd_187_347 : decode (zm_cc 187) 347 = .ok (.iadd, 1) := by decide +kernel
theorem zd_187_348 : decode (zm_cc 187) 348 = .ok (.aload_n 0, 1) := by decide +kernel
theorem zd_187_349 : decode (zm_cc 187) 349 = .ok (.getfield 61, 3) := by decide +kernel
theorem zd_187_352 : decode (zm_cc 187) 352 = .ok (.iload_n 2, 1) := by decide +kernel
theorem zd_187_353 : decode (zm_cc 187) 353 = .ok (.iaload, 1) := by decide +kernel
theorem zd_187_354 : decode (zm_cc 187) 354 = .ok (.iadd, 1) := by decide +kernel
theorem zd_187_355 : decode (zm_cc 187) 355 = .ok (.iload 5, 2) := by decide +kernel
theorem zd_187_357 : decode (zm_cc 187) 357 = .ok (.bipush 7, 2) := by decide +kernel
theorem zd_187_359 : decode (zm_cc 187) 359 = .ok (.iand, 1) := by decide +kernel
theorem zd_187_360 : decode (zm_cc 187) 360 = .ok (.iastore, 1) := by decide +kernel
theorem zd_187_361 : decode (zm_cc 187) 361 = .ok (.goto 257, 3) := by decide +kernel
theorem zd_187_364 : decode (zm_cc 187) 364 = .ok (.aload_n 0, 1) := by decide +kernel
theorem zd_187_365 : decode (zm_cc 187) 365 = .ok (.getfield 88, 3) := by decide +kernel
theorem zd_187_368 : decode (zm_cc 187) 368 = .ok (.bipush 6, 2) := by decide +kernel
theorem zd_187_370 : decode (zm_cc 187) 370 = .ok (.iload_n 3, 1) := by decide +kernel
theorem zd_187_371 : decode (zm_cc 187) 371 = .ok (.iadd, 1) := by decide +kernel
theorem zd_187_372 : decode (zm_cc 187) 372 = .ok (.iload_n 1, 1) := by decide +kernel
theorem zd_187_373 : decode (zm_cc 187) 373 = .ok (.iconst 1, 1) := by decide +kernel
theorem zd_187_374 : decode (zm_cc 187) 374 = .ok (.iadd, 1) := by decide +kernel
theorem zd_187_375 : decode (zm_cc 187) 375 = .ok (.iastore, 1) := by decide +kernel
theorem zd_187_376 : decode (zm_cc 187) 376 = .ok (.aload_n 0, 1) := by decide +kernel
theorem zd_187_377 : decode (zm_cc 187) 377 = .ok (.getfield 88, 3) := by decide +kernel
theorem zd_187_380 : decode (zm_cc 187) 380 = .ok (.bipush 10, 2) := by decide +kernel
theorem zd_187_382 : decode (zm_cc 187) 382 = .ok (.iload_n 3, 1) := by decide +kernel
theorem zd_187_383 : decode (zm_cc 187) 383 = .ok (.iadd, 1) := by decide +kernel
theorem zd_187_384 : decode (zm_cc 187) 384 = .ok (.dup2, 1) := by decide +kernel
theorem zd_187_385 : decode (zm_cc 187) 385 = .ok (.iaload, 1) := by decide +kernel
theorem zd_187_386 : decode (zm_cc 187) 386 = .ok (.iconst 1, 1) := by decide +kernel
theorem zd_187_387 : decode (zm_cc 187) 387 = .ok (.iadd, 1) := by decide +kernel
theorem zd_187_388 : decode (zm_cc 187) 388 = .ok (.iastore, 1) := by decide +kernel
theorem zd_187_389 : decode (zm_cc 187) 389 = .ok (.goto 229, 3) := by decide +kernel
theorem zd_187_392 : decode (zm_cc 187) 392 = .ok (.aload_n 0, 1) := by decide +kernel
theorem zd_187_393 : decode (zm_cc 187) 393 = .ok (.getfield 88, 3) := by decide +kernel
theorem zd_187_396 : decode (zm_cc 187) 396 = .ok (.bipush 10, 2) := by decide +kernel
theorem zd_187_398 : decode (zm_cc 187) 398 = .ok (.iload_n 3, 1) := by decide +kernel
theorem zd_187_399 : decode (zm_cc 187) 399 = .ok (.iadd, 1) := by decide +kernel
theorem zd_187_400 : decode (zm_cc 187) 400 = .ok (.dup2, 1) := by decide +kernel
theorem zd_187_401 : decode (zm_cc 187) 401 = .ok (.iaload, 1) := by decide +kernel
theorem zd_187_402 : decode (zm_cc 187) 402 = .ok (.iconst 1, 1) := by decide +kernel
theorem zd_187_403 : decode (zm_cc 187) 403 = .ok (.isub, 1) := by decide +kernel
theorem zd_187_404 : decode (zm_cc 187) 404 = .ok (.iastore, 1) := by decide +kernel
theorem zd_187_405 : decode (zm_cc 187) 405 = .ok (.aload_n 0, 1) := by decide +kernel
theorem zd_187_406 : decode (zm_cc 187) 406 = .ok (.getfield 88, 3) := by decide +kernel
theorem zd_187_409 : decode (zm_cc 187) 409 = .ok (.bipush 6, 2) := by decide +kernel
theorem zd_187_411 : decode (zm_cc 187) 411 = .ok (.iload_n 3, 1) := by decide +kernel
theorem zd_187_412 : decode (zm_cc 187) 412 = .ok (.iadd, 1) := by decide +kernel
theorem zd_187_413 : decode (zm_cc 187) 413 = .ok (.aload_n 0, 1) := by decide +kernel
theorem zd_187_414 : decode (zm_cc 187) 414 = .ok (.getfield 88, 3) := by decide +kernel
theorem zd_187_417 : decode (zm_cc 187) 417 = .ok (.bipush 10, 2) := by decide +kernel
theorem zd_187_419 : decode (zm_cc 187) 419 = .ok (.iload_n 3, 1) := by decide +kernel
theorem zd_187_420 : decode (zm_cc 187) 420 = .ok (.iadd, 1) := by decide +kernel
theorem zd_187_421 : decode (zm_cc 187) 421 = .ok (.iaload, 1) := by decide +kernel
theorem zd_187_422 : decode (zm_cc 187) 422 = .ok (.ifCond .ne 7, 3) := by decide +kernel
theorem zd_187_425 : decode (zm_cc 187) 425 = .ok (.iconst 0, 1) := by decide +kernel
theorem zd_187_426 : decode (zm_cc 187) 426 = .ok (.goto 6, 3) := by decide +kernel
theorem zd_187_429 : decode (zm_cc 187) 429 = .ok (.iload_n 1, 1) := by decide +kernel
theorem zd_187_430 : decode (zm_cc 187) 430 = .ok (.iconst 1, 1) := by decide +kernel
theorem zd_187_431 : decode (zm_cc 187) 431 = .ok (.iadd, 1) := by decide +kernel
theorem zd_187_432 : decode (zm_cc 187) 432 = .ok (.iastore, 1) := by decide +kernel
theorem zd_187_433 : decode (zm_cc 187) 433 = .ok (.goto 185, 3) := by decide +kernel
theorem zd_187_436 : decode (zm_cc 187) 436 = .ok (.aload_n 0, 1) := by decide +kernel
theorem zd_187_437 : decode (zm_cc 187) 437 = .ok (.iload_n 1, 1) := by decide +kernel
theorem zd_187_438 : decode (zm_cc 187) 438 = .ok (.aload_n 0, 1) := by decide +kernel
theorem zd_187_439 : decode (zm_cc 187) 439 = .ok (.iload_n 1, 1) := by decide +kernel
theorem zd_187_440 : decode (zm_cc 187) 440 = .ok (.iload_n 2, 1) := by decide +kernel
theorem zd_187_441 : decode (zm_cc 187) 441 = .ok (.invokevirtual 363, 3) := by decide +kernel
theorem zd_187_444 : decode (zm_cc 187) 444 = .ok (.ifCond .eq 12, 3) := by decide +kernel
theorem zd_187_447 : decode (zm_cc 187) 447 = .ok (.aload_n 0, 1) := by decide +kernel
theorem zd_187_448 : decode (zm_cc 187) 448 = .ok (.getfield 49, 3) := by decide +kernel
theorem zd_187_451 : decode (zm_cc 187) 451 = .ok (.iload_n 2, 1) := by decide +kernel
theorem zd_187_452 : decode (zm_cc 187) 452 = .ok (.iaload, 1) := by decide +kernel
theorem zd_187_453 : decode (zm_cc 187) 453 = .ok (.goto 9, 3) := by decide +kernel
theorem zd_187_456 : decode (zm_cc 187) 456 = .ok (.aload_n 0, 1) := by decide +kernel
theorem zd_187_457 : decode (zm_cc 187) 457 = .ok (.getfield 52, 3) := by decide +kernel
theorem zd_187_460 : decode (zm_cc 187) 460 = .ok (.iload_n 2, 1) := by decide +kernel
theorem zd_187_461 : decode (zm_cc 187) 461 = .ok (.iaload, 1) := by decide +kernel
theorem zd_187_462 : decode (zm_cc 187) 462 = .ok (.invokevirtual 360, 3) := by decide +kernel
theorem zd_187_465 : decode (zm_cc 187) 465 = .ok (.return_, 1) := by decide +kernel
theorem zd_187_466 : decode (zm_cc 187) 466 = .ok (.iload 4, 2) := by decide +kernel
theorem zd_187_468 : decode (zm_cc 187) 468 = .ok (.ifCond .eq 60, 3) := by decide +kernel
theorem zd_187_471 : decode (zm_cc 187) 471 = .ok (.aload_n 0, 1) := by decide +kernel
theorem zd_187_472 : decode (zm_cc 187) 472 = .ok (.getfield 88, 3) := by decide +kernel
theorem zd_187_475 : decode (zm_cc 187) 475 = .ok (.aload_n 0, 1) := by decide +kernel
theorem zd_187_476 : decode (zm_cc 187) 476 = .ok (.iload_n 1, 1) := by decide +kernel
theorem zd_187_477 : decode (zm_cc 187) 477 = .ok (.invokevirtual 348, 3) := by decide +kernel
theorem zd_187_480 : decode (zm_cc 187) 480 = .ok (.iconst 5, 1) := by decide +kernel
theorem zd_187_481 : decode (zm_cc 187) 481 = .ok (.iadd, 1) := by decide +kernel
theorem zd_187_482 : decode (zm_cc 187) 482 = .ok (.aload_n 0, 1) := by decide +kernel
theorem zd_187_483 : decode (zm_cc 187) 483 = .ok (.getfield 88, 3) := by decide +kernel
theorem zd_187_486 : decode (zm_cc 187) 486 = .ok (.bipush 10, 2) := by decide +kernel
theorem zd_187_488 : decode (zm_cc 187) 488 = .ok (.iload_n 3, 1) := by decide +kernel
theorem zd_187_489 : decode (zm_cc 187) 489 = .ok (.iadd, 1) := by decide +kernel
theorem zd_187_490 : decode (zm_cc 187) 490 = .ok (.iaload, 1) := by decide +kernel
theorem zd_187_491 : decode (zm_cc 187) 491 = .ok (.iastore, 1) := by decide +kernel
theorem zd_187_492 : decode (zm_cc 187) 492 = .ok (.aload_n 0, 1) := by decide +kernel
theorem zd_187_493 : decode (zm_cc 187) 493 = .ok (.getfield 88, 3) := by decide +kernel
theorem zd_187_496 : decode (zm_cc 187) 496 = .ok (.bipush 6, 2) := by decide +kernel
theorem zd_187_498 : decode (zm_cc 187) 498 = .ok (.iload_n 3, 1) := by decide +kernel
theorem zd_187_499 : decode (zm_cc 187) 499 = .ok (.iadd, 1) := by decide +kernel
theorem zd_187_500 : decode (zm_cc 187) 500 = .ok (.iconst 0, 1) := by decide +kernel
theorem zd_187_501 : decode (zm_cc 187) 501 = .ok (.iastore, 1) := by decide +kernel
theorem zd_187_502 : decode (zm_cc 187) 502 = .ok (.aload_n 0, 1) := by decide +kernel
theorem zd_187_503 : decode (zm_cc 187) 503 = .ok (.getfield 88, 3) := by decide +kernel
theorem zd_187_506 : decode (zm_cc 187) 506 = .ok (.bipush 10, 2) := by decide +kernel
theorem zd_187_508 : decode (zm_cc 187) 508 = .ok (.iload_n 3, 1) := by decide +kernel
theorem zd_187_509 : decode (zm_cc 187) 509 = .ok (.iadd, 1) := by decide +kernel
theorem zd_187_510 : decode (zm_cc 187) 510 = .ok (.iconst 0, 1) := by decide +kernel
theorem zd_187_511 : decode (zm_cc 187) 511 = .ok (.iastore, 1) := by decide +kernel
theorem zd_187_512 : decode (zm_cc 187) 512 = .ok (.aload_n 0, 1) := by decide +kernel
theorem zd_187_513 : decode (zm_cc 187) 513 = .ok (.getfield 88, 3) := by decide +kernel
theorem zd_187_516 : decode (zm_cc 187) 516 = .ok (.aload_n 0, 1) := by decide +kernel
theorem zd_187_517 : decode (zm_cc 187) 517 = .ok (.iload_n 1, 1) := by decide +kernel
theorem zd_187_518 : decode (zm_cc 187) 518 = .ok (.invokevirtual 348, 3) := by decide +kernel
theorem zd_187_521 : decode (zm_cc 187) 521 = .ok (.iconst 1, 1) := by decide +kernel
theorem zd_187_522 : decode (zm_cc 187) 522 = .ok (.iadd, 1) := by decide +kernel
theorem zd_187_523 : decode (zm_cc 187) 523 = .ok (.iconst 2, 1) := by decide +kernel
theorem zd_187_524 : decode (zm_cc 187) 524 = .ok (.iastore, 1) := by decide +kernel
theorem zd_187_525 : decode (zm_cc 187) 525 = .ok (.goto 8, 3) := by decide +kernel
theorem zd_187_528 : decode (zm_cc 187) 528 = .ok (.aload_n 0, 1) := by decide +kernel
theorem zd_187_529 : decode (zm_cc 187) 529 = .ok (.iload_n 1, 1) := by decide +kernel
theorem zd_187_530 : decode (zm_cc 187) 530 = .ok (.invokevirtual 366, 3) := by decide +kernel
theorem zd_187_533 : decode (zm_cc 187) 533 = .ok (.return_, 1) := by decide +kernel
theorem zd_187_534 : decode (zm_cc 187) 534 = .ok (.iload 4, 2) := by decide +kernel
theorem zd_187_536 : decode (zm_cc 187) 536 = .ok (.ifCond .ne 9, 3) := by decide +kernel
theorem zd_187_539 : decode (zm_cc 187) 539 = .ok (.aload_n 0, 1) := by decide +kernel
theorem zd_187_540 : decode (zm_cc 187) 540 = .ok (.iload_n 1, 1) := by decide +kernel
theorem zd_187_541 : decode (zm_cc 187) 541 = .ok (.invokevirtual 366, 3) := by decide +kernel
theorem zd_187_544 : decode (zm_cc 187) 544 = .ok (.return_, 1) := by decide +kernel
theorem zd_187_545 : decode (zm_cc 187) 545 = .ok (.aload_n 0, 1) := by decide +kernel
theorem zd_187_546 : decode (zm_cc 187) 546 = .ok (.iload_n 3, 1) := by decide +kernel
theorem zd_187_547 : decode (zm_cc 187) 547 = .ok (.aload_n 0, 1) := by decide +kernel
theorem zd_187_548 : decode (zm_cc 187) 548 = .ok (.getfield 43, 3) := by decide +kernel
theorem zd_187_551 : decode (zm_cc 187) 551 = .ok (.iload_n 2, 1) := by decide +kernel
theorem zd_187_552 : decode (zm_cc 187) 552 = .ok (.iaload, 1) := by decide +kernel
theorem zd_187_553 : decode (zm_cc 187) 553 = .ok (.bipush 9, 2) := by decide +kernel
theorem zd_187_555 : decode (zm_cc 187) 555 = .ok (.if_icmp .ne 7, 3) := by decide +kernel
theorem zd_187_558 : decode (zm_cc 187) 558 = .ok (.iconst 1, 1) := by decide +kernel
theorem zd_187_559 : decode (zm_cc 187) 559 = .ok (.goto 4, 3) := by decide +kernel
theorem zd_187_562 : decode (zm_cc 187) 562 = .ok (.iconst 0, 1) := by decide +kernel
theorem zd_187_563 : decode (zm_cc 187) 563 = .ok (.invokevirtual 369, 3) := by decide +kernel
theorem zd_187_566 : decode (zm_cc 187) 566 = .ok (.goto 52, 3) := by decide +kernel
theorem zd_187_569 : decode (zm_cc 187) 569 = .ok (.aload_n 0, 1) := by decide +kernel
theorem zd_187_570 : decode (zm_cc 187) 570 = .ok (.iload_n 3, 1) := by decide +kernel
theorem zd_187_571 : decode (zm_cc 187) 571 = .ok (.invokevirtual 357, 3) := by decide +kernel
theorem zd_187_574 : decode (zm_cc 187) 574 = .ok (.ifCond .eq 9, 3) := by decide +kernel
theorem zd_187_577 : decode (zm_cc 187) 577 = .ok (.aload_n 0, 1) := by decide +kernel
theorem zd_187_578 : decode (zm_cc 187) 578 = .ok (.iload_n 1, 1) := by decide +kernel
theorem zd_187_579 : decode (zm_cc 187) 579 = .ok (.invokevirtual 366, 3) := by decide +kernel
theorem zd_187_582 : decode (zm_cc 187) 582 = .ok (.return_, 1) := by decide +kernel
theorem zd_187_583 : decode (zm_cc 187) 583 = .ok (.aload_n 0, 1) := by decide +kernel
theorem zd_187_584 : decode (zm_cc 187) 584 = .ok (.iload_n 3, 1) := by decide +kernel
theorem zd_187_585 : decode (zm_cc 187) 585 = .ok (.invokevirtual 373, 3) := by decide +kernel
theorem zd_187_588 : decode (zm_cc 187) 588 = .ok (.goto 30, 3) := by decide +kernel
theorem zd_187_591 : decode (zm_cc 187) 591 = .ok (.aload_n 0, 1) := by decide +kernel
theorem zd_187_592 : decode (zm_cc 187) 592 = .ok (.iload_n 1, 1) := by decide +kernel
theorem zd_187_593 : decode (zm_cc 187) 593 = .ok (.iload_n 2, 1) := by decide +kernel
theorem zd_187_594 : decode (zm_cc 187) 594 = .ok (.invokevirtual 363, 3) := by decide +kernel
theorem zd_187_597 : decode (zm_cc 187) 597 = .ok (.ifCond .ne 21, 3) := by decide +kernel
theorem zd_187_600 : decode (zm_cc 187) 600 = .ok (.aload_n 0, 1) := by decide +kernel
theorem zd_187_601 : decode (zm_cc 187) 601 = .ok (.iload_n 1, 1) := by decide +kernel
theorem zd_187_602 : decode (zm_cc 187) 602 = .ok (.invokevirtual 366, 3) := by decide +kernel
theorem zd_187_605 : decode (zm_cc 187) 605 = .ok (.return_, 1) := by decide +kernel
theorem zd_187_606 : decode (zm_cc 187) 606 = .ok (.aload_n 0, 1) := by decide +kernel
theorem zd_187_607 : decode (zm_cc 187) 607 = .ok (.iload_n 1, 1) := by decide +kernel
theorem zd_187_608 : decode (zm_cc 187) 608 = .ok (.aload_n 0, 1) := by decide +kernel
theorem zd_187_609 : decode (zm_cc 187) 609 = .ok (.getfield 37, 3) := by decide +kernel
theorem zd_187_612 : decode (zm_cc 187) 612 = .ok (.iload_n 1, 1) := by decide +kernel
theorem zd_187_613 : decode (zm_cc 187) 613 = .ok (.iaload, 1) := by decide +kernel
theorem zd_187_614 : decode (zm_cc 187) 614 = .ok (.invokevirtual 360, 3) := by decide +kernel
theorem zd_187_617 : decode (zm_cc 187) 617 = .ok (.return_, 1) := by decide +kernel
theorem zd_187_618 : decode (zm_cc 187) 618 = .ok (.aload_n 0, 1) := by decide +kernel
theorem zd_187_619 : decode (zm_cc 187) 619 = .ok (.iload_n 1, 1) := by decide +kernel
theorem zd_187_620 : decode (zm_cc 187) 620 = .ok (.aload_n 0, 1) := by decide +kernel
theorem zd_187_621 : decode (zm_cc 187) 621 = .ok (.getfield 49, 3) := by decide +kernel
theorem zd_187_624 : decode (zm_cc 187) 624 = .ok (.iload_n 2, 1) := by decide +kernel
theorem zd_187_625 : decode (zm_cc 187) 625 = .ok (.iaload, 1) := by decide +kernel
theorem zd_187_626 : decode (zm_cc 187) 626 = .ok (.invokevirtual 360, 3) := by decide +kernel
theorem zd_187_629 : decode (zm_cc 187) 629 = .ok (.return_, 1) := by decide +kernel
theorem zd_188_0 : decode (zm_cc 188) 0 = .ok (.iload_n 2, 1) := by decide +kernel
theorem zd_188_1 : decode (zm_cc 188) 1 = .ok (.bipush 8, 2) := by decide +kernel
theorem zd_188_3 : decode (zm_cc 188) 3 = .ok (.if_icmp .ge 7, 3) := by decide +kernel
theorem zd_188_6 : decode (zm_cc 188) 6 = .ok (.iload_n 2, 1) := by decide +kernel
theorem zd_188_7 : decode (zm_cc 188) 7 = .ok (.goto 20, 3) := by decide +kernel
theorem zd_188_10 : decode (zm_cc 188) 10 = .ok (.aload_n 0, 1) := by decide +kernel
theorem zd_188_11 : decode (zm_cc 188) 11 = .ok (.getfield 88, 3) := by decide +kernel
theorem zd_188_14 : decode (zm_cc 188) 14 = .ok (.aload_n 0, 1) := by decide +kernel
theorem zd_188_15 : decode (zm_cc 188) 15 = .ok (.iload_n 1, 1) := by decide +kernel
theorem zd_188_16 : decode (zm_cc 188) 16 = .ok (.invokevirtual 348, 3) := by decide +kernel
theorem zd_188_19 : decode (zm_cc 188) 19 = .ok (.iconst 2, 1) := by decide +kernel
theorem zd_188_20 : decode (zm_cc 188) 20 = .ok (.iadd, 1) := by decide +kernel
theorem zd_188_21 : decode (zm_cc 188) 21 = .ok (.iload_n 2, 1) := by decide +kernel
theorem zd_188_22 : decode (zm_cc 188) 22 = .ok (.iadd, 1) := by decide +kernel
theorem zd_188_23 : decode (zm_cc 188) 23 = .ok (.bipush 8, 2) := by decide +kernel
theorem zd_188_25 : decode (zm_cc 188) 25 = .ok (.isub, 1) := by decide +kernel
theorem zd_188_26 : decode (zm_cc 188) 26 = .ok (.iaload, 1) := by decide +kernel
theorem zd_188_27 : decode (zm_cc 188) 27 = .ok (.ireturn, 1) := by decide +kernel
theorem zd_189_0 : decode (zm_cc 189) 0 = .ok (.aload_n 0, 1) := by decide +kernel
theorem zd_189_1 : decode (zm_cc 189) 1 = .ok (.iload_n 1, 1) := by decide +kernel
theorem zd_189_2 : decode (zm_cc 189) 2 = .ok (.aload_n 0, 1) := by decide +kernel
theorem zd_189_3 : decode (zm_cc 189) 3 = .ok (.getfield 64, 3) := by decide +kernel
theorem zd_189_6 : decode (zm_cc 189) 6 = .ok (.iload_n 2, 1) := by decide +kernel
theorem zd_189_7 : decode (zm_cc 189) 7 = .ok (.iaload, 1) := by decide +kernel
theorem zd_189_8 : decode (zm_cc 189) 8 = .ok (.invokevirtual 351, 3) := by decide +kernel
theorem zd_189_11 : decode (zm_cc 189) 11 = .ok (.istore_n 3, 1) := by decide +kernel
theorem zd_189_12 : decode (zm_cc 189) 12 = .ok (.aload_n 0, 1) := by decide +kernel
theorem zd_189_13 : decode (zm_cc 189) 13 = .ok (.iload_n 1, 1) := by decide +kernel
theorem zd_189_14 : decode (zm_cc 189) 14 = .ok (.aload_n 0, 1) := by decide +kernel
theorem zd_189_15 : decode (zm_cc 189) 15 = .ok (.getfield 67, 3) := by decide +kernel
theorem zd_189_18 : decode (zm_cc 189) 18 = .ok (.iload_n 2, 1) := by decide +kernel
theorem zd_189_19 : decode (zm_cc 189) 19 = .ok (.iaload, 1) := by decide +kernel
theorem zd_189_20 : decode (zm_cc 189) 20 = .ok (.invokevirtual 351, 3) := by decide +kernel
theorem zd_189_23 : decode (zm_cc 189) 23 = .ok (.istore 4, 2) := by decide +kernel
theorem zd_189_25 : decode (zm_cc 189) 25 = .ok (.aload_n 0, 1) := by decide +kernel
theorem zd_189_26 : decode (zm_cc 189) 26 = .ok (.getfield 70, 3) := by decide +kernel
theorem zd_189_29 : decode (zm_cc 189) 29 = .ok (.iload_n 2, 1) := by decide +kernel
theorem zd_189_30 : decode (zm_cc 189) 30 = .ok (.iaload, 1) := by decide +kernel
theorem zd_189_31 : decode (zm_cc 189) 31 = .ok (.sipush 1000, 3) := by decide +kernel
theorem zd_189_34 : decode (zm_cc 189) 34 = .ok (.if_icmp .ne 17, 3) := by decide +kernel
theorem zd_189_37 : decode (zm_cc 189) 37 = .ok (.iload_n 3, 1) := by decide +kernel
theorem zd_189_38 : decode (zm_cc 189) 38 = .ok (.iload 4, 2) := by decide +kernel
theorem zd_189_40 : decode (zm_cc 189) 40 = .ok (.if_icmp .ne 7, 3) := by decide +kernel
theorem zd_189_43 : decode (zm_cc 189) 43 = .ok (.iconst 1, 1) := by decide +kernel
theorem zd_189_44 : decode (zm_cc 189) 44 = .ok (.goto 69, 3) := by decide +kernel
theorem zd_189_47 : decode (zm_cc 189) 47 = .ok (.iconst 0, 1) := by decide +kernel
theorem zd_189_48 : decode (zm_cc 189) 48 = .ok (.goto 65, 3) := by decide +kernel
theorem zd_189_51 : decode (zm_cc 189) 51 = .ok (.aload_n 0, 1) := by decide +kernel
theorem zd_189_52 : decode (zm_cc 189) 52 = .ok (.getfield 70, 3) := by decide +kernel
theorem zd_189_55 : decode (zm_cc 189) 55 = .ok (.iload_n 2, 1) := by decide +kernel
theorem zd_189_56 : decode (zm_cc 189) 56 = .ok (.iaload, 1) := by decide +kernel
theorem zd_189_57 : decode (zm_cc 189) 57 = .ok (.sipush 1001, 3) := by decide +kernel
theorem zd_189_60 : decode (zm_cc 189) 60 = .ok (.if_icmp .ne 17, 3) := by decide +kernel
theorem zd_189_63 : decode (zm_cc 189) 63 = .ok (.iload_n 3, 1) := by decide +kernel
theorem zd_189_64 : decode (zm_cc 189) 64 = .ok (.iload 4, 2) := by decide +kernel
theorem zd_189_66 : decode (zm_cc 189) 66 = .ok (.if_icmp .eq 7, 3) := by decide +kernel
theorem zd_189_69 : decode (zm_cc 189) 69 = .ok (.iconst 1, 1) := by decide +kernel
theorem zd_189_70 : decode (zm_cc 189) 70 = .ok (.goto 43, 3) := by decide +kernel
theorem zd_189_73 : decode (zm_cc 189) 73 = .ok (.iconst 0, 1) := by decide +kernel
theorem zd_189_74 : decode (zm_cc 189) 74 = .ok (.goto 39, 3) := by decide +kernel
theorem zd_189_77 : decode (zm_cc 189) 77 = .ok (.aload_n 0, 1) := by decide +kernel
theorem zd_189_78 : decode (zm_cc 189) 78 = .ok (.getfield 70, 3) := by decide +kernel
theorem zd_189_81 : decode (zm_cc 189) 81 = .ok (.iload_n 2, 1) := by decide +kernel
theorem zd_189_82 : decode (zm_cc 189) 82 = .ok (.iaload, 1) := by decide +kernel
theorem zd_189_83 : decode (zm_cc 189) 83 = .ok (.bipush 60, 2) := by decide +kernel
theorem zd_189_85 : decode (zm_cc 189) 85 = .ok (.if_icmp .ne 17, 3) := by decide +kernel
theorem zd_189_88 : decode (zm_cc 189) 88 = .ok (.iload_n 3, 1) := by decide +kernel
theorem zd_189_89 : decode (zm_cc 189) 89 = .ok (.iload 4, 2) := by decide +kernel
theorem zd_189_91 : decode (zm_cc 189) 91 = .ok (.if_icmp .ge 7, 3) := by decide +kernel
theorem zd_189_94 : decode (zm_cc 189) 94 = .ok (.iconst 1, 1) := by decide +kernel
theorem zd_189_95 : decode (zm_cc 189) 95 = .ok (.goto 18, 3) := by decide +kernel
theorem zd_189_98 : decode (zm_cc 189) 98 = .ok (.iconst 0, 1) := by decide +kernel
theorem zd_189_99 : decode (zm_cc 189) 99 = .ok (.goto 14, 3) := by decide +kernel
theorem zd_189_102 : decode (zm_cc 189) 102 = .ok (.iload_n 3, 1) := by decide +kernel
theorem zd_189_103 : decode (zm_cc 189) 103 = .ok (.iload 4, 2) := by decide +kernel
theorem zd_189_105 : decode (zm_cc 189) 105 = .ok (.if_icmp .le 7, 3) := by decide +kernel
theorem zd_189_108 : decode (zm_cc 189) 108 = .ok (.iconst 1, 1) := by decide +kernel
theorem zd_189_109 : decode (zm_cc 189) 109 = .ok (.goto 4, 3) := by decide +kernel
theorem zd_189_112 : decode (zm_cc 189) 112 = .ok (.iconst 0, 1) := by decide +kernel
theorem zd_189_113 : decode (zm_cc 189) 113 = .ok (.ireturn, 1) := by decide +kernel
theorem zd_190_0 : decode (zm_cc 190) 0 = .ok (.aload_n 0, 1) := by decide +kernel
theorem zd_190_1 : decode (zm_cc 190) 1 = .ok (.getfield 88, 3) := by decide +kernel
theorem zd_190_4 : decode (zm_cc 190) 4 = .ok (.aload_n 0, 1) := by decide +kernel
theorem zd_190_5 : decode (zm_cc 190) 5 = .ok (.iload_n 1, 1) := by decide +kernel
theorem zd_190_6 : decode (zm_cc 190) 6 = .ok (.invokevirtual 348, 3) := by decide +kernel
theorem zd_190_9 : decode (zm_cc 190) 9 = .ok (.iconst 1, 1) := by decide +kernel
theorem zd_190_10 : decode (zm_cc 190) 10 = .ok (.iadd, 1) := by decide +kernel
theorem zd_190_11 : decode (zm_cc 190) 11 = .ok (.iconst 5, 1) := by decide +kernel
theorem zd_190_12 : decode (zm_cc 190) 12 = .ok (.iastore, 1) := by decide +kernel
theorem zd_190_13 : decode (zm_cc 190) 13 = .ok (.aload_n 0, 1) := by decide +kernel
theorem zd_190_14 : decode (zm_cc 190) 14 = .ok (.iload_n 1, 1) := by decide +kernel
theorem zd_190_15 : decode (zm_cc 190) 15 = .ok (.invokevirtual 354, 3) := by decide +kernel
theorem zd_190_18 : decode (zm_cc 190) 18 = .ok (.return_, 1) := by decide +kernel
theorem zd_191_0 : decode (zm_cc 191) 0 = .ok (.iconst 1, 1) := by decide +kernel
theorem zd_191_1 : decode (zm_cc 191) 1 = .ok (.istore_n 3, 1) := by decide +kernel
theorem zd_191_2 : decode (zm_cc 191) 2 = .ok (.iconst 0, 1) := by decide +kernel
theorem zd_191_3 : decode (zm_cc 191) 3 = .ok (.istore 4, 2) := by decide +kernel
theorem zd_191_5 : decode (zm_cc 191) 5 = .ok (.iload 4, 2) := by decide +kernel
theorem zd_191_7 : decode (zm_cc 191) 7 = .ok (.aload_n 0, 1) := by decide +kernel
theorem zd_191_8 : decode (zm_cc 191) 8 = .ok (.getfield 225, 3) := by decide +kernel
theorem zd_191_11 : decode (zm_cc 191) 11 = .ok (.if_icmp .ge 65, 3) := by decide +kernel
theorem zd_191_14 : decode (zm_cc 191) 14 = .ok (.iload_n 3, 1) := by decide +kernel
theorem zd_191_15 : decode (zm_cc 191) 15 = .ok (.ifCond .eq 61, 3) := by decide +kernel
theorem zd_191_18 : decode (zm_cc 191) 18 = .ok (.aload_n 0, 1) := by decide +kernel
theorem zd_191_19 : decode (zm_cc 191) 19 = .ok (.iload 4, 2) := by decide +kernel
theorem zd_191_21 : decode (zm_cc 191) 21 = .ok (.invokevirtual 357, 3) := by decide +kernel
theorem zd_191_24 : decode (zm_cc 191) 24 = .ok (.iconst 2, 1) := by decide +kernel
theorem zd_191_25 : decode (zm_cc 191) 25 = .ok (.if_icmp .ne 45, 3) := by decide +kernel
theorem zd_191_28 : decode (zm_cc 191) 28 = .ok (.aload_n 0, 1) := by decide +kernel
theorem zd_191_29 : decode (zm_cc 191) 29 = .ok (.getfield 46, 3) := by decide +kernel
theorem zd_191_32 : decode (zm_cc 191) 32 = .ok (.bipush 24, 2) := by decide +kernel
theorem zd_191_34 : decode (zm_cc 191) 34 = .ok (.iload 4, 2) := by decide +kernel
theorem zd_191_36 : decode (zm_cc 191) 36 = .ok (.imul, 1) := by decide +kernel
theorem zd_191_37 : decode (zm_cc 191) 37 = .ok (.aload_n 0, 1) := by decide +kernel
theorem zd_191_38 : decode (zm_cc 191) 38 = .ok (.getfield 88, 3) := by decide +kernel
theorem zd_191_41 : decode (zm_cc 191) 41 = .ok (.aload_n 0, 1) := by decide +kernel
theorem zd_191_42 : decode (zm_cc 191) 42 = .ok (.iload 4, 2) := by decide +kernel
theorem zd_191_44 : decode (zm_cc 191) 44 = .ok (.invokevirtual 348, 3) := by decide +kernel
theorem zd_191_47 : decode (zm_cc 191) 47 = .ok (.iaload, 1) := by decide +kernel
theorem zd_191_48 : decode (zm_cc 191) 48 = .ok (.iadd, 1) := by decide +kernel
theorem zd_191_49 : decode (zm_cc 191) 49 = .ok (.iaload, 1) := by decide +kernel
theorem zd_191_50 : decode (zm_cc 191) 50 = .ok (.iload_n 1, 1) := by decide +kernel
theorem zd_191_51 : decode (zm_cc 191) 51 = .ok (.if_icmp .ne 19, 3) := by decide +kernel
theorem zd_191_54 : decode (zm_cc 191) 54 = .ok (.aload_n 0, 1) := by decide +kernel
theorem zd_191_55 : decode (zm_cc 191) 55 = .ok (.getfield 88, 3) := by decide +kernel
theorem zd_191_58 : decode (zm_cc 191) 58 = .ok (.aload_n 0, 1) := by decide +kernel
theorem zd_191_59 : decode (zm_cc 191) 59 = .ok (.iload 4, 2) := by decide +kernel
theorem zd_191_61 : decode (zm_cc 191) 61 = .ok (.invokevirtual 348, 3) := by decide +kernel
theorem zd_191_64 : decode (zm_cc 191) 64 = .ok (.iconst 1, 1) := by decide +kernel
theorem zd_191_65 : decode (zm_cc 191) 65 = .ok (.iadd, 1) := by decide +kernel
theorem zd_191_66 : decode (zm_cc 191) 66 = .ok (.iconst 3, 1) := by decide +kernel
theorem zd_191_67 : decode (zm_cc 191) 67 = .ok (.iastore, 1) := by decide +kernel
theorem zd_191_68 : decode (zm_cc 191) 68 = .ok (.iload_n 2, 1) := by decide +kernel
theorem zd_191_69 : decode (zm_cc 191) 69 = .ok (.istore_n 3, 1) := by decide +kernel
theorem zd_191_70 : decode (zm_cc 191) 70 = .ok (.iinc 4 1, 3) := by decide +kernel
theorem zd_191_73 : decode (zm_cc 191) 73 = .ok (.goto (-68), 3) := by decide +kernel
theorem zd_191_76 : decode (zm_cc 191) 76 = .ok (.return_, 1) := by decide +kernel
theorem zd_192_0 : decode (zm_cc 192) 0 = .ok (.iconst 0, 1) := by decide +kernel
theorem zd_192_1 : decode (zm_cc 192) 1 = .ok (.istore_n 1, 1) := by decide +kernel
theorem zd_192_2 : decode (zm_cc 192) 2 = .ok (.iload_n 1, 1) := by decide +kernel
theorem zd_192_3 : decode (zm_cc 192) 3 = .ok (.aload_n 0, 1) := by decide +kernel
theorem zd_192_4 : decode (zm_cc 192) 4 = .ok (.getfield 225, 3) := by decide +kernel
theorem zd_192_7 : decode (zm_cc 192) 7 = .ok (.if_icmp .ge 31, 3) := by decide +kernel
theorem zd_192_10 : decode (zm_cc 192) 10 = .ok (.aload_n 0, 1) := by decide +kernel
theorem zd_192_11 : decode (zm_cc 192) 11 = .ok (.iload_n 1, 1) := by decide +kernel
theorem zd_192_12 : decode (zm_cc 192) 12 = .ok (.invokevirtual 357, 3) := by decide +kernel
theorem zd_192_15 : decode (zm_cc 192) 15 = .ok (.istore_n 2, 1) := by decide +kernel
theorem zd_192_16 : decode (zm_cc 192) 16 = .ok (.iload_n 2, 1) := by decide +kernel
theorem zd_192_17 : decode (zm_cc 192) 17 = .ok (.iconst 4, 1) := by decide +kernel
theorem zd_192_18 : decode (zm_cc 192) 18 = .ok (.if_icmp .eq 14, 3) := by decide +kernel
theorem zd_192_21 : decode (zm_cc 192) 21 = .ok (.iload_n 2, 1) := by decide +kernel
theorem zd_192_22 : decode (zm_cc 192) 22 = .ok (.iconst 5, 1) := by decide +kernel
theorem zd_192_23 : decode (zm_cc 192) 23 = .ok (.if_icmp .eq 9, 3) := by decide +kernel
theorem zd_192_26 : decode (zm_cc 192) 26 = .ok (.iload_n 2, 1) := by decide +kernel
theorem zd_192_27 : decode (zm_cc 192) 27 = .ok (.ifCond .eq 5, 3) := by decide +kernel
theorem zd_192_30 : decode (zm_cc 192) 30 = .ok (.iconst 2, 1) := by decide +kernel
theorem zd_192_31 : decode (zm_cc 192) 31 = .ok (.ireturn, 1) := by decide +kernel
theorem zd_192_32 : decode (zm_cc 192) 32 = .ok (.iinc 1 1, 3) := by decide +kernel
theorem zd_192_35 : decode (zm_cc 192) 35 = .ok (.goto (-33), 3) := by decide +kernel
theorem zd_192_38 : decode (zm_cc 192) 38 = .ok (.iconst 1, 1) := by decide +kernel
theorem zd_192_39 : decode (zm_cc 192) 39 = .ok (.ireturn, 1) := by decide +kernel
theorem zd_193_0 : decode (zm_cc 193) 0 = .ok (.iconst 1, 1) := by decide +kernel
theorem zd_193_1 : decode (zm_cc 193) 1 = .ok (.istore_n 3, 1) := by decide +kernel
theorem zd_193_2 : decode (zm_cc 193) 2 = .ok (.iconst 0, 1) := by decide +kernel
theorem zd_193_3 : decode (zm_cc 193) 3 = .ok (.istore 4, 2) := by decide +kernel
theorem zd_193_5 : decode (zm_cc 193) 5 = .ok (.iload 4, 2) := by decide +kernel
theorem zd_193_7 : decode (zm_cc 193) 7 = .ok (.aload_n 0, 1) := by decide +kernel
theorem zd_193_8 : decode (zm_cc 193) 8 = .ok (.getfield 215, 3) := by decide +kernel
theorem zd_193_11 : decode (zm_cc 193) 11 = .ok (.if_icmp .ge 46, 3) := by decide +kernel
theorem zd_193_14 : decode (zm_cc 193) 14 = .ok (.iload_n 3, 1) := by decide +kernel
theorem zd_193_15 : decode (zm_cc 193) 15 = .ok (.ifCond .eq 34, 3) := by decide +kernel
theorem zd_193_18 : decode (zm_cc 193) 18 = .ok (.aload_n 0, 1) := by decide +kernel
theorem zd_193_19 : decode (zm_cc 193) 19 = .ok (.getfield 92, 3) := by decide +kernel
theorem zd_193_22 : decode (zm_cc 193) 22 = .ok (.bipush 40, 2) := by decide +kernel
theorem zd_193_24 : decode (zm_cc 193) 24 = .ok (.iload_n 1, 1) := by decide +kernel
theorem zd_193_25 : decode (zm_cc 193) 25 = .ok (.imul, 1) := by decide +kernel
theorem zd_193_26 : decode (zm_cc 193) 26 = .ok (.iload 4, 2) := by decide +kernel
theorem zd_193_28 : decode (zm_cc 193) 28 = .ok (.iadd, 1) := by decide +kernel
theorem zd_193_29 : decode (zm_cc 193) 29 = .ok (.baload, 1) := by decide +kernel
theorem zd_193_30 : decode (zm_cc 193) 30 = .ok (.aload_n 0, 1) := by decide +kernel
theorem zd_193_31 : decode (zm_cc 193) 31 = .ok (.getfield 92, 3) := by decide +kernel
theorem zd_193_34 : decode (zm_cc 193) 34 = .ok (.bipush 40, 2) := by decide +kernel
theorem zd_193_36 : decode (zm_cc 193) 36 = .ok (.iload_n 2, 1) := by decide +kernel
theorem zd_193_37 : decode (zm_cc 193) 37 = .ok (.imul, 1) := by decide +kernel
theorem zd_193_38 : decode (zm_cc 193) 38 = .ok (.iload 4, 2) := by decide +kernel
theorem zd_193_40 : decode (zm_cc 193) 40 = .ok (.iadd, 1) := by decide +kernel
theorem zd_193_41 : decode (zm_cc 193) 41 = .ok (.baload, 1) := by decide +kernel
theorem zd_193_42 : decode (zm_cc 193) 42 = .ok (.if_icmp .ne 7, 3) := by decide +kernel
theorem zd_193_45 : decode (zm_cc 193) 45 = .ok (.iconst 1, 1) := by decide +kernel
theorem zd_193_46 : decode (zm_cc 193) 46 = .ok (.goto 4, 3) := by decide +kernel
theorem zd_193_49 : decode (zm_cc 193) 49 = .ok (.iconst 0, 1) := by decide +kernel
theorem zd_193_50 : decode (zm_cc 193) 50 = .ok (.istore_n 3, 1) := by decide +kernel
theorem zd_193_51 : decode (zm_cc 193) 51 = .ok (.iinc 4 1, 3) := by decide +kernel
theorem zd_193_54 : decode (zm_cc 193) 54 = .ok (.goto (-49), 3) := by decide +kernel
theorem zd_193_57 : decode (zm_cc 193) 57 = .ok (.iconst 0, 1) := by decide +kernel
theorem zd_193_58 : decode (zm_cc 193) 58 = .ok (.istore 4, 2) := by decide +kernel
theorem zd_193_60 : decode (zm_cc 193) 60 = .ok (.iconst 0, 1) := by decide +kernel
theorem zd_193_61 : decode (zm_cc 193) 61 = .ok (.istore 5, 2) := by decide +kernel
theorem zd_193_63 : decode (zm_cc 193) 63 = .ok (.iconst 0, 1) := by decide +kernel
theorem zd_193_64 : decode (zm_cc 193) 64 = .ok (.istore 6, 2) := by decide +kernel
theorem zd_193_66 : decode (zm_cc 193) 66 = .ok (.iload 6, 2) := by decide +kernel
theorem zd_193_68 : decode (zm_cc 193) 68 = .ok (.aload_n 0, 1) := by decide +kernel
theorem zd_193_69 : decode (zm_cc 193) 69 = .ok (.getfield 225, 3) := by decide +kernel
theorem zd_193_72 : decode (zm_cc 193) 72 = .ok (.if_icmp .ge 142, 3) := by decide +kernel
theorem zd_193_75 : decode (zm_cc 193) 75 = .ok (.aload_n 0, 1) := by decide +kernel
theorem zd_193_76 : decode (zm_cc 193) 76 = .ok (.getfield 92, 3) := by decide +kernel
theorem zd_193_79 : decode (zm_cc 193) 79 = .ok (.bipush 40, 2) := by decide +kernel
theorem zd_193_81 : decode (zm_cc 193) 81 = .ok (.iload_n 1, 1) := by decide +kernel
theorem zd_193_82 : decode (zm_cc 193) 82 = .ok (.imul, 1) := by decide +kernel
theorem zd_193_83 : decode (zm_cc 193) 83 = .ok (.aload_n 0, 1) := by decide +kernel
theorem zd_193_84 : decode (zm_cc 193) 84 = .ok (.iload 6, 2) := by decide +kernel
theorem zd_193_86 : decode (zm_cc 193) 86 = .ok (.invokevirtual 348, 3) := by decide +kernel
theorem zd_193_89 : decode (zm_cc 193) 89 = .ok (.iadd, 1) := by decide +kernel
theorem zd_193_90 : decode (zm_cc 193) 90 = .ok (.iconst 1, 1) := by decide +kernel
theorem zd_193_91 : decode (zm_cc 193) 91 = .ok (.iadd, 1) := by decide +kernel
theorem zd_193_92 : decode (zm_cc 193) 92 = .ok (.baload, 1) := by decide +kernel
theorem zd_193_93 : decode (zm_cc 193) 93 = .ok (.istore 7, 2) := by decide +kernel
theorem zd_193_95 : decode (zm_cc 193) 95 = .ok (.aload_n 0, 1) := by decide +kernel
theorem zd_193_96 : decode (zm_cc 193) 96 = .ok (.getfield 92, 3) := by decide +kernel
theorem zd_193_99 : decode (zm_cc 193) 99 = .ok (.bipush 40, 2) := by decide +kernel
theorem zd_193_101 : decode (zm_cc 193) 101 = .ok (.iload_n 2, 1) := by decide +kernel
theorem zd_193_102 : decode (zm_cc 193) 102 = .ok (.imul, 1) := by decide +kernel
theorem zd_193_103 : decode (zm_cc 193) 103 = .ok (.aload_n 0, 1) := by decide +kernel
theorem zd_193_104 : decode (zm_cc 193) 104 = .ok (.iload 6, 2) := by decide +kernel
theorem zd_193_106 : decode (zm_cc 193) 106 = .ok (.invokevirtual 348, 3) := by decide +kernel
theorem zd_193_109 : decode (zm_cc 193) 109 = .ok (.iadd, 1) := by decide +kernel
theorem zd_193_110 : decode (zm_cc 193) 110 = .ok (.iconst 1, 1) := by decide +kernel
theorem zd_193_111 : decode (zm_cc 193) 111 = .ok (.iadd, 1) := by decide +kernel
theorem zd_193_112 : decode (zm_cc 193) 112 = .ok (.baload, 1) := by decide +kernel
theorem zd_193_113 : decode (zm_cc 193) 113 = .ok (.istore 8, 2) := by decide +kernel
theorem zd_193_115 : decode (zm_cc 193) 115 = .ok (.iload_n 3, 1) := by decide +kernel
theorem zd_193_116 : decode (zm_cc 193) 116 = .ok (.ifCond .eq 32, 3) := by decide +kernel
theorem zd_193_119 : decode (zm_cc 193) 119 = .ok (.iload 7, 2) := by decide +kernel
theorem zd_193_121 : decode (zm_cc 193) 121 = .ok (.iconst 5, 1) := by decide +kernel
theorem zd_193_122 : decode (zm_cc 193) 122 = .ok (.if_icmp .ne 7, 3) := by decide +kernel
theorem zd_193_125 : decode (zm_cc 193) 125 = .ok (.iconst 1, 1) := by decide +kernel
theorem zd_193_126 : decode (zm_cc 193) 126 = .ok (.goto 4, 3) := by decide +kernel
theorem zd_193_129 : decode (zm_cc 193) 129 = .ok (.iconst 0, 1) := by decide +kernel
theorem zd_193_130 : decode (zm_cc 193) 130 = .ok (.iload 8, 2) := by decide +kernel
theorem zd_193_132 : decode (zm_cc 193) 132 = .ok (.iconst 5, 1) := by decide +kernel
theorem zd_193_133 : decode (zm_cc 193) 133 = .ok (.if_icmp .ne 7, 3) := by decide +kernel
theorem zd_193_136 : decode (zm_cc 193) 136 = .ok (.iconst 1, 1) := by decide +kernel
theorem zd_193_137 : decode (zm_cc 193) 137 = .ok (.goto 4, 3) := by decide +kernel
theorem zd_193_140 : decode (zm_cc 193) 140 = .ok (.iconst 0, 1) := by decide +kernel
theorem zd_193_141 : decode (zm_cc 193) 141 = .ok (.if_icmp .ne 7, 3) := by decide +kernel
theorem zd_193_144 : decode (zm_cc 193) 144 = .ok (.iconst 1, 1) := by decide +kernel
theorem zd_193_145 : decode (zm_cc 193) 145 = .ok (.goto 4, 3) := by decide +kernel
theorem zd_193_148 : decode (zm_cc 193) 148 = .ok (.iconst 0, 1) := by decide +kernel
theorem zd_193_149 : decode (zm_cc 193) 149 = .ok (.istore_n 3, 1) := by decide +kernel
theorem zd_193_150 : decode (zm_cc 193) 150 = .ok (.iload 4, 2) := by decide +kernel
theorem zd_193_152 : decode (zm_cc 193) 152 = .ok (.ifCond .ne 20, 3) := by decide +kernel
theorem zd_193_155 : decode (zm_cc 193) 155 = .ok (.iload 7, 2) := by decide +kernel
theorem zd_193_157 : decode (zm_cc 193) 157 = .ok (.iconst 4, 1) := by decide +kernel
theorem zd_193_158 : decode (zm_cc 193) 158 = .ok (.if_icmp .eq 18, 3) := by decide +kernel
theorem zd_193_161 : decode (zm_cc 193) 161 = .ok (.iload 7, 2) := by decide +kernel
theorem zd_193_163 : decode (zm_cc 193) 163 = .ok (.iconst 5, 1) := by decide +kernel
theorem zd_193_164 : decode (zm_cc 193) 164 = .ok (.if_icmp .eq 12, 3) := by decide +kernel
theorem zd_193_167 : decode (zm_cc 193) 167 = .ok (.iload 7, 2) := by decide +kernel
theorem zd_193_169 : decode (zm_cc 193) 169 = .ok (.ifCond .eq 7, 3) := by decide +kernel
theorem zd_193_172 : decode (zm_cc 193) 172 = .ok (.iconst 1, 1) := by decide +kernel
theorem zd_193_173 : decode (zm_cc 193) 173 = .ok (.goto 4, 3) := by decide +kernel
theorem zd_193_176 : decode (zm_cc 193) 176 = .ok (.iconst 0, 1) := by decide +kernel
theorem zd_193_177 : decode (zm_cc 193) 177 = .ok (.istore 4, 2) := by decide +kernel
theorem zd_193_179 : decode (zm_cc 193) 179 = .ok (.iload 5, 2) := by decide +kernel
theorem zd_193_181 : decode (zm_cc 193) 181 = .ok (.ifCond .ne 20, 3) := by decide +kernel
theorem zd_193_184 : decode (zm_cc 193) 184 = .ok (.iload 8, 2) := by decide +kernel
theorem zd_193_186 : decode (zm_cc 193) 186 = .ok (.iconst 4, 1) := by decide +kernel
theorem zd_193_187 : decode (zm_cc 193) 187 = .ok (.if_icmp .eq 18, 3) := by decide +kernel
theorem zd_193_190 : decode (zm_cc 193) 190 = .ok (.iload 8, 2) := by decide +kernel
theorem zd_193_192 : decode (zm_cc 193) 192 = .ok (.iconst 5, 1) := by decide +kernel
theorem zd_193_193 : decode (zm_cc 193) 193 = .ok (.if_icmp .eq 12, 3) := by decide +kernel
theorem zd_193_196 : decode (zm_cc 193) 196 = .ok (.iload 8, 2) := by decide +kernel
theorem zd_193_198 : decode (zm_cc 193) 198 = .ok (.ifCond .eq 7, 3) := by decide +kernel
theorem zd_193_201 : decode (zm_cc 193) 201 = .ok (.iconst 1, 1) := by decide +kernel
theorem zd_193_202 : decode (zm_cc 193) 202 = .ok (.goto 4, 3) := by decide +kernel
theorem zd_193_205 : decode (zm_cc 193) 205 = .ok (.iconst 0, 1) := by decide +kernel
theorem zd_193_206 : decode (zm_cc 193) 206 = .ok (.istore 5, 2) := by decide +kernel
theorem zd_193_208 : decode (zm_cc 193) 208 = .ok (.iinc 6 1, 3) := by decide +kernel
theorem zd_193_211 : decode (zm_cc 193) 211 = .ok (.goto (-145), 3) := by decide +kernel
theorem zd_193_214 : decode (zm_cc 193) 214 = .ok (.iload_n 3, 1) := by decide +kernel
theorem zd_193_215 : decode (zm_cc 193) 215 = .ok (.ifCond .eq 14, 3) := by decide +kernel
theorem zd_193_218 : decode (zm_cc 193) 218 = .ok (.iload 4, 2) := by decide +kernel
theorem zd_193_220 : decode (zm_cc 193) 220 = .ok (.iload 5, 2) := by decide +kernel
theorem zd_193_222 : decode (zm_cc 193) 222 = .ok (.if_icmp .ne 7, 3) := by decide +kernel
theorem zd_193_225 : decode (zm_cc 193) 225 = .ok (.iconst 1, 1) := by decide +kernel
theorem zd_193_226 : decode (zm_cc 193) 226 = .ok (.goto 4, 3) := by decide +kernel
theorem zd_193_229 : decode (zm_cc 193) 229 = .ok (.iconst 0, 1) := by decide +kernel
theorem zd_193_230 : decode (zm_cc 193) 230 = .ok (.ireturn, 1) := by decide +kernel
theorem zd_194_0 : decode (zm_cc 194) 0 = .ok (.aload_n 0, 1) := by decide +kernel
theorem zd_194_1 : decode (zm_cc 194) 1 = .ok (.getfield 117, 3) := by decide +kernel
theorem zd_194_4 : decode (zm_cc 194) 4 = .ok (.ifCond .ne 6, 3) := by decide +kernel
theorem zd_194_7 : decode (zm_cc 194) 7 = .ok (.bipush (-101), 2) := by decide +kernel
theorem zd_194_9 : decode (zm_cc 194) 9 = .ok (.ireturn, 1) := by decide +kernel
theorem zd_194_10 : decode (zm_cc 194) 10 = .ok (.iload_n 1, 1) := by decide +kernel
theorem zd_194_11 : decode (zm_cc 194) 11 = .ok (.tableswitch 91 0 4 #[33, 44, 55, 66, 80], 33) := by decide +kernel
theorem zd_194_44 : decode (zm_cc 194) 44 = .ok (.aload_n 0, 1) := by decide +kernel
theorem zd_194_45 : decode (zm_cc 194) 45 = .ok (.getfield 50, 3) := by decide +kernel
theorem zd_194_48 : decode (zm_cc 194) 48 = .ok (.getfield 180, 3) := by decide +kernel
theorem zd_194_51 : decode (zm_cc 194) 51 = .ok (.getfield 184, 3) := by decide +kernel
theorem zd_194_54 : decode (zm_cc 194) 54 = .ok (.ireturn, 1) := by decide +kernel
theorem zd_194_55 : decode (zm_cc 194) 55 = .ok (.aload_n 0, 1) := by decide +kernel
theorem zd_194_56 : decode (zm_cc 194) 56 = .ok (.getfield 50, 3) := by decide +kernel
theorem zd_194_59 : decode (zm_cc 194) 59 = .ok (.getfield 187, 3) := by decide +kernel
theorem zd_194_62 : decode (zm_cc 194) 62 = .ok (.getfield 184, 3) := by decide +kernel
theorem zd_194_65 : decode (zm_cc 194) 65 = .ok (.ireturn, 1) := by decide +kernel
theorem zd_194_66 : decode (zm_cc 194) 66 = .ok (.aload_n 0, 1) := by decide +kernel
theorem zd_194_67 : decode (zm_cc 194) 67 = .ok (.getfield 50, 3) := by decide +kernel
theorem zd_194_70 : decode (zm_cc 194) 70 = .ok (.getfield 190, 3) := by decide +kernel
theorem zd_194_73 : decode (zm_cc 194) 73 = .ok (.getfield 184, 3) := by decide +kernel
theorem zd_194_76 : decode (zm_cc 194) 76 = .ok (.ireturn, 1) := by decide +kernel
theorem zd_194_77 : decode (zm_cc 194) 77 = .ok (.aload_n 0, 1) := by decide +kernel
theorem zd_194_78 : decode (zm_cc 194) 78 = .ok (.getfield 50, 3) := by decide +kernel
theorem zd_194_81 : decode (zm_cc 194) 81 = .ok (.getfield 193, 3) := by decide +kernel
theorem zd_194_84 : decode (zm_cc 194) 84 = .ok (.getfield 196, 3) := by decide +kernel
theorem zd_194_87 : decode (zm_cc 194) 87 = .ok (.getfield 184, 3) := by decide +kernel
theorem zd_194_90 : decode (zm_cc 194) 90 = .ok (.ireturn, 1) := by decide +kernel
theorem zd_194_91 : decode (zm_cc 194) 91 = .ok (.aload_n 0, 1) := by decide +kernel
theorem zd_194_92 : decode (zm_cc 194) 92 = .ok (.getfield 50, 3) := by decide +kernel
theorem zd_194_95 : decode (zm_cc 194) 95 = .ok (.getfield 199, 3) := by decide +kernel
theorem zd_194_98 : decode (zm_cc 194) 98 = .ok (.getfield 184, 3) := by decide +kernel
theorem zd_194_101 : decode (zm_cc 194) 101 = .ok (.ireturn, 1) := by decide +kernel
theorem zd_194_102 : decode (zm_cc 194) 102 = .ok (.bipush (-102), 2) := by decide +kernel
theorem zd_194_104 : decode (zm_cc 194) 104 = .ok (.ireturn, 1) := by decide +kernel
theorem zd_195_0 : decode (zm_cc 195) 0 = .ok (.aload_n 0, 1) := by decide +kernel
theorem zd_195_1 : decode (zm_cc 195) 1 = .ok (.iconst 0, 1) := by decide +kernel
theorem zd_195_2 : decode (zm_cc 195) 2 = .ok (.putfield 1, 3) := by decide +kernel
theorem zd_195_5 : decode (zm_cc 195) 5 = .ok (.aload_n 0, 1) := by decide +kernel
theorem zd_195_6 : decode (zm_cc 195) 6 = .ok (.getfield 322, 3) := by decide +kernel
theorem zd_195_9 : decode (zm_cc 195) 9 = .ok (.ifCond .ne 6, 3) := by decide +kernel
theorem zd_195_12 : decode (zm_cc 195) 12 = .ok (.bipush (-101), 2) := by decide +kernel
theorem zd_195_14 : decode (zm_cc 195) 14 = .ok (.ireturn, 1) := by decide +kernel
theorem zd_195_15 : decode (zm_cc 195) 15 = .ok (.iload_n 1, 1) := by decide +kernel
theorem zd_195_16 : decode (zm_cc 195) 16 = .ok (.tableswitch 64 0 4 #[36, 42, 48, 53, 58], 36) := by decide +kernel
theorem zd_195_52 : decode (zm_cc 195) 52 = .ok (.aload_n 0, 1) := by decide +kernel
theorem zd_195_53 : decode (zm_cc 195) 53 = .ok (.iconst 2, 1) := by decide +kernel
theorem zd_195_54 : decode (zm_cc 195) 54 = .ok (.invokevirtual 425, 3) := by decide +kernel
theorem zd_195_57 : decode (zm_cc 195) 57 = .ok (.ireturn, 1) := by decide +kernel
theorem zd_195_58 : decode (zm_cc 195) 58 = .ok (.aload_n 0, 1) := by decide +kernel
theorem zd_195_59 : decode (zm_cc 195) 59 = .ok (.iconst 1, 1) := by decide +kernel
theorem zd_195_60 : decode (zm_cc 195) 60 = .ok (.invokevirtual 425, 3) := by decide +kernel
theorem zd_195_63 : decode (zm_cc 195) 63 = .ok (.ireturn, 1) := by decide +kernel
theorem zd_195_64 : decode (zm_cc 195) 64 = .ok (.aload_n 0, 1) := by decide +kernel
theorem zd_195_65 : decode (zm_cc 195) 65 = .ok (.invokevirtual 428, 3) := by decide +kernel
theorem zd_195_68 : decode (zm_cc 195) 68 = .ok (.ireturn, 1) := by decide +kernel
theorem zd_195_69 : decode (zm_cc 195) 69 = .ok (.aload_n 0, 1) := by decide +kernel
theorem zd_195_70 : decode (zm_cc 195) 70 = .ok (.getfield 392, 3) := by decide +kernel
theorem zd_195_73 : decode (zm_cc 195) 73 = .ok (.ireturn, 1) := by decide +kernel
theorem zd_195_74 : decode (zm_cc 195) 74 = .ok (.aload_n 0, 1) := by decide +kernel
theorem zd_195_75 : decode (zm_cc 195) 75 = .ok (.iconst 4, 1) := by decide +kernel
theorem zd_195_76 : decode (zm_cc 195) 76 = .ok (.invokevirtual 425, 3) := by decide +kernel
theorem zd_195_79 : decode (zm_cc 195) 79 = .ok (.ireturn, 1) := by decide +kernel
theorem zd_195_80 : decode (zm_cc 195) 80 = .ok (.bipush (-102), 2) := by decide +kernel
theorem zd_195_82 : decode (zm_cc 195) 82 = .ok (.ireturn, 1) := by decide +kernel
theorem zd_196_0 : decode (zm_cc 196) 0 = .ok (.iconst 0, 1) := by decide +kernel
theorem zd_196_1 : decode (zm_cc 196) 1 = .ok (.istore_n 2, 1) := by decide +kernel
theorem zd_196_2 : decode (zm_cc 196) 2 = .ok (.iconst 0, 1) := by decide +kernel
theorem zd_196_3 : decode (zm_cc 196) 3 = .ok (.istore_n 3, 1) := by decide +kernel
theorem zd_196_4 : decode (zm_cc 196) 4 = .ok (.iload_n 3, 1) := by decide +kernel
theorem zd_196_5 : decode (zm_cc 196) 5 = .ok (.aload_n 0, 1) := by decide +kernel
theorem zd_196_6 : decode (zm_cc 196) 6 = .ok (.getfield 419, 3) := by decide +kernel
theorem zd_196_9 : decode (zm_cc 196) 9 = .ok (.if_icmp .ge 26, 3) := by decide +kernel
theorem zd_196_12 : decode (zm_cc 196) 12 = .ok (.iload_n 2, 1) := by decide +kernel
theorem zd_196_13 : decode (zm_cc 196) 13 = .ok (.aload_n 0, 1) := by decide +kernel
theorem zd_196_14 : decode (zm_cc 196) 14 = .ok (.iload_n 3, 1) := by decide +kernel
theorem zd_196_15 : decode (zm_cc 196) 15 = .ok (.iload_n 1, 1) := by decide +kernel
theorem zd_196_16 : decode (zm_cc 196) 16 = .ok (.invokevirtual 422, 3) := by decide +kernel
theorem zd_196_19 : decode (zm_cc 196) 19 = .ok (.ifCond .eq 7, 3) := by decide +kernel
theorem zd_196_22 : decode (zm_cc 196) 22 = .ok (.iconst 1, 1) := by decide +kernel
theorem zd_196_23 : decode (zm_cc 196) 23 = .ok (.goto 4, 3) := by decide +kernel
theorem zd_196_26 : decode (zm_cc 196) 26 = .ok (.iconst 0, 1) := by decide +kernel
theorem zd_196_27 : decode (zm_cc 196) 27 = .ok (.iadd, 1) := by decide +kernel
theorem zd_196_28 : decode (zm_cc 196) 28 = .ok (.istore_n 2, 1) := by decide +kernel
theorem zd_196_29 : decode (zm_cc 196) 29 = .ok (.iinc 3 1, 3) := by decide +kernel
theorem zd_196_32 : decode (zm_cc 196) 32 = .ok (.goto (-28), 3) := by decide +kernel
theorem zd_196_35 : decode (zm_cc 196) 35 = .ok (.iload_n 2, 1) := by decide +kernel
theorem zd_196_36 : decode (zm_cc 196) 36 = .ok (.ireturn, 1) := by decide +kernel
theorem zd_197_0 : decode (zm_cc 197) 0 = .ok (.iload_n 2, 1) := by decide +kernel
theorem zd_197_1 : decode (zm_cc 197) 1 = .ok (.iconst 1, 1) := by decide +kernel
theorem zd_197_2 : decode (zm_cc 197) 2 = .ok (.if_icmp .ne 19, 3) := by decide +kernel
theorem zd_197_5 : decode (zm_cc 197) 5 = .ok (.aload_n 0, 1) := by decide +kernel
theorem zd_197_6 : decode (zm_cc 197) 6 = .ok (.getfield 107, 3) := by decide +kernel
theorem zd_197_9 : decode (zm_cc 197) 9 = .ok (.iload_n 1, 1) := by decide +kernel
theorem zd_197_10 : decode (zm_cc 197) 10 = .ok (.iaload, 1) := by decide +kernel
theorem zd_197_11 : decode (zm_cc 197) 11 = .ok (.iconst 2, 1) := by decide +kernel
theorem zd_197_12 : decode (zm_cc 197) 12 = .ok (.if_icmp .ne 7, 3) := by decide +kernel
theorem zd_197_15 : decode (zm_cc 197) 15 = .ok (.iconst 1, 1) := by decide +kernel
theorem zd_197_16 : decode (zm_cc 197) 16 = .ok (.goto 4, 3) := by decide +kernel
theorem zd_197_19 : decode (zm_cc 197) 19 = .ok (.iconst 0, 1) := by decide +kernel
theorem zd_197_20 : decode (zm_cc 197) 20 = .ok (.ireturn, 1) := by decide +kernel
theorem zd_197_21 : decode (zm_cc 197) 21 = .ok (.iload_n 2, 1) := by decide +kernel
theorem zd_197_22 : decode (zm_cc 197) 22 = .ok (.iconst 2, 1) := by decide +kernel
theorem zd_197_23 : decode (zm_cc 197) 23 = .ok (.if_icmp .ne 19, 3) := by decide +kernel
theorem zd_197_26 : decode (zm_cc 197) 26 = .ok (.aload_n 0, 1) := by decide +kernel
theorem zd_197_27 : decode (zm_cc 197) 27 = .ok (.getfield 107, 3) := by decide +kernel
theorem zd_197_30 : decode (zm_cc 197) 30 = .ok (.iload_n 1, 1) := by decide +kernel
theorem zd_197_31 : decode (zm_cc 197) 31 = .ok (.iaload, 1) := by decide +kernel
theorem zd_197_32 : decode (zm_cc 197) 32 = .ok (.iconst 1, 1) := by decide +kernel
theorem zd_197_33 : decode (zm_cc 197) 33 = .ok (.if_icmp .ne 7, 3) := by decide +kernel
theorem zd_197_36 : decode (zm_cc 197) 36 = .ok (.iconst 1, 1) := by decide +kernel
theorem zd_197_37 : decode (zm_cc 197) 37 = .ok (.goto 4, 3) := by decide +kernel
theorem zd_197_40 : decode (zm_cc 197) 40 = .ok (.iconst 0, 1) := by decide +kernel
theorem zd_197_41 : decode (zm_cc 197) 41 = .ok (.ireturn, 1) := by decide +kernel
theorem zd_197_42 : decode (zm_cc 197) 42 = .ok (.iconst 0, 1) := by decide +kernel
theorem zd_197_43 : decode (zm_cc 197) 43 = .ok (.istore_n 3, 1) := by decide +kernel
theorem zd_197_44 : decode (zm_cc 197) 44 = .ok (.iconst 0, 1) := by decide +kernel
theorem zd_197_45 : decode (zm_cc 197) 45 = .ok (.istore 4, 2) := by decide +kernel
theorem zd_197_47 : decode (zm_cc 197) 47 = .ok (.iload 4, 2) := by decide +kernel
theorem zd_197_49 : decode (zm_cc 197) 49 = .ok (.aload_n 0, 1) := by decide +kernel
theorem zd_197_50 : decode (zm_cc 197) 50 = .ok (.getfield 225, 3) := by decide +kernel
theorem zd_197_53 : decode (zm_cc 197) 53 = .ok (.if_icmp .ge 41, 3) := by decide +kernel
theorem zd_197_56 : decode (zm_cc 197) 56 = .ok (.iload_n 3, 1) := by decide +kernel
theorem zd_197_57 : decode (zm_cc 197) 57 = .ok (.ifCond .ne 25, 3) := by decide +kernel
theorem zd_197_60 : decode (zm_cc 197) 60 = .ok (.aload_n 0, 1) := by decide +kernel
theorem zd_197_61 : decode (zm_cc 197) 61 = .ok (.getfield 92, 3) := by decide +kernel
theorem zd_197_64 : decode (zm_cc 197) 64 = .ok (.bipush 40, 2) := by decide +kernel
theorem zd_197_66 : decode (zm_cc 197) 66 = .ok (.iload_n 1, 1) := by decide +kernel
theorem zd_197_67 : decode (zm_cc 197) 67 = .ok (.imul, 1) := by decide +kernel
theorem zd_197_68 : decode (zm_cc 197) 68 = .ok (.aload_n 0, 1) := by decide +kernel
theorem zd_197_69 : decode (zm_cc 197) 69 = .ok (.iload 4, 2) := by decide +kernel
theorem zd_197_71 : decode (zm_cc 197) 71 = .ok (.invokevirtual 348, 3) := by decide +kernel
theorem zd_197_74 : decode (zm_cc 197) 74 = .ok (.iadd, 1) := by decide +kernel
theorem zd_197_75 : decode (zm_cc 197) 75 = .ok (.iconst 1, 1) := by decide +kernel
theorem zd_197_76 : decode (zm_cc 197) 76 = .ok (.iadd, 1) := by decide +kernel
theorem zd_197_77 : decode (zm_cc 197) 77 = .ok (.baload, 1) := by decide +kernel
theorem zd_197_78 : decode (zm_cc 197) 78 = .ok (.iconst 5, 1) := by decide +kernel
theorem zd_197_79 : decode (zm_cc 197) 79 = .ok (.if_icmp .ne 7, 3) := by decide +kernel
theorem zd_197_82 : decode (zm_cc 197) 82 = .ok (.iconst 1, 1) := by decide +kernel
theorem zd_197_83 : decode (zm_cc 197) 83 = .ok (.goto 4, 3) := by decide +kernel
theorem zd_197_86 : decode (zm_cc 197) 86 = .ok (.iconst 0, 1) := by decide +kernel
theorem zd_197_87 : decode (zm_cc 197) 87 = .ok (.istore_n 3, 1) := by decide +kernel
theorem zd_197_88 : decode (zm_cc 197) 88 = .ok (.iinc 4 1, 3) := by decide +kernel
theorem zd_197_91 : decode (zm_cc 197) 91 = .ok (.goto (-44), 3) := by decide +kernel
theorem zd_197_94 : decode (zm_cc 197) 94 = .ok (.iload_n 3, 1) := by decide +kernel
theorem zd_197_95 : decode (zm_cc 197) 95 = .ok (.ireturn, 1) := by decide +kernel
theorem zd_198_0 : decode (zm_cc 198) 0 = .ok (.iconst 0, 1) := by decide +kernel
theorem zd_198_1 : decode (zm_cc 198) 1 = .ok (.istore_n 1, 1) := by decide +kernel
theorem zd_198_2 : decode (zm_cc 198) 2 = .ok (.iconst 0, 1) := by decide +kernel
theorem zd_198_3 : decode (zm_cc 198) 3 = .ok (.istore_n 2, 1) := by decide +kernel
theorem zd_198_4 : decode (zm_cc 198) 4 = .ok (.iload_n 2, 1) := by decide +kernel
theorem zd_198_5 : decode (zm_cc 198) 5 = .ok (.sipush 9216, 3) := by decide +kernel
theorem zd_198_8 : decode (zm_cc 198) 8 = .ok (.if_icmp .ge 26, 3) := by decide +kernel
theorem zd_198_11 : decode (zm_cc 198) 11 = .ok (.iload_n 1, 1) := by decide +kernel
theorem zd_198_12 : decode (zm_cc 198) 12 = .ok (.aload_n 0, 1) := by decide +kernel
theorem zd_198_13 : decode (zm_cc 198) 13 = .ok (.getfield 110, 3) := by decide +kernel
theorem zd_198_16 : decode (zm_cc 198) 16 = .ok (.iload_n 2, 1) := by decide +kernel
theorem zd_198_17 : decode (zm_cc 198) 17 = .ok (.iaload, 1) := by decide +kernel
theorem zd_198_18 : decode (zm_cc 198) 18 = .ok (.ifCond .le 7, 3) := by decide +kernel
theorem zd_198_21 : decode (zm_cc 198) 21 = .ok (.iconst 1, 1) := by decide +kernel
theorem zd_198_22 : decode (zm_cc 198) 22 = .ok (.goto 4, 3) := by decide +kernel
theorem zd_198_25 : decode (zm_cc 198) 25 = .ok (.iconst 0, 1) := by decide +kernel
theorem zd_198_26 : decode (zm_cc 198) 26 = .ok (.iadd, 1) := by decide +kernel
theorem zd_198_27 : decode (zm_cc 198) 27 = .ok (.istore_n 1, 1) := by decide +kernel
theorem zd_198_28 : decode (zm_cc 198) 28 = .ok (.iinc 2 1, 3) := by decide +kernel
theorem zd_198_31 : decode (zm_cc 198) 31 = .ok (.goto (-27), 3) := by decide +kernel
theorem zd_198_34 : decode (zm_cc 198) 34 = .ok (.iload_n 1, 1) := by decide +kernel
theorem zd_198_35 : decode (zm_cc 198) 35 = .ok (.ireturn, 1) := by decide +kernel
theorem zd_199_0 : decode (zm_cc 199) 0 = .ok (.aload_n 0, 1) := by decide +kernel
theorem zd_199_1 : decode (zm_cc 199) 1 = .ok (.getfield 117, 3) := by decide +kernel
theorem zd_199_4 : decode (zm_cc 199) 4 = .ok (.ifCond .ne 6, 3) := by decide +kernel
theorem zd_199_7 : decode (zm_cc 199) 7 = .ok (.bipush (-101), 2) := by decide +kernel
theorem zd_199_9 : decode (zm_cc 199) 9 = .ok (.ireturn, 1) := by decide +kernel
theorem zd_199_10 : decode (zm_cc 199) 10 = .ok (.aload_n 0, 1) := by decide +kernel
theorem zd_199_11 : decode (zm_cc 199) 11 = .ok (.iload_n 1, 1) := by decide +kernel
theorem zd_199_12 : decode (zm_cc 199) 12 = .ok (.iload_n 2, 1) := by decide +kernel
theorem zd_199_13 : decode (zm_cc 199) 13 = .ok (.invokevirtual 202, 3) := by decide +kernel
theorem zd_199_16 : decode (zm_cc 199) 16 = .ok (.istore_n 3, 1) := by decide +kernel
theorem zd_199_17 : decode (zm_cc 199) 17 = .ok (.iload_n 3, 1) := by decide +kernel
theorem zd_199_18 : decode (zm_cc 199) 18 = .ok (.iconst (-1), 1) := by decide +kernel
theorem zd_199_19 : decode (zm_cc 199) 19 = .ok (.if_icmp .ne 6, 3) := by decide +kernel
theorem zd_199_22 : decode (zm_cc 199) 22 = .ok (.bipush (-102), 2) := by decide +kernel
theorem zd_199_24 : decode (zm_cc 199) 24 = .ok (.ireturn, 1) := by decide +kernel
theorem zd_199_25 : decode (zm_cc 199) 25 = .ok (.aload_n 0, 1) := by decide +kernel
theorem zd_199_26 : decode (zm_cc 199) 26 = .ok (.aload_n 0, 1) := by decide +kernel
theorem zd_199_27 : decode (zm_cc 199) 27 = .ok (.getfield 43, 3) := by decide +kernel
theorem zd_199_30 : decode (zm_cc 199) 30 = .ok (.iload_n 3, 1) := by decide +kernel
theorem zd_199_31 : decode (zm_cc 199) 31 = .ok (.aload_n 0, 1) := by decide +kernel
theorem zd_199_32 : decode (zm_cc 199) 32 = .ok (.getfield 77, 3) := by decide +kernel
theorem zd_199_35 : decode (zm_cc 199) 35 = .ok (.invokevirtual 205, 3) := by decide +kernel
theorem zd_199_38 : decode (zm_cc 199) 38 = .ok (.putfield 80, 3) := by decide +kernel
theorem zd_199_41 : decode (zm_cc 199) 41 = .ok (.iload_n 3, 1) := by decide +kernel
theorem zd_199_42 : decode (zm_cc 199) 42 = .ok (.ireturn, 1) := by decide +kernel
theorem zd_200_0 : decode (zm_cc 200) 0 = .ok (.iload_n 1, 1) := by decide +kernel
theorem zd_200_1 : decode (zm_cc 200) 1 = .ok (.tableswitch 98 0 4 #[35, 47, 59, 71, 86], 35) := by decide +kernel
theorem zd_200_36 : decode (zm_cc 200) 36 = .ok (.aload_n 0, 1) := by decide +kernel
theorem zd_200_37 : decode (zm_cc 200) 37 = .ok (.getfield 50, 3) := by decide +kernel
theorem zd_200_40 : decode (zm_cc 200) 40 = .ok (.getfield 209, 3) := by decide +kernel
theorem zd_200_43 : decode (zm_cc 200) 43 = .ok (.iload_n 2, 1) := by decide +kernel
theorem zd_200_44 : decode (zm_cc 200) 44 = .ok (.invokevirtual 212, 3) := by decide +kernel
theorem zd_200_47 : decode (zm_cc 200) 47 = .ok (.ireturn, 1) := by decide +kernel
theorem zd_200_48 : decode (zm_cc 200) 48 = .ok (.aload_n 0, 1) := by decide +kernel
theorem zd_200_49 : decode (zm_cc 200) 49 = .ok (.getfield 50, 3) := by decide +kernel
theorem zd_200_52 : decode (zm_cc 200) 52 = .ok (.getfield 187, 3) := by decide +kernel
theorem zd_200_55 : decode (zm_cc 200) 55 = .ok (.iload_n 2, 1) := by decide +kernel
theorem zd_200_56 : decode (zm_cc 200) 56 = .ok (.invokevirtual 212, 3) := by decide +kernel
theorem zd_200_59 : decode (zm_cc 200) 59 = .ok (.ireturn, 1) := by decide +kernel
theorem zd_200_60 : decode (zm_cc 200) 60 = .ok (.aload_n 0, 1) := by decide +kernel
theorem zd_200_61 : decode (zm_cc 200) 61 = .ok (.getfield 50, 3) := by decide +kernel
theorem zd_200_64 : decode (zm_cc 200) 64 = .ok (.getfield 180, 3) := by decide +kernel
theorem zd_200_67 : decode (zm_cc 200) 67 = .ok (.iload_n 2, 1) := by decide +kernel
theorem zd_200_68 : decode (zm_cc 200) 68 = .ok (.invokevirtual 212, 3) := by decide +kernel
theorem zd_200_71 : decode (zm_cc 200) 71 = .ok (.ireturn, 1) := by decide +kernel
theorem zd_200_72 : decode (zm_cc 200) 72 = .ok (.aload_n 0, 1) := by decide +kernel
theorem zd_200_73 : decode (zm_cc 200) 73 = .ok (.getfield 50, 3) := by decide +kernel
theorem zd_200_76 : decode (zm_cc 200) 76 = .ok (.getfield 193, 3) := by decide +kernel
theorem zd_200_79 : decode (zm_cc 200) 79 = .ok (.getfield 196, 3) := by decide +kernel
theorem zd_200_82 : decode (zm_cc 200) 82 = .ok (.iload_n 2, 1) := by decide +kernel
theorem zd_200_83 : decode (zm_cc 200) 83 = .ok (.invokevirtual 212, 3) := by decide +kernel
theorem zd_200_86 : decode (zm_cc 200) 86 = .ok (.ireturn, 1) := by decide +kernel
theorem zd_200_87 : decode (zm_cc 200) 87 = .ok (.aload_n 0, 1) := by decide +kernel
theorem zd_200_88 : decode (zm_cc 200) 88 = .ok (.getfield 50, 3) := by decide +kernel
theorem zd_200_91 : decode (zm_cc 200) 91 = .ok (.getfield 199, 3) := by decide +kernel
theorem zd_200_94 : decode (zm_cc 200) 94 = .ok (.iload_n 2, 1) := by decide +kernel
theorem zd_200_95 : decode (zm_cc 200) 95 = .ok (.invokevirtual 212, 3) := by decide +kernel
theorem zd_200_98 : decode (zm_cc 200) 98 = .ok (.ireturn, 1) := by decide +kernel
theorem zd_200_99 : decode (zm_cc 200) 99 = .ok (.iconst (-1), 1) := by decide +kernel
theorem zd_200_100 : decode (zm_cc 200) 100 = .ok (.ireturn, 1) := by decide +kernel
theorem zd_201_0 : decode (zm_cc 201) 0 = .ok (.iconst 0, 1) := by decide +kernel
theorem zd_201_1 : decode (zm_cc 201) 1 = .ok (.istore_n 3, 1) := by decide +kernel
theorem zd_201_2 : decode (zm_cc 201) 2 = .ok (.iload_n 1, 1) := by decide +kernel
theorem zd_201_3 : decode (zm_cc 201) 3 = .ok (.istore 4, 2) := by decide +kernel
theorem zd_201_5 : decode (zm_cc 201) 5 = .ok (.iload 4, 2) := by decide +kernel
theorem zd_201_7 : decode (zm_cc 201) 7 = .ok (.ifCond .le 36, 3) := by decide +kernel
theorem zd_201_10 : decode (zm_cc 201) 10 = .ok (.aload_n 0, 1) := by decide +kernel
theorem zd_201_11 : decode (zm_cc 201) 11 = .ok (.iload 4, 2) := by decide +kernel
theorem zd_201_13 : decode (zm_cc 201) 13 = .ok (.invokevirtual 37, 3) := by decide +kernel
theorem zd_201_16 : decode (zm_cc 201) 16 = .ok (.ifCond .eq 27, 3) := by decide +kernel
theorem zd_201_19 : decode (zm_cc 201) 19 = .ok (.iload_n 3, 1) := by decide +kernel
theorem zd_201_20 : decode (zm_cc 201) 20 = .ok (.sipush 4000, 3) := by decide +kernel
theorem zd_201_23 : decode (zm_cc 201) 23 = .ok (.if_icmp .ge 20, 3) := by decide +kernel
theorem zd_201_26 : decode (zm_cc 201) 26 = .ok (.iinc 3 1, 3) := by decide +kernel
theorem zd_201_29 : decode (zm_cc 201) 29 = .ok (.aload_n 0, 1) := by decide +kernel
theorem zd_201_30 : decode (zm_cc 201) 30 = .ok (.getfield 15, 3) := by decide +kernel
theorem zd_201_33 : decode (zm_cc 201) 33 = .ok (.iload 4, 2) := by decide +kernel
theorem zd_201_35 : decode (zm_cc 201) 35 = .ok (.iaload, 1) := by decide +kernel
theorem zd_201_36 : decode (zm_cc 201) 36 = .ok (.iconst 4, 1) := by decide +kernel
theorem zd_201_37 : decode (zm_cc 201) 37 = .ok (.idiv, 1) := by decide +kernel
theorem zd_201_38 : decode (zm_cc 201) 38 = .ok (.istore 4, 2) := by decide +kernel
theorem zd_201_40 : decode (zm_cc 201) 40 = .ok (.goto (-35), 3) := by decide +kernel
theorem zd_201_43 : decode (zm_cc 201) 43 = .ok (.iload_n 3, 1) := by decide +kernel
theorem zd_201_44 : decode (zm_cc 201) 44 = .ok (.iconst 1, 1) := by decide +kernel
theorem zd_201_45 : decode (zm_cc 201) 45 = .ok (.isub, 1) := by decide +kernel
theorem zd_201_46 : decode (zm_cc 201) 46 = .ok (.istore 4, 2) := by decide +kernel
theorem zd_201_48 : decode (zm_cc 201) 48 = .ok (.iload_n 1, 1) := by decide +kernel
theorem zd_201_49 : decode (zm_cc 201) 49 = .ok (.istore 5, 2) := by decide +kernel
theorem zd_201_51 : decode (zm_cc 201) 51 = .ok (.iload 5, 2) := by decide +kernel
theorem zd_201_53 : decode (zm_cc 201) 53 = .ok (.ifCond .le 54, 3) := by decide +kernel
theorem zd_201_56 : decode (zm_cc 201) 56 = .ok (.aload_n 0, 1) := by decide +kernel
theorem zd_201_57 : decode (zm_cc 201) 57 = .ok (.iload 5, 2) := by decide +kernel
theorem zd_201_59 : decode (zm_cc 201) 59 = .ok (.invokevirtual 37, 3) := by decide +kernel
theorem zd_201_62 : decode (zm_cc 201) 62 = .ok (.ifCond .eq 45, 3) := by decide +kernel
theorem zd_201_65 : decode (zm_cc 201) 65 = .ok (.iload 4, 2) := by decide +kernel
theorem zd_201_67 : decode (zm_cc 201) 67 = .ok (.ifCond .lt 40, 3) := by decide +kernel
theorem zd_201_70 : decode (zm_cc 201) 70 = .ok (.iload 4, 2) := by decide +kernel
theorem zd_201_72 : decode (zm_cc 201) 72 = .ok (.aload_n 2, 1) := by decide +kernel
