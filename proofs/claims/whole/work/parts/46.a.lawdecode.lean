/-! decode rows of the law -/
theorem zd_264_25 : decode (zm_cc 264) 25 = .ok (.aload_n 0, 1) := by decide +kernel
theorem zd_264_26 : decode (zm_cc 264) 26 = .ok (.arraylength, 1) := by decide +kernel
theorem zd_264_27 : decode (zm_cc 264) 27 = .ok (.bipush 6, 2) := by decide +kernel
theorem zd_264_29 : decode (zm_cc 264) 29 = .ok (.isub, 1) := by decide +kernel
theorem zd_264_30 : decode (zm_cc 264) 30 = .ok (.if_icmp .gt 832, 3) := by decide +kernel
theorem zd_264_33 : decode (zm_cc 264) 33 = .ok (.aload_n 0, 1) := by decide +kernel
theorem zd_264_34 : decode (zm_cc 264) 34 = .ok (.iload 4, 2) := by decide +kernel
theorem zd_264_36 : decode (zm_cc 264) 36 = .ok (.iaload, 1) := by decide +kernel
theorem zd_264_37 : decode (zm_cc 264) 37 = .ok (.bipush 31, 2) := by decide +kernel
theorem zd_264_39 : decode (zm_cc 264) 39 = .ok (.iand, 1) := by decide +kernel
theorem zd_264_40 : decode (zm_cc 264) 40 = .ok (.tableswitch 816 0 21 #[104, 208, 244, 257, 270, 295, 344, 357, 382, 419, 432, 457, 494, 543, 580, 617, 642, 667, 680, 717, 778, 803], 104) := by decide +kernel
theorem zd_264_144 : decode (zm_cc 264) 144 = .ok (.aload_n 1, 1) := by decide +kernel
theorem zd_264_145 : decode (zm_cc 264) 145 = .ok (.aload_n 0, 1) := by decide +kernel
theorem zd_264_146 : decode (zm_cc 264) 146 = .ok (.iload 4, 2) := by decide +kernel
theorem zd_264_148 : decode (zm_cc 264) 148 = .ok (.iconst 1, 1) := by decide +kernel
theorem zd_264_149 : decode (zm_cc 264) 149 = .ok (.iadd, 1) := by decide +kernel
theorem zd_264_150 : decode (zm_cc 264) 150 = .ok (.iaload, 1) := by decide +kernel
theorem zd_264_151 : decode (zm_cc 264) 151 = .ok (.aload_n 0, 1) := by decide +kernel
theorem zd_264_152 : decode (zm_cc 264) 152 = .ok (.iload 4, 2) := by decide +kernel
theorem zd_264_154 : decode (zm_cc 264) 154 = .ok (.iconst 2, 1) := by decide +kernel
theorem zd_264_155 : decode (zm_cc 264) 155 = .ok (.iadd, 1) := by decide +kernel
theorem zd_264_156 : decode (zm_cc 264) 156 = .ok (.iaload, 1) := by decide +kernel
theorem zd_264_157 : decode (zm_cc 264) 157 = .ok (.aload_n 0, 1) := by decide +kernel
theorem zd_264_158 : decode (zm_cc 264) 158 = .ok (.iload 4, 2) := by decide +kernel
theorem zd_264_160 : decode (zm_cc 264) 160 = .ok (.iconst 3, 1) := by decide +kernel
theorem zd_264_161 : decode (zm_cc 264) 161 = .ok (.iadd, 1) := by decide +kernel
theorem zd_264_162 : decode (zm_cc 264) 162 = .ok (.iaload, 1) := by decide +kernel
theorem zd_264_163 : decode (zm_cc 264) 163 = .ok (.aload_n 0, 1) := by decide +kernel
theorem zd_264_164 : decode (zm_cc 264) 164 = .ok (.iload 4, 2) := by decide +kernel
theorem zd_264_166 : decode (zm_cc 264) 166 = .ok (.iconst 4, 1) := by decide +kernel
theorem zd_264_167 : decode (zm_cc 264) 167 = .ok (.iadd, 1) := by decide +kernel
theorem zd_264_168 : decode (zm_cc 264) 168 = .ok (.iaload, 1) := by decide +kernel
theorem zd_264_169 : decode (zm_cc 264) 169 = .ok (.aload_n 0, 1) := by decide +kernel
theorem zd_264_170 : decode (zm_cc 264) 170 = .ok (.iload 4, 2) := by decide +kernel
theorem zd_264_172 : decode (zm_cc 264) 172 = .ok (.iconst 5, 1) := by decide +kernel
theorem zd_264_173 : decode (zm_cc 264) 173 = .ok (.iadd, 1) := by decide +kernel
theorem zd_264_174 : decode (zm_cc 264) 174 = .ok (.iaload, 1) := by decide +kernel
theorem zd_264_175 : decode (zm_cc 264) 175 = .ok (.aload_n 3, 1) := by decide +kernel
theorem zd_264_176 : decode (zm_cc 264) 176 = .ok (.invokestatic 25, 3) := by decide +kernel
theorem zd_264_179 : decode (zm_cc 264) 179 = .ok (.istore 5, 2) := by decide +kernel
theorem zd_264_181 : decode (zm_cc 264) 181 = .ok (.aload_n 2, 1) := by decide +kernel
theorem zd_264_182 : decode (zm_cc 264) 182 = .ok (.aload_n 0, 1) := by decide +kernel
theorem zd_264_183 : decode (zm_cc 264) 183 = .ok (.iload 4, 2) := by decide +kernel
theorem zd_264_185 : decode (zm_cc 264) 185 = .ok (.iconst 1, 1) := by decide +kernel
theorem zd_264_186 : decode (zm_cc 264) 186 = .ok (.iadd, 1) := by decide +kernel
theorem zd_264_187 : decode (zm_cc 264) 187 = .ok (.iaload, 1) := by decide +kernel
theorem zd_264_188 : decode (zm_cc 264) 188 = .ok (.aload_n 0, 1) := by decide +kernel
theorem zd_264_189 : decode (zm_cc 264) 189 = .ok (.iload 4, 2) := by decide +kernel
theorem zd_264_191 : decode (zm_cc 264) 191 = .ok (.iconst 2, 1) := by decide +kernel
theorem zd_264_192 : decode (zm_cc 264) 192 = .ok (.iadd, 1) := by decide +kernel
theorem zd_264_193 : decode (zm_cc 264) 193 = .ok (.iaload, 1) := by decide +kernel
theorem zd_264_194 : decode (zm_cc 264) 194 = .ok (.aload_n 0, 1) := by decide +kernel
theorem zd_264_195 : decode (zm_cc 264) 195 = .ok (.iload 4, 2) := by decide +kernel
theorem zd_264_197 : decode (zm_cc 264) 197 = .ok (.iconst 3, 1) := by decide +kernel
theorem zd_264_198 : decode (zm_cc 264) 198 = .ok (.iadd, 1) := by decide +kernel
theorem zd_264_199 : decode (zm_cc 264) 199 = .ok (.iaload, 1) := by decide +kernel
theorem zd_264_200 : decode (zm_cc 264) 200 = .ok (.aload_n 0, 1) := by decide +kernel
theorem zd_264_201 : decode (zm_cc 264) 201 = .ok (.iload 4, 2) := by decide +kernel
theorem zd_264_203 : decode (zm_cc 264) 203 = .ok (.iconst 4, 1) := by decide +kernel
theorem zd_264_204 : decode (zm_cc 264) 204 = .ok (.iadd, 1) := by decide +kernel
theorem zd_264_205 : decode (zm_cc 264) 205 = .ok (.iaload, 1) := by decide +kernel
theorem zd_264_206 : decode (zm_cc 264) 206 = .ok (.aload_n 0, 1) := by decide +kernel
theorem zd_264_207 : decode (zm_cc 264) 207 = .ok (.iload 4, 2) := by decide +kernel
theorem zd_264_209 : decode (zm_cc 264) 209 = .ok (.iconst 5, 1) := by decide +kernel
theorem zd_264_210 : decode (zm_cc 264) 210 = .ok (.iadd, 1) := by decide +kernel
theorem zd_264_211 : decode (zm_cc 264) 211 = .ok (.iaload, 1) := by decide +kernel
theorem zd_264_212 : decode (zm_cc 264) 212 = .ok (.invokevirtual 30, 3) := by decide +kernel
theorem zd_264_215 : decode (zm_cc 264) 215 = .ok (.istore 6, 2) := by decide +kernel
theorem zd_264_217 : decode (zm_cc 264) 217 = .ok (.aload_n 2, 1) := by decide +kernel
theorem zd_264_218 : decode (zm_cc 264) 218 = .ok (.invokevirtual 31, 3) := by decide +kernel
theorem zd_264_221 : decode (zm_cc 264) 221 = .ok (.iload 5, 2) := by decide +kernel
theorem zd_264_223 : decode (zm_cc 264) 223 = .ok (.if_icmp .eq 5, 3) := by decide +kernel
theorem zd_264_226 : decode (zm_cc 264) 226 = .ok (.iconst 0, 1) := by decide +kernel
theorem zd_264_227 : decode (zm_cc 264) 227 = .ok (.ireturn, 1) := by decide +kernel
theorem zd_264_228 : decode (zm_cc 264) 228 = .ok (.iload 5, 2) := by decide +kernel
theorem zd_264_230 : decode (zm_cc 264) 230 = .ok (.ifCond .ne 15, 3) := by decide +kernel
theorem zd_264_233 : decode (zm_cc 264) 233 = .ok (.aload_n 3, 1) := by decide +kernel
theorem zd_264_234 : decode (zm_cc 264) 234 = .ok (.iconst 0, 1) := by decide +kernel
theorem zd_264_235 : decode (zm_cc 264) 235 = .ok (.laload, 1) := by decide +kernel
theorem zd_264_236 : decode (zm_cc 264) 236 = .ok (.iload 6, 2) := by decide +kernel
theorem zd_264_238 : decode (zm_cc 264) 238 = .ok (.i2l, 1) := by decide +kernel
theorem zd_264_239 : decode (zm_cc 264) 239 = .ok (.lcmp, 1) := by decide +kernel
theorem zd_264_240 : decode (zm_cc 264) 240 = .ok (.ifCond .eq 5, 3) := by decide +kernel
theorem zd_264_243 : decode (zm_cc 264) 243 = .ok (.iconst 0, 1) := by decide +kernel
theorem zd_264_244 : decode (zm_cc 264) 244 = .ok (.ireturn, 1) := by decide +kernel
theorem zd_264_245 : decode (zm_cc 264) 245 = .ok (.goto 611, 3) := by decide +kernel
theorem zd_264_248 : decode (zm_cc 264) 248 = .ok (.aload_n 1, 1) := by decide +kernel
theorem zd_264_249 : decode (zm_cc 264) 249 = .ok (.aload_n 0, 1) := by decide +kernel
theorem zd_264_250 : decode (zm_cc 264) 250 = .ok (.iload 4, 2) := by decide +kernel
theorem zd_264_252 : decode (zm_cc 264) 252 = .ok (.iconst 1, 1) := by decide +kernel
theorem zd_264_253 : decode (zm_cc 264) 253 = .ok (.iadd, 1) := by decide +kernel
theorem zd_264_254 : decode (zm_cc 264) 254 = .ok (.iaload, 1) := by decide +kernel
theorem zd_264_255 : decode (zm_cc 264) 255 = .ok (.invokestatic 35, 3) := by decide +kernel
theorem zd_264_258 : decode (zm_cc 264) 258 = .ok (.istore 5, 2) := by decide +kernel
theorem zd_264_260 : decode (zm_cc 264) 260 = .ok (.aload_n 2, 1) := by decide +kernel
theorem zd_264_261 : decode (zm_cc 264) 261 = .ok (.aload_n 0, 1) := by decide +kernel
theorem zd_264_262 : decode (zm_cc 264) 262 = .ok (.iload 4, 2) := by decide +kernel
theorem zd_264_264 : decode (zm_cc 264) 264 = .ok (.iconst 1, 1) := by decide +kernel
theorem zd_264_265 : decode (zm_cc 264) 265 = .ok (.iadd, 1) := by decide +kernel
theorem zd_264_266 : decode (zm_cc 264) 266 = .ok (.iaload, 1) := by decide +kernel
theorem zd_264_267 : decode (zm_cc 264) 267 = .ok (.invokevirtual 38, 3) := by decide +kernel
theorem zd_264_270 : decode (zm_cc 264) 270 = .ok (.aload_n 2, 1) := by decide +kernel
theorem zd_264_271 : decode (zm_cc 264) 271 = .ok (.invokevirtual 31, 3) := by decide +kernel
theorem zd_264_274 : decode (zm_cc 264) 274 = .ok (.iload 5, 2) := by decide +kernel
theorem zd_264_276 : decode (zm_cc 264) 276 = .ok (.if_icmp .eq 5, 3) := by decide +kernel
theorem zd_264_279 : decode (zm_cc 264) 279 = .ok (.iconst 0, 1) := by decide +kernel
theorem zd_264_280 : decode (zm_cc 264) 280 = .ok (.ireturn, 1) := by decide +kernel
theorem zd_264_281 : decode (zm_cc 264) 281 = .ok (.goto 575, 3) := by decide +kernel
theorem zd_264_284 : decode (zm_cc 264) 284 = .ok (.aload_n 1, 1) := by decide +kernel
theorem zd_264_285 : decode (zm_cc 264) 285 = .ok (.invokevirtual 39, 3) := by decide +kernel
theorem zd_264_288 : decode (zm_cc 264) 288 = .ok (.aload_n 2, 1) := by decide +kernel
theorem zd_264_289 : decode (zm_cc 264) 289 = .ok (.invokevirtual 42, 3) := by decide +kernel
theorem zd_264_292 : decode (zm_cc 264) 292 = .ok (.if_icmp .eq 564, 3) := by decide +kernel
theorem zd_264_295 : decode (zm_cc 264) 295 = .ok (.iconst 0, 1) := by decide +kernel
theorem zd_264_296 : decode (zm_cc 264) 296 = .ok (.ireturn, 1) := by decide +kernel
theorem zd_264_297 : decode (zm_cc 264) 297 = .ok (.aload_n 1, 1) := by decide +kernel
theorem zd_264_298 : decode (zm_cc 264) 298 = .ok (.invokevirtual 43, 3) := by decide +kernel
theorem zd_264_301 : decode (zm_cc 264) 301 = .ok (.aload_n 2, 1) := by decide +kernel
theorem zd_264_302 : decode (zm_cc 264) 302 = .ok (.invokevirtual 46, 3) := by decide +kernel
theorem zd_264_305 : decode (zm_cc 264) 305 = .ok (.if_icmp .eq 551, 3) := by decide +kernel
theorem zd_264_308 : decode (zm_cc 264) 308 = .ok (.iconst 0, 1) := by decide +kernel
theorem zd_264_309 : decode (zm_cc 264) 309 = .ok (.ireturn, 1) := by decide +kernel
theorem zd_264_310 : decode (zm_cc 264) 310 = .ok (.aload_n 1, 1) := by decide +kernel
theorem zd_264_311 : decode (zm_cc 264) 311 = .ok (.aload_n 0, 1) := by decide +kernel
theorem zd_264_312 : decode (zm_cc 264) 312 = .ok (.iload 4, 2) := by decide +kernel
theorem zd_264_314 : decode (zm_cc 264) 314 = .ok (.iconst 1, 1) := by decide +kernel
theorem zd_264_315 : decode (zm_cc 264) 315 = .ok (.iadd, 1) := by decide +kernel
theorem zd_264_316 : decode (zm_cc 264) 316 = .ok (.iaload, 1) := by decide +kernel
theorem zd_264_317 : decode (zm_cc 264) 317 = .ok (.invokevirtual 47, 3) := by decide +kernel
theorem zd_264_320 : decode (zm_cc 264) 320 = .ok (.aload_n 2, 1) := by decide +kernel
theorem zd_264_321 : decode (zm_cc 264) 321 = .ok (.aload_n 0, 1) := by decide +kernel
theorem zd_264_322 : decode (zm_cc 264) 322 = .ok (.iload 4, 2) := by decide +kernel
theorem zd_264_324 : decode (zm_cc 264) 324 = .ok (.iconst 1, 1) := by decide +kernel
theorem zd_264_325 : decode (zm_cc 264) 325 = .ok (.iadd, 1) := by decide +kernel
theorem zd_264_326 : decode (zm_cc 264) 326 = .ok (.iaload, 1) := by decide +kernel
theorem zd_264_327 : decode (zm_cc 264) 327 = .ok (.invokevirtual 51, 3) := by decide +kernel
theorem zd_264_330 : decode (zm_cc 264) 330 = .ok (.if_icmp .eq 526, 3) := by decide +kernel
theorem zd_264_333 : decode (zm_cc 264) 333 = .ok (.iconst 0, 1) := by decide +kernel
theorem zd_264_334 : decode (zm_cc 264) 334 = .ok (.ireturn, 1) := by decide +kernel
theorem zd_264_335 : decode (zm_cc 264) 335 = .ok (.aload_n 1, 1) := by decide +kernel
theorem zd_264_336 : decode (zm_cc 264) 336 = .ok (.aload_n 0, 1) := by decide +kernel
theorem zd_264_337 : decode (zm_cc 264) 337 = .ok (.iload 4, 2) := by decide +kernel
theorem zd_264_339 : decode (zm_cc 264) 339 = .ok (.iconst 1, 1) := by decide +kernel
theorem zd_264_340 : decode (zm_cc 264) 340 = .ok (.iadd, 1) := by decide +kernel
theorem zd_264_341 : decode (zm_cc 264) 341 = .ok (.iaload, 1) := by decide +kernel
theorem zd_264_342 : decode (zm_cc 264) 342 = .ok (.aload_n 0, 1) := by decide +kernel
theorem zd_264_343 : decode (zm_cc 264) 343 = .ok (.iload 4, 2) := by decide +kernel
theorem zd_264_345 : decode (zm_cc 264) 345 = .ok (.iconst 2, 1) := by decide +kernel
theorem zd_264_346 : decode (zm_cc 264) 346 = .ok (.iadd, 1) := by decide +kernel
theorem zd_264_347 : decode (zm_cc 264) 347 = .ok (.iaload, 1) := by decide +kernel
theorem zd_264_348 : decode (zm_cc 264) 348 = .ok (.aload_n 0, 1) := by decide +kernel
theorem zd_264_349 : decode (zm_cc 264) 349 = .ok (.iload 4, 2) := by decide +kernel
theorem zd_264_351 : decode (zm_cc 264) 351 = .ok (.iconst 3, 1) := by decide +kernel
theorem zd_264_352 : decode (zm_cc 264) 352 = .ok (.iadd, 1) := by decide +kernel
theorem zd_264_353 : decode (zm_cc 264) 353 = .ok (.iaload, 1) := by decide +kernel
theorem zd_264_354 : decode (zm_cc 264) 354 = .ok (.invokevirtual 52, 3) := by decide +kernel
theorem zd_264_357 : decode (zm_cc 264) 357 = .ok (.aload_n 2, 1) := by decide +kernel
theorem zd_264_358 : decode (zm_cc 264) 358 = .ok (.aload_n 0, 1) := by decide +kernel
theorem zd_264_359 : decode (zm_cc 264) 359 = .ok (.iload 4, 2) := by decide +kernel
theorem zd_264_361 : decode (zm_cc 264) 361 = .ok (.iconst 1, 1) := by decide +kernel
theorem zd_264_362 : decode (zm_cc 264) 362 = .ok (.iadd, 1) := by decide +kernel
theorem zd_264_363 : decode (zm_cc 264) 363 = .ok (.iaload, 1) := by decide +kernel
theorem zd_264_364 : decode (zm_cc 264) 364 = .ok (.aload_n 0, 1) := by decide +kernel
theorem zd_264_365 : decode (zm_cc 264) 365 = .ok (.iload 4, 2) := by decide +kernel
theorem zd_264_367 : decode (zm_cc 264) 367 = .ok (.iconst 2, 1) := by decide +kernel
theorem zd_264_368 : decode (zm_cc 264) 368 = .ok (.iadd, 1) := by decide +kernel
theorem zd_264_369 : decode (zm_cc 264) 369 = .ok (.iaload, 1) := by decide +kernel
theorem zd_264_370 : decode (zm_cc 264) 370 = .ok (.aload_n 0, 1) := by decide +kernel
theorem zd_264_371 : decode (zm_cc 264) 371 = .ok (.iload 4, 2) := by decide +kernel
theorem zd_264_373 : decode (zm_cc 264) 373 = .ok (.iconst 3, 1) := by decide +kernel
theorem zd_264_374 : decode (zm_cc 264) 374 = .ok (.iadd, 1) := by decide +kernel
theorem zd_264_375 : decode (zm_cc 264) 375 = .ok (.iaload, 1) := by decide +kernel
theorem zd_264_376 : decode (zm_cc 264) 376 = .ok (.invokevirtual 56, 3) := by decide +kernel
theorem zd_264_379 : decode (zm_cc 264) 379 = .ok (.if_icmp .eq 477, 3) := by decide +kernel
theorem zd_264_382 : decode (zm_cc 264) 382 = .ok (.iconst 0, 1) := by decide +kernel
theorem zd_264_383 : decode (zm_cc 264) 383 = .ok (.ireturn, 1) := by decide +kernel
theorem zd_264_384 : decode (zm_cc 264) 384 = .ok (.aload_n 1, 1) := by decide +kernel
theorem zd_264_385 : decode (zm_cc 264) 385 = .ok (.invokevirtual 57, 3) := by decide +kernel
theorem zd_264_388 : decode (zm_cc 264) 388 = .ok (.aload_n 2, 1) := by decide +kernel
theorem zd_264_389 : decode (zm_cc 264) 389 = .ok (.invokevirtual 60, 3) := by decide +kernel
theorem zd_264_392 : decode (zm_cc 264) 392 = .ok (.if_icmp .eq 464, 3) := by decide +kernel
theorem zd_264_395 : decode (zm_cc 264) 395 = .ok (.iconst 0, 1) := by decide +kernel
theorem zd_264_396 : decode (zm_cc 264) 396 = .ok (.ireturn, 1) := by decide +kernel
theorem zd_264_397 : decode (zm_cc 264) 397 = .ok (.aload_n 1, 1) := by decide +kernel
theorem zd_264_398 : decode (zm_cc 264) 398 = .ok (.aload_n 0, 1) := by decide +kernel
theorem zd_264_399 : decode (zm_cc 264) 399 = .ok (.iload 4, 2) := by decide +kernel
theorem zd_264_401 : decode (zm_cc 264) 401 = .ok (.iconst 1, 1) := by decide +kernel
theorem zd_264_402 : decode (zm_cc 264) 402 = .ok (.iadd, 1) := by decide +kernel
theorem zd_264_403 : decode (zm_cc 264) 403 = .ok (.iaload, 1) := by decide +kernel
theorem zd_264_404 : decode (zm_cc 264) 404 = .ok (.invokevirtual 61, 3) := by decide +kernel
theorem zd_264_407 : decode (zm_cc 264) 407 = .ok (.aload_n 2, 1) := by decide +kernel
theorem zd_264_408 : decode (zm_cc 264) 408 = .ok (.aload_n 0, 1) := by decide +kernel
theorem zd_264_409 : decode (zm_cc 264) 409 = .ok (.iload 4, 2) := by decide +kernel
theorem zd_264_411 : decode (zm_cc 264) 411 = .ok (.iconst 1, 1) := by decide +kernel
theorem zd_264_412 : decode (zm_cc 264) 412 = .ok (.iadd, 1) := by decide +kernel
theorem zd_264_413 : decode (zm_cc 264) 413 = .ok (.iaload, 1) := by decide +kernel
theorem zd_264_414 : decode (zm_cc 264) 414 = .ok (.invokevirtual 64, 3) := by decide +kernel
theorem zd_264_417 : decode (zm_cc 264) 417 = .ok (.if_icmp .eq 439, 3) := by decide +kernel
theorem zd_264_420 : decode (zm_cc 264) 420 = .ok (.iconst 0, 1) := by decide +kernel
theorem zd_264_421 : decode (zm_cc 264) 421 = .ok (.ireturn, 1) := by decide +kernel
theorem zd_264_422 : decode (zm_cc 264) 422 = .ok (.aload_n 1, 1) := by decide +kernel
theorem zd_264_423 : decode (zm_cc 264) 423 = .ok (.aload_n 0, 1) := by decide +kernel
theorem zd_264_424 : decode (zm_cc 264) 424 = .ok (.iload 4, 2) := by decide +kernel
theorem zd_264_426 : decode (zm_cc 264) 426 = .ok (.iconst 1, 1) := by decide +kernel
theorem zd_264_427 : decode (zm_cc 264) 427 = .ok (.iadd, 1) := by decide +kernel
theorem zd_264_428 : decode (zm_cc 264) 428 = .ok (.iaload, 1) := by decide +kernel
theorem zd_264_429 : decode (zm_cc 264) 429 = .ok (.aload_n 0, 1) := by decide +kernel
theorem zd_264_430 : decode (zm_cc 264) 430 = .ok (.iload 4, 2) := by decide +kernel
theorem zd_264_432 : decode (zm_cc 264) 432 = .ok (.iconst 2, 1) := by decide +kernel
theorem zd_264_433 : decode (zm_cc 264) 433 = .ok (.iadd, 1) := by decide +kernel
theorem zd_264_434 : decode (zm_cc 264) 434 = .ok (.iaload, 1) := by decide +kernel
theorem zd_264_435 : decode (zm_cc 264) 435 = .ok (.invokevirtual 65, 3) := by decide +kernel
theorem zd_264_438 : decode (zm_cc 264) 438 = .ok (.aload_n 2, 1) := by decide +kernel
theorem zd_264_439 : decode (zm_cc 264) 439 = .ok (.aload_n 0, 1) := by decide +kernel
theorem zd_264_440 : decode (zm_cc 264) 440 = .ok (.iload 4, 2) := by decide +kernel
theorem zd_264_442 : decode (zm_cc 264) 442 = .ok (.iconst 1, 1) := by decide +kernel
theorem zd_264_443 : decode (zm_cc 264) 443 = .ok (.iadd, 1) := by decide +kernel
theorem zd_264_444 : decode (zm_cc 264) 444 = .ok (.iaload, 1) := by decide +kernel
theorem zd_264_445 : decode (zm_cc 264) 445 = .ok (.aload_n 0, 1) := by decide +kernel
theorem zd_264_446 : decode (zm_cc 264) 446 = .ok (.iload 4, 2) := by decide +kernel
theorem zd_264_448 : decode (zm_cc 264) 448 = .ok (.iconst 2, 1) := by decide +kernel
theorem zd_264_449 : decode (zm_cc 264) 449 = .ok (.iadd, 1) := by decide +kernel
theorem zd_264_450 : decode (zm_cc 264) 450 = .ok (.iaload, 1) := by decide +kernel
theorem zd_264_451 : decode (zm_cc 264) 451 = .ok (.invokevirtual 69, 3) := by decide +kernel
theorem zd_264_454 : decode (zm_cc 264) 454 = .ok (.if_icmp .eq 402, 3) := by decide +kernel
theorem zd_264_457 : decode (zm_cc 264) 457 = .ok (.iconst 0, 1) := by decide +kernel
theorem zd_264_458 : decode (zm_cc 264) 458 = .ok (.ireturn, 1) := by decide +kernel
theorem zd_264_459 : decode (zm_cc 264) 459 = .ok (.aload_n 1, 1) := by decide +kernel
theorem zd_264_460 : decode (zm_cc 264) 460 = .ok (.invokevirtual 70, 3) := by decide +kernel
theorem zd_264_463 : decode (zm_cc 264) 463 = .ok (.aload_n 2, 1) := by decide +kernel
theorem zd_264_464 : decode (zm_cc 264) 464 = .ok (.invokevirtual 73, 3) := by decide +kernel
theorem zd_264_467 : decode (zm_cc 264) 467 = .ok (.if_icmp .eq 389, 3) := by decide +kernel
theorem zd_264_470 : decode (zm_cc 264) 470 = .ok (.iconst 0, 1) := by decide +kernel
theorem zd_264_471 : decode (zm_cc 264) 471 = .ok (.ireturn, 1) := by decide +kernel
theorem zd_264_472 : decode (zm_cc 264) 472 = .ok (.aload_n 1, 1) := by decide +kernel
theorem zd_264_473 : decode (zm_cc 264) 473 = .ok (.aload_n 0, 1) := by decide +kernel
theorem zd_264_474 : decode (zm_cc 264) 474 = .ok (.iload 4, 2) := by decide +kernel
theorem zd_264_476 : decode (zm_cc 264) 476 = .ok (.iconst 1, 1) := by decide +kernel
theorem zd_264_477 : decode (zm_cc 264) 477 = .ok (.iadd, 1) := by decide +kernel
theorem zd_264_478 : decode (zm_cc 264) 478 = .ok (.iaload, 1) := by decide +kernel
theorem zd_264_479 : decode (zm_cc 264) 479 = .ok (.invokevirtual 74, 3) := by decide +kernel
theorem zd_264_482 : decode (zm_cc 264) 482 = .ok (.aload_n 2, 1) := by decide +kernel
theorem zd_264_483 : decode (zm_cc 264) 483 = .ok (.aload_n 0, 1) := by decide +kernel
theorem zd_264_484 : decode (zm_cc 264) 484 = .ok (.iload 4, 2) := by decide +kernel
theorem zd_264_486 : decode (zm_cc 264) 486 = .ok (.iconst 1, 1) := by decide +kernel
theorem zd_264_487 : decode (zm_cc 264) 487 = .ok (.iadd, 1) := by decide +kernel
theorem zd_264_488 : decode (zm_cc 264) 488 = .ok (.iaload, 1) := by decide +kernel
theorem zd_264_489 : decode (zm_cc 264) 489 = .ok (.invokevirtual 77, 3) := by decide +kernel
theorem zd_264_492 : decode (zm_cc 264) 492 = .ok (.if_icmp .eq 364, 3) := by decide +kernel
theorem zd_264_495 : decode (zm_cc 264) 495 = .ok (.iconst 0, 1) := by decide +kernel
theorem zd_264_496 : decode (zm_cc 264) 496 = .ok (.ireturn, 1) := by decide +kernel
theorem zd_264_497 : decode (zm_cc 264) 497 = .ok (.aload_n 1, 1) := by decide +kernel
theorem zd_264_498 : decode (zm_cc 264) 498 = .ok (.aload_n 0, 1) := by decide +kernel
theorem zd_264_499 : decode (zm_cc 264) 499 = .ok (.iload 4, 2) := by decide +kernel
theorem zd_264_501 : decode (zm_cc 264) 501 = .ok (.iconst 1, 1) := by decide +kernel
theorem zd_264_502 : decode (zm_cc 264) 502 = .ok (.iadd, 1) := by decide +kernel
theorem zd_264_503 : decode (zm_cc 264) 503 = .ok (.iaload, 1) := by decide +kernel
theorem zd_264_504 : decode (zm_cc 264) 504 = .ok (.aload_n 0, 1) := by decide +kernel
theorem zd_264_505 : decode (zm_cc 264) 505 = .ok (.iload 4, 2) := by decide +kernel
theorem zd_264_507 : decode (zm_cc 264) 507 = .ok (.iconst 2, 1) := by decide +kernel
theorem zd_264_508 : decode (zm_cc 264) 508 = .ok (.iadd, 1) := by decide +kernel
theorem zd_264_509 : decode (zm_cc 264) 509 = .ok (.iaload, 1) := by decide +kernel
theorem zd_264_510 : decode (zm_cc 264) 510 = .ok (.invokevirtual 78, 3) := by decide +kernel
theorem zd_264_513 : decode (zm_cc 264) 513 = .ok (.aload_n 2, 1) := by decide +kernel
theorem zd_264_514 : decode (zm_cc 264) 514 = .ok (.aload_n 0, 1) := by decide +kernel
theorem zd_264_515 : decode (zm_cc 264) 515 = .ok (.iload 4, 2) := by decide +kernel
theorem zd_264_517 : decode (zm_cc 264) 517 = .ok (.iconst 1, 1) := by decide +kernel
theorem zd_264_518 : decode (zm_cc 264) 518 = .ok (.iadd, 1) := by decide +kernel
theorem zd_264_519 : decode (zm_cc 264) 519 = .ok (.iaload, 1) := by decide +kernel
theorem zd_264_520 : decode (zm_cc 264) 520 = .ok (.aload_n 0, 1) := by decide +kernel
theorem zd_264_521 : decode (zm_cc 264) 521 = .ok (.iload 4, 2) := by decide +kernel
theorem zd_264_523 : decode (zm_cc 264) 523 = .ok (.iconst 2, 1) := by decide +kernel
theorem zd_264_524 : decode (zm_cc 264) 524 = .ok (.iadd, 1) := by decide +kernel
theorem zd_264_525 : decode (zm_cc 264) 525 = .ok (.iaload, 1) := by decide +kernel
theorem zd_264_526 : decode (zm_cc 264) 526 = .ok (.invokevirtual 81, 3) := by decide +kernel
theorem zd_264_529 : decode (zm_cc 264) 529 = .ok (.if_icmp .eq 327, 3) := by decide +kernel
theorem zd_264_532 : decode (zm_cc 264) 532 = .ok (.iconst 0, 1) := by decide +kernel
theorem zd_264_533 : decode (zm_cc 264) 533 = .ok (.ireturn, 1) := by decide +kernel
theorem zd_264_534 : decode (zm_cc 264) 534 = .ok (.aload_n 1, 1) := by decide +kernel
theorem zd_264_535 : decode (zm_cc 264) 535 = .ok (.aload_n 0, 1) := by decide +kernel
theorem zd_264_536 : decode (zm_cc 264) 536 = .ok (.iload 4, 2) := by decide +kernel
theorem zd_264_538 : decode (zm_cc 264) 538 = .ok (.iconst 1, 1) := by decide +kernel
theorem zd_264_539 : decode (zm_cc 264) 539 = .ok (.iadd, 1) := by decide +kernel
theorem zd_264_540 : decode (zm_cc 264) 540 = .ok (.iaload, 1) := by decide +kernel
theorem zd_264_541 : decode (zm_cc 264) 541 = .ok (.aload_n 0, 1) := by decide +kernel
theorem zd_264_542 : decode (zm_cc 264) 542 = .ok (.iload 4, 2) := by decide +kernel
theorem zd_264_544 : decode (zm_cc 264) 544 = .ok (.iconst 2, 1) := by decide +kernel
theorem zd_264_545 : decode (zm_cc 264) 545 = .ok (.iadd, 1) := by decide +kernel
theorem zd_264_546 : decode (zm_cc 264) 546 = .ok (.iaload, 1) := by decide +kernel
theorem zd_264_547 : decode (zm_cc 264) 547 = .ok (.aload_n 0, 1) := by decide +kernel
theorem zd_264_548 : decode (zm_cc 264) 548 = .ok (.iload 4, 2) := by decide +kernel
theorem zd_264_550 : decode (zm_cc 264) 550 = .ok (.iconst 3, 1) := by decide +kernel
theorem zd_264_551 : decode (zm_cc 264) 551 = .ok (.iadd, 1) := by decide +kernel
theorem zd_264_552 : decode (zm_cc 264) 552 = .ok (.iaload, 1) := by decide +kernel
theorem zd_264_553 : decode (zm_cc 264) 553 = .ok (.invokevirtual 82, 3) := by decide +kernel
theorem zd_264_556 : decode (zm_cc 264) 556 = .ok (.aload_n 2, 1) := by decide +kernel
theorem zd_264_557 : decode (zm_cc 264) 557 = .ok (.aload_n 0, 1) := by decide +kernel
theorem zd_264_558 : decode (zm_cc 264) 558 = .ok (.iload 4, 2) := by decide +kernel
theorem zd_264_560 : decode (zm_cc 264) 560 = .ok (.iconst 1, 1) := by decide +kernel
theorem zd_264_561 : decode (zm_cc 264) 561 = .ok (.iadd, 1) := by decide +kernel
theorem zd_264_562 : decode (zm_cc 264) 562 = .ok (.iaload, 1) := by decide +kernel
theorem zd_264_563 : decode (zm_cc 264) 563 = .ok (.aload_n 0, 1) := by decide +kernel
theorem zd_264_564 : decode (zm_cc 264) 564 = .ok (.iload 4, 2) := by decide +kernel
theorem zd_264_566 : decode (zm_cc 264) 566 = .ok (.iconst 2, 1) := by decide +kernel
theorem zd_264_567 : decode (zm_cc 264) 567 = .ok (.iadd, 1) := by decide +kernel
theorem zd_264_568 : decode (zm_cc 264) 568 = .ok (.iaload, 1) := by decide +kernel
theorem zd_264_569 : decode (zm_cc 264) 569 = .ok (.aload_n 0, 1) := by decide +kernel
theorem zd_264_570 : decode (zm_cc 264) 570 = .ok (.iload 4, 2) := by decide +kernel
theorem zd_264_572 : decode (zm_cc 264) 572 = .ok (.iconst 3, 1) := by decide +kernel
theorem zd_264_573 : decode (zm_cc 264) 573 = .ok (.iadd, 1) := by decide +kernel
theorem zd_264_574 : decode (zm_cc 264) 574 = .ok (.iaload, 1) := by decide +kernel
theorem zd_264_575 : decode (zm_cc 264) 575 = .ok (.invokevirtual 85, 3) := by decide +kernel
theorem zd_264_578 : decode (zm_cc 264) 578 = .ok (.if_icmp .eq 278, 3) := by decide +kernel
theorem zd_264_581 : decode (zm_cc 264) 581 = .ok (.iconst 0, 1) := by decide +kernel
theorem zd_264_582 : decode (zm_cc 264) 582 = .ok (.ireturn, 1) := by decide +kernel
theorem zd_264_583 : decode (zm_cc 264) 583 = .ok (.aload_n 1, 1) := by decide +kernel
theorem zd_264_584 : decode (zm_cc 264) 584 = .ok (.aload_n 0, 1) := by decide +kernel
theorem zd_264_585 : decode (zm_cc 264) 585 = .ok (.iload 4, 2) := by decide +kernel
theorem zd_264_587 : decode (zm_cc 264) 587 = .ok (.iconst 1, 1) := by decide +kernel
theorem zd_264_588 : decode (zm_cc 264) 588 = .ok (.iadd, 1) := by decide +kernel
theorem zd_264_589 : decode (zm_cc 264) 589 = .ok (.iaload, 1) := by decide +kernel
theorem zd_264_590 : decode (zm_cc 264) 590 = .ok (.aload_n 0, 1) := by decide +kernel
theorem zd_264_591 : decode (zm_cc 264) 591 = .ok (.iload 4, 2) := by decide +kernel
theorem zd_264_593 : decode (zm_cc 264) 593 = .ok (.iconst 2, 1) := by decide +kernel
theorem zd_264_594 : decode (zm_cc 264) 594 = .ok (.iadd, 1) := by decide +kernel
theorem zd_264_595 : decode (zm_cc 264) 595 = .ok (.iaload, 1) := by decide +kernel
theorem zd_264_596 : decode (zm_cc 264) 596 = .ok (.invokevirtual 86, 3) := by decide +kernel
theorem zd_264_599 : decode (zm_cc 264) 599 = .ok (.aload_n 2, 1) := by decide +kernel
theorem zd_264_600 : decode (zm_cc 264) 600 = .ok (.aload_n 0, 1) := by decide +kernel
theorem zd_264_601 : decode (zm_cc 264) 601 = .ok (.iload 4, 2) := by decide +kernel
theorem zd_264_603 : decode (zm_cc 264) 603 = .ok (.iconst 1, 1) := by decide +kernel
theorem zd_264_604 : decode (zm_cc 264) 604 = .ok (.iadd, 1) := by decide +kernel
theorem zd_264_605 : decode (zm_cc 264) 605 = .ok (.iaload, 1) := by decide +kernel
theorem zd_264_606 : decode (zm_cc 264) 606 = .ok (.aload_n 0, 1) := by decide +kernel
theorem zd_264_607 : decode (zm_cc 264) 607 = .ok (.iload 4, 2) := by decide +kernel
theorem zd_264_609 : decode (zm_cc 264) 609 = .ok (.iconst 2, 1) := by decide +kernel
theorem zd_264_610 : decode (zm_cc 264) 610 = .ok (.iadd, 1) := by decide +kernel
theorem zd_264_611 : decode (zm_cc 264) 611 = .ok (.iaload, 1) := by decide +kernel
theorem zd_264_612 : decode (zm_cc 264) 612 = .ok (.invokevirtual 89, 3) := by decide +kernel
theorem zd_264_615 : decode (zm_cc 264) 615 = .ok (.if_icmp .eq 241, 3) := by decide +kernel
theorem zd_264_618 : decode (zm_cc 264) 618 = .ok (.iconst 0, 1) := by decide +kernel
theorem zd_264_619 : decode (zm_cc 264) 619 = .ok (.ireturn, 1) := by decide +kernel
theorem zd_264_620 : decode (zm_cc 264) 620 = .ok (.aload_n 1, 1) := by decide +kernel
theorem zd_264_621 : decode (zm_cc 264) 621 = .ok (.aload_n 0, 1) := by decide +kernel
theorem zd_264_622 : decode (zm_cc 264) 622 = .ok (.iload 4, 2) := by decide +kernel
theorem zd_264_624 : decode (zm_cc 264) 624 = .ok (.iconst 1, 1) := by decide +kernel
theorem zd_264_625 : decode (zm_cc 264) 625 = .ok (.iadd, 1) := by decide +kernel
theorem zd_264_626 : decode (zm_cc 264) 626 = .ok (.iaload, 1) := by decide +kernel
theorem zd_264_627 : decode (zm_cc 264) 627 = .ok (.aload_n 0, 1) := by decide +kernel
theorem zd_264_628 : decode (zm_cc 264) 628 = .ok (.iload 4, 2) := by decide +kernel
theorem zd_264_630 : decode (zm_cc 264) 630 = .ok (.iconst 2, 1) := by decide +kernel
theorem zd_264_631 : decode (zm_cc 264) 631 = .ok (.iadd, 1) := by decide +kernel
theorem zd_264_632 : decode (zm_cc 264) 632 = .ok (.iaload, 1) := by decide +kernel
theorem zd_264_633 : decode (zm_cc 264) 633 = .ok (.invokevirtual 90, 3) := by decide +kernel
theorem zd_264_636 : decode (zm_cc 264) 636 = .ok (.aload_n 2, 1) := by decide +kernel
theorem zd_264_637 : decode (zm_cc 264) 637 = .ok (.aload_n 0, 1) := by decide +kernel
theorem zd_264_638 : decode (zm_cc 264) 638 = .ok (.iload 4, 2) := by decide +kernel
theorem zd_264_640 : decode (zm_cc 264) 640 = .ok (.iconst 1, 1) := by decide +kernel
theorem zd_264_641 : decode (zm_cc 264) 641 = .ok (.iadd, 1) := by decide +kernel
theorem zd_264_642 : decode (zm_cc 264) 642 = .ok (.iaload, 1) := by decide +kernel
theorem zd_264_643 : decode (zm_cc 264) 643 = .ok (.aload_n 0, 1) := by decide +kernel
theorem zd_264_644 : decode (zm_cc 264) 644 = .ok (.iload 4, 2) := by decide +kernel
theorem zd_264_646 : decode (zm_cc 264) 646 = .ok (.iconst 2, 1) := by decide +kernel
theorem zd_264_647 : decode (zm_cc 264) 647 = .ok (.iadd, 1) := by decide +kernel
theorem zd_264_648 : decode (zm_cc 264) 648 = .ok (.iaload, 1) := by decide +kernel
theorem zd_264_649 : decode (zm_cc 264) 649 = .ok (.invokevirtual 93, 3) := by decide +kernel
theorem zd_264_652 : decode (zm_cc 264) 652 = .ok (.if_icmp .eq 204, 3) := by decide +kernel
theorem zd_264_655 : decode (zm_cc 264) 655 = .ok (.iconst 0, 1) := by decide +kernel
theorem zd_264_656 : decode (zm_cc 264) 656 = .ok (.ireturn, 1) := by decide +kernel
theorem zd_264_657 : decode (zm_cc 264) 657 = .ok (.aload_n 1, 1) := by decide +kernel
theorem zd_264_658 : decode (zm_cc 264) 658 = .ok (.aload_n 0, 1) := by decide +kernel
theorem zd_264_659 : decode (zm_cc 264) 659 = .ok (.iload 4, 2) := by decide +kernel
theorem zd_264_661 : decode (zm_cc 264) 661 = .ok (.iconst 1, 1) := by decide +kernel
theorem zd_264_662 : decode (zm_cc 264) 662 = .ok (.iadd, 1) := by decide +kernel
theorem zd_264_663 : decode (zm_cc 264) 663 = .ok (.iaload, 1) := by decide +kernel
theorem zd_264_664 : decode (zm_cc 264) 664 = .ok (.invokevirtual 94, 3) := by decide +kernel
theorem zd_264_667 : decode (zm_cc 264) 667 = .ok (.aload_n 2, 1) := by decide +kernel
theorem zd_264_668 : decode (zm_cc 264) 668 = .ok (.aload_n 0, 1) := by decide +kernel
theorem zd_264_669 : decode (zm_cc 264) 669 = .ok (.iload 4, 2) := by decide +kernel
theorem zd_264_671 : decode (zm_cc 264) 671 = .ok (.iconst 1, 1) := by decide +kernel
theorem zd_264_672 : decode (zm_cc 264) 672 = .ok (.iadd, 1) := by decide +kernel
theorem zd_264_673 : decode (zm_cc 264) 673 = .ok (.iaload, 1) := by decide +kernel
theorem zd_264_674 : decode (zm_cc 264) 674 = .ok (.invokevirtual 97, 3) := by decide +kernel
theorem zd_264_677 : decode (zm_cc 264) 677 = .ok (.if_icmp .eq 179, 3) := by decide +kernel
theorem zd_264_680 : decode (zm_cc 264) 680 = .ok (.iconst 0, 1) := by decide +kernel
theorem zd_264_681 : decode (zm_cc 264) 681 = .ok (.ireturn, 1) := by decide +kernel
theorem zd_264_682 : decode (zm_cc 264) 682 = .ok (.aload_n 1, 1) := by decide +kernel
theorem zd_264_683 : decode (zm_cc 264) 683 = .ok (.aload_n 0, 1) := by decide +kernel
theorem zd_264_684 : decode (zm_cc 264) 684 = .ok (.iload 4, 2) := by decide +kernel
theorem zd_264_686 : decode (zm_cc 264) 686 = .ok (.iconst 1, 1) := by decide +kernel
theorem zd_264_687 : decode (zm_cc 264) 687 = .ok (.iadd, 1) := by decide +kernel
theorem zd_264_688 : decode (zm_cc 264) 688 = .ok (.iaload, 1) := by decide +kernel
theorem zd_264_689 : decode (zm_cc 264) 689 = .ok (.invokevirtual 98, 3) := by decide +kernel
theorem zd_264_692 : decode (zm_cc 264) 692 = .ok (.aload_n 2, 1) := by decide +kernel
theorem zd_264_693 : decode (zm_cc 264) 693 = .ok (.aload_n 0, 1) := by decide +kernel
theorem zd_264_694 : decode (zm_cc 264) 694 = .ok (.iload 4, 2) := by decide +kernel
theorem zd_264_696 : decode (zm_cc 264) 696 = .ok (.iconst 1, 1) := by decide +kernel
theorem zd_264_697 : decode (zm_cc 264) 697 = .ok (.iadd, 1) := by decide +kernel
theorem zd_264_698 : decode (zm_cc 264) 698 = .ok (.iaload, 1) := by decide +kernel
theorem zd_264_699 : decode (zm_cc 264) 699 = .ok (.invokevirtual 101, 3) := by decide +kernel
theorem zd_264_702 : decode (zm_cc 264) 702 = .ok (.if_icmp .eq 154, 3) := by decide +kernel
theorem zd_264_705 : decode (zm_cc 264) 705 = .ok (.iconst 0, 1) := by decide +kernel
theorem zd_264_706 : decode (zm_cc 264) 706 = .ok (.ireturn, 1) := by decide +kernel
theorem zd_264_707 : decode (zm_cc 264) 707 = .ok (.aload_n 1, 1) := by decide +kernel
theorem zd_264_708 : decode (zm_cc 264) 708 = .ok (.invokevirtual 102, 3) := by decide +kernel
theorem zd_264_711 : decode (zm_cc 264) 711 = .ok (.aload_n 2, 1) := by decide +kernel
theorem zd_264_712 : decode (zm_cc 264) 712 = .ok (.invokevirtual 105, 3) := by decide +kernel
theorem zd_264_715 : decode (zm_cc 264) 715 = .ok (.if_icmp .eq 141, 3) := by decide +kernel
theorem zd_264_718 : decode (zm_cc 264) 718 = .ok (.iconst 0, 1) := by decide +kernel
theorem zd_264_719 : decode (zm_cc 264) 719 = .ok (.ireturn, 1) := by decide +kernel
theorem zd_264_720 : decode (zm_cc 264) 720 = .ok (.aload_n 1, 1) := by decide +kernel
theorem zd_264_721 : decode (zm_cc 264) 721 = .ok (.aload_n 0, 1) := by decide +kernel
theorem zd_264_722 : decode (zm_cc 264) 722 = .ok (.iload 4, 2) := by decide +kernel
theorem zd_264_724 : decode (zm_cc 264) 724 = .ok (.iconst 1, 1) := by decide +kernel
theorem zd_264_725 : decode (zm_cc 264) 725 = .ok (.iadd, 1) := by decide +kernel
theorem zd_264_726 : decode (zm_cc 264) 726 = .ok (.iaload, 1) := by decide +kernel
theorem zd_264_727 : decode (zm_cc 264) 727 = .ok (.aload_n 0, 1) := by decide +kernel
theorem zd_264_728 : decode (zm_cc 264) 728 = .ok (.iload 4, 2) := by decide +kernel
theorem zd_264_730 : decode (zm_cc 264) 730 = .ok (.iconst 2, 1) := by decide +kernel
theorem zd_264_731 : decode (zm_cc 264) 731 = .ok (.iadd, 1) := by decide +kernel
theorem zd_264_732 : decode (zm_cc 264) 732 = .ok (.iaload, 1) := by decide +kernel
theorem zd_264_733 : decode (zm_cc 264) 733 = .ok (.invokevirtual 106, 3) := by decide +kernel
theorem zd_264_736 : decode (zm_cc 264) 736 = .ok (.aload_n 2, 1) := by decide +kernel
theorem zd_264_737 : decode (zm_cc 264) 737 = .ok (.aload_n 0, 1) := by decide +kernel
theorem zd_264_738 : decode (zm_cc 264) 738 = .ok (.iload 4, 2) := by decide +kernel
theorem zd_264_740 : decode (zm_cc 264) 740 = .ok (.iconst 1, 1) := by decide +kernel
theorem zd_264_741 : decode (zm_cc 264) 741 = .ok (.iadd, 1) := by decide +kernel
theorem zd_264_742 : decode (zm_cc 264) 742 = .ok (.iaload, 1) := by decide +kernel
theorem zd_264_743 : decode (zm_cc 264) 743 = .ok (.aload_n 0, 1) := by decide +kernel
theorem zd_264_744 : decode (zm_cc 264) 744 = .ok (.iload 4, 2) := by decide +kernel
theorem zd_264_746 : decode (zm_cc 264) 746 = .ok (.iconst 2, 1) := by decide +kernel
theorem zd_264_747 : decode (zm_cc 264) 747 = .ok (.iadd, 1) := by decide +kernel
theorem zd_264_748 : decode (zm_cc 264) 748 = .ok (.iaload, 1) := by decide +kernel
theorem zd_264_749 : decode (zm_cc 264) 749 = .ok (.invokevirtual 109, 3) := by decide +kernel
theorem zd_264_752 : decode (zm_cc 264) 752 = .ok (.if_icmp .eq 104, 3) := by decide +kernel
theorem zd_264_755 : decode (zm_cc 264) 755 = .ok (.iconst 0, 1) := by decide +kernel
theorem zd_264_756 : decode (zm_cc 264) 756 = .ok (.ireturn, 1) := by decide +kernel
theorem zd_264_757 : decode (zm_cc 264) 757 = .ok (.aload_n 1, 1) := by decide +kernel
theorem zd_264_758 : decode (zm_cc 264) 758 = .ok (.aload_n 0, 1) := by decide +kernel
theorem zd_264_759 : decode (zm_cc 264) 759 = .ok (.iload 4, 2) := by decide +kernel
theorem zd_264_761 : decode (zm_cc 264) 761 = .ok (.iconst 1, 1) := by decide +kernel
theorem zd_264_762 : decode (zm_cc 264) 762 = .ok (.iadd, 1) := by decide +kernel
theorem zd_264_763 : decode (zm_cc 264) 763 = .ok (.iaload, 1) := by decide +kernel
theorem zd_264_764 : decode (zm_cc 264) 764 = .ok (.aload_n 0, 1) := by decide +kernel
theorem zd_264_765 : decode (zm_cc 264) 765 = .ok (.iload 4, 2) := by decide +kernel
theorem zd_264_767 : decode (zm_cc 264) 767 = .ok (.iconst 2, 1) := by decide +kernel
theorem zd_264_768 : decode (zm_cc 264) 768 = .ok (.iadd, 1) := by decide +kernel
theorem zd_264_769 : decode (zm_cc 264) 769 = .ok (.iaload, 1) := by decide +kernel
theorem zd_264_770 : decode (zm_cc 264) 770 = .ok (.aload_n 0, 1) := by decide +kernel
theorem zd_264_771 : decode (zm_cc 264) 771 = .ok (.iload 4, 2) := by decide +kernel
theorem zd_264_773 : decode (zm_cc 264) 773 = .ok (.iconst 3, 1) := by decide +kernel
theorem zd_264_774 : decode (zm_cc 264) 774 = .ok (.iadd, 1) := by decide +kernel
theorem zd_264_775 : decode (zm_cc 264) 775 = .ok (.iaload, 1) := by decide +kernel
theorem zd_264_776 : decode (zm_cc 264) 776 = .ok (.aload_n 0, 1) := by decide +kernel
theorem zd_264_777 : decode (zm_cc 264) 777 = .ok (.iload 4, 2) := by decide +kernel
theorem zd_264_779 : decode (zm_cc 264) 779 = .ok (.iconst 4, 1) := by decide +kernel
theorem zd_264_780 : decode (zm_cc 264) 780 = .ok (.iadd, 1) := by decide +kernel
theorem zd_264_781 : decode (zm_cc 264) 781 = .ok (.iaload, 1) := by decide +kernel
theorem zd_264_782 : decode (zm_cc 264) 782 = .ok (.invokevirtual 110, 3) := by decide +kernel
theorem zd_264_785 : decode (zm_cc 264) 785 = .ok (.aload_n 2, 1) := by decide +kernel
theorem zd_264_786 : decode (zm_cc 264) 786 = .ok (.aload_n 0, 1) := by decide +kernel
theorem zd_264_787 : decode (zm_cc 264) 787 = .ok (.iload 4, 2) := by decide +kernel
theorem zd_264_789 : decode (zm_cc 264) 789 = .ok (.iconst 1, 1) := by decide +kernel
theorem zd_264_790 : decode (zm_cc 264) 790 = .ok (.iadd, 1) := by decide +kernel
theorem zd_264_791 : decode (zm_cc 264) 791 = .ok (.iaload, 1) := by decide +kernel
theorem zd_264_792 : decode (zm_cc 264) 792 = .ok (.aload_n 0, 1) := by decide +kernel
theorem zd_264_793 : decode (zm_cc 264) 793 = .ok (.iload 4, 2) := by decide +kernel
theorem zd_264_795 : decode (zm_cc 264) 795 = .ok (.iconst 2, 1) := by decide +kernel
theorem zd_264_796 : decode (zm_cc 264) 796 = .ok (.iadd, 1) := by decide +kernel
theorem zd_264_797 : decode (zm_cc 264) 797 = .ok (.iaload, 1) := by decide +kernel
theorem zd_264_798 : decode (zm_cc 264) 798 = .ok (.aload_n 0, 1) := by decide +kernel
theorem zd_264_799 : decode (zm_cc 264) 799 = .ok (.iload 4, 2) := by decide +kernel
theorem zd_264_801 : decode (zm_cc 264) 801 = .ok (.iconst 3, 1) := by decide +kernel
theorem zd_264_802 : decode (zm_cc 264) 802 = .ok (.iadd, 1) := by decide +kernel
theorem zd_264_803 : decode (zm_cc 264) 803 = .ok (.iaload, 1) := by decide +kernel
theorem zd_264_804 : decode (zm_cc 264) 804 = .ok (.aload_n 0, 1) := by decide +kernel
theorem zd_264_805 : decode (zm_cc 264) 805 = .ok (.iload 4, 2) := by decide +kernel
theorem zd_264_807 : decode (zm_cc 264) 807 = .ok (.iconst 4, 1) := by decide +kernel
theorem zd_264_808 : decode (zm_cc 264) 808 = .ok (.iadd, 1) := by decide +kernel
theorem zd_264_809 : decode (zm_cc 264) 809 = .ok (.iaload, 1) := by decide +kernel
theorem zd_264_810 : decode (zm_cc 264) 810 = .ok (.invokevirtual 114, 3) := by decide +kernel
theorem zd_264_813 : decode (zm_cc 264) 813 = .ok (.if_icmp .eq 43, 3) := by decide +kernel
theorem zd_264_816 : decode (zm_cc 264) 816 = .ok (.iconst 0, 1) := by decide +kernel
theorem zd_264_817 : decode (zm_cc 264) 817 = .ok (.ireturn, 1) := by decide +kernel
theorem zd_264_818 : decode (zm_cc 264) 818 = .ok (.aload_n 1, 1) := by decide +kernel
theorem zd_264_819 : decode (zm_cc 264) 819 = .ok (.aload_n 0, 1) := by decide +kernel
theorem zd_264_820 : decode (zm_cc 264) 820 = .ok (.iload 4, 2) := by decide +kernel
theorem zd_264_822 : decode (zm_cc 264) 822 = .ok (.iconst 1, 1) := by decide +kernel
theorem zd_264_823 : decode (zm_cc 264) 823 = .ok (.iadd, 1) := by decide +kernel
theorem zd_264_824 : decode (zm_cc 264) 824 = .ok (.iaload, 1) := by decide +kernel
theorem zd_264_825 : decode (zm_cc 264) 825 = .ok (.invokevirtual 115, 3) := by decide +kernel
theorem zd_264_828 : decode (zm_cc 264) 828 = .ok (.aload_n 2, 1) := by decide +kernel
theorem zd_264_829 : decode (zm_cc 264) 829 = .ok (.aload_n 0, 1) := by decide +kernel
theorem zd_264_830 : decode (zm_cc 264) 830 = .ok (.iload 4, 2) := by decide +kernel
theorem zd_264_832 : decode (zm_cc 264) 832 = .ok (.iconst 1, 1) := by decide +kernel
theorem zd_264_833 : decode (zm_cc 264) 833 = .ok (.iadd, 1) := by decide +kernel
theorem zd_264_834 : decode (zm_cc 264) 834 = .ok (.iaload, 1) := by decide +kernel
theorem zd_264_835 : decode (zm_cc 264) 835 = .ok (.invokevirtual 118, 3) := by decide +kernel
theorem zd_264_838 : decode (zm_cc 264) 838 = .ok (.if_icmp .eq 18, 3) := by decide +kernel
theorem zd_264_841 : decode (zm_cc 264) 841 = .ok (.iconst 0, 1) := by decide +kernel
theorem zd_264_842 : decode (zm_cc 264) 842 = .ok (.ireturn, 1) := by decide +kernel
theorem zd_264_843 : decode (zm_cc 264) 843 = .ok (.aload_n 1, 1) := by decide +kernel
theorem zd_264_844 : decode (zm_cc 264) 844 = .ok (.invokevirtual 119, 3) := by decide +kernel
theorem zd_264_847 : decode (zm_cc 264) 847 = .ok (.aload_n 2, 1) := by decide +kernel
theorem zd_264_848 : decode (zm_cc 264) 848 = .ok (.invokevirtual 122, 3) := by decide +kernel
theorem zd_264_851 : decode (zm_cc 264) 851 = .ok (.if_icmp .eq 5, 3) := by decide +kernel
theorem zd_264_854 : decode (zm_cc 264) 854 = .ok (.iconst 0, 1) := by decide +kernel
theorem zd_264_855 : decode (zm_cc 264) 855 = .ok (.ireturn, 1) := by decide +kernel
theorem zd_264_856 : decode (zm_cc 264) 856 = .ok (.iinc 4 6, 3) := by decide +kernel
theorem zd_264_859 : decode (zm_cc 264) 859 = .ok (.goto (-836), 3) := by decide +kernel
theorem zd_264_862 : decode (zm_cc 264) 862 = .ok (.iconst 1, 1) := by decide +kernel
theorem zd_264_863 : decode (zm_cc 264) 863 = .ok (.ireturn, 1) := by decide +kernel
theorem zd_265_0 : decode (zm_cc 265) 0 = .ok (.aload 6, 2) := by decide +kernel
theorem zd_265_2 : decode (zm_cc 265) 2 = .ok (.iconst 0, 1) := by decide +kernel
theorem zd_265_3 : decode (zm_cc 265) 3 = .ok (.aload_n 0, 1) := by decide +kernel
theorem zd_265_4 : decode (zm_cc 265) 4 = .ok (.iload_n 1, 1) := by decide +kernel
theorem zd_265_5 : decode (zm_cc 265) 5 = .ok (.iload_n 2, 1) := by decide +kernel
theorem zd_265_6 : decode (zm_cc 265) 6 = .ok (.iload_n 3, 1) := by decide +kernel
theorem zd_265_7 : decode (zm_cc 265) 7 = .ok (.iload 4, 2) := by decide +kernel
theorem zd_265_9 : decode (zm_cc 265) 9 = .ok (.iload 5, 2) := by decide +kernel
theorem zd_265_11 : decode (zm_cc 265) 11 = .ok (.invokevirtual 7, 3) := by decide +kernel
theorem zd_265_14 : decode (zm_cc 265) 14 = .ok (.i2l, 1) := by decide +kernel
theorem zd_265_15 : decode (zm_cc 265) 15 = .ok (.lastore, 1) := by decide +kernel
theorem zd_265_16 : decode (zm_cc 265) 16 = .ok (.goto 7, 3) := by decide +kernel
theorem zd_265_23 : decode (zm_cc 265) 23 = .ok (.iconst 0, 1) := by decide +kernel
theorem zd_265_24 : decode (zm_cc 265) 24 = .ok (.ireturn, 1) := by decide +kernel
theorem zd_266_0 : decode (zm_cc 266) 0 = .ok (.aload_n 0, 1) := by decide +kernel
theorem zd_266_1 : decode (zm_cc 266) 1 = .ok (.iload_n 1, 1) := by decide +kernel
theorem zd_266_2 : decode (zm_cc 266) 2 = .ok (.invokevirtual 15, 3) := by decide +kernel
theorem zd_266_5 : decode (zm_cc 266) 5 = .ok (.goto 6, 3) := by decide +kernel
theorem zd_266_11 : decode (zm_cc 266) 11 = .ok (.iconst 0, 1) := by decide +kernel
theorem zd_266_12 : decode (zm_cc 266) 12 = .ok (.ireturn, 1) := by decide +kernel
