/-! decode rows of the law -/
theorem zd_264_25 : decode (zm_cc 264) 25 = .ok (.aload_n 0, 1) := by decide +kernel
theorem zd_264_26 : decode (zm_cc 264) 26 = .ok (.arraylength, 1) := by decide +kernel
theorem zd_264_27 : decode (zm_cc 264) 27 = .ok (.bipush 6, 2) := by decide +kernel
theorem zd_264_29 : decode (zm_cc 264) 29 = .ok (.isub, 1) := by decide +kernel
theorem zd_264_30 : decode (zm_cc 264) 30 = .ok (.if_icmp .gt 821, 3) := by decide +kernel
theorem zd_264_33 : decode (zm_cc 264) 33 = .ok (.aload_n 0, 1) := by decide +kernel
theorem zd_264_34 : decode (zm_cc 264) 34 = .ok (.iload 4, 2) := by decide +kernel
theorem zd_264_36 : decode (zm_cc 264) 36 = .ok (.iaload, 1) := by decide +kernel
theorem zd_264_37 : decode (zm_cc 264) 37 = .ok (.bipush 31, 2) := by decide +kernel
theorem zd_264_39 : decode (zm_cc 264) 39 = .ok (.iand, 1) := by decide +kernel
theorem zd_264_40 : decode (zm_cc 264) 40 = .ok (.tableswitch 805 0 21 #[104, 208, 233, 246, 259, 284, 333, 346, 371, 408, 421, 446, 483, 532, 569, 606, 631, 656, 669, 706, 767, 792], 104) := by decide +kernel
theorem zd_264_144 : decode (zm_cc 264) 144 = .ok (.aload_n 1, 1) := by decide +kernel
theorem zd_264_145 : decode (zm_cc 264) 145 = .ok (.aload_n 0, 1) := by decide +kernel
theorem zd_264_146 : decode (zm_cc 264) 146 = .ok (.iload 4, 2) := by decide +kernel
theorem zd_264_148 : decode (zm_cc 264) 148 = .ok (.iconst 1, 1) := by decide +kernel
theorem zd_264_149 : decode (zm_cc 264) 149 = .ok (.iadd, 1) := by decide +kernel
theorem zd_264_150 : decode (zm_cc 264) 150 = .ok (.iaload, 1) := by decide +kernel
theorem zd_264_151 : decode (zm_cc 264) 151 = .ok (.aload_n 0, 1) := by decide +kernel
theorem zd_264_152 : decode (zm_cc 264) 152 = .ok (.iload 4, 2) := by decide +kernel
theorem zd_264_154 : decode (zm_cc 264) 154 = .ok (.iconst 2, 1) := by decide +kernel
theorem zd_264_155 : decode (zm_cc 264) 155 = .ok (.iadd, 1) := by decide +kernel
theorem zd_264_156 : decode (zm_cc 264) 156 = .ok (.iaload, 1) := by decide +kernel
theorem zd_264_157 : decode (zm_cc 264) 157 = .ok (.aload_n 0, 1) := by decide +kernel
theorem zd_264_158 : decode (zm_cc 264) 158 = .ok (.iload 4, 2) := by decide +kernel
theorem zd_264_160 : decode (zm_cc 264) 160 = .ok (.iconst 3, 1) := by decide +kernel
theorem zd_264_161 : decode (zm_cc 264) 161 = .ok (.iadd, 1) := by decide +kernel
theorem zd_264_162 : decode (zm_cc 264) 162 = .ok (.iaload, 1) := by decide +kernel
theorem zd_264_163 : decode (zm_cc 264) 163 = .ok (.aload_n 0, 1) := by decide +kernel
theorem zd_264_164 : decode (zm_cc 264) 164 = .ok (.iload 4, 2) := by decide +kernel
theorem zd_264_166 : decode (zm_cc 264) 166 = .ok (.iconst 4, 1) := by decide +kernel
theorem zd_264_167 : decode (zm_cc 264) 167 = .ok (.iadd, 1) := by decide +kernel
theorem zd_264_168 : decode (zm_cc 264) 168 = .ok (.iaload, 1) := by decide +kernel
theorem zd_264_169 : decode (zm_cc 264) 169 = .ok (.aload_n 0, 1) := by decide +kernel
theorem zd_264_170 : decode (zm_cc 264) 170 = .ok (.iload 4, 2) := by decide +kernel
theorem zd_264_172 : decode (zm_cc 264) 172 = .ok (.iconst 5, 1) := by decide +kernel
theorem zd_264_173 : decode (zm_cc 264) 173 = .ok (.iadd, 1) := by decide +kernel
theorem zd_264_174 : decode (zm_cc 264) 174 = .ok (.iaload, 1) := by decide +kernel
theorem zd_264_175 : decode (zm_cc 264) 175 = .ok (.aload_n 3, 1) := by decide +kernel
theorem zd_264_176 : decode (zm_cc 264) 176 = .ok (.invokestatic 25, 3) := by decide +kernel
theorem zd_264_179 : decode (zm_cc 264) 179 = .ok (.istore 5, 2) := by decide +kernel
theorem zd_264_181 : decode (zm_cc 264) 181 = .ok (.aload_n 2, 1) := by decide +kernel
theorem zd_264_182 : decode (zm_cc 264) 182 = .ok (.aload_n 0, 1) := by decide +kernel
theorem zd_264_183 : decode (zm_cc 264) 183 = .ok (.iload 4, 2) := by decide +kernel
theorem zd_264_185 : decode (zm_cc 264) 185 = .ok (.iconst 1, 1) := by decide +kernel
theorem zd_264_186 : decode (zm_cc 264) 186 = .ok (.iadd, 1) := by decide +kernel
theorem zd_264_187 : decode (zm_cc 264) 187 = .ok (.iaload, 1) := by decide +kernel
theorem zd_264_188 : decode (zm_cc 264) 188 = .ok (.aload_n 0, 1) := by decide +kernel
theorem zd_264_189 : decode (zm_cc 264) 189 = .ok (.iload 4, 2) := by decide +kernel
theorem zd_264_191 : decode (zm_cc 264) 191 = .ok (.iconst 2, 1) := by decide +kernel
theorem zd_264_192 : decode (zm_cc 264) 192 = .ok (.iadd, 1) := by decide +kernel
theorem zd_264_193 : decode (zm_cc 264) 193 = .ok (.iaload, 1) := by decide +kernel
theorem zd_264_194 : decode (zm_cc 264) 194 = .ok (.aload_n 0, 1) := by decide +kernel
theorem zd_264_195 : decode (zm_cc 264) 195 = .ok (.iload 4, 2) := by decide +kernel
theorem zd_264_197 : decode (zm_cc 264) 197 = .ok (.iconst 3, 1) := by decide +kernel
theorem zd_264_198 : decode (zm_cc 264) 198 = .ok (.iadd, 1) := by decide +kernel
theorem zd_264_199 : decode (zm_cc 264) 199 = .ok (.iaload, 1) := by decide +kernel
theorem zd_264_200 : decode (zm_cc 264) 200 = .ok (.aload_n 0, 1) := by decide +kernel
theorem zd_264_201 : decode (zm_cc 264) 201 = .ok (.iload 4, 2) := by decide +kernel
theorem zd_264_203 : decode (zm_cc 264) 203 = .ok (.iconst 4, 1) := by decide +kernel
theorem zd_264_204 : decode (zm_cc 264) 204 = .ok (.iadd, 1) := by decide +kernel
theorem zd_264_205 : decode (zm_cc 264) 205 = .ok (.iaload, 1) := by decide +kernel
theorem zd_264_206 : decode (zm_cc 264) 206 = .ok (.aload_n 0, 1) := by decide +kernel
theorem zd_264_207 : decode (zm_cc 264) 207 = .ok (.iload 4, 2) := by decide +kernel
theorem zd_264_209 : decode (zm_cc 264) 209 = .ok (.iconst 5, 1) := by decide +kernel
theorem zd_264_210 : decode (zm_cc 264) 210 = .ok (.iadd, 1) := by decide +kernel
theorem zd_264_211 : decode (zm_cc 264) 211 = .ok (.iaload, 1) := by decide +kernel
theorem zd_264_212 : decode (zm_cc 264) 212 = .ok (.invokevirtual 30, 3) := by decide +kernel
theorem zd_264_215 : decode (zm_cc 264) 215 = .ok (.istore 6, 2) := by decide +kernel
theorem zd_264_217 : decode (zm_cc 264) 217 = .ok (.aload_n 2, 1) := by decide +kernel
theorem zd_264_218 : decode (zm_cc 264) 218 = .ok (.invokevirtual 31, 3) := by decide +kernel
theorem zd_264_221 : decode (zm_cc 264) 221 = .ok (.iload 5, 2) := by decide +kernel
theorem zd_264_223 : decode (zm_cc 264) 223 = .ok (.if_icmp .eq 5, 3) := by decide +kernel
theorem zd_264_226 : decode (zm_cc 264) 226 = .ok (.iconst 0, 1) := by decide +kernel
theorem zd_264_227 : decode (zm_cc 264) 227 = .ok (.ireturn, 1) := by decide +kernel
theorem zd_264_228 : decode (zm_cc 264) 228 = .ok (.iload 5, 2) := by decide +kernel
theorem zd_264_230 : decode (zm_cc 264) 230 = .ok (.ifCond .ne 15, 3) := by decide +kernel
theorem zd_264_233 : decode (zm_cc 264) 233 = .ok (.aload_n 3, 1) := by decide +kernel
theorem zd_264_234 : decode (zm_cc 264) 234 = .ok (.iconst 0, 1) := by decide +kernel
theorem zd_264_235 : decode (zm_cc 264) 235 = .ok (.laload, 1) := by decide +kernel
theorem zd_264_236 : decode (zm_cc 264) 236 = .ok (.iload 6, 2) := by decide +kernel
theorem zd_264_238 : decode (zm_cc 264) 238 = .ok (.i2l, 1) := by decide +kernel
theorem zd_264_239 : decode (zm_cc 264) 239 = .ok (.lcmp, 1) := by decide +kernel
theorem zd_264_240 : decode (zm_cc 264) 240 = .ok (.ifCond .eq 5, 3) := by decide +kernel
theorem zd_264_243 : decode (zm_cc 264) 243 = .ok (.iconst 0, 1) := by decide +kernel
theorem zd_264_244 : decode (zm_cc 264) 244 = .ok (.ireturn, 1) := by decide +kernel
theorem zd_264_245 : decode (zm_cc 264) 245 = .ok (.goto 600, 3) := by decide +kernel
theorem zd_264_248 : decode (zm_cc 264) 248 = .ok (.aload_n 1, 1) := by decide +kernel
theorem zd_264_249 : decode (zm_cc 264) 249 = .ok (.aload_n 0, 1) := by decide +kernel
theorem zd_264_250 : decode (zm_cc 264) 250 = .ok (.iload 4, 2) := by decide +kernel
theorem zd_264_252 : decode (zm_cc 264) 252 = .ok (.iconst 1, 1) := by decide +kernel
theorem zd_264_253 : decode (zm_cc 264) 253 = .ok (.iadd, 1) := by decide +kernel
theorem zd_264_254 : decode (zm_cc 264) 254 = .ok (.iaload, 1) := by decide +kernel
theorem zd_264_255 : decode (zm_cc 264) 255 = .ok (.invokestatic 35, 3) := by decide +kernel
theorem zd_264_258 : decode (zm_cc 264) 258 = .ok (.istore 5, 2) := by decide +kernel
theorem zd_264_260 : decode (zm_cc 264) 260 = .ok (.aload_n 2, 1) := by decide +kernel
theorem zd_264_261 : decode (zm_cc 264) 261 = .ok (.aload_n 0, 1) := by decide +kernel
theorem zd_264_262 : decode (zm_cc 264) 262 = .ok (.iload 4, 2) := by decide +kernel
theorem zd_264_264 : decode (zm_cc 264) 264 = .ok (.iconst 1, 1) := by decide +kernel
theorem zd_264_265 : decode (zm_cc 264) 265 = .ok (.iadd, 1) := by decide +kernel
theorem zd_264_266 : decode (zm_cc 264) 266 = .ok (.iaload, 1) := by decide +kernel
theorem zd_264_267 : decode (zm_cc 264) 267 = .ok (.invokevirtual 38, 3) := by decide +kernel
theorem zd_264_270 : decode (zm_cc 264) 270 = .ok (.goto 575, 3) := by decide +kernel
theorem zd_264_273 : decode (zm_cc 264) 273 = .ok (.aload_n 1, 1) := by decide +kernel
theorem zd_264_274 : decode (zm_cc 264) 274 = .ok (.invokevirtual 39, 3) := by decide +kernel
theorem zd_264_277 : decode (zm_cc 264) 277 = .ok (.pop, 1) := by decide +kernel
theorem zd_264_278 : decode (zm_cc 264) 278 = .ok (.aload_n 2, 1) := by decide +kernel
theorem zd_264_279 : decode (zm_cc 264) 279 = .ok (.invokevirtual 42, 3) := by decide +kernel
theorem zd_264_282 : decode (zm_cc 264) 282 = .ok (.pop, 1) := by decide +kernel
theorem zd_264_283 : decode (zm_cc 264) 283 = .ok (.goto 562, 3) := by decide +kernel
theorem zd_264_286 : decode (zm_cc 264) 286 = .ok (.aload_n 1, 1) := by decide +kernel
theorem zd_264_287 : decode (zm_cc 264) 287 = .ok (.invokevirtual 43, 3) := by decide +kernel
theorem zd_264_290 : decode (zm_cc 264) 290 = .ok (.pop, 1) := by decide +kernel
theorem zd_264_291 : decode (zm_cc 264) 291 = .ok (.aload_n 2, 1) := by decide +kernel
theorem zd_264_292 : decode (zm_cc 264) 292 = .ok (.invokevirtual 46, 3) := by decide +kernel
theorem zd_264_295 : decode (zm_cc 264) 295 = .ok (.pop, 1) := by decide +kernel
theorem zd_264_296 : decode (zm_cc 264) 296 = .ok (.goto 549, 3) := by decide +kernel
theorem zd_264_299 : decode (zm_cc 264) 299 = .ok (.aload_n 1, 1) := by decide +kernel
theorem zd_264_300 : decode (zm_cc 264) 300 = .ok (.aload_n 0, 1) := by decide +kernel
theorem zd_264_301 : decode (zm_cc 264) 301 = .ok (.iload 4, 2) := by decide +kernel
theorem zd_264_303 : decode (zm_cc 264) 303 = .ok (.iconst 1, 1) := by decide +kernel
theorem zd_264_304 : decode (zm_cc 264) 304 = .ok (.iadd, 1) := by decide +kernel
theorem zd_264_305 : decode (zm_cc 264) 305 = .ok (.iaload, 1) := by decide +kernel
theorem zd_264_306 : decode (zm_cc 264) 306 = .ok (.invokevirtual 47, 3) := by decide +kernel
theorem zd_264_309 : decode (zm_cc 264) 309 = .ok (.pop, 1) := by decide +kernel
theorem zd_264_310 : decode (zm_cc 264) 310 = .ok (.aload_n 2, 1) := by decide +kernel
theorem zd_264_311 : decode (zm_cc 264) 311 = .ok (.aload_n 0, 1) := by decide +kernel
theorem zd_264_312 : decode (zm_cc 264) 312 = .ok (.iload 4, 2) := by decide +kernel
theorem zd_264_314 : decode (zm_cc 264) 314 = .ok (.iconst 1, 1) := by decide +kernel
theorem zd_264_315 : decode (zm_cc 264) 315 = .ok (.iadd, 1) := by decide +kernel
theorem zd_264_316 : decode (zm_cc 264) 316 = .ok (.iaload, 1) := by decide +kernel
theorem zd_264_317 : decode (zm_cc 264) 317 = .ok (.invokevirtual 51, 3) := by decide +kernel
theorem zd_264_320 : decode (zm_cc 264) 320 = .ok (.pop, 1) := by decide +kernel
theorem zd_264_321 : decode (zm_cc 264) 321 = .ok (.goto 524, 3) := by decide +kernel
theorem zd_264_324 : decode (zm_cc 264) 324 = .ok (.aload_n 1, 1) := by decide +kernel
theorem zd_264_325 : decode (zm_cc 264) 325 = .ok (.aload_n 0, 1) := by decide +kernel
theorem zd_264_326 : decode (zm_cc 264) 326 = .ok (.iload 4, 2) := by decide +kernel
theorem zd_264_328 : decode (zm_cc 264) 328 = .ok (.iconst 1, 1) := by decide +kernel
theorem zd_264_329 : decode (zm_cc 264) 329 = .ok (.iadd, 1) := by decide +kernel
theorem zd_264_330 : decode (zm_cc 264) 330 = .ok (.iaload, 1) := by decide +kernel
theorem zd_264_331 : decode (zm_cc 264) 331 = .ok (.aload_n 0, 1) := by decide +kernel
theorem zd_264_332 : decode (zm_cc 264) 332 = .ok (.iload 4, 2) := by decide +kernel
theorem zd_264_334 : decode (zm_cc 264) 334 = .ok (.iconst 2, 1) := by decide +kernel
theorem zd_264_335 : decode (zm_cc 264) 335 = .ok (.iadd, 1) := by decide +kernel
theorem zd_264_336 : decode (zm_cc 264) 336 = .ok (.iaload, 1) := by decide +kernel
theorem zd_264_337 : decode (zm_cc 264) 337 = .ok (.aload_n 0, 1) := by decide +kernel
theorem zd_264_338 : decode (zm_cc 264) 338 = .ok (.iload 4, 2) := by decide +kernel
theorem zd_264_340 : decode (zm_cc 264) 340 = .ok (.iconst 3, 1) := by decide +kernel
theorem zd_264_341 : decode (zm_cc 264) 341 = .ok (.iadd, 1) := by decide +kernel
theorem zd_264_342 : decode (zm_cc 264) 342 = .ok (.iaload, 1) := by decide +kernel
theorem zd_264_343 : decode (zm_cc 264) 343 = .ok (.invokevirtual 52, 3) := by decide +kernel
theorem zd_264_346 : decode (zm_cc 264) 346 = .ok (.pop, 1) := by decide +kernel
theorem zd_264_347 : decode (zm_cc 264) 347 = .ok (.aload_n 2, 1) := by decide +kernel
theorem zd_264_348 : decode (zm_cc 264) 348 = .ok (.aload_n 0, 1) := by decide +kernel
theorem zd_264_349 : decode (zm_cc 264) 349 = .ok (.iload 4, 2) := by decide +kernel
theorem zd_264_351 : decode (zm_cc 264) 351 = .ok (.iconst 1, 1) := by decide +kernel
theorem zd_264_352 : decode (zm_cc 264) 352 = .ok (.iadd, 1) := by decide +kernel
theorem zd_264_353 : decode (zm_cc 264) 353 = .ok (.iaload, 1) := by decide +kernel
theorem zd_264_354 : decode (zm_cc 264) 354 = .ok (.aload_n 0, 1) := by decide +kernel
theorem zd_264_355 : decode (zm_cc 264) 355 = .ok (.iload 4, 2) := by decide +kernel
theorem zd_264_357 : decode (zm_cc 264) 357 = .ok (.iconst 2, 1) := by decide +kernel
theorem zd_264_358 : decode (zm_cc 264) 358 = .ok (.iadd, 1) := by decide +kernel
theorem zd_264_359 : decode (zm_cc 264) 359 = .ok (.iaload, 1) := by decide +kernel
theorem zd_264_360 : decode (zm_cc 264) 360 = .ok (.aload_n 0, 1) := by decide +kernel
theorem zd_264_361 : decode (zm_cc 264) 361 = .ok (.iload 4, 2) := by decide +kernel
theorem zd_264_363 : decode (zm_cc 264) 363 = .ok (.iconst 3, 1) := by decide +kernel
theorem zd_264_364 : decode (zm_cc 264) 364 = .ok (.iadd, 1) := by decide +kernel
theorem zd_264_365 : decode (zm_cc 264) 365 = .ok (.iaload, 1) := by decide +kernel
theorem zd_264_366 : decode (zm_cc 264) 366 = .ok (.invokevirtual 56, 3) := by decide +kernel
theorem zd_264_369 : decode (zm_cc 264) 369 = .ok (.pop, 1) := by decide +kernel
theorem zd_264_370 : decode (zm_cc 264) 370 = .ok (.goto 475, 3) := by decide +kernel
theorem zd_264_373 : decode (zm_cc 264) 373 = .ok (.aload_n 1, 1) := by decide +kernel
theorem zd_264_374 : decode (zm_cc 264) 374 = .ok (.invokevirtual 57, 3) := by decide +kernel
theorem zd_264_377 : decode (zm_cc 264) 377 = .ok (.pop, 1) := by decide +kernel
theorem zd_264_378 : decode (zm_cc 264) 378 = .ok (.aload_n 2, 1) := by decide +kernel
theorem zd_264_379 : decode (zm_cc 264) 379 = .ok (.invokevirtual 60, 3) := by decide +kernel
theorem zd_264_382 : decode (zm_cc 264) 382 = .ok (.pop, 1) := by decide +kernel
theorem zd_264_383 : decode (zm_cc 264) 383 = .ok (.goto 462, 3) := by decide +kernel
theorem zd_264_386 : decode (zm_cc 264) 386 = .ok (.aload_n 1, 1) := by decide +kernel
theorem zd_264_387 : decode (zm_cc 264) 387 = .ok (.aload_n 0, 1) := by decide +kernel
theorem zd_264_388 : decode (zm_cc 264) 388 = .ok (.iload 4, 2) := by decide +kernel
theorem zd_264_390 : decode (zm_cc 264) 390 = .ok (.iconst 1, 1) := by decide +kernel
theorem zd_264_391 : decode (zm_cc 264) 391 = .ok (.iadd, 1) := by decide +kernel
theorem zd_264_392 : decode (zm_cc 264) 392 = .ok (.iaload, 1) := by decide +kernel
theorem zd_264_393 : decode (zm_cc 264) 393 = .ok (.invokevirtual 61, 3) := by decide +kernel
theorem zd_264_396 : decode (zm_cc 264) 396 = .ok (.pop, 1) := by decide +kernel
theorem zd_264_397 : decode (zm_cc 264) 397 = .ok (.aload_n 2, 1) := by decide +kernel
theorem zd_264_398 : decode (zm_cc 264) 398 = .ok (.aload_n 0, 1) := by decide +kernel
theorem zd_264_399 : decode (zm_cc 264) 399 = .ok (.iload 4, 2) := by decide +kernel
theorem zd_264_401 : decode (zm_cc 264) 401 = .ok (.iconst 1, 1) := by decide +kernel
theorem zd_264_402 : decode (zm_cc 264) 402 = .ok (.iadd, 1) := by decide +kernel
theorem zd_264_403 : decode (zm_cc 264) 403 = .ok (.iaload, 1) := by decide +kernel
theorem zd_264_404 : decode (zm_cc 264) 404 = .ok (.invokevirtual 64, 3) := by decide +kernel
theorem zd_264_407 : decode (zm_cc 264) 407 = .ok (.pop, 1) := by decide +kernel
theorem zd_264_408 : decode (zm_cc 264) 408 = .ok (.goto 437, 3) := by decide +kernel
theorem zd_264_411 : decode (zm_cc 264) 411 = .ok (.aload_n 1, 1) := by decide +kernel
theorem zd_264_412 : decode (zm_cc 264) 412 = .ok (.aload_n 0, 1) := by decide +kernel
theorem zd_264_413 : decode (zm_cc 264) 413 = .ok (.iload 4, 2) := by decide +kernel
theorem zd_264_415 : decode (zm_cc 264) 415 = .ok (.iconst 1, 1) := by decide +kernel
theorem zd_264_416 : decode (zm_cc 264) 416 = .ok (.iadd, 1) := by decide +kernel
theorem zd_264_417 : decode (zm_cc 264) 417 = .ok (.iaload, 1) := by decide +kernel
theorem zd_264_418 : decode (zm_cc 264) 418 = .ok (.aload_n 0, 1) := by decide +kernel
theorem zd_264_419 : decode (zm_cc 264) 419 = .ok (.iload 4, 2) := by decide +kernel
theorem zd_264_421 : decode (zm_cc 264) 421 = .ok (.iconst 2, 1) := by decide +kernel
theorem zd_264_422 : decode (zm_cc 264) 422 = .ok (.iadd, 1) := by decide +kernel
theorem zd_264_423 : decode (zm_cc 264) 423 = .ok (.iaload, 1) := by decide +kernel
theorem zd_264_424 : decode (zm_cc 264) 424 = .ok (.invokevirtual 65, 3) := by decide +kernel
theorem zd_264_427 : decode (zm_cc 264) 427 = .ok (.pop, 1) := by decide +kernel
theorem zd_264_428 : decode (zm_cc 264) 428 = .ok (.aload_n 2, 1) := by decide +kernel
theorem zd_264_429 : decode (zm_cc 264) 429 = .ok (.aload_n 0, 1) := by decide +kernel
theorem zd_264_430 : decode (zm_cc 264) 430 = .ok (.iload 4, 2) := by decide +kernel
theorem zd_264_432 : decode (zm_cc 264) 432 = .ok (.iconst 1, 1) := by decide +kernel
theorem zd_264_433 : decode (zm_cc 264) 433 = .ok (.iadd, 1) := by decide +kernel
theorem zd_264_434 : decode (zm_cc 264) 434 = .ok (.iaload, 1) := by decide +kernel
theorem zd_264_435 : decode (zm_cc 264) 435 = .ok (.aload_n 0, 1) := by decide +kernel
theorem zd_264_436 : decode (zm_cc 264) 436 = .ok (.iload 4, 2) := by decide +kernel
theorem zd_264_438 : decode (zm_cc 264) 438 = .ok (.iconst 2, 1) := by decide +kernel
theorem zd_264_439 : decode (zm_cc 264) 439 = .ok (.iadd, 1) := by decide +kernel
theorem zd_264_440 : decode (zm_cc 264) 440 = .ok (.iaload, 1) := by decide +kernel
theorem zd_264_441 : decode (zm_cc 264) 441 = .ok (.invokevirtual 69, 3) := by decide +kernel
theorem zd_264_444 : decode (zm_cc 264) 444 = .ok (.pop, 1) := by decide +kernel
theorem zd_264_445 : decode (zm_cc 264) 445 = .ok (.goto 400, 3) := by decide +kernel
theorem zd_264_448 : decode (zm_cc 264) 448 = .ok (.aload_n 1, 1) := by decide +kernel
theorem zd_264_449 : decode (zm_cc 264) 449 = .ok (.invokevirtual 70, 3) := by decide +kernel
theorem zd_264_452 : decode (zm_cc 264) 452 = .ok (.pop, 1) := by decide +kernel
theorem zd_264_453 : decode (zm_cc 264) 453 = .ok (.aload_n 2, 1) := by decide +kernel
theorem zd_264_454 : decode (zm_cc 264) 454 = .ok (.invokevirtual 73, 3) := by decide +kernel
theorem zd_264_457 : decode (zm_cc 264) 457 = .ok (.pop, 1) := by decide +kernel
theorem zd_264_458 : decode (zm_cc 264) 458 = .ok (.goto 387, 3) := by decide +kernel
theorem zd_264_461 : decode (zm_cc 264) 461 = .ok (.aload_n 1, 1) := by decide +kernel
theorem zd_264_462 : decode (zm_cc 264) 462 = .ok (.aload_n 0, 1) := by decide +kernel
theorem zd_264_463 : decode (zm_cc 264) 463 = .ok (.iload 4, 2) := by decide +kernel
theorem zd_264_465 : decode (zm_cc 264) 465 = .ok (.iconst 1, 1) := by decide +kernel
theorem zd_264_466 : decode (zm_cc 264) 466 = .ok (.iadd, 1) := by decide +kernel
theorem zd_264_467 : decode (zm_cc 264) 467 = .ok (.iaload, 1) := by decide +kernel
theorem zd_264_468 : decode (zm_cc 264) 468 = .ok (.invokevirtual 74, 3) := by decide +kernel
theorem zd_264_471 : decode (zm_cc 264) 471 = .ok (.pop, 1) := by decide +kernel
theorem zd_264_472 : decode (zm_cc 264) 472 = .ok (.aload_n 2, 1) := by decide +kernel
theorem zd_264_473 : decode (zm_cc 264) 473 = .ok (.aload_n 0, 1) := by decide +kernel
theorem zd_264_474 : decode (zm_cc 264) 474 = .ok (.iload 4, 2) := by decide +kernel
theorem zd_264_476 : decode (zm_cc 264) 476 = .ok (.iconst 1, 1) := by decide +kernel
theorem zd_264_477 : decode (zm_cc 264) 477 = .ok (.iadd, 1) := by decide +kernel
theorem zd_264_478 : decode (zm_cc 264) 478 = .ok (.iaload, 1) := by decide +kernel
theorem zd_264_479 : decode (zm_cc 264) 479 = .ok (.invokevirtual 77, 3) := by decide +kernel
theorem zd_264_482 : decode (zm_cc 264) 482 = .ok (.pop, 1) := by decide +kernel
theorem zd_264_483 : decode (zm_cc 264) 483 = .ok (.goto 362, 3) := by decide +kernel
theorem zd_264_486 : decode (zm_cc 264) 486 = .ok (.aload_n 1, 1) := by decide +kernel
theorem zd_264_487 : decode (zm_cc 264) 487 = .ok (.aload_n 0, 1) := by decide +kernel
theorem zd_264_488 : decode (zm_cc 264) 488 = .ok (.iload 4, 2) := by decide +kernel
theorem zd_264_490 : decode (zm_cc 264) 490 = .ok (.iconst 1, 1) := by decide +kernel
theorem zd_264_491 : decode (zm_cc 264) 491 = .ok (.iadd, 1) := by decide +kernel
theorem zd_264_492 : decode (zm_cc 264) 492 = .ok (.iaload, 1) := by decide +kernel
theorem zd_264_493 : decode (zm_cc 264) 493 = .ok (.aload_n 0, 1) := by decide +kernel
theorem zd_264_494 : decode (zm_cc 264) 494 = .ok (.iload 4, 2) := by decide +kernel
theorem zd_264_496 : decode (zm_cc 264) 496 = .ok (.iconst 2, 1) := by decide +kernel
theorem zd_264_497 : decode (zm_cc 264) 497 = .ok (.iadd, 1) := by decide +kernel
theorem zd_264_498 : decode (zm_cc 264) 498 = .ok (.iaload, 1) := by decide +kernel
theorem zd_264_499 : decode (zm_cc 264) 499 = .ok (.invokevirtual 78, 3) := by decide +kernel
theorem zd_264_502 : decode (zm_cc 264) 502 = .ok (.pop, 1) := by decide +kernel
theorem zd_264_503 : decode (zm_cc 264) 503 = .ok (.aload_n 2, 1) := by decide +kernel
theorem zd_264_504 : decode (zm_cc 264) 504 = .ok (.aload_n 0, 1) := by decide +kernel
theorem zd_264_505 : decode (zm_cc 264) 505 = .ok (.iload 4, 2) := by decide +kernel
theorem zd_264_507 : decode (zm_cc 264) 507 = .ok (.iconst 1, 1) := by decide +kernel
theorem zd_264_508 : decode (zm_cc 264) 508 = .ok (.iadd, 1) := by decide +kernel
theorem zd_264_509 : decode (zm_cc 264) 509 = .ok (.iaload, 1) := by decide +kernel
theorem zd_264_510 : decode (zm_cc 264) 510 = .ok (.aload_n 0, 1) := by decide +kernel
theorem zd_264_511 : decode (zm_cc 264) 511 = .ok (.iload 4, 2) := by decide +kernel
theorem zd_264_513 : decode (zm_cc 264) 513 = .ok (.iconst 2, 1) := by decide +kernel
theorem zd_264_514 : decode (zm_cc 264) 514 = .ok (.iadd, 1) := by decide +kernel
theorem zd_264_515 : decode (zm_cc 264) 515 = .ok (.iaload, 1) := by decide +kernel
theorem zd_264_516 : decode (zm_cc 264) 516 = .ok (.invokevirtual 81, 3) := by decide +kernel
theorem zd_264_519 : decode (zm_cc 264) 519 = .ok (.pop, 1) := by decide +kernel
theorem zd_264_520 : decode (zm_cc 264) 520 = .ok (.goto 325, 3) := by decide +kernel
theorem zd_264_523 : decode (zm_cc 264) 523 = .ok (.aload_n 1, 1) := by decide +kernel
theorem zd_264_524 : decode (zm_cc 264) 524 = .ok (.aload_n 0, 1) := by decide +kernel
theorem zd_264_525 : decode (zm_cc 264) 525 = .ok (.iload 4, 2) := by decide +kernel
theorem zd_264_527 : decode (zm_cc 264) 527 = .ok (.iconst 1, 1) := by decide +kernel
theorem zd_264_528 : decode (zm_cc 264) 528 = .ok (.iadd, 1) := by decide +kernel
theorem zd_264_529 : decode (zm_cc 264) 529 = .ok (.iaload, 1) := by decide +kernel
theorem zd_264_530 : decode (zm_cc 264) 530 = .ok (.aload_n 0, 1) := by decide +kernel
theorem zd_264_531 : decode (zm_cc 264) 531 = .ok (.iload 4, 2) := by decide +kernel
theorem zd_264_533 : decode (zm_cc 264) 533 = .ok (.iconst 2, 1) := by decide +kernel
theorem zd_264_534 : decode (zm_cc 264) 534 = .ok (.iadd, 1) := by decide +kernel
theorem zd_264_535 : decode (zm_cc 264) 535 = .ok (.iaload, 1) := by decide +kernel
theorem zd_264_536 : decode (zm_cc 264) 536 = .ok (.aload_n 0, 1) := by decide +kernel
theorem zd_264_537 : decode (zm_cc 264) 537 = .ok (.iload 4, 2) := by decide +kernel
theorem zd_264_539 : decode (zm_cc 264) 539 = .ok (.iconst 3, 1) := by decide +kernel
theorem zd_264_540 : decode (zm_cc 264) 540 = .ok (.iadd, 1) := by decide +kernel
theorem zd_264_541 : decode (zm_cc 264) 541 = .ok (.iaload, 1) := by decide +kernel
theorem zd_264_542 : decode (zm_cc 264) 542 = .ok (.invokevirtual 82, 3) := by decide +kernel
theorem zd_264_545 : decode (zm_cc 264) 545 = .ok (.pop, 1) := by decide +kernel
theorem zd_264_546 : decode (zm_cc 264) 546 = .ok (.aload_n 2, 1) := by decide +kernel
theorem zd_264_547 : decode (zm_cc 264) 547 = .ok (.aload_n 0, 1) := by decide +kernel
theorem zd_264_548 : decode (zm_cc 264) 548 = .ok (.iload 4, 2) := by decide +kernel
theorem zd_264_550 : decode (zm_cc 264) 550 = .ok (.iconst 1, 1) := by decide +kernel
theorem zd_264_551 : decode (zm_cc 264) 551 = .ok (.iadd, 1) := by decide +kernel
theorem zd_264_552 : decode (zm_cc 264) 552 = .ok (.iaload, 1) := by decide +kernel
theorem zd_264_553 : decode (zm_cc 264) 553 = .ok (.aload_n 0, 1) := by decide +kernel
theorem zd_264_554 : decode (zm_cc 264) 554 = .ok (.iload 4, 2) := by decide +kernel
theorem zd_264_556 : decode (zm_cc 264) 556 = .ok (.iconst 2, 1) := by decide +kernel
theorem zd_264_557 : decode (zm_cc 264) 557 = .ok (.iadd, 1) := by decide +kernel
theorem zd_264_558 : decode (zm_cc 264) 558 = .ok (.iaload, 1) := by decide +kernel
theorem zd_264_559 : decode (zm_cc 264) 559 = .ok (.aload_n 0, 1) := by decide +kernel
theorem zd_264_560 : decode (zm_cc 264) 560 = .ok (.iload 4, 2) := by decide +kernel
theorem zd_264_562 : decode (zm_cc 264) 562 = .ok (.iconst 3, 1) := by decide +kernel
theorem zd_264_563 : decode (zm_cc 264) 563 = .ok (.iadd, 1) := by decide +kernel
theorem zd_264_564 : decode (zm_cc 264) 564 = .ok (.iaload, 1) := by decide +kernel
theorem zd_264_565 : decode (zm_cc 264) 565 = .ok (.invokevirtual 85, 3) := by decide +kernel
theorem zd_264_568 : decode (zm_cc 264) 568 = .ok (.pop, 1) := by decide +kernel
theorem zd_264_569 : decode (zm_cc 264) 569 = .ok (.goto 276, 3) := by decide +kernel
theorem zd_264_572 : decode (zm_cc 264) 572 = .ok (.aload_n 1, 1) := by decide +kernel
theorem zd_264_573 : decode (zm_cc 264) 573 = .ok (.aload_n 0, 1) := by decide +kernel
theorem zd_264_574 : decode (zm_cc 264) 574 = .ok (.iload 4, 2) := by decide +kernel
theorem zd_264_576 : decode (zm_cc 264) 576 = .ok (.iconst 1, 1) := by decide +kernel
theorem zd_264_577 : decode (zm_cc 264) 577 = .ok (.iadd, 1) := by decide +kernel
theorem zd_264_578 : decode (zm_cc 264) 578 = .ok (.iaload, 1) := by decide +kernel
theorem zd_264_579 : decode (zm_cc 264) 579 = .ok (.aload_n 0, 1) := by decide +kernel
theorem zd_264_580 : decode (zm_cc 264) 580 = .ok (.iload 4, 2) := by decide +kernel
theorem zd_264_582 : decode (zm_cc 264) 582 = .ok (.iconst 2, 1) := by decide +kernel
theorem zd_264_583 : decode (zm_cc 264) 583 = .ok (.iadd, 1) := by decide +kernel
theorem zd_264_584 : decode (zm_cc 264) 584 = .ok (.iaload, 1) := by decide +kernel
theorem zd_264_585 : decode (zm_cc 264) 585 = .ok (.invokevirtual 86, 3) := by decide +kernel
theorem zd_264_588 : decode (zm_cc 264) 588 = .ok (.pop, 1) := by decide +kernel
theorem zd_264_589 : decode (zm_cc 264) 589 = .ok (.aload_n 2, 1) := by decide +kernel
theorem zd_264_590 : decode (zm_cc 264) 590 = .ok (.aload_n 0, 1) := by decide +kernel
theorem zd_264_591 : decode (zm_cc 264) 591 = .ok (.iload 4, 2) := by decide +kernel
theorem zd_264_593 : decode (zm_cc 264) 593 = .ok (.iconst 1, 1) := by decide +kernel
theorem zd_264_594 : decode (zm_cc 264) 594 = .ok (.iadd, 1) := by decide +kernel
theorem zd_264_595 : decode (zm_cc 264) 595 = .ok (.iaload, 1) := by decide +kernel
theorem zd_264_596 : decode (zm_cc 264) 596 = .ok (.aload_n 0, 1) := by decide +kernel
theorem zd_264_597 : decode (zm_cc 264) 597 = .ok (.iload 4, 2) := by decide +kernel
theorem zd_264_599 : decode (zm_cc 264) 599 = .ok (.iconst 2, 1) := by decide +kernel
theorem zd_264_600 : decode (zm_cc 264) 600 = .ok (.iadd, 1) := by decide +kernel
theorem zd_264_601 : decode (zm_cc 264) 601 = .ok (.iaload, 1) := by decide +kernel
theorem zd_264_602 : decode (zm_cc 264) 602 = .ok (.invokevirtual 89, 3) := by decide +kernel
theorem zd_264_605 : decode (zm_cc 264) 605 = .ok (.pop, 1) := by decide +kernel
theorem zd_264_606 : decode (zm_cc 264) 606 = .ok (.goto 239, 3) := by decide +kernel
theorem zd_264_609 : decode (zm_cc 264) 609 = .ok (.aload_n 1, 1) := by decide +kernel
theorem zd_264_610 : decode (zm_cc 264) 610 = .ok (.aload_n 0, 1) := by decide +kernel
theorem zd_264_611 : decode (zm_cc 264) 611 = .ok (.iload 4, 2) := by decide +kernel
theorem zd_264_613 : decode (zm_cc 264) 613 = .ok (.iconst 1, 1) := by decide +kernel
theorem zd_264_614 : decode (zm_cc 264) 614 = .ok (.iadd, 1) := by decide +kernel
theorem zd_264_615 : decode (zm_cc 264) 615 = .ok (.iaload, 1) := by decide +kernel
theorem zd_264_616 : decode (zm_cc 264) 616 = .ok (.aload_n 0, 1) := by decide +kernel
theorem zd_264_617 : decode (zm_cc 264) 617 = .ok (.iload 4, 2) := by decide +kernel
theorem zd_264_619 : decode (zm_cc 264) 619 = .ok (.iconst 2, 1) := by decide +kernel
theorem zd_264_620 : decode (zm_cc 264) 620 = .ok (.iadd, 1) := by decide +kernel
theorem zd_264_621 : decode (zm_cc 264) 621 = .ok (.iaload, 1) := by decide +kernel
theorem zd_264_622 : decode (zm_cc 264) 622 = .ok (.invokevirtual 90, 3) := by decide +kernel
theorem zd_264_625 : decode (zm_cc 264) 625 = .ok (.pop, 1) := by decide +kernel
theorem zd_264_626 : decode (zm_cc 264) 626 = .ok (.aload_n 2, 1) := by decide +kernel
theorem zd_264_627 : decode (zm_cc 264) 627 = .ok (.aload_n 0, 1) := by decide +kernel
theorem zd_264_628 : decode (zm_cc 264) 628 = .ok (.iload 4, 2) := by decide +kernel
theorem zd_264_630 : decode (zm_cc 264) 630 = .ok (.iconst 1, 1) := by decide +kernel
theorem zd_264_631 : decode (zm_cc 264) 631 = .ok (.iadd, 1) := by decide +kernel
theorem zd_264_632 : decode (zm_cc 264) 632 = .ok (.iaload, 1) := by decide +kernel
theorem zd_264_633 : decode (zm_cc 264) 633 = .ok (.aload_n 0, 1) := by decide +kernel
theorem zd_264_634 : decode (zm_cc 264) 634 = .ok (.iload 4, 2) := by decide +kernel
theorem zd_264_636 : decode (zm_cc 264) 636 = .ok (.iconst 2, 1) := by decide +kernel
theorem zd_264_637 : decode (zm_cc 264) 637 = .ok (.iadd, 1) := by decide +kernel
theorem zd_264_638 : decode (zm_cc 264) 638 = .ok (.iaload, 1) := by decide +kernel
theorem zd_264_639 : decode (zm_cc 264) 639 = .ok (.invokevirtual 93, 3) := by decide +kernel
theorem zd_264_642 : decode (zm_cc 264) 642 = .ok (.pop, 1) := by decide +kernel
theorem zd_264_643 : decode (zm_cc 264) 643 = .ok (.goto 202, 3) := by decide +kernel
theorem zd_264_646 : decode (zm_cc 264) 646 = .ok (.aload_n 1, 1) := by decide +kernel
theorem zd_264_647 : decode (zm_cc 264) 647 = .ok (.aload_n 0, 1) := by decide +kernel
theorem zd_264_648 : decode (zm_cc 264) 648 = .ok (.iload 4, 2) := by decide +kernel
theorem zd_264_650 : decode (zm_cc 264) 650 = .ok (.iconst 1, 1) := by decide +kernel
theorem zd_264_651 : decode (zm_cc 264) 651 = .ok (.iadd, 1) := by decide +kernel
theorem zd_264_652 : decode (zm_cc 264) 652 = .ok (.iaload, 1) := by decide +kernel
theorem zd_264_653 : decode (zm_cc 264) 653 = .ok (.invokevirtual 94, 3) := by decide +kernel
theorem zd_264_656 : decode (zm_cc 264) 656 = .ok (.pop, 1) := by decide +kernel
theorem zd_264_657 : decode (zm_cc 264) 657 = .ok (.aload_n 2, 1) := by decide +kernel
theorem zd_264_658 : decode (zm_cc 264) 658 = .ok (.aload_n 0, 1) := by decide +kernel
theorem zd_264_659 : decode (zm_cc 264) 659 = .ok (.iload 4, 2) := by decide +kernel
theorem zd_264_661 : decode (zm_cc 264) 661 = .ok (.iconst 1, 1) := by decide +kernel
theorem zd_264_662 : decode (zm_cc 264) 662 = .ok (.iadd, 1) := by decide +kernel
theorem zd_264_663 : decode (zm_cc 264) 663 = .ok (.iaload, 1) := by decide +kernel
theorem zd_264_664 : decode (zm_cc 264) 664 = .ok (.invokevirtual 97, 3) := by decide +kernel
theorem zd_264_667 : decode (zm_cc 264) 667 = .ok (.pop, 1) := by decide +kernel
theorem zd_264_668 : decode (zm_cc 264) 668 = .ok (.goto 177, 3) := by decide +kernel
theorem zd_264_671 : decode (zm_cc 264) 671 = .ok (.aload_n 1, 1) := by decide +kernel
theorem zd_264_672 : decode (zm_cc 264) 672 = .ok (.aload_n 0, 1) := by decide +kernel
theorem zd_264_673 : decode (zm_cc 264) 673 = .ok (.iload 4, 2) := by decide +kernel
theorem zd_264_675 : decode (zm_cc 264) 675 = .ok (.iconst 1, 1) := by decide +kernel
theorem zd_264_676 : decode (zm_cc 264) 676 = .ok (.iadd, 1) := by decide +kernel
theorem zd_264_677 : decode (zm_cc 264) 677 = .ok (.iaload, 1) := by decide +kernel
theorem zd_264_678 : decode (zm_cc 264) 678 = .ok (.invokevirtual 98, 3) := by decide +kernel
theorem zd_264_681 : decode (zm_cc 264) 681 = .ok (.pop, 1) := by decide +kernel
theorem zd_264_682 : decode (zm_cc 264) 682 = .ok (.aload_n 2, 1) := by decide +kernel
theorem zd_264_683 : decode (zm_cc 264) 683 = .ok (.aload_n 0, 1) := by decide +kernel
theorem zd_264_684 : decode (zm_cc 264) 684 = .ok (.iload 4, 2) := by decide +kernel
theorem zd_264_686 : decode (zm_cc 264) 686 = .ok (.iconst 1, 1) := by decide +kernel
theorem zd_264_687 : decode (zm_cc 264) 687 = .ok (.iadd, 1) := by decide +kernel
theorem zd_264_688 : decode (zm_cc 264) 688 = .ok (.iaload, 1) := by decide +kernel
theorem zd_264_689 : decode (zm_cc 264) 689 = .ok (.invokevirtual 101, 3) := by decide +kernel
theorem zd_264_692 : decode (zm_cc 264) 692 = .ok (.pop, 1) := by decide +kernel
theorem zd_264_693 : decode (zm_cc 264) 693 = .ok (.goto 152, 3) := by decide +kernel
theorem zd_264_696 : decode (zm_cc 264) 696 = .ok (.aload_n 1, 1) := by decide +kernel
theorem zd_264_697 : decode (zm_cc 264) 697 = .ok (.invokevirtual 102, 3) := by decide +kernel
theorem zd_264_700 : decode (zm_cc 264) 700 = .ok (.pop, 1) := by decide +kernel
theorem zd_264_701 : decode (zm_cc 264) 701 = .ok (.aload_n 2, 1) := by decide +kernel
theorem zd_264_702 : decode (zm_cc 264) 702 = .ok (.invokevirtual 105, 3) := by decide +kernel
theorem zd_264_705 : decode (zm_cc 264) 705 = .ok (.pop, 1) := by decide +kernel
theorem zd_264_706 : decode (zm_cc 264) 706 = .ok (.goto 139, 3) := by decide +kernel
theorem zd_264_709 : decode (zm_cc 264) 709 = .ok (.aload_n 1, 1) := by decide +kernel
theorem zd_264_710 : decode (zm_cc 264) 710 = .ok (.aload_n 0, 1) := by decide +kernel
theorem zd_264_711 : decode (zm_cc 264) 711 = .ok (.iload 4, 2) := by decide +kernel
theorem zd_264_713 : decode (zm_cc 264) 713 = .ok (.iconst 1, 1) := by decide +kernel
theorem zd_264_714 : decode (zm_cc 264) 714 = .ok (.iadd, 1) := by decide +kernel
theorem zd_264_715 : decode (zm_cc 264) 715 = .ok (.iaload, 1) := by decide +kernel
theorem zd_264_716 : decode (zm_cc 264) 716 = .ok (.aload_n 0, 1) := by decide +kernel
theorem zd_264_717 : decode (zm_cc 264) 717 = .ok (.iload 4, 2) := by decide +kernel
theorem zd_264_719 : decode (zm_cc 264) 719 = .ok (.iconst 2, 1) := by decide +kernel
theorem zd_264_720 : decode (zm_cc 264) 720 = .ok (.iadd, 1) := by decide +kernel
theorem zd_264_721 : decode (zm_cc 264) 721 = .ok (.iaload, 1) := by decide +kernel
theorem zd_264_722 : decode (zm_cc 264) 722 = .ok (.invokevirtual 106, 3) := by decide +kernel
theorem zd_264_725 : decode (zm_cc 264) 725 = .ok (.pop, 1) := by decide +kernel
theorem zd_264_726 : decode (zm_cc 264) 726 = .ok (.aload_n 2, 1) := by decide +kernel
theorem zd_264_727 : decode (zm_cc 264) 727 = .ok (.aload_n 0, 1) := by decide +kernel
theorem zd_264_728 : decode (zm_cc 264) 728 = .ok (.iload 4, 2) := by decide +kernel
theorem zd_264_730 : decode (zm_cc 264) 730 = .ok (.iconst 1, 1) := by decide +kernel
theorem zd_264_731 : decode (zm_cc 264) 731 = .ok (.iadd, 1) := by decide +kernel
theorem zd_264_732 : decode (zm_cc 264) 732 = .ok (.iaload, 1) := by decide +kernel
theorem zd_264_733 : decode (zm_cc 264) 733 = .ok (.aload_n 0, 1) := by decide +kernel
theorem zd_264_734 : decode (zm_cc 264) 734 = .ok (.iload 4, 2) := by decide +kernel
theorem zd_264_736 : decode (zm_cc 264) 736 = .ok (.iconst 2, 1) := by decide +kernel
theorem zd_264_737 : decode (zm_cc 264) 737 = .ok (.iadd, 1) := by decide +kernel
theorem zd_264_738 : decode (zm_cc 264) 738 = .ok (.iaload, 1) := by decide +kernel
theorem zd_264_739 : decode (zm_cc 264) 739 = .ok (.invokevirtual 109, 3) := by decide +kernel
theorem zd_264_742 : decode (zm_cc 264) 742 = .ok (.pop, 1) := by decide +kernel
theorem zd_264_743 : decode (zm_cc 264) 743 = .ok (.goto 102, 3) := by decide +kernel
theorem zd_264_746 : decode (zm_cc 264) 746 = .ok (.aload_n 1, 1) := by decide +kernel
theorem zd_264_747 : decode (zm_cc 264) 747 = .ok (.aload_n 0, 1) := by decide +kernel
theorem zd_264_748 : decode (zm_cc 264) 748 = .ok (.iload 4, 2) := by decide +kernel
theorem zd_264_750 : decode (zm_cc 264) 750 = .ok (.iconst 1, 1) := by decide +kernel
theorem zd_264_751 : decode (zm_cc 264) 751 = .ok (.iadd, 1) := by decide +kernel
theorem zd_264_752 : decode (zm_cc 264) 752 = .ok (.iaload, 1) := by decide +kernel
theorem zd_264_753 : decode (zm_cc 264) 753 = .ok (.aload_n 0, 1) := by decide +kernel
theorem zd_264_754 : decode (zm_cc 264) 754 = .ok (.iload 4, 2) := by decide +kernel
theorem zd_264_756 : decode (zm_cc 264) 756 = .ok (.iconst 2, 1) := by decide +kernel
theorem zd_264_757 : decode (zm_cc 264) 757 = .ok (.iadd, 1) := by decide +kernel
theorem zd_264_758 : decode (zm_cc 264) 758 = .ok (.iaload, 1) := by decide +kernel
theorem zd_264_759 : decode (zm_cc 264) 759 = .ok (.aload_n 0, 1) := by decide +kernel
theorem zd_264_760 : decode (zm_cc 264) 760 = .ok (.iload 4, 2) := by decide +kernel
theorem zd_264_762 : decode (zm_cc 264) 762 = .ok (.iconst 3, 1) := by decide +kernel
theorem zd_264_763 : decode (zm_cc 264) 763 = .ok (.iadd, 1) := by decide +kernel
theorem zd_264_764 : decode (zm_cc 264) 764 = .ok (.iaload, 1) := by decide +kernel
theorem zd_264_765 : decode (zm_cc 264) 765 = .ok (.aload_n 0, 1) := by decide +kernel
theorem zd_264_766 : decode (zm_cc 264) 766 = .ok (.iload 4, 2) := by decide +kernel
theorem zd_264_768 : decode (zm_cc 264) 768 = .ok (.iconst 4, 1) := by decide +kernel
theorem zd_264_769 : decode (zm_cc 264) 769 = .ok (.iadd, 1) := by decide +kernel
theorem zd_264_770 : decode (zm_cc 264) 770 = .ok (.iaload, 1) := by decide +kernel
theorem zd_264_771 : decode (zm_cc 264) 771 = .ok (.invokevirtual 110, 3) := by decide +kernel
theorem zd_264_774 : decode (zm_cc 264) 774 = .ok (.pop, 1) := by decide +kernel
theorem zd_264_775 : decode (zm_cc 264) 775 = .ok (.aload_n 2, 1) := by decide +kernel
theorem zd_264_776 : decode (zm_cc 264) 776 = .ok (.aload_n 0, 1) := by decide +kernel
theorem zd_264_777 : decode (zm_cc 264) 777 = .ok (.iload 4, 2) := by decide +kernel
theorem zd_264_779 : decode (zm_cc 264) 779 = .ok (.iconst 1, 1) := by decide +kernel
theorem zd_264_780 : decode (zm_cc 264) 780 = .ok (.iadd, 1) := by decide +kernel
theorem zd_264_781 : decode (zm_cc 264) 781 = .ok (.iaload, 1) := by decide +kernel
theorem zd_264_782 : decode (zm_cc 264) 782 = .ok (.aload_n 0, 1) := by decide +kernel
theorem zd_264_783 : decode (zm_cc 264) 783 = .ok (.iload 4, 2) := by decide +kernel
theorem zd_264_785 : decode (zm_cc 264) 785 = .ok (.iconst 2, 1) := by decide +kernel
theorem zd_264_786 : decode (zm_cc 264) 786 = .ok (.iadd, 1) := by decide +kernel
theorem zd_264_787 : decode (zm_cc 264) 787 = .ok (.iaload, 1) := by decide +kernel
theorem zd_264_788 : decode (zm_cc 264) 788 = .ok (.aload_n 0, 1) := by decide +kernel
theorem zd_264_789 : decode (zm_cc 264) 789 = .ok (.iload 4, 2) := by decide +kernel
theorem zd_264_791 : decode (zm_cc 264) 791 = .ok (.iconst 3, 1) := by decide +kernel
theorem zd_264_792 : decode (zm_cc 264) 792 = .ok (.iadd, 1) := by decide +kernel
theorem zd_264_793 : decode (zm_cc 264) 793 = .ok (.iaload, 1) := by decide +kernel
theorem zd_264_794 : decode (zm_cc 264) 794 = .ok (.aload_n 0, 1) := by decide +kernel
theorem zd_264_795 : decode (zm_cc 264) 795 = .ok (.iload 4, 2) := by decide +kernel
theorem zd_264_797 : decode (zm_cc 264) 797 = .ok (.iconst 4, 1) := by decide +kernel
theorem zd_264_798 : decode (zm_cc 264) 798 = .ok (.iadd, 1) := by decide +kernel
theorem zd_264_799 : decode (zm_cc 264) 799 = .ok (.iaload, 1) := by decide +kernel
theorem zd_264_800 : decode (zm_cc 264) 800 = .ok (.invokevirtual 114, 3) := by decide +kernel
theorem zd_264_803 : decode (zm_cc 264) 803 = .ok (.pop, 1) := by decide +kernel
theorem zd_264_804 : decode (zm_cc 264) 804 = .ok (.goto 41, 3) := by decide +kernel
theorem zd_264_807 : decode (zm_cc 264) 807 = .ok (.aload_n 1, 1) := by decide +kernel
theorem zd_264_808 : decode (zm_cc 264) 808 = .ok (.aload_n 0, 1) := by decide +kernel
theorem zd_264_809 : decode (zm_cc 264) 809 = .ok (.iload 4, 2) := by decide +kernel
theorem zd_264_811 : decode (zm_cc 264) 811 = .ok (.iconst 1, 1) := by decide +kernel
theorem zd_264_812 : decode (zm_cc 264) 812 = .ok (.iadd, 1) := by decide +kernel
theorem zd_264_813 : decode (zm_cc 264) 813 = .ok (.iaload, 1) := by decide +kernel
theorem zd_264_814 : decode (zm_cc 264) 814 = .ok (.invokevirtual 115, 3) := by decide +kernel
theorem zd_264_817 : decode (zm_cc 264) 817 = .ok (.pop, 1) := by decide +kernel
theorem zd_264_818 : decode (zm_cc 264) 818 = .ok (.aload_n 2, 1) := by decide +kernel
theorem zd_264_819 : decode (zm_cc 264) 819 = .ok (.aload_n 0, 1) := by decide +kernel
theorem zd_264_820 : decode (zm_cc 264) 820 = .ok (.iload 4, 2) := by decide +kernel
theorem zd_264_822 : decode (zm_cc 264) 822 = .ok (.iconst 1, 1) := by decide +kernel
theorem zd_264_823 : decode (zm_cc 264) 823 = .ok (.iadd, 1) := by decide +kernel
theorem zd_264_824 : decode (zm_cc 264) 824 = .ok (.iaload, 1) := by decide +kernel
theorem zd_264_825 : decode (zm_cc 264) 825 = .ok (.invokevirtual 118, 3) := by decide +kernel
theorem zd_264_828 : decode (zm_cc 264) 828 = .ok (.pop, 1) := by decide +kernel
theorem zd_264_829 : decode (zm_cc 264) 829 = .ok (.goto 16, 3) := by decide +kernel
theorem zd_264_832 : decode (zm_cc 264) 832 = .ok (.aload_n 1, 1) := by decide +kernel
theorem zd_264_833 : decode (zm_cc 264) 833 = .ok (.invokevirtual 119, 3) := by decide +kernel
theorem zd_264_836 : decode (zm_cc 264) 836 = .ok (.pop, 1) := by decide +kernel
theorem zd_264_837 : decode (zm_cc 264) 837 = .ok (.aload_n 2, 1) := by decide +kernel
theorem zd_264_838 : decode (zm_cc 264) 838 = .ok (.invokevirtual 122, 3) := by decide +kernel
theorem zd_264_841 : decode (zm_cc 264) 841 = .ok (.pop, 1) := by decide +kernel
theorem zd_264_842 : decode (zm_cc 264) 842 = .ok (.goto 3, 3) := by decide +kernel
theorem zd_264_845 : decode (zm_cc 264) 845 = .ok (.iinc 4 6, 3) := by decide +kernel
theorem zd_264_848 : decode (zm_cc 264) 848 = .ok (.goto (-825), 3) := by decide +kernel
theorem zd_264_851 : decode (zm_cc 264) 851 = .ok (.iconst 1, 1) := by decide +kernel
theorem zd_264_852 : decode (zm_cc 264) 852 = .ok (.ireturn, 1) := by decide +kernel
theorem zd_265_0 : decode (zm_cc 265) 0 = .ok (.aload 6, 2) := by decide +kernel
theorem zd_265_2 : decode (zm_cc 265) 2 = .ok (.iconst 0, 1) := by decide +kernel
theorem zd_265_3 : decode (zm_cc 265) 3 = .ok (.aload_n 0, 1) := by decide +kernel
theorem zd_265_4 : decode (zm_cc 265) 4 = .ok (.iload_n 1, 1) := by decide +kernel
theorem zd_265_5 : decode (zm_cc 265) 5 = .ok (.iload_n 2, 1) := by decide +kernel
theorem zd_265_6 : decode (zm_cc 265) 6 = .ok (.iload_n 3, 1) := by decide +kernel
theorem zd_265_7 : decode (zm_cc 265) 7 = .ok (.iload 4, 2) := by decide +kernel
theorem zd_265_9 : decode (zm_cc 265) 9 = .ok (.iload 5, 2) := by decide +kernel
theorem zd_265_11 : decode (zm_cc 265) 11 = .ok (.invokevirtual 7, 3) := by decide +kernel
theorem zd_265_14 : decode (zm_cc 265) 14 = .ok (.i2l, 1) := by decide +kernel
theorem zd_265_15 : decode (zm_cc 265) 15 = .ok (.lastore, 1) := by decide +kernel
theorem zd_265_16 : decode (zm_cc 265) 16 = .ok (.goto 7, 3) := by decide +kernel
theorem zd_265_23 : decode (zm_cc 265) 23 = .ok (.iconst 0, 1) := by decide +kernel
theorem zd_265_24 : decode (zm_cc 265) 24 = .ok (.ireturn, 1) := by decide +kernel
theorem zd_266_0 : decode (zm_cc 266) 0 = .ok (.aload_n 0, 1) := by decide +kernel
theorem zd_266_1 : decode (zm_cc 266) 1 = .ok (.iload_n 1, 1) := by decide +kernel
theorem zd_266_2 : decode (zm_cc 266) 2 = .ok (.invokevirtual 15, 3) := by decide +kernel
theorem zd_266_5 : decode (zm_cc 266) 5 = .ok (.goto 6, 3) := by decide +kernel
theorem zd_266_11 : decode (zm_cc 266) 11 = .ok (.iconst 0, 1) := by decide +kernel
theorem zd_266_12 : decode (zm_cc 266) 12 = .ok (.ireturn, 1) := by decide +kernel
