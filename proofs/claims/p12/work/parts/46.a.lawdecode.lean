/-! decode rows of the law -/
theorem zd_264_25 : decode (zm_cc 264) 25 = .ok (.aload_n 0, 1) := by decide +kernel
theorem zd_264_26 : decode (zm_cc 264) 26 = .ok (.arraylength, 1) := by decide +kernel
theorem zd_264_27 : decode (zm_cc 264) 27 = .ok (.bipush 6, 2) := by decide +kernel
theorem zd_264_29 : decode (zm_cc 264) 29 = .ok (.isub, 1) := by decide +kernel
theorem zd_264_30 : decode (zm_cc 264) 30 = .ok (.if_icmp .gt 793, 3) := by decide +kernel
theorem zd_264_33 : decode (zm_cc 264) 33 = .ok (.aload_n 0, 1) := by decide +kernel
theorem zd_264_34 : decode (zm_cc 264) 34 = .ok (.iload 4, 2) := by decide +kernel
theorem zd_264_36 : decode (zm_cc 264) 36 = .ok (.iaload, 1) := by decide +kernel
theorem zd_264_37 : decode (zm_cc 264) 37 = .ok (.bipush 31, 2) := by decide +kernel
theorem zd_264_39 : decode (zm_cc 264) 39 = .ok (.iand, 1) := by decide +kernel
theorem zd_264_40 : decode (zm_cc 264) 40 = .ok (.tableswitch 777 0 21 #[104, 180, 205, 218, 231, 256, 305, 318, 343, 380, 393, 418, 455, 504, 541, 578, 603, 628, 641, 678, 739, 764], 104) := by decide +kernel
theorem zd_264_144 : decode (zm_cc 264) 144 = .ok (.aload_n 1, 1) := by decide +kernel
theorem zd_264_145 : decode (zm_cc 264) 145 = .ok (.aload_n 0, 1) := by decide +kernel
theorem zd_264_146 : decode (zm_cc 264) 146 = .ok (.iload 4, 2) := by decide +kernel
theorem zd_264_148 : decode (zm_cc 264) 148 = .ok (.iconst 1, 1) := by decide +kernel
theorem zd_264_149 : decode (zm_cc 264) 149 = .ok (.iadd, 1) := by decide +kernel
theorem zd_264_150 : decode (zm_cc 264) 150 = .ok (.iaload, 1) := by decide +kernel
theorem zd_264_151 : decode (zm_cc 264) 151 = .ok (.aload_n 0, 1) := by decide +kernel
theorem zd_264_152 : decode (zm_cc 264) 152 = .ok (.iload 4, 2) := by decide +kernel
theorem zd_264_154 : decode (zm_cc 264) 154 = .ok (.iconst 2, 1) := by decide +kernel
theorem zd_264_155 : decode (zm_cc 264) 155 = .ok (.iadd, 1) := by decide +kernel
theorem zd_264_156 : decode (zm_cc 264) 156 = .ok (.iaload, 1) := by decide +kernel
theorem zd_264_157 : decode (zm_cc 264) 157 = .ok (.aload_n 0, 1) := by decide +kernel
theorem zd_264_158 : decode (zm_cc 264) 158 = .ok (.iload 4, 2) := by decide +kernel
theorem zd_264_160 : decode (zm_cc 264) 160 = .ok (.iconst 3, 1) := by decide +kernel
theorem zd_264_161 : decode (zm_cc 264) 161 = .ok (.iadd, 1) := by decide +kernel
theorem zd_264_162 : decode (zm_cc 264) 162 = .ok (.iaload, 1) := by decide +kernel
theorem zd_264_163 : decode (zm_cc 264) 163 = .ok (.aload_n 0, 1) := by decide +kernel
theorem zd_264_164 : decode (zm_cc 264) 164 = .ok (.iload 4, 2) := by decide +kernel
theorem zd_264_166 : decode (zm_cc 264) 166 = .ok (.iconst 4, 1) := by decide +kernel
theorem zd_264_167 : decode (zm_cc 264) 167 = .ok (.iadd, 1) := by decide +kernel
theorem zd_264_168 : decode (zm_cc 264) 168 = .ok (.iaload, 1) := by decide +kernel
theorem zd_264_169 : decode (zm_cc 264) 169 = .ok (.aload_n 0, 1) := by decide +kernel
theorem zd_264_170 : decode (zm_cc 264) 170 = .ok (.iload 4, 2) := by decide +kernel
theorem zd_264_172 : decode (zm_cc 264) 172 = .ok (.iconst 5, 1) := by decide +kernel
theorem zd_264_173 : decode (zm_cc 264) 173 = .ok (.iadd, 1) := by decide +kernel
theorem zd_264_174 : decode (zm_cc 264) 174 = .ok (.iaload, 1) := by decide +kernel
theorem zd_264_175 : decode (zm_cc 264) 175 = .ok (.aload_n 3, 1) := by decide +kernel
theorem zd_264_176 : decode (zm_cc 264) 176 = .ok (.invokestatic 25, 3) := by decide +kernel
theorem zd_264_179 : decode (zm_cc 264) 179 = .ok (.istore 5, 2) := by decide +kernel
theorem zd_264_181 : decode (zm_cc 264) 181 = .ok (.aload_n 2, 1) := by decide +kernel
theorem zd_264_182 : decode (zm_cc 264) 182 = .ok (.aload_n 0, 1) := by decide +kernel
theorem zd_264_183 : decode (zm_cc 264) 183 = .ok (.iload 4, 2) := by decide +kernel
theorem zd_264_185 : decode (zm_cc 264) 185 = .ok (.iconst 1, 1) := by decide +kernel
theorem zd_264_186 : decode (zm_cc 264) 186 = .ok (.iadd, 1) := by decide +kernel
theorem zd_264_187 : decode (zm_cc 264) 187 = .ok (.iaload, 1) := by decide +kernel
theorem zd_264_188 : decode (zm_cc 264) 188 = .ok (.aload_n 0, 1) := by decide +kernel
theorem zd_264_189 : decode (zm_cc 264) 189 = .ok (.iload 4, 2) := by decide +kernel
theorem zd_264_191 : decode (zm_cc 264) 191 = .ok (.iconst 2, 1) := by decide +kernel
theorem zd_264_192 : decode (zm_cc 264) 192 = .ok (.iadd, 1) := by decide +kernel
theorem zd_264_193 : decode (zm_cc 264) 193 = .ok (.iaload, 1) := by decide +kernel
theorem zd_264_194 : decode (zm_cc 264) 194 = .ok (.aload_n 0, 1) := by decide +kernel
theorem zd_264_195 : decode (zm_cc 264) 195 = .ok (.iload 4, 2) := by decide +kernel
theorem zd_264_197 : decode (zm_cc 264) 197 = .ok (.iconst 3, 1) := by decide +kernel
theorem zd_264_198 : decode (zm_cc 264) 198 = .ok (.iadd, 1) := by decide +kernel
theorem zd_264_199 : decode (zm_cc 264) 199 = .ok (.iaload, 1) := by decide +kernel
theorem zd_264_200 : decode (zm_cc 264) 200 = .ok (.aload_n 0, 1) := by decide +kernel
theorem zd_264_201 : decode (zm_cc 264) 201 = .ok (.iload 4, 2) := by decide +kernel
theorem zd_264_203 : decode (zm_cc 264) 203 = .ok (.iconst 4, 1) := by decide +kernel
theorem zd_264_204 : decode (zm_cc 264) 204 = .ok (.iadd, 1) := by decide +kernel
theorem zd_264_205 : decode (zm_cc 264) 205 = .ok (.iaload, 1) := by decide +kernel
theorem zd_264_206 : decode (zm_cc 264) 206 = .ok (.aload_n 0, 1) := by decide +kernel
theorem zd_264_207 : decode (zm_cc 264) 207 = .ok (.iload 4, 2) := by decide +kernel
theorem zd_264_209 : decode (zm_cc 264) 209 = .ok (.iconst 5, 1) := by decide +kernel
theorem zd_264_210 : decode (zm_cc 264) 210 = .ok (.iadd, 1) := by decide +kernel
theorem zd_264_211 : decode (zm_cc 264) 211 = .ok (.iaload, 1) := by decide +kernel
theorem zd_264_212 : decode (zm_cc 264) 212 = .ok (.invokevirtual 30, 3) := by decide +kernel
theorem zd_264_215 : decode (zm_cc 264) 215 = .ok (.istore 6, 2) := by decide +kernel
theorem zd_264_217 : decode (zm_cc 264) 217 = .ok (.goto 600, 3) := by decide +kernel
theorem zd_264_220 : decode (zm_cc 264) 220 = .ok (.aload_n 1, 1) := by decide +kernel
theorem zd_264_221 : decode (zm_cc 264) 221 = .ok (.aload_n 0, 1) := by decide +kernel
theorem zd_264_222 : decode (zm_cc 264) 222 = .ok (.iload 4, 2) := by decide +kernel
theorem zd_264_224 : decode (zm_cc 264) 224 = .ok (.iconst 1, 1) := by decide +kernel
theorem zd_264_225 : decode (zm_cc 264) 225 = .ok (.iadd, 1) := by decide +kernel
theorem zd_264_226 : decode (zm_cc 264) 226 = .ok (.iaload, 1) := by decide +kernel
theorem zd_264_227 : decode (zm_cc 264) 227 = .ok (.invokestatic 31, 3) := by decide +kernel
theorem zd_264_230 : decode (zm_cc 264) 230 = .ok (.istore 5, 2) := by decide +kernel
theorem zd_264_232 : decode (zm_cc 264) 232 = .ok (.aload_n 2, 1) := by decide +kernel
theorem zd_264_233 : decode (zm_cc 264) 233 = .ok (.aload_n 0, 1) := by decide +kernel
theorem zd_264_234 : decode (zm_cc 264) 234 = .ok (.iload 4, 2) := by decide +kernel
theorem zd_264_236 : decode (zm_cc 264) 236 = .ok (.iconst 1, 1) := by decide +kernel
theorem zd_264_237 : decode (zm_cc 264) 237 = .ok (.iadd, 1) := by decide +kernel
theorem zd_264_238 : decode (zm_cc 264) 238 = .ok (.iaload, 1) := by decide +kernel
theorem zd_264_239 : decode (zm_cc 264) 239 = .ok (.invokevirtual 34, 3) := by decide +kernel
theorem zd_264_242 : decode (zm_cc 264) 242 = .ok (.goto 575, 3) := by decide +kernel
theorem zd_264_245 : decode (zm_cc 264) 245 = .ok (.aload_n 1, 1) := by decide +kernel
theorem zd_264_246 : decode (zm_cc 264) 246 = .ok (.invokevirtual 35, 3) := by decide +kernel
theorem zd_264_249 : decode (zm_cc 264) 249 = .ok (.pop, 1) := by decide +kernel
theorem zd_264_250 : decode (zm_cc 264) 250 = .ok (.aload_n 2, 1) := by decide +kernel
theorem zd_264_251 : decode (zm_cc 264) 251 = .ok (.invokevirtual 39, 3) := by decide +kernel
theorem zd_264_254 : decode (zm_cc 264) 254 = .ok (.pop, 1) := by decide +kernel
theorem zd_264_255 : decode (zm_cc 264) 255 = .ok (.goto 562, 3) := by decide +kernel
theorem zd_264_258 : decode (zm_cc 264) 258 = .ok (.aload_n 1, 1) := by decide +kernel
theorem zd_264_259 : decode (zm_cc 264) 259 = .ok (.invokevirtual 40, 3) := by decide +kernel
theorem zd_264_262 : decode (zm_cc 264) 262 = .ok (.pop, 1) := by decide +kernel
theorem zd_264_263 : decode (zm_cc 264) 263 = .ok (.aload_n 2, 1) := by decide +kernel
theorem zd_264_264 : decode (zm_cc 264) 264 = .ok (.invokevirtual 43, 3) := by decide +kernel
theorem zd_264_267 : decode (zm_cc 264) 267 = .ok (.pop, 1) := by decide +kernel
theorem zd_264_268 : decode (zm_cc 264) 268 = .ok (.goto 549, 3) := by decide +kernel
theorem zd_264_271 : decode (zm_cc 264) 271 = .ok (.aload_n 1, 1) := by decide +kernel
theorem zd_264_272 : decode (zm_cc 264) 272 = .ok (.aload_n 0, 1) := by decide +kernel
theorem zd_264_273 : decode (zm_cc 264) 273 = .ok (.iload 4, 2) := by decide +kernel
theorem zd_264_275 : decode (zm_cc 264) 275 = .ok (.iconst 1, 1) := by decide +kernel
theorem zd_264_276 : decode (zm_cc 264) 276 = .ok (.iadd, 1) := by decide +kernel
theorem zd_264_277 : decode (zm_cc 264) 277 = .ok (.iaload, 1) := by decide +kernel
theorem zd_264_278 : decode (zm_cc 264) 278 = .ok (.invokevirtual 44, 3) := by decide +kernel
theorem zd_264_281 : decode (zm_cc 264) 281 = .ok (.pop, 1) := by decide +kernel
theorem zd_264_282 : decode (zm_cc 264) 282 = .ok (.aload_n 2, 1) := by decide +kernel
theorem zd_264_283 : decode (zm_cc 264) 283 = .ok (.aload_n 0, 1) := by decide +kernel
theorem zd_264_284 : decode (zm_cc 264) 284 = .ok (.iload 4, 2) := by decide +kernel
theorem zd_264_286 : decode (zm_cc 264) 286 = .ok (.iconst 1, 1) := by decide +kernel
theorem zd_264_287 : decode (zm_cc 264) 287 = .ok (.iadd, 1) := by decide +kernel
theorem zd_264_288 : decode (zm_cc 264) 288 = .ok (.iaload, 1) := by decide +kernel
theorem zd_264_289 : decode (zm_cc 264) 289 = .ok (.invokevirtual 48, 3) := by decide +kernel
theorem zd_264_292 : decode (zm_cc 264) 292 = .ok (.pop, 1) := by decide +kernel
theorem zd_264_293 : decode (zm_cc 264) 293 = .ok (.goto 524, 3) := by decide +kernel
theorem zd_264_296 : decode (zm_cc 264) 296 = .ok (.aload_n 1, 1) := by decide +kernel
theorem zd_264_297 : decode (zm_cc 264) 297 = .ok (.aload_n 0, 1) := by decide +kernel
theorem zd_264_298 : decode (zm_cc 264) 298 = .ok (.iload 4, 2) := by decide +kernel
theorem zd_264_300 : decode (zm_cc 264) 300 = .ok (.iconst 1, 1) := by decide +kernel
theorem zd_264_301 : decode (zm_cc 264) 301 = .ok (.iadd, 1) := by decide +kernel
theorem zd_264_302 : decode (zm_cc 264) 302 = .ok (.iaload, 1) := by decide +kernel
theorem zd_264_303 : decode (zm_cc 264) 303 = .ok (.aload_n 0, 1) := by decide +kernel
theorem zd_264_304 : decode (zm_cc 264) 304 = .ok (.iload 4, 2) := by decide +kernel
theorem zd_264_306 : decode (zm_cc 264) 306 = .ok (.iconst 2, 1) := by decide +kernel
theorem zd_264_307 : decode (zm_cc 264) 307 = .ok (.iadd, 1) := by decide +kernel
theorem zd_264_308 : decode (zm_cc 264) 308 = .ok (.iaload, 1) := by decide +kernel
theorem zd_264_309 : decode (zm_cc 264) 309 = .ok (.aload_n 0, 1) := by decide +kernel
theorem zd_264_310 : decode (zm_cc 264) 310 = .ok (.iload 4, 2) := by decide +kernel
theorem zd_264_312 : decode (zm_cc 264) 312 = .ok (.iconst 3, 1) := by decide +kernel
theorem zd_264_313 : decode (zm_cc 264) 313 = .ok (.iadd, 1) := by decide +kernel
theorem zd_264_314 : decode (zm_cc 264) 314 = .ok (.iaload, 1) := by decide +kernel
theorem zd_264_315 : decode (zm_cc 264) 315 = .ok (.invokevirtual 49, 3) := by decide +kernel
theorem zd_264_318 : decode (zm_cc 264) 318 = .ok (.pop, 1) := by decide +kernel
theorem zd_264_319 : decode (zm_cc 264) 319 = .ok (.aload_n 2, 1) := by decide +kernel
theorem zd_264_320 : decode (zm_cc 264) 320 = .ok (.aload_n 0, 1) := by decide +kernel
theorem zd_264_321 : decode (zm_cc 264) 321 = .ok (.iload 4, 2) := by decide +kernel
theorem zd_264_323 : decode (zm_cc 264) 323 = .ok (.iconst 1, 1) := by decide +kernel
theorem zd_264_324 : decode (zm_cc 264) 324 = .ok (.iadd, 1) := by decide +kernel
theorem zd_264_325 : decode (zm_cc 264) 325 = .ok (.iaload, 1) := by decide +kernel
theorem zd_264_326 : decode (zm_cc 264) 326 = .ok (.aload_n 0, 1) := by decide +kernel
theorem zd_264_327 : decode (zm_cc 264) 327 = .ok (.iload 4, 2) := by decide +kernel
theorem zd_264_329 : decode (zm_cc 264) 329 = .ok (.iconst 2, 1) := by decide +kernel
theorem zd_264_330 : decode (zm_cc 264) 330 = .ok (.iadd, 1) := by decide +kernel
theorem zd_264_331 : decode (zm_cc 264) 331 = .ok (.iaload, 1) := by decide +kernel
theorem zd_264_332 : decode (zm_cc 264) 332 = .ok (.aload_n 0, 1) := by decide +kernel
theorem zd_264_333 : decode (zm_cc 264) 333 = .ok (.iload 4, 2) := by decide +kernel
theorem zd_264_335 : decode (zm_cc 264) 335 = .ok (.iconst 3, 1) := by decide +kernel
theorem zd_264_336 : decode (zm_cc 264) 336 = .ok (.iadd, 1) := by decide +kernel
theorem zd_264_337 : decode (zm_cc 264) 337 = .ok (.iaload, 1) := by decide +kernel
theorem zd_264_338 : decode (zm_cc 264) 338 = .ok (.invokevirtual 53, 3) := by decide +kernel
theorem zd_264_341 : decode (zm_cc 264) 341 = .ok (.pop, 1) := by decide +kernel
theorem zd_264_342 : decode (zm_cc 264) 342 = .ok (.goto 475, 3) := by decide +kernel
theorem zd_264_345 : decode (zm_cc 264) 345 = .ok (.aload_n 1, 1) := by decide +kernel
theorem zd_264_346 : decode (zm_cc 264) 346 = .ok (.invokevirtual 54, 3) := by decide +kernel
theorem zd_264_349 : decode (zm_cc 264) 349 = .ok (.pop, 1) := by decide +kernel
theorem zd_264_350 : decode (zm_cc 264) 350 = .ok (.aload_n 2, 1) := by decide +kernel
theorem zd_264_351 : decode (zm_cc 264) 351 = .ok (.invokevirtual 57, 3) := by decide +kernel
theorem zd_264_354 : decode (zm_cc 264) 354 = .ok (.pop, 1) := by decide +kernel
theorem zd_264_355 : decode (zm_cc 264) 355 = .ok (.goto 462, 3) := by decide +kernel
theorem zd_264_358 : decode (zm_cc 264) 358 = .ok (.aload_n 1, 1) := by decide +kernel
theorem zd_264_359 : decode (zm_cc 264) 359 = .ok (.aload_n 0, 1) := by decide +kernel
theorem zd_264_360 : decode (zm_cc 264) 360 = .ok (.iload 4, 2) := by decide +kernel
theorem zd_264_362 : decode (zm_cc 264) 362 = .ok (.iconst 1, 1) := by decide +kernel
theorem zd_264_363 : decode (zm_cc 264) 363 = .ok (.iadd, 1) := by decide +kernel
theorem zd_264_364 : decode (zm_cc 264) 364 = .ok (.iaload, 1) := by decide +kernel
theorem zd_264_365 : decode (zm_cc 264) 365 = .ok (.invokevirtual 58, 3) := by decide +kernel
theorem zd_264_368 : decode (zm_cc 264) 368 = .ok (.pop, 1) := by decide +kernel
theorem zd_264_369 : decode (zm_cc 264) 369 = .ok (.aload_n 2, 1) := by decide +kernel
theorem zd_264_370 : decode (zm_cc 264) 370 = .ok (.aload_n 0, 1) := by decide +kernel
theorem zd_264_371 : decode (zm_cc 264) 371 = .ok (.iload 4, 2) := by decide +kernel
theorem zd_264_373 : decode (zm_cc 264) 373 = .ok (.iconst 1, 1) := by decide +kernel
theorem zd_264_374 : decode (zm_cc 264) 374 = .ok (.iadd, 1) := by decide +kernel
theorem zd_264_375 : decode (zm_cc 264) 375 = .ok (.iaload, 1) := by decide +kernel
theorem zd_264_376 : decode (zm_cc 264) 376 = .ok (.invokevirtual 61, 3) := by decide +kernel
theorem zd_264_379 : decode (zm_cc 264) 379 = .ok (.pop, 1) := by decide +kernel
theorem zd_264_380 : decode (zm_cc 264) 380 = .ok (.goto 437, 3) := by decide +kernel
theorem zd_264_383 : decode (zm_cc 264) 383 = .ok (.aload_n 1, 1) := by decide +kernel
theorem zd_264_384 : decode (zm_cc 264) 384 = .ok (.aload_n 0, 1) := by decide +kernel
theorem zd_264_385 : decode (zm_cc 264) 385 = .ok (.iload 4, 2) := by decide +kernel
theorem zd_264_387 : decode (zm_cc 264) 387 = .ok (.iconst 1, 1) := by decide +kernel
theorem zd_264_388 : decode (zm_cc 264) 388 = .ok (.iadd, 1) := by decide +kernel
theorem zd_264_389 : decode (zm_cc 264) 389 = .ok (.iaload, 1) := by decide +kernel
theorem zd_264_390 : decode (zm_cc 264) 390 = .ok (.aload_n 0, 1) := by decide +kernel
theorem zd_264_391 : decode (zm_cc 264) 391 = .ok (.iload 4, 2) := by decide +kernel
theorem zd_264_393 : decode (zm_cc 264) 393 = .ok (.iconst 2, 1) := by decide +kernel
theorem zd_264_394 : decode (zm_cc 264) 394 = .ok (.iadd, 1) := by decide +kernel
theorem zd_264_395 : decode (zm_cc 264) 395 = .ok (.iaload, 1) := by decide +kernel
theorem zd_264_396 : decode (zm_cc 264) 396 = .ok (.invokevirtual 62, 3) := by decide +kernel
theorem zd_264_399 : decode (zm_cc 264) 399 = .ok (.pop, 1) := by decide +kernel
theorem zd_264_400 : decode (zm_cc 264) 400 = .ok (.aload_n 2, 1) := by decide +kernel
theorem zd_264_401 : decode (zm_cc 264) 401 = .ok (.aload_n 0, 1) := by decide +kernel
theorem zd_264_402 : decode (zm_cc 264) 402 = .ok (.iload 4, 2) := by decide +kernel
theorem zd_264_404 : decode (zm_cc 264) 404 = .ok (.iconst 1, 1) := by decide +kernel
theorem zd_264_405 : decode (zm_cc 264) 405 = .ok (.iadd, 1) := by decide +kernel
theorem zd_264_406 : decode (zm_cc 264) 406 = .ok (.iaload, 1) := by decide +kernel
theorem zd_264_407 : decode (zm_cc 264) 407 = .ok (.aload_n 0, 1) := by decide +kernel
theorem zd_264_408 : decode (zm_cc 264) 408 = .ok (.iload 4, 2) := by decide +kernel
theorem zd_264_410 : decode (zm_cc 264) 410 = .ok (.iconst 2, 1) := by decide +kernel
theorem zd_264_411 : decode (zm_cc 264) 411 = .ok (.iadd, 1) := by decide +kernel
theorem zd_264_412 : decode (zm_cc 264) 412 = .ok (.iaload, 1) := by decide +kernel
theorem zd_264_413 : decode (zm_cc 264) 413 = .ok (.invokevirtual 66, 3) := by decide +kernel
theorem zd_264_416 : decode (zm_cc 264) 416 = .ok (.pop, 1) := by decide +kernel
theorem zd_264_417 : decode (zm_cc 264) 417 = .ok (.goto 400, 3) := by decide +kernel
theorem zd_264_420 : decode (zm_cc 264) 420 = .ok (.aload_n 1, 1) := by decide +kernel
theorem zd_264_421 : decode (zm_cc 264) 421 = .ok (.invokevirtual 67, 3) := by decide +kernel
theorem zd_264_424 : decode (zm_cc 264) 424 = .ok (.pop, 1) := by decide +kernel
theorem zd_264_425 : decode (zm_cc 264) 425 = .ok (.aload_n 2, 1) := by decide +kernel
theorem zd_264_426 : decode (zm_cc 264) 426 = .ok (.invokevirtual 70, 3) := by decide +kernel
theorem zd_264_429 : decode (zm_cc 264) 429 = .ok (.pop, 1) := by decide +kernel
theorem zd_264_430 : decode (zm_cc 264) 430 = .ok (.goto 387, 3) := by decide +kernel
theorem zd_264_433 : decode (zm_cc 264) 433 = .ok (.aload_n 1, 1) := by decide +kernel
theorem zd_264_434 : decode (zm_cc 264) 434 = .ok (.aload_n 0, 1) := by decide +kernel
theorem zd_264_435 : decode (zm_cc 264) 435 = .ok (.iload 4, 2) := by decide +kernel
theorem zd_264_437 : decode (zm_cc 264) 437 = .ok (.iconst 1, 1) := by decide +kernel
theorem zd_264_438 : decode (zm_cc 264) 438 = .ok (.iadd, 1) := by decide +kernel
theorem zd_264_439 : decode (zm_cc 264) 439 = .ok (.iaload, 1) := by decide +kernel
theorem zd_264_440 : decode (zm_cc 264) 440 = .ok (.invokevirtual 71, 3) := by decide +kernel
theorem zd_264_443 : decode (zm_cc 264) 443 = .ok (.aload_n 2, 1) := by decide +kernel
theorem zd_264_444 : decode (zm_cc 264) 444 = .ok (.aload_n 0, 1) := by decide +kernel
theorem zd_264_445 : decode (zm_cc 264) 445 = .ok (.iload 4, 2) := by decide +kernel
theorem zd_264_447 : decode (zm_cc 264) 447 = .ok (.iconst 1, 1) := by decide +kernel
theorem zd_264_448 : decode (zm_cc 264) 448 = .ok (.iadd, 1) := by decide +kernel
theorem zd_264_449 : decode (zm_cc 264) 449 = .ok (.iaload, 1) := by decide +kernel
theorem zd_264_450 : decode (zm_cc 264) 450 = .ok (.invokevirtual 74, 3) := by decide +kernel
theorem zd_264_453 : decode (zm_cc 264) 453 = .ok (.if_icmp .eq 364, 3) := by decide +kernel
theorem zd_264_456 : decode (zm_cc 264) 456 = .ok (.iconst 0, 1) := by decide +kernel
theorem zd_264_457 : decode (zm_cc 264) 457 = .ok (.ireturn, 1) := by decide +kernel
theorem zd_264_458 : decode (zm_cc 264) 458 = .ok (.aload_n 1, 1) := by decide +kernel
theorem zd_264_459 : decode (zm_cc 264) 459 = .ok (.aload_n 0, 1) := by decide +kernel
theorem zd_264_460 : decode (zm_cc 264) 460 = .ok (.iload 4, 2) := by decide +kernel
theorem zd_264_462 : decode (zm_cc 264) 462 = .ok (.iconst 1, 1) := by decide +kernel
theorem zd_264_463 : decode (zm_cc 264) 463 = .ok (.iadd, 1) := by decide +kernel
theorem zd_264_464 : decode (zm_cc 264) 464 = .ok (.iaload, 1) := by decide +kernel
theorem zd_264_465 : decode (zm_cc 264) 465 = .ok (.aload_n 0, 1) := by decide +kernel
theorem zd_264_466 : decode (zm_cc 264) 466 = .ok (.iload 4, 2) := by decide +kernel
theorem zd_264_468 : decode (zm_cc 264) 468 = .ok (.iconst 2, 1) := by decide +kernel
theorem zd_264_469 : decode (zm_cc 264) 469 = .ok (.iadd, 1) := by decide +kernel
theorem zd_264_470 : decode (zm_cc 264) 470 = .ok (.iaload, 1) := by decide +kernel
theorem zd_264_471 : decode (zm_cc 264) 471 = .ok (.invokevirtual 75, 3) := by decide +kernel
theorem zd_264_474 : decode (zm_cc 264) 474 = .ok (.pop, 1) := by decide +kernel
theorem zd_264_475 : decode (zm_cc 264) 475 = .ok (.aload_n 2, 1) := by decide +kernel
theorem zd_264_476 : decode (zm_cc 264) 476 = .ok (.aload_n 0, 1) := by decide +kernel
theorem zd_264_477 : decode (zm_cc 264) 477 = .ok (.iload 4, 2) := by decide +kernel
theorem zd_264_479 : decode (zm_cc 264) 479 = .ok (.iconst 1, 1) := by decide +kernel
theorem zd_264_480 : decode (zm_cc 264) 480 = .ok (.iadd, 1) := by decide +kernel
theorem zd_264_481 : decode (zm_cc 264) 481 = .ok (.iaload, 1) := by decide +kernel
theorem zd_264_482 : decode (zm_cc 264) 482 = .ok (.aload_n 0, 1) := by decide +kernel
theorem zd_264_483 : decode (zm_cc 264) 483 = .ok (.iload 4, 2) := by decide +kernel
theorem zd_264_485 : decode (zm_cc 264) 485 = .ok (.iconst 2, 1) := by decide +kernel
theorem zd_264_486 : decode (zm_cc 264) 486 = .ok (.iadd, 1) := by decide +kernel
theorem zd_264_487 : decode (zm_cc 264) 487 = .ok (.iaload, 1) := by decide +kernel
theorem zd_264_488 : decode (zm_cc 264) 488 = .ok (.invokevirtual 78, 3) := by decide +kernel
theorem zd_264_491 : decode (zm_cc 264) 491 = .ok (.pop, 1) := by decide +kernel
theorem zd_264_492 : decode (zm_cc 264) 492 = .ok (.goto 325, 3) := by decide +kernel
theorem zd_264_495 : decode (zm_cc 264) 495 = .ok (.aload_n 1, 1) := by decide +kernel
theorem zd_264_496 : decode (zm_cc 264) 496 = .ok (.aload_n 0, 1) := by decide +kernel
theorem zd_264_497 : decode (zm_cc 264) 497 = .ok (.iload 4, 2) := by decide +kernel
theorem zd_264_499 : decode (zm_cc 264) 499 = .ok (.iconst 1, 1) := by decide +kernel
theorem zd_264_500 : decode (zm_cc 264) 500 = .ok (.iadd, 1) := by decide +kernel
theorem zd_264_501 : decode (zm_cc 264) 501 = .ok (.iaload, 1) := by decide +kernel
theorem zd_264_502 : decode (zm_cc 264) 502 = .ok (.aload_n 0, 1) := by decide +kernel
theorem zd_264_503 : decode (zm_cc 264) 503 = .ok (.iload 4, 2) := by decide +kernel
theorem zd_264_505 : decode (zm_cc 264) 505 = .ok (.iconst 2, 1) := by decide +kernel
theorem zd_264_506 : decode (zm_cc 264) 506 = .ok (.iadd, 1) := by decide +kernel
theorem zd_264_507 : decode (zm_cc 264) 507 = .ok (.iaload, 1) := by decide +kernel
theorem zd_264_508 : decode (zm_cc 264) 508 = .ok (.aload_n 0, 1) := by decide +kernel
theorem zd_264_509 : decode (zm_cc 264) 509 = .ok (.iload 4, 2) := by decide +kernel
theorem zd_264_511 : decode (zm_cc 264) 511 = .ok (.iconst 3, 1) := by decide +kernel
theorem zd_264_512 : decode (zm_cc 264) 512 = .ok (.iadd, 1) := by decide +kernel
theorem zd_264_513 : decode (zm_cc 264) 513 = .ok (.iaload, 1) := by decide +kernel
theorem zd_264_514 : decode (zm_cc 264) 514 = .ok (.invokevirtual 79, 3) := by decide +kernel
theorem zd_264_517 : decode (zm_cc 264) 517 = .ok (.pop, 1) := by decide +kernel
theorem zd_264_518 : decode (zm_cc 264) 518 = .ok (.aload_n 2, 1) := by decide +kernel
theorem zd_264_519 : decode (zm_cc 264) 519 = .ok (.aload_n 0, 1) := by decide +kernel
theorem zd_264_520 : decode (zm_cc 264) 520 = .ok (.iload 4, 2) := by decide +kernel
theorem zd_264_522 : decode (zm_cc 264) 522 = .ok (.iconst 1, 1) := by decide +kernel
theorem zd_264_523 : decode (zm_cc 264) 523 = .ok (.iadd, 1) := by decide +kernel
theorem zd_264_524 : decode (zm_cc 264) 524 = .ok (.iaload, 1) := by decide +kernel
theorem zd_264_525 : decode (zm_cc 264) 525 = .ok (.aload_n 0, 1) := by decide +kernel
theorem zd_264_526 : decode (zm_cc 264) 526 = .ok (.iload 4, 2) := by decide +kernel
theorem zd_264_528 : decode (zm_cc 264) 528 = .ok (.iconst 2, 1) := by decide +kernel
theorem zd_264_529 : decode (zm_cc 264) 529 = .ok (.iadd, 1) := by decide +kernel
theorem zd_264_530 : decode (zm_cc 264) 530 = .ok (.iaload, 1) := by decide +kernel
theorem zd_264_531 : decode (zm_cc 264) 531 = .ok (.aload_n 0, 1) := by decide +kernel
theorem zd_264_532 : decode (zm_cc 264) 532 = .ok (.iload 4, 2) := by decide +kernel
theorem zd_264_534 : decode (zm_cc 264) 534 = .ok (.iconst 3, 1) := by decide +kernel
theorem zd_264_535 : decode (zm_cc 264) 535 = .ok (.iadd, 1) := by decide +kernel
theorem zd_264_536 : decode (zm_cc 264) 536 = .ok (.iaload, 1) := by decide +kernel
theorem zd_264_537 : decode (zm_cc 264) 537 = .ok (.invokevirtual 82, 3) := by decide +kernel
theorem zd_264_540 : decode (zm_cc 264) 540 = .ok (.pop, 1) := by decide +kernel
theorem zd_264_541 : decode (zm_cc 264) 541 = .ok (.goto 276, 3) := by decide +kernel
theorem zd_264_544 : decode (zm_cc 264) 544 = .ok (.aload_n 1, 1) := by decide +kernel
theorem zd_264_545 : decode (zm_cc 264) 545 = .ok (.aload_n 0, 1) := by decide +kernel
theorem zd_264_546 : decode (zm_cc 264) 546 = .ok (.iload 4, 2) := by decide +kernel
theorem zd_264_548 : decode (zm_cc 264) 548 = .ok (.iconst 1, 1) := by decide +kernel
theorem zd_264_549 : decode (zm_cc 264) 549 = .ok (.iadd, 1) := by decide +kernel
theorem zd_264_550 : decode (zm_cc 264) 550 = .ok (.iaload, 1) := by decide +kernel
theorem zd_264_551 : decode (zm_cc 264) 551 = .ok (.aload_n 0, 1) := by decide +kernel
theorem zd_264_552 : decode (zm_cc 264) 552 = .ok (.iload 4, 2) := by decide +kernel
theorem zd_264_554 : decode (zm_cc 264) 554 = .ok (.iconst 2, 1) := by decide +kernel
theorem zd_264_555 : decode (zm_cc 264) 555 = .ok (.iadd, 1) := by decide +kernel
theorem zd_264_556 : decode (zm_cc 264) 556 = .ok (.iaload, 1) := by decide +kernel
theorem zd_264_557 : decode (zm_cc 264) 557 = .ok (.invokevirtual 83, 3) := by decide +kernel
theorem zd_264_560 : decode (zm_cc 264) 560 = .ok (.pop, 1) := by decide +kernel
theorem zd_264_561 : decode (zm_cc 264) 561 = .ok (.aload_n 2, 1) := by decide +kernel
theorem zd_264_562 : decode (zm_cc 264) 562 = .ok (.aload_n 0, 1) := by decide +kernel
theorem zd_264_563 : decode (zm_cc 264) 563 = .ok (.iload 4, 2) := by decide +kernel
theorem zd_264_565 : decode (zm_cc 264) 565 = .ok (.iconst 1, 1) := by decide +kernel
theorem zd_264_566 : decode (zm_cc 264) 566 = .ok (.iadd, 1) := by decide +kernel
theorem zd_264_567 : decode (zm_cc 264) 567 = .ok (.iaload, 1) := by decide +kernel
theorem zd_264_568 : decode (zm_cc 264) 568 = .ok (.aload_n 0, 1) := by decide +kernel
theorem zd_264_569 : decode (zm_cc 264) 569 = .ok (.iload 4, 2) := by decide +kernel
theorem zd_264_571 : decode (zm_cc 264) 571 = .ok (.iconst 2, 1) := by decide +kernel
theorem zd_264_572 : decode (zm_cc 264) 572 = .ok (.iadd, 1) := by decide +kernel
theorem zd_264_573 : decode (zm_cc 264) 573 = .ok (.iaload, 1) := by decide +kernel
theorem zd_264_574 : decode (zm_cc 264) 574 = .ok (.invokevirtual 86, 3) := by decide +kernel
theorem zd_264_577 : decode (zm_cc 264) 577 = .ok (.pop, 1) := by decide +kernel
theorem zd_264_578 : decode (zm_cc 264) 578 = .ok (.goto 239, 3) := by decide +kernel
theorem zd_264_581 : decode (zm_cc 264) 581 = .ok (.aload_n 1, 1) := by decide +kernel
theorem zd_264_582 : decode (zm_cc 264) 582 = .ok (.aload_n 0, 1) := by decide +kernel
theorem zd_264_583 : decode (zm_cc 264) 583 = .ok (.iload 4, 2) := by decide +kernel
theorem zd_264_585 : decode (zm_cc 264) 585 = .ok (.iconst 1, 1) := by decide +kernel
theorem zd_264_586 : decode (zm_cc 264) 586 = .ok (.iadd, 1) := by decide +kernel
theorem zd_264_587 : decode (zm_cc 264) 587 = .ok (.iaload, 1) := by decide +kernel
theorem zd_264_588 : decode (zm_cc 264) 588 = .ok (.aload_n 0, 1) := by decide +kernel
theorem zd_264_589 : decode (zm_cc 264) 589 = .ok (.iload 4, 2) := by decide +kernel
theorem zd_264_591 : decode (zm_cc 264) 591 = .ok (.iconst 2, 1) := by decide +kernel
theorem zd_264_592 : decode (zm_cc 264) 592 = .ok (.iadd, 1) := by decide +kernel
theorem zd_264_593 : decode (zm_cc 264) 593 = .ok (.iaload, 1) := by decide +kernel
theorem zd_264_594 : decode (zm_cc 264) 594 = .ok (.invokevirtual 87, 3) := by decide +kernel
theorem zd_264_597 : decode (zm_cc 264) 597 = .ok (.pop, 1) := by decide +kernel
theorem zd_264_598 : decode (zm_cc 264) 598 = .ok (.aload_n 2, 1) := by decide +kernel
theorem zd_264_599 : decode (zm_cc 264) 599 = .ok (.aload_n 0, 1) := by decide +kernel
theorem zd_264_600 : decode (zm_cc 264) 600 = .ok (.iload 4, 2) := by decide +kernel
theorem zd_264_602 : decode (zm_cc 264) 602 = .ok (.iconst 1, 1) := by decide +kernel
theorem zd_264_603 : decode (zm_cc 264) 603 = .ok (.iadd, 1) := by decide +kernel
theorem zd_264_604 : decode (zm_cc 264) 604 = .ok (.iaload, 1) := by decide +kernel
theorem zd_264_605 : decode (zm_cc 264) 605 = .ok (.aload_n 0, 1) := by decide +kernel
theorem zd_264_606 : decode (zm_cc 264) 606 = .ok (.iload 4, 2) := by decide +kernel
theorem zd_264_608 : decode (zm_cc 264) 608 = .ok (.iconst 2, 1) := by decide +kernel
theorem zd_264_609 : decode (zm_cc 264) 609 = .ok (.iadd, 1) := by decide +kernel
theorem zd_264_610 : decode (zm_cc 264) 610 = .ok (.iaload, 1) := by decide +kernel
theorem zd_264_611 : decode (zm_cc 264) 611 = .ok (.invokevirtual 90, 3) := by decide +kernel
theorem zd_264_614 : decode (zm_cc 264) 614 = .ok (.pop, 1) := by decide +kernel
theorem zd_264_615 : decode (zm_cc 264) 615 = .ok (.goto 202, 3) := by decide +kernel
theorem zd_264_618 : decode (zm_cc 264) 618 = .ok (.aload_n 1, 1) := by decide +kernel
theorem zd_264_619 : decode (zm_cc 264) 619 = .ok (.aload_n 0, 1) := by decide +kernel
theorem zd_264_620 : decode (zm_cc 264) 620 = .ok (.iload 4, 2) := by decide +kernel
theorem zd_264_622 : decode (zm_cc 264) 622 = .ok (.iconst 1, 1) := by decide +kernel
theorem zd_264_623 : decode (zm_cc 264) 623 = .ok (.iadd, 1) := by decide +kernel
theorem zd_264_624 : decode (zm_cc 264) 624 = .ok (.iaload, 1) := by decide +kernel
theorem zd_264_625 : decode (zm_cc 264) 625 = .ok (.invokevirtual 91, 3) := by decide +kernel
theorem zd_264_628 : decode (zm_cc 264) 628 = .ok (.pop, 1) := by decide +kernel
theorem zd_264_629 : decode (zm_cc 264) 629 = .ok (.aload_n 2, 1) := by decide +kernel
theorem zd_264_630 : decode (zm_cc 264) 630 = .ok (.aload_n 0, 1) := by decide +kernel
theorem zd_264_631 : decode (zm_cc 264) 631 = .ok (.iload 4, 2) := by decide +kernel
theorem zd_264_633 : decode (zm_cc 264) 633 = .ok (.iconst 1, 1) := by decide +kernel
theorem zd_264_634 : decode (zm_cc 264) 634 = .ok (.iadd, 1) := by decide +kernel
theorem zd_264_635 : decode (zm_cc 264) 635 = .ok (.iaload, 1) := by decide +kernel
theorem zd_264_636 : decode (zm_cc 264) 636 = .ok (.invokevirtual 94, 3) := by decide +kernel
theorem zd_264_639 : decode (zm_cc 264) 639 = .ok (.pop, 1) := by decide +kernel
theorem zd_264_640 : decode (zm_cc 264) 640 = .ok (.goto 177, 3) := by decide +kernel
theorem zd_264_643 : decode (zm_cc 264) 643 = .ok (.aload_n 1, 1) := by decide +kernel
theorem zd_264_644 : decode (zm_cc 264) 644 = .ok (.aload_n 0, 1) := by decide +kernel
theorem zd_264_645 : decode (zm_cc 264) 645 = .ok (.iload 4, 2) := by decide +kernel
theorem zd_264_647 : decode (zm_cc 264) 647 = .ok (.iconst 1, 1) := by decide +kernel
theorem zd_264_648 : decode (zm_cc 264) 648 = .ok (.iadd, 1) := by decide +kernel
theorem zd_264_649 : decode (zm_cc 264) 649 = .ok (.iaload, 1) := by decide +kernel
theorem zd_264_650 : decode (zm_cc 264) 650 = .ok (.invokevirtual 95, 3) := by decide +kernel
theorem zd_264_653 : decode (zm_cc 264) 653 = .ok (.pop, 1) := by decide +kernel
theorem zd_264_654 : decode (zm_cc 264) 654 = .ok (.aload_n 2, 1) := by decide +kernel
theorem zd_264_655 : decode (zm_cc 264) 655 = .ok (.aload_n 0, 1) := by decide +kernel
theorem zd_264_656 : decode (zm_cc 264) 656 = .ok (.iload 4, 2) := by decide +kernel
theorem zd_264_658 : decode (zm_cc 264) 658 = .ok (.iconst 1, 1) := by decide +kernel
theorem zd_264_659 : decode (zm_cc 264) 659 = .ok (.iadd, 1) := by decide +kernel
theorem zd_264_660 : decode (zm_cc 264) 660 = .ok (.iaload, 1) := by decide +kernel
theorem zd_264_661 : decode (zm_cc 264) 661 = .ok (.invokevirtual 98, 3) := by decide +kernel
theorem zd_264_664 : decode (zm_cc 264) 664 = .ok (.pop, 1) := by decide +kernel
theorem zd_264_665 : decode (zm_cc 264) 665 = .ok (.goto 152, 3) := by decide +kernel
theorem zd_264_668 : decode (zm_cc 264) 668 = .ok (.aload_n 1, 1) := by decide +kernel
theorem zd_264_669 : decode (zm_cc 264) 669 = .ok (.invokevirtual 99, 3) := by decide +kernel
theorem zd_264_672 : decode (zm_cc 264) 672 = .ok (.pop, 1) := by decide +kernel
theorem zd_264_673 : decode (zm_cc 264) 673 = .ok (.aload_n 2, 1) := by decide +kernel
theorem zd_264_674 : decode (zm_cc 264) 674 = .ok (.invokevirtual 102, 3) := by decide +kernel
theorem zd_264_677 : decode (zm_cc 264) 677 = .ok (.pop, 1) := by decide +kernel
theorem zd_264_678 : decode (zm_cc 264) 678 = .ok (.goto 139, 3) := by decide +kernel
theorem zd_264_681 : decode (zm_cc 264) 681 = .ok (.aload_n 1, 1) := by decide +kernel
theorem zd_264_682 : decode (zm_cc 264) 682 = .ok (.aload_n 0, 1) := by decide +kernel
theorem zd_264_683 : decode (zm_cc 264) 683 = .ok (.iload 4, 2) := by decide +kernel
theorem zd_264_685 : decode (zm_cc 264) 685 = .ok (.iconst 1, 1) := by decide +kernel
theorem zd_264_686 : decode (zm_cc 264) 686 = .ok (.iadd, 1) := by decide +kernel
theorem zd_264_687 : decode (zm_cc 264) 687 = .ok (.iaload, 1) := by decide +kernel
theorem zd_264_688 : decode (zm_cc 264) 688 = .ok (.aload_n 0, 1) := by decide +kernel
theorem zd_264_689 : decode (zm_cc 264) 689 = .ok (.iload 4, 2) := by decide +kernel
theorem zd_264_691 : decode (zm_cc 264) 691 = .ok (.iconst 2, 1) := by decide +kernel
theorem zd_264_692 : decode (zm_cc 264) 692 = .ok (.iadd, 1) := by decide +kernel
theorem zd_264_693 : decode (zm_cc 264) 693 = .ok (.iaload, 1) := by decide +kernel
theorem zd_264_694 : decode (zm_cc 264) 694 = .ok (.invokevirtual 103, 3) := by decide +kernel
theorem zd_264_697 : decode (zm_cc 264) 697 = .ok (.pop, 1) := by decide +kernel
theorem zd_264_698 : decode (zm_cc 264) 698 = .ok (.aload_n 2, 1) := by decide +kernel
theorem zd_264_699 : decode (zm_cc 264) 699 = .ok (.aload_n 0, 1) := by decide +kernel
theorem zd_264_700 : decode (zm_cc 264) 700 = .ok (.iload 4, 2) := by decide +kernel
theorem zd_264_702 : decode (zm_cc 264) 702 = .ok (.iconst 1, 1) := by decide +kernel
theorem zd_264_703 : decode (zm_cc 264) 703 = .ok (.iadd, 1) := by decide +kernel
theorem zd_264_704 : decode (zm_cc 264) 704 = .ok (.iaload, 1) := by decide +kernel
theorem zd_264_705 : decode (zm_cc 264) 705 = .ok (.aload_n 0, 1) := by decide +kernel
theorem zd_264_706 : decode (zm_cc 264) 706 = .ok (.iload 4, 2) := by decide +kernel
theorem zd_264_708 : decode (zm_cc 264) 708 = .ok (.iconst 2, 1) := by decide +kernel
theorem zd_264_709 : decode (zm_cc 264) 709 = .ok (.iadd, 1) := by decide +kernel
theorem zd_264_710 : decode (zm_cc 264) 710 = .ok (.iaload, 1) := by decide +kernel
theorem zd_264_711 : decode (zm_cc 264) 711 = .ok (.invokevirtual 106, 3) := by decide +kernel
theorem zd_264_714 : decode (zm_cc 264) 714 = .ok (.pop, 1) := by decide +kernel
theorem zd_264_715 : decode (zm_cc 264) 715 = .ok (.goto 102, 3) := by decide +kernel
theorem zd_264_718 : decode (zm_cc 264) 718 = .ok (.aload_n 1, 1) := by decide +kernel
theorem zd_264_719 : decode (zm_cc 264) 719 = .ok (.aload_n 0, 1) := by decide +kernel
theorem zd_264_720 : decode (zm_cc 264) 720 = .ok (.iload 4, 2) := by decide +kernel
theorem zd_264_722 : decode (zm_cc 264) 722 = .ok (.iconst 1, 1) := by decide +kernel
theorem zd_264_723 : decode (zm_cc 264) 723 = .ok (.iadd, 1) := by decide +kernel
theorem zd_264_724 : decode (zm_cc 264) 724 = .ok (.iaload, 1) := by decide +kernel
theorem zd_264_725 : decode (zm_cc 264) 725 = .ok (.aload_n 0, 1) := by decide +kernel
theorem zd_264_726 : decode (zm_cc 264) 726 = .ok (.iload 4, 2) := by decide +kernel
theorem zd_264_728 : decode (zm_cc 264) 728 = .ok (.iconst 2, 1) := by decide +kernel
theorem zd_264_729 : decode (zm_cc 264) 729 = .ok (.iadd, 1) := by decide +kernel
theorem zd_264_730 : decode (zm_cc 264) 730 = .ok (.iaload, 1) := by decide +kernel
theorem zd_264_731 : decode (zm_cc 264) 731 = .ok (.aload_n 0, 1) := by decide +kernel
theorem zd_264_732 : decode (zm_cc 264) 732 = .ok (.iload 4, 2) := by decide +kernel
theorem zd_264_734 : decode (zm_cc 264) 734 = .ok (.iconst 3, 1) := by decide +kernel
theorem zd_264_735 : decode (zm_cc 264) 735 = .ok (.iadd, 1) := by decide +kernel
theorem zd_264_736 : decode (zm_cc 264) 736 = .ok (.iaload, 1) := by decide +kernel
theorem zd_264_737 : decode (zm_cc 264) 737 = .ok (.aload_n 0, 1) := by decide +kernel
theorem zd_264_738 : decode (zm_cc 264) 738 = .ok (.iload 4, 2) := by decide +kernel
theorem zd_264_740 : decode (zm_cc 264) 740 = .ok (.iconst 4, 1) := by decide +kernel
theorem zd_264_741 : decode (zm_cc 264) 741 = .ok (.iadd, 1) := by decide +kernel
theorem zd_264_742 : decode (zm_cc 264) 742 = .ok (.iaload, 1) := by decide +kernel
theorem zd_264_743 : decode (zm_cc 264) 743 = .ok (.invokevirtual 107, 3) := by decide +kernel
theorem zd_264_746 : decode (zm_cc 264) 746 = .ok (.pop, 1) := by decide +kernel
theorem zd_264_747 : decode (zm_cc 264) 747 = .ok (.aload_n 2, 1) := by decide +kernel
theorem zd_264_748 : decode (zm_cc 264) 748 = .ok (.aload_n 0, 1) := by decide +kernel
theorem zd_264_749 : decode (zm_cc 264) 749 = .ok (.iload 4, 2) := by decide +kernel
theorem zd_264_751 : decode (zm_cc 264) 751 = .ok (.iconst 1, 1) := by decide +kernel
theorem zd_264_752 : decode (zm_cc 264) 752 = .ok (.iadd, 1) := by decide +kernel
theorem zd_264_753 : decode (zm_cc 264) 753 = .ok (.iaload, 1) := by decide +kernel
theorem zd_264_754 : decode (zm_cc 264) 754 = .ok (.aload_n 0, 1) := by decide +kernel
theorem zd_264_755 : decode (zm_cc 264) 755 = .ok (.iload 4, 2) := by decide +kernel
theorem zd_264_757 : decode (zm_cc 264) 757 = .ok (.iconst 2, 1) := by decide +kernel
theorem zd_264_758 : decode (zm_cc 264) 758 = .ok (.iadd, 1) := by decide +kernel
theorem zd_264_759 : decode (zm_cc 264) 759 = .ok (.iaload, 1) := by decide +kernel
theorem zd_264_760 : decode (zm_cc 264) 760 = .ok (.aload_n 0, 1) := by decide +kernel
theorem zd_264_761 : decode (zm_cc 264) 761 = .ok (.iload 4, 2) := by decide +kernel
theorem zd_264_763 : decode (zm_cc 264) 763 = .ok (.iconst 3, 1) := by decide +kernel
theorem zd_264_764 : decode (zm_cc 264) 764 = .ok (.iadd, 1) := by decide +kernel
theorem zd_264_765 : decode (zm_cc 264) 765 = .ok (.iaload, 1) := by decide +kernel
theorem zd_264_766 : decode (zm_cc 264) 766 = .ok (.aload_n 0, 1) := by decide +kernel
theorem zd_264_767 : decode (zm_cc 264) 767 = .ok (.iload 4, 2) := by decide +kernel
theorem zd_264_769 : decode (zm_cc 264) 769 = .ok (.iconst 4, 1) := by decide +kernel
theorem zd_264_770 : decode (zm_cc 264) 770 = .ok (.iadd, 1) := by decide +kernel
theorem zd_264_771 : decode (zm_cc 264) 771 = .ok (.iaload, 1) := by decide +kernel
theorem zd_264_772 : decode (zm_cc 264) 772 = .ok (.invokevirtual 111, 3) := by decide +kernel
theorem zd_264_775 : decode (zm_cc 264) 775 = .ok (.pop, 1) := by decide +kernel
theorem zd_264_776 : decode (zm_cc 264) 776 = .ok (.goto 41, 3) := by decide +kernel
theorem zd_264_779 : decode (zm_cc 264) 779 = .ok (.aload_n 1, 1) := by decide +kernel
theorem zd_264_780 : decode (zm_cc 264) 780 = .ok (.aload_n 0, 1) := by decide +kernel
theorem zd_264_781 : decode (zm_cc 264) 781 = .ok (.iload 4, 2) := by decide +kernel
theorem zd_264_783 : decode (zm_cc 264) 783 = .ok (.iconst 1, 1) := by decide +kernel
theorem zd_264_784 : decode (zm_cc 264) 784 = .ok (.iadd, 1) := by decide +kernel
theorem zd_264_785 : decode (zm_cc 264) 785 = .ok (.iaload, 1) := by decide +kernel
theorem zd_264_786 : decode (zm_cc 264) 786 = .ok (.invokevirtual 112, 3) := by decide +kernel
theorem zd_264_789 : decode (zm_cc 264) 789 = .ok (.pop, 1) := by decide +kernel
theorem zd_264_790 : decode (zm_cc 264) 790 = .ok (.aload_n 2, 1) := by decide +kernel
theorem zd_264_791 : decode (zm_cc 264) 791 = .ok (.aload_n 0, 1) := by decide +kernel
theorem zd_264_792 : decode (zm_cc 264) 792 = .ok (.iload 4, 2) := by decide +kernel
theorem zd_264_794 : decode (zm_cc 264) 794 = .ok (.iconst 1, 1) := by decide +kernel
theorem zd_264_795 : decode (zm_cc 264) 795 = .ok (.iadd, 1) := by decide +kernel
theorem zd_264_796 : decode (zm_cc 264) 796 = .ok (.iaload, 1) := by decide +kernel
theorem zd_264_797 : decode (zm_cc 264) 797 = .ok (.invokevirtual 115, 3) := by decide +kernel
theorem zd_264_800 : decode (zm_cc 264) 800 = .ok (.pop, 1) := by decide +kernel
theorem zd_264_801 : decode (zm_cc 264) 801 = .ok (.goto 16, 3) := by decide +kernel
theorem zd_264_804 : decode (zm_cc 264) 804 = .ok (.aload_n 1, 1) := by decide +kernel
theorem zd_264_805 : decode (zm_cc 264) 805 = .ok (.invokevirtual 116, 3) := by decide +kernel
theorem zd_264_808 : decode (zm_cc 264) 808 = .ok (.pop, 1) := by decide +kernel
theorem zd_264_809 : decode (zm_cc 264) 809 = .ok (.aload_n 2, 1) := by decide +kernel
theorem zd_264_810 : decode (zm_cc 264) 810 = .ok (.invokevirtual 119, 3) := by decide +kernel
theorem zd_264_813 : decode (zm_cc 264) 813 = .ok (.pop, 1) := by decide +kernel
theorem zd_264_814 : decode (zm_cc 264) 814 = .ok (.goto 3, 3) := by decide +kernel
theorem zd_264_817 : decode (zm_cc 264) 817 = .ok (.iinc 4 6, 3) := by decide +kernel
theorem zd_264_820 : decode (zm_cc 264) 820 = .ok (.goto (-797), 3) := by decide +kernel
theorem zd_264_823 : decode (zm_cc 264) 823 = .ok (.iconst 1, 1) := by decide +kernel
theorem zd_264_824 : decode (zm_cc 264) 824 = .ok (.ireturn, 1) := by decide +kernel
theorem zd_265_0 : decode (zm_cc 265) 0 = .ok (.aload 6, 2) := by decide +kernel
theorem zd_265_2 : decode (zm_cc 265) 2 = .ok (.iconst 0, 1) := by decide +kernel
theorem zd_265_3 : decode (zm_cc 265) 3 = .ok (.aload_n 0, 1) := by decide +kernel
theorem zd_265_4 : decode (zm_cc 265) 4 = .ok (.iload_n 1, 1) := by decide +kernel
theorem zd_265_5 : decode (zm_cc 265) 5 = .ok (.iload_n 2, 1) := by decide +kernel
theorem zd_265_6 : decode (zm_cc 265) 6 = .ok (.iload_n 3, 1) := by decide +kernel
theorem zd_265_7 : decode (zm_cc 265) 7 = .ok (.iload 4, 2) := by decide +kernel
theorem zd_265_9 : decode (zm_cc 265) 9 = .ok (.iload 5, 2) := by decide +kernel
theorem zd_265_11 : decode (zm_cc 265) 11 = .ok (.invokevirtual 7, 3) := by decide +kernel
theorem zd_265_14 : decode (zm_cc 265) 14 = .ok (.i2l, 1) := by decide +kernel
theorem zd_265_15 : decode (zm_cc 265) 15 = .ok (.lastore, 1) := by decide +kernel
theorem zd_265_16 : decode (zm_cc 265) 16 = .ok (.goto 7, 3) := by decide +kernel
theorem zd_265_23 : decode (zm_cc 265) 23 = .ok (.iconst 0, 1) := by decide +kernel
theorem zd_265_24 : decode (zm_cc 265) 24 = .ok (.ireturn, 1) := by decide +kernel
theorem zd_266_0 : decode (zm_cc 266) 0 = .ok (.aload_n 0, 1) := by decide +kernel
theorem zd_266_1 : decode (zm_cc 266) 1 = .ok (.iload_n 1, 1) := by decide +kernel
theorem zd_266_2 : decode (zm_cc 266) 2 = .ok (.invokevirtual 15, 3) := by decide +kernel
theorem zd_266_5 : decode (zm_cc 266) 5 = .ok (.goto 6, 3) := by decide +kernel
theorem zd_266_11 : decode (zm_cc 266) 11 = .ok (.iconst 0, 1) := by decide +kernel
theorem zd_266_12 : decode (zm_cc 266) 12 = .ok (.ireturn, 1) := by decide +kernel
