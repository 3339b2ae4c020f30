theorem w_0 : decode code 0 = .ok (.new 8, 3) := by decide +kernel
theorem w_3 : decode code 3 = .ok (.dup, 1) := by decide +kernel
theorem w_4 : decode code 4 = .ok (.invokespecial 15, 3) := by decide +kernel
theorem w_7 : decode code 7 = .ok (.astore_n 1, 1) := by decide +kernel
theorem w_8 : decode code 8 = .ok (.new 16, 3) := by decide +kernel
theorem w_11 : decode code 11 = .ok (.dup, 1) := by decide +kernel
theorem w_12 : decode code 12 = .ok (.invokespecial 18, 3) := by decide +kernel
theorem w_15 : decode code 15 = .ok (.astore_n 2, 1) := by decide +kernel
theorem w_16 : decode code 16 = .ok (.iconst 1, 1) := by decide +kernel
theorem w_17 : decode code 17 = .ok (.newarray .long, 2) := by decide +kernel
theorem w_19 : decode code 19 = .ok (.astore_n 3, 1) := by decide +kernel
theorem w_20 : decode code 20 = .ok (.iconst 0, 1) := by decide +kernel
theorem w_21 : decode code 21 = .ok (.istore 4, 2) := by decide +kernel
theorem w_23 : decode code 23 = .ok (.iload 4, 2) := by decide +kernel
theorem w_25 : decode code 25 = .ok (.aload_n 0, 1) := by decide +kernel
theorem w_26 : decode code 26 = .ok (.arraylength, 1) := by decide +kernel
theorem w_27 : decode code 27 = .ok (.bipush 6, 2) := by decide +kernel
theorem w_29 : decode code 29 = .ok (.isub, 1) := by decide +kernel
theorem w_30 : decode code 30 = .ok (.if_icmp .gt 514, 3) := by decide +kernel
theorem w_33 : decode code 33 = .ok (.aload_n 0, 1) := by decide +kernel
theorem w_34 : decode code 34 = .ok (.iload 4, 2) := by decide +kernel
theorem w_36 : decode code 36 = .ok (.iaload, 1) := by decide +kernel
theorem w_37 : decode code 37 = .ok (.bipush 15, 2) := by decide +kernel
theorem w_39 : decode code 39 = .ok (.iand, 1) := by decide +kernel
theorem w_40 : decode code 40 = .ok (.tableswitch 498 0 12 #[68, 141, 154, 191, 217, 254, 280, 317, 342, 379, 404, 429, 454], 68) := by decide +kernel
theorem w_108 : decode code 108 = .ok (.aload_n 1, 1) := by decide +kernel
theorem w_109 : decode code 109 = .ok (.aload_n 0, 1) := by decide +kernel
theorem w_110 : decode code 110 = .ok (.iload 4, 2) := by decide +kernel
theorem w_112 : decode code 112 = .ok (.iconst 1, 1) := by decide +kernel
theorem w_113 : decode code 113 = .ok (.iadd, 1) := by decide +kernel
theorem w_114 : decode code 114 = .ok (.iaload, 1) := by decide +kernel
theorem w_115 : decode code 115 = .ok (.aload_n 0, 1) := by decide +kernel
theorem w_116 : decode code 116 = .ok (.iload 4, 2) := by decide +kernel
theorem w_118 : decode code 118 = .ok (.iconst 2, 1) := by decide +kernel
theorem w_119 : decode code 119 = .ok (.iadd, 1) := by decide +kernel
theorem w_120 : decode code 120 = .ok (.iaload, 1) := by decide +kernel
theorem w_121 : decode code 121 = .ok (.aload_n 0, 1) := by decide +kernel
theorem w_122 : decode code 122 = .ok (.iload 4, 2) := by decide +kernel
theorem w_124 : decode code 124 = .ok (.iconst 3, 1) := by decide +kernel
theorem w_125 : decode code 125 = .ok (.iadd, 1) := by decide +kernel
theorem w_126 : decode code 126 = .ok (.iaload, 1) := by decide +kernel
theorem w_127 : decode code 127 = .ok (.aload_n 0, 1) := by decide +kernel
theorem w_128 : decode code 128 = .ok (.iload 4, 2) := by decide +kernel
theorem w_130 : decode code 130 = .ok (.iconst 4, 1) := by decide +kernel
theorem w_131 : decode code 131 = .ok (.iadd, 1) := by decide +kernel
theorem w_132 : decode code 132 = .ok (.iaload, 1) := by decide +kernel
theorem w_133 : decode code 133 = .ok (.aload_n 0, 1) := by decide +kernel
theorem w_134 : decode code 134 = .ok (.iload 4, 2) := by decide +kernel
theorem w_136 : decode code 136 = .ok (.iconst 5, 1) := by decide +kernel
theorem w_137 : decode code 137 = .ok (.iadd, 1) := by decide +kernel
theorem w_138 : decode code 138 = .ok (.iaload, 1) := by decide +kernel
theorem w_139 : decode code 139 = .ok (.invokevirtual 19, 3) := by decide +kernel
theorem w_142 : decode code 142 = .ok (.aload_n 2, 1) := by decide +kernel
theorem w_143 : decode code 143 = .ok (.aload_n 0, 1) := by decide +kernel
theorem w_144 : decode code 144 = .ok (.iload 4, 2) := by decide +kernel
theorem w_146 : decode code 146 = .ok (.iconst 1, 1) := by decide +kernel
theorem w_147 : decode code 147 = .ok (.iadd, 1) := by decide +kernel
theorem w_148 : decode code 148 = .ok (.iaload, 1) := by decide +kernel
theorem w_149 : decode code 149 = .ok (.aload_n 0, 1) := by decide +kernel
theorem w_150 : decode code 150 = .ok (.iload 4, 2) := by decide +kernel
theorem w_152 : decode code 152 = .ok (.iconst 2, 1) := by decide +kernel
theorem w_153 : decode code 153 = .ok (.iadd, 1) := by decide +kernel
theorem w_154 : decode code 154 = .ok (.iaload, 1) := by decide +kernel
theorem w_155 : decode code 155 = .ok (.aload_n 0, 1) := by decide +kernel
theorem w_156 : decode code 156 = .ok (.iload 4, 2) := by decide +kernel
theorem w_158 : decode code 158 = .ok (.iconst 3, 1) := by decide +kernel
theorem w_159 : decode code 159 = .ok (.iadd, 1) := by decide +kernel
theorem w_160 : decode code 160 = .ok (.iaload, 1) := by decide +kernel
theorem w_161 : decode code 161 = .ok (.aload_n 0, 1) := by decide +kernel
theorem w_162 : decode code 162 = .ok (.iload 4, 2) := by decide +kernel
theorem w_164 : decode code 164 = .ok (.iconst 4, 1) := by decide +kernel
theorem w_165 : decode code 165 = .ok (.iadd, 1) := by decide +kernel
theorem w_166 : decode code 166 = .ok (.iaload, 1) := by decide +kernel
theorem w_167 : decode code 167 = .ok (.aload_n 0, 1) := by decide +kernel
theorem w_168 : decode code 168 = .ok (.iload 4, 2) := by decide +kernel
theorem w_170 : decode code 170 = .ok (.iconst 5, 1) := by decide +kernel
theorem w_171 : decode code 171 = .ok (.iadd, 1) := by decide +kernel
theorem w_172 : decode code 172 = .ok (.iaload, 1) := by decide +kernel
theorem w_173 : decode code 173 = .ok (.invokevirtual 23, 3) := by decide +kernel
theorem w_176 : decode code 176 = .ok (.if_icmp .eq 362, 3) := by decide +kernel
theorem w_181 : decode code 181 = .ok (.aload_n 1, 1) := by decide +kernel
theorem w_182 : decode code 182 = .ok (.invokevirtual 24, 3) := by decide +kernel
theorem w_185 : decode code 185 = .ok (.aload_n 2, 1) := by decide +kernel
theorem w_186 : decode code 186 = .ok (.invokevirtual 27, 3) := by decide +kernel
theorem w_189 : decode code 189 = .ok (.if_icmp .eq 349, 3) := by decide +kernel
theorem w_194 : decode code 194 = .ok (.aload_n 1, 1) := by decide +kernel
theorem w_195 : decode code 195 = .ok (.aload_n 0, 1) := by decide +kernel
theorem w_196 : decode code 196 = .ok (.iload 4, 2) := by decide +kernel
theorem w_198 : decode code 198 = .ok (.iconst 1, 1) := by decide +kernel
theorem w_199 : decode code 199 = .ok (.iadd, 1) := by decide +kernel
theorem w_200 : decode code 200 = .ok (.iaload, 1) := by decide +kernel
theorem w_201 : decode code 201 = .ok (.aload_n 0, 1) := by decide +kernel
theorem w_202 : decode code 202 = .ok (.iload 4, 2) := by decide +kernel
theorem w_204 : decode code 204 = .ok (.iconst 2, 1) := by decide +kernel
theorem w_205 : decode code 205 = .ok (.iadd, 1) := by decide +kernel
theorem w_206 : decode code 206 = .ok (.iaload, 1) := by decide +kernel
theorem w_207 : decode code 207 = .ok (.invokevirtual 28, 3) := by decide +kernel
theorem w_210 : decode code 210 = .ok (.aload_n 2, 1) := by decide +kernel
theorem w_211 : decode code 211 = .ok (.aload_n 0, 1) := by decide +kernel
theorem w_212 : decode code 212 = .ok (.iload 4, 2) := by decide +kernel
theorem w_214 : decode code 214 = .ok (.iconst 1, 1) := by decide +kernel
theorem w_215 : decode code 215 = .ok (.iadd, 1) := by decide +kernel
theorem w_216 : decode code 216 = .ok (.iaload, 1) := by decide +kernel
theorem w_217 : decode code 217 = .ok (.aload_n 0, 1) := by decide +kernel
theorem w_218 : decode code 218 = .ok (.iload 4, 2) := by decide +kernel
theorem w_220 : decode code 220 = .ok (.iconst 2, 1) := by decide +kernel
theorem w_221 : decode code 221 = .ok (.iadd, 1) := by decide +kernel
theorem w_222 : decode code 222 = .ok (.iaload, 1) := by decide +kernel
theorem w_223 : decode code 223 = .ok (.invokevirtual 32, 3) := by decide +kernel
theorem w_226 : decode code 226 = .ok (.if_icmp .eq 312, 3) := by decide +kernel
theorem w_231 : decode code 231 = .ok (.aload_n 1, 1) := by decide +kernel
theorem w_232 : decode code 232 = .ok (.aload_n 0, 1) := by decide +kernel
theorem w_233 : decode code 233 = .ok (.iload 4, 2) := by decide +kernel
theorem w_235 : decode code 235 = .ok (.iconst 1, 1) := by decide +kernel
theorem w_236 : decode code 236 = .ok (.iadd, 1) := by decide +kernel
theorem w_237 : decode code 237 = .ok (.iaload, 1) := by decide +kernel
theorem w_238 : decode code 238 = .ok (.invokevirtual 33, 3) := by decide +kernel
theorem w_241 : decode code 241 = .ok (.aload_n 2, 1) := by decide +kernel
theorem w_242 : decode code 242 = .ok (.aload_n 0, 1) := by decide +kernel
theorem w_243 : decode code 243 = .ok (.iload 4, 2) := by decide +kernel
theorem w_245 : decode code 245 = .ok (.iconst 1, 1) := by decide +kernel
theorem w_246 : decode code 246 = .ok (.iadd, 1) := by decide +kernel
theorem w_247 : decode code 247 = .ok (.iaload, 1) := by decide +kernel
theorem w_248 : decode code 248 = .ok (.invokevirtual 37, 3) := by decide +kernel
theorem w_251 : decode code 251 = .ok (.lcmp, 1) := by decide +kernel
theorem w_252 : decode code 252 = .ok (.ifCond .eq 286, 3) := by decide +kernel
theorem w_257 : decode code 257 = .ok (.aload_n 1, 1) := by decide +kernel
theorem w_258 : decode code 258 = .ok (.aload_n 0, 1) := by decide +kernel
theorem w_259 : decode code 259 = .ok (.iload 4, 2) := by decide +kernel
theorem w_261 : decode code 261 = .ok (.iconst 1, 1) := by decide +kernel
theorem w_262 : decode code 262 = .ok (.iadd, 1) := by decide +kernel
theorem w_263 : decode code 263 = .ok (.iaload, 1) := by decide +kernel
theorem w_264 : decode code 264 = .ok (.aload_n 0, 1) := by decide +kernel
theorem w_265 : decode code 265 = .ok (.iload 4, 2) := by decide +kernel
theorem w_267 : decode code 267 = .ok (.iconst 2, 1) := by decide +kernel
theorem w_268 : decode code 268 = .ok (.iadd, 1) := by decide +kernel
theorem w_269 : decode code 269 = .ok (.iaload, 1) := by decide +kernel
theorem w_270 : decode code 270 = .ok (.invokevirtual 38, 3) := by decide +kernel
theorem w_273 : decode code 273 = .ok (.aload_n 2, 1) := by decide +kernel
theorem w_274 : decode code 274 = .ok (.aload_n 0, 1) := by decide +kernel
theorem w_275 : decode code 275 = .ok (.iload 4, 2) := by decide +kernel
theorem w_277 : decode code 277 = .ok (.iconst 1, 1) := by decide +kernel
theorem w_278 : decode code 278 = .ok (.iadd, 1) := by decide +kernel
theorem w_279 : decode code 279 = .ok (.iaload, 1) := by decide +kernel
theorem w_280 : decode code 280 = .ok (.aload_n 0, 1) := by decide +kernel
theorem w_281 : decode code 281 = .ok (.iload 4, 2) := by decide +kernel
theorem w_283 : decode code 283 = .ok (.iconst 2, 1) := by decide +kernel
theorem w_284 : decode code 284 = .ok (.iadd, 1) := by decide +kernel
theorem w_285 : decode code 285 = .ok (.iaload, 1) := by decide +kernel
theorem w_286 : decode code 286 = .ok (.invokevirtual 41, 3) := by decide +kernel
theorem w_289 : decode code 289 = .ok (.if_icmp .eq 249, 3) := by decide +kernel
theorem w_294 : decode code 294 = .ok (.aload_n 1, 1) := by decide +kernel
theorem w_295 : decode code 295 = .ok (.aload_n 0, 1) := by decide +kernel
theorem w_296 : decode code 296 = .ok (.iload 4, 2) := by decide +kernel
theorem w_298 : decode code 298 = .ok (.iconst 1, 1) := by decide +kernel
theorem w_299 : decode code 299 = .ok (.iadd, 1) := by decide +kernel
theorem w_300 : decode code 300 = .ok (.iaload, 1) := by decide +kernel
theorem w_301 : decode code 301 = .ok (.invokevirtual 42, 3) := by decide +kernel
theorem w_304 : decode code 304 = .ok (.aload_n 2, 1) := by decide +kernel
theorem w_305 : decode code 305 = .ok (.aload_n 0, 1) := by decide +kernel
theorem w_306 : decode code 306 = .ok (.iload 4, 2) := by decide +kernel
theorem w_308 : decode code 308 = .ok (.iconst 1, 1) := by decide +kernel
theorem w_309 : decode code 309 = .ok (.iadd, 1) := by decide +kernel
theorem w_310 : decode code 310 = .ok (.iaload, 1) := by decide +kernel
theorem w_311 : decode code 311 = .ok (.invokevirtual 45, 3) := by decide +kernel
theorem w_314 : decode code 314 = .ok (.lcmp, 1) := by decide +kernel
theorem w_315 : decode code 315 = .ok (.ifCond .eq 223, 3) := by decide +kernel
theorem w_320 : decode code 320 = .ok (.aload_n 1, 1) := by decide +kernel
theorem w_321 : decode code 321 = .ok (.aload_n 0, 1) := by decide +kernel
theorem w_322 : decode code 322 = .ok (.iload 4, 2) := by decide +kernel
theorem w_324 : decode code 324 = .ok (.iconst 1, 1) := by decide +kernel
theorem w_325 : decode code 325 = .ok (.iadd, 1) := by decide +kernel
theorem w_326 : decode code 326 = .ok (.iaload, 1) := by decide +kernel
theorem w_327 : decode code 327 = .ok (.aload_n 0, 1) := by decide +kernel
theorem w_328 : decode code 328 = .ok (.iload 4, 2) := by decide +kernel
theorem w_330 : decode code 330 = .ok (.iconst 2, 1) := by decide +kernel
theorem w_331 : decode code 331 = .ok (.iadd, 1) := by decide +kernel
theorem w_332 : decode code 332 = .ok (.iaload, 1) := by decide +kernel
theorem w_333 : decode code 333 = .ok (.invokevirtual 46, 3) := by decide +kernel
theorem w_336 : decode code 336 = .ok (.aload_n 2, 1) := by decide +kernel
theorem w_337 : decode code 337 = .ok (.aload_n 0, 1) := by decide +kernel
theorem w_338 : decode code 338 = .ok (.iload 4, 2) := by decide +kernel
theorem w_340 : decode code 340 = .ok (.iconst 1, 1) := by decide +kernel
theorem w_341 : decode code 341 = .ok (.iadd, 1) := by decide +kernel
theorem w_342 : decode code 342 = .ok (.iaload, 1) := by decide +kernel
theorem w_343 : decode code 343 = .ok (.aload_n 0, 1) := by decide +kernel
theorem w_344 : decode code 344 = .ok (.iload 4, 2) := by decide +kernel
theorem w_346 : decode code 346 = .ok (.iconst 2, 1) := by decide +kernel
theorem w_347 : decode code 347 = .ok (.iadd, 1) := by decide +kernel
theorem w_348 : decode code 348 = .ok (.iaload, 1) := by decide +kernel
theorem w_349 : decode code 349 = .ok (.invokevirtual 49, 3) := by decide +kernel
theorem w_352 : decode code 352 = .ok (.if_icmp .eq 186, 3) := by decide +kernel
theorem w_357 : decode code 357 = .ok (.aload_n 1, 1) := by decide +kernel
theorem w_358 : decode code 358 = .ok (.aload_n 0, 1) := by decide +kernel
theorem w_359 : decode code 359 = .ok (.iload 4, 2) := by decide +kernel
theorem w_361 : decode code 361 = .ok (.iconst 1, 1) := by decide +kernel
theorem w_362 : decode code 362 = .ok (.iadd, 1) := by decide +kernel
theorem w_363 : decode code 363 = .ok (.iaload, 1) := by decide +kernel
theorem w_364 : decode code 364 = .ok (.invokevirtual 50, 3) := by decide +kernel
theorem w_367 : decode code 367 = .ok (.aload_n 2, 1) := by decide +kernel
theorem w_368 : decode code 368 = .ok (.aload_n 0, 1) := by decide +kernel
theorem w_369 : decode code 369 = .ok (.iload 4, 2) := by decide +kernel
theorem w_371 : decode code 371 = .ok (.iconst 1, 1) := by decide +kernel
theorem w_372 : decode code 372 = .ok (.iadd, 1) := by decide +kernel
theorem w_373 : decode code 373 = .ok (.iaload, 1) := by decide +kernel
theorem w_374 : decode code 374 = .ok (.invokevirtual 54, 3) := by decide +kernel
theorem w_377 : decode code 377 = .ok (.if_icmp .eq 161, 3) := by decide +kernel
theorem w_382 : decode code 382 = .ok (.aload_n 1, 1) := by decide +kernel
theorem w_383 : decode code 383 = .ok (.aload_n 0, 1) := by decide +kernel
theorem w_384 : decode code 384 = .ok (.iload 4, 2) := by decide +kernel
theorem w_386 : decode code 386 = .ok (.iconst 1, 1) := by decide +kernel
theorem w_387 : decode code 387 = .ok (.iadd, 1) := by decide +kernel
theorem w_388 : decode code 388 = .ok (.iaload, 1) := by decide +kernel
theorem w_389 : decode code 389 = .ok (.aload_n 0, 1) := by decide +kernel
theorem w_390 : decode code 390 = .ok (.iload 4, 2) := by decide +kernel
theorem w_392 : decode code 392 = .ok (.iconst 2, 1) := by decide +kernel
theorem w_393 : decode code 393 = .ok (.iadd, 1) := by decide +kernel
theorem w_394 : decode code 394 = .ok (.iaload, 1) := by decide +kernel
theorem w_395 : decode code 395 = .ok (.invokevirtual 55, 3) := by decide +kernel
theorem w_398 : decode code 398 = .ok (.aload_n 2, 1) := by decide +kernel
theorem w_399 : decode code 399 = .ok (.aload_n 0, 1) := by decide +kernel
theorem w_400 : decode code 400 = .ok (.iload 4, 2) := by decide +kernel
theorem w_402 : decode code 402 = .ok (.iconst 1, 1) := by decide +kernel
theorem w_403 : decode code 403 = .ok (.iadd, 1) := by decide +kernel
theorem w_404 : decode code 404 = .ok (.iaload, 1) := by decide +kernel
theorem w_405 : decode code 405 = .ok (.aload_n 0, 1) := by decide +kernel
theorem w_406 : decode code 406 = .ok (.iload 4, 2) := by decide +kernel
theorem w_408 : decode code 408 = .ok (.iconst 2, 1) := by decide +kernel
theorem w_409 : decode code 409 = .ok (.iadd, 1) := by decide +kernel
theorem w_410 : decode code 410 = .ok (.iaload, 1) := by decide +kernel
theorem w_411 : decode code 411 = .ok (.invokevirtual 58, 3) := by decide +kernel
theorem w_414 : decode code 414 = .ok (.if_icmp .eq 124, 3) := by decide +kernel
theorem w_419 : decode code 419 = .ok (.aload_n 1, 1) := by decide +kernel
theorem w_420 : decode code 420 = .ok (.aload_n 0, 1) := by decide +kernel
theorem w_421 : decode code 421 = .ok (.iload 4, 2) := by decide +kernel
theorem w_423 : decode code 423 = .ok (.iconst 1, 1) := by decide +kernel
theorem w_424 : decode code 424 = .ok (.iadd, 1) := by decide +kernel
theorem w_425 : decode code 425 = .ok (.iaload, 1) := by decide +kernel
theorem w_426 : decode code 426 = .ok (.invokevirtual 59, 3) := by decide +kernel
theorem w_429 : decode code 429 = .ok (.aload_n 2, 1) := by decide +kernel
theorem w_430 : decode code 430 = .ok (.aload_n 0, 1) := by decide +kernel
theorem w_431 : decode code 431 = .ok (.iload 4, 2) := by decide +kernel
theorem w_433 : decode code 433 = .ok (.iconst 1, 1) := by decide +kernel
theorem w_434 : decode code 434 = .ok (.iadd, 1) := by decide +kernel
theorem w_435 : decode code 435 = .ok (.iaload, 1) := by decide +kernel
theorem w_436 : decode code 436 = .ok (.invokevirtual 62, 3) := by decide +kernel
theorem w_439 : decode code 439 = .ok (.if_icmp .eq 99, 3) := by decide +kernel
theorem w_444 : decode code 444 = .ok (.aload_n 1, 1) := by decide +kernel
theorem w_445 : decode code 445 = .ok (.aload_n 0, 1) := by decide +kernel
theorem w_446 : decode code 446 = .ok (.iload 4, 2) := by decide +kernel
theorem w_448 : decode code 448 = .ok (.iconst 1, 1) := by decide +kernel
theorem w_449 : decode code 449 = .ok (.iadd, 1) := by decide +kernel
theorem w_450 : decode code 450 = .ok (.iaload, 1) := by decide +kernel
theorem w_451 : decode code 451 = .ok (.invokevirtual 63, 3) := by decide +kernel
theorem w_454 : decode code 454 = .ok (.aload_n 2, 1) := by decide +kernel
theorem w_455 : decode code 455 = .ok (.aload_n 0, 1) := by decide +kernel
theorem w_456 : decode code 456 = .ok (.iload 4, 2) := by decide +kernel
theorem w_458 : decode code 458 = .ok (.iconst 1, 1) := by decide +kernel
theorem w_459 : decode code 459 = .ok (.iadd, 1) := by decide +kernel
theorem w_460 : decode code 460 = .ok (.iaload, 1) := by decide +kernel
theorem w_461 : decode code 461 = .ok (.invokevirtual 66, 3) := by decide +kernel
theorem w_464 : decode code 464 = .ok (.if_icmp .eq 74, 3) := by decide +kernel
theorem w_469 : decode code 469 = .ok (.aload_n 1, 1) := by decide +kernel
theorem w_470 : decode code 470 = .ok (.aload_n 0, 1) := by decide +kernel
theorem w_471 : decode code 471 = .ok (.iload 4, 2) := by decide +kernel
theorem w_473 : decode code 473 = .ok (.iconst 1, 1) := by decide +kernel
theorem w_474 : decode code 474 = .ok (.iadd, 1) := by decide +kernel
theorem w_475 : decode code 475 = .ok (.iaload, 1) := by decide +kernel
theorem w_476 : decode code 476 = .ok (.invokevirtual 67, 3) := by decide +kernel
theorem w_479 : decode code 479 = .ok (.aload_n 2, 1) := by decide +kernel
theorem w_480 : decode code 480 = .ok (.aload_n 0, 1) := by decide +kernel
theorem w_481 : decode code 481 = .ok (.iload 4, 2) := by decide +kernel
theorem w_483 : decode code 483 = .ok (.iconst 1, 1) := by decide +kernel
theorem w_484 : decode code 484 = .ok (.iadd, 1) := by decide +kernel
theorem w_485 : decode code 485 = .ok (.iaload, 1) := by decide +kernel
theorem w_486 : decode code 486 = .ok (.invokevirtual 70, 3) := by decide +kernel
theorem w_489 : decode code 489 = .ok (.if_icmp .eq 49, 3) := by decide +kernel
theorem w_494 : decode code 494 = .ok (.aload_n 1, 1) := by decide +kernel
theorem w_495 : decode code 495 = .ok (.aload_n 3, 1) := by decide +kernel
theorem w_496 : decode code 496 = .ok (.invokestatic 71, 3) := by decide +kernel
theorem w_499 : decode code 499 = .ok (.istore 5, 2) := by decide +kernel
theorem w_501 : decode code 501 = .ok (.aload_n 2, 1) := by decide +kernel
theorem w_502 : decode code 502 = .ok (.invokevirtual 76, 3) := by decide +kernel
theorem w_505 : decode code 505 = .ok (.istore 6, 2) := by decide +kernel
theorem w_507 : decode code 507 = .ok (.aload_n 2, 1) := by decide +kernel
theorem w_508 : decode code 508 = .ok (.invokevirtual 77, 3) := by decide +kernel
theorem w_511 : decode code 511 = .ok (.iload 5, 2) := by decide +kernel
theorem w_513 : decode code 513 = .ok (.if_icmp .eq 5, 3) := by decide +kernel
theorem w_518 : decode code 518 = .ok (.iload 5, 2) := by decide +kernel
theorem w_520 : decode code 520 = .ok (.ifCond .ne 15, 3) := by decide +kernel
theorem w_523 : decode code 523 = .ok (.aload_n 3, 1) := by decide +kernel
theorem w_524 : decode code 524 = .ok (.iconst 0, 1) := by decide +kernel
theorem w_525 : decode code 525 = .ok (.laload, 1) := by decide +kernel
theorem w_526 : decode code 526 = .ok (.iload 6, 2) := by decide +kernel
theorem w_528 : decode code 528 = .ok (.i2l, 1) := by decide +kernel
theorem w_529 : decode code 529 = .ok (.lcmp, 1) := by decide +kernel
theorem w_530 : decode code 530 = .ok (.ifCond .eq 5, 3) := by decide +kernel
theorem w_535 : decode code 535 = .ok (.goto 3, 3) := by decide +kernel
theorem w_538 : decode code 538 = .ok (.iinc 4 6, 3) := by decide +kernel
theorem w_541 : decode code 541 = .ok (.goto (-518), 3) := by decide +kernel
theorem w_544 : decode code 544 = .ok (.iconst 1, 1) := by decide +kernel
theorem w_545 : decode code 545 = .ok (.ireturn, 1) := by decide +kernel
theorem w_k19 : Cond.methodLink RL 19 (m_y n_X5_step) ∈ m_gws := m_gw_in (k := 249) (by decide +kernel)
theorem w_k24 : Cond.methodLink RL 24 (m_y n_X5_clear) ∈ m_gws := m_gw_in (k := 328) (by decide +kernel)
theorem w_k28 : Cond.methodLink RL 28 (m_y n_X5_run) ∈ m_gws := m_gw_in (k := 340) (by decide +kernel)
theorem w_k33 : Cond.methodLink RL 33 (m_y n_X5_ran) ∈ m_gws := m_gw_in (k := 521) (by decide +kernel)
theorem w_k38 : Cond.methodLink RL 38 (m_y n_X5_variable) ∈ m_gws := m_gw_in (k := 539) (by decide +kernel)
theorem w_k42 : Cond.methodLink RL 42 (m_y n_X5_number) ∈ m_gws := m_gw_in (k := 548) (by decide +kernel)
theorem w_k46 : Cond.methodLink RL 46 (m_y n_X5_seen) ∈ m_gws := m_gw_in (k := 557) (by decide +kernel)
theorem w_k50 : Cond.methodLink RL 50 (m_y n_X5_had) ∈ m_gws := m_gw_in (k := 566) (by decide +kernel)
theorem w_k55 : Cond.methodLink RL 55 (m_y n_X5_may) ∈ m_gws := m_gw_in (k := 574) (by decide +kernel)
theorem w_k59 : Cond.methodLink RL 59 (m_y n_X5_faults) ∈ m_gws := m_gw_in (k := 700) (by decide +kernel)
theorem w_k63 : Cond.methodLink RL 63 (m_y n_X5_cast) ∈ m_gws := m_gw_in (k := 712) (by decide +kernel)
theorem w_k67 : Cond.methodLink RL 67 (m_y n_X5_all) ∈ m_gws := m_gw_in (k := 720) (by decide +kernel)
theorem w_k23 : Cond.methodLink RL 23 (m_y n_X6_step) ∈ m_gws := m_gw_in (k := 914) (by decide +kernel)
theorem w_k27 : Cond.methodLink RL 27 (m_y n_X6_clear) ∈ m_gws := m_gw_in (k := 945) (by decide +kernel)
theorem w_k32 : Cond.methodLink RL 32 (m_y n_X6_run) ∈ m_gws := m_gw_in (k := 949) (by decide +kernel)
theorem w_k37 : Cond.methodLink RL 37 (m_y n_X6_ran) ∈ m_gws := m_gw_in (k := 996) (by decide +kernel)
theorem w_k41 : Cond.methodLink RL 41 (m_y n_X6_variable) ∈ m_gws := m_gw_in (k := 1001) (by decide +kernel)
theorem w_k45 : Cond.methodLink RL 45 (m_y n_X6_number) ∈ m_gws := m_gw_in (k := 1005) (by decide +kernel)
theorem w_k49 : Cond.methodLink RL 49 (m_y n_X6_seen) ∈ m_gws := m_gw_in (k := 1009) (by decide +kernel)
theorem w_k54 : Cond.methodLink RL 54 (m_y n_X6_had) ∈ m_gws := m_gw_in (k := 1013) (by decide +kernel)
theorem w_k58 : Cond.methodLink RL 58 (m_y n_X6_may) ∈ m_gws := m_gw_in (k := 1017) (by decide +kernel)
theorem w_k62 : Cond.methodLink RL 62 (m_y n_X6_faults) ∈ m_gws := m_gw_in (k := 1058) (by decide +kernel)
theorem w_k66 : Cond.methodLink RL 66 (m_y n_X6_cast) ∈ m_gws := m_gw_in (k := 1062) (by decide +kernel)
theorem w_k70 : Cond.methodLink RL 70 (m_y n_X6_all) ∈ m_gws := m_gw_in (k := 1066) (by decide +kernel)
theorem w_k76 : Cond.methodLink RL 76 (m_y n_X6_mean) ∈ m_gws := m_gw_in (k := 1071) (by decide +kernel)
theorem w_k77 : Cond.methodLink RL 77 (m_y n_X6_thrown) ∈ m_gws := m_gw_in (k := 910) (by decide +kernel)
