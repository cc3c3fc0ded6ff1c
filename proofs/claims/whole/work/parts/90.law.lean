/-! needs 30 31 50 70 74 75 76 77 78 79 80 81 -/
/-! the law: its loop -/
theorem dl_23 : decode code 23 = .ok (.iload 4, 2) := by decide +kernel
theorem dl_25 : decode code 25 = .ok (.aload_n 0, 1) := by decide +kernel
theorem dl_26 : decode code 26 = .ok (.arraylength, 1) := by decide +kernel
theorem dl_27 : decode code 27 = .ok (.bipush 6, 2) := by decide +kernel
theorem dl_29 : decode code 29 = .ok (.isub, 1) := by decide +kernel
theorem dl_30 : decode code 30 = .ok (.if_icmp .gt 1190, 3) := by decide +kernel
theorem dl_33 : decode code 33 = .ok (.aload_n 0, 1) := by decide +kernel
theorem dl_34 : decode code 34 = .ok (.iload 4, 2) := by decide +kernel
theorem dl_36 : decode code 36 = .ok (.iaload, 1) := by decide +kernel
theorem dl_37 : decode code 37 = .ok (.bipush 31, 2) := by decide +kernel
theorem dl_39 : decode code 39 = .ok (.iand, 1) := by decide +kernel
theorem dl_40 : decode code 40 = .ok (.tableswitch 1174 0 18 #[92, 196, 252, 265, 278, 334, 414, 506, 598, 678, 746, 802, 870, 938, 994, 1050, 1063, 1119, 1160], 92) := by decide +kernel
theorem dl_132 : decode code 132 = .ok (.aload_n 1, 1) := by decide +kernel
theorem dl_133 : decode code 133 = .ok (.aload_n 0, 1) := by decide +kernel
theorem dl_134 : decode code 134 = .ok (.iload 4, 2) := by decide +kernel
theorem dl_136 : decode code 136 = .ok (.iconst 1, 1) := by decide +kernel
theorem dl_137 : decode code 137 = .ok (.iadd, 1) := by decide +kernel
theorem dl_138 : decode code 138 = .ok (.iaload, 1) := by decide +kernel
theorem dl_139 : decode code 139 = .ok (.aload_n 0, 1) := by decide +kernel
theorem dl_140 : decode code 140 = .ok (.iload 4, 2) := by decide +kernel
theorem dl_142 : decode code 142 = .ok (.iconst 2, 1) := by decide +kernel
theorem dl_143 : decode code 143 = .ok (.iadd, 1) := by decide +kernel
theorem dl_144 : decode code 144 = .ok (.iaload, 1) := by decide +kernel
theorem dl_145 : decode code 145 = .ok (.aload_n 0, 1) := by decide +kernel
theorem dl_146 : decode code 146 = .ok (.iload 4, 2) := by decide +kernel
theorem dl_148 : decode code 148 = .ok (.iconst 3, 1) := by decide +kernel
theorem dl_149 : decode code 149 = .ok (.iadd, 1) := by decide +kernel
theorem dl_150 : decode code 150 = .ok (.iaload, 1) := by decide +kernel
theorem dl_151 : decode code 151 = .ok (.aload_n 0, 1) := by decide +kernel
theorem dl_152 : decode code 152 = .ok (.iload 4, 2) := by decide +kernel
theorem dl_154 : decode code 154 = .ok (.iconst 4, 1) := by decide +kernel
theorem dl_155 : decode code 155 = .ok (.iadd, 1) := by decide +kernel
theorem dl_156 : decode code 156 = .ok (.iaload, 1) := by decide +kernel
theorem dl_157 : decode code 157 = .ok (.aload_n 0, 1) := by decide +kernel
theorem dl_158 : decode code 158 = .ok (.iload 4, 2) := by decide +kernel
theorem dl_160 : decode code 160 = .ok (.iconst 5, 1) := by decide +kernel
theorem dl_161 : decode code 161 = .ok (.iadd, 1) := by decide +kernel
theorem dl_162 : decode code 162 = .ok (.iaload, 1) := by decide +kernel
theorem dl_163 : decode code 163 = .ok (.aload_n 3, 1) := by decide +kernel
theorem dl_164 : decode code 164 = .ok (.invokestatic 66, 3) := by decide +kernel
theorem dl_167 : decode code 167 = .ok (.istore 5, 2) := by decide +kernel
theorem dl_169 : decode code 169 = .ok (.aload_n 2, 1) := by decide +kernel
theorem dl_170 : decode code 170 = .ok (.aload_n 0, 1) := by decide +kernel
theorem dl_171 : decode code 171 = .ok (.iload 4, 2) := by decide +kernel
theorem dl_173 : decode code 173 = .ok (.iconst 1, 1) := by decide +kernel
theorem dl_174 : decode code 174 = .ok (.iadd, 1) := by decide +kernel
theorem dl_175 : decode code 175 = .ok (.iaload, 1) := by decide +kernel
theorem dl_176 : decode code 176 = .ok (.aload_n 0, 1) := by decide +kernel
theorem dl_177 : decode code 177 = .ok (.iload 4, 2) := by decide +kernel
theorem dl_179 : decode code 179 = .ok (.iconst 2, 1) := by decide +kernel
theorem dl_180 : decode code 180 = .ok (.iadd, 1) := by decide +kernel
theorem dl_181 : decode code 181 = .ok (.iaload, 1) := by decide +kernel
theorem dl_182 : decode code 182 = .ok (.aload_n 0, 1) := by decide +kernel
theorem dl_183 : decode code 183 = .ok (.iload 4, 2) := by decide +kernel
theorem dl_185 : decode code 185 = .ok (.iconst 3, 1) := by decide +kernel
theorem dl_186 : decode code 186 = .ok (.iadd, 1) := by decide +kernel
theorem dl_187 : decode code 187 = .ok (.iaload, 1) := by decide +kernel
theorem dl_188 : decode code 188 = .ok (.aload_n 0, 1) := by decide +kernel
theorem dl_189 : decode code 189 = .ok (.iload 4, 2) := by decide +kernel
theorem dl_191 : decode code 191 = .ok (.iconst 4, 1) := by decide +kernel
theorem dl_192 : decode code 192 = .ok (.iadd, 1) := by decide +kernel
theorem dl_193 : decode code 193 = .ok (.iaload, 1) := by decide +kernel
theorem dl_194 : decode code 194 = .ok (.aload_n 0, 1) := by decide +kernel
theorem dl_195 : decode code 195 = .ok (.iload 4, 2) := by decide +kernel
theorem dl_197 : decode code 197 = .ok (.iconst 5, 1) := by decide +kernel
theorem dl_198 : decode code 198 = .ok (.iadd, 1) := by decide +kernel
theorem dl_199 : decode code 199 = .ok (.iaload, 1) := by decide +kernel
theorem dl_200 : decode code 200 = .ok (.invokevirtual 71, 3) := by decide +kernel
theorem dl_203 : decode code 203 = .ok (.istore 6, 2) := by decide +kernel
theorem dl_205 : decode code 205 = .ok (.aload_n 2, 1) := by decide +kernel
theorem dl_206 : decode code 206 = .ok (.invokevirtual 72, 3) := by decide +kernel
theorem dl_209 : decode code 209 = .ok (.iload 5, 2) := by decide +kernel
theorem dl_211 : decode code 211 = .ok (.if_icmp .eq 5, 3) := by decide +kernel
theorem dl_216 : decode code 216 = .ok (.iload 5, 2) := by decide +kernel
theorem dl_218 : decode code 218 = .ok (.ifCond .ne 15, 3) := by decide +kernel
theorem dl_221 : decode code 221 = .ok (.aload_n 3, 1) := by decide +kernel
theorem dl_222 : decode code 222 = .ok (.iconst 0, 1) := by decide +kernel
theorem dl_223 : decode code 223 = .ok (.laload, 1) := by decide +kernel
theorem dl_224 : decode code 224 = .ok (.iload 6, 2) := by decide +kernel
theorem dl_226 : decode code 226 = .ok (.i2l, 1) := by decide +kernel
theorem dl_227 : decode code 227 = .ok (.lcmp, 1) := by decide +kernel
theorem dl_228 : decode code 228 = .ok (.ifCond .eq 5, 3) := by decide +kernel
theorem dl_233 : decode code 233 = .ok (.goto 981, 3) := by decide +kernel
theorem dl_236 : decode code 236 = .ok (.aload_n 1, 1) := by decide +kernel
theorem dl_237 : decode code 237 = .ok (.aload_n 0, 1) := by decide +kernel
theorem dl_238 : decode code 238 = .ok (.iload 4, 2) := by decide +kernel
theorem dl_240 : decode code 240 = .ok (.iconst 1, 1) := by decide +kernel
theorem dl_241 : decode code 241 = .ok (.iadd, 1) := by decide +kernel
theorem dl_242 : decode code 242 = .ok (.iaload, 1) := by decide +kernel
theorem dl_243 : decode code 243 = .ok (.aload_n 3, 1) := by decide +kernel
theorem dl_244 : decode code 244 = .ok (.invokestatic 76, 3) := by decide +kernel
theorem dl_247 : decode code 247 = .ok (.istore 5, 2) := by decide +kernel
theorem dl_249 : decode code 249 = .ok (.aload_n 2, 1) := by decide +kernel
theorem dl_250 : decode code 250 = .ok (.aload_n 0, 1) := by decide +kernel
theorem dl_251 : decode code 251 = .ok (.iload 4, 2) := by decide +kernel
theorem dl_253 : decode code 253 = .ok (.iconst 1, 1) := by decide +kernel
theorem dl_254 : decode code 254 = .ok (.iadd, 1) := by decide +kernel
theorem dl_255 : decode code 255 = .ok (.iaload, 1) := by decide +kernel
theorem dl_256 : decode code 256 = .ok (.invokevirtual 79, 3) := by decide +kernel
theorem dl_259 : decode code 259 = .ok (.istore 6, 2) := by decide +kernel
theorem dl_261 : decode code 261 = .ok (.aload_n 2, 1) := by decide +kernel
theorem dl_262 : decode code 262 = .ok (.invokevirtual 72, 3) := by decide +kernel
theorem dl_265 : decode code 265 = .ok (.iload 5, 2) := by decide +kernel
theorem dl_267 : decode code 267 = .ok (.if_icmp .eq 5, 3) := by decide +kernel
theorem dl_272 : decode code 272 = .ok (.iload 5, 2) := by decide +kernel
theorem dl_274 : decode code 274 = .ok (.ifCond .ne 15, 3) := by decide +kernel
theorem dl_277 : decode code 277 = .ok (.aload_n 3, 1) := by decide +kernel
theorem dl_278 : decode code 278 = .ok (.iconst 0, 1) := by decide +kernel
theorem dl_279 : decode code 279 = .ok (.laload, 1) := by decide +kernel
theorem dl_280 : decode code 280 = .ok (.iload 6, 2) := by decide +kernel
theorem dl_282 : decode code 282 = .ok (.i2l, 1) := by decide +kernel
theorem dl_283 : decode code 283 = .ok (.lcmp, 1) := by decide +kernel
theorem dl_284 : decode code 284 = .ok (.ifCond .eq 5, 3) := by decide +kernel
theorem dl_289 : decode code 289 = .ok (.goto 925, 3) := by decide +kernel
theorem dl_292 : decode code 292 = .ok (.aload_n 1, 1) := by decide +kernel
theorem dl_293 : decode code 293 = .ok (.invokevirtual 80, 3) := by decide +kernel
theorem dl_296 : decode code 296 = .ok (.aload_n 2, 1) := by decide +kernel
theorem dl_297 : decode code 297 = .ok (.invokevirtual 83, 3) := by decide +kernel
theorem dl_300 : decode code 300 = .ok (.if_icmp .eq 914, 3) := by decide +kernel
theorem dl_305 : decode code 305 = .ok (.aload_n 1, 1) := by decide +kernel
theorem dl_306 : decode code 306 = .ok (.invokevirtual 84, 3) := by decide +kernel
theorem dl_309 : decode code 309 = .ok (.aload_n 2, 1) := by decide +kernel
theorem dl_310 : decode code 310 = .ok (.invokevirtual 87, 3) := by decide +kernel
theorem dl_313 : decode code 313 = .ok (.if_icmp .eq 901, 3) := by decide +kernel
theorem dl_318 : decode code 318 = .ok (.aload_n 1, 1) := by decide +kernel
theorem dl_319 : decode code 319 = .ok (.aload_n 0, 1) := by decide +kernel
theorem dl_320 : decode code 320 = .ok (.iload 4, 2) := by decide +kernel
theorem dl_322 : decode code 322 = .ok (.iconst 1, 1) := by decide +kernel
theorem dl_323 : decode code 323 = .ok (.iadd, 1) := by decide +kernel
theorem dl_324 : decode code 324 = .ok (.iaload, 1) := by decide +kernel
theorem dl_325 : decode code 325 = .ok (.aload_n 3, 1) := by decide +kernel
theorem dl_326 : decode code 326 = .ok (.invokestatic 88, 3) := by decide +kernel
theorem dl_329 : decode code 329 = .ok (.istore 5, 2) := by decide +kernel
theorem dl_331 : decode code 331 = .ok (.aload_n 2, 1) := by decide +kernel
theorem dl_332 : decode code 332 = .ok (.aload_n 0, 1) := by decide +kernel
theorem dl_333 : decode code 333 = .ok (.iload 4, 2) := by decide +kernel
theorem dl_335 : decode code 335 = .ok (.iconst 1, 1) := by decide +kernel
theorem dl_336 : decode code 336 = .ok (.iadd, 1) := by decide +kernel
theorem dl_337 : decode code 337 = .ok (.iaload, 1) := by decide +kernel
theorem dl_338 : decode code 338 = .ok (.invokevirtual 90, 3) := by decide +kernel
theorem dl_341 : decode code 341 = .ok (.istore 6, 2) := by decide +kernel
theorem dl_343 : decode code 343 = .ok (.aload_n 2, 1) := by decide +kernel
theorem dl_344 : decode code 344 = .ok (.invokevirtual 72, 3) := by decide +kernel
theorem dl_347 : decode code 347 = .ok (.iload 5, 2) := by decide +kernel
theorem dl_349 : decode code 349 = .ok (.if_icmp .eq 5, 3) := by decide +kernel
theorem dl_354 : decode code 354 = .ok (.iload 5, 2) := by decide +kernel
theorem dl_356 : decode code 356 = .ok (.ifCond .ne 15, 3) := by decide +kernel
theorem dl_359 : decode code 359 = .ok (.aload_n 3, 1) := by decide +kernel
theorem dl_360 : decode code 360 = .ok (.iconst 0, 1) := by decide +kernel
theorem dl_361 : decode code 361 = .ok (.laload, 1) := by decide +kernel
theorem dl_362 : decode code 362 = .ok (.iload 6, 2) := by decide +kernel
theorem dl_364 : decode code 364 = .ok (.i2l, 1) := by decide +kernel
theorem dl_365 : decode code 365 = .ok (.lcmp, 1) := by decide +kernel
theorem dl_366 : decode code 366 = .ok (.ifCond .eq 5, 3) := by decide +kernel
theorem dl_371 : decode code 371 = .ok (.goto 843, 3) := by decide +kernel
theorem dl_374 : decode code 374 = .ok (.aload_n 1, 1) := by decide +kernel
theorem dl_375 : decode code 375 = .ok (.aload_n 0, 1) := by decide +kernel
theorem dl_376 : decode code 376 = .ok (.iload 4, 2) := by decide +kernel
theorem dl_378 : decode code 378 = .ok (.iconst 1, 1) := by decide +kernel
theorem dl_379 : decode code 379 = .ok (.iadd, 1) := by decide +kernel
theorem dl_380 : decode code 380 = .ok (.iaload, 1) := by decide +kernel
theorem dl_381 : decode code 381 = .ok (.aload_n 0, 1) := by decide +kernel
theorem dl_382 : decode code 382 = .ok (.iload 4, 2) := by decide +kernel
theorem dl_384 : decode code 384 = .ok (.iconst 2, 1) := by decide +kernel
theorem dl_385 : decode code 385 = .ok (.iadd, 1) := by decide +kernel
theorem dl_386 : decode code 386 = .ok (.iaload, 1) := by decide +kernel
theorem dl_387 : decode code 387 = .ok (.aload_n 0, 1) := by decide +kernel
theorem dl_388 : decode code 388 = .ok (.iload 4, 2) := by decide +kernel
theorem dl_390 : decode code 390 = .ok (.iconst 3, 1) := by decide +kernel
theorem dl_391 : decode code 391 = .ok (.iadd, 1) := by decide +kernel
theorem dl_392 : decode code 392 = .ok (.iaload, 1) := by decide +kernel
theorem dl_393 : decode code 393 = .ok (.aload_n 3, 1) := by decide +kernel
theorem dl_394 : decode code 394 = .ok (.invokestatic 91, 3) := by decide +kernel
theorem dl_397 : decode code 397 = .ok (.istore 5, 2) := by decide +kernel
theorem dl_399 : decode code 399 = .ok (.aload_n 2, 1) := by decide +kernel
theorem dl_400 : decode code 400 = .ok (.aload_n 0, 1) := by decide +kernel
theorem dl_401 : decode code 401 = .ok (.iload 4, 2) := by decide +kernel
theorem dl_403 : decode code 403 = .ok (.iconst 1, 1) := by decide +kernel
theorem dl_404 : decode code 404 = .ok (.iadd, 1) := by decide +kernel
theorem dl_405 : decode code 405 = .ok (.iaload, 1) := by decide +kernel
theorem dl_406 : decode code 406 = .ok (.aload_n 0, 1) := by decide +kernel
theorem dl_407 : decode code 407 = .ok (.iload 4, 2) := by decide +kernel
theorem dl_409 : decode code 409 = .ok (.iconst 2, 1) := by decide +kernel
theorem dl_410 : decode code 410 = .ok (.iadd, 1) := by decide +kernel
theorem dl_411 : decode code 411 = .ok (.iaload, 1) := by decide +kernel
theorem dl_412 : decode code 412 = .ok (.aload_n 0, 1) := by decide +kernel
theorem dl_413 : decode code 413 = .ok (.iload 4, 2) := by decide +kernel
theorem dl_415 : decode code 415 = .ok (.iconst 3, 1) := by decide +kernel
theorem dl_416 : decode code 416 = .ok (.iadd, 1) := by decide +kernel
theorem dl_417 : decode code 417 = .ok (.iaload, 1) := by decide +kernel
theorem dl_418 : decode code 418 = .ok (.invokevirtual 94, 3) := by decide +kernel
theorem dl_421 : decode code 421 = .ok (.istore 6, 2) := by decide +kernel
theorem dl_423 : decode code 423 = .ok (.aload_n 2, 1) := by decide +kernel
theorem dl_424 : decode code 424 = .ok (.invokevirtual 72, 3) := by decide +kernel
theorem dl_427 : decode code 427 = .ok (.iload 5, 2) := by decide +kernel
theorem dl_429 : decode code 429 = .ok (.if_icmp .eq 5, 3) := by decide +kernel
theorem dl_434 : decode code 434 = .ok (.iload 5, 2) := by decide +kernel
theorem dl_436 : decode code 436 = .ok (.ifCond .ne 15, 3) := by decide +kernel
theorem dl_439 : decode code 439 = .ok (.aload_n 3, 1) := by decide +kernel
theorem dl_440 : decode code 440 = .ok (.iconst 0, 1) := by decide +kernel
theorem dl_441 : decode code 441 = .ok (.laload, 1) := by decide +kernel
theorem dl_442 : decode code 442 = .ok (.iload 6, 2) := by decide +kernel
theorem dl_444 : decode code 444 = .ok (.i2l, 1) := by decide +kernel
theorem dl_445 : decode code 445 = .ok (.lcmp, 1) := by decide +kernel
theorem dl_446 : decode code 446 = .ok (.ifCond .eq 5, 3) := by decide +kernel
theorem dl_451 : decode code 451 = .ok (.goto 763, 3) := by decide +kernel
theorem dl_454 : decode code 454 = .ok (.aload_n 1, 1) := by decide +kernel
theorem dl_455 : decode code 455 = .ok (.aload_n 0, 1) := by decide +kernel
theorem dl_456 : decode code 456 = .ok (.iload 4, 2) := by decide +kernel
theorem dl_458 : decode code 458 = .ok (.iconst 1, 1) := by decide +kernel
theorem dl_459 : decode code 459 = .ok (.iadd, 1) := by decide +kernel
theorem dl_460 : decode code 460 = .ok (.iaload, 1) := by decide +kernel
theorem dl_461 : decode code 461 = .ok (.aload_n 0, 1) := by decide +kernel
theorem dl_462 : decode code 462 = .ok (.iload 4, 2) := by decide +kernel
theorem dl_464 : decode code 464 = .ok (.iconst 2, 1) := by decide +kernel
theorem dl_465 : decode code 465 = .ok (.iadd, 1) := by decide +kernel
theorem dl_466 : decode code 466 = .ok (.iaload, 1) := by decide +kernel
theorem dl_467 : decode code 467 = .ok (.aload_n 0, 1) := by decide +kernel
theorem dl_468 : decode code 468 = .ok (.iload 4, 2) := by decide +kernel
theorem dl_470 : decode code 470 = .ok (.iconst 3, 1) := by decide +kernel
theorem dl_471 : decode code 471 = .ok (.iadd, 1) := by decide +kernel
theorem dl_472 : decode code 472 = .ok (.iaload, 1) := by decide +kernel
theorem dl_473 : decode code 473 = .ok (.aload_n 0, 1) := by decide +kernel
theorem dl_474 : decode code 474 = .ok (.iload 4, 2) := by decide +kernel
theorem dl_476 : decode code 476 = .ok (.iconst 4, 1) := by decide +kernel
theorem dl_477 : decode code 477 = .ok (.iadd, 1) := by decide +kernel
theorem dl_478 : decode code 478 = .ok (.iaload, 1) := by decide +kernel
theorem dl_479 : decode code 479 = .ok (.aload_n 3, 1) := by decide +kernel
theorem dl_480 : decode code 480 = .ok (.invokestatic 95, 3) := by decide +kernel
theorem dl_483 : decode code 483 = .ok (.istore 5, 2) := by decide +kernel
theorem dl_485 : decode code 485 = .ok (.aload_n 2, 1) := by decide +kernel
theorem dl_486 : decode code 486 = .ok (.aload_n 0, 1) := by decide +kernel
theorem dl_487 : decode code 487 = .ok (.iload 4, 2) := by decide +kernel
theorem dl_489 : decode code 489 = .ok (.iconst 1, 1) := by decide +kernel
theorem dl_490 : decode code 490 = .ok (.iadd, 1) := by decide +kernel
theorem dl_491 : decode code 491 = .ok (.iaload, 1) := by decide +kernel
theorem dl_492 : decode code 492 = .ok (.aload_n 0, 1) := by decide +kernel
theorem dl_493 : decode code 493 = .ok (.iload 4, 2) := by decide +kernel
theorem dl_495 : decode code 495 = .ok (.iconst 2, 1) := by decide +kernel
theorem dl_496 : decode code 496 = .ok (.iadd, 1) := by decide +kernel
theorem dl_497 : decode code 497 = .ok (.iaload, 1) := by decide +kernel
theorem dl_498 : decode code 498 = .ok (.aload_n 0, 1) := by decide +kernel
theorem dl_499 : decode code 499 = .ok (.iload 4, 2) := by decide +kernel
theorem dl_501 : decode code 501 = .ok (.iconst 3, 1) := by decide +kernel
theorem dl_502 : decode code 502 = .ok (.iadd, 1) := by decide +kernel
theorem dl_503 : decode code 503 = .ok (.iaload, 1) := by decide +kernel
theorem dl_504 : decode code 504 = .ok (.aload_n 0, 1) := by decide +kernel
theorem dl_505 : decode code 505 = .ok (.iload 4, 2) := by decide +kernel
theorem dl_507 : decode code 507 = .ok (.iconst 4, 1) := by decide +kernel
theorem dl_508 : decode code 508 = .ok (.iadd, 1) := by decide +kernel
theorem dl_509 : decode code 509 = .ok (.iaload, 1) := by decide +kernel
theorem dl_510 : decode code 510 = .ok (.invokevirtual 98, 3) := by decide +kernel
theorem dl_513 : decode code 513 = .ok (.istore 6, 2) := by decide +kernel
theorem dl_515 : decode code 515 = .ok (.aload_n 2, 1) := by decide +kernel
theorem dl_516 : decode code 516 = .ok (.invokevirtual 72, 3) := by decide +kernel
theorem dl_519 : decode code 519 = .ok (.iload 5, 2) := by decide +kernel
theorem dl_521 : decode code 521 = .ok (.if_icmp .eq 5, 3) := by decide +kernel
theorem dl_526 : decode code 526 = .ok (.iload 5, 2) := by decide +kernel
theorem dl_528 : decode code 528 = .ok (.ifCond .ne 15, 3) := by decide +kernel
theorem dl_531 : decode code 531 = .ok (.aload_n 3, 1) := by decide +kernel
theorem dl_532 : decode code 532 = .ok (.iconst 0, 1) := by decide +kernel
theorem dl_533 : decode code 533 = .ok (.laload, 1) := by decide +kernel
theorem dl_534 : decode code 534 = .ok (.iload 6, 2) := by decide +kernel
theorem dl_536 : decode code 536 = .ok (.i2l, 1) := by decide +kernel
theorem dl_537 : decode code 537 = .ok (.lcmp, 1) := by decide +kernel
theorem dl_538 : decode code 538 = .ok (.ifCond .eq 5, 3) := by decide +kernel
theorem dl_543 : decode code 543 = .ok (.goto 671, 3) := by decide +kernel
theorem dl_546 : decode code 546 = .ok (.aload_n 1, 1) := by decide +kernel
theorem dl_547 : decode code 547 = .ok (.aload_n 0, 1) := by decide +kernel
theorem dl_548 : decode code 548 = .ok (.iload 4, 2) := by decide +kernel
theorem dl_550 : decode code 550 = .ok (.iconst 1, 1) := by decide +kernel
theorem dl_551 : decode code 551 = .ok (.iadd, 1) := by decide +kernel
theorem dl_552 : decode code 552 = .ok (.iaload, 1) := by decide +kernel
theorem dl_553 : decode code 553 = .ok (.aload_n 0, 1) := by decide +kernel
theorem dl_554 : decode code 554 = .ok (.iload 4, 2) := by decide +kernel
theorem dl_556 : decode code 556 = .ok (.iconst 2, 1) := by decide +kernel
theorem dl_557 : decode code 557 = .ok (.iadd, 1) := by decide +kernel
theorem dl_558 : decode code 558 = .ok (.iaload, 1) := by decide +kernel
theorem dl_559 : decode code 559 = .ok (.aload_n 0, 1) := by decide +kernel
theorem dl_560 : decode code 560 = .ok (.iload 4, 2) := by decide +kernel
theorem dl_562 : decode code 562 = .ok (.iconst 3, 1) := by decide +kernel
theorem dl_563 : decode code 563 = .ok (.iadd, 1) := by decide +kernel
theorem dl_564 : decode code 564 = .ok (.iaload, 1) := by decide +kernel
theorem dl_565 : decode code 565 = .ok (.aload_n 0, 1) := by decide +kernel
theorem dl_566 : decode code 566 = .ok (.iload 4, 2) := by decide +kernel
theorem dl_568 : decode code 568 = .ok (.iconst 4, 1) := by decide +kernel
theorem dl_569 : decode code 569 = .ok (.iadd, 1) := by decide +kernel
theorem dl_570 : decode code 570 = .ok (.iaload, 1) := by decide +kernel
theorem dl_571 : decode code 571 = .ok (.aload_n 3, 1) := by decide +kernel
theorem dl_572 : decode code 572 = .ok (.invokestatic 99, 3) := by decide +kernel
theorem dl_575 : decode code 575 = .ok (.istore 5, 2) := by decide +kernel
theorem dl_577 : decode code 577 = .ok (.aload_n 2, 1) := by decide +kernel
theorem dl_578 : decode code 578 = .ok (.aload_n 0, 1) := by decide +kernel
theorem dl_579 : decode code 579 = .ok (.iload 4, 2) := by decide +kernel
theorem dl_581 : decode code 581 = .ok (.iconst 1, 1) := by decide +kernel
theorem dl_582 : decode code 582 = .ok (.iadd, 1) := by decide +kernel
theorem dl_583 : decode code 583 = .ok (.iaload, 1) := by decide +kernel
theorem dl_584 : decode code 584 = .ok (.aload_n 0, 1) := by decide +kernel
theorem dl_585 : decode code 585 = .ok (.iload 4, 2) := by decide +kernel
theorem dl_587 : decode code 587 = .ok (.iconst 2, 1) := by decide +kernel
theorem dl_588 : decode code 588 = .ok (.iadd, 1) := by decide +kernel
theorem dl_589 : decode code 589 = .ok (.iaload, 1) := by decide +kernel
theorem dl_590 : decode code 590 = .ok (.aload_n 0, 1) := by decide +kernel
theorem dl_591 : decode code 591 = .ok (.iload 4, 2) := by decide +kernel
theorem dl_593 : decode code 593 = .ok (.iconst 3, 1) := by decide +kernel
theorem dl_594 : decode code 594 = .ok (.iadd, 1) := by decide +kernel
theorem dl_595 : decode code 595 = .ok (.iaload, 1) := by decide +kernel
theorem dl_596 : decode code 596 = .ok (.aload_n 0, 1) := by decide +kernel
theorem dl_597 : decode code 597 = .ok (.iload 4, 2) := by decide +kernel
theorem dl_599 : decode code 599 = .ok (.iconst 4, 1) := by decide +kernel
theorem dl_600 : decode code 600 = .ok (.iadd, 1) := by decide +kernel
theorem dl_601 : decode code 601 = .ok (.iaload, 1) := by decide +kernel
theorem dl_602 : decode code 602 = .ok (.invokevirtual 101, 3) := by decide +kernel
theorem dl_605 : decode code 605 = .ok (.istore 6, 2) := by decide +kernel
theorem dl_607 : decode code 607 = .ok (.aload_n 2, 1) := by decide +kernel
theorem dl_608 : decode code 608 = .ok (.invokevirtual 72, 3) := by decide +kernel
theorem dl_611 : decode code 611 = .ok (.iload 5, 2) := by decide +kernel
theorem dl_613 : decode code 613 = .ok (.if_icmp .eq 5, 3) := by decide +kernel
theorem dl_618 : decode code 618 = .ok (.iload 5, 2) := by decide +kernel
theorem dl_620 : decode code 620 = .ok (.ifCond .ne 15, 3) := by decide +kernel
theorem dl_623 : decode code 623 = .ok (.aload_n 3, 1) := by decide +kernel
theorem dl_624 : decode code 624 = .ok (.iconst 0, 1) := by decide +kernel
theorem dl_625 : decode code 625 = .ok (.laload, 1) := by decide +kernel
theorem dl_626 : decode code 626 = .ok (.iload 6, 2) := by decide +kernel
theorem dl_628 : decode code 628 = .ok (.i2l, 1) := by decide +kernel
theorem dl_629 : decode code 629 = .ok (.lcmp, 1) := by decide +kernel
theorem dl_630 : decode code 630 = .ok (.ifCond .eq 5, 3) := by decide +kernel
theorem dl_635 : decode code 635 = .ok (.goto 579, 3) := by decide +kernel
theorem dl_638 : decode code 638 = .ok (.aload_n 1, 1) := by decide +kernel
theorem dl_639 : decode code 639 = .ok (.aload_n 0, 1) := by decide +kernel
theorem dl_640 : decode code 640 = .ok (.iload 4, 2) := by decide +kernel
theorem dl_642 : decode code 642 = .ok (.iconst 1, 1) := by decide +kernel
theorem dl_643 : decode code 643 = .ok (.iadd, 1) := by decide +kernel
theorem dl_644 : decode code 644 = .ok (.iaload, 1) := by decide +kernel
theorem dl_645 : decode code 645 = .ok (.aload_n 0, 1) := by decide +kernel
theorem dl_646 : decode code 646 = .ok (.iload 4, 2) := by decide +kernel
theorem dl_648 : decode code 648 = .ok (.iconst 2, 1) := by decide +kernel
theorem dl_649 : decode code 649 = .ok (.iadd, 1) := by decide +kernel
theorem dl_650 : decode code 650 = .ok (.iaload, 1) := by decide +kernel
theorem dl_651 : decode code 651 = .ok (.aload_n 0, 1) := by decide +kernel
theorem dl_652 : decode code 652 = .ok (.iload 4, 2) := by decide +kernel
theorem dl_654 : decode code 654 = .ok (.iconst 3, 1) := by decide +kernel
theorem dl_655 : decode code 655 = .ok (.iadd, 1) := by decide +kernel
theorem dl_656 : decode code 656 = .ok (.iaload, 1) := by decide +kernel
theorem dl_657 : decode code 657 = .ok (.aload_n 3, 1) := by decide +kernel
theorem dl_658 : decode code 658 = .ok (.invokestatic 102, 3) := by decide +kernel
theorem dl_661 : decode code 661 = .ok (.istore 5, 2) := by decide +kernel
theorem dl_663 : decode code 663 = .ok (.aload_n 2, 1) := by decide +kernel
theorem dl_664 : decode code 664 = .ok (.aload_n 0, 1) := by decide +kernel
theorem dl_665 : decode code 665 = .ok (.iload 4, 2) := by decide +kernel
theorem dl_667 : decode code 667 = .ok (.iconst 1, 1) := by decide +kernel
theorem dl_668 : decode code 668 = .ok (.iadd, 1) := by decide +kernel
theorem dl_669 : decode code 669 = .ok (.iaload, 1) := by decide +kernel
theorem dl_670 : decode code 670 = .ok (.aload_n 0, 1) := by decide +kernel
theorem dl_671 : decode code 671 = .ok (.iload 4, 2) := by decide +kernel
theorem dl_673 : decode code 673 = .ok (.iconst 2, 1) := by decide +kernel
theorem dl_674 : decode code 674 = .ok (.iadd, 1) := by decide +kernel
theorem dl_675 : decode code 675 = .ok (.iaload, 1) := by decide +kernel
theorem dl_676 : decode code 676 = .ok (.aload_n 0, 1) := by decide +kernel
theorem dl_677 : decode code 677 = .ok (.iload 4, 2) := by decide +kernel
theorem dl_679 : decode code 679 = .ok (.iconst 3, 1) := by decide +kernel
theorem dl_680 : decode code 680 = .ok (.iadd, 1) := by decide +kernel
theorem dl_681 : decode code 681 = .ok (.iaload, 1) := by decide +kernel
theorem dl_682 : decode code 682 = .ok (.invokevirtual 104, 3) := by decide +kernel
theorem dl_685 : decode code 685 = .ok (.istore 6, 2) := by decide +kernel
theorem dl_687 : decode code 687 = .ok (.aload_n 2, 1) := by decide +kernel
theorem dl_688 : decode code 688 = .ok (.invokevirtual 72, 3) := by decide +kernel
theorem dl_691 : decode code 691 = .ok (.iload 5, 2) := by decide +kernel
theorem dl_693 : decode code 693 = .ok (.if_icmp .eq 5, 3) := by decide +kernel
theorem dl_698 : decode code 698 = .ok (.iload 5, 2) := by decide +kernel
theorem dl_700 : decode code 700 = .ok (.ifCond .ne 15, 3) := by decide +kernel
theorem dl_703 : decode code 703 = .ok (.aload_n 3, 1) := by decide +kernel
theorem dl_704 : decode code 704 = .ok (.iconst 0, 1) := by decide +kernel
theorem dl_705 : decode code 705 = .ok (.laload, 1) := by decide +kernel
theorem dl_706 : decode code 706 = .ok (.iload 6, 2) := by decide +kernel
theorem dl_708 : decode code 708 = .ok (.i2l, 1) := by decide +kernel
theorem dl_709 : decode code 709 = .ok (.lcmp, 1) := by decide +kernel
theorem dl_710 : decode code 710 = .ok (.ifCond .eq 5, 3) := by decide +kernel
theorem dl_715 : decode code 715 = .ok (.goto 499, 3) := by decide +kernel
theorem dl_718 : decode code 718 = .ok (.aload_n 1, 1) := by decide +kernel
theorem dl_719 : decode code 719 = .ok (.aload_n 0, 1) := by decide +kernel
theorem dl_720 : decode code 720 = .ok (.iload 4, 2) := by decide +kernel
theorem dl_722 : decode code 722 = .ok (.iconst 1, 1) := by decide +kernel
theorem dl_723 : decode code 723 = .ok (.iadd, 1) := by decide +kernel
theorem dl_724 : decode code 724 = .ok (.iaload, 1) := by decide +kernel
theorem dl_725 : decode code 725 = .ok (.aload_n 0, 1) := by decide +kernel
theorem dl_726 : decode code 726 = .ok (.iload 4, 2) := by decide +kernel
theorem dl_728 : decode code 728 = .ok (.iconst 2, 1) := by decide +kernel
theorem dl_729 : decode code 729 = .ok (.iadd, 1) := by decide +kernel
theorem dl_730 : decode code 730 = .ok (.iaload, 1) := by decide +kernel
theorem dl_731 : decode code 731 = .ok (.aload_n 3, 1) := by decide +kernel
theorem dl_732 : decode code 732 = .ok (.invokestatic 105, 3) := by decide +kernel
theorem dl_735 : decode code 735 = .ok (.istore 5, 2) := by decide +kernel
theorem dl_737 : decode code 737 = .ok (.aload_n 2, 1) := by decide +kernel
theorem dl_738 : decode code 738 = .ok (.aload_n 0, 1) := by decide +kernel
theorem dl_739 : decode code 739 = .ok (.iload 4, 2) := by decide +kernel
theorem dl_741 : decode code 741 = .ok (.iconst 1, 1) := by decide +kernel
theorem dl_742 : decode code 742 = .ok (.iadd, 1) := by decide +kernel
theorem dl_743 : decode code 743 = .ok (.iaload, 1) := by decide +kernel
theorem dl_744 : decode code 744 = .ok (.aload_n 0, 1) := by decide +kernel
theorem dl_745 : decode code 745 = .ok (.iload 4, 2) := by decide +kernel
theorem dl_747 : decode code 747 = .ok (.iconst 2, 1) := by decide +kernel
theorem dl_748 : decode code 748 = .ok (.iadd, 1) := by decide +kernel
theorem dl_749 : decode code 749 = .ok (.iaload, 1) := by decide +kernel
theorem dl_750 : decode code 750 = .ok (.invokevirtual 108, 3) := by decide +kernel
theorem dl_753 : decode code 753 = .ok (.istore 6, 2) := by decide +kernel
theorem dl_755 : decode code 755 = .ok (.aload_n 2, 1) := by decide +kernel
theorem dl_756 : decode code 756 = .ok (.invokevirtual 72, 3) := by decide +kernel
theorem dl_759 : decode code 759 = .ok (.iload 5, 2) := by decide +kernel
theorem dl_761 : decode code 761 = .ok (.if_icmp .eq 5, 3) := by decide +kernel
theorem dl_766 : decode code 766 = .ok (.iload 5, 2) := by decide +kernel
theorem dl_768 : decode code 768 = .ok (.ifCond .ne 15, 3) := by decide +kernel
theorem dl_771 : decode code 771 = .ok (.aload_n 3, 1) := by decide +kernel
theorem dl_772 : decode code 772 = .ok (.iconst 0, 1) := by decide +kernel
theorem dl_773 : decode code 773 = .ok (.laload, 1) := by decide +kernel
theorem dl_774 : decode code 774 = .ok (.iload 6, 2) := by decide +kernel
theorem dl_776 : decode code 776 = .ok (.i2l, 1) := by decide +kernel
theorem dl_777 : decode code 777 = .ok (.lcmp, 1) := by decide +kernel
theorem dl_778 : decode code 778 = .ok (.ifCond .eq 5, 3) := by decide +kernel
theorem dl_783 : decode code 783 = .ok (.goto 431, 3) := by decide +kernel
theorem dl_786 : decode code 786 = .ok (.aload_n 1, 1) := by decide +kernel
theorem dl_787 : decode code 787 = .ok (.aload_n 0, 1) := by decide +kernel
theorem dl_788 : decode code 788 = .ok (.iload 4, 2) := by decide +kernel
theorem dl_790 : decode code 790 = .ok (.iconst 1, 1) := by decide +kernel
theorem dl_791 : decode code 791 = .ok (.iadd, 1) := by decide +kernel
theorem dl_792 : decode code 792 = .ok (.iaload, 1) := by decide +kernel
theorem dl_793 : decode code 793 = .ok (.aload_n 3, 1) := by decide +kernel
theorem dl_794 : decode code 794 = .ok (.invokestatic 109, 3) := by decide +kernel
theorem dl_797 : decode code 797 = .ok (.istore 5, 2) := by decide +kernel
theorem dl_799 : decode code 799 = .ok (.aload_n 2, 1) := by decide +kernel
theorem dl_800 : decode code 800 = .ok (.aload_n 0, 1) := by decide +kernel
theorem dl_801 : decode code 801 = .ok (.iload 4, 2) := by decide +kernel
theorem dl_803 : decode code 803 = .ok (.iconst 1, 1) := by decide +kernel
theorem dl_804 : decode code 804 = .ok (.iadd, 1) := by decide +kernel
theorem dl_805 : decode code 805 = .ok (.iaload, 1) := by decide +kernel
theorem dl_806 : decode code 806 = .ok (.invokevirtual 111, 3) := by decide +kernel
theorem dl_809 : decode code 809 = .ok (.istore 6, 2) := by decide +kernel
theorem dl_811 : decode code 811 = .ok (.aload_n 2, 1) := by decide +kernel
theorem dl_812 : decode code 812 = .ok (.invokevirtual 72, 3) := by decide +kernel
theorem dl_815 : decode code 815 = .ok (.iload 5, 2) := by decide +kernel
theorem dl_817 : decode code 817 = .ok (.if_icmp .eq 5, 3) := by decide +kernel
theorem dl_822 : decode code 822 = .ok (.iload 5, 2) := by decide +kernel
theorem dl_824 : decode code 824 = .ok (.ifCond .ne 15, 3) := by decide +kernel
theorem dl_827 : decode code 827 = .ok (.aload_n 3, 1) := by decide +kernel
theorem dl_828 : decode code 828 = .ok (.iconst 0, 1) := by decide +kernel
theorem dl_829 : decode code 829 = .ok (.laload, 1) := by decide +kernel
theorem dl_830 : decode code 830 = .ok (.iload 6, 2) := by decide +kernel
theorem dl_832 : decode code 832 = .ok (.i2l, 1) := by decide +kernel
theorem dl_833 : decode code 833 = .ok (.lcmp, 1) := by decide +kernel
theorem dl_834 : decode code 834 = .ok (.ifCond .eq 5, 3) := by decide +kernel
theorem dl_839 : decode code 839 = .ok (.goto 375, 3) := by decide +kernel
theorem dl_842 : decode code 842 = .ok (.aload_n 1, 1) := by decide +kernel
theorem dl_843 : decode code 843 = .ok (.aload_n 0, 1) := by decide +kernel
theorem dl_844 : decode code 844 = .ok (.iload 4, 2) := by decide +kernel
theorem dl_846 : decode code 846 = .ok (.iconst 1, 1) := by decide +kernel
theorem dl_847 : decode code 847 = .ok (.iadd, 1) := by decide +kernel
theorem dl_848 : decode code 848 = .ok (.iaload, 1) := by decide +kernel
theorem dl_849 : decode code 849 = .ok (.aload_n 0, 1) := by decide +kernel
theorem dl_850 : decode code 850 = .ok (.iload 4, 2) := by decide +kernel
theorem dl_852 : decode code 852 = .ok (.iconst 2, 1) := by decide +kernel
theorem dl_853 : decode code 853 = .ok (.iadd, 1) := by decide +kernel
theorem dl_854 : decode code 854 = .ok (.iaload, 1) := by decide +kernel
theorem dl_855 : decode code 855 = .ok (.aload_n 3, 1) := by decide +kernel
theorem dl_856 : decode code 856 = .ok (.invokestatic 112, 3) := by decide +kernel
theorem dl_859 : decode code 859 = .ok (.istore 5, 2) := by decide +kernel
theorem dl_861 : decode code 861 = .ok (.aload_n 2, 1) := by decide +kernel
theorem dl_862 : decode code 862 = .ok (.aload_n 0, 1) := by decide +kernel
theorem dl_863 : decode code 863 = .ok (.iload 4, 2) := by decide +kernel
theorem dl_865 : decode code 865 = .ok (.iconst 1, 1) := by decide +kernel
theorem dl_866 : decode code 866 = .ok (.iadd, 1) := by decide +kernel
theorem dl_867 : decode code 867 = .ok (.iaload, 1) := by decide +kernel
theorem dl_868 : decode code 868 = .ok (.aload_n 0, 1) := by decide +kernel
theorem dl_869 : decode code 869 = .ok (.iload 4, 2) := by decide +kernel
theorem dl_871 : decode code 871 = .ok (.iconst 2, 1) := by decide +kernel
theorem dl_872 : decode code 872 = .ok (.iadd, 1) := by decide +kernel
theorem dl_873 : decode code 873 = .ok (.iaload, 1) := by decide +kernel
theorem dl_874 : decode code 874 = .ok (.invokevirtual 114, 3) := by decide +kernel
theorem dl_877 : decode code 877 = .ok (.istore 6, 2) := by decide +kernel
theorem dl_879 : decode code 879 = .ok (.aload_n 2, 1) := by decide +kernel
theorem dl_880 : decode code 880 = .ok (.invokevirtual 72, 3) := by decide +kernel
theorem dl_883 : decode code 883 = .ok (.iload 5, 2) := by decide +kernel
theorem dl_885 : decode code 885 = .ok (.if_icmp .eq 5, 3) := by decide +kernel
theorem dl_890 : decode code 890 = .ok (.iload 5, 2) := by decide +kernel
theorem dl_892 : decode code 892 = .ok (.ifCond .ne 15, 3) := by decide +kernel
theorem dl_895 : decode code 895 = .ok (.aload_n 3, 1) := by decide +kernel
theorem dl_896 : decode code 896 = .ok (.iconst 0, 1) := by decide +kernel
theorem dl_897 : decode code 897 = .ok (.laload, 1) := by decide +kernel
theorem dl_898 : decode code 898 = .ok (.iload 6, 2) := by decide +kernel
theorem dl_900 : decode code 900 = .ok (.i2l, 1) := by decide +kernel
theorem dl_901 : decode code 901 = .ok (.lcmp, 1) := by decide +kernel
theorem dl_902 : decode code 902 = .ok (.ifCond .eq 5, 3) := by decide +kernel
theorem dl_907 : decode code 907 = .ok (.goto 307, 3) := by decide +kernel
theorem dl_910 : decode code 910 = .ok (.aload_n 1, 1) := by decide +kernel
theorem dl_911 : decode code 911 = .ok (.aload_n 0, 1) := by decide +kernel
theorem dl_912 : decode code 912 = .ok (.iload 4, 2) := by decide +kernel
theorem dl_914 : decode code 914 = .ok (.iconst 1, 1) := by decide +kernel
theorem dl_915 : decode code 915 = .ok (.iadd, 1) := by decide +kernel
theorem dl_916 : decode code 916 = .ok (.iaload, 1) := by decide +kernel
theorem dl_917 : decode code 917 = .ok (.aload_n 0, 1) := by decide +kernel
theorem dl_918 : decode code 918 = .ok (.iload 4, 2) := by decide +kernel
theorem dl_920 : decode code 920 = .ok (.iconst 2, 1) := by decide +kernel
theorem dl_921 : decode code 921 = .ok (.iadd, 1) := by decide +kernel
theorem dl_922 : decode code 922 = .ok (.iaload, 1) := by decide +kernel
theorem dl_923 : decode code 923 = .ok (.aload_n 3, 1) := by decide +kernel
theorem dl_924 : decode code 924 = .ok (.invokestatic 115, 3) := by decide +kernel
theorem dl_927 : decode code 927 = .ok (.istore 5, 2) := by decide +kernel
theorem dl_929 : decode code 929 = .ok (.aload_n 2, 1) := by decide +kernel
theorem dl_930 : decode code 930 = .ok (.aload_n 0, 1) := by decide +kernel
theorem dl_931 : decode code 931 = .ok (.iload 4, 2) := by decide +kernel
theorem dl_933 : decode code 933 = .ok (.iconst 1, 1) := by decide +kernel
theorem dl_934 : decode code 934 = .ok (.iadd, 1) := by decide +kernel
theorem dl_935 : decode code 935 = .ok (.iaload, 1) := by decide +kernel
theorem dl_936 : decode code 936 = .ok (.aload_n 0, 1) := by decide +kernel
theorem dl_937 : decode code 937 = .ok (.iload 4, 2) := by decide +kernel
theorem dl_939 : decode code 939 = .ok (.iconst 2, 1) := by decide +kernel
theorem dl_940 : decode code 940 = .ok (.iadd, 1) := by decide +kernel
theorem dl_941 : decode code 941 = .ok (.iaload, 1) := by decide +kernel
theorem dl_942 : decode code 942 = .ok (.invokevirtual 117, 3) := by decide +kernel
theorem dl_945 : decode code 945 = .ok (.istore 6, 2) := by decide +kernel
theorem dl_947 : decode code 947 = .ok (.aload_n 2, 1) := by decide +kernel
theorem dl_948 : decode code 948 = .ok (.invokevirtual 72, 3) := by decide +kernel
theorem dl_951 : decode code 951 = .ok (.iload 5, 2) := by decide +kernel
theorem dl_953 : decode code 953 = .ok (.if_icmp .eq 5, 3) := by decide +kernel
theorem dl_958 : decode code 958 = .ok (.iload 5, 2) := by decide +kernel
theorem dl_960 : decode code 960 = .ok (.ifCond .ne 15, 3) := by decide +kernel
theorem dl_963 : decode code 963 = .ok (.aload_n 3, 1) := by decide +kernel
theorem dl_964 : decode code 964 = .ok (.iconst 0, 1) := by decide +kernel
theorem dl_965 : decode code 965 = .ok (.laload, 1) := by decide +kernel
theorem dl_966 : decode code 966 = .ok (.iload 6, 2) := by decide +kernel
theorem dl_968 : decode code 968 = .ok (.i2l, 1) := by decide +kernel
theorem dl_969 : decode code 969 = .ok (.lcmp, 1) := by decide +kernel
theorem dl_970 : decode code 970 = .ok (.ifCond .eq 5, 3) := by decide +kernel
theorem dl_975 : decode code 975 = .ok (.goto 239, 3) := by decide +kernel
theorem dl_978 : decode code 978 = .ok (.aload_n 1, 1) := by decide +kernel
theorem dl_979 : decode code 979 = .ok (.aload_n 0, 1) := by decide +kernel
theorem dl_980 : decode code 980 = .ok (.iload 4, 2) := by decide +kernel
theorem dl_982 : decode code 982 = .ok (.iconst 1, 1) := by decide +kernel
theorem dl_983 : decode code 983 = .ok (.iadd, 1) := by decide +kernel
theorem dl_984 : decode code 984 = .ok (.iaload, 1) := by decide +kernel
theorem dl_985 : decode code 985 = .ok (.aload_n 3, 1) := by decide +kernel
theorem dl_986 : decode code 986 = .ok (.invokestatic 118, 3) := by decide +kernel
theorem dl_989 : decode code 989 = .ok (.istore 5, 2) := by decide +kernel
theorem dl_991 : decode code 991 = .ok (.aload_n 2, 1) := by decide +kernel
theorem dl_992 : decode code 992 = .ok (.aload_n 0, 1) := by decide +kernel
theorem dl_993 : decode code 993 = .ok (.iload 4, 2) := by decide +kernel
theorem dl_995 : decode code 995 = .ok (.iconst 1, 1) := by decide +kernel
theorem dl_996 : decode code 996 = .ok (.iadd, 1) := by decide +kernel
theorem dl_997 : decode code 997 = .ok (.iaload, 1) := by decide +kernel
theorem dl_998 : decode code 998 = .ok (.invokevirtual 120, 3) := by decide +kernel
theorem dl_1001 : decode code 1001 = .ok (.istore 6, 2) := by decide +kernel
theorem dl_1003 : decode code 1003 = .ok (.aload_n 2, 1) := by decide +kernel
theorem dl_1004 : decode code 1004 = .ok (.invokevirtual 72, 3) := by decide +kernel
theorem dl_1007 : decode code 1007 = .ok (.iload 5, 2) := by decide +kernel
theorem dl_1009 : decode code 1009 = .ok (.if_icmp .eq 5, 3) := by decide +kernel
theorem dl_1014 : decode code 1014 = .ok (.iload 5, 2) := by decide +kernel
theorem dl_1016 : decode code 1016 = .ok (.ifCond .ne 15, 3) := by decide +kernel
theorem dl_1019 : decode code 1019 = .ok (.aload_n 3, 1) := by decide +kernel
theorem dl_1020 : decode code 1020 = .ok (.iconst 0, 1) := by decide +kernel
theorem dl_1021 : decode code 1021 = .ok (.laload, 1) := by decide +kernel
theorem dl_1022 : decode code 1022 = .ok (.iload 6, 2) := by decide +kernel
theorem dl_1024 : decode code 1024 = .ok (.i2l, 1) := by decide +kernel
theorem dl_1025 : decode code 1025 = .ok (.lcmp, 1) := by decide +kernel
theorem dl_1026 : decode code 1026 = .ok (.ifCond .eq 5, 3) := by decide +kernel
theorem dl_1031 : decode code 1031 = .ok (.goto 183, 3) := by decide +kernel
theorem dl_1034 : decode code 1034 = .ok (.aload_n 1, 1) := by decide +kernel
theorem dl_1035 : decode code 1035 = .ok (.aload_n 0, 1) := by decide +kernel
theorem dl_1036 : decode code 1036 = .ok (.iload 4, 2) := by decide +kernel
theorem dl_1038 : decode code 1038 = .ok (.iconst 1, 1) := by decide +kernel
theorem dl_1039 : decode code 1039 = .ok (.iadd, 1) := by decide +kernel
theorem dl_1040 : decode code 1040 = .ok (.iaload, 1) := by decide +kernel
theorem dl_1041 : decode code 1041 = .ok (.aload_n 3, 1) := by decide +kernel
theorem dl_1042 : decode code 1042 = .ok (.invokestatic 121, 3) := by decide +kernel
theorem dl_1045 : decode code 1045 = .ok (.istore 5, 2) := by decide +kernel
theorem dl_1047 : decode code 1047 = .ok (.aload_n 2, 1) := by decide +kernel
theorem dl_1048 : decode code 1048 = .ok (.aload_n 0, 1) := by decide +kernel
theorem dl_1049 : decode code 1049 = .ok (.iload 4, 2) := by decide +kernel
theorem dl_1051 : decode code 1051 = .ok (.iconst 1, 1) := by decide +kernel
theorem dl_1052 : decode code 1052 = .ok (.iadd, 1) := by decide +kernel
theorem dl_1053 : decode code 1053 = .ok (.iaload, 1) := by decide +kernel
theorem dl_1054 : decode code 1054 = .ok (.invokevirtual 123, 3) := by decide +kernel
theorem dl_1057 : decode code 1057 = .ok (.istore 6, 2) := by decide +kernel
theorem dl_1059 : decode code 1059 = .ok (.aload_n 2, 1) := by decide +kernel
theorem dl_1060 : decode code 1060 = .ok (.invokevirtual 72, 3) := by decide +kernel
theorem dl_1063 : decode code 1063 = .ok (.iload 5, 2) := by decide +kernel
theorem dl_1065 : decode code 1065 = .ok (.if_icmp .eq 5, 3) := by decide +kernel
theorem dl_1070 : decode code 1070 = .ok (.iload 5, 2) := by decide +kernel
theorem dl_1072 : decode code 1072 = .ok (.ifCond .ne 15, 3) := by decide +kernel
theorem dl_1075 : decode code 1075 = .ok (.aload_n 3, 1) := by decide +kernel
theorem dl_1076 : decode code 1076 = .ok (.iconst 0, 1) := by decide +kernel
theorem dl_1077 : decode code 1077 = .ok (.laload, 1) := by decide +kernel
theorem dl_1078 : decode code 1078 = .ok (.iload 6, 2) := by decide +kernel
theorem dl_1080 : decode code 1080 = .ok (.i2l, 1) := by decide +kernel
theorem dl_1081 : decode code 1081 = .ok (.lcmp, 1) := by decide +kernel
theorem dl_1082 : decode code 1082 = .ok (.ifCond .eq 5, 3) := by decide +kernel
theorem dl_1087 : decode code 1087 = .ok (.goto 127, 3) := by decide +kernel
theorem dl_1090 : decode code 1090 = .ok (.aload_n 1, 1) := by decide +kernel
theorem dl_1091 : decode code 1091 = .ok (.invokevirtual 124, 3) := by decide +kernel
theorem dl_1094 : decode code 1094 = .ok (.aload_n 2, 1) := by decide +kernel
theorem dl_1095 : decode code 1095 = .ok (.invokevirtual 127, 3) := by decide +kernel
theorem dl_1098 : decode code 1098 = .ok (.if_icmp .eq 116, 3) := by decide +kernel
theorem dl_1103 : decode code 1103 = .ok (.aload_n 1, 1) := by decide +kernel
theorem dl_1104 : decode code 1104 = .ok (.aload_n 0, 1) := by decide +kernel
theorem dl_1105 : decode code 1105 = .ok (.iload 4, 2) := by decide +kernel
theorem dl_1107 : decode code 1107 = .ok (.iconst 1, 1) := by decide +kernel
theorem dl_1108 : decode code 1108 = .ok (.iadd, 1) := by decide +kernel
theorem dl_1109 : decode code 1109 = .ok (.iaload, 1) := by decide +kernel
theorem dl_1110 : decode code 1110 = .ok (.aload_n 3, 1) := by decide +kernel
theorem dl_1111 : decode code 1111 = .ok (.invokestatic 128, 3) := by decide +kernel
theorem dl_1114 : decode code 1114 = .ok (.istore 5, 2) := by decide +kernel
theorem dl_1116 : decode code 1116 = .ok (.aload_n 2, 1) := by decide +kernel
theorem dl_1117 : decode code 1117 = .ok (.aload_n 0, 1) := by decide +kernel
theorem dl_1118 : decode code 1118 = .ok (.iload 4, 2) := by decide +kernel
theorem dl_1120 : decode code 1120 = .ok (.iconst 1, 1) := by decide +kernel
theorem dl_1121 : decode code 1121 = .ok (.iadd, 1) := by decide +kernel
theorem dl_1122 : decode code 1122 = .ok (.iaload, 1) := by decide +kernel
theorem dl_1123 : decode code 1123 = .ok (.invokevirtual 130, 3) := by decide +kernel
theorem dl_1126 : decode code 1126 = .ok (.istore 6, 2) := by decide +kernel
theorem dl_1128 : decode code 1128 = .ok (.aload_n 2, 1) := by decide +kernel
theorem dl_1129 : decode code 1129 = .ok (.invokevirtual 72, 3) := by decide +kernel
theorem dl_1132 : decode code 1132 = .ok (.iload 5, 2) := by decide +kernel
theorem dl_1134 : decode code 1134 = .ok (.if_icmp .eq 5, 3) := by decide +kernel
theorem dl_1139 : decode code 1139 = .ok (.iload 5, 2) := by decide +kernel
theorem dl_1141 : decode code 1141 = .ok (.ifCond .ne 15, 3) := by decide +kernel
theorem dl_1144 : decode code 1144 = .ok (.aload_n 3, 1) := by decide +kernel
theorem dl_1145 : decode code 1145 = .ok (.iconst 0, 1) := by decide +kernel
theorem dl_1146 : decode code 1146 = .ok (.laload, 1) := by decide +kernel
theorem dl_1147 : decode code 1147 = .ok (.iload 6, 2) := by decide +kernel
theorem dl_1149 : decode code 1149 = .ok (.i2l, 1) := by decide +kernel
theorem dl_1150 : decode code 1150 = .ok (.lcmp, 1) := by decide +kernel
theorem dl_1151 : decode code 1151 = .ok (.ifCond .eq 5, 3) := by decide +kernel
theorem dl_1156 : decode code 1156 = .ok (.goto 58, 3) := by decide +kernel
theorem dl_1159 : decode code 1159 = .ok (.aload_n 1, 1) := by decide +kernel
theorem dl_1160 : decode code 1160 = .ok (.invokevirtual 131, 3) := by decide +kernel
theorem dl_1163 : decode code 1163 = .ok (.dstore 5, 2) := by decide +kernel
theorem dl_1165 : decode code 1165 = .ok (.aload_n 2, 1) := by decide +kernel
theorem dl_1166 : decode code 1166 = .ok (.invokevirtual 135, 3) := by decide +kernel
theorem dl_1169 : decode code 1169 = .ok (.dstore 7, 2) := by decide +kernel
theorem dl_1171 : decode code 1171 = .ok (.dload 5, 2) := by decide +kernel
theorem dl_1173 : decode code 1173 = .ok (.dload 7, 2) := by decide +kernel
theorem dl_1175 : decode code 1175 = .ok (.dcmp .l, 1) := by decide +kernel
theorem dl_1176 : decode code 1176 = .ok (.ifCond .eq 21, 3) := by decide +kernel
theorem dl_1197 : decode code 1197 = .ok (.goto 17, 3) := by decide +kernel
theorem dl_1200 : decode code 1200 = .ok (.aload_n 1, 1) := by decide +kernel
theorem dl_1201 : decode code 1201 = .ok (.invokevirtual 136, 3) := by decide +kernel
theorem dl_1204 : decode code 1204 = .ok (.aload_n 2, 1) := by decide +kernel
theorem dl_1205 : decode code 1205 = .ok (.invokevirtual 140, 3) := by decide +kernel
theorem dl_1208 : decode code 1208 = .ok (.lcmp, 1) := by decide +kernel
theorem dl_1209 : decode code 1209 = .ok (.ifCond .eq 5, 3) := by decide +kernel
theorem dl_1214 : decode code 1214 = .ok (.iinc 4 6, 3) := by decide +kernel
theorem dl_1217 : decode code 1217 = .ok (.goto (-1194), 3) := by decide +kernel
theorem dl_1220 : decode code 1220 = .ok (.iconst 1, 1) := by decide +kernel
theorem dl_1221 : decode code 1221 = .ok (.ireturn, 1) := by decide +kernel
theorem law_le {L j : Nat} (hL : L ≤ 3072) (hj : j ≤ 600) (h : ¬ nI L - (6 : Int32) < nI (6 * j)) : 6 * j + 6 ≤ L := by
  have e6 : (6 : Int32).toInt = 6 := rfl
  have e1 : (nI L - (6 : Int32)).toInt = (L : Int) - 6 := by rw [i_sub (by rw [e6, i_nI (by omega)]; omega) (by rw [e6, i_nI (by omega)]; omega), e6, i_nI (by omega)]
  rw [i_lt, e1, i_nI (by omega)] at h
  omega
theorem law_sw (x : Int32) : (x = 0 ∨ x = 1 ∨ x = 2 ∨ x = 3 ∨ x = 4 ∨ x = 5 ∨ x = 6 ∨ x = 7 ∨ x = 8 ∨ x = 9 ∨ x = 10 ∨ x = 11 ∨ x = 12 ∨ x = 13 ∨ x = 14 ∨ x = 15 ∨ x = 16 ∨ x = 17 ∨ x = 18) ∨ (x.toInt < 0 ∨ 18 < x.toInt) := by
  by_cases h : x.toInt < 0 ∨ 18 < x.toInt
  · exact Or.inr h
  · have h0 : 0 ≤ x.toInt ∧ x.toInt ≤ 18 := by omega
    have e := n_ix (x := x) h0.1
    have e2 := ix_int (x := x) h0.1
    generalize ix x = i at e e2
    have hi : i = 0 ∨ i = 1 ∨ i = 2 ∨ i = 3 ∨ i = 4 ∨ i = 5 ∨ i = 6 ∨ i = 7 ∨ i = 8 ∨ i = 9 ∨ i = 10 ∨ i = 11 ∨ i = 12 ∨ i = 13 ∨ i = 14 ∨ i = 15 ∨ i = 16 ∨ i = 17 ∨ i = 18 := by omega
    refine Or.inl ?_
    rw [← e]
    rcases hi with rfl | rfl | rfl | rfl | rfl | rfl | rfl | rfl | rfl | rfl | rfl | rfl | rfl | rfl | rfl | rfl | rfl | rfl | rfl <;> decide
theorem share_num {M : Mm} {x : UInt64} (h : f_X9_share 0 M = some x) : x &&& 0x7fffffffffffffff ≤ 0x7ff0000000000000 := by
  rw [f_X9_share] at h
  by_cases z : M (0 + 29) 13 = 0
  · rw [if_pos z] at h
    cases h
    decide
  · rw [if_neg z, if_pos (div_num _ _ z)] at h
    cases h
    exact div_num _ _ z
section LAW
variable {p : Program} {l : Launch} {e : Env} {s : State} {m : MethodId} {args : Array Value} {below : List Frame} {meth : Method} {c : Code} {G : GG} {Q : State → Prop} {k n : Nat} {M : Mm} {rt : Option FieldType} {b L j : Nat} {xs : Nat → Int32}
set_option maxHeartbeats 4000000 in
theorem lc_0 (hC : CX p s m args meth c code 9 RL rt G) (hlt : l.stackTraces = false) (hE : G.2.2.2 = []) (hX : va_X b L xs s s.heap) (hbl : b < s.heap.size) (hbA : ¬ AF G s.heap.size b) (hL : L ≤ 3072) (hj : 6 * j + 6 ≤ L) (hk : k ≤ 100000) (hn : n ≤ 1000000) (hR : Rel (300 * j) M M) (K : ∀ k' n' M', k' ≤ k + 20 → n' ≤ n + 300 → Rel (300 * (j + 1)) M' M' → XJ p l e room_1 s m args below meth c G 9 Q k' n' M' 1214 [(4, .int (nI (6 * j))), (0, .ref b), (1, .ref (G.2.1 0)), (2, .ref (G.2.1 69)), (3, .ref (G.2.1 28))] []) : XJ p l e room_1 s m args below meth c G 9 Q k n M 132 [(4, .int (nI (6 * j))), (0, .ref b), (1, .ref (G.2.1 0)), (2, .ref (G.2.1 69)), (3, .ref (G.2.1 28))] [] := by
  obtain ⟨kk, M1, v, M2, q1, q2, q3, q4, q5⟩ := op_step (opr_mono (H2 := 300 * (j + 1)) (feed_ok (300 * j) (xs (6 * j + 1)) (xs (6 * j + 2)) (xs (6 * j + 3)) (xs (6 * j + 4)) (xs (6 * j + 5))) (by omega)) hR
  have q1 : f_L_feed 0 (xs (6 * j + 1)) (xs (6 * j + 2)) (xs (6 * j + 3)) (xs (6 * j + 4)) (xs (6 * j + 5)) 28 M = some (kk, M1) := q1
  have q2 : f_X11_feed 69 (xs (6 * j + 1)) (xs (6 * j + 2)) (xs (6 * j + 3)) (xs (6 * j + 4)) (xs (6 * j + 5)) M1 = some (v, M2) := q2
  refine x_aload_n hC dl_132 rfl 2 rfl ?_
  refine x_aload_n hC dl_133 rfl 1 rfl ?_
  refine x_iload hC dl_134 0 rfl ?_
  refine x_iconst hC (1 : Int32) dl_136 (by decide) ?_
  refine x_iadd hC dl_137 ?_
  refine x_topi (y := nI (6 * j + 1)) (n_add (6 * j) 1).symm ?_
  refine x_sld hC hX hbl hbA (i := 6 * j + 1) (by omega) hL dl_138 ?_
  refine x_aload_n hC dl_139 rfl 1 rfl ?_
  refine x_iload hC dl_140 0 rfl ?_
  refine x_iconst hC (2 : Int32) dl_142 (by decide) ?_
  refine x_iadd hC dl_143 ?_
  refine x_topi (y := nI (6 * j + 2)) (n_add (6 * j) 2).symm ?_
  refine x_sld hC hX hbl hbA (i := 6 * j + 2) (by omega) hL dl_144 ?_
  refine x_aload_n hC dl_145 rfl 1 rfl ?_
  refine x_iload hC dl_146 0 rfl ?_
  refine x_iconst hC (3 : Int32) dl_148 (by decide) ?_
  refine x_iadd hC dl_149 ?_
  refine x_topi (y := nI (6 * j + 3)) (n_add (6 * j) 3).symm ?_
  refine x_sld hC hX hbl hbA (i := 6 * j + 3) (by omega) hL dl_150 ?_
  refine x_aload_n hC dl_151 rfl 1 rfl ?_
  refine x_iload hC dl_152 0 rfl ?_
  refine x_iconst hC (4 : Int32) dl_154 (by decide) ?_
  refine x_iadd hC dl_155 ?_
  refine x_topi (y := nI (6 * j + 4)) (n_add (6 * j) 4).symm ?_
  refine x_sld hC hX hbl hbA (i := 6 * j + 4) (by omega) hL dl_156 ?_
  refine x_aload_n hC dl_157 rfl 1 rfl ?_
  refine x_iload hC dl_158 0 rfl ?_
  refine x_iconst hC (5 : Int32) dl_160 (by decide) ?_
  refine x_iadd hC dl_161 ?_
  refine x_topi (y := nI (6 * j + 5)) (n_add (6 * j) 5).symm ?_
  refine x_sld hC hX hbl hbA (i := 6 * j + 5) (by omega) hL dl_162 ?_
  refine x_aload_n hC dl_163 rfl 4 rfl ?_
  refine x_callSW (As := [.ref (G.2.1 0), .int (xs (6 * j + 1)), .int (xs (6 * j + 2)), .int (xs (6 * j + 3)), .int (xs (6 * j + 4)), .int (xs (6 * j + 5)), .ref (G.2.1 28)]) (M' := M1) hC (c_L_feed l hlt G M (i0 := 0) rfl (xs (6 * j + 1)) (xs (6 * j + 2)) (xs (6 * j + 3)) (xs (6 * j + 4)) (xs (6 * j + 5)) (i9 := 28) rfl q1) kw_yL_feed kml_66 kt_yL_feed kn_RLx ky_yL_feed rfl ⟨rfl, rfl⟩ ⟨Nat.le_of_ble_eq_true rfl, Nat.le_of_ble_eq_true rfl⟩ rfl (Nat.le_of_ble_eq_true rfl) ⟨by show k + 1 ≤ 601024; omega, by show n + 6 ≤ 7293034; omega⟩ dl_164 (fun _ => ?_)
  refine x_istore hC [(5, .int kk), (4, .int (nI (6 * j))), (0, .ref b), (1, .ref (G.2.1 0)), (2, .ref (G.2.1 69)), (3, .ref (G.2.1 28))] dl_167 (Nat.le_of_ble_eq_true rfl) rfl ?_
  refine x_aload_n hC dl_169 rfl 4 rfl ?_
  refine x_aload_n hC dl_170 rfl 2 rfl ?_
  refine x_iload hC dl_171 1 rfl ?_
  refine x_iconst hC (1 : Int32) dl_173 (by decide) ?_
  refine x_iadd hC dl_174 ?_
  refine x_topi (y := nI (6 * j + 1)) (n_add (6 * j) 1).symm ?_
  refine x_sld hC hX hbl hbA (i := 6 * j + 1) (by omega) hL dl_175 ?_
  refine x_aload_n hC dl_176 rfl 2 rfl ?_
  refine x_iload hC dl_177 1 rfl ?_
  refine x_iconst hC (2 : Int32) dl_179 (by decide) ?_
  refine x_iadd hC dl_180 ?_
  refine x_topi (y := nI (6 * j + 2)) (n_add (6 * j) 2).symm ?_
  refine x_sld hC hX hbl hbA (i := 6 * j + 2) (by omega) hL dl_181 ?_
  refine x_aload_n hC dl_182 rfl 2 rfl ?_
  refine x_iload hC dl_183 1 rfl ?_
  refine x_iconst hC (3 : Int32) dl_185 (by decide) ?_
  refine x_iadd hC dl_186 ?_
  refine x_topi (y := nI (6 * j + 3)) (n_add (6 * j) 3).symm ?_
  refine x_sld hC hX hbl hbA (i := 6 * j + 3) (by omega) hL dl_187 ?_
  refine x_aload_n hC dl_188 rfl 2 rfl ?_
  refine x_iload hC dl_189 1 rfl ?_
  refine x_iconst hC (4 : Int32) dl_191 (by decide) ?_
  refine x_iadd hC dl_192 ?_
  refine x_topi (y := nI (6 * j + 4)) (n_add (6 * j) 4).symm ?_
  refine x_sld hC hX hbl hbA (i := 6 * j + 4) (by omega) hL dl_193 ?_
  refine x_aload_n hC dl_194 rfl 2 rfl ?_
  refine x_iload hC dl_195 1 rfl ?_
  refine x_iconst hC (5 : Int32) dl_197 (by decide) ?_
  refine x_iadd hC dl_198 ?_
  refine x_topi (y := nI (6 * j + 5)) (n_add (6 * j) 5).symm ?_
  refine x_sld hC hX hbl hbA (i := 6 * j + 5) (by omega) hL dl_199 ?_
  refine x_callV (i := 69) (ci := 5) (q := (RX11, TX11, 32)) (As := [.int (xs (6 * j + 1)), .int (xs (6 * j + 2)), .int (xs (6 * j + 3)), .int (xs (6 * j + 4)), .int (xs (6 * j + 5))]) (M' := M2) hC (c_X11_feed l G M1 hE (i0 := 69) rfl (xs (6 * j + 1)) (xs (6 * j + 2)) (xs (6 * j + 3)) (xs (6 * j + 4)) (xs (6 * j + 5)) q2) kc_yX11_feed km_L_71 ki_yX11_feed kv_yX11_feed kn_RX11 ky_yX11_feed rfl ⟨rfl, rfl⟩ ⟨Nat.le_of_ble_eq_true rfl, Nat.le_of_ble_eq_true rfl⟩ rfl (by decide) rfl rfl (Nat.le_of_ble_eq_true rfl) ⟨by show k + 1 + 1 ≤ 601024; omega, by show n + 6 + 5 ≤ 7293034; omega⟩ dl_200 (fun _ => ?_)
  refine x_istore hC [(6, .int v), (5, .int kk), (4, .int (nI (6 * j))), (0, .ref b), (1, .ref (G.2.1 0)), (2, .ref (G.2.1 69)), (3, .ref (G.2.1 28))] dl_203 (Nat.le_of_ble_eq_true rfl) rfl ?_
  refine x_aload_n hC dl_205 rfl 5 rfl ?_
  refine x_callV (i := 69) (ci := 5) (q := (RX11, TX11, 32)) (As := []) (M' := M2) hC (c_X11_thrown l G M2 (i0 := 69) rfl (r := M2 69 0) rfl) kc_yX11_thrown km_L_72 ki_yX11_thrown kv_yX11_thrown kn_RX11 ky_yX11_thrown rfl ⟨rfl, rfl⟩ ⟨Nat.le_of_ble_eq_true rfl, Nat.le_of_ble_eq_true rfl⟩ rfl (by decide) rfl rfl (Nat.le_of_ble_eq_true rfl) ⟨by show k + 1 + 1 + 0 ≤ 601024; omega, by show n + 6 + 5 + 0 ≤ 7293034; omega⟩ dl_206 (fun _ => ?_)
  refine x_iload hC dl_209 1 rfl ?_
  refine x_icmp_eq hC 216 dl_211 (by decide) (fun _ => ?_) (fun h => absurd q3 h)
  refine x_iload hC dl_216 1 rfl ?_
  have F : XJ p l e room_1 s m args below meth c G 9 Q (k + 1 + 1 + 0) (n + 6 + 5 + 0) M2 233 [(6, .int v), (5, .int kk), (4, .int (nI (6 * j))), (0, .ref b), (1, .ref (G.2.1 0)), (2, .ref (G.2.1 69)), (3, .ref (G.2.1 28))] [] := by
    refine x_goto hC 1214 dl_233 (by decide) ?_
    refine x_sub [2, 3, 4, 5, 6] (lv' := [(4, .int (nI (6 * j))), (0, .ref b), (1, .ref (G.2.1 0)), (2, .ref (G.2.1 69)), (3, .ref (G.2.1 28))]) rfl ?_
    exact K _ _ _ (by omega) (by omega) (q5)
  refine x_if_ne hC 233 dl_218 (by decide) (fun _ => F) (fun h0 => ?_)
  refine x_aload_n hC dl_221 rfl 6 rfl ?_
  refine x_iconst hC (0 : Int32) dl_222 (by decide) ?_
  refine x_outld hC dl_223 ?_
  refine x_iload hC dl_224 0 rfl ?_
  refine x_i2l hC dl_226 ?_
  refine x_lcmp hC dl_227 ?_
  rw [q4 h0, lg_self]
  exact x_if_eq hC 233 dl_228 (by decide) (fun _ => F) (fun h => absurd rfl h)
set_option maxHeartbeats 4000000 in
theorem lc_1 (hC : CX p s m args meth c code 9 RL rt G) (hlt : l.stackTraces = false) (hE : G.2.2.2 = []) (hX : va_X b L xs s s.heap) (hbl : b < s.heap.size) (hbA : ¬ AF G s.heap.size b) (hL : L ≤ 3072) (hj : 6 * j + 6 ≤ L) (hk : k ≤ 100000) (hn : n ≤ 1000000) (hR : Rel (300 * j) M M) (K : ∀ k' n' M', k' ≤ k + 20 → n' ≤ n + 300 → Rel (300 * (j + 1)) M' M' → XJ p l e room_1 s m args below meth c G 9 Q k' n' M' 1214 [(4, .int (nI (6 * j))), (0, .ref b), (1, .ref (G.2.1 0)), (2, .ref (G.2.1 69)), (3, .ref (G.2.1 28))] []) : XJ p l e room_1 s m args below meth c G 9 Q k n M 236 [(4, .int (nI (6 * j))), (0, .ref b), (1, .ref (G.2.1 0)), (2, .ref (G.2.1 69)), (3, .ref (G.2.1 28))] [] := by
  obtain ⟨kk, M1, v, M2, q1, q2, q3, q4, q5⟩ := op_step (opr_mono (H2 := 300 * (j + 1)) (trim_ok (300 * j) (xs (6 * j + 1))) (by omega)) hR
  have q1 : f_L_trim 0 (xs (6 * j + 1)) 28 M = some (kk, M1) := q1
  have q2 : f_X11_trim 69 (xs (6 * j + 1)) M1 = some (v, M2) := q2
  refine x_aload_n hC dl_236 rfl 2 rfl ?_
  refine x_aload_n hC dl_237 rfl 1 rfl ?_
  refine x_iload hC dl_238 0 rfl ?_
  refine x_iconst hC (1 : Int32) dl_240 (by decide) ?_
  refine x_iadd hC dl_241 ?_
  refine x_topi (y := nI (6 * j + 1)) (n_add (6 * j) 1).symm ?_
  refine x_sld hC hX hbl hbA (i := 6 * j + 1) (by omega) hL dl_242 ?_
  refine x_aload_n hC dl_243 rfl 4 rfl ?_
  refine x_callSW (As := [.ref (G.2.1 0), .int (xs (6 * j + 1)), .ref (G.2.1 28)]) (M' := M1) hC (c_L_trim l hlt G M (i0 := 0) rfl (xs (6 * j + 1)) (i9 := 28) rfl q1) kw_yL_trim kml_76 kt_yL_trim kn_RLx ky_yL_trim rfl ⟨rfl, rfl⟩ ⟨Nat.le_of_ble_eq_true rfl, Nat.le_of_ble_eq_true rfl⟩ rfl (Nat.le_of_ble_eq_true rfl) ⟨by show k + 1 ≤ 601024; omega, by show n + 6 ≤ 7293034; omega⟩ dl_244 (fun _ => ?_)
  refine x_istore hC [(5, .int kk), (4, .int (nI (6 * j))), (0, .ref b), (1, .ref (G.2.1 0)), (2, .ref (G.2.1 69)), (3, .ref (G.2.1 28))] dl_247 (Nat.le_of_ble_eq_true rfl) rfl ?_
  refine x_aload_n hC dl_249 rfl 4 rfl ?_
  refine x_aload_n hC dl_250 rfl 2 rfl ?_
  refine x_iload hC dl_251 1 rfl ?_
  refine x_iconst hC (1 : Int32) dl_253 (by decide) ?_
  refine x_iadd hC dl_254 ?_
  refine x_topi (y := nI (6 * j + 1)) (n_add (6 * j) 1).symm ?_
  refine x_sld hC hX hbl hbA (i := 6 * j + 1) (by omega) hL dl_255 ?_
  refine x_callV (i := 69) (ci := 5) (q := (RX11, TX11, 32)) (As := [.int (xs (6 * j + 1))]) (M' := M2) hC (c_X11_trim l G M1 (i0 := 69) rfl (xs (6 * j + 1)) q2) kc_yX11_trim km_L_79 ki_yX11_trim kv_yX11_trim kn_RX11 ky_yX11_trim rfl ⟨rfl, rfl⟩ ⟨Nat.le_of_ble_eq_true rfl, Nat.le_of_ble_eq_true rfl⟩ rfl (by decide) rfl rfl (Nat.le_of_ble_eq_true rfl) ⟨by show k + 1 + 0 ≤ 601024; omega, by show n + 6 + 0 ≤ 7293034; omega⟩ dl_256 (fun _ => ?_)
  refine x_istore hC [(6, .int v), (5, .int kk), (4, .int (nI (6 * j))), (0, .ref b), (1, .ref (G.2.1 0)), (2, .ref (G.2.1 69)), (3, .ref (G.2.1 28))] dl_259 (Nat.le_of_ble_eq_true rfl) rfl ?_
  refine x_aload_n hC dl_261 rfl 5 rfl ?_
  refine x_callV (i := 69) (ci := 5) (q := (RX11, TX11, 32)) (As := []) (M' := M2) hC (c_X11_thrown l G M2 (i0 := 69) rfl (r := M2 69 0) rfl) kc_yX11_thrown km_L_72 ki_yX11_thrown kv_yX11_thrown kn_RX11 ky_yX11_thrown rfl ⟨rfl, rfl⟩ ⟨Nat.le_of_ble_eq_true rfl, Nat.le_of_ble_eq_true rfl⟩ rfl (by decide) rfl rfl (Nat.le_of_ble_eq_true rfl) ⟨by show k + 1 + 0 + 0 ≤ 601024; omega, by show n + 6 + 0 + 0 ≤ 7293034; omega⟩ dl_262 (fun _ => ?_)
  refine x_iload hC dl_265 1 rfl ?_
  refine x_icmp_eq hC 272 dl_267 (by decide) (fun _ => ?_) (fun h => absurd q3 h)
  refine x_iload hC dl_272 1 rfl ?_
  have F : XJ p l e room_1 s m args below meth c G 9 Q (k + 1 + 0 + 0) (n + 6 + 0 + 0) M2 289 [(6, .int v), (5, .int kk), (4, .int (nI (6 * j))), (0, .ref b), (1, .ref (G.2.1 0)), (2, .ref (G.2.1 69)), (3, .ref (G.2.1 28))] [] := by
    refine x_goto hC 1214 dl_289 (by decide) ?_
    refine x_sub [2, 3, 4, 5, 6] (lv' := [(4, .int (nI (6 * j))), (0, .ref b), (1, .ref (G.2.1 0)), (2, .ref (G.2.1 69)), (3, .ref (G.2.1 28))]) rfl ?_
    exact K _ _ _ (by omega) (by omega) (q5)
  refine x_if_ne hC 289 dl_274 (by decide) (fun _ => F) (fun h0 => ?_)
  refine x_aload_n hC dl_277 rfl 6 rfl ?_
  refine x_iconst hC (0 : Int32) dl_278 (by decide) ?_
  refine x_outld hC dl_279 ?_
  refine x_iload hC dl_280 0 rfl ?_
  refine x_i2l hC dl_282 ?_
  refine x_lcmp hC dl_283 ?_
  rw [q4 h0, lg_self]
  exact x_if_eq hC 289 dl_284 (by decide) (fun _ => F) (fun h => absurd rfl h)
set_option maxHeartbeats 4000000 in
theorem lc_2 (hC : CX p s m args meth c code 9 RL rt G) (hlt : l.stackTraces = false) (hE : G.2.2.2 = []) (hX : va_X b L xs s s.heap) (hbl : b < s.heap.size) (hbA : ¬ AF G s.heap.size b) (hL : L ≤ 3072) (hj : 6 * j + 6 ≤ L) (hk : k ≤ 100000) (hn : n ≤ 1000000) (hR : Rel (300 * j) M M) (K : ∀ k' n' M', k' ≤ k + 20 → n' ≤ n + 300 → Rel (300 * (j + 1)) M' M' → XJ p l e room_1 s m args below meth c G 9 Q k' n' M' 1214 [(4, .int (nI (6 * j))), (0, .ref b), (1, .ref (G.2.1 0)), (2, .ref (G.2.1 69)), (3, .ref (G.2.1 28))] []) : XJ p l e room_1 s m args below meth c G 9 Q k n M 292 [(4, .int (nI (6 * j))), (0, .ref b), (1, .ref (G.2.1 0)), (2, .ref (G.2.1 69)), (3, .ref (G.2.1 28))] [] := by
  obtain ⟨x, M1, M2, q1, q2, q3⟩ := teach_step hR
  refine x_aload_n hC dl_292 rfl 2 rfl ?_
  refine x_callV (i := 0) (ci := 6) (q := (RX9, TX9, 11)) (As := []) (M' := M1) hC (c_X9_teach l G M (i0 := 0) rfl q1) kc_yX9_teach km_L_80 ki_yX9_teach kv_yX9_teach kn_RX9 ky_yX9_teach rfl ⟨rfl, rfl⟩ ⟨Nat.le_of_ble_eq_true rfl, Nat.le_of_ble_eq_true rfl⟩ rfl (by decide) rfl rfl (Nat.le_of_ble_eq_true rfl) ⟨by show k + 0 ≤ 601024; omega, by show n + 0 ≤ 7293034; omega⟩ dl_293 (fun _ => ?_)
  refine x_aload_n hC dl_296 rfl 3 rfl ?_
  refine x_callV (i := 69) (ci := 5) (q := (RX11, TX11, 32)) (As := []) (M' := M2) hC (c_X11_teach l G M1 (i0 := 69) rfl q2) kc_yX11_teach km_L_83 ki_yX11_teach kv_yX11_teach kn_RX11 ky_yX11_teach rfl ⟨rfl, rfl⟩ ⟨Nat.le_of_ble_eq_true rfl, Nat.le_of_ble_eq_true rfl⟩ rfl (by decide) rfl rfl (Nat.le_of_ble_eq_true rfl) ⟨by show k + 0 + 0 ≤ 601024; omega, by show n + 0 + 0 ≤ 7293034; omega⟩ dl_297 (fun _ => ?_)
  refine x_icmp_eq hC 1214 dl_300 (by decide) (fun _ => ?_) (fun h => absurd rfl h)
  refine x_sub [0, 1, 2, 3, 4] (lv' := [(4, .int (nI (6 * j))), (0, .ref b), (1, .ref (G.2.1 0)), (2, .ref (G.2.1 69)), (3, .ref (G.2.1 28))]) rfl ?_
  exact K _ _ _ (by omega) (by omega) (q3.mono (by omega))
set_option maxHeartbeats 4000000 in
theorem lc_3 (hC : CX p s m args meth c code 9 RL rt G) (hlt : l.stackTraces = false) (hE : G.2.2.2 = []) (hX : va_X b L xs s s.heap) (hbl : b < s.heap.size) (hbA : ¬ AF G s.heap.size b) (hL : L ≤ 3072) (hj : 6 * j + 6 ≤ L) (hk : k ≤ 100000) (hn : n ≤ 1000000) (hR : Rel (300 * j) M M) (K : ∀ k' n' M', k' ≤ k + 20 → n' ≤ n + 300 → Rel (300 * (j + 1)) M' M' → XJ p l e room_1 s m args below meth c G 9 Q k' n' M' 1214 [(4, .int (nI (6 * j))), (0, .ref b), (1, .ref (G.2.1 0)), (2, .ref (G.2.1 69)), (3, .ref (G.2.1 28))] []) : XJ p l e room_1 s m args below meth c G 9 Q k n M 305 [(4, .int (nI (6 * j))), (0, .ref b), (1, .ref (G.2.1 0)), (2, .ref (G.2.1 69)), (3, .ref (G.2.1 28))] [] := by
  obtain ⟨M2, q2, q3⟩ := errorAt_step hR
  refine x_aload_n hC dl_305 rfl 2 rfl ?_
  refine x_callV (i := 0) (ci := 6) (q := (RX9, TX9, 11)) (As := []) (M' := M) hC (c_X9_errorAt l G M (i0 := 0) rfl (r := f_X9_errorAt 0 M) rfl) kc_yX9_errorAt km_L_84 ki_yX9_errorAt kv_yX9_errorAt kn_RX9 ky_yX9_errorAt rfl ⟨rfl, rfl⟩ ⟨Nat.le_of_ble_eq_true rfl, Nat.le_of_ble_eq_true rfl⟩ rfl (by decide) rfl rfl (Nat.le_of_ble_eq_true rfl) ⟨by show k + 0 ≤ 601024; omega, by show n + 0 ≤ 7293034; omega⟩ dl_306 (fun _ => ?_)
  refine x_aload_n hC dl_309 rfl 3 rfl ?_
  refine x_callV (i := 69) (ci := 5) (q := (RX11, TX11, 32)) (As := []) (M' := M2) hC (c_X11_errorAt l G M (i0 := 69) rfl q2) kc_yX11_errorAt km_L_87 ki_yX11_errorAt kv_yX11_errorAt kn_RX11 ky_yX11_errorAt rfl ⟨rfl, rfl⟩ ⟨Nat.le_of_ble_eq_true rfl, Nat.le_of_ble_eq_true rfl⟩ rfl (by decide) rfl rfl (Nat.le_of_ble_eq_true rfl) ⟨by show k + 0 + 0 ≤ 601024; omega, by show n + 0 + 0 ≤ 7293034; omega⟩ dl_310 (fun _ => ?_)
  refine x_icmp_eq hC 1214 dl_313 (by decide) (fun _ => ?_) (fun h => absurd rfl h)
  refine x_sub [0, 1, 2, 3, 4] (lv' := [(4, .int (nI (6 * j))), (0, .ref b), (1, .ref (G.2.1 0)), (2, .ref (G.2.1 69)), (3, .ref (G.2.1 28))]) rfl ?_
  exact K _ _ _ (by omega) (by omega) (q3.mono (by omega))
set_option maxHeartbeats 4000000 in
theorem lc_4 (hC : CX p s m args meth c code 9 RL rt G) (hlt : l.stackTraces = false) (hE : G.2.2.2 = []) (hX : va_X b L xs s s.heap) (hbl : b < s.heap.size) (hbA : ¬ AF G s.heap.size b) (hL : L ≤ 3072) (hj : 6 * j + 6 ≤ L) (hk : k ≤ 100000) (hn : n ≤ 1000000) (hR : Rel (300 * j) M M) (K : ∀ k' n' M', k' ≤ k + 20 → n' ≤ n + 300 → Rel (300 * (j + 1)) M' M' → XJ p l e room_1 s m args below meth c G 9 Q k' n' M' 1214 [(4, .int (nI (6 * j))), (0, .ref b), (1, .ref (G.2.1 0)), (2, .ref (G.2.1 69)), (3, .ref (G.2.1 28))] []) : XJ p l e room_1 s m args below meth c G 9 Q k n M 318 [(4, .int (nI (6 * j))), (0, .ref b), (1, .ref (G.2.1 0)), (2, .ref (G.2.1 69)), (3, .ref (G.2.1 28))] [] := by
  obtain ⟨kk, M1, v, M2, q1, q2, q3, q4, q5⟩ := op_step (opr_mono (H2 := 300 * (j + 1)) (count_ok (300 * j) (xs (6 * j + 1))) (by omega)) hR
  have q1 : f_L_count 0 (xs (6 * j + 1)) 28 M = some (kk, M1) := q1
  have q2 : f_X11_count 69 (xs (6 * j + 1)) M1 = some (v, M2) := q2
  refine x_aload_n hC dl_318 rfl 2 rfl ?_
  refine x_aload_n hC dl_319 rfl 1 rfl ?_
  refine x_iload hC dl_320 0 rfl ?_
  refine x_iconst hC (1 : Int32) dl_322 (by decide) ?_
  refine x_iadd hC dl_323 ?_
  refine x_topi (y := nI (6 * j + 1)) (n_add (6 * j) 1).symm ?_
  refine x_sld hC hX hbl hbA (i := 6 * j + 1) (by omega) hL dl_324 ?_
  refine x_aload_n hC dl_325 rfl 4 rfl ?_
  refine x_callSW (As := [.ref (G.2.1 0), .int (xs (6 * j + 1)), .ref (G.2.1 28)]) (M' := M1) hC (c_L_count l hlt G M (i0 := 0) rfl (xs (6 * j + 1)) (i9 := 28) rfl q1) kw_yL_count kml_88 kt_yL_count kn_RLx ky_yL_count rfl ⟨rfl, rfl⟩ ⟨Nat.le_of_ble_eq_true rfl, Nat.le_of_ble_eq_true rfl⟩ rfl (Nat.le_of_ble_eq_true rfl) ⟨by show k + 1 ≤ 601024; omega, by show n + 6 ≤ 7293034; omega⟩ dl_326 (fun _ => ?_)
  refine x_istore hC [(5, .int kk), (4, .int (nI (6 * j))), (0, .ref b), (1, .ref (G.2.1 0)), (2, .ref (G.2.1 69)), (3, .ref (G.2.1 28))] dl_329 (Nat.le_of_ble_eq_true rfl) rfl ?_
  refine x_aload_n hC dl_331 rfl 4 rfl ?_
  refine x_aload_n hC dl_332 rfl 2 rfl ?_
  refine x_iload hC dl_333 1 rfl ?_
  refine x_iconst hC (1 : Int32) dl_335 (by decide) ?_
  refine x_iadd hC dl_336 ?_
  refine x_topi (y := nI (6 * j + 1)) (n_add (6 * j) 1).symm ?_
  refine x_sld hC hX hbl hbA (i := 6 * j + 1) (by omega) hL dl_337 ?_
  refine x_callV (i := 69) (ci := 5) (q := (RX11, TX11, 32)) (As := [.int (xs (6 * j + 1))]) (M' := M2) hC (c_X11_count l G M1 hE (i0 := 69) rfl (xs (6 * j + 1)) q2) kc_yX11_count km_L_90 ki_yX11_count kv_yX11_count kn_RX11 ky_yX11_count rfl ⟨rfl, rfl⟩ ⟨Nat.le_of_ble_eq_true rfl, Nat.le_of_ble_eq_true rfl⟩ rfl (by decide) rfl rfl (Nat.le_of_ble_eq_true rfl) ⟨by show k + 1 + 1 ≤ 601024; omega, by show n + 6 + 13 ≤ 7293034; omega⟩ dl_338 (fun _ => ?_)
  refine x_istore hC [(6, .int v), (5, .int kk), (4, .int (nI (6 * j))), (0, .ref b), (1, .ref (G.2.1 0)), (2, .ref (G.2.1 69)), (3, .ref (G.2.1 28))] dl_341 (Nat.le_of_ble_eq_true rfl) rfl ?_
  refine x_aload_n hC dl_343 rfl 5 rfl ?_
  refine x_callV (i := 69) (ci := 5) (q := (RX11, TX11, 32)) (As := []) (M' := M2) hC (c_X11_thrown l G M2 (i0 := 69) rfl (r := M2 69 0) rfl) kc_yX11_thrown km_L_72 ki_yX11_thrown kv_yX11_thrown kn_RX11 ky_yX11_thrown rfl ⟨rfl, rfl⟩ ⟨Nat.le_of_ble_eq_true rfl, Nat.le_of_ble_eq_true rfl⟩ rfl (by decide) rfl rfl (Nat.le_of_ble_eq_true rfl) ⟨by show k + 1 + 1 + 0 ≤ 601024; omega, by show n + 6 + 13 + 0 ≤ 7293034; omega⟩ dl_344 (fun _ => ?_)
  refine x_iload hC dl_347 1 rfl ?_
  refine x_icmp_eq hC 354 dl_349 (by decide) (fun _ => ?_) (fun h => absurd q3 h)
  refine x_iload hC dl_354 1 rfl ?_
  have F : XJ p l e room_1 s m args below meth c G 9 Q (k + 1 + 1 + 0) (n + 6 + 13 + 0) M2 371 [(6, .int v), (5, .int kk), (4, .int (nI (6 * j))), (0, .ref b), (1, .ref (G.2.1 0)), (2, .ref (G.2.1 69)), (3, .ref (G.2.1 28))] [] := by
    refine x_goto hC 1214 dl_371 (by decide) ?_
    refine x_sub [2, 3, 4, 5, 6] (lv' := [(4, .int (nI (6 * j))), (0, .ref b), (1, .ref (G.2.1 0)), (2, .ref (G.2.1 69)), (3, .ref (G.2.1 28))]) rfl ?_
    exact K _ _ _ (by omega) (by omega) (q5)
  refine x_if_ne hC 371 dl_356 (by decide) (fun _ => F) (fun h0 => ?_)
  refine x_aload_n hC dl_359 rfl 6 rfl ?_
  refine x_iconst hC (0 : Int32) dl_360 (by decide) ?_
  refine x_outld hC dl_361 ?_
  refine x_iload hC dl_362 0 rfl ?_
  refine x_i2l hC dl_364 ?_
  refine x_lcmp hC dl_365 ?_
  rw [q4 h0, lg_self]
  exact x_if_eq hC 371 dl_366 (by decide) (fun _ => F) (fun h => absurd rfl h)
set_option maxHeartbeats 4000000 in
theorem lc_5 (hC : CX p s m args meth c code 9 RL rt G) (hlt : l.stackTraces = false) (hE : G.2.2.2 = []) (hX : va_X b L xs s s.heap) (hbl : b < s.heap.size) (hbA : ¬ AF G s.heap.size b) (hL : L ≤ 3072) (hj : 6 * j + 6 ≤ L) (hk : k ≤ 100000) (hn : n ≤ 1000000) (hR : Rel (300 * j) M M) (K : ∀ k' n' M', k' ≤ k + 20 → n' ≤ n + 300 → Rel (300 * (j + 1)) M' M' → XJ p l e room_1 s m args below meth c G 9 Q k' n' M' 1214 [(4, .int (nI (6 * j))), (0, .ref b), (1, .ref (G.2.1 0)), (2, .ref (G.2.1 69)), (3, .ref (G.2.1 28))] []) : XJ p l e room_1 s m args below meth c G 9 Q k n M 374 [(4, .int (nI (6 * j))), (0, .ref b), (1, .ref (G.2.1 0)), (2, .ref (G.2.1 69)), (3, .ref (G.2.1 28))] [] := by
  obtain ⟨kk, M1, v, M2, q1, q2, q3, q4, q5⟩ := op_step (opr_mono (H2 := 300 * (j + 1)) (setWeather_ok (300 * j) (xs (6 * j + 1)) (xs (6 * j + 2)) (xs (6 * j + 3))) (by omega)) hR
  have q1 : f_L_setWeather 0 (xs (6 * j + 1)) (xs (6 * j + 2)) (xs (6 * j + 3)) 28 M = some (kk, M1) := q1
  have q2 : f_X11_setWeather 69 (xs (6 * j + 1)) (xs (6 * j + 2)) (xs (6 * j + 3)) M1 = some (v, M2) := q2
  refine x_aload_n hC dl_374 rfl 2 rfl ?_
  refine x_aload_n hC dl_375 rfl 1 rfl ?_
  refine x_iload hC dl_376 0 rfl ?_
  refine x_iconst hC (1 : Int32) dl_378 (by decide) ?_
  refine x_iadd hC dl_379 ?_
  refine x_topi (y := nI (6 * j + 1)) (n_add (6 * j) 1).symm ?_
  refine x_sld hC hX hbl hbA (i := 6 * j + 1) (by omega) hL dl_380 ?_
  refine x_aload_n hC dl_381 rfl 1 rfl ?_
  refine x_iload hC dl_382 0 rfl ?_
  refine x_iconst hC (2 : Int32) dl_384 (by decide) ?_
  refine x_iadd hC dl_385 ?_
  refine x_topi (y := nI (6 * j + 2)) (n_add (6 * j) 2).symm ?_
  refine x_sld hC hX hbl hbA (i := 6 * j + 2) (by omega) hL dl_386 ?_
  refine x_aload_n hC dl_387 rfl 1 rfl ?_
  refine x_iload hC dl_388 0 rfl ?_
  refine x_iconst hC (3 : Int32) dl_390 (by decide) ?_
  refine x_iadd hC dl_391 ?_
  refine x_topi (y := nI (6 * j + 3)) (n_add (6 * j) 3).symm ?_
  refine x_sld hC hX hbl hbA (i := 6 * j + 3) (by omega) hL dl_392 ?_
  refine x_aload_n hC dl_393 rfl 4 rfl ?_
  refine x_callSW (As := [.ref (G.2.1 0), .int (xs (6 * j + 1)), .int (xs (6 * j + 2)), .int (xs (6 * j + 3)), .ref (G.2.1 28)]) (M' := M1) hC (c_L_setWeather l hlt G M (i0 := 0) rfl (xs (6 * j + 1)) (xs (6 * j + 2)) (xs (6 * j + 3)) (i9 := 28) rfl q1) kw_yL_setWeather kml_91 kt_yL_setWeather kn_RLx ky_yL_setWeather rfl ⟨rfl, rfl⟩ ⟨Nat.le_of_ble_eq_true rfl, Nat.le_of_ble_eq_true rfl⟩ rfl (Nat.le_of_ble_eq_true rfl) ⟨by show k + 1 ≤ 601024; omega, by show n + 6 ≤ 7293034; omega⟩ dl_394 (fun _ => ?_)
  refine x_istore hC [(5, .int kk), (4, .int (nI (6 * j))), (0, .ref b), (1, .ref (G.2.1 0)), (2, .ref (G.2.1 69)), (3, .ref (G.2.1 28))] dl_397 (Nat.le_of_ble_eq_true rfl) rfl ?_
  refine x_aload_n hC dl_399 rfl 4 rfl ?_
  refine x_aload_n hC dl_400 rfl 2 rfl ?_
  refine x_iload hC dl_401 1 rfl ?_
  refine x_iconst hC (1 : Int32) dl_403 (by decide) ?_
  refine x_iadd hC dl_404 ?_
  refine x_topi (y := nI (6 * j + 1)) (n_add (6 * j) 1).symm ?_
  refine x_sld hC hX hbl hbA (i := 6 * j + 1) (by omega) hL dl_405 ?_
  refine x_aload_n hC dl_406 rfl 2 rfl ?_
  refine x_iload hC dl_407 1 rfl ?_
  refine x_iconst hC (2 : Int32) dl_409 (by decide) ?_
  refine x_iadd hC dl_410 ?_
  refine x_topi (y := nI (6 * j + 2)) (n_add (6 * j) 2).symm ?_
  refine x_sld hC hX hbl hbA (i := 6 * j + 2) (by omega) hL dl_411 ?_
  refine x_aload_n hC dl_412 rfl 2 rfl ?_
  refine x_iload hC dl_413 1 rfl ?_
  refine x_iconst hC (3 : Int32) dl_415 (by decide) ?_
  refine x_iadd hC dl_416 ?_
  refine x_topi (y := nI (6 * j + 3)) (n_add (6 * j) 3).symm ?_
  refine x_sld hC hX hbl hbA (i := 6 * j + 3) (by omega) hL dl_417 ?_
  refine x_callV (i := 69) (ci := 5) (q := (RX11, TX11, 32)) (As := [.int (xs (6 * j + 1)), .int (xs (6 * j + 2)), .int (xs (6 * j + 3))]) (M' := M2) hC (c_X11_setWeather l G M1 (i0 := 69) rfl (xs (6 * j + 1)) (xs (6 * j + 2)) (xs (6 * j + 3)) q2) kc_yX11_setWeather km_L_94 ki_yX11_setWeather kv_yX11_setWeather kn_RX11 ky_yX11_setWeather rfl ⟨rfl, rfl⟩ ⟨Nat.le_of_ble_eq_true rfl, Nat.le_of_ble_eq_true rfl⟩ rfl (by decide) rfl rfl (Nat.le_of_ble_eq_true rfl) ⟨by show k + 1 + 0 ≤ 601024; omega, by show n + 6 + 0 ≤ 7293034; omega⟩ dl_418 (fun _ => ?_)
  refine x_istore hC [(6, .int v), (5, .int kk), (4, .int (nI (6 * j))), (0, .ref b), (1, .ref (G.2.1 0)), (2, .ref (G.2.1 69)), (3, .ref (G.2.1 28))] dl_421 (Nat.le_of_ble_eq_true rfl) rfl ?_
  refine x_aload_n hC dl_423 rfl 5 rfl ?_
  refine x_callV (i := 69) (ci := 5) (q := (RX11, TX11, 32)) (As := []) (M' := M2) hC (c_X11_thrown l G M2 (i0 := 69) rfl (r := M2 69 0) rfl) kc_yX11_thrown km_L_72 ki_yX11_thrown kv_yX11_thrown kn_RX11 ky_yX11_thrown rfl ⟨rfl, rfl⟩ ⟨Nat.le_of_ble_eq_true rfl, Nat.le_of_ble_eq_true rfl⟩ rfl (by decide) rfl rfl (Nat.le_of_ble_eq_true rfl) ⟨by show k + 1 + 0 + 0 ≤ 601024; omega, by show n + 6 + 0 + 0 ≤ 7293034; omega⟩ dl_424 (fun _ => ?_)
  refine x_iload hC dl_427 1 rfl ?_
  refine x_icmp_eq hC 434 dl_429 (by decide) (fun _ => ?_) (fun h => absurd q3 h)
  refine x_iload hC dl_434 1 rfl ?_
  have F : XJ p l e room_1 s m args below meth c G 9 Q (k + 1 + 0 + 0) (n + 6 + 0 + 0) M2 451 [(6, .int v), (5, .int kk), (4, .int (nI (6 * j))), (0, .ref b), (1, .ref (G.2.1 0)), (2, .ref (G.2.1 69)), (3, .ref (G.2.1 28))] [] := by
    refine x_goto hC 1214 dl_451 (by decide) ?_
    refine x_sub [2, 3, 4, 5, 6] (lv' := [(4, .int (nI (6 * j))), (0, .ref b), (1, .ref (G.2.1 0)), (2, .ref (G.2.1 69)), (3, .ref (G.2.1 28))]) rfl ?_
    exact K _ _ _ (by omega) (by omega) (q5)
  refine x_if_ne hC 451 dl_436 (by decide) (fun _ => F) (fun h0 => ?_)
  refine x_aload_n hC dl_439 rfl 6 rfl ?_
  refine x_iconst hC (0 : Int32) dl_440 (by decide) ?_
  refine x_outld hC dl_441 ?_
  refine x_iload hC dl_442 0 rfl ?_
  refine x_i2l hC dl_444 ?_
  refine x_lcmp hC dl_445 ?_
  rw [q4 h0, lg_self]
  exact x_if_eq hC 451 dl_446 (by decide) (fun _ => F) (fun h => absurd rfl h)
set_option maxHeartbeats 4000000 in
theorem lc_6 (hC : CX p s m args meth c code 9 RL rt G) (hlt : l.stackTraces = false) (hE : G.2.2.2 = []) (hX : va_X b L xs s s.heap) (hbl : b < s.heap.size) (hbA : ¬ AF G s.heap.size b) (hL : L ≤ 3072) (hj : 6 * j + 6 ≤ L) (hk : k ≤ 100000) (hn : n ≤ 1000000) (hR : Rel (300 * j) M M) (K : ∀ k' n' M', k' ≤ k + 20 → n' ≤ n + 300 → Rel (300 * (j + 1)) M' M' → XJ p l e room_1 s m args below meth c G 9 Q k' n' M' 1214 [(4, .int (nI (6 * j))), (0, .ref b), (1, .ref (G.2.1 0)), (2, .ref (G.2.1 69)), (3, .ref (G.2.1 28))] []) : XJ p l e room_1 s m args below meth c G 9 Q k n M 454 [(4, .int (nI (6 * j))), (0, .ref b), (1, .ref (G.2.1 0)), (2, .ref (G.2.1 69)), (3, .ref (G.2.1 28))] [] := by
  obtain ⟨kk, M1, v, M2, q1, q2, q3, q4, q5⟩ := op_step (opr_mono (H2 := 300 * (j + 1)) (set_ok (300 * j) (xs (6 * j + 1)) (xs (6 * j + 2)) (xs (6 * j + 3)) (xs (6 * j + 4))) (by omega)) hR
  have q1 : f_L_set 0 (xs (6 * j + 1)) (xs (6 * j + 2)) (xs (6 * j + 3)) (xs (6 * j + 4)) 28 M = some (kk, M1) := q1
  have q2 : f_X11_set 69 (xs (6 * j + 1)) (xs (6 * j + 2)) (xs (6 * j + 3)) (xs (6 * j + 4)) M1 = some (v, M2) := q2
  refine x_aload_n hC dl_454 rfl 2 rfl ?_
  refine x_aload_n hC dl_455 rfl 1 rfl ?_
  refine x_iload hC dl_456 0 rfl ?_
  refine x_iconst hC (1 : Int32) dl_458 (by decide) ?_
  refine x_iadd hC dl_459 ?_
  refine x_topi (y := nI (6 * j + 1)) (n_add (6 * j) 1).symm ?_
  refine x_sld hC hX hbl hbA (i := 6 * j + 1) (by omega) hL dl_460 ?_
  refine x_aload_n hC dl_461 rfl 1 rfl ?_
  refine x_iload hC dl_462 0 rfl ?_
  refine x_iconst hC (2 : Int32) dl_464 (by decide) ?_
  refine x_iadd hC dl_465 ?_
  refine x_topi (y := nI (6 * j + 2)) (n_add (6 * j) 2).symm ?_
  refine x_sld hC hX hbl hbA (i := 6 * j + 2) (by omega) hL dl_466 ?_
  refine x_aload_n hC dl_467 rfl 1 rfl ?_
  refine x_iload hC dl_468 0 rfl ?_
  refine x_iconst hC (3 : Int32) dl_470 (by decide) ?_
  refine x_iadd hC dl_471 ?_
  refine x_topi (y := nI (6 * j + 3)) (n_add (6 * j) 3).symm ?_
  refine x_sld hC hX hbl hbA (i := 6 * j + 3) (by omega) hL dl_472 ?_
  refine x_aload_n hC dl_473 rfl 1 rfl ?_
  refine x_iload hC dl_474 0 rfl ?_
  refine x_iconst hC (4 : Int32) dl_476 (by decide) ?_
  refine x_iadd hC dl_477 ?_
  refine x_topi (y := nI (6 * j + 4)) (n_add (6 * j) 4).symm ?_
  refine x_sld hC hX hbl hbA (i := 6 * j + 4) (by omega) hL dl_478 ?_
  refine x_aload_n hC dl_479 rfl 4 rfl ?_
  refine x_callSW (As := [.ref (G.2.1 0), .int (xs (6 * j + 1)), .int (xs (6 * j + 2)), .int (xs (6 * j + 3)), .int (xs (6 * j + 4)), .ref (G.2.1 28)]) (M' := M1) hC (c_L_set l hlt G M (i0 := 0) rfl (xs (6 * j + 1)) (xs (6 * j + 2)) (xs (6 * j + 3)) (xs (6 * j + 4)) (i9 := 28) rfl q1) kw_yL_set kml_95 kt_yL_set kn_RLx ky_yL_set rfl ⟨rfl, rfl⟩ ⟨Nat.le_of_ble_eq_true rfl, Nat.le_of_ble_eq_true rfl⟩ rfl (Nat.le_of_ble_eq_true rfl) ⟨by show k + 1 ≤ 601024; omega, by show n + 6 ≤ 7293034; omega⟩ dl_480 (fun _ => ?_)
  refine x_istore hC [(5, .int kk), (4, .int (nI (6 * j))), (0, .ref b), (1, .ref (G.2.1 0)), (2, .ref (G.2.1 69)), (3, .ref (G.2.1 28))] dl_483 (Nat.le_of_ble_eq_true rfl) rfl ?_
  refine x_aload_n hC dl_485 rfl 4 rfl ?_
  refine x_aload_n hC dl_486 rfl 2 rfl ?_
  refine x_iload hC dl_487 1 rfl ?_
  refine x_iconst hC (1 : Int32) dl_489 (by decide) ?_
  refine x_iadd hC dl_490 ?_
  refine x_topi (y := nI (6 * j + 1)) (n_add (6 * j) 1).symm ?_
  refine x_sld hC hX hbl hbA (i := 6 * j + 1) (by omega) hL dl_491 ?_
  refine x_aload_n hC dl_492 rfl 2 rfl ?_
  refine x_iload hC dl_493 1 rfl ?_
  refine x_iconst hC (2 : Int32) dl_495 (by decide) ?_
  refine x_iadd hC dl_496 ?_
  refine x_topi (y := nI (6 * j + 2)) (n_add (6 * j) 2).symm ?_
  refine x_sld hC hX hbl hbA (i := 6 * j + 2) (by omega) hL dl_497 ?_
  refine x_aload_n hC dl_498 rfl 2 rfl ?_
  refine x_iload hC dl_499 1 rfl ?_
  refine x_iconst hC (3 : Int32) dl_501 (by decide) ?_
  refine x_iadd hC dl_502 ?_
  refine x_topi (y := nI (6 * j + 3)) (n_add (6 * j) 3).symm ?_
  refine x_sld hC hX hbl hbA (i := 6 * j + 3) (by omega) hL dl_503 ?_
  refine x_aload_n hC dl_504 rfl 2 rfl ?_
  refine x_iload hC dl_505 1 rfl ?_
  refine x_iconst hC (4 : Int32) dl_507 (by decide) ?_
  refine x_iadd hC dl_508 ?_
  refine x_topi (y := nI (6 * j + 4)) (n_add (6 * j) 4).symm ?_
  refine x_sld hC hX hbl hbA (i := 6 * j + 4) (by omega) hL dl_509 ?_
  refine x_callV (i := 69) (ci := 5) (q := (RX11, TX11, 32)) (As := [.int (xs (6 * j + 1)), .int (xs (6 * j + 2)), .int (xs (6 * j + 3)), .int (xs (6 * j + 4))]) (M' := M2) hC (c_X11_set l G M1 (i0 := 69) rfl (xs (6 * j + 1)) (xs (6 * j + 2)) (xs (6 * j + 3)) (xs (6 * j + 4)) q2) kc_yX11_set km_L_98 ki_yX11_set kv_yX11_set kn_RX11 ky_yX11_set rfl ⟨rfl, rfl⟩ ⟨Nat.le_of_ble_eq_true rfl, Nat.le_of_ble_eq_true rfl⟩ rfl (by decide) rfl rfl (Nat.le_of_ble_eq_true rfl) ⟨by show k + 1 + 0 ≤ 601024; omega, by show n + 6 + 0 ≤ 7293034; omega⟩ dl_510 (fun _ => ?_)
  refine x_istore hC [(6, .int v), (5, .int kk), (4, .int (nI (6 * j))), (0, .ref b), (1, .ref (G.2.1 0)), (2, .ref (G.2.1 69)), (3, .ref (G.2.1 28))] dl_513 (Nat.le_of_ble_eq_true rfl) rfl ?_
  refine x_aload_n hC dl_515 rfl 5 rfl ?_
  refine x_callV (i := 69) (ci := 5) (q := (RX11, TX11, 32)) (As := []) (M' := M2) hC (c_X11_thrown l G M2 (i0 := 69) rfl (r := M2 69 0) rfl) kc_yX11_thrown km_L_72 ki_yX11_thrown kv_yX11_thrown kn_RX11 ky_yX11_thrown rfl ⟨rfl, rfl⟩ ⟨Nat.le_of_ble_eq_true rfl, Nat.le_of_ble_eq_true rfl⟩ rfl (by decide) rfl rfl (Nat.le_of_ble_eq_true rfl) ⟨by show k + 1 + 0 + 0 ≤ 601024; omega, by show n + 6 + 0 + 0 ≤ 7293034; omega⟩ dl_516 (fun _ => ?_)
  refine x_iload hC dl_519 1 rfl ?_
  refine x_icmp_eq hC 526 dl_521 (by decide) (fun _ => ?_) (fun h => absurd q3 h)
  refine x_iload hC dl_526 1 rfl ?_
  have F : XJ p l e room_1 s m args below meth c G 9 Q (k + 1 + 0 + 0) (n + 6 + 0 + 0) M2 543 [(6, .int v), (5, .int kk), (4, .int (nI (6 * j))), (0, .ref b), (1, .ref (G.2.1 0)), (2, .ref (G.2.1 69)), (3, .ref (G.2.1 28))] [] := by
    refine x_goto hC 1214 dl_543 (by decide) ?_
    refine x_sub [2, 3, 4, 5, 6] (lv' := [(4, .int (nI (6 * j))), (0, .ref b), (1, .ref (G.2.1 0)), (2, .ref (G.2.1 69)), (3, .ref (G.2.1 28))]) rfl ?_
    exact K _ _ _ (by omega) (by omega) (q5)
  refine x_if_ne hC 543 dl_528 (by decide) (fun _ => F) (fun h0 => ?_)
  refine x_aload_n hC dl_531 rfl 6 rfl ?_
  refine x_iconst hC (0 : Int32) dl_532 (by decide) ?_
  refine x_outld hC dl_533 ?_
  refine x_iload hC dl_534 0 rfl ?_
  refine x_i2l hC dl_536 ?_
  refine x_lcmp hC dl_537 ?_
  rw [q4 h0, lg_self]
  exact x_if_eq hC 543 dl_538 (by decide) (fun _ => F) (fun h => absurd rfl h)
set_option maxHeartbeats 4000000 in
theorem lc_7 (hC : CX p s m args meth c code 9 RL rt G) (hlt : l.stackTraces = false) (hE : G.2.2.2 = []) (hX : va_X b L xs s s.heap) (hbl : b < s.heap.size) (hbA : ¬ AF G s.heap.size b) (hL : L ≤ 3072) (hj : 6 * j + 6 ≤ L) (hk : k ≤ 100000) (hn : n ≤ 1000000) (hR : Rel (300 * j) M M) (K : ∀ k' n' M', k' ≤ k + 20 → n' ≤ n + 300 → Rel (300 * (j + 1)) M' M' → XJ p l e room_1 s m args below meth c G 9 Q k' n' M' 1214 [(4, .int (nI (6 * j))), (0, .ref b), (1, .ref (G.2.1 0)), (2, .ref (G.2.1 69)), (3, .ref (G.2.1 28))] []) : XJ p l e room_1 s m args below meth c G 9 Q k n M 546 [(4, .int (nI (6 * j))), (0, .ref b), (1, .ref (G.2.1 0)), (2, .ref (G.2.1 69)), (3, .ref (G.2.1 28))] [] := by
  obtain ⟨kk, M1, v, M2, q1, q2, q3, q4, q5⟩ := op_step (opr_mono (H2 := 300 * (j + 1)) (stack_ok (300 * j) (xs (6 * j + 1)) (xs (6 * j + 2)) (xs (6 * j + 3)) (xs (6 * j + 4))) (by omega)) hR
  have q1 : f_L_stack 0 (xs (6 * j + 1)) (xs (6 * j + 2)) (xs (6 * j + 3)) (xs (6 * j + 4)) 28 M = some (kk, M1) := q1
  have q2 : f_X11_stack 69 (xs (6 * j + 1)) (xs (6 * j + 2)) (xs (6 * j + 3)) (xs (6 * j + 4)) M1 = some (v, M2) := q2
  refine x_aload_n hC dl_546 rfl 2 rfl ?_
  refine x_aload_n hC dl_547 rfl 1 rfl ?_
  refine x_iload hC dl_548 0 rfl ?_
  refine x_iconst hC (1 : Int32) dl_550 (by decide) ?_
  refine x_iadd hC dl_551 ?_
  refine x_topi (y := nI (6 * j + 1)) (n_add (6 * j) 1).symm ?_
  refine x_sld hC hX hbl hbA (i := 6 * j + 1) (by omega) hL dl_552 ?_
  refine x_aload_n hC dl_553 rfl 1 rfl ?_
  refine x_iload hC dl_554 0 rfl ?_
  refine x_iconst hC (2 : Int32) dl_556 (by decide) ?_
  refine x_iadd hC dl_557 ?_
  refine x_topi (y := nI (6 * j + 2)) (n_add (6 * j) 2).symm ?_
  refine x_sld hC hX hbl hbA (i := 6 * j + 2) (by omega) hL dl_558 ?_
  refine x_aload_n hC dl_559 rfl 1 rfl ?_
  refine x_iload hC dl_560 0 rfl ?_
  refine x_iconst hC (3 : Int32) dl_562 (by decide) ?_
  refine x_iadd hC dl_563 ?_
  refine x_topi (y := nI (6 * j + 3)) (n_add (6 * j) 3).symm ?_
  refine x_sld hC hX hbl hbA (i := 6 * j + 3) (by omega) hL dl_564 ?_
  refine x_aload_n hC dl_565 rfl 1 rfl ?_
  refine x_iload hC dl_566 0 rfl ?_
  refine x_iconst hC (4 : Int32) dl_568 (by decide) ?_
  refine x_iadd hC dl_569 ?_
  refine x_topi (y := nI (6 * j + 4)) (n_add (6 * j) 4).symm ?_
  refine x_sld hC hX hbl hbA (i := 6 * j + 4) (by omega) hL dl_570 ?_
  refine x_aload_n hC dl_571 rfl 4 rfl ?_
  refine x_callSW (As := [.ref (G.2.1 0), .int (xs (6 * j + 1)), .int (xs (6 * j + 2)), .int (xs (6 * j + 3)), .int (xs (6 * j + 4)), .ref (G.2.1 28)]) (M' := M1) hC (c_L_stack l hlt G M (i0 := 0) rfl (xs (6 * j + 1)) (xs (6 * j + 2)) (xs (6 * j + 3)) (xs (6 * j + 4)) (i9 := 28) rfl q1) kw_yL_stack kml_99 kt_yL_stack kn_RLx ky_yL_stack rfl ⟨rfl, rfl⟩ ⟨Nat.le_of_ble_eq_true rfl, Nat.le_of_ble_eq_true rfl⟩ rfl (Nat.le_of_ble_eq_true rfl) ⟨by show k + 1 ≤ 601024; omega, by show n + 6 ≤ 7293034; omega⟩ dl_572 (fun _ => ?_)
  refine x_istore hC [(5, .int kk), (4, .int (nI (6 * j))), (0, .ref b), (1, .ref (G.2.1 0)), (2, .ref (G.2.1 69)), (3, .ref (G.2.1 28))] dl_575 (Nat.le_of_ble_eq_true rfl) rfl ?_
  refine x_aload_n hC dl_577 rfl 4 rfl ?_
  refine x_aload_n hC dl_578 rfl 2 rfl ?_
  refine x_iload hC dl_579 1 rfl ?_
  refine x_iconst hC (1 : Int32) dl_581 (by decide) ?_
  refine x_iadd hC dl_582 ?_
  refine x_topi (y := nI (6 * j + 1)) (n_add (6 * j) 1).symm ?_
  refine x_sld hC hX hbl hbA (i := 6 * j + 1) (by omega) hL dl_583 ?_
  refine x_aload_n hC dl_584 rfl 2 rfl ?_
  refine x_iload hC dl_585 1 rfl ?_
  refine x_iconst hC (2 : Int32) dl_587 (by decide) ?_
  refine x_iadd hC dl_588 ?_
  refine x_topi (y := nI (6 * j + 2)) (n_add (6 * j) 2).symm ?_
  refine x_sld hC hX hbl hbA (i := 6 * j + 2) (by omega) hL dl_589 ?_
  refine x_aload_n hC dl_590 rfl 2 rfl ?_
  refine x_iload hC dl_591 1 rfl ?_
  refine x_iconst hC (3 : Int32) dl_593 (by decide) ?_
  refine x_iadd hC dl_594 ?_
  refine x_topi (y := nI (6 * j + 3)) (n_add (6 * j) 3).symm ?_
  refine x_sld hC hX hbl hbA (i := 6 * j + 3) (by omega) hL dl_595 ?_
  refine x_aload_n hC dl_596 rfl 2 rfl ?_
  refine x_iload hC dl_597 1 rfl ?_
  refine x_iconst hC (4 : Int32) dl_599 (by decide) ?_
  refine x_iadd hC dl_600 ?_
  refine x_topi (y := nI (6 * j + 4)) (n_add (6 * j) 4).symm ?_
  refine x_sld hC hX hbl hbA (i := 6 * j + 4) (by omega) hL dl_601 ?_
  refine x_callV (i := 69) (ci := 5) (q := (RX11, TX11, 32)) (As := [.int (xs (6 * j + 1)), .int (xs (6 * j + 2)), .int (xs (6 * j + 3)), .int (xs (6 * j + 4))]) (M' := M2) hC (c_X11_stack l G M1 (i0 := 69) rfl (xs (6 * j + 1)) (xs (6 * j + 2)) (xs (6 * j + 3)) (xs (6 * j + 4)) q2) kc_yX11_stack km_L_101 ki_yX11_stack kv_yX11_stack kn_RX11 ky_yX11_stack rfl ⟨rfl, rfl⟩ ⟨Nat.le_of_ble_eq_true rfl, Nat.le_of_ble_eq_true rfl⟩ rfl (by decide) rfl rfl (Nat.le_of_ble_eq_true rfl) ⟨by show k + 1 + 0 ≤ 601024; omega, by show n + 6 + 0 ≤ 7293034; omega⟩ dl_602 (fun _ => ?_)
  refine x_istore hC [(6, .int v), (5, .int kk), (4, .int (nI (6 * j))), (0, .ref b), (1, .ref (G.2.1 0)), (2, .ref (G.2.1 69)), (3, .ref (G.2.1 28))] dl_605 (Nat.le_of_ble_eq_true rfl) rfl ?_
  refine x_aload_n hC dl_607 rfl 5 rfl ?_
  refine x_callV (i := 69) (ci := 5) (q := (RX11, TX11, 32)) (As := []) (M' := M2) hC (c_X11_thrown l G M2 (i0 := 69) rfl (r := M2 69 0) rfl) kc_yX11_thrown km_L_72 ki_yX11_thrown kv_yX11_thrown kn_RX11 ky_yX11_thrown rfl ⟨rfl, rfl⟩ ⟨Nat.le_of_ble_eq_true rfl, Nat.le_of_ble_eq_true rfl⟩ rfl (by decide) rfl rfl (Nat.le_of_ble_eq_true rfl) ⟨by show k + 1 + 0 + 0 ≤ 601024; omega, by show n + 6 + 0 + 0 ≤ 7293034; omega⟩ dl_608 (fun _ => ?_)
  refine x_iload hC dl_611 1 rfl ?_
  refine x_icmp_eq hC 618 dl_613 (by decide) (fun _ => ?_) (fun h => absurd q3 h)
  refine x_iload hC dl_618 1 rfl ?_
  have F : XJ p l e room_1 s m args below meth c G 9 Q (k + 1 + 0 + 0) (n + 6 + 0 + 0) M2 635 [(6, .int v), (5, .int kk), (4, .int (nI (6 * j))), (0, .ref b), (1, .ref (G.2.1 0)), (2, .ref (G.2.1 69)), (3, .ref (G.2.1 28))] [] := by
    refine x_goto hC 1214 dl_635 (by decide) ?_
    refine x_sub [2, 3, 4, 5, 6] (lv' := [(4, .int (nI (6 * j))), (0, .ref b), (1, .ref (G.2.1 0)), (2, .ref (G.2.1 69)), (3, .ref (G.2.1 28))]) rfl ?_
    exact K _ _ _ (by omega) (by omega) (q5)
  refine x_if_ne hC 635 dl_620 (by decide) (fun _ => F) (fun h0 => ?_)
  refine x_aload_n hC dl_623 rfl 6 rfl ?_
  refine x_iconst hC (0 : Int32) dl_624 (by decide) ?_
  refine x_outld hC dl_625 ?_
  refine x_iload hC dl_626 0 rfl ?_
  refine x_i2l hC dl_628 ?_
  refine x_lcmp hC dl_629 ?_
  rw [q4 h0, lg_self]
  exact x_if_eq hC 635 dl_630 (by decide) (fun _ => F) (fun h => absurd rfl h)
set_option maxHeartbeats 4000000 in
theorem lc_8 (hC : CX p s m args meth c code 9 RL rt G) (hlt : l.stackTraces = false) (hE : G.2.2.2 = []) (hX : va_X b L xs s s.heap) (hbl : b < s.heap.size) (hbA : ¬ AF G s.heap.size b) (hL : L ≤ 3072) (hj : 6 * j + 6 ≤ L) (hk : k ≤ 100000) (hn : n ≤ 1000000) (hR : Rel (300 * j) M M) (K : ∀ k' n' M', k' ≤ k + 20 → n' ≤ n + 300 → Rel (300 * (j + 1)) M' M' → XJ p l e room_1 s m args below meth c G 9 Q k' n' M' 1214 [(4, .int (nI (6 * j))), (0, .ref b), (1, .ref (G.2.1 0)), (2, .ref (G.2.1 69)), (3, .ref (G.2.1 28))] []) : XJ p l e room_1 s m args below meth c G 9 Q k n M 638 [(4, .int (nI (6 * j))), (0, .ref b), (1, .ref (G.2.1 0)), (2, .ref (G.2.1 69)), (3, .ref (G.2.1 28))] [] := by
  obtain ⟨kk, M1, v, M2, q1, q2, q3, q4, q5⟩ := op_step (opr_mono (H2 := 300 * (j + 1)) (cell_ok (300 * j) (xs (6 * j + 1)) (xs (6 * j + 2)) (xs (6 * j + 3))) (by omega)) hR
  have q1 : f_L_cell 0 (xs (6 * j + 1)) (xs (6 * j + 2)) (xs (6 * j + 3)) 28 M = some (kk, M1) := q1
  have q2 : f_X11_cell 69 (xs (6 * j + 1)) (xs (6 * j + 2)) (xs (6 * j + 3)) M1 = some (v, M2) := q2
  refine x_aload_n hC dl_638 rfl 2 rfl ?_
  refine x_aload_n hC dl_639 rfl 1 rfl ?_
  refine x_iload hC dl_640 0 rfl ?_
  refine x_iconst hC (1 : Int32) dl_642 (by decide) ?_
  refine x_iadd hC dl_643 ?_
  refine x_topi (y := nI (6 * j + 1)) (n_add (6 * j) 1).symm ?_
  refine x_sld hC hX hbl hbA (i := 6 * j + 1) (by omega) hL dl_644 ?_
  refine x_aload_n hC dl_645 rfl 1 rfl ?_
  refine x_iload hC dl_646 0 rfl ?_
  refine x_iconst hC (2 : Int32) dl_648 (by decide) ?_
  refine x_iadd hC dl_649 ?_
  refine x_topi (y := nI (6 * j + 2)) (n_add (6 * j) 2).symm ?_
  refine x_sld hC hX hbl hbA (i := 6 * j + 2) (by omega) hL dl_650 ?_
  refine x_aload_n hC dl_651 rfl 1 rfl ?_
  refine x_iload hC dl_652 0 rfl ?_
  refine x_iconst hC (3 : Int32) dl_654 (by decide) ?_
  refine x_iadd hC dl_655 ?_
  refine x_topi (y := nI (6 * j + 3)) (n_add (6 * j) 3).symm ?_
  refine x_sld hC hX hbl hbA (i := 6 * j + 3) (by omega) hL dl_656 ?_
  refine x_aload_n hC dl_657 rfl 4 rfl ?_
  refine x_callSW (As := [.ref (G.2.1 0), .int (xs (6 * j + 1)), .int (xs (6 * j + 2)), .int (xs (6 * j + 3)), .ref (G.2.1 28)]) (M' := M1) hC (c_L_cell l hlt G M (i0 := 0) rfl (xs (6 * j + 1)) (xs (6 * j + 2)) (xs (6 * j + 3)) (i9 := 28) rfl q1) kw_yL_cell kml_102 kt_yL_cell kn_RLx ky_yL_cell rfl ⟨rfl, rfl⟩ ⟨Nat.le_of_ble_eq_true rfl, Nat.le_of_ble_eq_true rfl⟩ rfl (Nat.le_of_ble_eq_true rfl) ⟨by show k + 1 ≤ 601024; omega, by show n + 6 ≤ 7293034; omega⟩ dl_658 (fun _ => ?_)
  refine x_istore hC [(5, .int kk), (4, .int (nI (6 * j))), (0, .ref b), (1, .ref (G.2.1 0)), (2, .ref (G.2.1 69)), (3, .ref (G.2.1 28))] dl_661 (Nat.le_of_ble_eq_true rfl) rfl ?_
  refine x_aload_n hC dl_663 rfl 4 rfl ?_
  refine x_aload_n hC dl_664 rfl 2 rfl ?_
  refine x_iload hC dl_665 1 rfl ?_
  refine x_iconst hC (1 : Int32) dl_667 (by decide) ?_
  refine x_iadd hC dl_668 ?_
  refine x_topi (y := nI (6 * j + 1)) (n_add (6 * j) 1).symm ?_
  refine x_sld hC hX hbl hbA (i := 6 * j + 1) (by omega) hL dl_669 ?_
  refine x_aload_n hC dl_670 rfl 2 rfl ?_
  refine x_iload hC dl_671 1 rfl ?_
  refine x_iconst hC (2 : Int32) dl_673 (by decide) ?_
  refine x_iadd hC dl_674 ?_
  refine x_topi (y := nI (6 * j + 2)) (n_add (6 * j) 2).symm ?_
  refine x_sld hC hX hbl hbA (i := 6 * j + 2) (by omega) hL dl_675 ?_
  refine x_aload_n hC dl_676 rfl 2 rfl ?_
  refine x_iload hC dl_677 1 rfl ?_
  refine x_iconst hC (3 : Int32) dl_679 (by decide) ?_
  refine x_iadd hC dl_680 ?_
  refine x_topi (y := nI (6 * j + 3)) (n_add (6 * j) 3).symm ?_
  refine x_sld hC hX hbl hbA (i := 6 * j + 3) (by omega) hL dl_681 ?_
  refine x_callV (i := 69) (ci := 5) (q := (RX11, TX11, 32)) (As := [.int (xs (6 * j + 1)), .int (xs (6 * j + 2)), .int (xs (6 * j + 3))]) (M' := M2) hC (c_X11_cell l G M1 (i0 := 69) rfl (xs (6 * j + 1)) (xs (6 * j + 2)) (xs (6 * j + 3)) q2) kc_yX11_cell km_L_104 ki_yX11_cell kv_yX11_cell kn_RX11 ky_yX11_cell rfl ⟨rfl, rfl⟩ ⟨Nat.le_of_ble_eq_true rfl, Nat.le_of_ble_eq_true rfl⟩ rfl (by decide) rfl rfl (Nat.le_of_ble_eq_true rfl) ⟨by show k + 1 + 0 ≤ 601024; omega, by show n + 6 + 0 ≤ 7293034; omega⟩ dl_682 (fun _ => ?_)
  refine x_istore hC [(6, .int v), (5, .int kk), (4, .int (nI (6 * j))), (0, .ref b), (1, .ref (G.2.1 0)), (2, .ref (G.2.1 69)), (3, .ref (G.2.1 28))] dl_685 (Nat.le_of_ble_eq_true rfl) rfl ?_
  refine x_aload_n hC dl_687 rfl 5 rfl ?_
  refine x_callV (i := 69) (ci := 5) (q := (RX11, TX11, 32)) (As := []) (M' := M2) hC (c_X11_thrown l G M2 (i0 := 69) rfl (r := M2 69 0) rfl) kc_yX11_thrown km_L_72 ki_yX11_thrown kv_yX11_thrown kn_RX11 ky_yX11_thrown rfl ⟨rfl, rfl⟩ ⟨Nat.le_of_ble_eq_true rfl, Nat.le_of_ble_eq_true rfl⟩ rfl (by decide) rfl rfl (Nat.le_of_ble_eq_true rfl) ⟨by show k + 1 + 0 + 0 ≤ 601024; omega, by show n + 6 + 0 + 0 ≤ 7293034; omega⟩ dl_688 (fun _ => ?_)
  refine x_iload hC dl_691 1 rfl ?_
  refine x_icmp_eq hC 698 dl_693 (by decide) (fun _ => ?_) (fun h => absurd q3 h)
  refine x_iload hC dl_698 1 rfl ?_
  have F : XJ p l e room_1 s m args below meth c G 9 Q (k + 1 + 0 + 0) (n + 6 + 0 + 0) M2 715 [(6, .int v), (5, .int kk), (4, .int (nI (6 * j))), (0, .ref b), (1, .ref (G.2.1 0)), (2, .ref (G.2.1 69)), (3, .ref (G.2.1 28))] [] := by
    refine x_goto hC 1214 dl_715 (by decide) ?_
    refine x_sub [2, 3, 4, 5, 6] (lv' := [(4, .int (nI (6 * j))), (0, .ref b), (1, .ref (G.2.1 0)), (2, .ref (G.2.1 69)), (3, .ref (G.2.1 28))]) rfl ?_
    exact K _ _ _ (by omega) (by omega) (q5)
  refine x_if_ne hC 715 dl_700 (by decide) (fun _ => F) (fun h0 => ?_)
  refine x_aload_n hC dl_703 rfl 6 rfl ?_
  refine x_iconst hC (0 : Int32) dl_704 (by decide) ?_
  refine x_outld hC dl_705 ?_
  refine x_iload hC dl_706 0 rfl ?_
  refine x_i2l hC dl_708 ?_
  refine x_lcmp hC dl_709 ?_
  rw [q4 h0, lg_self]
  exact x_if_eq hC 715 dl_710 (by decide) (fun _ => F) (fun h => absurd rfl h)
set_option maxHeartbeats 4000000 in
theorem lc_9 (hC : CX p s m args meth c code 9 RL rt G) (hlt : l.stackTraces = false) (hE : G.2.2.2 = []) (hX : va_X b L xs s s.heap) (hbl : b < s.heap.size) (hbA : ¬ AF G s.heap.size b) (hL : L ≤ 3072) (hj : 6 * j + 6 ≤ L) (hk : k ≤ 100000) (hn : n ≤ 1000000) (hR : Rel (300 * j) M M) (K : ∀ k' n' M', k' ≤ k + 20 → n' ≤ n + 300 → Rel (300 * (j + 1)) M' M' → XJ p l e room_1 s m args below meth c G 9 Q k' n' M' 1214 [(4, .int (nI (6 * j))), (0, .ref b), (1, .ref (G.2.1 0)), (2, .ref (G.2.1 69)), (3, .ref (G.2.1 28))] []) : XJ p l e room_1 s m args below meth c G 9 Q k n M 718 [(4, .int (nI (6 * j))), (0, .ref b), (1, .ref (G.2.1 0)), (2, .ref (G.2.1 69)), (3, .ref (G.2.1 28))] [] := by
  obtain ⟨kk, M1, v, M2, q1, q2, q3, q4, q5⟩ := op_step (opr_mono (H2 := 300 * (j + 1)) (gang_ok_ (300 * j) (xs (6 * j + 1)) (xs (6 * j + 2))) (by omega)) hR
  have q1 : f_L_gang 0 (xs (6 * j + 1)) (xs (6 * j + 2)) 28 M = some (kk, M1) := q1
  have q2 : f_X11_gang_ 69 (xs (6 * j + 1)) (xs (6 * j + 2)) M1 = some (v, M2) := q2
  refine x_aload_n hC dl_718 rfl 2 rfl ?_
  refine x_aload_n hC dl_719 rfl 1 rfl ?_
  refine x_iload hC dl_720 0 rfl ?_
  refine x_iconst hC (1 : Int32) dl_722 (by decide) ?_
  refine x_iadd hC dl_723 ?_
  refine x_topi (y := nI (6 * j + 1)) (n_add (6 * j) 1).symm ?_
  refine x_sld hC hX hbl hbA (i := 6 * j + 1) (by omega) hL dl_724 ?_
  refine x_aload_n hC dl_725 rfl 1 rfl ?_
  refine x_iload hC dl_726 0 rfl ?_
  refine x_iconst hC (2 : Int32) dl_728 (by decide) ?_
  refine x_iadd hC dl_729 ?_
  refine x_topi (y := nI (6 * j + 2)) (n_add (6 * j) 2).symm ?_
  refine x_sld hC hX hbl hbA (i := 6 * j + 2) (by omega) hL dl_730 ?_
  refine x_aload_n hC dl_731 rfl 4 rfl ?_
  refine x_callSW (As := [.ref (G.2.1 0), .int (xs (6 * j + 1)), .int (xs (6 * j + 2)), .ref (G.2.1 28)]) (M' := M1) hC (c_L_gang l hlt G M (i0 := 0) rfl (xs (6 * j + 1)) (xs (6 * j + 2)) (i9 := 28) rfl q1) kw_yL_gang kml_105 kt_yL_gang kn_RLx ky_yL_gang rfl ⟨rfl, rfl⟩ ⟨Nat.le_of_ble_eq_true rfl, Nat.le_of_ble_eq_true rfl⟩ rfl (Nat.le_of_ble_eq_true rfl) ⟨by show k + 1 ≤ 601024; omega, by show n + 6 ≤ 7293034; omega⟩ dl_732 (fun _ => ?_)
  refine x_istore hC [(5, .int kk), (4, .int (nI (6 * j))), (0, .ref b), (1, .ref (G.2.1 0)), (2, .ref (G.2.1 69)), (3, .ref (G.2.1 28))] dl_735 (Nat.le_of_ble_eq_true rfl) rfl ?_
  refine x_aload_n hC dl_737 rfl 4 rfl ?_
  refine x_aload_n hC dl_738 rfl 2 rfl ?_
  refine x_iload hC dl_739 1 rfl ?_
  refine x_iconst hC (1 : Int32) dl_741 (by decide) ?_
  refine x_iadd hC dl_742 ?_
  refine x_topi (y := nI (6 * j + 1)) (n_add (6 * j) 1).symm ?_
  refine x_sld hC hX hbl hbA (i := 6 * j + 1) (by omega) hL dl_743 ?_
  refine x_aload_n hC dl_744 rfl 2 rfl ?_
  refine x_iload hC dl_745 1 rfl ?_
  refine x_iconst hC (2 : Int32) dl_747 (by decide) ?_
  refine x_iadd hC dl_748 ?_
  refine x_topi (y := nI (6 * j + 2)) (n_add (6 * j) 2).symm ?_
  refine x_sld hC hX hbl hbA (i := 6 * j + 2) (by omega) hL dl_749 ?_
  refine x_callV (i := 69) (ci := 5) (q := (RX11, TX11, 32)) (As := [.int (xs (6 * j + 1)), .int (xs (6 * j + 2))]) (M' := M2) hC (c_X11_gang_ l G M1 (i0 := 69) rfl (xs (6 * j + 1)) (xs (6 * j + 2)) q2) kc_yX11_gang_ km_L_108 ki_yX11_gang_ kv_yX11_gang_ kn_RX11 ky_yX11_gang_ rfl ⟨rfl, rfl⟩ ⟨Nat.le_of_ble_eq_true rfl, Nat.le_of_ble_eq_true rfl⟩ rfl (by decide) rfl rfl (Nat.le_of_ble_eq_true rfl) ⟨by show k + 1 + 0 ≤ 601024; omega, by show n + 6 + 0 ≤ 7293034; omega⟩ dl_750 (fun _ => ?_)
  refine x_istore hC [(6, .int v), (5, .int kk), (4, .int (nI (6 * j))), (0, .ref b), (1, .ref (G.2.1 0)), (2, .ref (G.2.1 69)), (3, .ref (G.2.1 28))] dl_753 (Nat.le_of_ble_eq_true rfl) rfl ?_
  refine x_aload_n hC dl_755 rfl 5 rfl ?_
  refine x_callV (i := 69) (ci := 5) (q := (RX11, TX11, 32)) (As := []) (M' := M2) hC (c_X11_thrown l G M2 (i0 := 69) rfl (r := M2 69 0) rfl) kc_yX11_thrown km_L_72 ki_yX11_thrown kv_yX11_thrown kn_RX11 ky_yX11_thrown rfl ⟨rfl, rfl⟩ ⟨Nat.le_of_ble_eq_true rfl, Nat.le_of_ble_eq_true rfl⟩ rfl (by decide) rfl rfl (Nat.le_of_ble_eq_true rfl) ⟨by show k + 1 + 0 + 0 ≤ 601024; omega, by show n + 6 + 0 + 0 ≤ 7293034; omega⟩ dl_756 (fun _ => ?_)
  refine x_iload hC dl_759 1 rfl ?_
  refine x_icmp_eq hC 766 dl_761 (by decide) (fun _ => ?_) (fun h => absurd q3 h)
  refine x_iload hC dl_766 1 rfl ?_
  have F : XJ p l e room_1 s m args below meth c G 9 Q (k + 1 + 0 + 0) (n + 6 + 0 + 0) M2 783 [(6, .int v), (5, .int kk), (4, .int (nI (6 * j))), (0, .ref b), (1, .ref (G.2.1 0)), (2, .ref (G.2.1 69)), (3, .ref (G.2.1 28))] [] := by
    refine x_goto hC 1214 dl_783 (by decide) ?_
    refine x_sub [2, 3, 4, 5, 6] (lv' := [(4, .int (nI (6 * j))), (0, .ref b), (1, .ref (G.2.1 0)), (2, .ref (G.2.1 69)), (3, .ref (G.2.1 28))]) rfl ?_
    exact K _ _ _ (by omega) (by omega) (q5)
  refine x_if_ne hC 783 dl_768 (by decide) (fun _ => F) (fun h0 => ?_)
  refine x_aload_n hC dl_771 rfl 6 rfl ?_
  refine x_iconst hC (0 : Int32) dl_772 (by decide) ?_
  refine x_outld hC dl_773 ?_
  refine x_iload hC dl_774 0 rfl ?_
  refine x_i2l hC dl_776 ?_
  refine x_lcmp hC dl_777 ?_
  rw [q4 h0, lg_self]
  exact x_if_eq hC 783 dl_778 (by decide) (fun _ => F) (fun h => absurd rfl h)
set_option maxHeartbeats 4000000 in
theorem lc_10 (hC : CX p s m args meth c code 9 RL rt G) (hlt : l.stackTraces = false) (hE : G.2.2.2 = []) (hX : va_X b L xs s s.heap) (hbl : b < s.heap.size) (hbA : ¬ AF G s.heap.size b) (hL : L ≤ 3072) (hj : 6 * j + 6 ≤ L) (hk : k ≤ 100000) (hn : n ≤ 1000000) (hR : Rel (300 * j) M M) (K : ∀ k' n' M', k' ≤ k + 20 → n' ≤ n + 300 → Rel (300 * (j + 1)) M' M' → XJ p l e room_1 s m args below meth c G 9 Q k' n' M' 1214 [(4, .int (nI (6 * j))), (0, .ref b), (1, .ref (G.2.1 0)), (2, .ref (G.2.1 69)), (3, .ref (G.2.1 28))] []) : XJ p l e room_1 s m args below meth c G 9 Q k n M 786 [(4, .int (nI (6 * j))), (0, .ref b), (1, .ref (G.2.1 0)), (2, .ref (G.2.1 69)), (3, .ref (G.2.1 28))] [] := by
  obtain ⟨kk, M1, v, M2, q1, q2, q3, q4, q5⟩ := op_step (opr_mono (H2 := 300 * (j + 1)) (pass_ok (300 * j) (by omega) (xs (6 * j + 1))) (by omega)) hR
  have q1 : f_L_pass 0 (xs (6 * j + 1)) 28 M = some (kk, M1) := q1
  have q2 : f_X11_pass 69 (xs (6 * j + 1)) M1 = some (v, M2) := q2
  refine x_aload_n hC dl_786 rfl 2 rfl ?_
  refine x_aload_n hC dl_787 rfl 1 rfl ?_
  refine x_iload hC dl_788 0 rfl ?_
  refine x_iconst hC (1 : Int32) dl_790 (by decide) ?_
  refine x_iadd hC dl_791 ?_
  refine x_topi (y := nI (6 * j + 1)) (n_add (6 * j) 1).symm ?_
  refine x_sld hC hX hbl hbA (i := 6 * j + 1) (by omega) hL dl_792 ?_
  refine x_aload_n hC dl_793 rfl 4 rfl ?_
  refine x_callSW (As := [.ref (G.2.1 0), .int (xs (6 * j + 1)), .ref (G.2.1 28)]) (M' := M1) hC (c_L_pass l hlt G M (i0 := 0) rfl (xs (6 * j + 1)) (i9 := 28) rfl q1) kw_yL_pass kml_109 kt_yL_pass kn_RLx ky_yL_pass rfl ⟨rfl, rfl⟩ ⟨Nat.le_of_ble_eq_true rfl, Nat.le_of_ble_eq_true rfl⟩ rfl (Nat.le_of_ble_eq_true rfl) ⟨by show k + 1 ≤ 601024; omega, by show n + 6 ≤ 7293034; omega⟩ dl_794 (fun _ => ?_)
  refine x_istore hC [(5, .int kk), (4, .int (nI (6 * j))), (0, .ref b), (1, .ref (G.2.1 0)), (2, .ref (G.2.1 69)), (3, .ref (G.2.1 28))] dl_797 (Nat.le_of_ble_eq_true rfl) rfl ?_
  refine x_aload_n hC dl_799 rfl 4 rfl ?_
  refine x_aload_n hC dl_800 rfl 2 rfl ?_
  refine x_iload hC dl_801 1 rfl ?_
  refine x_iconst hC (1 : Int32) dl_803 (by decide) ?_
  refine x_iadd hC dl_804 ?_
  refine x_topi (y := nI (6 * j + 1)) (n_add (6 * j) 1).symm ?_
  refine x_sld hC hX hbl hbA (i := 6 * j + 1) (by omega) hL dl_805 ?_
  refine x_callV (i := 69) (ci := 5) (q := (RX11, TX11, 32)) (As := [.int (xs (6 * j + 1))]) (M' := M2) hC (c_X11_pass l G M1 (i0 := 69) rfl (xs (6 * j + 1)) q2) kc_yX11_pass km_L_111 ki_yX11_pass kv_yX11_pass kn_RX11 ky_yX11_pass rfl ⟨rfl, rfl⟩ ⟨Nat.le_of_ble_eq_true rfl, Nat.le_of_ble_eq_true rfl⟩ rfl (by decide) rfl rfl (Nat.le_of_ble_eq_true rfl) ⟨by show k + 1 + 0 ≤ 601024; omega, by show n + 6 + 0 ≤ 7293034; omega⟩ dl_806 (fun _ => ?_)
  refine x_istore hC [(6, .int v), (5, .int kk), (4, .int (nI (6 * j))), (0, .ref b), (1, .ref (G.2.1 0)), (2, .ref (G.2.1 69)), (3, .ref (G.2.1 28))] dl_809 (Nat.le_of_ble_eq_true rfl) rfl ?_
  refine x_aload_n hC dl_811 rfl 5 rfl ?_
  refine x_callV (i := 69) (ci := 5) (q := (RX11, TX11, 32)) (As := []) (M' := M2) hC (c_X11_thrown l G M2 (i0 := 69) rfl (r := M2 69 0) rfl) kc_yX11_thrown km_L_72 ki_yX11_thrown kv_yX11_thrown kn_RX11 ky_yX11_thrown rfl ⟨rfl, rfl⟩ ⟨Nat.le_of_ble_eq_true rfl, Nat.le_of_ble_eq_true rfl⟩ rfl (by decide) rfl rfl (Nat.le_of_ble_eq_true rfl) ⟨by show k + 1 + 0 + 0 ≤ 601024; omega, by show n + 6 + 0 + 0 ≤ 7293034; omega⟩ dl_812 (fun _ => ?_)
  refine x_iload hC dl_815 1 rfl ?_
  refine x_icmp_eq hC 822 dl_817 (by decide) (fun _ => ?_) (fun h => absurd q3 h)
  refine x_iload hC dl_822 1 rfl ?_
  have F : XJ p l e room_1 s m args below meth c G 9 Q (k + 1 + 0 + 0) (n + 6 + 0 + 0) M2 839 [(6, .int v), (5, .int kk), (4, .int (nI (6 * j))), (0, .ref b), (1, .ref (G.2.1 0)), (2, .ref (G.2.1 69)), (3, .ref (G.2.1 28))] [] := by
    refine x_goto hC 1214 dl_839 (by decide) ?_
    refine x_sub [2, 3, 4, 5, 6] (lv' := [(4, .int (nI (6 * j))), (0, .ref b), (1, .ref (G.2.1 0)), (2, .ref (G.2.1 69)), (3, .ref (G.2.1 28))]) rfl ?_
    exact K _ _ _ (by omega) (by omega) (q5)
  refine x_if_ne hC 839 dl_824 (by decide) (fun _ => F) (fun h0 => ?_)
  refine x_aload_n hC dl_827 rfl 6 rfl ?_
  refine x_iconst hC (0 : Int32) dl_828 (by decide) ?_
  refine x_outld hC dl_829 ?_
  refine x_iload hC dl_830 0 rfl ?_
  refine x_i2l hC dl_832 ?_
  refine x_lcmp hC dl_833 ?_
  rw [q4 h0, lg_self]
  exact x_if_eq hC 839 dl_834 (by decide) (fun _ => F) (fun h => absurd rfl h)
set_option maxHeartbeats 4000000 in
theorem lc_11 (hC : CX p s m args meth c code 9 RL rt G) (hlt : l.stackTraces = false) (hE : G.2.2.2 = []) (hX : va_X b L xs s s.heap) (hbl : b < s.heap.size) (hbA : ¬ AF G s.heap.size b) (hL : L ≤ 3072) (hj : 6 * j + 6 ≤ L) (hk : k ≤ 100000) (hn : n ≤ 1000000) (hR : Rel (300 * j) M M) (K : ∀ k' n' M', k' ≤ k + 20 → n' ≤ n + 300 → Rel (300 * (j + 1)) M' M' → XJ p l e room_1 s m args below meth c G 9 Q k' n' M' 1214 [(4, .int (nI (6 * j))), (0, .ref b), (1, .ref (G.2.1 0)), (2, .ref (G.2.1 69)), (3, .ref (G.2.1 28))] []) : XJ p l e room_1 s m args below meth c G 9 Q k n M 842 [(4, .int (nI (6 * j))), (0, .ref b), (1, .ref (G.2.1 0)), (2, .ref (G.2.1 69)), (3, .ref (G.2.1 28))] [] := by
  obtain ⟨kk, M1, v, M2, q1, q2, q3, q4, q5⟩ := op_step (opr_mono (H2 := 300 * (j + 1)) (foresee_ok (300 * j) (by omega) (xs (6 * j + 1)) (xs (6 * j + 2))) (by omega)) hR
  have q1 : f_L_foresee 0 (xs (6 * j + 1)) (xs (6 * j + 2)) 28 M = some (kk, M1) := q1
  have q2 : f_X11_foresee 69 (xs (6 * j + 1)) (xs (6 * j + 2)) M1 = some (v, M2) := q2
  refine x_aload_n hC dl_842 rfl 2 rfl ?_
  refine x_aload_n hC dl_843 rfl 1 rfl ?_
  refine x_iload hC dl_844 0 rfl ?_
  refine x_iconst hC (1 : Int32) dl_846 (by decide) ?_
  refine x_iadd hC dl_847 ?_
  refine x_topi (y := nI (6 * j + 1)) (n_add (6 * j) 1).symm ?_
  refine x_sld hC hX hbl hbA (i := 6 * j + 1) (by omega) hL dl_848 ?_
  refine x_aload_n hC dl_849 rfl 1 rfl ?_
  refine x_iload hC dl_850 0 rfl ?_
  refine x_iconst hC (2 : Int32) dl_852 (by decide) ?_
  refine x_iadd hC dl_853 ?_
  refine x_topi (y := nI (6 * j + 2)) (n_add (6 * j) 2).symm ?_
  refine x_sld hC hX hbl hbA (i := 6 * j + 2) (by omega) hL dl_854 ?_
  refine x_aload_n hC dl_855 rfl 4 rfl ?_
  refine x_callSW (As := [.ref (G.2.1 0), .int (xs (6 * j + 1)), .int (xs (6 * j + 2)), .ref (G.2.1 28)]) (M' := M1) hC (c_L_foresee l hlt G M (i0 := 0) rfl (xs (6 * j + 1)) (xs (6 * j + 2)) (i9 := 28) rfl q1) kw_yL_foresee kml_112 kt_yL_foresee kn_RLx ky_yL_foresee rfl ⟨rfl, rfl⟩ ⟨Nat.le_of_ble_eq_true rfl, Nat.le_of_ble_eq_true rfl⟩ rfl (Nat.le_of_ble_eq_true rfl) ⟨by show k + 1 ≤ 601024; omega, by show n + 6 ≤ 7293034; omega⟩ dl_856 (fun _ => ?_)
  refine x_istore hC [(5, .int kk), (4, .int (nI (6 * j))), (0, .ref b), (1, .ref (G.2.1 0)), (2, .ref (G.2.1 69)), (3, .ref (G.2.1 28))] dl_859 (Nat.le_of_ble_eq_true rfl) rfl ?_
  refine x_aload_n hC dl_861 rfl 4 rfl ?_
  refine x_aload_n hC dl_862 rfl 2 rfl ?_
  refine x_iload hC dl_863 1 rfl ?_
  refine x_iconst hC (1 : Int32) dl_865 (by decide) ?_
  refine x_iadd hC dl_866 ?_
  refine x_topi (y := nI (6 * j + 1)) (n_add (6 * j) 1).symm ?_
  refine x_sld hC hX hbl hbA (i := 6 * j + 1) (by omega) hL dl_867 ?_
  refine x_aload_n hC dl_868 rfl 2 rfl ?_
  refine x_iload hC dl_869 1 rfl ?_
  refine x_iconst hC (2 : Int32) dl_871 (by decide) ?_
  refine x_iadd hC dl_872 ?_
  refine x_topi (y := nI (6 * j + 2)) (n_add (6 * j) 2).symm ?_
  refine x_sld hC hX hbl hbA (i := 6 * j + 2) (by omega) hL dl_873 ?_
  refine x_callV (i := 69) (ci := 5) (q := (RX11, TX11, 32)) (As := [.int (xs (6 * j + 1)), .int (xs (6 * j + 2))]) (M' := M2) hC (c_X11_foresee l G M1 (i0 := 69) rfl (xs (6 * j + 1)) (xs (6 * j + 2)) q2) kc_yX11_foresee km_L_114 ki_yX11_foresee kv_yX11_foresee kn_RX11 ky_yX11_foresee rfl ⟨rfl, rfl⟩ ⟨Nat.le_of_ble_eq_true rfl, Nat.le_of_ble_eq_true rfl⟩ rfl (by decide) rfl rfl (Nat.le_of_ble_eq_true rfl) ⟨by show k + 1 + 0 ≤ 601024; omega, by show n + 6 + 0 ≤ 7293034; omega⟩ dl_874 (fun _ => ?_)
  refine x_istore hC [(6, .int v), (5, .int kk), (4, .int (nI (6 * j))), (0, .ref b), (1, .ref (G.2.1 0)), (2, .ref (G.2.1 69)), (3, .ref (G.2.1 28))] dl_877 (Nat.le_of_ble_eq_true rfl) rfl ?_
  refine x_aload_n hC dl_879 rfl 5 rfl ?_
  refine x_callV (i := 69) (ci := 5) (q := (RX11, TX11, 32)) (As := []) (M' := M2) hC (c_X11_thrown l G M2 (i0 := 69) rfl (r := M2 69 0) rfl) kc_yX11_thrown km_L_72 ki_yX11_thrown kv_yX11_thrown kn_RX11 ky_yX11_thrown rfl ⟨rfl, rfl⟩ ⟨Nat.le_of_ble_eq_true rfl, Nat.le_of_ble_eq_true rfl⟩ rfl (by decide) rfl rfl (Nat.le_of_ble_eq_true rfl) ⟨by show k + 1 + 0 + 0 ≤ 601024; omega, by show n + 6 + 0 + 0 ≤ 7293034; omega⟩ dl_880 (fun _ => ?_)
  refine x_iload hC dl_883 1 rfl ?_
  refine x_icmp_eq hC 890 dl_885 (by decide) (fun _ => ?_) (fun h => absurd q3 h)
  refine x_iload hC dl_890 1 rfl ?_
  have F : XJ p l e room_1 s m args below meth c G 9 Q (k + 1 + 0 + 0) (n + 6 + 0 + 0) M2 907 [(6, .int v), (5, .int kk), (4, .int (nI (6 * j))), (0, .ref b), (1, .ref (G.2.1 0)), (2, .ref (G.2.1 69)), (3, .ref (G.2.1 28))] [] := by
    refine x_goto hC 1214 dl_907 (by decide) ?_
    refine x_sub [2, 3, 4, 5, 6] (lv' := [(4, .int (nI (6 * j))), (0, .ref b), (1, .ref (G.2.1 0)), (2, .ref (G.2.1 69)), (3, .ref (G.2.1 28))]) rfl ?_
    exact K _ _ _ (by omega) (by omega) (q5)
  refine x_if_ne hC 907 dl_892 (by decide) (fun _ => F) (fun h0 => ?_)
  refine x_aload_n hC dl_895 rfl 6 rfl ?_
  refine x_iconst hC (0 : Int32) dl_896 (by decide) ?_
  refine x_outld hC dl_897 ?_
  refine x_iload hC dl_898 0 rfl ?_
  refine x_i2l hC dl_900 ?_
  refine x_lcmp hC dl_901 ?_
  rw [q4 h0, lg_self]
  exact x_if_eq hC 907 dl_902 (by decide) (fun _ => F) (fun h => absurd rfl h)
set_option maxHeartbeats 4000000 in
theorem lc_12 (hC : CX p s m args meth c code 9 RL rt G) (hlt : l.stackTraces = false) (hE : G.2.2.2 = []) (hX : va_X b L xs s s.heap) (hbl : b < s.heap.size) (hbA : ¬ AF G s.heap.size b) (hL : L ≤ 3072) (hj : 6 * j + 6 ≤ L) (hk : k ≤ 100000) (hn : n ≤ 1000000) (hR : Rel (300 * j) M M) (K : ∀ k' n' M', k' ≤ k + 20 → n' ≤ n + 300 → Rel (300 * (j + 1)) M' M' → XJ p l e room_1 s m args below meth c G 9 Q k' n' M' 1214 [(4, .int (nI (6 * j))), (0, .ref b), (1, .ref (G.2.1 0)), (2, .ref (G.2.1 69)), (3, .ref (G.2.1 28))] []) : XJ p l e room_1 s m args below meth c G 9 Q k n M 910 [(4, .int (nI (6 * j))), (0, .ref b), (1, .ref (G.2.1 0)), (2, .ref (G.2.1 69)), (3, .ref (G.2.1 28))] [] := by
  obtain ⟨kk, M1, v, M2, q1, q2, q3, q4, q5⟩ := op_step (opr_mono (H2 := 300 * (j + 1)) (dries_ok (300 * j) (by omega) (xs (6 * j + 1)) (xs (6 * j + 2))) (by omega)) hR
  have q1 : f_L_dries 0 (xs (6 * j + 1)) (xs (6 * j + 2)) 28 M = some (kk, M1) := q1
  have q2 : f_X11_dries 69 (xs (6 * j + 1)) (xs (6 * j + 2)) M1 = some (v, M2) := q2
  refine x_aload_n hC dl_910 rfl 2 rfl ?_
  refine x_aload_n hC dl_911 rfl 1 rfl ?_
  refine x_iload hC dl_912 0 rfl ?_
  refine x_iconst hC (1 : Int32) dl_914 (by decide) ?_
  refine x_iadd hC dl_915 ?_
  refine x_topi (y := nI (6 * j + 1)) (n_add (6 * j) 1).symm ?_
  refine x_sld hC hX hbl hbA (i := 6 * j + 1) (by omega) hL dl_916 ?_
  refine x_aload_n hC dl_917 rfl 1 rfl ?_
  refine x_iload hC dl_918 0 rfl ?_
  refine x_iconst hC (2 : Int32) dl_920 (by decide) ?_
  refine x_iadd hC dl_921 ?_
  refine x_topi (y := nI (6 * j + 2)) (n_add (6 * j) 2).symm ?_
  refine x_sld hC hX hbl hbA (i := 6 * j + 2) (by omega) hL dl_922 ?_
  refine x_aload_n hC dl_923 rfl 4 rfl ?_
  refine x_callSW (As := [.ref (G.2.1 0), .int (xs (6 * j + 1)), .int (xs (6 * j + 2)), .ref (G.2.1 28)]) (M' := M1) hC (c_L_dries l hlt G M (i0 := 0) rfl (xs (6 * j + 1)) (xs (6 * j + 2)) (i9 := 28) rfl q1) kw_yL_dries kml_115 kt_yL_dries kn_RLx ky_yL_dries rfl ⟨rfl, rfl⟩ ⟨Nat.le_of_ble_eq_true rfl, Nat.le_of_ble_eq_true rfl⟩ rfl (Nat.le_of_ble_eq_true rfl) ⟨by show k + 1 ≤ 601024; omega, by show n + 6 ≤ 7293034; omega⟩ dl_924 (fun _ => ?_)
  refine x_istore hC [(5, .int kk), (4, .int (nI (6 * j))), (0, .ref b), (1, .ref (G.2.1 0)), (2, .ref (G.2.1 69)), (3, .ref (G.2.1 28))] dl_927 (Nat.le_of_ble_eq_true rfl) rfl ?_
  refine x_aload_n hC dl_929 rfl 4 rfl ?_
  refine x_aload_n hC dl_930 rfl 2 rfl ?_
  refine x_iload hC dl_931 1 rfl ?_
  refine x_iconst hC (1 : Int32) dl_933 (by decide) ?_
  refine x_iadd hC dl_934 ?_
  refine x_topi (y := nI (6 * j + 1)) (n_add (6 * j) 1).symm ?_
  refine x_sld hC hX hbl hbA (i := 6 * j + 1) (by omega) hL dl_935 ?_
  refine x_aload_n hC dl_936 rfl 2 rfl ?_
  refine x_iload hC dl_937 1 rfl ?_
  refine x_iconst hC (2 : Int32) dl_939 (by decide) ?_
  refine x_iadd hC dl_940 ?_
  refine x_topi (y := nI (6 * j + 2)) (n_add (6 * j) 2).symm ?_
  refine x_sld hC hX hbl hbA (i := 6 * j + 2) (by omega) hL dl_941 ?_
  refine x_callV (i := 69) (ci := 5) (q := (RX11, TX11, 32)) (As := [.int (xs (6 * j + 1)), .int (xs (6 * j + 2))]) (M' := M2) hC (c_X11_dries l G M1 (i0 := 69) rfl (xs (6 * j + 1)) (xs (6 * j + 2)) q2) kc_yX11_dries km_L_117 ki_yX11_dries kv_yX11_dries kn_RX11 ky_yX11_dries rfl ⟨rfl, rfl⟩ ⟨Nat.le_of_ble_eq_true rfl, Nat.le_of_ble_eq_true rfl⟩ rfl (by decide) rfl rfl (Nat.le_of_ble_eq_true rfl) ⟨by show k + 1 + 0 ≤ 601024; omega, by show n + 6 + 0 ≤ 7293034; omega⟩ dl_942 (fun _ => ?_)
  refine x_istore hC [(6, .int v), (5, .int kk), (4, .int (nI (6 * j))), (0, .ref b), (1, .ref (G.2.1 0)), (2, .ref (G.2.1 69)), (3, .ref (G.2.1 28))] dl_945 (Nat.le_of_ble_eq_true rfl) rfl ?_
  refine x_aload_n hC dl_947 rfl 5 rfl ?_
  refine x_callV (i := 69) (ci := 5) (q := (RX11, TX11, 32)) (As := []) (M' := M2) hC (c_X11_thrown l G M2 (i0 := 69) rfl (r := M2 69 0) rfl) kc_yX11_thrown km_L_72 ki_yX11_thrown kv_yX11_thrown kn_RX11 ky_yX11_thrown rfl ⟨rfl, rfl⟩ ⟨Nat.le_of_ble_eq_true rfl, Nat.le_of_ble_eq_true rfl⟩ rfl (by decide) rfl rfl (Nat.le_of_ble_eq_true rfl) ⟨by show k + 1 + 0 + 0 ≤ 601024; omega, by show n + 6 + 0 + 0 ≤ 7293034; omega⟩ dl_948 (fun _ => ?_)
  refine x_iload hC dl_951 1 rfl ?_
  refine x_icmp_eq hC 958 dl_953 (by decide) (fun _ => ?_) (fun h => absurd q3 h)
  refine x_iload hC dl_958 1 rfl ?_
  have F : XJ p l e room_1 s m args below meth c G 9 Q (k + 1 + 0 + 0) (n + 6 + 0 + 0) M2 975 [(6, .int v), (5, .int kk), (4, .int (nI (6 * j))), (0, .ref b), (1, .ref (G.2.1 0)), (2, .ref (G.2.1 69)), (3, .ref (G.2.1 28))] [] := by
    refine x_goto hC 1214 dl_975 (by decide) ?_
    refine x_sub [2, 3, 4, 5, 6] (lv' := [(4, .int (nI (6 * j))), (0, .ref b), (1, .ref (G.2.1 0)), (2, .ref (G.2.1 69)), (3, .ref (G.2.1 28))]) rfl ?_
    exact K _ _ _ (by omega) (by omega) (q5)
  refine x_if_ne hC 975 dl_960 (by decide) (fun _ => F) (fun h0 => ?_)
  refine x_aload_n hC dl_963 rfl 6 rfl ?_
  refine x_iconst hC (0 : Int32) dl_964 (by decide) ?_
  refine x_outld hC dl_965 ?_
  refine x_iload hC dl_966 0 rfl ?_
  refine x_i2l hC dl_968 ?_
  refine x_lcmp hC dl_969 ?_
  rw [q4 h0, lg_self]
  exact x_if_eq hC 975 dl_970 (by decide) (fun _ => F) (fun h => absurd rfl h)
set_option maxHeartbeats 4000000 in
theorem lc_13 (hC : CX p s m args meth c code 9 RL rt G) (hlt : l.stackTraces = false) (hE : G.2.2.2 = []) (hX : va_X b L xs s s.heap) (hbl : b < s.heap.size) (hbA : ¬ AF G s.heap.size b) (hL : L ≤ 3072) (hj : 6 * j + 6 ≤ L) (hk : k ≤ 100000) (hn : n ≤ 1000000) (hR : Rel (300 * j) M M) (K : ∀ k' n' M', k' ≤ k + 20 → n' ≤ n + 300 → Rel (300 * (j + 1)) M' M' → XJ p l e room_1 s m args below meth c G 9 Q k' n' M' 1214 [(4, .int (nI (6 * j))), (0, .ref b), (1, .ref (G.2.1 0)), (2, .ref (G.2.1 69)), (3, .ref (G.2.1 28))] []) : XJ p l e room_1 s m args below meth c G 9 Q k n M 978 [(4, .int (nI (6 * j))), (0, .ref b), (1, .ref (G.2.1 0)), (2, .ref (G.2.1 69)), (3, .ref (G.2.1 28))] [] := by
  obtain ⟨kk, M1, v, M2, q1, q2, q3, q4, q5⟩ := op_step (opr_mono (H2 := 300 * (j + 1)) (done_ok (300 * j) (by omega) (xs (6 * j + 1))) (by omega)) hR
  have q1 : f_L_done 0 (xs (6 * j + 1)) 28 M = some (kk, M1) := q1
  have q2 : f_X11_done 69 (xs (6 * j + 1)) M1 = some (v, M2) := q2
  refine x_aload_n hC dl_978 rfl 2 rfl ?_
  refine x_aload_n hC dl_979 rfl 1 rfl ?_
  refine x_iload hC dl_980 0 rfl ?_
  refine x_iconst hC (1 : Int32) dl_982 (by decide) ?_
  refine x_iadd hC dl_983 ?_
  refine x_topi (y := nI (6 * j + 1)) (n_add (6 * j) 1).symm ?_
  refine x_sld hC hX hbl hbA (i := 6 * j + 1) (by omega) hL dl_984 ?_
  refine x_aload_n hC dl_985 rfl 4 rfl ?_
  refine x_callSW (As := [.ref (G.2.1 0), .int (xs (6 * j + 1)), .ref (G.2.1 28)]) (M' := M1) hC (c_L_done l hlt G M (i0 := 0) rfl (xs (6 * j + 1)) (i9 := 28) rfl q1) kw_yL_done kml_118 kt_yL_done kn_RLx ky_yL_done rfl ⟨rfl, rfl⟩ ⟨Nat.le_of_ble_eq_true rfl, Nat.le_of_ble_eq_true rfl⟩ rfl (Nat.le_of_ble_eq_true rfl) ⟨by show k + 1 ≤ 601024; omega, by show n + 6 ≤ 7293034; omega⟩ dl_986 (fun _ => ?_)
  refine x_istore hC [(5, .int kk), (4, .int (nI (6 * j))), (0, .ref b), (1, .ref (G.2.1 0)), (2, .ref (G.2.1 69)), (3, .ref (G.2.1 28))] dl_989 (Nat.le_of_ble_eq_true rfl) rfl ?_
  refine x_aload_n hC dl_991 rfl 4 rfl ?_
  refine x_aload_n hC dl_992 rfl 2 rfl ?_
  refine x_iload hC dl_993 1 rfl ?_
  refine x_iconst hC (1 : Int32) dl_995 (by decide) ?_
  refine x_iadd hC dl_996 ?_
  refine x_topi (y := nI (6 * j + 1)) (n_add (6 * j) 1).symm ?_
  refine x_sld hC hX hbl hbA (i := 6 * j + 1) (by omega) hL dl_997 ?_
  refine x_callV (i := 69) (ci := 5) (q := (RX11, TX11, 32)) (As := [.int (xs (6 * j + 1))]) (M' := M2) hC (c_X11_done l G M1 (i0 := 69) rfl (xs (6 * j + 1)) q2) kc_yX11_done km_L_120 ki_yX11_done kv_yX11_done kn_RX11 ky_yX11_done rfl ⟨rfl, rfl⟩ ⟨Nat.le_of_ble_eq_true rfl, Nat.le_of_ble_eq_true rfl⟩ rfl (by decide) rfl rfl (Nat.le_of_ble_eq_true rfl) ⟨by show k + 1 + 0 ≤ 601024; omega, by show n + 6 + 0 ≤ 7293034; omega⟩ dl_998 (fun _ => ?_)
  refine x_istore hC [(6, .int v), (5, .int kk), (4, .int (nI (6 * j))), (0, .ref b), (1, .ref (G.2.1 0)), (2, .ref (G.2.1 69)), (3, .ref (G.2.1 28))] dl_1001 (Nat.le_of_ble_eq_true rfl) rfl ?_
  refine x_aload_n hC dl_1003 rfl 5 rfl ?_
  refine x_callV (i := 69) (ci := 5) (q := (RX11, TX11, 32)) (As := []) (M' := M2) hC (c_X11_thrown l G M2 (i0 := 69) rfl (r := M2 69 0) rfl) kc_yX11_thrown km_L_72 ki_yX11_thrown kv_yX11_thrown kn_RX11 ky_yX11_thrown rfl ⟨rfl, rfl⟩ ⟨Nat.le_of_ble_eq_true rfl, Nat.le_of_ble_eq_true rfl⟩ rfl (by decide) rfl rfl (Nat.le_of_ble_eq_true rfl) ⟨by show k + 1 + 0 + 0 ≤ 601024; omega, by show n + 6 + 0 + 0 ≤ 7293034; omega⟩ dl_1004 (fun _ => ?_)
  refine x_iload hC dl_1007 1 rfl ?_
  refine x_icmp_eq hC 1014 dl_1009 (by decide) (fun _ => ?_) (fun h => absurd q3 h)
  refine x_iload hC dl_1014 1 rfl ?_
  have F : XJ p l e room_1 s m args below meth c G 9 Q (k + 1 + 0 + 0) (n + 6 + 0 + 0) M2 1031 [(6, .int v), (5, .int kk), (4, .int (nI (6 * j))), (0, .ref b), (1, .ref (G.2.1 0)), (2, .ref (G.2.1 69)), (3, .ref (G.2.1 28))] [] := by
    refine x_goto hC 1214 dl_1031 (by decide) ?_
    refine x_sub [2, 3, 4, 5, 6] (lv' := [(4, .int (nI (6 * j))), (0, .ref b), (1, .ref (G.2.1 0)), (2, .ref (G.2.1 69)), (3, .ref (G.2.1 28))]) rfl ?_
    exact K _ _ _ (by omega) (by omega) (q5)
  refine x_if_ne hC 1031 dl_1016 (by decide) (fun _ => F) (fun h0 => ?_)
  refine x_aload_n hC dl_1019 rfl 6 rfl ?_
  refine x_iconst hC (0 : Int32) dl_1020 (by decide) ?_
  refine x_outld hC dl_1021 ?_
  refine x_iload hC dl_1022 0 rfl ?_
  refine x_i2l hC dl_1024 ?_
  refine x_lcmp hC dl_1025 ?_
  rw [q4 h0, lg_self]
  exact x_if_eq hC 1031 dl_1026 (by decide) (fun _ => F) (fun h => absurd rfl h)
set_option maxHeartbeats 4000000 in
theorem lc_14 (hC : CX p s m args meth c code 9 RL rt G) (hlt : l.stackTraces = false) (hE : G.2.2.2 = []) (hX : va_X b L xs s s.heap) (hbl : b < s.heap.size) (hbA : ¬ AF G s.heap.size b) (hL : L ≤ 3072) (hj : 6 * j + 6 ≤ L) (hk : k ≤ 100000) (hn : n ≤ 1000000) (hR : Rel (300 * j) M M) (K : ∀ k' n' M', k' ≤ k + 20 → n' ≤ n + 300 → Rel (300 * (j + 1)) M' M' → XJ p l e room_1 s m args below meth c G 9 Q k' n' M' 1214 [(4, .int (nI (6 * j))), (0, .ref b), (1, .ref (G.2.1 0)), (2, .ref (G.2.1 69)), (3, .ref (G.2.1 28))] []) : XJ p l e room_1 s m args below meth c G 9 Q k n M 1034 [(4, .int (nI (6 * j))), (0, .ref b), (1, .ref (G.2.1 0)), (2, .ref (G.2.1 69)), (3, .ref (G.2.1 28))] [] := by
  obtain ⟨kk, M1, v, M2, q1, q2, q3, q4, q5⟩ := op_step (opr_mono (H2 := 300 * (j + 1)) (advise_ok (300 * j) (by omega) (xs (6 * j + 1))) (by omega)) hR
  have q1 : f_L_advise 0 (xs (6 * j + 1)) 28 M = some (kk, M1) := q1
  have q2 : f_X11_advise 69 (xs (6 * j + 1)) M1 = some (v, M2) := q2
  refine x_aload_n hC dl_1034 rfl 2 rfl ?_
  refine x_aload_n hC dl_1035 rfl 1 rfl ?_
  refine x_iload hC dl_1036 0 rfl ?_
  refine x_iconst hC (1 : Int32) dl_1038 (by decide) ?_
  refine x_iadd hC dl_1039 ?_
  refine x_topi (y := nI (6 * j + 1)) (n_add (6 * j) 1).symm ?_
  refine x_sld hC hX hbl hbA (i := 6 * j + 1) (by omega) hL dl_1040 ?_
  refine x_aload_n hC dl_1041 rfl 4 rfl ?_
  refine x_callSW (As := [.ref (G.2.1 0), .int (xs (6 * j + 1)), .ref (G.2.1 28)]) (M' := M1) hC (c_L_advise l hlt G M (i0 := 0) rfl (xs (6 * j + 1)) (i9 := 28) rfl q1) kw_yL_advise kml_121 kt_yL_advise kn_RLx ky_yL_advise rfl ⟨rfl, rfl⟩ ⟨Nat.le_of_ble_eq_true rfl, Nat.le_of_ble_eq_true rfl⟩ rfl (Nat.le_of_ble_eq_true rfl) ⟨by show k + 1 ≤ 601024; omega, by show n + 6 ≤ 7293034; omega⟩ dl_1042 (fun _ => ?_)
  refine x_istore hC [(5, .int kk), (4, .int (nI (6 * j))), (0, .ref b), (1, .ref (G.2.1 0)), (2, .ref (G.2.1 69)), (3, .ref (G.2.1 28))] dl_1045 (Nat.le_of_ble_eq_true rfl) rfl ?_
  refine x_aload_n hC dl_1047 rfl 4 rfl ?_
  refine x_aload_n hC dl_1048 rfl 2 rfl ?_
  refine x_iload hC dl_1049 1 rfl ?_
  refine x_iconst hC (1 : Int32) dl_1051 (by decide) ?_
  refine x_iadd hC dl_1052 ?_
  refine x_topi (y := nI (6 * j + 1)) (n_add (6 * j) 1).symm ?_
  refine x_sld hC hX hbl hbA (i := 6 * j + 1) (by omega) hL dl_1053 ?_
  refine x_callV (i := 69) (ci := 5) (q := (RX11, TX11, 32)) (As := [.int (xs (6 * j + 1))]) (M' := M2) hC (c_X11_advise l G M1 (i0 := 69) rfl (xs (6 * j + 1)) q2) kc_yX11_advise km_L_123 ki_yX11_advise kv_yX11_advise kn_RX11 ky_yX11_advise rfl ⟨rfl, rfl⟩ ⟨Nat.le_of_ble_eq_true rfl, Nat.le_of_ble_eq_true rfl⟩ rfl (by decide) rfl rfl (Nat.le_of_ble_eq_true rfl) ⟨by show k + 1 + 0 ≤ 601024; omega, by show n + 6 + 0 ≤ 7293034; omega⟩ dl_1054 (fun _ => ?_)
  refine x_istore hC [(6, .int v), (5, .int kk), (4, .int (nI (6 * j))), (0, .ref b), (1, .ref (G.2.1 0)), (2, .ref (G.2.1 69)), (3, .ref (G.2.1 28))] dl_1057 (Nat.le_of_ble_eq_true rfl) rfl ?_
  refine x_aload_n hC dl_1059 rfl 5 rfl ?_
  refine x_callV (i := 69) (ci := 5) (q := (RX11, TX11, 32)) (As := []) (M' := M2) hC (c_X11_thrown l G M2 (i0 := 69) rfl (r := M2 69 0) rfl) kc_yX11_thrown km_L_72 ki_yX11_thrown kv_yX11_thrown kn_RX11 ky_yX11_thrown rfl ⟨rfl, rfl⟩ ⟨Nat.le_of_ble_eq_true rfl, Nat.le_of_ble_eq_true rfl⟩ rfl (by decide) rfl rfl (Nat.le_of_ble_eq_true rfl) ⟨by show k + 1 + 0 + 0 ≤ 601024; omega, by show n + 6 + 0 + 0 ≤ 7293034; omega⟩ dl_1060 (fun _ => ?_)
  refine x_iload hC dl_1063 1 rfl ?_
  refine x_icmp_eq hC 1070 dl_1065 (by decide) (fun _ => ?_) (fun h => absurd q3 h)
  refine x_iload hC dl_1070 1 rfl ?_
  have F : XJ p l e room_1 s m args below meth c G 9 Q (k + 1 + 0 + 0) (n + 6 + 0 + 0) M2 1087 [(6, .int v), (5, .int kk), (4, .int (nI (6 * j))), (0, .ref b), (1, .ref (G.2.1 0)), (2, .ref (G.2.1 69)), (3, .ref (G.2.1 28))] [] := by
    refine x_goto hC 1214 dl_1087 (by decide) ?_
    refine x_sub [2, 3, 4, 5, 6] (lv' := [(4, .int (nI (6 * j))), (0, .ref b), (1, .ref (G.2.1 0)), (2, .ref (G.2.1 69)), (3, .ref (G.2.1 28))]) rfl ?_
    exact K _ _ _ (by omega) (by omega) (q5)
  refine x_if_ne hC 1087 dl_1072 (by decide) (fun _ => F) (fun h0 => ?_)
  refine x_aload_n hC dl_1075 rfl 6 rfl ?_
  refine x_iconst hC (0 : Int32) dl_1076 (by decide) ?_
  refine x_outld hC dl_1077 ?_
  refine x_iload hC dl_1078 0 rfl ?_
  refine x_i2l hC dl_1080 ?_
  refine x_lcmp hC dl_1081 ?_
  rw [q4 h0, lg_self]
  exact x_if_eq hC 1087 dl_1082 (by decide) (fun _ => F) (fun h => absurd rfl h)
set_option maxHeartbeats 4000000 in
theorem lc_15 (hC : CX p s m args meth c code 9 RL rt G) (hlt : l.stackTraces = false) (hE : G.2.2.2 = []) (hX : va_X b L xs s s.heap) (hbl : b < s.heap.size) (hbA : ¬ AF G s.heap.size b) (hL : L ≤ 3072) (hj : 6 * j + 6 ≤ L) (hk : k ≤ 100000) (hn : n ≤ 1000000) (hR : Rel (300 * j) M M) (K : ∀ k' n' M', k' ≤ k + 20 → n' ≤ n + 300 → Rel (300 * (j + 1)) M' M' → XJ p l e room_1 s m args below meth c G 9 Q k' n' M' 1214 [(4, .int (nI (6 * j))), (0, .ref b), (1, .ref (G.2.1 0)), (2, .ref (G.2.1 69)), (3, .ref (G.2.1 28))] []) : XJ p l e room_1 s m args below meth c G 9 Q k n M 1090 [(4, .int (nI (6 * j))), (0, .ref b), (1, .ref (G.2.1 0)), (2, .ref (G.2.1 69)), (3, .ref (G.2.1 28))] [] := by
  obtain ⟨x, M1, M2, q1, q2, q3⟩ := draw_step hR
  refine x_aload_n hC dl_1090 rfl 2 rfl ?_
  refine x_callV (i := 0) (ci := 6) (q := (RX9, TX9, 11)) (As := []) (M' := M1) hC (c_X9_draw l G M (i0 := 0) rfl q1) kc_yX9_draw km_L_124 ki_yX9_draw kv_yX9_draw kn_RX9 ky_yX9_draw rfl ⟨rfl, rfl⟩ ⟨Nat.le_of_ble_eq_true rfl, Nat.le_of_ble_eq_true rfl⟩ rfl (by decide) rfl rfl (Nat.le_of_ble_eq_true rfl) ⟨by show k + 0 ≤ 601024; omega, by show n + 0 ≤ 7293034; omega⟩ dl_1091 (fun _ => ?_)
  refine x_aload_n hC dl_1094 rfl 3 rfl ?_
  refine x_callV (i := 69) (ci := 5) (q := (RX11, TX11, 32)) (As := []) (M' := M2) hC (c_X11_draw l G M1 (i0 := 69) rfl q2) kc_yX11_draw km_L_127 ki_yX11_draw kv_yX11_draw kn_RX11 ky_yX11_draw rfl ⟨rfl, rfl⟩ ⟨Nat.le_of_ble_eq_true rfl, Nat.le_of_ble_eq_true rfl⟩ rfl (by decide) rfl rfl (Nat.le_of_ble_eq_true rfl) ⟨by show k + 0 + 0 ≤ 601024; omega, by show n + 0 + 0 ≤ 7293034; omega⟩ dl_1095 (fun _ => ?_)
  refine x_icmp_eq hC 1214 dl_1098 (by decide) (fun _ => ?_) (fun h => absurd rfl h)
  refine x_sub [0, 1, 2, 3, 4] (lv' := [(4, .int (nI (6 * j))), (0, .ref b), (1, .ref (G.2.1 0)), (2, .ref (G.2.1 69)), (3, .ref (G.2.1 28))]) rfl ?_
  exact K _ _ _ (by omega) (by omega) (q3.mono (by omega))
set_option maxHeartbeats 4000000 in
theorem lc_16 (hC : CX p s m args meth c code 9 RL rt G) (hlt : l.stackTraces = false) (hE : G.2.2.2 = []) (hX : va_X b L xs s s.heap) (hbl : b < s.heap.size) (hbA : ¬ AF G s.heap.size b) (hL : L ≤ 3072) (hj : 6 * j + 6 ≤ L) (hk : k ≤ 100000) (hn : n ≤ 1000000) (hR : Rel (300 * j) M M) (K : ∀ k' n' M', k' ≤ k + 20 → n' ≤ n + 300 → Rel (300 * (j + 1)) M' M' → XJ p l e room_1 s m args below meth c G 9 Q k' n' M' 1214 [(4, .int (nI (6 * j))), (0, .ref b), (1, .ref (G.2.1 0)), (2, .ref (G.2.1 69)), (3, .ref (G.2.1 28))] []) : XJ p l e room_1 s m args below meth c G 9 Q k n M 1103 [(4, .int (nI (6 * j))), (0, .ref b), (1, .ref (G.2.1 0)), (2, .ref (G.2.1 69)), (3, .ref (G.2.1 28))] [] := by
  obtain ⟨kk, M1, v, M2, q1, q2, q3, q4, q5⟩ := op_step (opr_mono (H2 := 300 * (j + 1)) (byteAt_ok (300 * j) (xs (6 * j + 1))) (by omega)) hR
  have q1 : f_L_byteAt 0 (xs (6 * j + 1)) 28 M = some (kk, M1) := q1
  have q2 : f_X11_byteAt 69 (xs (6 * j + 1)) M1 = some (v, M2) := q2
  refine x_aload_n hC dl_1103 rfl 2 rfl ?_
  refine x_aload_n hC dl_1104 rfl 1 rfl ?_
  refine x_iload hC dl_1105 0 rfl ?_
  refine x_iconst hC (1 : Int32) dl_1107 (by decide) ?_
  refine x_iadd hC dl_1108 ?_
  refine x_topi (y := nI (6 * j + 1)) (n_add (6 * j) 1).symm ?_
  refine x_sld hC hX hbl hbA (i := 6 * j + 1) (by omega) hL dl_1109 ?_
  refine x_aload_n hC dl_1110 rfl 4 rfl ?_
  refine x_callSW (As := [.ref (G.2.1 0), .int (xs (6 * j + 1)), .ref (G.2.1 28)]) (M' := M1) hC (c_L_byteAt l hlt G M (i0 := 0) rfl (xs (6 * j + 1)) (i9 := 28) rfl q1) kw_yL_byteAt kml_128 kt_yL_byteAt kn_RLx ky_yL_byteAt rfl ⟨rfl, rfl⟩ ⟨Nat.le_of_ble_eq_true rfl, Nat.le_of_ble_eq_true rfl⟩ rfl (Nat.le_of_ble_eq_true rfl) ⟨by show k + 1 ≤ 601024; omega, by show n + 6 ≤ 7293034; omega⟩ dl_1111 (fun _ => ?_)
  refine x_istore hC [(5, .int kk), (4, .int (nI (6 * j))), (0, .ref b), (1, .ref (G.2.1 0)), (2, .ref (G.2.1 69)), (3, .ref (G.2.1 28))] dl_1114 (Nat.le_of_ble_eq_true rfl) rfl ?_
  refine x_aload_n hC dl_1116 rfl 4 rfl ?_
  refine x_aload_n hC dl_1117 rfl 2 rfl ?_
  refine x_iload hC dl_1118 1 rfl ?_
  refine x_iconst hC (1 : Int32) dl_1120 (by decide) ?_
  refine x_iadd hC dl_1121 ?_
  refine x_topi (y := nI (6 * j + 1)) (n_add (6 * j) 1).symm ?_
  refine x_sld hC hX hbl hbA (i := 6 * j + 1) (by omega) hL dl_1122 ?_
  refine x_callV (i := 69) (ci := 5) (q := (RX11, TX11, 32)) (As := [.int (xs (6 * j + 1))]) (M' := M2) hC (c_X11_byteAt l G M1 (i0 := 69) rfl (xs (6 * j + 1)) q2) kc_yX11_byteAt km_L_130 ki_yX11_byteAt kv_yX11_byteAt kn_RX11 ky_yX11_byteAt rfl ⟨rfl, rfl⟩ ⟨Nat.le_of_ble_eq_true rfl, Nat.le_of_ble_eq_true rfl⟩ rfl (by decide) rfl rfl (Nat.le_of_ble_eq_true rfl) ⟨by show k + 1 + 0 ≤ 601024; omega, by show n + 6 + 0 ≤ 7293034; omega⟩ dl_1123 (fun _ => ?_)
  refine x_istore hC [(6, .int v), (5, .int kk), (4, .int (nI (6 * j))), (0, .ref b), (1, .ref (G.2.1 0)), (2, .ref (G.2.1 69)), (3, .ref (G.2.1 28))] dl_1126 (Nat.le_of_ble_eq_true rfl) rfl ?_
  refine x_aload_n hC dl_1128 rfl 5 rfl ?_
  refine x_callV (i := 69) (ci := 5) (q := (RX11, TX11, 32)) (As := []) (M' := M2) hC (c_X11_thrown l G M2 (i0 := 69) rfl (r := M2 69 0) rfl) kc_yX11_thrown km_L_72 ki_yX11_thrown kv_yX11_thrown kn_RX11 ky_yX11_thrown rfl ⟨rfl, rfl⟩ ⟨Nat.le_of_ble_eq_true rfl, Nat.le_of_ble_eq_true rfl⟩ rfl (by decide) rfl rfl (Nat.le_of_ble_eq_true rfl) ⟨by show k + 1 + 0 + 0 ≤ 601024; omega, by show n + 6 + 0 + 0 ≤ 7293034; omega⟩ dl_1129 (fun _ => ?_)
  refine x_iload hC dl_1132 1 rfl ?_
  refine x_icmp_eq hC 1139 dl_1134 (by decide) (fun _ => ?_) (fun h => absurd q3 h)
  refine x_iload hC dl_1139 1 rfl ?_
  have F : XJ p l e room_1 s m args below meth c G 9 Q (k + 1 + 0 + 0) (n + 6 + 0 + 0) M2 1156 [(6, .int v), (5, .int kk), (4, .int (nI (6 * j))), (0, .ref b), (1, .ref (G.2.1 0)), (2, .ref (G.2.1 69)), (3, .ref (G.2.1 28))] [] := by
    refine x_goto hC 1214 dl_1156 (by decide) ?_
    refine x_sub [2, 3, 4, 5, 6] (lv' := [(4, .int (nI (6 * j))), (0, .ref b), (1, .ref (G.2.1 0)), (2, .ref (G.2.1 69)), (3, .ref (G.2.1 28))]) rfl ?_
    exact K _ _ _ (by omega) (by omega) (q5)
  refine x_if_ne hC 1156 dl_1141 (by decide) (fun _ => F) (fun h0 => ?_)
  refine x_aload_n hC dl_1144 rfl 6 rfl ?_
  refine x_iconst hC (0 : Int32) dl_1145 (by decide) ?_
  refine x_outld hC dl_1146 ?_
  refine x_iload hC dl_1147 0 rfl ?_
  refine x_i2l hC dl_1149 ?_
  refine x_lcmp hC dl_1150 ?_
  rw [q4 h0, lg_self]
  exact x_if_eq hC 1156 dl_1151 (by decide) (fun _ => F) (fun h => absurd rfl h)
set_option maxHeartbeats 4000000 in
theorem lc_17 (hC : CX p s m args meth c code 9 RL rt G) (hlt : l.stackTraces = false) (hE : G.2.2.2 = []) (hX : va_X b L xs s s.heap) (hbl : b < s.heap.size) (hbA : ¬ AF G s.heap.size b) (hL : L ≤ 3072) (hj : 6 * j + 6 ≤ L) (hk : k ≤ 100000) (hn : n ≤ 1000000) (hR : Rel (300 * j) M M) (K : ∀ k' n' M', k' ≤ k + 20 → n' ≤ n + 300 → Rel (300 * (j + 1)) M' M' → XJ p l e room_1 s m args below meth c G 9 Q k' n' M' 1214 [(4, .int (nI (6 * j))), (0, .ref b), (1, .ref (G.2.1 0)), (2, .ref (G.2.1 69)), (3, .ref (G.2.1 28))] []) : XJ p l e room_1 s m args below meth c G 9 Q k n M 1159 [(4, .int (nI (6 * j))), (0, .ref b), (1, .ref (G.2.1 0)), (2, .ref (G.2.1 69)), (3, .ref (G.2.1 28))] [] := by
  obtain ⟨x, M2, q1, q2, q3⟩ := share_step hR
  have hv : x &&& 0x7fffffffffffffff ≤ 0x7ff0000000000000 := share_num q1
  refine x_aload_n hC dl_1159 rfl 2 rfl ?_
  refine x_callV (i := 0) (ci := 6) (q := (RX9, TX9, 11)) (As := []) (M' := M) hC (c_X9_share l G M (i0 := 0) rfl q1) kc_yX9_share km_L_131 ki_yX9_share kv_yX9_share kn_RX9 ky_yX9_share rfl ⟨rfl, rfl⟩ ⟨Nat.le_of_ble_eq_true rfl, Nat.le_of_ble_eq_true rfl⟩ rfl (by decide) rfl rfl (Nat.le_of_ble_eq_true rfl) ⟨by show k + 0 ≤ 601024; omega, by show n + 0 ≤ 7293034; omega⟩ dl_1160 (fun _ => ?_)
  refine x_dstore hC [(5, .double x), (4, .int (nI (6 * j))), (0, .ref b), (1, .ref (G.2.1 0)), (2, .ref (G.2.1 69)), (3, .ref (G.2.1 28))] dl_1163 (Nat.le_of_ble_eq_true rfl) rfl ?_
  refine x_aload_n hC dl_1165 rfl 4 rfl ?_
  refine x_callV (i := 69) (ci := 5) (q := (RX11, TX11, 32)) (As := []) (M' := M2) hC (c_X11_share l G M (i0 := 69) rfl q2) kc_yX11_share km_L_135 ki_yX11_share kv_yX11_share kn_RX11 ky_yX11_share rfl ⟨rfl, rfl⟩ ⟨Nat.le_of_ble_eq_true rfl, Nat.le_of_ble_eq_true rfl⟩ rfl (by decide) rfl rfl (Nat.le_of_ble_eq_true rfl) ⟨by show k + 0 + 0 ≤ 601024; omega, by show n + 0 + 0 ≤ 7293034; omega⟩ dl_1166 (fun _ => ?_)
  refine x_dstore hC [(7, .double x), (5, .double x), (4, .int (nI (6 * j))), (0, .ref b), (1, .ref (G.2.1 0)), (2, .ref (G.2.1 69)), (3, .ref (G.2.1 28))] dl_1169 (Nat.le_of_ble_eq_true rfl) rfl ?_
  refine x_dload hC dl_1171 1 rfl ?_
  refine x_dload hC dl_1173 0 rfl ?_
  refine x_dcmp hC dl_1175 ?_
  rw [num_cmp hv]
  refine x_if_eq hC 1197 dl_1176 (by decide) (fun _ => ?_) (fun h => absurd rfl h)
  refine x_goto hC 1214 dl_1197 (by decide) ?_
  refine x_sub [2, 3, 4, 5, 6] (lv' := [(4, .int (nI (6 * j))), (0, .ref b), (1, .ref (G.2.1 0)), (2, .ref (G.2.1 69)), (3, .ref (G.2.1 28))]) rfl ?_
  exact K _ _ _ (by omega) (by omega) (q3.mono (by omega))
set_option maxHeartbeats 4000000 in
theorem lc_18 (hC : CX p s m args meth c code 9 RL rt G) (hlt : l.stackTraces = false) (hE : G.2.2.2 = []) (hX : va_X b L xs s s.heap) (hbl : b < s.heap.size) (hbA : ¬ AF G s.heap.size b) (hL : L ≤ 3072) (hj : 6 * j + 6 ≤ L) (hk : k ≤ 100000) (hn : n ≤ 1000000) (hR : Rel (300 * j) M M) (K : ∀ k' n' M', k' ≤ k + 20 → n' ≤ n + 300 → Rel (300 * (j + 1)) M' M' → XJ p l e room_1 s m args below meth c G 9 Q k' n' M' 1214 [(4, .int (nI (6 * j))), (0, .ref b), (1, .ref (G.2.1 0)), (2, .ref (G.2.1 69)), (3, .ref (G.2.1 28))] []) : XJ p l e room_1 s m args below meth c G 9 Q k n M 1200 [(4, .int (nI (6 * j))), (0, .ref b), (1, .ref (G.2.1 0)), (2, .ref (G.2.1 69)), (3, .ref (G.2.1 28))] [] := by
  obtain ⟨x, M2, q1, q2, q3⟩ := digest_step hR
  refine x_aload_n hC dl_1200 rfl 2 rfl ?_
  refine x_callV (i := 0) (ci := 6) (q := (RX9, TX9, 11)) (As := []) (M' := M) hC (c_X9_digest l G M (i0 := 0) rfl q1) kc_yX9_digest km_L_136 ki_yX9_digest kv_yX9_digest kn_RX9 ky_yX9_digest rfl ⟨rfl, rfl⟩ ⟨Nat.le_of_ble_eq_true rfl, Nat.le_of_ble_eq_true rfl⟩ rfl (by decide) rfl rfl (Nat.le_of_ble_eq_true rfl) ⟨by show k + 0 ≤ 601024; omega, by show n + 0 ≤ 7293034; omega⟩ dl_1201 (fun _ => ?_)
  refine x_aload_n hC dl_1204 rfl 3 rfl ?_
  refine x_callV (i := 69) (ci := 5) (q := (RX11, TX11, 32)) (As := []) (M' := M2) hC (c_X11_digest l G M hE (i0 := 69) rfl q2) kc_yX11_digest km_L_140 ki_yX11_digest kv_yX11_digest kn_RX11 ky_yX11_digest rfl ⟨rfl, rfl⟩ ⟨Nat.le_of_ble_eq_true rfl, Nat.le_of_ble_eq_true rfl⟩ rfl (by decide) rfl rfl (Nat.le_of_ble_eq_true rfl) ⟨by show k + 0 + 14 ≤ 601024; omega, by show n + 0 + 182 ≤ 7293034; omega⟩ dl_1205 (fun _ => ?_)
  refine x_lcmp hC dl_1208 ?_
  rw [lg_self]
  refine x_if_eq hC 1214 dl_1209 (by decide) (fun _ => ?_) (fun h => absurd rfl h)
  refine x_sub [0, 1, 2, 3, 4] (lv' := [(4, .int (nI (6 * j))), (0, .ref b), (1, .ref (G.2.1 0)), (2, .ref (G.2.1 69)), (3, .ref (G.2.1 28))]) rfl ?_
  exact K _ _ _ (by omega) (by omega) (q3.mono (by omega))
set_option maxRecDepth 100000 in
set_option maxHeartbeats 4000000 in
theorem law_loop (hC : CX p s m args meth c code 9 RL rt G) (hlt : l.stackTraces = false) (hE : G.2.2.2 = []) (hX : va_X b L xs s s.heap) (hbl : b < s.heap.size) (hbA : ¬ AF G s.heap.size b) (hL : L ≤ 3072) (K : ∀ k n M pc lv, k ≤ 601024 → n ≤ 7293034 → decode code pc = .ok (.ireturn, 1) → XJ p l e room_1 s m args below meth c G 9 Q k n M pc lv [.int 1]) : ∀ (r j k n : Nat) (M : Mm), L < 6 * (j + r) → j ≤ 600 → k ≤ 1000 + 20 * j → n ≤ 100000 + 300 * j → Rel (300 * j) M M → XJ p l e room_1 s m args below meth c G 9 Q k n M 23 [(4, .int (nI (6 * j))), (0, .ref b), (1, .ref (G.2.1 0)), (2, .ref (G.2.1 69)), (3, .ref (G.2.1 28))] [] := by
  intro r
  induction r with
  | zero =>
    intro j k n M hr hj hk hn hR
    refine x_iload hC dl_23 0 rfl ?_
    refine x_aload_n hC dl_25 rfl 1 rfl ?_
    refine x_slen hC hX hbl hbA dl_26 ?_
    refine x_bipush hC (6 : Int32) dl_27 (by decide) ?_
    refine x_isub hC dl_29 ?_
    refine x_icmp_gt hC 1220 dl_30 (by decide) (fun _ => ?_) (fun h => ?_)
    · refine x_iconst hC (1 : Int32) dl_1220 (by decide) ?_
      exact K _ _ _ _ _ (by omega) (by omega) dl_1221
    · exact absurd (law_le (j := j) hL (by omega) h) (by omega)
  | succ r ih =>
    intro j k n M hr hj hk hn hR
    refine x_iload hC dl_23 0 rfl ?_
    refine x_aload_n hC dl_25 rfl 1 rfl ?_
    refine x_slen hC hX hbl hbA dl_26 ?_
    refine x_bipush hC (6 : Int32) dl_27 (by decide) ?_
    refine x_isub hC dl_29 ?_
    refine x_icmp_gt hC 1220 dl_30 (by decide) (fun _ => ?_) (fun h => ?_)
    · refine x_iconst hC (1 : Int32) dl_1220 (by decide) ?_
      exact K _ _ _ _ _ (by omega) (by omega) dl_1221
    · have hj6 : 6 * j + 6 ≤ L := law_le (j := j) hL (by omega) h
      have KK : ∀ k' n' M', k' ≤ k + 20 → n' ≤ n + 300 → Rel (300 * (j + 1)) M' M' → XJ p l e room_1 s m args below meth c G 9 Q k' n' M' 1214 [(4, .int (nI (6 * j))), (0, .ref b), (1, .ref (G.2.1 0)), (2, .ref (G.2.1 69)), (3, .ref (G.2.1 28))] [] := by
        intro k' n' M' h1 h2 h3
        refine x_iinc hC [(4, .int (nI (6 * j + 6))), (0, .ref b), (1, .ref (G.2.1 0)), (2, .ref (G.2.1 69)), (3, .ref (G.2.1 28))] dl_1214 0 rfl (by show nI (6 * j) + nI 6 = _; exact n_add (6 * j) 6) (Nat.le_of_ble_eq_true rfl) rfl ?_
        refine x_goto hC 23 dl_1217 (by decide) ?_
        exact ih (j + 1) k' n' M' (by omega) (by omega) (by clear K ih hr hR h; omega) (by rw [Nat.mul_add]; clear K ih hr hR h; omega) h3
      refine x_aload_n hC dl_33 rfl 1 rfl ?_
      refine x_iload hC dl_34 0 rfl ?_
      refine x_sld hC hX hbl hbA (i := 6 * j) (by omega) hL dl_36 ?_
      refine x_bipush hC (31 : Int32) dl_37 (by decide) ?_
      refine x_iand hC dl_39 ?_
      generalize xs (6 * j) &&& (31 : Int32) = x
      have hx : (x = 0 ∨ x = 1 ∨ x = 2 ∨ x = 3 ∨ x = 4 ∨ x = 5 ∨ x = 6 ∨ x = 7 ∨ x = 8 ∨ x = 9 ∨ x = 10 ∨ x = 11 ∨ x = 12 ∨ x = 13 ∨ x = 14 ∨ x = 15 ∨ x = 16 ∨ x = 17 ∨ x = 18) ∨ (x.toInt < 0 ∨ 18 < x.toInt) := law_sw x
      rcases hx with (rfl | rfl | rfl | rfl | rfl | rfl | rfl | rfl | rfl | rfl | rfl | rfl | rfl | rfl | rfl | rfl | rfl | rfl | rfl) | hx
      · exact x_tableIn hC (off := 92) 132 dl_40 (by decide) (by decide) rfl (by decide) (lc_0 hC hlt hE hX hbl hbA hL hj6 (by omega) (by omega) hR KK)
      · exact x_tableIn hC (off := 196) 236 dl_40 (by decide) (by decide) rfl (by decide) (lc_1 hC hlt hE hX hbl hbA hL hj6 (by omega) (by omega) hR KK)
      · exact x_tableIn hC (off := 252) 292 dl_40 (by decide) (by decide) rfl (by decide) (lc_2 hC hlt hE hX hbl hbA hL hj6 (by omega) (by omega) hR KK)
      · exact x_tableIn hC (off := 265) 305 dl_40 (by decide) (by decide) rfl (by decide) (lc_3 hC hlt hE hX hbl hbA hL hj6 (by omega) (by omega) hR KK)
      · exact x_tableIn hC (off := 278) 318 dl_40 (by decide) (by decide) rfl (by decide) (lc_4 hC hlt hE hX hbl hbA hL hj6 (by omega) (by omega) hR KK)
      · exact x_tableIn hC (off := 334) 374 dl_40 (by decide) (by decide) rfl (by decide) (lc_5 hC hlt hE hX hbl hbA hL hj6 (by omega) (by omega) hR KK)
      · exact x_tableIn hC (off := 414) 454 dl_40 (by decide) (by decide) rfl (by decide) (lc_6 hC hlt hE hX hbl hbA hL hj6 (by omega) (by omega) hR KK)
      · exact x_tableIn hC (off := 506) 546 dl_40 (by decide) (by decide) rfl (by decide) (lc_7 hC hlt hE hX hbl hbA hL hj6 (by omega) (by omega) hR KK)
      · exact x_tableIn hC (off := 598) 638 dl_40 (by decide) (by decide) rfl (by decide) (lc_8 hC hlt hE hX hbl hbA hL hj6 (by omega) (by omega) hR KK)
      · exact x_tableIn hC (off := 678) 718 dl_40 (by decide) (by decide) rfl (by decide) (lc_9 hC hlt hE hX hbl hbA hL hj6 (by omega) (by omega) hR KK)
      · exact x_tableIn hC (off := 746) 786 dl_40 (by decide) (by decide) rfl (by decide) (lc_10 hC hlt hE hX hbl hbA hL hj6 (by omega) (by omega) hR KK)
      · exact x_tableIn hC (off := 802) 842 dl_40 (by decide) (by decide) rfl (by decide) (lc_11 hC hlt hE hX hbl hbA hL hj6 (by omega) (by omega) hR KK)
      · exact x_tableIn hC (off := 870) 910 dl_40 (by decide) (by decide) rfl (by decide) (lc_12 hC hlt hE hX hbl hbA hL hj6 (by omega) (by omega) hR KK)
      · exact x_tableIn hC (off := 938) 978 dl_40 (by decide) (by decide) rfl (by decide) (lc_13 hC hlt hE hX hbl hbA hL hj6 (by omega) (by omega) hR KK)
      · exact x_tableIn hC (off := 994) 1034 dl_40 (by decide) (by decide) rfl (by decide) (lc_14 hC hlt hE hX hbl hbA hL hj6 (by omega) (by omega) hR KK)
      · exact x_tableIn hC (off := 1050) 1090 dl_40 (by decide) (by decide) rfl (by decide) (lc_15 hC hlt hE hX hbl hbA hL hj6 (by omega) (by omega) hR KK)
      · exact x_tableIn hC (off := 1063) 1103 dl_40 (by decide) (by decide) rfl (by decide) (lc_16 hC hlt hE hX hbl hbA hL hj6 (by omega) (by omega) hR KK)
      · exact x_tableIn hC (off := 1119) 1159 dl_40 (by decide) (by decide) rfl (by decide) (lc_17 hC hlt hE hX hbl hbA hL hj6 (by omega) (by omega) hR KK)
      · exact x_tableIn hC (off := 1160) 1200 dl_40 (by decide) (by decide) rfl (by decide) (lc_18 hC hlt hE hX hbl hbA hL hj6 (by omega) (by omega) hR KK)
      · exact x_tableOut hC 1214 dl_40 hx (by decide) (KK _ _ _ (by omega) (by omega) (hR.mono (by omega)))
end LAW
