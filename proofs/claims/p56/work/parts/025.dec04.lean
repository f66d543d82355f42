theorem dL_hangs_138 : decode cL_hangs 138 = .ok (.iconst 0, 1) := by decide +kernel
theorem dL_hangs_139 : decode cL_hangs 139 = .ok (.istore 7, 2) := by decide +kernel
theorem dL_hangs_141 : decode cL_hangs 141 = .ok (.iload 7, 2) := by decide +kernel
theorem dL_hangs_143 : decode cL_hangs 143 = .ok (.iload_n 1, 1) := by decide +kernel
theorem dL_hangs_144 : decode cL_hangs 144 = .ok (.if_icmp .ge 548, 3) := by decide +kernel
theorem dL_hangs_147 : decode cL_hangs 147 = .ok (.iload 6, 2) := by decide +kernel
theorem dL_hangs_149 : decode cL_hangs 149 = .ok (.ifCond .eq 543, 3) := by decide +kernel
theorem dL_hangs_152 : decode cL_hangs 152 = .ok (.aload_n 0, 1) := by decide +kernel
theorem dL_hangs_153 : decode cL_hangs 153 = .ok (.iload 7, 2) := by decide +kernel
theorem dL_hangs_155 : decode cL_hangs 155 = .ok (.invokestatic 206, 3) := by decide +kernel
theorem dL_hangs_158 : decode cL_hangs 158 = .ok (.istore 8, 2) := by decide +kernel
theorem dL_hangs_160 : decode cL_hangs 160 = .ok (.aload_n 0, 1) := by decide +kernel
theorem dL_hangs_161 : decode cL_hangs 161 = .ok (.iload 7, 2) := by decide +kernel
theorem dL_hangs_163 : decode cL_hangs 163 = .ok (.invokestatic 208, 3) := by decide +kernel
theorem dL_hangs_166 : decode cL_hangs 166 = .ok (.istore 9, 2) := by decide +kernel
theorem dL_hangs_168 : decode cL_hangs 168 = .ok (.aload_n 0, 1) := by decide +kernel
theorem dL_hangs_169 : decode cL_hangs 169 = .ok (.iload 7, 2) := by decide +kernel
theorem dL_hangs_171 : decode cL_hangs 171 = .ok (.invokestatic 210, 3) := by decide +kernel
theorem dL_hangs_174 : decode cL_hangs 174 = .ok (.istore 10, 2) := by decide +kernel
theorem dL_hangs_176 : decode cL_hangs 176 = .ok (.iload_n 2, 1) := by decide +kernel
theorem dL_hangs_177 : decode cL_hangs 177 = .ok (.aload_n 0, 1) := by decide +kernel
theorem dL_hangs_178 : decode cL_hangs 178 = .ok (.iload 7, 2) := by decide +kernel
theorem dL_hangs_180 : decode cL_hangs 180 = .ok (.invokestatic 212, 3) := by decide +kernel
theorem dL_hangs_183 : decode cL_hangs 183 = .ok (.iadd, 1) := by decide +kernel
theorem dL_hangs_184 : decode cL_hangs 184 = .ok (.istore_n 2, 1) := by decide +kernel
theorem dL_hangs_185 : decode cL_hangs 185 = .ok (.iload_n 3, 1) := by decide +kernel
theorem dL_hangs_186 : decode cL_hangs 186 = .ok (.iload 10, 2) := by decide +kernel
theorem dL_hangs_188 : decode cL_hangs 188 = .ok (.iconst 3, 1) := by decide +kernel
theorem dL_hangs_189 : decode cL_hangs 189 = .ok (.if_icmp .ne 7, 3) := by decide +kernel
theorem dL_hangs_192 : decode cL_hangs 192 = .ok (.iconst 1, 1) := by decide +kernel
theorem dL_hangs_193 : decode cL_hangs 193 = .ok (.goto 4, 3) := by decide +kernel
theorem dL_hangs_196 : decode cL_hangs 196 = .ok (.iconst 0, 1) := by decide +kernel
theorem dL_hangs_197 : decode cL_hangs 197 = .ok (.iadd, 1) := by decide +kernel
theorem dL_hangs_198 : decode cL_hangs 198 = .ok (.istore_n 3, 1) := by decide +kernel
theorem dL_hangs_199 : decode cL_hangs 199 = .ok (.iload 4, 2) := by decide +kernel
theorem dL_hangs_201 : decode cL_hangs 201 = .ok (.iload 8, 2) := by decide +kernel
theorem dL_hangs_203 : decode cL_hangs 203 = .ok (.ifCond .lt 7, 3) := by decide +kernel
theorem dL_hangs_206 : decode cL_hangs 206 = .ok (.iconst 1, 1) := by decide +kernel
theorem dL_hangs_207 : decode cL_hangs 207 = .ok (.goto 4, 3) := by decide +kernel
theorem dL_hangs_210 : decode cL_hangs 210 = .ok (.iconst 0, 1) := by decide +kernel
theorem dL_hangs_211 : decode cL_hangs 211 = .ok (.iadd, 1) := by decide +kernel
theorem dL_hangs_212 : decode cL_hangs 212 = .ok (.istore 4, 2) := by decide +kernel
theorem dL_hangs_214 : decode cL_hangs 214 = .ok (.aload_n 0, 1) := by decide +kernel
theorem dL_hangs_215 : decode cL_hangs 215 = .ok (.aload_n 0, 1) := by decide +kernel
theorem dL_hangs_216 : decode cL_hangs 216 = .ok (.iload 7, 2) := by decide +kernel
theorem dL_hangs_218 : decode cL_hangs 218 = .ok (.invokestatic 214, 3) := by decide +kernel
theorem dL_hangs_221 : decode cL_hangs 221 = .ok (.invokestatic 216, 3) := by decide +kernel
theorem dL_hangs_224 : decode cL_hangs 224 = .ok (.iload 7, 2) := by decide +kernel
theorem dL_hangs_226 : decode cL_hangs 226 = .ok (.if_icmp .ne 358, 3) := by decide +kernel
theorem dL_hangs_229 : decode cL_hangs 229 = .ok (.aload_n 0, 1) := by decide +kernel
theorem dL_hangs_230 : decode cL_hangs 230 = .ok (.iload 7, 2) := by decide +kernel
theorem dL_hangs_232 : decode cL_hangs 232 = .ok (.invokestatic 218, 3) := by decide +kernel
theorem dL_hangs_235 : decode cL_hangs 235 = .ok (.aload_n 0, 1) := by decide +kernel
theorem dL_hangs_236 : decode cL_hangs 236 = .ok (.iload 7, 2) := by decide +kernel
theorem dL_hangs_238 : decode cL_hangs 238 = .ok (.invokestatic 212, 3) := by decide +kernel
theorem dL_hangs_241 : decode cL_hangs 241 = .ok (.sipush 400, 3) := by decide +kernel
theorem dL_hangs_244 : decode cL_hangs 244 = .ok (.idiv, 1) := by decide +kernel
theorem dL_hangs_245 : decode cL_hangs 245 = .ok (.if_icmp .ne 339, 3) := by decide +kernel
theorem dL_hangs_248 : decode cL_hangs 248 = .ok (.aload_n 0, 1) := by decide +kernel
theorem dL_hangs_249 : decode cL_hangs 249 = .ok (.iload 7, 2) := by decide +kernel
theorem dL_hangs_251 : decode cL_hangs 251 = .ok (.invokestatic 220, 3) := by decide +kernel
theorem dL_hangs_254 : decode cL_hangs 254 = .ok (.ifCond .lt 330, 3) := by decide +kernel
theorem dL_hangs_257 : decode cL_hangs 257 = .ok (.aload_n 0, 1) := by decide +kernel
theorem dL_hangs_258 : decode cL_hangs 258 = .ok (.iload 7, 2) := by decide +kernel
theorem dL_hangs_260 : decode cL_hangs 260 = .ok (.invokestatic 220, 3) := by decide +kernel
theorem dL_hangs_263 : decode cL_hangs 263 = .ok (.bipush 42, 2) := by decide +kernel
theorem dL_hangs_265 : decode cL_hangs 265 = .ok (.if_icmp .gt 319, 3) := by decide +kernel
theorem dL_hangs_268 : decode cL_hangs 268 = .ok (.aload_n 0, 1) := by decide +kernel
theorem dL_hangs_269 : decode cL_hangs 269 = .ok (.iload 7, 2) := by decide +kernel
theorem dL_hangs_271 : decode cL_hangs 271 = .ok (.invokestatic 222, 3) := by decide +kernel
theorem dL_hangs_274 : decode cL_hangs 274 = .ok (.ifCond .lt 310, 3) := by decide +kernel
theorem dL_hangs_277 : decode cL_hangs 277 = .ok (.aload_n 0, 1) := by decide +kernel
theorem dL_hangs_278 : decode cL_hangs 278 = .ok (.iload 7, 2) := by decide +kernel
theorem dL_hangs_280 : decode cL_hangs 280 = .ok (.invokestatic 222, 3) := by decide +kernel
theorem dL_hangs_283 : decode cL_hangs 283 = .ok (.sipush 999, 3) := by decide +kernel
theorem dL_hangs_286 : decode cL_hangs 286 = .ok (.if_icmp .gt 298, 3) := by decide +kernel
theorem dL_hangs_289 : decode cL_hangs 289 = .ok (.aload_n 0, 1) := by decide +kernel
theorem dL_hangs_290 : decode cL_hangs 290 = .ok (.iload 7, 2) := by decide +kernel
theorem dL_hangs_292 : decode cL_hangs 292 = .ok (.invokestatic 224, 3) := by decide +kernel
theorem dL_hangs_295 : decode cL_hangs 295 = .ok (.ifCond .lt 289, 3) := by decide +kernel
theorem dL_hangs_298 : decode cL_hangs 298 = .ok (.aload_n 0, 1) := by decide +kernel
theorem dL_hangs_299 : decode cL_hangs 299 = .ok (.iload 7, 2) := by decide +kernel
theorem dL_hangs_301 : decode cL_hangs 301 = .ok (.invokestatic 224, 3) := by decide +kernel
theorem dL_hangs_304 : decode cL_hangs 304 = .ok (.bipush 100, 2) := by decide +kernel
theorem dL_hangs_306 : decode cL_hangs 306 = .ok (.if_icmp .gt 278, 3) := by decide +kernel
theorem dL_hangs_309 : decode cL_hangs 309 = .ok (.aload_n 0, 1) := by decide +kernel
theorem dL_hangs_310 : decode cL_hangs 310 = .ok (.iload 7, 2) := by decide +kernel
theorem dL_hangs_312 : decode cL_hangs 312 = .ok (.invokestatic 226, 3) := by decide +kernel
theorem dL_hangs_315 : decode cL_hangs 315 = .ok (.ifCond .lt 269, 3) := by decide +kernel
theorem dL_hangs_318 : decode cL_hangs 318 = .ok (.aload_n 0, 1) := by decide +kernel
theorem dL_hangs_319 : decode cL_hangs 319 = .ok (.iload 7, 2) := by decide +kernel
theorem dL_hangs_321 : decode cL_hangs 321 = .ok (.invokestatic 226, 3) := by decide +kernel
theorem dL_hangs_324 : decode cL_hangs 324 = .ok (.iconst 2, 1) := by decide +kernel
theorem dL_hangs_325 : decode cL_hangs 325 = .ok (.if_icmp .ge 259, 3) := by decide +kernel
theorem dL_hangs_328 : decode cL_hangs 328 = .ok (.iload 10, 2) := by decide +kernel
theorem dL_hangs_330 : decode cL_hangs 330 = .ok (.ifCond .lt 254, 3) := by decide +kernel
theorem dL_hangs_333 : decode cL_hangs 333 = .ok (.iload 10, 2) := by decide +kernel
theorem dL_hangs_335 : decode cL_hangs 335 = .ok (.iconst 4, 1) := by decide +kernel
theorem dL_hangs_336 : decode cL_hangs 336 = .ok (.if_icmp .ge 248, 3) := by decide +kernel
theorem dL_hangs_339 : decode cL_hangs 339 = .ok (.aload_n 0, 1) := by decide +kernel
theorem dL_hangs_340 : decode cL_hangs 340 = .ok (.iload 7, 2) := by decide +kernel
theorem dL_hangs_342 : decode cL_hangs 342 = .ok (.invokestatic 228, 3) := by decide +kernel
theorem dL_hangs_345 : decode cL_hangs 345 = .ok (.bipush 10, 2) := by decide +kernel
theorem dL_hangs_347 : decode cL_hangs 347 = .ok (.if_icmp .lt 237, 3) := by decide +kernel
theorem dL_hangs_350 : decode cL_hangs 350 = .ok (.aload_n 0, 1) := by decide +kernel
theorem dL_hangs_351 : decode cL_hangs 351 = .ok (.iload 7, 2) := by decide +kernel
theorem dL_hangs_353 : decode cL_hangs 353 = .ok (.invokestatic 228, 3) := by decide +kernel
theorem dL_hangs_356 : decode cL_hangs 356 = .ok (.bipush 40, 2) := by decide +kernel
theorem dL_hangs_358 : decode cL_hangs 358 = .ok (.if_icmp .gt 226, 3) := by decide +kernel
theorem dL_hangs_361 : decode cL_hangs 361 = .ok (.iload 8, 2) := by decide +kernel
theorem dL_hangs_363 : decode cL_hangs 363 = .ok (.bipush (-4), 2) := by decide +kernel
theorem dL_hangs_365 : decode cL_hangs 365 = .ok (.if_icmp .eq 21, 3) := by decide +kernel
theorem dL_hangs_368 : decode cL_hangs 368 = .ok (.iload 8, 2) := by decide +kernel
theorem dL_hangs_370 : decode cL_hangs 370 = .ok (.iload 7, 2) := by decide +kernel
theorem dL_hangs_372 : decode cL_hangs 372 = .ok (.if_icmp .eq 212, 3) := by decide +kernel
theorem dL_hangs_375 : decode cL_hangs 375 = .ok (.aload_n 0, 1) := by decide +kernel
theorem dL_hangs_376 : decode cL_hangs 376 = .ok (.iload 8, 2) := by decide +kernel
theorem dL_hangs_378 : decode cL_hangs 378 = .ok (.invokestatic 206, 3) := by decide +kernel
theorem dL_hangs_381 : decode cL_hangs 381 = .ok (.iload 7, 2) := by decide +kernel
theorem dL_hangs_383 : decode cL_hangs 383 = .ok (.if_icmp .ne 201, 3) := by decide +kernel
theorem dL_hangs_386 : decode cL_hangs 386 = .ok (.iload 9, 2) := by decide +kernel
theorem dL_hangs_388 : decode cL_hangs 388 = .ok (.ifCond .lt 196, 3) := by decide +kernel
theorem dL_hangs_391 : decode cL_hangs 391 = .ok (.iload 9, 2) := by decide +kernel
theorem dL_hangs_393 : decode cL_hangs 393 = .ok (.sipush 400, 3) := by decide +kernel
theorem dL_hangs_396 : decode cL_hangs 396 = .ok (.if_icmp .gt 188, 3) := by decide +kernel
theorem dL_hangs_399 : decode cL_hangs 399 = .ok (.aload_n 0, 1) := by decide +kernel
theorem dL_hangs_400 : decode cL_hangs 400 = .ok (.iload 7, 2) := by decide +kernel
theorem dL_hangs_402 : decode cL_hangs 402 = .ok (.invokestatic 230, 3) := by decide +kernel
theorem dL_hangs_405 : decode cL_hangs 405 = .ok (.aload_n 0, 1) := by decide +kernel
theorem dL_hangs_406 : decode cL_hangs 406 = .ok (.iload 7, 2) := by decide +kernel
theorem dL_hangs_408 : decode cL_hangs 408 = .ok (.invokestatic 212, 3) := by decide +kernel
theorem dL_hangs_411 : decode cL_hangs 411 = .ok (.bipush 100, 2) := by decide +kernel
theorem dL_hangs_413 : decode cL_hangs 413 = .ok (.irem, 1) := by decide +kernel
theorem dL_hangs_414 : decode cL_hangs 414 = .ok (.bipush 70, 2) := by decide +kernel
theorem dL_hangs_416 : decode cL_hangs 416 = .ok (.if_icmp .ge 19, 3) := by decide +kernel
theorem dL_hangs_419 : decode cL_hangs 419 = .ok (.aload_n 0, 1) := by decide +kernel
theorem dL_hangs_420 : decode cL_hangs 420 = .ok (.iload 7, 2) := by decide +kernel
theorem dL_hangs_422 : decode cL_hangs 422 = .ok (.invokestatic 212, 3) := by decide +kernel
theorem dL_hangs_425 : decode cL_hangs 425 = .ok (.sipush 400, 3) := by decide +kernel
theorem dL_hangs_428 : decode cL_hangs 428 = .ok (.irem, 1) := by decide +kernel
theorem dL_hangs_429 : decode cL_hangs 429 = .ok (.bipush 100, 2) := by decide +kernel
theorem dL_hangs_431 : decode cL_hangs 431 = .ok (.idiv, 1) := by decide +kernel
theorem dL_hangs_432 : decode cL_hangs 432 = .ok (.goto 18, 3) := by decide +kernel
theorem dL_hangs_435 : decode cL_hangs 435 = .ok (.iconst 4, 1) := by decide +kernel
theorem dL_hangs_436 : decode cL_hangs 436 = .ok (.aload_n 0, 1) := by decide +kernel
theorem dL_hangs_437 : decode cL_hangs 437 = .ok (.iload 7, 2) := by decide +kernel
theorem dL_hangs_439 : decode cL_hangs 439 = .ok (.invokestatic 212, 3) := by decide +kernel
theorem dL_hangs_442 : decode cL_hangs 442 = .ok (.sipush 400, 3) := by decide +kernel
theorem dL_hangs_445 : decode cL_hangs 445 = .ok (.irem, 1) := by decide +kernel
theorem dL_hangs_446 : decode cL_hangs 446 = .ok (.bipush 100, 2) := by decide +kernel
theorem dL_hangs_448 : decode cL_hangs 448 = .ok (.idiv, 1) := by decide +kernel
theorem dL_hangs_449 : decode cL_hangs 449 = .ok (.iadd, 1) := by decide +kernel
theorem dL_hangs_450 : decode cL_hangs 450 = .ok (.if_icmp .ne 134, 3) := by decide +kernel
theorem dL_hangs_453 : decode cL_hangs 453 = .ok (.iload 10, 2) := by decide +kernel
theorem dL_hangs_455 : decode cL_hangs 455 = .ok (.iconst 3, 1) := by decide +kernel
theorem dL_hangs_456 : decode cL_hangs 456 = .ok (.if_icmp .ne 7, 3) := by decide +kernel
theorem dL_hangs_459 : decode cL_hangs 459 = .ok (.iconst 1, 1) := by decide +kernel
theorem dL_hangs_460 : decode cL_hangs 460 = .ok (.goto 4, 3) := by decide +kernel
theorem dL_hangs_463 : decode cL_hangs 463 = .ok (.iconst 0, 1) := by decide +kernel
theorem dL_hangs_464 : decode cL_hangs 464 = .ok (.aload_n 0, 1) := by decide +kernel
theorem dL_hangs_465 : decode cL_hangs 465 = .ok (.iload 7, 2) := by decide +kernel
theorem dL_hangs_467 : decode cL_hangs 467 = .ok (.invokestatic 232, 3) := by decide +kernel
theorem dL_hangs_470 : decode cL_hangs 470 = .ok (.ifCond .le 7, 3) := by decide +kernel
theorem dL_hangs_473 : decode cL_hangs 473 = .ok (.iconst 1, 1) := by decide +kernel
theorem dL_hangs_474 : decode cL_hangs 474 = .ok (.goto 4, 3) := by decide +kernel
theorem dL_hangs_477 : decode cL_hangs 477 = .ok (.iconst 0, 1) := by decide +kernel
theorem dL_hangs_478 : decode cL_hangs 478 = .ok (.if_icmp .ne 106, 3) := by decide +kernel
theorem dL_hangs_481 : decode cL_hangs 481 = .ok (.iload 10, 2) := by decide +kernel
theorem dL_hangs_483 : decode cL_hangs 483 = .ok (.iconst 1, 1) := by decide +kernel
theorem dL_hangs_484 : decode cL_hangs 484 = .ok (.if_icmp .ne 7, 3) := by decide +kernel
theorem dL_hangs_487 : decode cL_hangs 487 = .ok (.iconst 1, 1) := by decide +kernel
theorem dL_hangs_488 : decode cL_hangs 488 = .ok (.goto 4, 3) := by decide +kernel
theorem dL_hangs_491 : decode cL_hangs 491 = .ok (.iconst 0, 1) := by decide +kernel
theorem dL_hangs_492 : decode cL_hangs 492 = .ok (.aload_n 0, 1) := by decide +kernel
theorem dL_hangs_493 : decode cL_hangs 493 = .ok (.iload 7, 2) := by decide +kernel
theorem dL_hangs_495 : decode cL_hangs 495 = .ok (.invokestatic 234, 3) := by decide +kernel
theorem dL_hangs_498 : decode cL_hangs 498 = .ok (.iconst 4, 1) := by decide +kernel
theorem dL_hangs_499 : decode cL_hangs 499 = .ok (.if_icmp .lt 7, 3) := by decide +kernel
theorem dL_hangs_502 : decode cL_hangs 502 = .ok (.iconst 1, 1) := by decide +kernel
theorem dL_hangs_503 : decode cL_hangs 503 = .ok (.goto 4, 3) := by decide +kernel
theorem dL_hangs_506 : decode cL_hangs 506 = .ok (.iconst 0, 1) := by decide +kernel
theorem dL_hangs_507 : decode cL_hangs 507 = .ok (.if_icmp .ne 77, 3) := by decide +kernel
theorem dL_hangs_510 : decode cL_hangs 510 = .ok (.iload 10, 2) := by decide +kernel
theorem dL_hangs_512 : decode cL_hangs 512 = .ok (.iconst 1, 1) := by decide +kernel
theorem dL_hangs_513 : decode cL_hangs 513 = .ok (.if_icmp .ne 32, 3) := by decide +kernel
theorem dL_hangs_516 : decode cL_hangs 516 = .ok (.aload_n 0, 1) := by decide +kernel
theorem dL_hangs_517 : decode cL_hangs 517 = .ok (.iload 7, 2) := by decide +kernel
theorem dL_hangs_519 : decode cL_hangs 519 = .ok (.invokestatic 236, 3) := by decide +kernel
theorem dL_hangs_522 : decode cL_hangs 522 = .ok (.iload 9, 2) := by decide +kernel
theorem dL_hangs_524 : decode cL_hangs 524 = .ok (.ifCond .le 14, 3) := by decide +kernel
theorem dL_hangs_527 : decode cL_hangs 527 = .ok (.iload 9, 2) := by decide +kernel
theorem dL_hangs_529 : decode cL_hangs 529 = .ok (.bipush 9, 2) := by decide +kernel
theorem dL_hangs_531 : decode cL_hangs 531 = .ok (.if_icmp .ge 7, 3) := by decide +kernel
theorem dL_hangs_534 : decode cL_hangs 534 = .ok (.iconst 1, 1) := by decide +kernel
theorem dL_hangs_535 : decode cL_hangs 535 = .ok (.goto 4, 3) := by decide +kernel
theorem dL_hangs_538 : decode cL_hangs 538 = .ok (.iconst 0, 1) := by decide +kernel
theorem dL_hangs_539 : decode cL_hangs 539 = .ok (.if_icmp .ne 45, 3) := by decide +kernel
theorem dL_hangs_542 : decode cL_hangs 542 = .ok (.goto 14, 3) := by decide +kernel
theorem dL_hangs_545 : decode cL_hangs 545 = .ok (.aload_n 0, 1) := by decide +kernel
theorem dL_hangs_546 : decode cL_hangs 546 = .ok (.iload 7, 2) := by decide +kernel
theorem dL_hangs_548 : decode cL_hangs 548 = .ok (.invokestatic 236, 3) := by decide +kernel
theorem dL_hangs_551 : decode cL_hangs 551 = .ok (.bipush (-4), 2) := by decide +kernel
theorem dL_hangs_553 : decode cL_hangs 553 = .ok (.if_icmp .ne 31, 3) := by decide +kernel
theorem dL_hangs_556 : decode cL_hangs 556 = .ok (.iload 10, 2) := by decide +kernel
theorem dL_hangs_558 : decode cL_hangs 558 = .ok (.iconst 3, 1) := by decide +kernel
theorem dL_hangs_559 : decode cL_hangs 559 = .ok (.if_icmp .ne 21, 3) := by decide +kernel
theorem dL_hangs_562 : decode cL_hangs 562 = .ok (.aload_n 0, 1) := by decide +kernel
theorem dL_hangs_563 : decode cL_hangs 563 = .ok (.iload 7, 2) := by decide +kernel
theorem dL_hangs_565 : decode cL_hangs 565 = .ok (.invokestatic 238, 3) := by decide +kernel
theorem dL_hangs_568 : decode cL_hangs 568 = .ok (.ifCond .eq 12, 3) := by decide +kernel
theorem dL_hangs_571 : decode cL_hangs 571 = .ok (.aload_n 0, 1) := by decide +kernel
theorem dL_hangs_572 : decode cL_hangs 572 = .ok (.iload 7, 2) := by decide +kernel
theorem dL_hangs_574 : decode cL_hangs 574 = .ok (.invokestatic 218, 3) := by decide +kernel
theorem dL_hangs_577 : decode cL_hangs 577 = .ok (.ifCond .le 7, 3) := by decide +kernel
theorem dL_hangs_580 : decode cL_hangs 580 = .ok (.iconst 1, 1) := by decide +kernel
theorem dL_hangs_581 : decode cL_hangs 581 = .ok (.goto 4, 3) := by decide +kernel
theorem dL_hangs_584 : decode cL_hangs 584 = .ok (.iconst 0, 1) := by decide +kernel
theorem dL_hangs_585 : decode cL_hangs 585 = .ok (.istore 6, 2) := by decide +kernel
theorem dL_hangs_587 : decode cL_hangs 587 = .ok (.iload 6, 2) := by decide +kernel
theorem dL_hangs_589 : decode cL_hangs 589 = .ok (.ifCond .eq 94, 3) := by decide +kernel
theorem dL_hangs_592 : decode cL_hangs 592 = .ok (.aload_n 0, 1) := by decide +kernel
theorem dL_hangs_593 : decode cL_hangs 593 = .ok (.invokevirtual 160, 3) := by decide +kernel
theorem dL_hangs_596 : decode cL_hangs 596 = .ok (.ifCond .eq 46, 3) := by decide +kernel
theorem dL_hangs_599 : decode cL_hangs 599 = .ok (.aload_n 0, 1) := by decide +kernel
theorem dL_hangs_600 : decode cL_hangs 600 = .ok (.iload 7, 2) := by decide +kernel
theorem dL_hangs_602 : decode cL_hangs 602 = .ok (.bipush 7, 2) := by decide +kernel
theorem dL_hangs_604 : decode cL_hangs 604 = .ok (.invokestatic 240, 3) := by decide +kernel
theorem dL_hangs_607 : decode cL_hangs 607 = .ok (.aload_n 0, 1) := by decide +kernel
theorem dL_hangs_608 : decode cL_hangs 608 = .ok (.iload 7, 2) := by decide +kernel
theorem dL_hangs_610 : decode cL_hangs 610 = .ok (.invokestatic 212, 3) := by decide +kernel
theorem dL_hangs_613 : decode cL_hangs 613 = .ok (.if_icmp .lt 70, 3) := by decide +kernel
theorem dL_hangs_616 : decode cL_hangs 616 = .ok (.aload_n 0, 1) := by decide +kernel
theorem dL_hangs_617 : decode cL_hangs 617 = .ok (.iload 7, 2) := by decide +kernel
theorem dL_hangs_619 : decode cL_hangs 619 = .ok (.aload_n 0, 1) := by decide +kernel
theorem dL_hangs_620 : decode cL_hangs 620 = .ok (.iload 7, 2) := by decide +kernel
theorem dL_hangs_622 : decode cL_hangs 622 = .ok (.invokestatic 228, 3) := by decide +kernel
theorem dL_hangs_625 : decode cL_hangs 625 = .ok (.invokestatic 242, 3) := by decide +kernel
theorem dL_hangs_628 : decode cL_hangs 628 = .ok (.aload_n 0, 1) := by decide +kernel
theorem dL_hangs_629 : decode cL_hangs 629 = .ok (.iload 7, 2) := by decide +kernel
theorem dL_hangs_631 : decode cL_hangs 631 = .ok (.bipush 50, 2) := by decide +kernel
theorem dL_hangs_633 : decode cL_hangs 633 = .ok (.invokestatic 240, 3) := by decide +kernel
theorem dL_hangs_636 : decode cL_hangs 636 = .ok (.if_icmp .ne 47, 3) := by decide +kernel
theorem dL_hangs_639 : decode cL_hangs 639 = .ok (.goto 40, 3) := by decide +kernel
theorem dL_hangs_642 : decode cL_hangs 642 = .ok (.aload_n 0, 1) := by decide +kernel
theorem dL_hangs_643 : decode cL_hangs 643 = .ok (.iload 7, 2) := by decide +kernel
theorem dL_hangs_645 : decode cL_hangs 645 = .ok (.bipush 7, 2) := by decide +kernel
theorem dL_hangs_647 : decode cL_hangs 647 = .ok (.invokestatic 240, 3) := by decide +kernel
theorem dL_hangs_650 : decode cL_hangs 650 = .ok (.bipush (-4), 2) := by decide +kernel
theorem dL_hangs_652 : decode cL_hangs 652 = .ok (.if_icmp .ne 31, 3) := by decide +kernel
theorem dL_hangs_655 : decode cL_hangs 655 = .ok (.aload_n 0, 1) := by decide +kernel
theorem dL_hangs_656 : decode cL_hangs 656 = .ok (.iload 7, 2) := by decide +kernel
theorem dL_hangs_658 : decode cL_hangs 658 = .ok (.bipush 20, 2) := by decide +kernel
theorem dL_hangs_660 : decode cL_hangs 660 = .ok (.invokestatic 242, 3) := by decide +kernel
theorem dL_hangs_663 : decode cL_hangs 663 = .ok (.bipush (-4), 2) := by decide +kernel
theorem dL_hangs_665 : decode cL_hangs 665 = .ok (.if_icmp .ne 18, 3) := by decide +kernel
theorem dL_hangs_668 : decode cL_hangs 668 = .ok (.aload_n 0, 1) := by decide +kernel
theorem dL_hangs_669 : decode cL_hangs 669 = .ok (.iload 7, 2) := by decide +kernel
theorem dL_hangs_671 : decode cL_hangs 671 = .ok (.invokestatic 244, 3) := by decide +kernel
theorem dL_hangs_674 : decode cL_hangs 674 = .ok (.bipush (-4), 2) := by decide +kernel
theorem dL_hangs_676 : decode cL_hangs 676 = .ok (.if_icmp .ne 7, 3) := by decide +kernel
theorem dL_hangs_679 : decode cL_hangs 679 = .ok (.iconst 1, 1) := by decide +kernel
theorem dL_hangs_680 : decode cL_hangs 680 = .ok (.goto 4, 3) := by decide +kernel
theorem dL_hangs_683 : decode cL_hangs 683 = .ok (.iconst 0, 1) := by decide +kernel
theorem dL_hangs_684 : decode cL_hangs 684 = .ok (.istore 6, 2) := by decide +kernel
theorem dL_hangs_686 : decode cL_hangs 686 = .ok (.iinc 7 1, 3) := by decide +kernel
theorem dL_hangs_689 : decode cL_hangs 689 = .ok (.goto (-548), 3) := by decide +kernel
theorem dL_hangs_692 : decode cL_hangs 692 = .ok (.iconst 0, 1) := by decide +kernel
theorem dL_hangs_693 : decode cL_hangs 693 = .ok (.istore 7, 2) := by decide +kernel
theorem dL_hangs_695 : decode cL_hangs 695 = .ok (.iload 7, 2) := by decide +kernel
theorem dL_hangs_697 : decode cL_hangs 697 = .ok (.aload_n 0, 1) := by decide +kernel
theorem dL_hangs_698 : decode cL_hangs 698 = .ok (.invokevirtual 185, 3) := by decide +kernel
theorem dL_hangs_701 : decode cL_hangs 701 = .ok (.if_icmp .ge 82, 3) := by decide +kernel
theorem dL_hangs_704 : decode cL_hangs 704 = .ok (.iload 6, 2) := by decide +kernel
theorem dL_hangs_706 : decode cL_hangs 706 = .ok (.ifCond .eq 77, 3) := by decide +kernel
theorem dL_hangs_709 : decode cL_hangs 709 = .ok (.aload_n 0, 1) := by decide +kernel
theorem dL_hangs_710 : decode cL_hangs 710 = .ok (.iload 7, 2) := by decide +kernel
theorem dL_hangs_712 : decode cL_hangs 712 = .ok (.invokestatic 246, 3) := by decide +kernel
theorem dL_hangs_715 : decode cL_hangs 715 = .ok (.istore 8, 2) := by decide +kernel
theorem dL_hangs_717 : decode cL_hangs 717 = .ok (.aload_n 0, 1) := by decide +kernel
theorem dL_hangs_718 : decode cL_hangs 718 = .ok (.iload 8, 2) := by decide +kernel
theorem dL_hangs_720 : decode cL_hangs 720 = .ok (.invokestatic 210, 3) := by decide +kernel
theorem dL_hangs_723 : decode cL_hangs 723 = .ok (.iconst 3, 1) := by decide +kernel
theorem dL_hangs_724 : decode cL_hangs 724 = .ok (.if_icmp .ne 42, 3) := by decide +kernel
theorem dL_hangs_727 : decode cL_hangs 727 = .ok (.aload_n 0, 1) := by decide +kernel
theorem dL_hangs_728 : decode cL_hangs 728 = .ok (.iload 8, 2) := by decide +kernel
theorem dL_hangs_730 : decode cL_hangs 730 = .ok (.invokestatic 214, 3) := by decide +kernel
theorem dL_hangs_733 : decode cL_hangs 733 = .ok (.iload 7, 2) := by decide +kernel
theorem dL_hangs_735 : decode cL_hangs 735 = .ok (.if_icmp .ne 31, 3) := by decide +kernel
theorem dL_hangs_738 : decode cL_hangs 738 = .ok (.aload_n 0, 1) := by decide +kernel
theorem dL_hangs_739 : decode cL_hangs 739 = .ok (.iload 8, 2) := by decide +kernel
theorem dL_hangs_741 : decode cL_hangs 741 = .ok (.invokestatic 232, 3) := by decide +kernel
theorem dL_hangs_744 : decode cL_hangs 744 = .ok (.iload 5, 2) := by decide +kernel
theorem dL_hangs_746 : decode cL_hangs 746 = .ok (.if_icmp .lt 20, 3) := by decide +kernel
theorem dL_hangs_749 : decode cL_hangs 749 = .ok (.aload_n 0, 1) := by decide +kernel
theorem dL_hangs_750 : decode cL_hangs 750 = .ok (.iload 8, 2) := by decide +kernel
theorem dL_hangs_752 : decode cL_hangs 752 = .ok (.invokestatic 232, 3) := by decide +kernel
theorem dL_hangs_755 : decode cL_hangs 755 = .ok (.aload_n 0, 1) := by decide +kernel
theorem dL_hangs_756 : decode cL_hangs 756 = .ok (.invokevirtual 182, 3) := by decide +kernel
theorem dL_hangs_759 : decode cL_hangs 759 = .ok (.if_icmp .gt 7, 3) := by decide +kernel
theorem dL_hangs_762 : decode cL_hangs 762 = .ok (.iconst 1, 1) := by decide +kernel
theorem dL_hangs_763 : decode cL_hangs 763 = .ok (.goto 4, 3) := by decide +kernel
theorem dL_hangs_766 : decode cL_hangs 766 = .ok (.iconst 0, 1) := by decide +kernel
theorem dL_hangs_767 : decode cL_hangs 767 = .ok (.istore 6, 2) := by decide +kernel
theorem dL_hangs_769 : decode cL_hangs 769 = .ok (.aload_n 0, 1) := by decide +kernel
theorem dL_hangs_770 : decode cL_hangs 770 = .ok (.iload 8, 2) := by decide +kernel
theorem dL_hangs_772 : decode cL_hangs 772 = .ok (.invokestatic 232, 3) := by decide +kernel
theorem dL_hangs_775 : decode cL_hangs 775 = .ok (.istore 5, 2) := by decide +kernel
theorem dL_hangs_777 : decode cL_hangs 777 = .ok (.iinc 7 1, 3) := by decide +kernel
theorem dL_hangs_780 : decode cL_hangs 780 = .ok (.goto (-85), 3) := by decide +kernel
theorem dL_hangs_783 : decode cL_hangs 783 = .ok (.aload_n 0, 1) := by decide +kernel
theorem dL_hangs_784 : decode cL_hangs 784 = .ok (.invokestatic 248, 3) := by decide +kernel
theorem dL_hangs_787 : decode cL_hangs 787 = .ok (.istore 7, 2) := by decide +kernel
theorem dL_hangs_789 : decode cL_hangs 789 = .ok (.aload_n 0, 1) := by decide +kernel
theorem dL_hangs_790 : decode cL_hangs 790 = .ok (.invokestatic 250, 3) := by decide +kernel
theorem dL_hangs_793 : decode cL_hangs 793 = .ok (.istore 8, 2) := by decide +kernel
theorem dL_hangs_795 : decode cL_hangs 795 = .ok (.iload 6, 2) := by decide +kernel
theorem dL_hangs_797 : decode cL_hangs 797 = .ok (.ifCond .eq 163, 3) := by decide +kernel
theorem dL_hangs_800 : decode cL_hangs 800 = .ok (.iload_n 3, 1) := by decide +kernel
theorem dL_hangs_801 : decode cL_hangs 801 = .ok (.aload_n 0, 1) := by decide +kernel
theorem dL_hangs_802 : decode cL_hangs 802 = .ok (.invokevirtual 185, 3) := by decide +kernel
theorem dL_hangs_805 : decode cL_hangs 805 = .ok (.if_icmp .ne 155, 3) := by decide +kernel
theorem dL_hangs_808 : decode cL_hangs 808 = .ok (.iload 4, 2) := by decide +kernel
theorem dL_hangs_810 : decode cL_hangs 810 = .ok (.iconst 2, 1) := by decide +kernel
theorem dL_hangs_811 : decode cL_hangs 811 = .ok (.irem, 1) := by decide +kernel
theorem dL_hangs_812 : decode cL_hangs 812 = .ok (.ifCond .ne 148, 3) := by decide +kernel
theorem dL_hangs_815 : decode cL_hangs 815 = .ok (.iload_n 2, 1) := by decide +kernel
theorem dL_hangs_816 : decode cL_hangs 816 = .ok (.aload_n 0, 1) := by decide +kernel
theorem dL_hangs_817 : decode cL_hangs 817 = .ok (.invokevirtual 252, 3) := by decide +kernel
theorem dL_hangs_820 : decode cL_hangs 820 = .ok (.if_icmp .ne 140, 3) := by decide +kernel
theorem dL_hangs_823 : decode cL_hangs 823 = .ok (.iload_n 2, 1) := by decide +kernel
theorem dL_hangs_824 : decode cL_hangs 824 = .ok (.aload_n 0, 1) := by decide +kernel
theorem dL_hangs_825 : decode cL_hangs 825 = .ok (.invokevirtual 255, 3) := by decide +kernel
theorem dL_hangs_828 : decode cL_hangs 828 = .ok (.if_icmp .ne 132, 3) := by decide +kernel
theorem dL_hangs_831 : decode cL_hangs 831 = .ok (.aload_n 0, 1) := by decide +kernel
theorem dL_hangs_832 : decode cL_hangs 832 = .ok (.invokevirtual 258, 3) := by decide +kernel
theorem dL_hangs_835 : decode cL_hangs 835 = .ok (.iload_n 1, 1) := by decide +kernel
theorem dL_hangs_836 : decode cL_hangs 836 = .ok (.ifCond .ne 7, 3) := by decide +kernel
theorem dL_hangs_839 : decode cL_hangs 839 = .ok (.dconst 0, 1) := by decide +kernel
theorem dL_hangs_840 : decode cL_hangs 840 = .ok (.goto 8, 3) := by decide +kernel
theorem dL_hangs_843 : decode cL_hangs 843 = .ok (.iload_n 2, 1) := by decide +kernel
theorem dL_hangs_844 : decode cL_hangs 844 = .ok (.i2d, 1) := by decide +kernel
theorem dL_hangs_845 : decode cL_hangs 845 = .ok (.iload_n 1, 1) := by decide +kernel
theorem dL_hangs_846 : decode cL_hangs 846 = .ok (.i2d, 1) := by decide +kernel
theorem dL_hangs_847 : decode cL_hangs 847 = .ok (.ddiv, 1) := by decide +kernel
theorem dL_hangs_848 : decode cL_hangs 848 = .ok (.dcmp .l, 1) := by decide +kernel
theorem dL_hangs_849 : decode cL_hangs 849 = .ok (.ifCond .ne 111, 3) := by decide +kernel
theorem dL_hangs_852 : decode cL_hangs 852 = .ok (.iload 7, 2) := by decide +kernel
theorem dL_hangs_854 : decode cL_hangs 854 = .ok (.bipush (-4), 2) := by decide +kernel
theorem dL_hangs_856 : decode cL_hangs 856 = .ok (.if_icmp .eq 23, 3) := by decide +kernel
theorem dL_hangs_859 : decode cL_hangs 859 = .ok (.aload_n 0, 1) := by decide +kernel
theorem dL_hangs_860 : decode cL_hangs 860 = .ok (.invokevirtual 160, 3) := by decide +kernel
theorem dL_hangs_863 : decode cL_hangs 863 = .ok (.ifCond .eq 97, 3) := by decide +kernel
theorem dL_hangs_866 : decode cL_hangs 866 = .ok (.iload 7, 2) := by decide +kernel
theorem dL_hangs_868 : decode cL_hangs 868 = .ok (.ifCond .le 92, 3) := by decide +kernel
theorem dL_hangs_871 : decode cL_hangs 871 = .ok (.iload 7, 2) := by decide +kernel
theorem dL_hangs_873 : decode cL_hangs 873 = .ok (.sipush 2000, 3) := by decide +kernel
theorem dL_hangs_876 : decode cL_hangs 876 = .ok (.if_icmp .gt 84, 3) := by decide +kernel
theorem dL_hangs_879 : decode cL_hangs 879 = .ok (.iload 8, 2) := by decide +kernel
theorem dL_hangs_881 : decode cL_hangs 881 = .ok (.bipush (-4), 2) := by decide +kernel
theorem dL_hangs_883 : decode cL_hangs 883 = .ok (.if_icmp .eq 26, 3) := by decide +kernel
theorem dL_hangs_886 : decode cL_hangs 886 = .ok (.iload 7, 2) := by decide +kernel
theorem dL_hangs_888 : decode cL_hangs 888 = .ok (.ifCond .le 72, 3) := by decide +kernel
theorem dL_hangs_891 : decode cL_hangs 891 = .ok (.iload 8, 2) := by decide +kernel
theorem dL_hangs_893 : decode cL_hangs 893 = .ok (.ifCond .lt 67, 3) := by decide +kernel
theorem dL_hangs_896 : decode cL_hangs 896 = .ok (.iload 8, 2) := by decide +kernel
theorem dL_hangs_898 : decode cL_hangs 898 = .ok (.iload_n 1, 1) := by decide +kernel
theorem dL_hangs_899 : decode cL_hangs 899 = .ok (.if_icmp .ge 61, 3) := by decide +kernel
theorem dL_hangs_902 : decode cL_hangs 902 = .ok (.aload_n 0, 1) := by decide +kernel
theorem dL_hangs_903 : decode cL_hangs 903 = .ok (.invokevirtual 185, 3) := by decide +kernel
theorem dL_hangs_906 : decode cL_hangs 906 = .ok (.ifCond .ne 54, 3) := by decide +kernel
theorem dL_hangs_909 : decode cL_hangs 909 = .ok (.aload_n 0, 1) := by decide +kernel
theorem dL_hangs_910 : decode cL_hangs 910 = .ok (.invokevirtual 160, 3) := by decide +kernel
theorem dL_hangs_913 : decode cL_hangs 913 = .ok (.ifCond .ne 20, 3) := by decide +kernel
theorem dL_hangs_916 : decode cL_hangs 916 = .ok (.iload 7, 2) := by decide +kernel
theorem dL_hangs_918 : decode cL_hangs 918 = .ok (.bipush (-4), 2) := by decide +kernel
theorem dL_hangs_920 : decode cL_hangs 920 = .ok (.if_icmp .ne 40, 3) := by decide +kernel
theorem dL_hangs_923 : decode cL_hangs 923 = .ok (.aload_n 0, 1) := by decide +kernel
theorem dL_hangs_924 : decode cL_hangs 924 = .ok (.iconst 1, 1) := by decide +kernel
theorem dL_hangs_925 : decode cL_hangs 925 = .ok (.invokestatic 164, 3) := by decide +kernel
theorem dL_hangs_928 : decode cL_hangs 928 = .ok (.bipush (-4), 2) := by decide +kernel
theorem dL_hangs_930 : decode cL_hangs 930 = .ok (.if_icmp .ne 30, 3) := by decide +kernel
theorem dL_hangs_933 : decode cL_hangs 933 = .ok (.aload_n 0, 1) := by decide +kernel
theorem dL_hangs_934 : decode cL_hangs 934 = .ok (.iload_n 1, 1) := by decide +kernel
theorem dL_hangs_935 : decode cL_hangs 935 = .ok (.invokestatic 212, 3) := by decide +kernel
theorem dL_hangs_938 : decode cL_hangs 938 = .ok (.bipush (-2), 2) := by decide +kernel
theorem dL_hangs_940 : decode cL_hangs 940 = .ok (.if_icmp .ne 20, 3) := by decide +kernel
theorem dL_hangs_943 : decode cL_hangs 943 = .ok (.aload_n 0, 1) := by decide +kernel
theorem dL_hangs_944 : decode cL_hangs 944 = .ok (.aload_n 0, 1) := by decide +kernel
theorem dL_hangs_945 : decode cL_hangs 945 = .ok (.invokevirtual 185, 3) := by decide +kernel
theorem dL_hangs_948 : decode cL_hangs 948 = .ok (.invokestatic 246, 3) := by decide +kernel
theorem dL_hangs_951 : decode cL_hangs 951 = .ok (.bipush (-2), 2) := by decide +kernel
theorem dL_hangs_953 : decode cL_hangs 953 = .ok (.if_icmp .ne 7, 3) := by decide +kernel
theorem dL_hangs_956 : decode cL_hangs 956 = .ok (.iconst 1, 1) := by decide +kernel
theorem dL_hangs_957 : decode cL_hangs 957 = .ok (.goto 4, 3) := by decide +kernel
theorem dL_hangs_960 : decode cL_hangs 960 = .ok (.iconst 0, 1) := by decide +kernel
theorem dL_hangs_961 : decode cL_hangs 961 = .ok (.ireturn, 1) := by decide +kernel
theorem dL_refuses_0 : decode cL_refuses 0 = .ok (.iload_n 1, 1) := by decide +kernel
theorem dL_refuses_1 : decode cL_refuses 1 = .ok (.iconst 2, 1) := by decide +kernel
theorem dL_refuses_2 : decode cL_refuses 2 = .ok (.irem, 1) := by decide +kernel
theorem dL_refuses_3 : decode cL_refuses 3 = .ok (.ifCond .ne 12, 3) := by decide +kernel
theorem dL_refuses_6 : decode cL_refuses 6 = .ok (.aload_n 0, 1) := by decide +kernel
theorem dL_refuses_7 : decode cL_refuses 7 = .ok (.invokevirtual 139, 3) := by decide +kernel
theorem dL_refuses_10 : decode cL_refuses 10 = .ok (.iload_n 1, 1) := by decide +kernel
theorem dL_refuses_11 : decode cL_refuses 11 = .ok (.iadd, 1) := by decide +kernel
theorem dL_refuses_12 : decode cL_refuses 12 = .ok (.goto 6, 3) := by decide +kernel
theorem dL_refuses_15 : decode cL_refuses 15 = .ok (.iconst (-1), 1) := by decide +kernel
theorem dL_refuses_16 : decode cL_refuses 16 = .ok (.iload_n 1, 1) := by decide +kernel
theorem dL_refuses_17 : decode cL_refuses 17 = .ok (.isub, 1) := by decide +kernel
theorem dL_refuses_18 : decode cL_refuses 18 = .ok (.istore_n 2, 1) := by decide +kernel
theorem dL_refuses_19 : decode cL_refuses 19 = .ok (.iload_n 1, 1) := by decide +kernel
theorem dL_refuses_20 : decode cL_refuses 20 = .ok (.iconst 2, 1) := by decide +kernel
theorem dL_refuses_21 : decode cL_refuses 21 = .ok (.irem, 1) := by decide +kernel
theorem dL_refuses_22 : decode cL_refuses 22 = .ok (.ifCond .ne 9, 3) := by decide +kernel
theorem dL_refuses_25 : decode cL_refuses 25 = .ok (.iconst 2, 1) := by decide +kernel
theorem dL_refuses_26 : decode cL_refuses 26 = .ok (.iload_n 1, 1) := by decide +kernel
theorem dL_refuses_27 : decode cL_refuses 27 = .ok (.iadd, 1) := by decide +kernel
theorem dL_refuses_28 : decode cL_refuses 28 = .ok (.goto 6, 3) := by decide +kernel
theorem dL_refuses_31 : decode cL_refuses 31 = .ok (.iconst (-1), 1) := by decide +kernel
theorem dL_refuses_32 : decode cL_refuses 32 = .ok (.iload_n 1, 1) := by decide +kernel
theorem dL_refuses_33 : decode cL_refuses 33 = .ok (.isub, 1) := by decide +kernel
theorem dL_refuses_34 : decode cL_refuses 34 = .ok (.istore_n 3, 1) := by decide +kernel
theorem dL_refuses_35 : decode cL_refuses 35 = .ok (.aload_n 0, 1) := by decide +kernel
theorem dL_refuses_36 : decode cL_refuses 36 = .ok (.bipush 41, 2) := by decide +kernel
theorem dL_refuses_38 : decode cL_refuses 38 = .ok (.iload_n 1, 1) := by decide +kernel
theorem dL_refuses_39 : decode cL_refuses 39 = .ok (.iadd, 1) := by decide +kernel
theorem dL_refuses_40 : decode cL_refuses 40 = .ok (.sipush 500, 3) := by decide +kernel
theorem dL_refuses_43 : decode cL_refuses 43 = .ok (.iconst 0, 1) := by decide +kernel
theorem dL_refuses_44 : decode cL_refuses 44 = .ok (.invokestatic 168, 3) := by decide +kernel
theorem dL_refuses_47 : decode cL_refuses 47 = .ok (.bipush (-3), 2) := by decide +kernel
theorem dL_refuses_49 : decode cL_refuses 49 = .ok (.if_icmp .ne 256, 3) := by decide +kernel
theorem dL_refuses_52 : decode cL_refuses 52 = .ok (.aload_n 0, 1) := by decide +kernel
theorem dL_refuses_53 : decode cL_refuses 53 = .ok (.bipush 9, 2) := by decide +kernel
theorem dL_refuses_55 : decode cL_refuses 55 = .ok (.iload_n 1, 1) := by decide +kernel
theorem dL_refuses_56 : decode cL_refuses 56 = .ok (.isub, 1) := by decide +kernel
theorem dL_refuses_57 : decode cL_refuses 57 = .ok (.sipush 500, 3) := by decide +kernel
theorem dL_refuses_60 : decode cL_refuses 60 = .ok (.iconst 0, 1) := by decide +kernel
theorem dL_refuses_61 : decode cL_refuses 61 = .ok (.invokestatic 168, 3) := by decide +kernel
theorem dL_refuses_64 : decode cL_refuses 64 = .ok (.bipush (-3), 2) := by decide +kernel
theorem dL_refuses_66 : decode cL_refuses 66 = .ok (.if_icmp .ne 239, 3) := by decide +kernel
theorem dL_refuses_69 : decode cL_refuses 69 = .ok (.aload_n 0, 1) := by decide +kernel
theorem dL_refuses_70 : decode cL_refuses 70 = .ok (.bipush 20, 2) := by decide +kernel
theorem dL_refuses_72 : decode cL_refuses 72 = .ok (.sipush 1000, 3) := by decide +kernel
theorem dL_refuses_75 : decode cL_refuses 75 = .ok (.iload_n 1, 1) := by decide +kernel
theorem dL_refuses_76 : decode cL_refuses 76 = .ok (.iadd, 1) := by decide +kernel
theorem dL_refuses_77 : decode cL_refuses 77 = .ok (.iconst 1, 1) := by decide +kernel
theorem dL_refuses_78 : decode cL_refuses 78 = .ok (.invokestatic 168, 3) := by decide +kernel
theorem dL_refuses_81 : decode cL_refuses 81 = .ok (.bipush (-3), 2) := by decide +kernel
theorem dL_refuses_83 : decode cL_refuses 83 = .ok (.if_icmp .ne 222, 3) := by decide +kernel
theorem dL_refuses_86 : decode cL_refuses 86 = .ok (.aload_n 0, 1) := by decide +kernel
theorem dL_refuses_87 : decode cL_refuses 87 = .ok (.bipush 20, 2) := by decide +kernel
theorem dL_refuses_89 : decode cL_refuses 89 = .ok (.bipush 99, 2) := by decide +kernel
theorem dL_refuses_91 : decode cL_refuses 91 = .ok (.iload_n 1, 1) := by decide +kernel
theorem dL_refuses_92 : decode cL_refuses 92 = .ok (.isub, 1) := by decide +kernel
theorem dL_refuses_93 : decode cL_refuses 93 = .ok (.iconst 1, 1) := by decide +kernel
theorem dL_refuses_94 : decode cL_refuses 94 = .ok (.invokestatic 168, 3) := by decide +kernel
theorem dL_refuses_97 : decode cL_refuses 97 = .ok (.bipush (-3), 2) := by decide +kernel
theorem dL_refuses_99 : decode cL_refuses 99 = .ok (.if_icmp .ne 206, 3) := by decide +kernel
theorem dL_refuses_102 : decode cL_refuses 102 = .ok (.aload_n 0, 1) := by decide +kernel
theorem dL_refuses_103 : decode cL_refuses 103 = .ok (.bipush 20, 2) := by decide +kernel
theorem dL_refuses_105 : decode cL_refuses 105 = .ok (.sipush 500, 3) := by decide +kernel
theorem dL_refuses_108 : decode cL_refuses 108 = .ok (.iload_n 3, 1) := by decide +kernel
theorem dL_refuses_109 : decode cL_refuses 109 = .ok (.invokestatic 168, 3) := by decide +kernel
theorem dL_refuses_112 : decode cL_refuses 112 = .ok (.bipush (-3), 2) := by decide +kernel
theorem dL_refuses_114 : decode cL_refuses 114 = .ok (.if_icmp .ne 191, 3) := by decide +kernel
theorem dL_refuses_117 : decode cL_refuses 117 = .ok (.aload_n 0, 1) := by decide +kernel
theorem dL_refuses_118 : decode cL_refuses 118 = .ok (.iload_n 2, 1) := by decide +kernel
theorem dL_refuses_119 : decode cL_refuses 119 = .ok (.bipush 50, 2) := by decide +kernel
theorem dL_refuses_121 : decode cL_refuses 121 = .ok (.invokestatic 171, 3) := by decide +kernel
theorem dL_refuses_124 : decode cL_refuses 124 = .ok (.bipush (-2), 2) := by decide +kernel
theorem dL_refuses_126 : decode cL_refuses 126 = .ok (.if_icmp .ne 179, 3) := by decide +kernel
theorem dL_refuses_129 : decode cL_refuses 129 = .ok (.aload_n 0, 1) := by decide +kernel
theorem dL_refuses_130 : decode cL_refuses 130 = .ok (.iload_n 2, 1) := by decide +kernel
theorem dL_refuses_131 : decode cL_refuses 131 = .ok (.invokestatic 174, 3) := by decide +kernel
theorem dL_refuses_134 : decode cL_refuses 134 = .ok (.bipush (-2), 2) := by decide +kernel
theorem dL_refuses_136 : decode cL_refuses 136 = .ok (.if_icmp .ne 169, 3) := by decide +kernel
theorem dL_refuses_139 : decode cL_refuses 139 = .ok (.aload_n 0, 1) := by decide +kernel
theorem dL_refuses_140 : decode cL_refuses 140 = .ok (.iload_n 2, 1) := by decide +kernel
theorem dL_refuses_141 : decode cL_refuses 141 = .ok (.iload_n 2, 1) := by decide +kernel
theorem dL_refuses_142 : decode cL_refuses 142 = .ok (.invokestatic 176, 3) := by decide +kernel
theorem dL_refuses_145 : decode cL_refuses 145 = .ok (.bipush (-2), 2) := by decide +kernel
theorem dL_refuses_147 : decode cL_refuses 147 = .ok (.if_icmp .ne 158, 3) := by decide +kernel
theorem dL_refuses_150 : decode cL_refuses 150 = .ok (.aload_n 0, 1) := by decide +kernel
theorem dL_refuses_151 : decode cL_refuses 151 = .ok (.iconst 4, 1) := by decide +kernel
theorem dL_refuses_152 : decode cL_refuses 152 = .ok (.iload_n 1, 1) := by decide +kernel
theorem dL_refuses_153 : decode cL_refuses 153 = .ok (.iadd, 1) := by decide +kernel
theorem dL_refuses_154 : decode cL_refuses 154 = .ok (.bipush 50, 2) := by decide +kernel
theorem dL_refuses_156 : decode cL_refuses 156 = .ok (.invokestatic 178, 3) := by decide +kernel
theorem dL_refuses_159 : decode cL_refuses 159 = .ok (.bipush (-2), 2) := by decide +kernel
theorem dL_refuses_161 : decode cL_refuses 161 = .ok (.if_icmp .ne 144, 3) := by decide +kernel
theorem dL_refuses_164 : decode cL_refuses 164 = .ok (.aload_n 0, 1) := by decide +kernel
theorem dL_refuses_165 : decode cL_refuses 165 = .ok (.iconst (-1), 1) := by decide +kernel
theorem dL_refuses_166 : decode cL_refuses 166 = .ok (.iload_n 1, 1) := by decide +kernel
theorem dL_refuses_167 : decode cL_refuses 167 = .ok (.isub, 1) := by decide +kernel
theorem dL_refuses_168 : decode cL_refuses 168 = .ok (.bipush 20, 2) := by decide +kernel
theorem dL_refuses_170 : decode cL_refuses 170 = .ok (.invokestatic 178, 3) := by decide +kernel
theorem dL_refuses_173 : decode cL_refuses 173 = .ok (.bipush (-2), 2) := by decide +kernel
theorem dL_refuses_175 : decode cL_refuses 175 = .ok (.if_icmp .ne 130, 3) := by decide +kernel
theorem dL_refuses_178 : decode cL_refuses 178 = .ok (.aload_n 0, 1) := by decide +kernel
theorem dL_refuses_179 : decode cL_refuses 179 = .ok (.iconst 0, 1) := by decide +kernel
theorem dL_refuses_180 : decode cL_refuses 180 = .ok (.bipush 41, 2) := by decide +kernel
theorem dL_refuses_182 : decode cL_refuses 182 = .ok (.iload_n 1, 1) := by decide +kernel
theorem dL_refuses_183 : decode cL_refuses 183 = .ok (.iadd, 1) := by decide +kernel
theorem dL_refuses_184 : decode cL_refuses 184 = .ok (.invokestatic 178, 3) := by decide +kernel
theorem dL_refuses_187 : decode cL_refuses 187 = .ok (.bipush (-3), 2) := by decide +kernel
theorem dL_refuses_189 : decode cL_refuses 189 = .ok (.if_icmp .ne 116, 3) := by decide +kernel
theorem dL_refuses_192 : decode cL_refuses 192 = .ok (.aload_n 0, 1) := by decide +kernel
theorem dL_refuses_193 : decode cL_refuses 193 = .ok (.iconst 3, 1) := by decide +kernel
theorem dL_refuses_194 : decode cL_refuses 194 = .ok (.bipush 7, 2) := by decide +kernel
theorem dL_refuses_196 : decode cL_refuses 196 = .ok (.iload_n 1, 1) := by decide +kernel
theorem dL_refuses_197 : decode cL_refuses 197 = .ok (.isub, 1) := by decide +kernel
theorem dL_refuses_198 : decode cL_refuses 198 = .ok (.invokestatic 178, 3) := by decide +kernel
theorem dL_refuses_201 : decode cL_refuses 201 = .ok (.bipush (-3), 2) := by decide +kernel
theorem dL_refuses_203 : decode cL_refuses 203 = .ok (.if_icmp .ne 102, 3) := by decide +kernel
theorem dL_refuses_206 : decode cL_refuses 206 = .ok (.aload_n 0, 1) := by decide +kernel
theorem dL_refuses_207 : decode cL_refuses 207 = .ok (.bipush 10, 2) := by decide +kernel
theorem dL_refuses_209 : decode cL_refuses 209 = .ok (.iload_n 1, 1) := by decide +kernel
theorem dL_refuses_210 : decode cL_refuses 210 = .ok (.iadd, 1) := by decide +kernel
theorem dL_refuses_211 : decode cL_refuses 211 = .ok (.invokestatic 180, 3) := by decide +kernel
theorem dL_refuses_214 : decode cL_refuses 214 = .ok (.bipush (-3), 2) := by decide +kernel
theorem dL_refuses_216 : decode cL_refuses 216 = .ok (.if_icmp .ne 89, 3) := by decide +kernel
theorem dL_refuses_219 : decode cL_refuses 219 = .ok (.aload_n 0, 1) := by decide +kernel
theorem dL_refuses_220 : decode cL_refuses 220 = .ok (.iload_n 1, 1) := by decide +kernel
theorem dL_refuses_221 : decode cL_refuses 221 = .ok (.ineg, 1) := by decide +kernel
theorem dL_refuses_222 : decode cL_refuses 222 = .ok (.invokestatic 180, 3) := by decide +kernel
theorem dL_refuses_225 : decode cL_refuses 225 = .ok (.bipush (-3), 2) := by decide +kernel
theorem dL_refuses_227 : decode cL_refuses 227 = .ok (.if_icmp .ne 78, 3) := by decide +kernel
theorem dL_refuses_230 : decode cL_refuses 230 = .ok (.aload_n 0, 1) := by decide +kernel
theorem dL_refuses_231 : decode cL_refuses 231 = .ok (.sipush 201, 3) := by decide +kernel
theorem dL_refuses_234 : decode cL_refuses 234 = .ok (.iload_n 1, 1) := by decide +kernel
theorem dL_refuses_235 : decode cL_refuses 235 = .ok (.iadd, 1) := by decide +kernel
theorem dL_refuses_236 : decode cL_refuses 236 = .ok (.invokestatic 164, 3) := by decide +kernel
theorem dL_refuses_239 : decode cL_refuses 239 = .ok (.bipush (-3), 2) := by decide +kernel
theorem dL_refuses_241 : decode cL_refuses 241 = .ok (.if_icmp .ne 64, 3) := by decide +kernel
theorem dL_refuses_244 : decode cL_refuses 244 = .ok (.aload_n 0, 1) := by decide +kernel
theorem dL_refuses_245 : decode cL_refuses 245 = .ok (.iload_n 1, 1) := by decide +kernel
theorem dL_refuses_246 : decode cL_refuses 246 = .ok (.ineg, 1) := by decide +kernel
theorem dL_refuses_247 : decode cL_refuses 247 = .ok (.invokestatic 164, 3) := by decide +kernel
theorem dL_refuses_250 : decode cL_refuses 250 = .ok (.bipush (-3), 2) := by decide +kernel
theorem dL_refuses_252 : decode cL_refuses 252 = .ok (.if_icmp .ne 53, 3) := by decide +kernel
theorem dL_refuses_255 : decode cL_refuses 255 = .ok (.aload_n 0, 1) := by decide +kernel
theorem dL_refuses_256 : decode cL_refuses 256 = .ok (.bipush 32, 2) := by decide +kernel
theorem dL_refuses_258 : decode cL_refuses 258 = .ok (.iload_n 1, 1) := by decide +kernel
theorem dL_refuses_259 : decode cL_refuses 259 = .ok (.isub, 1) := by decide +kernel
theorem dL_refuses_260 : decode cL_refuses 260 = .ok (.invokestatic 134, 3) := by decide +kernel
theorem dL_refuses_263 : decode cL_refuses 263 = .ok (.bipush (-3), 2) := by decide +kernel
theorem dL_refuses_265 : decode cL_refuses 265 = .ok (.if_icmp .ne 40, 3) := by decide +kernel
theorem dL_refuses_268 : decode cL_refuses 268 = .ok (.aload_n 0, 1) := by decide +kernel
theorem dL_refuses_269 : decode cL_refuses 269 = .ok (.bipush 127, 2) := by decide +kernel
theorem dL_refuses_271 : decode cL_refuses 271 = .ok (.iload_n 1, 1) := by decide +kernel
theorem dL_refuses_272 : decode cL_refuses 272 = .ok (.iadd, 1) := by decide +kernel
theorem dL_refuses_273 : decode cL_refuses 273 = .ok (.invokestatic 134, 3) := by decide +kernel
theorem dL_refuses_276 : decode cL_refuses 276 = .ok (.bipush (-3), 2) := by decide +kernel
theorem dL_refuses_278 : decode cL_refuses 278 = .ok (.if_icmp .ne 27, 3) := by decide +kernel
theorem dL_refuses_281 : decode cL_refuses 281 = .ok (.aload_n 0, 1) := by decide +kernel
theorem dL_refuses_282 : decode cL_refuses 282 = .ok (.iload_n 3, 1) := by decide +kernel
theorem dL_refuses_283 : decode cL_refuses 283 = .ok (.invokestatic 145, 3) := by decide +kernel
theorem dL_refuses_286 : decode cL_refuses 286 = .ok (.bipush (-3), 2) := by decide +kernel
theorem dL_refuses_288 : decode cL_refuses 288 = .ok (.if_icmp .ne 17, 3) := by decide +kernel
theorem dL_refuses_291 : decode cL_refuses 291 = .ok (.aload_n 0, 1) := by decide +kernel
theorem dL_refuses_292 : decode cL_refuses 292 = .ok (.iload_n 3, 1) := by decide +kernel
theorem dL_refuses_293 : decode cL_refuses 293 = .ok (.invokestatic 147, 3) := by decide +kernel
theorem dL_refuses_296 : decode cL_refuses 296 = .ok (.bipush (-3), 2) := by decide +kernel
theorem dL_refuses_298 : decode cL_refuses 298 = .ok (.if_icmp .ne 7, 3) := by decide +kernel
theorem dL_refuses_301 : decode cL_refuses 301 = .ok (.iconst 1, 1) := by decide +kernel
theorem dL_refuses_302 : decode cL_refuses 302 = .ok (.goto 4, 3) := by decide +kernel
theorem dL_refuses_305 : decode cL_refuses 305 = .ok (.iconst 0, 1) := by decide +kernel
theorem dL_refuses_306 : decode cL_refuses 306 = .ok (.istore 4, 2) := by decide +kernel
theorem dL_refuses_308 : decode cL_refuses 308 = .ok (.iload 4, 2) := by decide +kernel
theorem dL_refuses_310 : decode cL_refuses 310 = .ok (.ifCond .eq 260, 3) := by decide +kernel
theorem dL_refuses_313 : decode cL_refuses 313 = .ok (.aload_n 0, 1) := by decide +kernel
theorem dL_refuses_314 : decode cL_refuses 314 = .ok (.iload_n 2, 1) := by decide +kernel
theorem dL_refuses_315 : decode cL_refuses 315 = .ok (.invokestatic 212, 3) := by decide +kernel
theorem dL_refuses_318 : decode cL_refuses 318 = .ok (.bipush (-2), 2) := by decide +kernel
theorem dL_refuses_320 : decode cL_refuses 320 = .ok (.if_icmp .ne 250, 3) := by decide +kernel
theorem dL_refuses_323 : decode cL_refuses 323 = .ok (.aload_n 0, 1) := by decide +kernel
theorem dL_refuses_324 : decode cL_refuses 324 = .ok (.iload_n 2, 1) := by decide +kernel
theorem dL_refuses_325 : decode cL_refuses 325 = .ok (.invokestatic 218, 3) := by decide +kernel
theorem dL_refuses_328 : decode cL_refuses 328 = .ok (.bipush (-2), 2) := by decide +kernel
theorem dL_refuses_330 : decode cL_refuses 330 = .ok (.if_icmp .ne 240, 3) := by decide +kernel
theorem dL_refuses_333 : decode cL_refuses 333 = .ok (.aload_n 0, 1) := by decide +kernel
theorem dL_refuses_334 : decode cL_refuses 334 = .ok (.iload_n 2, 1) := by decide +kernel
theorem dL_refuses_335 : decode cL_refuses 335 = .ok (.invokestatic 220, 3) := by decide +kernel
theorem dL_refuses_338 : decode cL_refuses 338 = .ok (.bipush (-2), 2) := by decide +kernel
theorem dL_refuses_340 : decode cL_refuses 340 = .ok (.if_icmp .ne 230, 3) := by decide +kernel
theorem dL_refuses_343 : decode cL_refuses 343 = .ok (.aload_n 0, 1) := by decide +kernel
theorem dL_refuses_344 : decode cL_refuses 344 = .ok (.iload_n 2, 1) := by decide +kernel
theorem dL_refuses_345 : decode cL_refuses 345 = .ok (.invokestatic 222, 3) := by decide +kernel
theorem dL_refuses_348 : decode cL_refuses 348 = .ok (.bipush (-2), 2) := by decide +kernel
theorem dL_refuses_350 : decode cL_refuses 350 = .ok (.if_icmp .ne 220, 3) := by decide +kernel
theorem dL_refuses_353 : decode cL_refuses 353 = .ok (.aload_n 0, 1) := by decide +kernel
theorem dL_refuses_354 : decode cL_refuses 354 = .ok (.iload_n 2, 1) := by decide +kernel
theorem dL_refuses_355 : decode cL_refuses 355 = .ok (.invokestatic 224, 3) := by decide +kernel
theorem dL_refuses_358 : decode cL_refuses 358 = .ok (.bipush (-2), 2) := by decide +kernel
theorem dL_refuses_360 : decode cL_refuses 360 = .ok (.if_icmp .ne 210, 3) := by decide +kernel
theorem dL_refuses_363 : decode cL_refuses 363 = .ok (.aload_n 0, 1) := by decide +kernel
theorem dL_refuses_364 : decode cL_refuses 364 = .ok (.iload_n 2, 1) := by decide +kernel
theorem dL_refuses_365 : decode cL_refuses 365 = .ok (.invokestatic 226, 3) := by decide +kernel
theorem dL_refuses_368 : decode cL_refuses 368 = .ok (.bipush (-2), 2) := by decide +kernel
theorem dL_refuses_370 : decode cL_refuses 370 = .ok (.if_icmp .ne 200, 3) := by decide +kernel
theorem dL_refuses_373 : decode cL_refuses 373 = .ok (.aload_n 0, 1) := by decide +kernel
theorem dL_refuses_374 : decode cL_refuses 374 = .ok (.iload_n 2, 1) := by decide +kernel
theorem dL_refuses_375 : decode cL_refuses 375 = .ok (.invokestatic 210, 3) := by decide +kernel
theorem dL_refuses_378 : decode cL_refuses 378 = .ok (.bipush (-2), 2) := by decide +kernel
theorem dL_refuses_380 : decode cL_refuses 380 = .ok (.if_icmp .ne 190, 3) := by decide +kernel
theorem dL_refuses_383 : decode cL_refuses 383 = .ok (.aload_n 0, 1) := by decide +kernel
theorem dL_refuses_384 : decode cL_refuses 384 = .ok (.iload_n 2, 1) := by decide +kernel
theorem dL_refuses_385 : decode cL_refuses 385 = .ok (.invokestatic 228, 3) := by decide +kernel
theorem dL_refuses_388 : decode cL_refuses 388 = .ok (.bipush (-2), 2) := by decide +kernel
theorem dL_refuses_390 : decode cL_refuses 390 = .ok (.if_icmp .ne 180, 3) := by decide +kernel
theorem dL_refuses_393 : decode cL_refuses 393 = .ok (.aload_n 0, 1) := by decide +kernel
theorem dL_refuses_394 : decode cL_refuses 394 = .ok (.iload_n 2, 1) := by decide +kernel
theorem dL_refuses_395 : decode cL_refuses 395 = .ok (.invokestatic 206, 3) := by decide +kernel
theorem dL_refuses_398 : decode cL_refuses 398 = .ok (.bipush (-2), 2) := by decide +kernel
theorem dL_refuses_400 : decode cL_refuses 400 = .ok (.if_icmp .ne 170, 3) := by decide +kernel
theorem dL_refuses_403 : decode cL_refuses 403 = .ok (.aload_n 0, 1) := by decide +kernel
theorem dL_refuses_404 : decode cL_refuses 404 = .ok (.iload_n 2, 1) := by decide +kernel
theorem dL_refuses_405 : decode cL_refuses 405 = .ok (.invokestatic 238, 3) := by decide +kernel
theorem dL_refuses_408 : decode cL_refuses 408 = .ok (.bipush (-2), 2) := by decide +kernel
theorem dL_refuses_410 : decode cL_refuses 410 = .ok (.if_icmp .ne 160, 3) := by decide +kernel
theorem dL_refuses_413 : decode cL_refuses 413 = .ok (.aload_n 0, 1) := by decide +kernel
theorem dL_refuses_414 : decode cL_refuses 414 = .ok (.iconst 4, 1) := by decide +kernel
theorem dL_refuses_415 : decode cL_refuses 415 = .ok (.iload_n 1, 1) := by decide +kernel
theorem dL_refuses_416 : decode cL_refuses 416 = .ok (.iadd, 1) := by decide +kernel
theorem dL_refuses_417 : decode cL_refuses 417 = .ok (.invokestatic 262, 3) := by decide +kernel
theorem dL_refuses_420 : decode cL_refuses 420 = .ok (.bipush (-2), 2) := by decide +kernel
theorem dL_refuses_422 : decode cL_refuses 422 = .ok (.if_icmp .ne 148, 3) := by decide +kernel
theorem dL_refuses_425 : decode cL_refuses 425 = .ok (.aload_n 0, 1) := by decide +kernel
theorem dL_refuses_426 : decode cL_refuses 426 = .ok (.iconst (-1), 1) := by decide +kernel
theorem dL_refuses_427 : decode cL_refuses 427 = .ok (.iload_n 1, 1) := by decide +kernel
theorem dL_refuses_428 : decode cL_refuses 428 = .ok (.isub, 1) := by decide +kernel
theorem dL_refuses_429 : decode cL_refuses 429 = .ok (.invokestatic 262, 3) := by decide +kernel
theorem dL_refuses_432 : decode cL_refuses 432 = .ok (.bipush (-2), 2) := by decide +kernel
theorem dL_refuses_434 : decode cL_refuses 434 = .ok (.if_icmp .ne 136, 3) := by decide +kernel
theorem dL_refuses_437 : decode cL_refuses 437 = .ok (.aload_n 0, 1) := by decide +kernel
theorem dL_refuses_438 : decode cL_refuses 438 = .ok (.iload_n 2, 1) := by decide +kernel
theorem dL_refuses_439 : decode cL_refuses 439 = .ok (.invokestatic 214, 3) := by decide +kernel
theorem dL_refuses_442 : decode cL_refuses 442 = .ok (.bipush (-2), 2) := by decide +kernel
theorem dL_refuses_444 : decode cL_refuses 444 = .ok (.if_icmp .ne 126, 3) := by decide +kernel
theorem dL_refuses_447 : decode cL_refuses 447 = .ok (.aload_n 0, 1) := by decide +kernel
theorem dL_refuses_448 : decode cL_refuses 448 = .ok (.iload_n 2, 1) := by decide +kernel
theorem dL_refuses_449 : decode cL_refuses 449 = .ok (.invokestatic 216, 3) := by decide +kernel
theorem dL_refuses_452 : decode cL_refuses 452 = .ok (.bipush (-2), 2) := by decide +kernel
theorem dL_refuses_454 : decode cL_refuses 454 = .ok (.if_icmp .ne 116, 3) := by decide +kernel
theorem dL_refuses_457 : decode cL_refuses 457 = .ok (.aload_n 0, 1) := by decide +kernel
theorem dL_refuses_458 : decode cL_refuses 458 = .ok (.iload_n 2, 1) := by decide +kernel
theorem dL_refuses_459 : decode cL_refuses 459 = .ok (.invokestatic 208, 3) := by decide +kernel
theorem dL_refuses_462 : decode cL_refuses 462 = .ok (.bipush (-2), 2) := by decide +kernel
theorem dL_refuses_464 : decode cL_refuses 464 = .ok (.if_icmp .ne 106, 3) := by decide +kernel
theorem dL_refuses_467 : decode cL_refuses 467 = .ok (.aload_n 0, 1) := by decide +kernel
theorem dL_refuses_468 : decode cL_refuses 468 = .ok (.iload_n 2, 1) := by decide +kernel
theorem dL_refuses_469 : decode cL_refuses 469 = .ok (.invokestatic 236, 3) := by decide +kernel
theorem dL_refuses_472 : decode cL_refuses 472 = .ok (.bipush (-2), 2) := by decide +kernel
theorem dL_refuses_474 : decode cL_refuses 474 = .ok (.if_icmp .ne 96, 3) := by decide +kernel
theorem dL_refuses_477 : decode cL_refuses 477 = .ok (.aload_n 0, 1) := by decide +kernel
theorem dL_refuses_478 : decode cL_refuses 478 = .ok (.iload_n 2, 1) := by decide +kernel
theorem dL_refuses_479 : decode cL_refuses 479 = .ok (.invokestatic 230, 3) := by decide +kernel
theorem dL_refuses_482 : decode cL_refuses 482 = .ok (.bipush (-2), 2) := by decide +kernel
theorem dL_refuses_484 : decode cL_refuses 484 = .ok (.if_icmp .ne 86, 3) := by decide +kernel
theorem dL_refuses_487 : decode cL_refuses 487 = .ok (.aload_n 0, 1) := by decide +kernel
theorem dL_refuses_488 : decode cL_refuses 488 = .ok (.iload_n 2, 1) := by decide +kernel
theorem dL_refuses_489 : decode cL_refuses 489 = .ok (.invokestatic 234, 3) := by decide +kernel
theorem dL_refuses_492 : decode cL_refuses 492 = .ok (.bipush (-2), 2) := by decide +kernel
theorem dL_refuses_494 : decode cL_refuses 494 = .ok (.if_icmp .ne 76, 3) := by decide +kernel
theorem dL_refuses_497 : decode cL_refuses 497 = .ok (.aload_n 0, 1) := by decide +kernel
theorem dL_refuses_498 : decode cL_refuses 498 = .ok (.iload_n 2, 1) := by decide +kernel
theorem dL_refuses_499 : decode cL_refuses 499 = .ok (.iconst 0, 1) := by decide +kernel
theorem dL_refuses_500 : decode cL_refuses 500 = .ok (.invokestatic 240, 3) := by decide +kernel
theorem dL_refuses_503 : decode cL_refuses 503 = .ok (.bipush (-2), 2) := by decide +kernel
theorem dL_refuses_505 : decode cL_refuses 505 = .ok (.if_icmp .ne 65, 3) := by decide +kernel
theorem dL_refuses_508 : decode cL_refuses 508 = .ok (.aload_n 0, 1) := by decide +kernel
theorem dL_refuses_509 : decode cL_refuses 509 = .ok (.iload_n 2, 1) := by decide +kernel
theorem dL_refuses_510 : decode cL_refuses 510 = .ok (.iconst 0, 1) := by decide +kernel
theorem dL_refuses_511 : decode cL_refuses 511 = .ok (.invokestatic 242, 3) := by decide +kernel
theorem dL_refuses_514 : decode cL_refuses 514 = .ok (.bipush (-2), 2) := by decide +kernel
theorem dL_refuses_516 : decode cL_refuses 516 = .ok (.if_icmp .ne 54, 3) := by decide +kernel
theorem dL_refuses_519 : decode cL_refuses 519 = .ok (.aload_n 0, 1) := by decide +kernel
theorem dL_refuses_520 : decode cL_refuses 520 = .ok (.iload_n 2, 1) := by decide +kernel
theorem dL_refuses_521 : decode cL_refuses 521 = .ok (.invokestatic 244, 3) := by decide +kernel
theorem dL_refuses_524 : decode cL_refuses 524 = .ok (.bipush (-2), 2) := by decide +kernel
theorem dL_refuses_526 : decode cL_refuses 526 = .ok (.if_icmp .ne 44, 3) := by decide +kernel
theorem dL_refuses_529 : decode cL_refuses 529 = .ok (.aload_n 0, 1) := by decide +kernel
theorem dL_refuses_530 : decode cL_refuses 530 = .ok (.aload_n 0, 1) := by decide +kernel
theorem dL_refuses_531 : decode cL_refuses 531 = .ok (.invokevirtual 185, 3) := by decide +kernel
theorem dL_refuses_534 : decode cL_refuses 534 = .ok (.iload_n 1, 1) := by decide +kernel
theorem dL_refuses_535 : decode cL_refuses 535 = .ok (.iadd, 1) := by decide +kernel
theorem dL_refuses_536 : decode cL_refuses 536 = .ok (.invokestatic 246, 3) := by decide +kernel
theorem dL_refuses_539 : decode cL_refuses 539 = .ok (.bipush (-2), 2) := by decide +kernel
theorem dL_refuses_541 : decode cL_refuses 541 = .ok (.if_icmp .ne 29, 3) := by decide +kernel
theorem dL_refuses_544 : decode cL_refuses 544 = .ok (.aload_n 0, 1) := by decide +kernel
theorem dL_refuses_545 : decode cL_refuses 545 = .ok (.iconst (-1), 1) := by decide +kernel
theorem dL_refuses_546 : decode cL_refuses 546 = .ok (.iload_n 1, 1) := by decide +kernel
theorem dL_refuses_547 : decode cL_refuses 547 = .ok (.isub, 1) := by decide +kernel
theorem dL_refuses_548 : decode cL_refuses 548 = .ok (.invokestatic 246, 3) := by decide +kernel
theorem dL_refuses_551 : decode cL_refuses 551 = .ok (.bipush (-2), 2) := by decide +kernel
theorem dL_refuses_553 : decode cL_refuses 553 = .ok (.if_icmp .ne 17, 3) := by decide +kernel
theorem dL_refuses_556 : decode cL_refuses 556 = .ok (.aload_n 0, 1) := by decide +kernel
theorem dL_refuses_557 : decode cL_refuses 557 = .ok (.iload_n 2, 1) := by decide +kernel
theorem dL_refuses_558 : decode cL_refuses 558 = .ok (.invokestatic 232, 3) := by decide +kernel
theorem dL_refuses_561 : decode cL_refuses 561 = .ok (.bipush (-2), 2) := by decide +kernel
theorem dL_refuses_563 : decode cL_refuses 563 = .ok (.if_icmp .ne 7, 3) := by decide +kernel
theorem dL_refuses_566 : decode cL_refuses 566 = .ok (.iconst 1, 1) := by decide +kernel
theorem dL_refuses_567 : decode cL_refuses 567 = .ok (.goto 4, 3) := by decide +kernel
theorem dL_refuses_570 : decode cL_refuses 570 = .ok (.iconst 0, 1) := by decide +kernel
theorem dL_refuses_571 : decode cL_refuses 571 = .ok (.istore 4, 2) := by decide +kernel
theorem dL_refuses_573 : decode cL_refuses 573 = .ok (.iconst 0, 1) := by decide +kernel
theorem dL_refuses_574 : decode cL_refuses 574 = .ok (.istore 5, 2) := by decide +kernel
theorem dL_refuses_576 : decode cL_refuses 576 = .ok (.iload 5, 2) := by decide +kernel
theorem dL_refuses_578 : decode cL_refuses 578 = .ok (.aload_n 0, 1) := by decide +kernel
theorem dL_refuses_579 : decode cL_refuses 579 = .ok (.invokevirtual 139, 3) := by decide +kernel
theorem dL_refuses_582 : decode cL_refuses 582 = .ok (.if_icmp .ge 116, 3) := by decide +kernel
theorem dL_refuses_585 : decode cL_refuses 585 = .ok (.iload 4, 2) := by decide +kernel
theorem dL_refuses_587 : decode cL_refuses 587 = .ok (.ifCond .eq 111, 3) := by decide +kernel
theorem dL_refuses_590 : decode cL_refuses 590 = .ok (.aload_n 0, 1) := by decide +kernel
theorem dL_refuses_591 : decode cL_refuses 591 = .ok (.iload 5, 2) := by decide +kernel
theorem dL_refuses_593 : decode cL_refuses 593 = .ok (.bipush 41, 2) := by decide +kernel
theorem dL_refuses_595 : decode cL_refuses 595 = .ok (.iload_n 1, 1) := by decide +kernel
theorem dL_refuses_596 : decode cL_refuses 596 = .ok (.iadd, 1) := by decide +kernel
theorem dL_refuses_597 : decode cL_refuses 597 = .ok (.invokestatic 171, 3) := by decide +kernel
theorem dL_refuses_600 : decode cL_refuses 600 = .ok (.bipush (-3), 2) := by decide +kernel
theorem dL_refuses_602 : decode cL_refuses 602 = .ok (.if_icmp .ne 87, 3) := by decide +kernel
theorem dL_refuses_605 : decode cL_refuses 605 = .ok (.aload_n 0, 1) := by decide +kernel
theorem dL_refuses_606 : decode cL_refuses 606 = .ok (.iload 5, 2) := by decide +kernel
theorem dL_refuses_608 : decode cL_refuses 608 = .ok (.bipush 9, 2) := by decide +kernel
theorem dL_refuses_610 : decode cL_refuses 610 = .ok (.iload_n 1, 1) := by decide +kernel
theorem dL_refuses_611 : decode cL_refuses 611 = .ok (.isub, 1) := by decide +kernel
theorem dL_refuses_612 : decode cL_refuses 612 = .ok (.invokestatic 171, 3) := by decide +kernel
theorem dL_refuses_615 : decode cL_refuses 615 = .ok (.bipush (-3), 2) := by decide +kernel
theorem dL_refuses_617 : decode cL_refuses 617 = .ok (.if_icmp .ne 72, 3) := by decide +kernel
theorem dL_refuses_620 : decode cL_refuses 620 = .ok (.aload_n 0, 1) := by decide +kernel
theorem dL_refuses_621 : decode cL_refuses 621 = .ok (.iload 5, 2) := by decide +kernel
theorem dL_refuses_623 : decode cL_refuses 623 = .ok (.iload 5, 2) := by decide +kernel
theorem dL_refuses_625 : decode cL_refuses 625 = .ok (.invokestatic 176, 3) := by decide +kernel
theorem dL_refuses_628 : decode cL_refuses 628 = .ok (.bipush (-3), 2) := by decide +kernel
theorem dL_refuses_630 : decode cL_refuses 630 = .ok (.if_icmp .ne 59, 3) := by decide +kernel
theorem dL_refuses_633 : decode cL_refuses 633 = .ok (.aload_n 0, 1) := by decide +kernel
theorem dL_refuses_634 : decode cL_refuses 634 = .ok (.iload 5, 2) := by decide +kernel
theorem dL_refuses_636 : decode cL_refuses 636 = .ok (.sipush 201, 3) := by decide +kernel
theorem dL_refuses_639 : decode cL_refuses 639 = .ok (.iload_n 1, 1) := by decide +kernel
theorem dL_refuses_640 : decode cL_refuses 640 = .ok (.iadd, 1) := by decide +kernel
theorem dL_refuses_641 : decode cL_refuses 641 = .ok (.invokestatic 240, 3) := by decide +kernel
theorem dL_refuses_644 : decode cL_refuses 644 = .ok (.bipush (-3), 2) := by decide +kernel
theorem dL_refuses_646 : decode cL_refuses 646 = .ok (.if_icmp .ne 43, 3) := by decide +kernel
theorem dL_refuses_649 : decode cL_refuses 649 = .ok (.aload_n 0, 1) := by decide +kernel
theorem dL_refuses_650 : decode cL_refuses 650 = .ok (.iload 5, 2) := by decide +kernel
theorem dL_refuses_652 : decode cL_refuses 652 = .ok (.bipush 9, 2) := by decide +kernel
theorem dL_refuses_654 : decode cL_refuses 654 = .ok (.iload_n 1, 1) := by decide +kernel
theorem dL_refuses_655 : decode cL_refuses 655 = .ok (.isub, 1) := by decide +kernel
theorem dL_refuses_656 : decode cL_refuses 656 = .ok (.invokestatic 242, 3) := by decide +kernel
theorem dL_refuses_659 : decode cL_refuses 659 = .ok (.bipush (-3), 2) := by decide +kernel
theorem dL_refuses_661 : decode cL_refuses 661 = .ok (.if_icmp .ne 28, 3) := by decide +kernel
theorem dL_refuses_664 : decode cL_refuses 664 = .ok (.aload_n 0, 1) := by decide +kernel
theorem dL_refuses_665 : decode cL_refuses 665 = .ok (.iload 5, 2) := by decide +kernel
theorem dL_refuses_667 : decode cL_refuses 667 = .ok (.invokestatic 210, 3) := by decide +kernel
theorem dL_refuses_670 : decode cL_refuses 670 = .ok (.iconst 3, 1) := by decide +kernel
theorem dL_refuses_671 : decode cL_refuses 671 = .ok (.if_icmp .ne 14, 3) := by decide +kernel
theorem dL_refuses_674 : decode cL_refuses 674 = .ok (.aload_n 0, 1) := by decide +kernel
theorem dL_refuses_675 : decode cL_refuses 675 = .ok (.iload 5, 2) := by decide +kernel
theorem dL_refuses_677 : decode cL_refuses 677 = .ok (.invokestatic 174, 3) := by decide +kernel
theorem dL_refuses_680 : decode cL_refuses 680 = .ok (.bipush (-4), 2) := by decide +kernel
theorem dL_refuses_682 : decode cL_refuses 682 = .ok (.if_icmp .ne 7, 3) := by decide +kernel
theorem dL_refuses_685 : decode cL_refuses 685 = .ok (.iconst 1, 1) := by decide +kernel
theorem dL_refuses_686 : decode cL_refuses 686 = .ok (.goto 4, 3) := by decide +kernel
theorem dL_refuses_689 : decode cL_refuses 689 = .ok (.iconst 0, 1) := by decide +kernel
theorem dL_refuses_690 : decode cL_refuses 690 = .ok (.istore 4, 2) := by decide +kernel
theorem dL_refuses_692 : decode cL_refuses 692 = .ok (.iinc 5 1, 3) := by decide +kernel
theorem dL_refuses_695 : decode cL_refuses 695 = .ok (.goto (-119), 3) := by decide +kernel
theorem dL_refuses_698 : decode cL_refuses 698 = .ok (.iload 4, 2) := by decide +kernel
theorem dL_refuses_700 : decode cL_refuses 700 = .ok (.ifCond .eq 96, 3) := by decide +kernel
theorem dL_refuses_703 : decode cL_refuses 703 = .ok (.aload_n 0, 1) := by decide +kernel
theorem dL_refuses_704 : decode cL_refuses 704 = .ok (.invokevirtual 160, 3) := by decide +kernel
theorem dL_refuses_707 : decode cL_refuses 707 = .ok (.ifCond .eq 28, 3) := by decide +kernel
theorem dL_refuses_710 : decode cL_refuses 710 = .ok (.aload_n 0, 1) := by decide +kernel
theorem dL_refuses_711 : decode cL_refuses 711 = .ok (.bipush 20, 2) := by decide +kernel
theorem dL_refuses_713 : decode cL_refuses 713 = .ok (.sipush 500, 3) := by decide +kernel
theorem dL_refuses_716 : decode cL_refuses 716 = .ok (.iconst 0, 1) := by decide +kernel
theorem dL_refuses_717 : decode cL_refuses 717 = .ok (.invokestatic 168, 3) := by decide +kernel
theorem dL_refuses_720 : decode cL_refuses 720 = .ok (.bipush (-4), 2) := by decide +kernel
theorem dL_refuses_722 : decode cL_refuses 722 = .ok (.if_icmp .ne 74, 3) := by decide +kernel
theorem dL_refuses_725 : decode cL_refuses 725 = .ok (.aload_n 0, 1) := by decide +kernel
theorem dL_refuses_726 : decode cL_refuses 726 = .ok (.iconst 3, 1) := by decide +kernel
theorem dL_refuses_727 : decode cL_refuses 727 = .ok (.invokestatic 180, 3) := by decide +kernel
theorem dL_refuses_730 : decode cL_refuses 730 = .ok (.bipush (-4), 2) := by decide +kernel
theorem dL_refuses_732 : decode cL_refuses 732 = .ok (.if_icmp .ne 64, 3) := by decide +kernel
theorem dL_refuses_735 : decode cL_refuses 735 = .ok (.aload_n 0, 1) := by decide +kernel
theorem dL_refuses_736 : decode cL_refuses 736 = .ok (.invokevirtual 160, 3) := by decide +kernel
theorem dL_refuses_739 : decode cL_refuses 739 = .ok (.ifCond .ne 13, 3) := by decide +kernel
theorem dL_refuses_742 : decode cL_refuses 742 = .ok (.aload_n 0, 1) := by decide +kernel
theorem dL_refuses_743 : decode cL_refuses 743 = .ok (.iconst 5, 1) := by decide +kernel
theorem dL_refuses_744 : decode cL_refuses 744 = .ok (.invokestatic 164, 3) := by decide +kernel
theorem dL_refuses_747 : decode cL_refuses 747 = .ok (.bipush (-4), 2) := by decide +kernel
theorem dL_refuses_749 : decode cL_refuses 749 = .ok (.if_icmp .ne 47, 3) := by decide +kernel
theorem dL_refuses_752 : decode cL_refuses 752 = .ok (.aload_n 0, 1) := by decide +kernel
theorem dL_refuses_753 : decode cL_refuses 753 = .ok (.invokevirtual 139, 3) := by decide +kernel
theorem dL_refuses_756 : decode cL_refuses 756 = .ok (.ifCond .gt 12, 3) := by decide +kernel
theorem dL_refuses_759 : decode cL_refuses 759 = .ok (.aload_n 0, 1) := by decide +kernel
theorem dL_refuses_760 : decode cL_refuses 760 = .ok (.invokestatic 166, 3) := by decide +kernel
theorem dL_refuses_763 : decode cL_refuses 763 = .ok (.bipush (-4), 2) := by decide +kernel
theorem dL_refuses_765 : decode cL_refuses 765 = .ok (.if_icmp .ne 31, 3) := by decide +kernel
theorem dL_refuses_768 : decode cL_refuses 768 = .ok (.aload_n 0, 1) := by decide +kernel
theorem dL_refuses_769 : decode cL_refuses 769 = .ok (.invokevirtual 139, 3) := by decide +kernel
theorem dL_refuses_772 : decode cL_refuses 772 = .ok (.bipush 8, 2) := by decide +kernel
theorem dL_refuses_774 : decode cL_refuses 774 = .ok (.if_icmp .lt 18, 3) := by decide +kernel
theorem dL_refuses_777 : decode cL_refuses 777 = .ok (.aload_n 0, 1) := by decide +kernel
theorem dL_refuses_778 : decode cL_refuses 778 = .ok (.bipush 20, 2) := by decide +kernel
theorem dL_refuses_780 : decode cL_refuses 780 = .ok (.sipush 500, 3) := by decide +kernel
theorem dL_refuses_783 : decode cL_refuses 783 = .ok (.iconst 0, 1) := by decide +kernel
theorem dL_refuses_784 : decode cL_refuses 784 = .ok (.invokestatic 168, 3) := by decide +kernel
theorem dL_refuses_787 : decode cL_refuses 787 = .ok (.bipush (-4), 2) := by decide +kernel
theorem dL_refuses_789 : decode cL_refuses 789 = .ok (.if_icmp .ne 7, 3) := by decide +kernel
theorem dL_refuses_792 : decode cL_refuses 792 = .ok (.iconst 1, 1) := by decide +kernel
theorem dL_refuses_793 : decode cL_refuses 793 = .ok (.goto 4, 3) := by decide +kernel
theorem dL_refuses_796 : decode cL_refuses 796 = .ok (.iconst 0, 1) := by decide +kernel
theorem dL_refuses_797 : decode cL_refuses 797 = .ok (.ireturn, 1) := by decide +kernel
