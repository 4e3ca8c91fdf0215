theorem dL_same_163 : decode cL_same 163 = .ok (.aload_n 0, 1) := by decide +kernel
theorem dL_same_164 : decode cL_same 164 = .ok (.iload 12, 2) := by decide +kernel
theorem dL_same_166 : decode cL_same 166 = .ok (.iconst 0, 1) := by decide +kernel
theorem dL_same_167 : decode cL_same 167 = .ok (.invokevirtual 40, 3) := by decide +kernel
theorem dL_same_170 : decode cL_same 170 = .ok (.i2l, 1) := by decide +kernel
theorem dL_same_171 : decode cL_same 171 = .ok (.aload_n 2, 1) := by decide +kernel
theorem dL_same_172 : decode cL_same 172 = .ok (.iload 12, 2) := by decide +kernel
theorem dL_same_174 : decode cL_same 174 = .ok (.laload, 1) := by decide +kernel
theorem dL_same_175 : decode cL_same 175 = .ok (.lcmp, 1) := by decide +kernel
theorem dL_same_176 : decode cL_same 176 = .ok (.ifCond .ne 126, 3) := by decide +kernel
theorem dL_same_179 : decode cL_same 179 = .ok (.aload_n 0, 1) := by decide +kernel
theorem dL_same_180 : decode cL_same 180 = .ok (.iload 12, 2) := by decide +kernel
theorem dL_same_182 : decode cL_same 182 = .ok (.iconst 1, 1) := by decide +kernel
theorem dL_same_183 : decode cL_same 183 = .ok (.invokevirtual 40, 3) := by decide +kernel
theorem dL_same_186 : decode cL_same 186 = .ok (.iload 12, 2) := by decide +kernel
theorem dL_same_188 : decode cL_same 188 = .ok (.aload_n 3, 1) := by decide +kernel
theorem dL_same_189 : decode cL_same 189 = .ok (.iconst 0, 1) := by decide +kernel
theorem dL_same_190 : decode cL_same 190 = .ok (.iaload, 1) := by decide +kernel
theorem dL_same_191 : decode cL_same 191 = .ok (.aload 4, 2) := by decide +kernel
theorem dL_same_193 : decode cL_same 193 = .ok (.invokestatic 10, 3) := by decide +kernel
theorem dL_same_196 : decode cL_same 196 = .ok (.if_icmp .ne 106, 3) := by decide +kernel
theorem dL_same_199 : decode cL_same 199 = .ok (.aload_n 0, 1) := by decide +kernel
theorem dL_same_200 : decode cL_same 200 = .ok (.iload 12, 2) := by decide +kernel
theorem dL_same_202 : decode cL_same 202 = .ok (.iconst 2, 1) := by decide +kernel
theorem dL_same_203 : decode cL_same 203 = .ok (.invokevirtual 40, 3) := by decide +kernel
theorem dL_same_206 : decode cL_same 206 = .ok (.iload 12, 2) := by decide +kernel
theorem dL_same_208 : decode cL_same 208 = .ok (.aload_n 2, 1) := by decide +kernel
theorem dL_same_209 : decode cL_same 209 = .ok (.aload_n 3, 1) := by decide +kernel
theorem dL_same_210 : decode cL_same 210 = .ok (.aload 4, 2) := by decide +kernel
theorem dL_same_212 : decode cL_same 212 = .ok (.invokestatic 49, 3) := by decide +kernel
theorem dL_same_215 : decode cL_same 215 = .ok (.if_icmp .ne 87, 3) := by decide +kernel
theorem dL_same_218 : decode cL_same 218 = .ok (.aload_n 0, 1) := by decide +kernel
theorem dL_same_219 : decode cL_same 219 = .ok (.iload 12, 2) := by decide +kernel
theorem dL_same_221 : decode cL_same 221 = .ok (.iconst 3, 1) := by decide +kernel
theorem dL_same_222 : decode cL_same 222 = .ok (.invokevirtual 40, 3) := by decide +kernel
theorem dL_same_225 : decode cL_same 225 = .ok (.i2l, 1) := by decide +kernel
theorem dL_same_226 : decode cL_same 226 = .ok (.lload 16, 2) := by decide +kernel
theorem dL_same_228 : decode cL_same 228 = .ok (.ldc2_w 30, 3) := by decide +kernel
theorem dL_same_231 : decode cL_same 231 = .ok (.lcmp, 1) := by decide +kernel
theorem dL_same_232 : decode cL_same 232 = .ok (.ifCond .le 9, 3) := by decide +kernel
theorem dL_same_235 : decode cL_same 235 = .ok (.ldc2_w 30, 3) := by decide +kernel
theorem dL_same_238 : decode cL_same 238 = .ok (.goto 5, 3) := by decide +kernel
theorem dL_same_241 : decode cL_same 241 = .ok (.lload 16, 2) := by decide +kernel
theorem dL_same_243 : decode cL_same 243 = .ok (.lcmp, 1) := by decide +kernel
theorem dL_same_244 : decode cL_same 244 = .ok (.ifCond .ne 58, 3) := by decide +kernel
theorem dL_same_247 : decode cL_same 247 = .ok (.aload_n 0, 1) := by decide +kernel
theorem dL_same_248 : decode cL_same 248 = .ok (.iload 12, 2) := by decide +kernel
theorem dL_same_250 : decode cL_same 250 = .ok (.iconst 4, 1) := by decide +kernel
theorem dL_same_251 : decode cL_same 251 = .ok (.invokevirtual 40, 3) := by decide +kernel
theorem dL_same_254 : decode cL_same 254 = .ok (.iload 15, 2) := by decide +kernel
theorem dL_same_256 : decode cL_same 256 = .ok (.if_icmp .ne 46, 3) := by decide +kernel
theorem dL_same_259 : decode cL_same 259 = .ok (.aload_n 0, 1) := by decide +kernel
theorem dL_same_260 : decode cL_same 260 = .ok (.iload 12, 2) := by decide +kernel
theorem dL_same_262 : decode cL_same 262 = .ok (.iconst 5, 1) := by decide +kernel
theorem dL_same_263 : decode cL_same 263 = .ok (.invokevirtual 40, 3) := by decide +kernel
theorem dL_same_266 : decode cL_same 266 = .ok (.aload_n 3, 1) := by decide +kernel
theorem dL_same_267 : decode cL_same 267 = .ok (.bipush 10, 2) := by decide +kernel
theorem dL_same_269 : decode cL_same 269 = .ok (.iload 12, 2) := by decide +kernel
theorem dL_same_271 : decode cL_same 271 = .ok (.iadd, 1) := by decide +kernel
theorem dL_same_272 : decode cL_same 272 = .ok (.iaload, 1) := by decide +kernel
theorem dL_same_273 : decode cL_same 273 = .ok (.if_icmp .ne 29, 3) := by decide +kernel
theorem dL_same_276 : decode cL_same 276 = .ok (.aload_n 0, 1) := by decide +kernel
theorem dL_same_277 : decode cL_same 277 = .ok (.iload 12, 2) := by decide +kernel
theorem dL_same_279 : decode cL_same 279 = .ok (.bipush 6, 2) := by decide +kernel
theorem dL_same_281 : decode cL_same 281 = .ok (.invokevirtual 40, 3) := by decide +kernel
theorem dL_same_284 : decode cL_same 284 = .ok (.iload 13, 2) := by decide +kernel
theorem dL_same_286 : decode cL_same 286 = .ok (.if_icmp .ne 16, 3) := by decide +kernel
theorem dL_same_289 : decode cL_same 289 = .ok (.aload_n 0, 1) := by decide +kernel
theorem dL_same_290 : decode cL_same 290 = .ok (.iload 12, 2) := by decide +kernel
theorem dL_same_292 : decode cL_same 292 = .ok (.bipush 7, 2) := by decide +kernel
theorem dL_same_294 : decode cL_same 294 = .ok (.invokevirtual 40, 3) := by decide +kernel
theorem dL_same_297 : decode cL_same 297 = .ok (.iload 14, 2) := by decide +kernel
theorem dL_same_299 : decode cL_same 299 = .ok (.if_icmp .eq 5, 3) := by decide +kernel
theorem dL_same_302 : decode cL_same 302 = .ok (.iconst 0, 1) := by decide +kernel
theorem dL_same_303 : decode cL_same 303 = .ok (.ireturn, 1) := by decide +kernel
theorem dL_same_304 : decode cL_same 304 = .ok (.lload 8, 2) := by decide +kernel
theorem dL_same_306 : decode cL_same 306 = .ok (.aload_n 2, 1) := by decide +kernel
theorem dL_same_307 : decode cL_same 307 = .ok (.iload 12, 2) := by decide +kernel
theorem dL_same_309 : decode cL_same 309 = .ok (.laload, 1) := by decide +kernel
theorem dL_same_310 : decode cL_same 310 = .ok (.ladd, 1) := by decide +kernel
theorem dL_same_311 : decode cL_same 311 = .ok (.lstore 8, 2) := by decide +kernel
theorem dL_same_313 : decode cL_same 313 = .ok (.lload 10, 2) := by decide +kernel
theorem dL_same_315 : decode cL_same 315 = .ok (.iload 12, 2) := by decide +kernel
theorem dL_same_317 : decode cL_same 317 = .ok (.aload_n 3, 1) := by decide +kernel
theorem dL_same_318 : decode cL_same 318 = .ok (.iconst 0, 1) := by decide +kernel
theorem dL_same_319 : decode cL_same 319 = .ok (.iaload, 1) := by decide +kernel
theorem dL_same_320 : decode cL_same 320 = .ok (.aload 4, 2) := by decide +kernel
theorem dL_same_322 : decode cL_same 322 = .ok (.invokestatic 10, 3) := by decide +kernel
theorem dL_same_325 : decode cL_same 325 = .ok (.i2l, 1) := by decide +kernel
theorem dL_same_326 : decode cL_same 326 = .ok (.ladd, 1) := by decide +kernel
theorem dL_same_327 : decode cL_same 327 = .ok (.lstore 10, 2) := by decide +kernel
theorem dL_same_329 : decode cL_same 329 = .ok (.iinc 12 1, 3) := by decide +kernel
theorem dL_same_332 : decode cL_same 332 = .ok (.goto (-320), 3) := by decide +kernel
theorem dL_same_335 : decode cL_same 335 = .ok (.iconst 1, 1) := by decide +kernel
theorem dL_same_336 : decode cL_same 336 = .ok (.istore 12, 2) := by decide +kernel
theorem dL_same_338 : decode cL_same 338 = .ok (.iload 12, 2) := by decide +kernel
theorem dL_same_340 : decode cL_same 340 = .ok (.iconst 4, 1) := by decide +kernel
theorem dL_same_341 : decode cL_same 341 = .ok (.if_icmp .ge 188, 3) := by decide +kernel
theorem dL_same_344 : decode cL_same 344 = .ok (.iconst 0, 1) := by decide +kernel
theorem dL_same_345 : decode cL_same 345 = .ok (.istore 13, 2) := by decide +kernel
theorem dL_same_347 : decode cL_same 347 = .ok (.iload 13, 2) := by decide +kernel
theorem dL_same_349 : decode cL_same 349 = .ok (.iconst 1, 1) := by decide +kernel
theorem dL_same_350 : decode cL_same 350 = .ok (.iadd, 1) := by decide +kernel
theorem dL_same_351 : decode cL_same 351 = .ok (.iload 7, 2) := by decide +kernel
theorem dL_same_353 : decode cL_same 353 = .ok (.if_icmp .ge 170, 3) := by decide +kernel
theorem dL_same_356 : decode cL_same 356 = .ok (.aload_n 0, 1) := by decide +kernel
theorem dL_same_357 : decode cL_same 357 = .ok (.iload 12, 2) := by decide +kernel
theorem dL_same_359 : decode cL_same 359 = .ok (.iload 13, 2) := by decide +kernel
theorem dL_same_361 : decode cL_same 361 = .ok (.invokevirtual 46, 3) := by decide +kernel
theorem dL_same_364 : decode cL_same 364 = .ok (.istore 14, 2) := by decide +kernel
theorem dL_same_366 : decode cL_same 366 = .ok (.aload_n 0, 1) := by decide +kernel
theorem dL_same_367 : decode cL_same 367 = .ok (.iload 12, 2) := by decide +kernel
theorem dL_same_369 : decode cL_same 369 = .ok (.iload 13, 2) := by decide +kernel
theorem dL_same_371 : decode cL_same 371 = .ok (.iconst 1, 1) := by decide +kernel
theorem dL_same_372 : decode cL_same 372 = .ok (.iadd, 1) := by decide +kernel
theorem dL_same_373 : decode cL_same 373 = .ok (.invokevirtual 46, 3) := by decide +kernel
theorem dL_same_376 : decode cL_same 376 = .ok (.istore 15, 2) := by decide +kernel
theorem dL_same_378 : decode cL_same 378 = .ok (.iload 14, 2) := by decide +kernel
theorem dL_same_380 : decode cL_same 380 = .ok (.iconst 1, 1) := by decide +kernel
theorem dL_same_381 : decode cL_same 381 = .ok (.if_icmp .lt 23, 3) := by decide +kernel
theorem dL_same_384 : decode cL_same 384 = .ok (.iload 14, 2) := by decide +kernel
theorem dL_same_386 : decode cL_same 386 = .ok (.bipush 6, 2) := by decide +kernel
theorem dL_same_388 : decode cL_same 388 = .ok (.if_icmp .gt 16, 3) := by decide +kernel
theorem dL_same_391 : decode cL_same 391 = .ok (.iload 15, 2) := by decide +kernel
theorem dL_same_393 : decode cL_same 393 = .ok (.iconst 1, 1) := by decide +kernel
theorem dL_same_394 : decode cL_same 394 = .ok (.if_icmp .lt 10, 3) := by decide +kernel
theorem dL_same_397 : decode cL_same 397 = .ok (.iload 15, 2) := by decide +kernel
theorem dL_same_399 : decode cL_same 399 = .ok (.bipush 6, 2) := by decide +kernel
theorem dL_same_401 : decode cL_same 401 = .ok (.if_icmp .le 5, 3) := by decide +kernel
theorem dL_same_404 : decode cL_same 404 = .ok (.iconst 0, 1) := by decide +kernel
theorem dL_same_405 : decode cL_same 405 = .ok (.ireturn, 1) := by decide +kernel
theorem dL_same_406 : decode cL_same 406 = .ok (.iload 12, 2) := by decide +kernel
theorem dL_same_408 : decode cL_same 408 = .ok (.iconst 1, 1) := by decide +kernel
theorem dL_same_409 : decode cL_same 409 = .ok (.if_icmp .ne 11, 3) := by decide +kernel
theorem dL_same_412 : decode cL_same 412 = .ok (.aload_n 2, 1) := by decide +kernel
theorem dL_same_413 : decode cL_same 413 = .ok (.iload 14, 2) := by decide +kernel
theorem dL_same_415 : decode cL_same 415 = .ok (.laload, 1) := by decide +kernel
theorem dL_same_416 : decode cL_same 416 = .ok (.lneg, 1) := by decide +kernel
theorem dL_same_417 : decode cL_same 417 = .ok (.goto 30, 3) := by decide +kernel
theorem dL_same_420 : decode cL_same 420 = .ok (.iload 12, 2) := by decide +kernel
theorem dL_same_422 : decode cL_same 422 = .ok (.iconst 2, 1) := by decide +kernel
theorem dL_same_423 : decode cL_same 423 = .ok (.if_icmp .ne 16, 3) := by decide +kernel
theorem dL_same_426 : decode cL_same 426 = .ok (.iload 14, 2) := by decide +kernel
theorem dL_same_428 : decode cL_same 428 = .ok (.aload_n 2, 1) := by decide +kernel
theorem dL_same_429 : decode cL_same 429 = .ok (.aload_n 3, 1) := by decide +kernel
theorem dL_same_430 : decode cL_same 430 = .ok (.aload 4, 2) := by decide +kernel
theorem dL_same_432 : decode cL_same 432 = .ok (.invokestatic 49, 3) := by decide +kernel
theorem dL_same_435 : decode cL_same 435 = .ok (.i2l, 1) := by decide +kernel
theorem dL_same_436 : decode cL_same 436 = .ok (.goto 11, 3) := by decide +kernel
theorem dL_same_439 : decode cL_same 439 = .ok (.aload_n 3, 1) := by decide +kernel
theorem dL_same_440 : decode cL_same 440 = .ok (.bipush 10, 2) := by decide +kernel
theorem dL_same_442 : decode cL_same 442 = .ok (.iload 14, 2) := by decide +kernel
theorem dL_same_444 : decode cL_same 444 = .ok (.iadd, 1) := by decide +kernel
theorem dL_same_445 : decode cL_same 445 = .ok (.iaload, 1) := by decide +kernel
theorem dL_same_446 : decode cL_same 446 = .ok (.i2l, 1) := by decide +kernel
theorem dL_same_447 : decode cL_same 447 = .ok (.lstore 16, 2) := by decide +kernel
theorem dL_same_449 : decode cL_same 449 = .ok (.iload 12, 2) := by decide +kernel
theorem dL_same_451 : decode cL_same 451 = .ok (.iconst 1, 1) := by decide +kernel
theorem dL_same_452 : decode cL_same 452 = .ok (.if_icmp .ne 11, 3) := by decide +kernel
theorem dL_same_455 : decode cL_same 455 = .ok (.aload_n 2, 1) := by decide +kernel
theorem dL_same_456 : decode cL_same 456 = .ok (.iload 15, 2) := by decide +kernel
theorem dL_same_458 : decode cL_same 458 = .ok (.laload, 1) := by decide +kernel
theorem dL_same_459 : decode cL_same 459 = .ok (.lneg, 1) := by decide +kernel
theorem dL_same_460 : decode cL_same 460 = .ok (.goto 30, 3) := by decide +kernel
theorem dL_same_463 : decode cL_same 463 = .ok (.iload 12, 2) := by decide +kernel
theorem dL_same_465 : decode cL_same 465 = .ok (.iconst 2, 1) := by decide +kernel
theorem dL_same_466 : decode cL_same 466 = .ok (.if_icmp .ne 16, 3) := by decide +kernel
theorem dL_same_469 : decode cL_same 469 = .ok (.iload 15, 2) := by decide +kernel
theorem dL_same_471 : decode cL_same 471 = .ok (.aload_n 2, 1) := by decide +kernel
theorem dL_same_472 : decode cL_same 472 = .ok (.aload_n 3, 1) := by decide +kernel
theorem dL_same_473 : decode cL_same 473 = .ok (.aload 4, 2) := by decide +kernel
theorem dL_same_475 : decode cL_same 475 = .ok (.invokestatic 49, 3) := by decide +kernel
theorem dL_same_478 : decode cL_same 478 = .ok (.i2l, 1) := by decide +kernel
theorem dL_same_479 : decode cL_same 479 = .ok (.goto 11, 3) := by decide +kernel
theorem dL_same_482 : decode cL_same 482 = .ok (.aload_n 3, 1) := by decide +kernel
theorem dL_same_483 : decode cL_same 483 = .ok (.bipush 10, 2) := by decide +kernel
theorem dL_same_485 : decode cL_same 485 = .ok (.iload 15, 2) := by decide +kernel
theorem dL_same_487 : decode cL_same 487 = .ok (.iadd, 1) := by decide +kernel
theorem dL_same_488 : decode cL_same 488 = .ok (.iaload, 1) := by decide +kernel
theorem dL_same_489 : decode cL_same 489 = .ok (.i2l, 1) := by decide +kernel
theorem dL_same_490 : decode cL_same 490 = .ok (.lstore 18, 2) := by decide +kernel
theorem dL_same_492 : decode cL_same 492 = .ok (.lload 16, 2) := by decide +kernel
theorem dL_same_494 : decode cL_same 494 = .ok (.lload 18, 2) := by decide +kernel
theorem dL_same_496 : decode cL_same 496 = .ok (.lcmp, 1) := by decide +kernel
theorem dL_same_497 : decode cL_same 497 = .ok (.ifCond .gt 18, 3) := by decide +kernel
theorem dL_same_500 : decode cL_same 500 = .ok (.lload 16, 2) := by decide +kernel
theorem dL_same_502 : decode cL_same 502 = .ok (.lload 18, 2) := by decide +kernel
theorem dL_same_504 : decode cL_same 504 = .ok (.lcmp, 1) := by decide +kernel
theorem dL_same_505 : decode cL_same 505 = .ok (.ifCond .ne 12, 3) := by decide +kernel
theorem dL_same_508 : decode cL_same 508 = .ok (.iload 14, 2) := by decide +kernel
theorem dL_same_510 : decode cL_same 510 = .ok (.iload 15, 2) := by decide +kernel
theorem dL_same_512 : decode cL_same 512 = .ok (.if_icmp .le 5, 3) := by decide +kernel
theorem dL_same_515 : decode cL_same 515 = .ok (.iconst 0, 1) := by decide +kernel
theorem dL_same_516 : decode cL_same 516 = .ok (.ireturn, 1) := by decide +kernel
theorem dL_same_517 : decode cL_same 517 = .ok (.iinc 13 1, 3) := by decide +kernel
theorem dL_same_520 : decode cL_same 520 = .ok (.goto (-173), 3) := by decide +kernel
theorem dL_same_523 : decode cL_same 523 = .ok (.iinc 12 1, 3) := by decide +kernel
theorem dL_same_526 : decode cL_same 526 = .ok (.goto (-188), 3) := by decide +kernel
theorem dL_same_529 : decode cL_same 529 = .ok (.iconst 0, 1) := by decide +kernel
theorem dL_same_530 : decode cL_same 530 = .ok (.istore 12, 2) := by decide +kernel
theorem dL_same_532 : decode cL_same 532 = .ok (.iload 12, 2) := by decide +kernel
theorem dL_same_534 : decode cL_same 534 = .ok (.bipush 20, 2) := by decide +kernel
theorem dL_same_536 : decode cL_same 536 = .ok (.if_icmp .ge 197, 3) := by decide +kernel
theorem dL_same_539 : decode cL_same 539 = .ok (.aload 4, 2) := by decide +kernel
theorem dL_same_541 : decode cL_same 541 = .ok (.iconst 3, 1) := by decide +kernel
theorem dL_same_542 : decode cL_same 542 = .ok (.iload 12, 2) := by decide +kernel
theorem dL_same_544 : decode cL_same 544 = .ok (.imul, 1) := by decide +kernel
theorem dL_same_545 : decode cL_same 545 = .ok (.iaload, 1) := by decide +kernel
theorem dL_same_546 : decode cL_same 546 = .ok (.ifCond .le 7, 3) := by decide +kernel
theorem dL_same_549 : decode cL_same 549 = .ok (.iconst 1, 1) := by decide +kernel
theorem dL_same_550 : decode cL_same 550 = .ok (.goto 4, 3) := by decide +kernel
theorem dL_same_553 : decode cL_same 553 = .ok (.iconst 0, 1) := by decide +kernel
theorem dL_same_554 : decode cL_same 554 = .ok (.istore 13, 2) := by decide +kernel
theorem dL_same_556 : decode cL_same 556 = .ok (.aload_n 0, 1) := by decide +kernel
theorem dL_same_557 : decode cL_same 557 = .ok (.iload 12, 2) := by decide +kernel
theorem dL_same_559 : decode cL_same 559 = .ok (.iconst 1, 1) := by decide +kernel
theorem dL_same_560 : decode cL_same 560 = .ok (.iadd, 1) := by decide +kernel
theorem dL_same_561 : decode cL_same 561 = .ok (.iconst 0, 1) := by decide +kernel
theorem dL_same_562 : decode cL_same 562 = .ok (.invokevirtual 53, 3) := by decide +kernel
theorem dL_same_565 : decode cL_same 565 = .ok (.iload 13, 2) := by decide +kernel
theorem dL_same_567 : decode cL_same 567 = .ok (.ifCond .eq 13, 3) := by decide +kernel
theorem dL_same_570 : decode cL_same 570 = .ok (.aload 4, 2) := by decide +kernel
theorem dL_same_572 : decode cL_same 572 = .ok (.iconst 3, 1) := by decide +kernel
theorem dL_same_573 : decode cL_same 573 = .ok (.iload 12, 2) := by decide +kernel
theorem dL_same_575 : decode cL_same 575 = .ok (.imul, 1) := by decide +kernel
theorem dL_same_576 : decode cL_same 576 = .ok (.iaload, 1) := by decide +kernel
theorem dL_same_577 : decode cL_same 577 = .ok (.goto 4, 3) := by decide +kernel
theorem dL_same_580 : decode cL_same 580 = .ok (.iconst (-1), 1) := by decide +kernel
theorem dL_same_581 : decode cL_same 581 = .ok (.if_icmp .ne 50, 3) := by decide +kernel
theorem dL_same_584 : decode cL_same 584 = .ok (.iload 13, 2) := by decide +kernel
theorem dL_same_586 : decode cL_same 586 = .ok (.ifCond .eq 47, 3) := by decide +kernel
theorem dL_same_589 : decode cL_same 589 = .ok (.aload_n 0, 1) := by decide +kernel
theorem dL_same_590 : decode cL_same 590 = .ok (.iload 12, 2) := by decide +kernel
theorem dL_same_592 : decode cL_same 592 = .ok (.iconst 1, 1) := by decide +kernel
theorem dL_same_593 : decode cL_same 593 = .ok (.iadd, 1) := by decide +kernel
theorem dL_same_594 : decode cL_same 594 = .ok (.iconst 1, 1) := by decide +kernel
theorem dL_same_595 : decode cL_same 595 = .ok (.invokevirtual 53, 3) := by decide +kernel
theorem dL_same_598 : decode cL_same 598 = .ok (.aload 4, 2) := by decide +kernel
theorem dL_same_600 : decode cL_same 600 = .ok (.iconst 3, 1) := by decide +kernel
theorem dL_same_601 : decode cL_same 601 = .ok (.iload 12, 2) := by decide +kernel
theorem dL_same_603 : decode cL_same 603 = .ok (.imul, 1) := by decide +kernel
theorem dL_same_604 : decode cL_same 604 = .ok (.iconst 1, 1) := by decide +kernel
theorem dL_same_605 : decode cL_same 605 = .ok (.iadd, 1) := by decide +kernel
theorem dL_same_606 : decode cL_same 606 = .ok (.iaload, 1) := by decide +kernel
theorem dL_same_607 : decode cL_same 607 = .ok (.if_icmp .ne 24, 3) := by decide +kernel
theorem dL_same_610 : decode cL_same 610 = .ok (.aload_n 0, 1) := by decide +kernel
theorem dL_same_611 : decode cL_same 611 = .ok (.iload 12, 2) := by decide +kernel
theorem dL_same_613 : decode cL_same 613 = .ok (.iconst 1, 1) := by decide +kernel
theorem dL_same_614 : decode cL_same 614 = .ok (.iadd, 1) := by decide +kernel
theorem dL_same_615 : decode cL_same 615 = .ok (.iconst 2, 1) := by decide +kernel
theorem dL_same_616 : decode cL_same 616 = .ok (.invokevirtual 53, 3) := by decide +kernel
theorem dL_same_619 : decode cL_same 619 = .ok (.aload 4, 2) := by decide +kernel
theorem dL_same_621 : decode cL_same 621 = .ok (.iconst 3, 1) := by decide +kernel
theorem dL_same_622 : decode cL_same 622 = .ok (.iload 12, 2) := by decide +kernel
theorem dL_same_624 : decode cL_same 624 = .ok (.imul, 1) := by decide +kernel
theorem dL_same_625 : decode cL_same 625 = .ok (.iconst 2, 1) := by decide +kernel
theorem dL_same_626 : decode cL_same 626 = .ok (.iadd, 1) := by decide +kernel
theorem dL_same_627 : decode cL_same 627 = .ok (.iaload, 1) := by decide +kernel
theorem dL_same_628 : decode cL_same 628 = .ok (.if_icmp .eq 5, 3) := by decide +kernel
theorem dL_same_631 : decode cL_same 631 = .ok (.iconst 0, 1) := by decide +kernel
theorem dL_same_632 : decode cL_same 632 = .ok (.ireturn, 1) := by decide +kernel
theorem dL_same_633 : decode cL_same 633 = .ok (.aload 5, 2) := by decide +kernel
theorem dL_same_635 : decode cL_same 635 = .ok (.iconst 3, 1) := by decide +kernel
theorem dL_same_636 : decode cL_same 636 = .ok (.iload 12, 2) := by decide +kernel
theorem dL_same_638 : decode cL_same 638 = .ok (.imul, 1) := by decide +kernel
theorem dL_same_639 : decode cL_same 639 = .ok (.iaload, 1) := by decide +kernel
theorem dL_same_640 : decode cL_same 640 = .ok (.ifCond .le 7, 3) := by decide +kernel
theorem dL_same_643 : decode cL_same 643 = .ok (.iconst 1, 1) := by decide +kernel
theorem dL_same_644 : decode cL_same 644 = .ok (.goto 4, 3) := by decide +kernel
theorem dL_same_647 : decode cL_same 647 = .ok (.iconst 0, 1) := by decide +kernel
theorem dL_same_648 : decode cL_same 648 = .ok (.istore 13, 2) := by decide +kernel
theorem dL_same_650 : decode cL_same 650 = .ok (.aload_n 0, 1) := by decide +kernel
theorem dL_same_651 : decode cL_same 651 = .ok (.iload 12, 2) := by decide +kernel
theorem dL_same_653 : decode cL_same 653 = .ok (.iconst 1, 1) := by decide +kernel
theorem dL_same_654 : decode cL_same 654 = .ok (.iadd, 1) := by decide +kernel
theorem dL_same_655 : decode cL_same 655 = .ok (.iconst 0, 1) := by decide +kernel
theorem dL_same_656 : decode cL_same 656 = .ok (.invokevirtual 56, 3) := by decide +kernel
theorem dL_same_659 : decode cL_same 659 = .ok (.iload 13, 2) := by decide +kernel
theorem dL_same_661 : decode cL_same 661 = .ok (.ifCond .eq 13, 3) := by decide +kernel
theorem dL_same_664 : decode cL_same 664 = .ok (.aload 5, 2) := by decide +kernel
theorem dL_same_666 : decode cL_same 666 = .ok (.iconst 3, 1) := by decide +kernel
theorem dL_same_667 : decode cL_same 667 = .ok (.iload 12, 2) := by decide +kernel
theorem dL_same_669 : decode cL_same 669 = .ok (.imul, 1) := by decide +kernel
theorem dL_same_670 : decode cL_same 670 = .ok (.iaload, 1) := by decide +kernel
theorem dL_same_671 : decode cL_same 671 = .ok (.goto 4, 3) := by decide +kernel
theorem dL_same_674 : decode cL_same 674 = .ok (.iconst (-1), 1) := by decide +kernel
theorem dL_same_675 : decode cL_same 675 = .ok (.if_icmp .ne 50, 3) := by decide +kernel
theorem dL_same_678 : decode cL_same 678 = .ok (.iload 13, 2) := by decide +kernel
theorem dL_same_680 : decode cL_same 680 = .ok (.ifCond .eq 47, 3) := by decide +kernel
theorem dL_same_683 : decode cL_same 683 = .ok (.aload_n 0, 1) := by decide +kernel
theorem dL_same_684 : decode cL_same 684 = .ok (.iload 12, 2) := by decide +kernel
theorem dL_same_686 : decode cL_same 686 = .ok (.iconst 1, 1) := by decide +kernel
theorem dL_same_687 : decode cL_same 687 = .ok (.iadd, 1) := by decide +kernel
theorem dL_same_688 : decode cL_same 688 = .ok (.iconst 1, 1) := by decide +kernel
theorem dL_same_689 : decode cL_same 689 = .ok (.invokevirtual 56, 3) := by decide +kernel
theorem dL_same_692 : decode cL_same 692 = .ok (.aload 5, 2) := by decide +kernel
theorem dL_same_694 : decode cL_same 694 = .ok (.iconst 3, 1) := by decide +kernel
theorem dL_same_695 : decode cL_same 695 = .ok (.iload 12, 2) := by decide +kernel
theorem dL_same_697 : decode cL_same 697 = .ok (.imul, 1) := by decide +kernel
theorem dL_same_698 : decode cL_same 698 = .ok (.iconst 1, 1) := by decide +kernel
theorem dL_same_699 : decode cL_same 699 = .ok (.iadd, 1) := by decide +kernel
theorem dL_same_700 : decode cL_same 700 = .ok (.iaload, 1) := by decide +kernel
theorem dL_same_701 : decode cL_same 701 = .ok (.if_icmp .ne 24, 3) := by decide +kernel
theorem dL_same_704 : decode cL_same 704 = .ok (.aload_n 0, 1) := by decide +kernel
theorem dL_same_705 : decode cL_same 705 = .ok (.iload 12, 2) := by decide +kernel
theorem dL_same_707 : decode cL_same 707 = .ok (.iconst 1, 1) := by decide +kernel
theorem dL_same_708 : decode cL_same 708 = .ok (.iadd, 1) := by decide +kernel
theorem dL_same_709 : decode cL_same 709 = .ok (.iconst 2, 1) := by decide +kernel
theorem dL_same_710 : decode cL_same 710 = .ok (.invokevirtual 56, 3) := by decide +kernel
theorem dL_same_713 : decode cL_same 713 = .ok (.aload 5, 2) := by decide +kernel
theorem dL_same_715 : decode cL_same 715 = .ok (.iconst 3, 1) := by decide +kernel
theorem dL_same_716 : decode cL_same 716 = .ok (.iload 12, 2) := by decide +kernel
theorem dL_same_718 : decode cL_same 718 = .ok (.imul, 1) := by decide +kernel
theorem dL_same_719 : decode cL_same 719 = .ok (.iconst 2, 1) := by decide +kernel
theorem dL_same_720 : decode cL_same 720 = .ok (.iadd, 1) := by decide +kernel
theorem dL_same_721 : decode cL_same 721 = .ok (.iaload, 1) := by decide +kernel
theorem dL_same_722 : decode cL_same 722 = .ok (.if_icmp .eq 5, 3) := by decide +kernel
theorem dL_same_725 : decode cL_same 725 = .ok (.iconst 0, 1) := by decide +kernel
theorem dL_same_726 : decode cL_same 726 = .ok (.ireturn, 1) := by decide +kernel
theorem dL_same_727 : decode cL_same 727 = .ok (.iinc 12 1, 3) := by decide +kernel
theorem dL_same_730 : decode cL_same 730 = .ok (.goto (-198), 3) := by decide +kernel
theorem dL_same_733 : decode cL_same 733 = .ok (.aload_n 3, 1) := by decide +kernel
theorem dL_same_734 : decode cL_same 734 = .ok (.iconst 5, 1) := by decide +kernel
theorem dL_same_735 : decode cL_same 735 = .ok (.iaload, 1) := by decide +kernel
theorem dL_same_736 : decode cL_same 736 = .ok (.istore 12, 2) := by decide +kernel
theorem dL_same_738 : decode cL_same 738 = .ok (.iload 12, 2) := by decide +kernel
theorem dL_same_740 : decode cL_same 740 = .ok (.ifCond .le 63, 3) := by decide +kernel
theorem dL_same_743 : decode cL_same 743 = .ok (.iload 12, 2) := by decide +kernel
theorem dL_same_745 : decode cL_same 745 = .ok (.aload_n 3, 1) := by decide +kernel
theorem dL_same_746 : decode cL_same 746 = .ok (.iconst 5, 1) := by decide +kernel
theorem dL_same_747 : decode cL_same 747 = .ok (.iaload, 1) := by decide +kernel
theorem dL_same_748 : decode cL_same 748 = .ok (.bipush 9, 2) := by decide +kernel
theorem dL_same_750 : decode cL_same 750 = .ok (.isub, 1) := by decide +kernel
theorem dL_same_751 : decode cL_same 751 = .ok (.if_icmp .le 52, 3) := by decide +kernel
theorem dL_same_754 : decode cL_same 754 = .ok (.iconst 0, 1) := by decide +kernel
theorem dL_same_755 : decode cL_same 755 = .ok (.istore 13, 2) := by decide +kernel
theorem dL_same_757 : decode cL_same 757 = .ok (.iload 13, 2) := by decide +kernel
theorem dL_same_759 : decode cL_same 759 = .ok (.bipush 6, 2) := by decide +kernel
theorem dL_same_761 : decode cL_same 761 = .ok (.if_icmp .ge 36, 3) := by decide +kernel
theorem dL_same_764 : decode cL_same 764 = .ok (.aload_n 0, 1) := by decide +kernel
theorem dL_same_765 : decode cL_same 765 = .ok (.iload 12, 2) := by decide +kernel
theorem dL_same_767 : decode cL_same 767 = .ok (.iload 13, 2) := by decide +kernel
theorem dL_same_769 : decode cL_same 769 = .ok (.invokevirtual 59, 3) := by decide +kernel
theorem dL_same_772 : decode cL_same 772 = .ok (.aload 6, 2) := by decide +kernel
theorem dL_same_774 : decode cL_same 774 = .ok (.bipush 6, 2) := by decide +kernel
theorem dL_same_776 : decode cL_same 776 = .ok (.iload 12, 2) := by decide +kernel
theorem dL_same_778 : decode cL_same 778 = .ok (.bipush 10, 2) := by decide +kernel
theorem dL_same_780 : decode cL_same 780 = .ok (.irem, 1) := by decide +kernel
theorem dL_same_781 : decode cL_same 781 = .ok (.imul, 1) := by decide +kernel
theorem dL_same_782 : decode cL_same 782 = .ok (.iload 13, 2) := by decide +kernel
theorem dL_same_784 : decode cL_same 784 = .ok (.iadd, 1) := by decide +kernel
theorem dL_same_785 : decode cL_same 785 = .ok (.iaload, 1) := by decide +kernel
theorem dL_same_786 : decode cL_same 786 = .ok (.if_icmp .eq 5, 3) := by decide +kernel
theorem dL_same_789 : decode cL_same 789 = .ok (.iconst 0, 1) := by decide +kernel
theorem dL_same_790 : decode cL_same 790 = .ok (.ireturn, 1) := by decide +kernel
theorem dL_same_791 : decode cL_same 791 = .ok (.iinc 13 1, 3) := by decide +kernel
theorem dL_same_794 : decode cL_same 794 = .ok (.goto (-37), 3) := by decide +kernel
theorem dL_same_797 : decode cL_same 797 = .ok (.iinc 12 (-1), 3) := by decide +kernel
theorem dL_same_800 : decode cL_same 800 = .ok (.goto (-62), 3) := by decide +kernel
theorem dL_same_803 : decode cL_same 803 = .ok (.aload_n 0, 1) := by decide +kernel
theorem dL_same_804 : decode cL_same 804 = .ok (.invokevirtual 62, 3) := by decide +kernel
theorem dL_same_807 : decode cL_same 807 = .ok (.aload_n 3, 1) := by decide +kernel
theorem dL_same_808 : decode cL_same 808 = .ok (.iconst 0, 1) := by decide +kernel
theorem dL_same_809 : decode cL_same 809 = .ok (.iaload, 1) := by decide +kernel
theorem dL_same_810 : decode cL_same 810 = .ok (.if_icmp .ne 150, 3) := by decide +kernel
theorem dL_same_813 : decode cL_same 813 = .ok (.aload_n 0, 1) := by decide +kernel
theorem dL_same_814 : decode cL_same 814 = .ok (.invokevirtual 66, 3) := by decide +kernel
theorem dL_same_817 : decode cL_same 817 = .ok (.iload 7, 2) := by decide +kernel
theorem dL_same_819 : decode cL_same 819 = .ok (.if_icmp .ne 141, 3) := by decide +kernel
theorem dL_same_822 : decode cL_same 822 = .ok (.aload_n 0, 1) := by decide +kernel
theorem dL_same_823 : decode cL_same 823 = .ok (.invokevirtual 69, 3) := by decide +kernel
theorem dL_same_826 : decode cL_same 826 = .ok (.aload_n 3, 1) := by decide +kernel
theorem dL_same_827 : decode cL_same 827 = .ok (.iconst 5, 1) := by decide +kernel
theorem dL_same_828 : decode cL_same 828 = .ok (.iaload, 1) := by decide +kernel
theorem dL_same_829 : decode cL_same 829 = .ok (.if_icmp .ne 131, 3) := by decide +kernel
theorem dL_same_832 : decode cL_same 832 = .ok (.aload_n 0, 1) := by decide +kernel
theorem dL_same_833 : decode cL_same 833 = .ok (.iconst 0, 1) := by decide +kernel
theorem dL_same_834 : decode cL_same 834 = .ok (.invokevirtual 72, 3) := by decide +kernel
theorem dL_same_837 : decode cL_same 837 = .ok (.lload 8, 2) := by decide +kernel
theorem dL_same_839 : decode cL_same 839 = .ok (.lcmp, 1) := by decide +kernel
theorem dL_same_840 : decode cL_same 840 = .ok (.ifCond .ne 120, 3) := by decide +kernel
theorem dL_same_843 : decode cL_same 843 = .ok (.aload_n 0, 1) := by decide +kernel
theorem dL_same_844 : decode cL_same 844 = .ok (.iconst 1, 1) := by decide +kernel
theorem dL_same_845 : decode cL_same 845 = .ok (.invokevirtual 72, 3) := by decide +kernel
theorem dL_same_848 : decode cL_same 848 = .ok (.lload 10, 2) := by decide +kernel
theorem dL_same_850 : decode cL_same 850 = .ok (.lcmp, 1) := by decide +kernel
theorem dL_same_851 : decode cL_same 851 = .ok (.ifCond .ne 109, 3) := by decide +kernel
theorem dL_same_854 : decode cL_same 854 = .ok (.aload_n 0, 1) := by decide +kernel
theorem dL_same_855 : decode cL_same 855 = .ok (.iconst 2, 1) := by decide +kernel
theorem dL_same_856 : decode cL_same 856 = .ok (.invokevirtual 72, 3) := by decide +kernel
theorem dL_same_859 : decode cL_same 859 = .ok (.aload_n 2, 1) := by decide +kernel
theorem dL_same_860 : decode cL_same 860 = .ok (.bipush 20, 2) := by decide +kernel
theorem dL_same_862 : decode cL_same 862 = .ok (.laload, 1) := by decide +kernel
theorem dL_same_863 : decode cL_same 863 = .ok (.lcmp, 1) := by decide +kernel
theorem dL_same_864 : decode cL_same 864 = .ok (.ifCond .ne 96, 3) := by decide +kernel
theorem dL_same_867 : decode cL_same 867 = .ok (.aload_n 0, 1) := by decide +kernel
theorem dL_same_868 : decode cL_same 868 = .ok (.iconst 3, 1) := by decide +kernel
theorem dL_same_869 : decode cL_same 869 = .ok (.invokevirtual 72, 3) := by decide +kernel
theorem dL_same_872 : decode cL_same 872 = .ok (.aload_n 2, 1) := by decide +kernel
theorem dL_same_873 : decode cL_same 873 = .ok (.bipush 21, 2) := by decide +kernel
theorem dL_same_875 : decode cL_same 875 = .ok (.laload, 1) := by decide +kernel
theorem dL_same_876 : decode cL_same 876 = .ok (.lcmp, 1) := by decide +kernel
theorem dL_same_877 : decode cL_same 877 = .ok (.ifCond .ne 83, 3) := by decide +kernel
theorem dL_same_880 : decode cL_same 880 = .ok (.aload_n 0, 1) := by decide +kernel
theorem dL_same_881 : decode cL_same 881 = .ok (.iconst 4, 1) := by decide +kernel
theorem dL_same_882 : decode cL_same 882 = .ok (.invokevirtual 72, 3) := by decide +kernel
theorem dL_same_885 : decode cL_same 885 = .ok (.aload_n 2, 1) := by decide +kernel
theorem dL_same_886 : decode cL_same 886 = .ok (.bipush 22, 2) := by decide +kernel
theorem dL_same_888 : decode cL_same 888 = .ok (.laload, 1) := by decide +kernel
theorem dL_same_889 : decode cL_same 889 = .ok (.lcmp, 1) := by decide +kernel
theorem dL_same_890 : decode cL_same 890 = .ok (.ifCond .ne 70, 3) := by decide +kernel
theorem dL_same_893 : decode cL_same 893 = .ok (.aload_n 0, 1) := by decide +kernel
theorem dL_same_894 : decode cL_same 894 = .ok (.iconst 5, 1) := by decide +kernel
theorem dL_same_895 : decode cL_same 895 = .ok (.invokevirtual 72, 3) := by decide +kernel
theorem dL_same_898 : decode cL_same 898 = .ok (.aload_n 2, 1) := by decide +kernel
theorem dL_same_899 : decode cL_same 899 = .ok (.bipush 23, 2) := by decide +kernel
theorem dL_same_901 : decode cL_same 901 = .ok (.laload, 1) := by decide +kernel
theorem dL_same_902 : decode cL_same 902 = .ok (.lcmp, 1) := by decide +kernel
theorem dL_same_903 : decode cL_same 903 = .ok (.ifCond .ne 57, 3) := by decide +kernel
theorem dL_same_906 : decode cL_same 906 = .ok (.aload_n 0, 1) := by decide +kernel
theorem dL_same_907 : decode cL_same 907 = .ok (.iconst 1, 1) := by decide +kernel
theorem dL_same_908 : decode cL_same 908 = .ok (.iload 7, 2) := by decide +kernel
theorem dL_same_910 : decode cL_same 910 = .ok (.invokevirtual 46, 3) := by decide +kernel
theorem dL_same_913 : decode cL_same 913 = .ok (.iconst (-1), 1) := by decide +kernel
theorem dL_same_914 : decode cL_same 914 = .ok (.if_icmp .ne 46, 3) := by decide +kernel
theorem dL_same_917 : decode cL_same 917 = .ok (.lload 8, 2) := by decide +kernel
theorem dL_same_919 : decode cL_same 919 = .ok (.aload_n 2, 1) := by decide +kernel
theorem dL_same_920 : decode cL_same 920 = .ok (.bipush 20, 2) := by decide +kernel
theorem dL_same_922 : decode cL_same 922 = .ok (.laload, 1) := by decide +kernel
theorem dL_same_923 : decode cL_same 923 = .ok (.ladd, 1) := by decide +kernel
theorem dL_same_924 : decode cL_same 924 = .ok (.aload_n 2, 1) := by decide +kernel
theorem dL_same_925 : decode cL_same 925 = .ok (.bipush 23, 2) := by decide +kernel
theorem dL_same_927 : decode cL_same 927 = .ok (.laload, 1) := by decide +kernel
theorem dL_same_928 : decode cL_same 928 = .ok (.ladd, 1) := by decide +kernel
theorem dL_same_929 : decode cL_same 929 = .ok (.aload_n 2, 1) := by decide +kernel
theorem dL_same_930 : decode cL_same 930 = .ok (.bipush 21, 2) := by decide +kernel
theorem dL_same_932 : decode cL_same 932 = .ok (.laload, 1) := by decide +kernel
theorem dL_same_933 : decode cL_same 933 = .ok (.aload_n 2, 1) := by decide +kernel
theorem dL_same_934 : decode cL_same 934 = .ok (.bipush 22, 2) := by decide +kernel
theorem dL_same_936 : decode cL_same 936 = .ok (.laload, 1) := by decide +kernel
theorem dL_same_937 : decode cL_same 937 = .ok (.ladd, 1) := by decide +kernel
theorem dL_same_938 : decode cL_same 938 = .ok (.lcmp, 1) := by decide +kernel
theorem dL_same_939 : decode cL_same 939 = .ok (.ifCond .ne 21, 3) := by decide +kernel
theorem dL_same_942 : decode cL_same 942 = .ok (.aload_n 0, 1) := by decide +kernel
theorem dL_same_943 : decode cL_same 943 = .ok (.aload_n 3, 1) := by decide +kernel
theorem dL_same_944 : decode cL_same 944 = .ok (.iconst 5, 1) := by decide +kernel
theorem dL_same_945 : decode cL_same 945 = .ok (.iaload, 1) := by decide +kernel
theorem dL_same_946 : decode cL_same 946 = .ok (.iconst 1, 1) := by decide +kernel
theorem dL_same_947 : decode cL_same 947 = .ok (.iadd, 1) := by decide +kernel
theorem dL_same_948 : decode cL_same 948 = .ok (.iconst 0, 1) := by decide +kernel
theorem dL_same_949 : decode cL_same 949 = .ok (.invokevirtual 59, 3) := by decide +kernel
theorem dL_same_952 : decode cL_same 952 = .ok (.iconst (-1), 1) := by decide +kernel
theorem dL_same_953 : decode cL_same 953 = .ok (.if_icmp .ne 7, 3) := by decide +kernel
theorem dL_same_956 : decode cL_same 956 = .ok (.iconst 1, 1) := by decide +kernel
theorem dL_same_957 : decode cL_same 957 = .ok (.goto 4, 3) := by decide +kernel
theorem dL_same_960 : decode cL_same 960 = .ok (.iconst 0, 1) := by decide +kernel
theorem dL_same_961 : decode cL_same 961 = .ok (.ireturn, 1) := by decide +kernel
theorem dL_law_0 : decode cL_law 0 = .ok (.new 41, 3) := by decide +kernel
theorem dL_law_3 : decode cL_law 3 = .ok (.dup, 1) := by decide +kernel
theorem dL_law_4 : decode cL_law 4 = .ok (.invokespecial 76, 3) := by decide +kernel
theorem dL_law_7 : decode cL_law 7 = .ok (.astore_n 1, 1) := by decide +kernel
theorem dL_law_8 : decode cL_law 8 = .ok (.bipush 18, 2) := by decide +kernel
theorem dL_law_10 : decode cL_law 10 = .ok (.newarray .int, 2) := by decide +kernel
theorem dL_law_12 : decode cL_law 12 = .ok (.astore_n 2, 1) := by decide +kernel
theorem dL_law_13 : decode cL_law 13 = .ok (.bipush 25, 2) := by decide +kernel
theorem dL_law_15 : decode cL_law 15 = .ok (.newarray .long, 2) := by decide +kernel
theorem dL_law_17 : decode cL_law 17 = .ok (.astore_n 3, 1) := by decide +kernel
theorem dL_law_18 : decode cL_law 18 = .ok (.bipush 60, 2) := by decide +kernel
theorem dL_law_20 : decode cL_law 20 = .ok (.newarray .int, 2) := by decide +kernel
theorem dL_law_22 : decode cL_law 22 = .ok (.astore 4, 2) := by decide +kernel
theorem dL_law_24 : decode cL_law 24 = .ok (.bipush 60, 2) := by decide +kernel
theorem dL_law_26 : decode cL_law 26 = .ok (.newarray .int, 2) := by decide +kernel
theorem dL_law_28 : decode cL_law 28 = .ok (.astore 5, 2) := by decide +kernel
theorem dL_law_30 : decode cL_law 30 = .ok (.bipush 60, 2) := by decide +kernel
theorem dL_law_32 : decode cL_law 32 = .ok (.newarray .int, 2) := by decide +kernel
theorem dL_law_34 : decode cL_law 34 = .ok (.astore 6, 2) := by decide +kernel
theorem dL_law_36 : decode cL_law 36 = .ok (.aload_n 2, 1) := by decide +kernel
theorem dL_law_37 : decode cL_law 37 = .ok (.iconst 1, 1) := by decide +kernel
theorem dL_law_38 : decode cL_law 38 = .ok (.ldc 77, 2) := by decide +kernel
theorem dL_law_40 : decode cL_law 40 = .ok (.iastore, 1) := by decide +kernel
theorem dL_law_41 : decode cL_law 41 = .ok (.aload_n 2, 1) := by decide +kernel
theorem dL_law_42 : decode cL_law 42 = .ok (.iconst 2, 1) := by decide +kernel
theorem dL_law_43 : decode cL_law 43 = .ok (.bipush 100, 2) := by decide +kernel
theorem dL_law_45 : decode cL_law 45 = .ok (.iastore, 1) := by decide +kernel
theorem dL_law_46 : decode cL_law 46 = .ok (.aload_n 2, 1) := by decide +kernel
theorem dL_law_47 : decode cL_law 47 = .ok (.iconst 3, 1) := by decide +kernel
theorem dL_law_48 : decode cL_law 48 = .ok (.sipush 250, 3) := by decide +kernel
theorem dL_law_51 : decode cL_law 51 = .ok (.iastore, 1) := by decide +kernel
theorem dL_law_52 : decode cL_law 52 = .ok (.aload_n 2, 1) := by decide +kernel
theorem dL_law_53 : decode cL_law 53 = .ok (.iconst 4, 1) := by decide +kernel
theorem dL_law_54 : decode cL_law 54 = .ok (.bipush 20, 2) := by decide +kernel
theorem dL_law_56 : decode cL_law 56 = .ok (.iastore, 1) := by decide +kernel
theorem dL_law_57 : decode cL_law 57 = .ok (.aload_n 3, 1) := by decide +kernel
theorem dL_law_58 : decode cL_law 58 = .ok (.bipush 24, 2) := by decide +kernel
theorem dL_law_60 : decode cL_law 60 = .ok (.ldc2_w 78, 3) := by decide +kernel
theorem dL_law_63 : decode cL_law 63 = .ok (.lastore, 1) := by decide +kernel
theorem dL_law_64 : decode cL_law 64 = .ok (.iconst 0, 1) := by decide +kernel
theorem dL_law_65 : decode cL_law 65 = .ok (.istore 7, 2) := by decide +kernel
theorem dL_law_67 : decode cL_law 67 = .ok (.iload 7, 2) := by decide +kernel
theorem dL_law_69 : decode cL_law 69 = .ok (.bipush 7, 2) := by decide +kernel
theorem dL_law_71 : decode cL_law 71 = .ok (.if_icmp .ge 17, 3) := by decide +kernel
theorem dL_law_74 : decode cL_law 74 = .ok (.aload_n 2, 1) := by decide +kernel
theorem dL_law_75 : decode cL_law 75 = .ok (.bipush 10, 2) := by decide +kernel
theorem dL_law_77 : decode cL_law 77 = .ok (.iload 7, 2) := by decide +kernel
theorem dL_law_79 : decode cL_law 79 = .ok (.iadd, 1) := by decide +kernel
theorem dL_law_80 : decode cL_law 80 = .ok (.iconst (-1), 1) := by decide +kernel
theorem dL_law_81 : decode cL_law 81 = .ok (.iastore, 1) := by decide +kernel
theorem dL_law_82 : decode cL_law 82 = .ok (.iinc 7 1, 3) := by decide +kernel
theorem dL_law_85 : decode cL_law 85 = .ok (.goto (-18), 3) := by decide +kernel
theorem dL_law_88 : decode cL_law 88 = .ok (.iconst 0, 1) := by decide +kernel
theorem dL_law_89 : decode cL_law 89 = .ok (.istore 7, 2) := by decide +kernel
theorem dL_law_91 : decode cL_law 91 = .ok (.iconst 0, 1) := by decide +kernel
theorem dL_law_92 : decode cL_law 92 = .ok (.istore 8, 2) := by decide +kernel
theorem dL_law_94 : decode cL_law 94 = .ok (.iload 8, 2) := by decide +kernel
theorem dL_law_96 : decode cL_law 96 = .ok (.bipush 40, 2) := by decide +kernel
theorem dL_law_98 : decode cL_law 98 = .ok (.if_icmp .ge 2212, 3) := by decide +kernel
theorem dL_law_101 : decode cL_law 101 = .ok (.aload_n 0, 1) := by decide +kernel
theorem dL_law_102 : decode cL_law 102 = .ok (.iconst 2, 1) := by decide +kernel
theorem dL_law_103 : decode cL_law 103 = .ok (.iload 8, 2) := by decide +kernel
theorem dL_law_105 : decode cL_law 105 = .ok (.imul, 1) := by decide +kernel
theorem dL_law_106 : decode cL_law 106 = .ok (.invokestatic 80, 3) := by decide +kernel
theorem dL_law_109 : decode cL_law 109 = .ok (.istore 9, 2) := by decide +kernel
theorem dL_law_111 : decode cL_law 111 = .ok (.aload_n 0, 1) := by decide +kernel
theorem dL_law_112 : decode cL_law 112 = .ok (.iconst 2, 1) := by decide +kernel
theorem dL_law_113 : decode cL_law 113 = .ok (.iload 8, 2) := by decide +kernel
theorem dL_law_115 : decode cL_law 115 = .ok (.imul, 1) := by decide +kernel
theorem dL_law_116 : decode cL_law 116 = .ok (.iconst 1, 1) := by decide +kernel
theorem dL_law_117 : decode cL_law 117 = .ok (.iadd, 1) := by decide +kernel
theorem dL_law_118 : decode cL_law 118 = .ok (.invokestatic 80, 3) := by decide +kernel
theorem dL_law_121 : decode cL_law 121 = .ok (.istore 10, 2) := by decide +kernel
theorem dL_law_123 : decode cL_law 123 = .ok (.iload 8, 2) := by decide +kernel
theorem dL_law_125 : decode cL_law 125 = .ok (.iconst 4, 1) := by decide +kernel
theorem dL_law_126 : decode cL_law 126 = .ok (.if_icmp .ge 7, 3) := by decide +kernel
theorem dL_law_129 : decode cL_law 129 = .ok (.iconst 0, 1) := by decide +kernel
theorem dL_law_130 : decode cL_law 130 = .ok (.goto 21, 3) := by decide +kernel
theorem dL_law_133 : decode cL_law 133 = .ok (.iload 8, 2) := by decide +kernel
theorem dL_law_135 : decode cL_law 135 = .ok (.bipush 8, 2) := by decide +kernel
theorem dL_law_137 : decode cL_law 137 = .ok (.if_icmp .ge 7, 3) := by decide +kernel
theorem dL_law_140 : decode cL_law 140 = .ok (.iconst 1, 1) := by decide +kernel
theorem dL_law_141 : decode cL_law 141 = .ok (.goto 10, 3) := by decide +kernel
theorem dL_law_144 : decode cL_law 144 = .ok (.iload 9, 2) := by decide +kernel
theorem dL_law_146 : decode cL_law 146 = .ok (.bipush 18, 2) := by decide +kernel
theorem dL_law_148 : decode cL_law 148 = .ok (.invokestatic 84, 3) := by decide +kernel
theorem dL_law_151 : decode cL_law 151 = .ok (.istore 11, 2) := by decide +kernel
theorem dL_law_153 : decode cL_law 153 = .ok (.iconst 1, 1) := by decide +kernel
theorem dL_law_154 : decode cL_law 154 = .ok (.iload 10, 2) := by decide +kernel
theorem dL_law_156 : decode cL_law 156 = .ok (.iconst 5, 1) := by decide +kernel
theorem dL_law_157 : decode cL_law 157 = .ok (.invokestatic 84, 3) := by decide +kernel
theorem dL_law_160 : decode cL_law 160 = .ok (.iadd, 1) := by decide +kernel
theorem dL_law_161 : decode cL_law 161 = .ok (.istore 12, 2) := by decide +kernel
theorem dL_law_163 : decode cL_law 163 = .ok (.iconst 1, 1) := by decide +kernel
theorem dL_law_164 : decode cL_law 164 = .ok (.iload 10, 2) := by decide +kernel
theorem dL_law_166 : decode cL_law 166 = .ok (.iconst 3, 1) := by decide +kernel
theorem dL_law_167 : decode cL_law 167 = .ok (.ishr, 1) := by decide +kernel
theorem dL_law_168 : decode cL_law 168 = .ok (.iconst 5, 1) := by decide +kernel
theorem dL_law_169 : decode cL_law 169 = .ok (.invokestatic 84, 3) := by decide +kernel
theorem dL_law_172 : decode cL_law 172 = .ok (.iadd, 1) := by decide +kernel
theorem dL_law_173 : decode cL_law 173 = .ok (.istore 13, 2) := by decide +kernel
theorem dL_law_175 : decode cL_law 175 = .ok (.aload_n 2, 1) := by decide +kernel
theorem dL_law_176 : decode cL_law 176 = .ok (.bipush 10, 2) := by decide +kernel
theorem dL_law_178 : decode cL_law 178 = .ok (.iload 12, 2) := by decide +kernel
theorem dL_law_180 : decode cL_law 180 = .ok (.iadd, 1) := by decide +kernel
theorem dL_law_181 : decode cL_law 181 = .ok (.iaload, 1) := by decide +kernel
theorem dL_law_182 : decode cL_law 182 = .ok (.ifCond .lt 7, 3) := by decide +kernel
theorem dL_law_185 : decode cL_law 185 = .ok (.iconst 1, 1) := by decide +kernel
theorem dL_law_186 : decode cL_law 186 = .ok (.goto 4, 3) := by decide +kernel
theorem dL_law_189 : decode cL_law 189 = .ok (.iconst 0, 1) := by decide +kernel
theorem dL_law_190 : decode cL_law 190 = .ok (.istore 14, 2) := by decide +kernel
theorem dL_law_192 : decode cL_law 192 = .ok (.iconst 1, 1) := by decide +kernel
theorem dL_law_193 : decode cL_law 193 = .ok (.iload 10, 2) := by decide +kernel
theorem dL_law_195 : decode cL_law 195 = .ok (.bipush 6, 2) := by decide +kernel
theorem dL_law_197 : decode cL_law 197 = .ok (.ishr, 1) := by decide +kernel
theorem dL_law_198 : decode cL_law 198 = .ok (.iload 9, 2) := by decide +kernel
theorem dL_law_200 : decode cL_law 200 = .ok (.iconst 5, 1) := by decide +kernel
theorem dL_law_201 : decode cL_law 201 = .ok (.ishr, 1) := by decide +kernel
theorem dL_law_202 : decode cL_law 202 = .ok (.iconst 3, 1) := by decide +kernel
theorem dL_law_203 : decode cL_law 203 = .ok (.invokestatic 84, 3) := by decide +kernel
theorem dL_law_206 : decode cL_law 206 = .ok (.ifCond .ne 8, 3) := by decide +kernel
theorem dL_law_209 : decode cL_law 209 = .ok (.ldc 87, 2) := by decide +kernel
theorem dL_law_211 : decode cL_law 211 = .ok (.goto 5, 3) := by decide +kernel
theorem dL_law_214 : decode cL_law 214 = .ok (.ldc 88, 2) := by decide +kernel
theorem dL_law_216 : decode cL_law 216 = .ok (.invokestatic 84, 3) := by decide +kernel
theorem dL_law_219 : decode cL_law 219 = .ok (.iadd, 1) := by decide +kernel
theorem dL_law_220 : decode cL_law 220 = .ok (.istore 15, 2) := by decide +kernel
theorem dL_law_222 : decode cL_law 222 = .ok (.iload 11, 2) := by decide +kernel
theorem dL_law_224 : decode cL_law 224 = .ok (.ifCond .ne 61, 3) := by decide +kernel
theorem dL_law_227 : decode cL_law 227 = .ok (.aload_n 1, 1) := by decide +kernel
theorem dL_law_228 : decode cL_law 228 = .ok (.iload 12, 2) := by decide +kernel
theorem dL_law_230 : decode cL_law 230 = .ok (.invokevirtual 89, 3) := by decide +kernel
theorem dL_law_233 : decode cL_law 233 = .ok (.iload 14, 2) := by decide +kernel
theorem dL_law_235 : decode cL_law 235 = .ok (.ifCond .eq 8, 3) := by decide +kernel
theorem dL_law_238 : decode cL_law 238 = .ok (.bipush (-3), 2) := by decide +kernel
theorem dL_law_240 : decode cL_law 240 = .ok (.goto 9, 3) := by decide +kernel
theorem dL_law_243 : decode cL_law 243 = .ok (.aload_n 2, 1) := by decide +kernel
theorem dL_law_244 : decode cL_law 244 = .ok (.invokestatic 93, 3) := by decide +kernel
theorem dL_law_247 : decode cL_law 247 = .ok (.iconst 1, 1) := by decide +kernel
theorem dL_law_248 : decode cL_law 248 = .ok (.iadd, 1) := by decide +kernel
theorem dL_law_249 : decode cL_law 249 = .ok (.if_icmp .eq 5, 3) := by decide +kernel
theorem dL_law_252 : decode cL_law 252 = .ok (.iconst 0, 1) := by decide +kernel
theorem dL_law_253 : decode cL_law 253 = .ok (.ireturn, 1) := by decide +kernel
theorem dL_law_254 : decode cL_law 254 = .ok (.iload 14, 2) := by decide +kernel
theorem dL_law_256 : decode cL_law 256 = .ok (.ifCond .ne 2027, 3) := by decide +kernel
theorem dL_law_259 : decode cL_law 259 = .ok (.aload_n 2, 1) := by decide +kernel
theorem dL_law_260 : decode cL_law 260 = .ok (.bipush 10, 2) := by decide +kernel
theorem dL_law_262 : decode cL_law 262 = .ok (.iload 12, 2) := by decide +kernel
theorem dL_law_264 : decode cL_law 264 = .ok (.iadd, 1) := by decide +kernel
theorem dL_law_265 : decode cL_law 265 = .ok (.aload_n 2, 1) := by decide +kernel
theorem dL_law_266 : decode cL_law 266 = .ok (.iconst 0, 1) := by decide +kernel
theorem dL_law_267 : decode cL_law 267 = .ok (.iaload, 1) := by decide +kernel
theorem dL_law_268 : decode cL_law 268 = .ok (.iastore, 1) := by decide +kernel
theorem dL_law_269 : decode cL_law 269 = .ok (.aload_n 3, 1) := by decide +kernel
theorem dL_law_270 : decode cL_law 270 = .ok (.iload 12, 2) := by decide +kernel
theorem dL_law_272 : decode cL_law 272 = .ok (.lconst 0, 1) := by decide +kernel
theorem dL_law_273 : decode cL_law 273 = .ok (.lastore, 1) := by decide +kernel
theorem dL_law_274 : decode cL_law 274 = .ok (.aload_n 3, 1) := by decide +kernel
theorem dL_law_275 : decode cL_law 275 = .ok (.bipush 10, 2) := by decide +kernel
theorem dL_law_277 : decode cL_law 277 = .ok (.iload 12, 2) := by decide +kernel
theorem dL_law_279 : decode cL_law 279 = .ok (.iadd, 1) := by decide +kernel
theorem dL_law_280 : decode cL_law 280 = .ok (.lconst 0, 1) := by decide +kernel
theorem dL_law_281 : decode cL_law 281 = .ok (.lastore, 1) := by decide +kernel
theorem dL_law_282 : decode cL_law 282 = .ok (.goto 2001, 3) := by decide +kernel
theorem dL_law_285 : decode cL_law 285 = .ok (.iload 11, 2) := by decide +kernel
theorem dL_law_287 : decode cL_law 287 = .ok (.iconst 4, 1) := by decide +kernel
theorem dL_law_288 : decode cL_law 288 = .ok (.if_icmp .ge 116, 3) := by decide +kernel
theorem dL_law_291 : decode cL_law 291 = .ok (.aload_n 3, 1) := by decide +kernel
theorem dL_law_292 : decode cL_law 292 = .ok (.iload 12, 2) := by decide +kernel
theorem dL_law_294 : decode cL_law 294 = .ok (.laload, 1) := by decide +kernel
theorem dL_law_295 : decode cL_law 295 = .ok (.iload 15, 2) := by decide +kernel
theorem dL_law_297 : decode cL_law 297 = .ok (.i2l, 1) := by decide +kernel
theorem dL_law_298 : decode cL_law 298 = .ok (.ladd, 1) := by decide +kernel
theorem dL_law_299 : decode cL_law 299 = .ok (.ldc2_w 30, 3) := by decide +kernel
theorem dL_law_302 : decode cL_law 302 = .ok (.lcmp, 1) := by decide +kernel
theorem dL_law_303 : decode cL_law 303 = .ok (.ifCond .gt 7, 3) := by decide +kernel
theorem dL_law_306 : decode cL_law 306 = .ok (.iconst 1, 1) := by decide +kernel
theorem dL_law_307 : decode cL_law 307 = .ok (.goto 4, 3) := by decide +kernel
theorem dL_law_310 : decode cL_law 310 = .ok (.iconst 0, 1) := by decide +kernel
theorem dL_law_311 : decode cL_law 311 = .ok (.istore 16, 2) := by decide +kernel
theorem dL_law_313 : decode cL_law 313 = .ok (.aload_n 1, 1) := by decide +kernel
theorem dL_law_314 : decode cL_law 314 = .ok (.iload 12, 2) := by decide +kernel
theorem dL_law_316 : decode cL_law 316 = .ok (.iload 15, 2) := by decide +kernel
theorem dL_law_318 : decode cL_law 318 = .ok (.invokevirtual 96, 3) := by decide +kernel
theorem dL_law_321 : decode cL_law 321 = .ok (.i2l, 1) := by decide +kernel
theorem dL_law_322 : decode cL_law 322 = .ok (.iload 14, 2) := by decide +kernel
theorem dL_law_324 : decode cL_law 324 = .ok (.ifCond .ne 9, 3) := by decide +kernel
theorem dL_law_327 : decode cL_law 327 = .ok (.ldc2_w 99, 3) := by decide +kernel
theorem dL_law_330 : decode cL_law 330 = .ok (.goto 22, 3) := by decide +kernel
theorem dL_law_333 : decode cL_law 333 = .ok (.iload 16, 2) := by decide +kernel
theorem dL_law_335 : decode cL_law 335 = .ok (.ifCond .eq 14, 3) := by decide +kernel
theorem dL_law_338 : decode cL_law 338 = .ok (.aload_n 3, 1) := by decide +kernel
theorem dL_law_339 : decode cL_law 339 = .ok (.iload 12, 2) := by decide +kernel
theorem dL_law_341 : decode cL_law 341 = .ok (.laload, 1) := by decide +kernel
theorem dL_law_342 : decode cL_law 342 = .ok (.iload 15, 2) := by decide +kernel
theorem dL_law_344 : decode cL_law 344 = .ok (.i2l, 1) := by decide +kernel
theorem dL_law_345 : decode cL_law 345 = .ok (.ladd, 1) := by decide +kernel
theorem dL_law_346 : decode cL_law 346 = .ok (.goto 6, 3) := by decide +kernel
theorem dL_law_349 : decode cL_law 349 = .ok (.ldc2_w 101, 3) := by decide +kernel
theorem dL_law_352 : decode cL_law 352 = .ok (.lcmp, 1) := by decide +kernel
theorem dL_law_353 : decode cL_law 353 = .ok (.ifCond .eq 5, 3) := by decide +kernel
theorem dL_law_356 : decode cL_law 356 = .ok (.iconst 0, 1) := by decide +kernel
theorem dL_law_357 : decode cL_law 357 = .ok (.ireturn, 1) := by decide +kernel
theorem dL_law_358 : decode cL_law 358 = .ok (.iload 14, 2) := by decide +kernel
theorem dL_law_360 : decode cL_law 360 = .ok (.ifCond .eq 41, 3) := by decide +kernel
theorem dL_law_363 : decode cL_law 363 = .ok (.iload 16, 2) := by decide +kernel
theorem dL_law_365 : decode cL_law 365 = .ok (.ifCond .eq 36, 3) := by decide +kernel
theorem dL_law_368 : decode cL_law 368 = .ok (.aload_n 3, 1) := by decide +kernel
theorem dL_law_369 : decode cL_law 369 = .ok (.iload 12, 2) := by decide +kernel
theorem dL_law_371 : decode cL_law 371 = .ok (.dup2, 1) := by decide +kernel
theorem dL_law_372 : decode cL_law 372 = .ok (.laload, 1) := by decide +kernel
theorem dL_law_373 : decode cL_law 373 = .ok (.iload 15, 2) := by decide +kernel
theorem dL_law_375 : decode cL_law 375 = .ok (.i2l, 1) := by decide +kernel
theorem dL_law_376 : decode cL_law 376 = .ok (.ladd, 1) := by decide +kernel
theorem dL_law_377 : decode cL_law 377 = .ok (.lastore, 1) := by decide +kernel
theorem dL_law_378 : decode cL_law 378 = .ok (.aload_n 3, 1) := by decide +kernel
theorem dL_law_379 : decode cL_law 379 = .ok (.bipush 22, 2) := by decide +kernel
theorem dL_law_381 : decode cL_law 381 = .ok (.dup2, 1) := by decide +kernel
theorem dL_law_382 : decode cL_law 382 = .ok (.laload, 1) := by decide +kernel
theorem dL_law_383 : decode cL_law 383 = .ok (.iload 15, 2) := by decide +kernel
theorem dL_law_385 : decode cL_law 385 = .ok (.i2l, 1) := by decide +kernel
theorem dL_law_386 : decode cL_law 386 = .ok (.ladd, 1) := by decide +kernel
theorem dL_law_387 : decode cL_law 387 = .ok (.lastore, 1) := by decide +kernel
theorem dL_law_388 : decode cL_law 388 = .ok (.iconst 1, 1) := by decide +kernel
theorem dL_law_389 : decode cL_law 389 = .ok (.iload 12, 2) := by decide +kernel
theorem dL_law_391 : decode cL_law 391 = .ok (.iconst 0, 1) := by decide +kernel
theorem dL_law_392 : decode cL_law 392 = .ok (.iload 15, 2) := by decide +kernel
theorem dL_law_394 : decode cL_law 394 = .ok (.aload_n 3, 1) := by decide +kernel
theorem dL_law_395 : decode cL_law 395 = .ok (.aload_n 2, 1) := by decide +kernel
theorem dL_law_396 : decode cL_law 396 = .ok (.aload 6, 2) := by decide +kernel
theorem dL_law_398 : decode cL_law 398 = .ok (.invokestatic 36, 3) := by decide +kernel
theorem dL_law_401 : decode cL_law 401 = .ok (.goto 1882, 3) := by decide +kernel
theorem dL_law_404 : decode cL_law 404 = .ok (.iload 11, 2) := by decide +kernel
theorem dL_law_406 : decode cL_law 406 = .ok (.bipush 6, 2) := by decide +kernel
theorem dL_law_408 : decode cL_law 408 = .ok (.if_icmp .ge 115, 3) := by decide +kernel
theorem dL_law_411 : decode cL_law 411 = .ok (.iload 14, 2) := by decide +kernel
theorem dL_law_413 : decode cL_law 413 = .ok (.ifCond .eq 21, 3) := by decide +kernel
theorem dL_law_416 : decode cL_law 416 = .ok (.iload 12, 2) := by decide +kernel
theorem dL_law_418 : decode cL_law 418 = .ok (.aload_n 3, 1) := by decide +kernel
theorem dL_law_419 : decode cL_law 419 = .ok (.aload_n 2, 1) := by decide +kernel
theorem dL_law_420 : decode cL_law 420 = .ok (.aload 4, 2) := by decide +kernel
theorem dL_law_422 : decode cL_law 422 = .ok (.invokestatic 49, 3) := by decide +kernel
theorem dL_law_425 : decode cL_law 425 = .ok (.iload 15, 2) := by decide +kernel
theorem dL_law_427 : decode cL_law 427 = .ok (.if_icmp .lt 7, 3) := by decide +kernel
theorem dL_law_430 : decode cL_law 430 = .ok (.iconst 1, 1) := by decide +kernel
theorem dL_law_431 : decode cL_law 431 = .ok (.goto 4, 3) := by decide +kernel
theorem dL_law_434 : decode cL_law 434 = .ok (.iconst 0, 1) := by decide +kernel
theorem dL_law_435 : decode cL_law 435 = .ok (.istore 16, 2) := by decide +kernel
theorem dL_law_437 : decode cL_law 437 = .ok (.aload_n 1, 1) := by decide +kernel
theorem dL_law_438 : decode cL_law 438 = .ok (.iload 12, 2) := by decide +kernel
theorem dL_law_440 : decode cL_law 440 = .ok (.iload 15, 2) := by decide +kernel
theorem dL_law_442 : decode cL_law 442 = .ok (.invokevirtual 103, 3) := by decide +kernel
theorem dL_law_445 : decode cL_law 445 = .ok (.i2l, 1) := by decide +kernel
theorem dL_law_446 : decode cL_law 446 = .ok (.iload 14, 2) := by decide +kernel
theorem dL_law_448 : decode cL_law 448 = .ok (.ifCond .ne 9, 3) := by decide +kernel
theorem dL_law_451 : decode cL_law 451 = .ok (.ldc2_w 99, 3) := by decide +kernel
theorem dL_law_454 : decode cL_law 454 = .ok (.goto 22, 3) := by decide +kernel
theorem dL_law_457 : decode cL_law 457 = .ok (.iload 16, 2) := by decide +kernel
theorem dL_law_459 : decode cL_law 459 = .ok (.ifCond .eq 14, 3) := by decide +kernel
theorem dL_law_462 : decode cL_law 462 = .ok (.aload_n 3, 1) := by decide +kernel
theorem dL_law_463 : decode cL_law 463 = .ok (.iload 12, 2) := by decide +kernel
theorem dL_law_465 : decode cL_law 465 = .ok (.laload, 1) := by decide +kernel
theorem dL_law_466 : decode cL_law 466 = .ok (.iload 15, 2) := by decide +kernel
theorem dL_law_468 : decode cL_law 468 = .ok (.i2l, 1) := by decide +kernel
theorem dL_law_469 : decode cL_law 469 = .ok (.lsub, 1) := by decide +kernel
theorem dL_law_470 : decode cL_law 470 = .ok (.goto 6, 3) := by decide +kernel
theorem dL_law_473 : decode cL_law 473 = .ok (.ldc2_w 106, 3) := by decide +kernel
theorem dL_law_476 : decode cL_law 476 = .ok (.lcmp, 1) := by decide +kernel
theorem dL_law_477 : decode cL_law 477 = .ok (.ifCond .eq 5, 3) := by decide +kernel
theorem dL_law_480 : decode cL_law 480 = .ok (.iconst 0, 1) := by decide +kernel
theorem dL_law_481 : decode cL_law 481 = .ok (.ireturn, 1) := by decide +kernel
theorem dL_law_482 : decode cL_law 482 = .ok (.iload 16, 2) := by decide +kernel
theorem dL_law_484 : decode cL_law 484 = .ok (.ifCond .eq 36, 3) := by decide +kernel
theorem dL_law_487 : decode cL_law 487 = .ok (.aload_n 3, 1) := by decide +kernel
theorem dL_law_488 : decode cL_law 488 = .ok (.iload 12, 2) := by decide +kernel
theorem dL_law_490 : decode cL_law 490 = .ok (.dup2, 1) := by decide +kernel
theorem dL_law_491 : decode cL_law 491 = .ok (.laload, 1) := by decide +kernel
theorem dL_law_492 : decode cL_law 492 = .ok (.iload 15, 2) := by decide +kernel
theorem dL_law_494 : decode cL_law 494 = .ok (.i2l, 1) := by decide +kernel
theorem dL_law_495 : decode cL_law 495 = .ok (.lsub, 1) := by decide +kernel
theorem dL_law_496 : decode cL_law 496 = .ok (.lastore, 1) := by decide +kernel
theorem dL_law_497 : decode cL_law 497 = .ok (.aload_n 3, 1) := by decide +kernel
theorem dL_law_498 : decode cL_law 498 = .ok (.bipush 23, 2) := by decide +kernel
theorem dL_law_500 : decode cL_law 500 = .ok (.dup2, 1) := by decide +kernel
theorem dL_law_501 : decode cL_law 501 = .ok (.laload, 1) := by decide +kernel
theorem dL_law_502 : decode cL_law 502 = .ok (.iload 15, 2) := by decide +kernel
theorem dL_law_504 : decode cL_law 504 = .ok (.i2l, 1) := by decide +kernel
theorem dL_law_505 : decode cL_law 505 = .ok (.ladd, 1) := by decide +kernel
theorem dL_law_506 : decode cL_law 506 = .ok (.lastore, 1) := by decide +kernel
theorem dL_law_507 : decode cL_law 507 = .ok (.iconst 2, 1) := by decide +kernel
theorem dL_law_508 : decode cL_law 508 = .ok (.iload 12, 2) := by decide +kernel
theorem dL_law_510 : decode cL_law 510 = .ok (.iconst 0, 1) := by decide +kernel
theorem dL_law_511 : decode cL_law 511 = .ok (.iload 15, 2) := by decide +kernel
theorem dL_law_513 : decode cL_law 513 = .ok (.aload_n 3, 1) := by decide +kernel
theorem dL_law_514 : decode cL_law 514 = .ok (.aload_n 2, 1) := by decide +kernel
theorem dL_law_515 : decode cL_law 515 = .ok (.aload 6, 2) := by decide +kernel
theorem dL_law_517 : decode cL_law 517 = .ok (.invokestatic 36, 3) := by decide +kernel
theorem dL_law_520 : decode cL_law 520 = .ok (.goto 1763, 3) := by decide +kernel
theorem dL_law_523 : decode cL_law 523 = .ok (.iload 11, 2) := by decide +kernel
theorem dL_law_525 : decode cL_law 525 = .ok (.bipush 8, 2) := by decide +kernel
theorem dL_law_527 : decode cL_law 527 = .ok (.if_icmp .ge 198, 3) := by decide +kernel
theorem dL_law_530 : decode cL_law 530 = .ok (.iload 14, 2) := by decide +kernel
theorem dL_law_532 : decode cL_law 532 = .ok (.ifCond .eq 17, 3) := by decide +kernel
theorem dL_law_535 : decode cL_law 535 = .ok (.aload_n 2, 1) := by decide +kernel
theorem dL_law_536 : decode cL_law 536 = .ok (.bipush 10, 2) := by decide +kernel
theorem dL_law_538 : decode cL_law 538 = .ok (.iload 13, 2) := by decide +kernel
theorem dL_law_540 : decode cL_law 540 = .ok (.iadd, 1) := by decide +kernel
theorem dL_law_541 : decode cL_law 541 = .ok (.iaload, 1) := by decide +kernel
theorem dL_law_542 : decode cL_law 542 = .ok (.ifCond .lt 7, 3) := by decide +kernel
theorem dL_law_545 : decode cL_law 545 = .ok (.iconst 1, 1) := by decide +kernel
theorem dL_law_546 : decode cL_law 546 = .ok (.goto 4, 3) := by decide +kernel
theorem dL_law_549 : decode cL_law 549 = .ok (.iconst 0, 1) := by decide +kernel
theorem dL_law_550 : decode cL_law 550 = .ok (.istore 16, 2) := by decide +kernel
theorem dL_law_552 : decode cL_law 552 = .ok (.iload 16, 2) := by decide +kernel
theorem dL_law_554 : decode cL_law 554 = .ok (.ifCond .eq 28, 3) := by decide +kernel
theorem dL_law_557 : decode cL_law 557 = .ok (.iload 12, 2) := by decide +kernel
theorem dL_law_559 : decode cL_law 559 = .ok (.iload 13, 2) := by decide +kernel
theorem dL_law_561 : decode cL_law 561 = .ok (.if_icmp .eq 21, 3) := by decide +kernel
theorem dL_law_564 : decode cL_law 564 = .ok (.iload 12, 2) := by decide +kernel
theorem dL_law_566 : decode cL_law 566 = .ok (.aload_n 3, 1) := by decide +kernel
theorem dL_law_567 : decode cL_law 567 = .ok (.aload_n 2, 1) := by decide +kernel
theorem dL_law_568 : decode cL_law 568 = .ok (.aload 4, 2) := by decide +kernel
theorem dL_law_570 : decode cL_law 570 = .ok (.invokestatic 49, 3) := by decide +kernel
theorem dL_law_573 : decode cL_law 573 = .ok (.iload 15, 2) := by decide +kernel
theorem dL_law_575 : decode cL_law 575 = .ok (.if_icmp .lt 7, 3) := by decide +kernel
theorem dL_law_578 : decode cL_law 578 = .ok (.iconst 1, 1) := by decide +kernel
theorem dL_law_579 : decode cL_law 579 = .ok (.goto 4, 3) := by decide +kernel
theorem dL_law_582 : decode cL_law 582 = .ok (.iconst 0, 1) := by decide +kernel
theorem dL_law_583 : decode cL_law 583 = .ok (.istore 17, 2) := by decide +kernel
theorem dL_law_585 : decode cL_law 585 = .ok (.aload_n 3, 1) := by decide +kernel
theorem dL_law_586 : decode cL_law 586 = .ok (.iload 13, 2) := by decide +kernel
theorem dL_law_588 : decode cL_law 588 = .ok (.laload, 1) := by decide +kernel
theorem dL_law_589 : decode cL_law 589 = .ok (.iload 15, 2) := by decide +kernel
theorem dL_law_591 : decode cL_law 591 = .ok (.i2l, 1) := by decide +kernel
theorem dL_law_592 : decode cL_law 592 = .ok (.ladd, 1) := by decide +kernel
theorem dL_law_593 : decode cL_law 593 = .ok (.ldc2_w 30, 3) := by decide +kernel
theorem dL_law_596 : decode cL_law 596 = .ok (.lcmp, 1) := by decide +kernel
theorem dL_law_597 : decode cL_law 597 = .ok (.ifCond .gt 7, 3) := by decide +kernel
theorem dL_law_600 : decode cL_law 600 = .ok (.iconst 1, 1) := by decide +kernel
theorem dL_law_601 : decode cL_law 601 = .ok (.goto 4, 3) := by decide +kernel
theorem dL_law_604 : decode cL_law 604 = .ok (.iconst 0, 1) := by decide +kernel
theorem dL_law_605 : decode cL_law 605 = .ok (.istore 18, 2) := by decide +kernel
theorem dL_law_607 : decode cL_law 607 = .ok (.aload_n 1, 1) := by decide +kernel
theorem dL_law_608 : decode cL_law 608 = .ok (.iload 12, 2) := by decide +kernel
theorem dL_law_610 : decode cL_law 610 = .ok (.iload 13, 2) := by decide +kernel
theorem dL_law_612 : decode cL_law 612 = .ok (.iload 15, 2) := by decide +kernel
theorem dL_law_614 : decode cL_law 614 = .ok (.invokevirtual 108, 3) := by decide +kernel
theorem dL_law_617 : decode cL_law 617 = .ok (.i2l, 1) := by decide +kernel
theorem dL_law_618 : decode cL_law 618 = .ok (.iload 16, 2) := by decide +kernel
theorem dL_law_620 : decode cL_law 620 = .ok (.ifCond .ne 9, 3) := by decide +kernel
theorem dL_law_623 : decode cL_law 623 = .ok (.ldc2_w 99, 3) := by decide +kernel
theorem dL_law_626 : decode cL_law 626 = .ok (.goto 46, 3) := by decide +kernel
theorem dL_law_629 : decode cL_law 629 = .ok (.iload 12, 2) := by decide +kernel
theorem dL_law_631 : decode cL_law 631 = .ok (.iload 13, 2) := by decide +kernel
theorem dL_law_633 : decode cL_law 633 = .ok (.if_icmp .ne 9, 3) := by decide +kernel
theorem dL_law_636 : decode cL_law 636 = .ok (.ldc2_w 112, 3) := by decide +kernel
theorem dL_law_639 : decode cL_law 639 = .ok (.goto 33, 3) := by decide +kernel
theorem dL_law_642 : decode cL_law 642 = .ok (.iload 17, 2) := by decide +kernel
theorem dL_law_644 : decode cL_law 644 = .ok (.ifCond .ne 9, 3) := by decide +kernel
theorem dL_law_647 : decode cL_law 647 = .ok (.ldc2_w 106, 3) := by decide +kernel
theorem dL_law_650 : decode cL_law 650 = .ok (.goto 22, 3) := by decide +kernel
theorem dL_law_653 : decode cL_law 653 = .ok (.iload 18, 2) := by decide +kernel
theorem dL_law_655 : decode cL_law 655 = .ok (.ifCond .eq 14, 3) := by decide +kernel
theorem dL_law_658 : decode cL_law 658 = .ok (.aload_n 3, 1) := by decide +kernel
theorem dL_law_659 : decode cL_law 659 = .ok (.iload 12, 2) := by decide +kernel
theorem dL_law_661 : decode cL_law 661 = .ok (.laload, 1) := by decide +kernel
theorem dL_law_662 : decode cL_law 662 = .ok (.iload 15, 2) := by decide +kernel
theorem dL_law_664 : decode cL_law 664 = .ok (.i2l, 1) := by decide +kernel
theorem dL_law_665 : decode cL_law 665 = .ok (.lsub, 1) := by decide +kernel
theorem dL_law_666 : decode cL_law 666 = .ok (.goto 6, 3) := by decide +kernel
theorem dL_law_669 : decode cL_law 669 = .ok (.ldc2_w 101, 3) := by decide +kernel
theorem dL_law_672 : decode cL_law 672 = .ok (.lcmp, 1) := by decide +kernel
theorem dL_law_673 : decode cL_law 673 = .ok (.ifCond .eq 5, 3) := by decide +kernel
theorem dL_law_676 : decode cL_law 676 = .ok (.iconst 0, 1) := by decide +kernel
theorem dL_law_677 : decode cL_law 677 = .ok (.ireturn, 1) := by decide +kernel
theorem dL_law_678 : decode cL_law 678 = .ok (.iload 17, 2) := by decide +kernel
theorem dL_law_680 : decode cL_law 680 = .ok (.ifCond .eq 42, 3) := by decide +kernel
theorem dL_law_683 : decode cL_law 683 = .ok (.iload 18, 2) := by decide +kernel
theorem dL_law_685 : decode cL_law 685 = .ok (.ifCond .eq 37, 3) := by decide +kernel
theorem dL_law_688 : decode cL_law 688 = .ok (.aload_n 3, 1) := by decide +kernel
theorem dL_law_689 : decode cL_law 689 = .ok (.iload 12, 2) := by decide +kernel
theorem dL_law_691 : decode cL_law 691 = .ok (.dup2, 1) := by decide +kernel
theorem dL_law_692 : decode cL_law 692 = .ok (.laload, 1) := by decide +kernel
theorem dL_law_693 : decode cL_law 693 = .ok (.iload 15, 2) := by decide +kernel
theorem dL_law_695 : decode cL_law 695 = .ok (.i2l, 1) := by decide +kernel
theorem dL_law_696 : decode cL_law 696 = .ok (.lsub, 1) := by decide +kernel
theorem dL_law_697 : decode cL_law 697 = .ok (.lastore, 1) := by decide +kernel
theorem dL_law_698 : decode cL_law 698 = .ok (.aload_n 3, 1) := by decide +kernel
theorem dL_law_699 : decode cL_law 699 = .ok (.iload 13, 2) := by decide +kernel
theorem dL_law_701 : decode cL_law 701 = .ok (.dup2, 1) := by decide +kernel
theorem dL_law_702 : decode cL_law 702 = .ok (.laload, 1) := by decide +kernel
theorem dL_law_703 : decode cL_law 703 = .ok (.iload 15, 2) := by decide +kernel
theorem dL_law_705 : decode cL_law 705 = .ok (.i2l, 1) := by decide +kernel
theorem dL_law_706 : decode cL_law 706 = .ok (.ladd, 1) := by decide +kernel
theorem dL_law_707 : decode cL_law 707 = .ok (.lastore, 1) := by decide +kernel
theorem dL_law_708 : decode cL_law 708 = .ok (.iconst 3, 1) := by decide +kernel
theorem dL_law_709 : decode cL_law 709 = .ok (.iload 12, 2) := by decide +kernel
theorem dL_law_711 : decode cL_law 711 = .ok (.iload 13, 2) := by decide +kernel
theorem dL_law_713 : decode cL_law 713 = .ok (.iload 15, 2) := by decide +kernel
theorem dL_law_715 : decode cL_law 715 = .ok (.aload_n 3, 1) := by decide +kernel
theorem dL_law_716 : decode cL_law 716 = .ok (.aload_n 2, 1) := by decide +kernel
theorem dL_law_717 : decode cL_law 717 = .ok (.aload 6, 2) := by decide +kernel
theorem dL_law_719 : decode cL_law 719 = .ok (.invokestatic 36, 3) := by decide +kernel
theorem dL_law_722 : decode cL_law 722 = .ok (.goto 1561, 3) := by decide +kernel
theorem dL_law_725 : decode cL_law 725 = .ok (.iload 11, 2) := by decide +kernel
theorem dL_law_727 : decode cL_law 727 = .ok (.bipush 10, 2) := by decide +kernel
theorem dL_law_729 : decode cL_law 729 = .ok (.if_icmp .ge 208, 3) := by decide +kernel
theorem dL_law_732 : decode cL_law 732 = .ok (.aload_n 2, 1) := by decide +kernel
theorem dL_law_733 : decode cL_law 733 = .ok (.bipush 6, 2) := by decide +kernel
theorem dL_law_735 : decode cL_law 735 = .ok (.iaload, 1) := by decide +kernel
theorem dL_law_736 : decode cL_law 736 = .ok (.bipush 20, 2) := by decide +kernel
theorem dL_law_738 : decode cL_law 738 = .ok (.if_icmp .ne 6, 3) := by decide +kernel
theorem dL_law_741 : decode cL_law 741 = .ok (.goto 1563, 3) := by decide +kernel
theorem dL_law_744 : decode cL_law 744 = .ok (.iconst 1, 1) := by decide +kernel
theorem dL_law_745 : decode cL_law 745 = .ok (.iload 9, 2) := by decide +kernel
theorem dL_law_747 : decode cL_law 747 = .ok (.bipush 7, 2) := by decide +kernel
theorem dL_law_749 : decode cL_law 749 = .ok (.ishr, 1) := by decide +kernel
theorem dL_law_750 : decode cL_law 750 = .ok (.bipush 60, 2) := by decide +kernel
theorem dL_law_752 : decode cL_law 752 = .ok (.invokestatic 84, 3) := by decide +kernel
theorem dL_law_755 : decode cL_law 755 = .ok (.iadd, 1) := by decide +kernel
theorem dL_law_756 : decode cL_law 756 = .ok (.istore 16, 2) := by decide +kernel
theorem dL_law_758 : decode cL_law 758 = .ok (.iconst 0, 1) := by decide +kernel
theorem dL_law_759 : decode cL_law 759 = .ok (.istore 17, 2) := by decide +kernel
theorem dL_law_761 : decode cL_law 761 = .ok (.iconst 0, 1) := by decide +kernel
theorem dL_law_762 : decode cL_law 762 = .ok (.istore 18, 2) := by decide +kernel
theorem dL_law_764 : decode cL_law 764 = .ok (.iload 18, 2) := by decide +kernel
theorem dL_law_766 : decode cL_law 766 = .ok (.bipush 60, 2) := by decide +kernel
theorem dL_law_768 : decode cL_law 768 = .ok (.if_icmp .ge 27, 3) := by decide +kernel
theorem dL_law_771 : decode cL_law 771 = .ok (.iload 17, 2) := by decide +kernel
theorem dL_law_773 : decode cL_law 773 = .ok (.aload 4, 2) := by decide +kernel
theorem dL_law_775 : decode cL_law 775 = .ok (.iload 18, 2) := by decide +kernel
theorem dL_law_777 : decode cL_law 777 = .ok (.iaload, 1) := by decide +kernel
theorem dL_law_778 : decode cL_law 778 = .ok (.ifCond .le 7, 3) := by decide +kernel
theorem dL_law_781 : decode cL_law 781 = .ok (.iconst 1, 1) := by decide +kernel
theorem dL_law_782 : decode cL_law 782 = .ok (.goto 4, 3) := by decide +kernel
theorem dL_law_785 : decode cL_law 785 = .ok (.iconst 0, 1) := by decide +kernel
theorem dL_law_786 : decode cL_law 786 = .ok (.iadd, 1) := by decide +kernel
theorem dL_law_787 : decode cL_law 787 = .ok (.istore 17, 2) := by decide +kernel
theorem dL_law_789 : decode cL_law 789 = .ok (.iinc 18 3, 3) := by decide +kernel
theorem dL_law_792 : decode cL_law 792 = .ok (.goto (-28), 3) := by decide +kernel
theorem dL_law_795 : decode cL_law 795 = .ok (.iload 14, 2) := by decide +kernel
theorem dL_law_797 : decode cL_law 797 = .ok (.ifCond .eq 21, 3) := by decide +kernel
theorem dL_law_800 : decode cL_law 800 = .ok (.iload 12, 2) := by decide +kernel
theorem dL_law_802 : decode cL_law 802 = .ok (.aload_n 3, 1) := by decide +kernel
theorem dL_law_803 : decode cL_law 803 = .ok (.aload_n 2, 1) := by decide +kernel
theorem dL_law_804 : decode cL_law 804 = .ok (.aload 4, 2) := by decide +kernel
theorem dL_law_806 : decode cL_law 806 = .ok (.invokestatic 49, 3) := by decide +kernel
theorem dL_law_809 : decode cL_law 809 = .ok (.iload 15, 2) := by decide +kernel
theorem dL_law_811 : decode cL_law 811 = .ok (.if_icmp .lt 7, 3) := by decide +kernel
theorem dL_law_814 : decode cL_law 814 = .ok (.iconst 1, 1) := by decide +kernel
theorem dL_law_815 : decode cL_law 815 = .ok (.goto 4, 3) := by decide +kernel
theorem dL_law_818 : decode cL_law 818 = .ok (.iconst 0, 1) := by decide +kernel
theorem dL_law_819 : decode cL_law 819 = .ok (.istore 18, 2) := by decide +kernel
theorem dL_law_821 : decode cL_law 821 = .ok (.aload_n 1, 1) := by decide +kernel
theorem dL_law_822 : decode cL_law 822 = .ok (.iload 12, 2) := by decide +kernel
theorem dL_law_824 : decode cL_law 824 = .ok (.iload 15, 2) := by decide +kernel
theorem dL_law_826 : decode cL_law 826 = .ok (.iload 16, 2) := by decide +kernel
theorem dL_law_828 : decode cL_law 828 = .ok (.invokevirtual 114, 3) := by decide +kernel
theorem dL_law_831 : decode cL_law 831 = .ok (.iload 14, 2) := by decide +kernel
theorem dL_law_833 : decode cL_law 833 = .ok (.ifCond .ne 7, 3) := by decide +kernel
theorem dL_law_836 : decode cL_law 836 = .ok (.iconst (-1), 1) := by decide +kernel
theorem dL_law_837 : decode cL_law 837 = .ok (.goto 31, 3) := by decide +kernel
theorem dL_law_840 : decode cL_law 840 = .ok (.iload 18, 2) := by decide +kernel
theorem dL_law_842 : decode cL_law 842 = .ok (.ifCond .ne 8, 3) := by decide +kernel
theorem dL_law_845 : decode cL_law 845 = .ok (.bipush (-3), 2) := by decide +kernel
theorem dL_law_847 : decode cL_law 847 = .ok (.goto 21, 3) := by decide +kernel
theorem dL_law_850 : decode cL_law 850 = .ok (.iload 17, 2) := by decide +kernel
theorem dL_law_852 : decode cL_law 852 = .ok (.bipush 15, 2) := by decide +kernel
theorem dL_law_854 : decode cL_law 854 = .ok (.if_icmp .ne 8, 3) := by decide +kernel
theorem dL_law_857 : decode cL_law 857 = .ok (.bipush (-4), 2) := by decide +kernel
theorem dL_law_859 : decode cL_law 859 = .ok (.goto 9, 3) := by decide +kernel
theorem dL_law_862 : decode cL_law 862 = .ok (.aload_n 2, 1) := by decide +kernel
theorem dL_law_863 : decode cL_law 863 = .ok (.bipush 6, 2) := by decide +kernel
theorem dL_law_865 : decode cL_law 865 = .ok (.iaload, 1) := by decide +kernel
theorem dL_law_866 : decode cL_law 866 = .ok (.iconst 1, 1) := by decide +kernel
theorem dL_law_867 : decode cL_law 867 = .ok (.iadd, 1) := by decide +kernel
theorem dL_law_868 : decode cL_law 868 = .ok (.if_icmp .eq 5, 3) := by decide +kernel
theorem dL_law_871 : decode cL_law 871 = .ok (.iconst 0, 1) := by decide +kernel
theorem dL_law_872 : decode cL_law 872 = .ok (.ireturn, 1) := by decide +kernel
theorem dL_law_873 : decode cL_law 873 = .ok (.iload 18, 2) := by decide +kernel
theorem dL_law_875 : decode cL_law 875 = .ok (.ifCond .eq 59, 3) := by decide +kernel
theorem dL_law_878 : decode cL_law 878 = .ok (.iload 17, 2) := by decide +kernel
theorem dL_law_880 : decode cL_law 880 = .ok (.bipush 15, 2) := by decide +kernel
theorem dL_law_882 : decode cL_law 882 = .ok (.if_icmp .ge 52, 3) := by decide +kernel
theorem dL_law_885 : decode cL_law 885 = .ok (.aload 4, 2) := by decide +kernel
theorem dL_law_887 : decode cL_law 887 = .ok (.iconst 3, 1) := by decide +kernel
theorem dL_law_888 : decode cL_law 888 = .ok (.aload_n 2, 1) := by decide +kernel
theorem dL_law_889 : decode cL_law 889 = .ok (.bipush 6, 2) := by decide +kernel
theorem dL_law_891 : decode cL_law 891 = .ok (.iaload, 1) := by decide +kernel
theorem dL_law_892 : decode cL_law 892 = .ok (.imul, 1) := by decide +kernel
theorem dL_law_893 : decode cL_law 893 = .ok (.iload 12, 2) := by decide +kernel
theorem dL_law_895 : decode cL_law 895 = .ok (.iastore, 1) := by decide +kernel
theorem dL_law_896 : decode cL_law 896 = .ok (.aload 4, 2) := by decide +kernel
theorem dL_law_898 : decode cL_law 898 = .ok (.iconst 3, 1) := by decide +kernel
theorem dL_law_899 : decode cL_law 899 = .ok (.aload_n 2, 1) := by decide +kernel
theorem dL_law_900 : decode cL_law 900 = .ok (.bipush 6, 2) := by decide +kernel
theorem dL_law_902 : decode cL_law 902 = .ok (.iaload, 1) := by decide +kernel
theorem dL_law_903 : decode cL_law 903 = .ok (.imul, 1) := by decide +kernel
theorem dL_law_904 : decode cL_law 904 = .ok (.iconst 1, 1) := by decide +kernel
theorem dL_law_905 : decode cL_law 905 = .ok (.iadd, 1) := by decide +kernel
theorem dL_law_906 : decode cL_law 906 = .ok (.iload 15, 2) := by decide +kernel
theorem dL_law_908 : decode cL_law 908 = .ok (.iastore, 1) := by decide +kernel
theorem dL_law_909 : decode cL_law 909 = .ok (.aload 4, 2) := by decide +kernel
theorem dL_law_911 : decode cL_law 911 = .ok (.iconst 3, 1) := by decide +kernel
theorem dL_law_912 : decode cL_law 912 = .ok (.aload_n 2, 1) := by decide +kernel
theorem dL_law_913 : decode cL_law 913 = .ok (.bipush 6, 2) := by decide +kernel
theorem dL_law_915 : decode cL_law 915 = .ok (.iaload, 1) := by decide +kernel
theorem dL_law_916 : decode cL_law 916 = .ok (.imul, 1) := by decide +kernel
theorem dL_law_917 : decode cL_law 917 = .ok (.iconst 2, 1) := by decide +kernel
theorem dL_law_918 : decode cL_law 918 = .ok (.iadd, 1) := by decide +kernel
theorem dL_law_919 : decode cL_law 919 = .ok (.aload_n 2, 1) := by decide +kernel
theorem dL_law_920 : decode cL_law 920 = .ok (.iconst 0, 1) := by decide +kernel
theorem dL_law_921 : decode cL_law 921 = .ok (.iaload, 1) := by decide +kernel
theorem dL_law_922 : decode cL_law 922 = .ok (.iload 16, 2) := by decide +kernel
theorem dL_law_924 : decode cL_law 924 = .ok (.iadd, 1) := by decide +kernel
theorem dL_law_925 : decode cL_law 925 = .ok (.iastore, 1) := by decide +kernel
theorem dL_law_926 : decode cL_law 926 = .ok (.aload_n 2, 1) := by decide +kernel
theorem dL_law_927 : decode cL_law 927 = .ok (.bipush 6, 2) := by decide +kernel
theorem dL_law_929 : decode cL_law 929 = .ok (.dup2, 1) := by decide +kernel
theorem dL_law_930 : decode cL_law 930 = .ok (.iaload, 1) := by decide +kernel
theorem dL_law_931 : decode cL_law 931 = .ok (.iconst 1, 1) := by decide +kernel
theorem dL_law_932 : decode cL_law 932 = .ok (.iadd, 1) := by decide +kernel
theorem dL_law_933 : decode cL_law 933 = .ok (.iastore, 1) := by decide +kernel
theorem dL_law_934 : decode cL_law 934 = .ok (.goto 1349, 3) := by decide +kernel
theorem dL_law_937 : decode cL_law 937 = .ok (.iload 11, 2) := by decide +kernel
theorem dL_law_939 : decode cL_law 939 = .ok (.bipush 10, 2) := by decide +kernel
theorem dL_law_941 : decode cL_law 941 = .ok (.if_icmp .ne 63, 3) := by decide +kernel
theorem dL_law_944 : decode cL_law 944 = .ok (.iload 10, 2) := by decide +kernel
theorem dL_law_946 : decode cL_law 946 = .ok (.bipush 20, 2) := by decide +kernel
theorem dL_law_948 : decode cL_law 948 = .ok (.invokestatic 84, 3) := by decide +kernel
theorem dL_law_951 : decode cL_law 951 = .ok (.istore 16, 2) := by decide +kernel
theorem dL_law_953 : decode cL_law 953 = .ok (.aload 4, 2) := by decide +kernel
theorem dL_law_955 : decode cL_law 955 = .ok (.iconst 3, 1) := by decide +kernel
theorem dL_law_956 : decode cL_law 956 = .ok (.iload 16, 2) := by decide +kernel
theorem dL_law_958 : decode cL_law 958 = .ok (.imul, 1) := by decide +kernel
theorem dL_law_959 : decode cL_law 959 = .ok (.iaload, 1) := by decide +kernel
theorem dL_law_960 : decode cL_law 960 = .ok (.istore 17, 2) := by decide +kernel
theorem dL_law_962 : decode cL_law 962 = .ok (.aload 4, 2) := by decide +kernel
theorem dL_law_964 : decode cL_law 964 = .ok (.iconst 3, 1) := by decide +kernel
theorem dL_law_965 : decode cL_law 965 = .ok (.iload 16, 2) := by decide +kernel
theorem dL_law_967 : decode cL_law 967 = .ok (.imul, 1) := by decide +kernel
theorem dL_law_968 : decode cL_law 968 = .ok (.iconst 0, 1) := by decide +kernel
theorem dL_law_969 : decode cL_law 969 = .ok (.iastore, 1) := by decide +kernel
theorem dL_law_970 : decode cL_law 970 = .ok (.aload_n 1, 1) := by decide +kernel
theorem dL_law_971 : decode cL_law 971 = .ok (.iload 16, 2) := by decide +kernel
theorem dL_law_973 : decode cL_law 973 = .ok (.iconst 1, 1) := by decide +kernel
theorem dL_law_974 : decode cL_law 974 = .ok (.iadd, 1) := by decide +kernel
theorem dL_law_975 : decode cL_law 975 = .ok (.invokevirtual 117, 3) := by decide +kernel
theorem dL_law_978 : decode cL_law 978 = .ok (.iload 17, 2) := by decide +kernel
theorem dL_law_980 : decode cL_law 980 = .ok (.ifCond .le 15, 3) := by decide +kernel
theorem dL_law_983 : decode cL_law 983 = .ok (.iload 17, 2) := by decide +kernel
theorem dL_law_985 : decode cL_law 985 = .ok (.aload_n 3, 1) := by decide +kernel
theorem dL_law_986 : decode cL_law 986 = .ok (.aload_n 2, 1) := by decide +kernel
theorem dL_law_987 : decode cL_law 987 = .ok (.aload 4, 2) := by decide +kernel
theorem dL_law_989 : decode cL_law 989 = .ok (.invokestatic 49, 3) := by decide +kernel
theorem dL_law_992 : decode cL_law 992 = .ok (.goto 4, 3) := by decide +kernel
theorem dL_law_995 : decode cL_law 995 = .ok (.iconst (-1), 1) := by decide +kernel
theorem dL_law_996 : decode cL_law 996 = .ok (.if_icmp .eq 5, 3) := by decide +kernel
theorem dL_law_999 : decode cL_law 999 = .ok (.iconst 0, 1) := by decide +kernel
theorem dL_law_1000 : decode cL_law 1000 = .ok (.ireturn, 1) := by decide +kernel
theorem dL_law_1001 : decode cL_law 1001 = .ok (.goto 1282, 3) := by decide +kernel
theorem dL_law_1004 : decode cL_law 1004 = .ok (.iload 11, 2) := by decide +kernel
theorem dL_law_1006 : decode cL_law 1006 = .ok (.bipush 11, 2) := by decide +kernel
theorem dL_law_1008 : decode cL_law 1008 = .ok (.if_icmp .ne 151, 3) := by decide +kernel
theorem dL_law_1011 : decode cL_law 1011 = .ok (.aload_n 2, 1) := by decide +kernel
theorem dL_law_1012 : decode cL_law 1012 = .ok (.bipush 7, 2) := by decide +kernel
theorem dL_law_1014 : decode cL_law 1014 = .ok (.iaload, 1) := by decide +kernel
theorem dL_law_1015 : decode cL_law 1015 = .ok (.bipush 20, 2) := by decide +kernel
theorem dL_law_1017 : decode cL_law 1017 = .ok (.if_icmp .ne 6, 3) := by decide +kernel
theorem dL_law_1020 : decode cL_law 1020 = .ok (.goto 1284, 3) := by decide +kernel
theorem dL_law_1023 : decode cL_law 1023 = .ok (.iconst 0, 1) := by decide +kernel
theorem dL_law_1024 : decode cL_law 1024 = .ok (.istore 16, 2) := by decide +kernel
theorem dL_law_1026 : decode cL_law 1026 = .ok (.iconst 0, 1) := by decide +kernel
theorem dL_law_1027 : decode cL_law 1027 = .ok (.istore 17, 2) := by decide +kernel
theorem dL_law_1029 : decode cL_law 1029 = .ok (.iload 17, 2) := by decide +kernel
theorem dL_law_1031 : decode cL_law 1031 = .ok (.bipush 60, 2) := by decide +kernel
theorem dL_law_1033 : decode cL_law 1033 = .ok (.if_icmp .ge 27, 3) := by decide +kernel
theorem dL_law_1036 : decode cL_law 1036 = .ok (.iload 16, 2) := by decide +kernel
theorem dL_law_1038 : decode cL_law 1038 = .ok (.aload 5, 2) := by decide +kernel
theorem dL_law_1040 : decode cL_law 1040 = .ok (.iload 17, 2) := by decide +kernel
theorem dL_law_1042 : decode cL_law 1042 = .ok (.iaload, 1) := by decide +kernel
theorem dL_law_1043 : decode cL_law 1043 = .ok (.ifCond .le 7, 3) := by decide +kernel
theorem dL_law_1046 : decode cL_law 1046 = .ok (.iconst 1, 1) := by decide +kernel
theorem dL_law_1047 : decode cL_law 1047 = .ok (.goto 4, 3) := by decide +kernel
theorem dL_law_1050 : decode cL_law 1050 = .ok (.iconst 0, 1) := by decide +kernel
theorem dL_law_1051 : decode cL_law 1051 = .ok (.iadd, 1) := by decide +kernel
theorem dL_law_1052 : decode cL_law 1052 = .ok (.istore 16, 2) := by decide +kernel
theorem dL_law_1054 : decode cL_law 1054 = .ok (.iinc 17 3, 3) := by decide +kernel
theorem dL_law_1057 : decode cL_law 1057 = .ok (.goto (-28), 3) := by decide +kernel
theorem dL_law_1060 : decode cL_law 1060 = .ok (.aload_n 1, 1) := by decide +kernel
theorem dL_law_1061 : decode cL_law 1061 = .ok (.iload 12, 2) := by decide +kernel
theorem dL_law_1063 : decode cL_law 1063 = .ok (.iload 15, 2) := by decide +kernel
theorem dL_law_1065 : decode cL_law 1065 = .ok (.invokevirtual 120, 3) := by decide +kernel
theorem dL_law_1068 : decode cL_law 1068 = .ok (.iload 14, 2) := by decide +kernel
theorem dL_law_1070 : decode cL_law 1070 = .ok (.ifCond .ne 7, 3) := by decide +kernel
theorem dL_law_1073 : decode cL_law 1073 = .ok (.iconst (-1), 1) := by decide +kernel
theorem dL_law_1074 : decode cL_law 1074 = .ok (.goto 21, 3) := by decide +kernel
theorem dL_law_1077 : decode cL_law 1077 = .ok (.iload 16, 2) := by decide +kernel
theorem dL_law_1079 : decode cL_law 1079 = .ok (.bipush 15, 2) := by decide +kernel
theorem dL_law_1081 : decode cL_law 1081 = .ok (.if_icmp .ne 8, 3) := by decide +kernel
theorem dL_law_1084 : decode cL_law 1084 = .ok (.bipush (-4), 2) := by decide +kernel
theorem dL_law_1086 : decode cL_law 1086 = .ok (.goto 9, 3) := by decide +kernel
theorem dL_law_1089 : decode cL_law 1089 = .ok (.aload_n 2, 1) := by decide +kernel
theorem dL_law_1090 : decode cL_law 1090 = .ok (.bipush 7, 2) := by decide +kernel
theorem dL_law_1092 : decode cL_law 1092 = .ok (.iaload, 1) := by decide +kernel
theorem dL_law_1093 : decode cL_law 1093 = .ok (.iconst 1, 1) := by decide +kernel
theorem dL_law_1094 : decode cL_law 1094 = .ok (.iadd, 1) := by decide +kernel
theorem dL_law_1095 : decode cL_law 1095 = .ok (.if_icmp .eq 5, 3) := by decide +kernel
theorem dL_law_1098 : decode cL_law 1098 = .ok (.iconst 0, 1) := by decide +kernel
theorem dL_law_1099 : decode cL_law 1099 = .ok (.ireturn, 1) := by decide +kernel
theorem dL_law_1100 : decode cL_law 1100 = .ok (.iload 14, 2) := by decide +kernel
theorem dL_law_1102 : decode cL_law 1102 = .ok (.ifCond .eq 54, 3) := by decide +kernel
theorem dL_law_1105 : decode cL_law 1105 = .ok (.iload 16, 2) := by decide +kernel
theorem dL_law_1107 : decode cL_law 1107 = .ok (.bipush 15, 2) := by decide +kernel
theorem dL_law_1109 : decode cL_law 1109 = .ok (.if_icmp .ge 47, 3) := by decide +kernel
theorem dL_law_1112 : decode cL_law 1112 = .ok (.aload 5, 2) := by decide +kernel
theorem dL_law_1114 : decode cL_law 1114 = .ok (.iconst 3, 1) := by decide +kernel
theorem dL_law_1115 : decode cL_law 1115 = .ok (.aload_n 2, 1) := by decide +kernel
theorem dL_law_1116 : decode cL_law 1116 = .ok (.bipush 7, 2) := by decide +kernel
theorem dL_law_1118 : decode cL_law 1118 = .ok (.iaload, 1) := by decide +kernel
theorem dL_law_1119 : decode cL_law 1119 = .ok (.imul, 1) := by decide +kernel
theorem dL_law_1120 : decode cL_law 1120 = .ok (.iload 12, 2) := by decide +kernel
theorem dL_law_1122 : decode cL_law 1122 = .ok (.iastore, 1) := by decide +kernel
theorem dL_law_1123 : decode cL_law 1123 = .ok (.aload 5, 2) := by decide +kernel
theorem dL_law_1125 : decode cL_law 1125 = .ok (.iconst 3, 1) := by decide +kernel
theorem dL_law_1126 : decode cL_law 1126 = .ok (.aload_n 2, 1) := by decide +kernel
theorem dL_law_1127 : decode cL_law 1127 = .ok (.bipush 7, 2) := by decide +kernel
theorem dL_law_1129 : decode cL_law 1129 = .ok (.iaload, 1) := by decide +kernel
theorem dL_law_1130 : decode cL_law 1130 = .ok (.imul, 1) := by decide +kernel
theorem dL_law_1131 : decode cL_law 1131 = .ok (.iconst 1, 1) := by decide +kernel
theorem dL_law_1132 : decode cL_law 1132 = .ok (.iadd, 1) := by decide +kernel
theorem dL_law_1133 : decode cL_law 1133 = .ok (.iload 15, 2) := by decide +kernel
theorem dL_law_1135 : decode cL_law 1135 = .ok (.iastore, 1) := by decide +kernel
theorem dL_law_1136 : decode cL_law 1136 = .ok (.aload 5, 2) := by decide +kernel
theorem dL_law_1138 : decode cL_law 1138 = .ok (.iconst 3, 1) := by decide +kernel
theorem dL_law_1139 : decode cL_law 1139 = .ok (.aload_n 2, 1) := by decide +kernel
theorem dL_law_1140 : decode cL_law 1140 = .ok (.bipush 7, 2) := by decide +kernel
theorem dL_law_1142 : decode cL_law 1142 = .ok (.iaload, 1) := by decide +kernel
theorem dL_law_1143 : decode cL_law 1143 = .ok (.imul, 1) := by decide +kernel
theorem dL_law_1144 : decode cL_law 1144 = .ok (.iconst 2, 1) := by decide +kernel
theorem dL_law_1145 : decode cL_law 1145 = .ok (.iadd, 1) := by decide +kernel
theorem dL_law_1146 : decode cL_law 1146 = .ok (.iconst 0, 1) := by decide +kernel
theorem dL_law_1147 : decode cL_law 1147 = .ok (.iastore, 1) := by decide +kernel
theorem dL_law_1148 : decode cL_law 1148 = .ok (.aload_n 2, 1) := by decide +kernel
theorem dL_law_1149 : decode cL_law 1149 = .ok (.bipush 7, 2) := by decide +kernel
theorem dL_law_1151 : decode cL_law 1151 = .ok (.dup2, 1) := by decide +kernel
theorem dL_law_1152 : decode cL_law 1152 = .ok (.iaload, 1) := by decide +kernel
theorem dL_law_1153 : decode cL_law 1153 = .ok (.iconst 1, 1) := by decide +kernel
theorem dL_law_1154 : decode cL_law 1154 = .ok (.iadd, 1) := by decide +kernel
theorem dL_law_1155 : decode cL_law 1155 = .ok (.iastore, 1) := by decide +kernel
theorem dL_law_1156 : decode cL_law 1156 = .ok (.goto 1127, 3) := by decide +kernel
theorem dL_law_1159 : decode cL_law 1159 = .ok (.iload 11, 2) := by decide +kernel
theorem dL_law_1161 : decode cL_law 1161 = .ok (.bipush 12, 2) := by decide +kernel
theorem dL_law_1163 : decode cL_law 1163 = .ok (.if_icmp .ne 212, 3) := by decide +kernel
theorem dL_law_1166 : decode cL_law 1166 = .ok (.aload_n 2, 1) := by decide +kernel
theorem dL_law_1167 : decode cL_law 1167 = .ok (.bipush 7, 2) := by decide +kernel
theorem dL_law_1169 : decode cL_law 1169 = .ok (.iaload, 1) := by decide +kernel
theorem dL_law_1170 : decode cL_law 1170 = .ok (.ifCond .ne 7, 3) := by decide +kernel
theorem dL_law_1173 : decode cL_law 1173 = .ok (.iconst 0, 1) := by decide +kernel
theorem dL_law_1174 : decode cL_law 1174 = .ok (.goto 12, 3) := by decide +kernel
theorem dL_law_1177 : decode cL_law 1177 = .ok (.iload 10, 2) := by decide +kernel
theorem dL_law_1179 : decode cL_law 1179 = .ok (.aload_n 2, 1) := by decide +kernel
theorem dL_law_1180 : decode cL_law 1180 = .ok (.bipush 7, 2) := by decide +kernel
theorem dL_law_1182 : decode cL_law 1182 = .ok (.iaload, 1) := by decide +kernel
theorem dL_law_1183 : decode cL_law 1183 = .ok (.invokestatic 84, 3) := by decide +kernel
theorem dL_law_1186 : decode cL_law 1186 = .ok (.istore 16, 2) := by decide +kernel
theorem dL_law_1188 : decode cL_law 1188 = .ok (.aload 5, 2) := by decide +kernel
theorem dL_law_1190 : decode cL_law 1190 = .ok (.iconst 3, 1) := by decide +kernel
theorem dL_law_1191 : decode cL_law 1191 = .ok (.iload 16, 2) := by decide +kernel
theorem dL_law_1193 : decode cL_law 1193 = .ok (.imul, 1) := by decide +kernel
theorem dL_law_1194 : decode cL_law 1194 = .ok (.iaload, 1) := by decide +kernel
theorem dL_law_1195 : decode cL_law 1195 = .ok (.istore 17, 2) := by decide +kernel
theorem dL_law_1197 : decode cL_law 1197 = .ok (.iload 17, 2) := by decide +kernel
theorem dL_law_1199 : decode cL_law 1199 = .ok (.ifCond .le 15, 3) := by decide +kernel
theorem dL_law_1202 : decode cL_law 1202 = .ok (.iload 17, 2) := by decide +kernel
theorem dL_law_1204 : decode cL_law 1204 = .ok (.aload_n 3, 1) := by decide +kernel
theorem dL_law_1205 : decode cL_law 1205 = .ok (.aload_n 2, 1) := by decide +kernel
theorem dL_law_1206 : decode cL_law 1206 = .ok (.aload 4, 2) := by decide +kernel
theorem dL_law_1208 : decode cL_law 1208 = .ok (.invokestatic 49, 3) := by decide +kernel
theorem dL_law_1211 : decode cL_law 1211 = .ok (.goto 4, 3) := by decide +kernel
theorem dL_law_1214 : decode cL_law 1214 = .ok (.iconst 0, 1) := by decide +kernel
theorem dL_law_1215 : decode cL_law 1215 = .ok (.istore 18, 2) := by decide +kernel
theorem dL_law_1217 : decode cL_law 1217 = .ok (.iload 18, 2) := by decide +kernel
theorem dL_law_1219 : decode cL_law 1219 = .ok (.aload 5, 2) := by decide +kernel
theorem dL_law_1221 : decode cL_law 1221 = .ok (.iconst 3, 1) := by decide +kernel
theorem dL_law_1222 : decode cL_law 1222 = .ok (.iload 16, 2) := by decide +kernel
theorem dL_law_1224 : decode cL_law 1224 = .ok (.imul, 1) := by decide +kernel
theorem dL_law_1225 : decode cL_law 1225 = .ok (.iconst 1, 1) := by decide +kernel
theorem dL_law_1226 : decode cL_law 1226 = .ok (.iadd, 1) := by decide +kernel
theorem dL_law_1227 : decode cL_law 1227 = .ok (.iaload, 1) := by decide +kernel
theorem dL_law_1228 : decode cL_law 1228 = .ok (.if_icmp .ge 8, 3) := by decide +kernel
theorem dL_law_1231 : decode cL_law 1231 = .ok (.iload 18, 2) := by decide +kernel
theorem dL_law_1233 : decode cL_law 1233 = .ok (.goto 12, 3) := by decide +kernel
theorem dL_law_1236 : decode cL_law 1236 = .ok (.aload 5, 2) := by decide +kernel
theorem dL_law_1238 : decode cL_law 1238 = .ok (.iconst 3, 1) := by decide +kernel
theorem dL_law_1239 : decode cL_law 1239 = .ok (.iload 16, 2) := by decide +kernel
theorem dL_law_1241 : decode cL_law 1241 = .ok (.imul, 1) := by decide +kernel
theorem dL_law_1242 : decode cL_law 1242 = .ok (.iconst 1, 1) := by decide +kernel
theorem dL_law_1243 : decode cL_law 1243 = .ok (.iadd, 1) := by decide +kernel
theorem dL_law_1244 : decode cL_law 1244 = .ok (.iaload, 1) := by decide +kernel
theorem dL_law_1245 : decode cL_law 1245 = .ok (.istore 19, 2) := by decide +kernel
theorem dL_law_1247 : decode cL_law 1247 = .ok (.aload_n 1, 1) := by decide +kernel
theorem dL_law_1248 : decode cL_law 1248 = .ok (.iload 16, 2) := by decide +kernel
theorem dL_law_1250 : decode cL_law 1250 = .ok (.iconst 1, 1) := by decide +kernel
theorem dL_law_1251 : decode cL_law 1251 = .ok (.iadd, 1) := by decide +kernel
theorem dL_law_1252 : decode cL_law 1252 = .ok (.invokevirtual 123, 3) := by decide +kernel
theorem dL_law_1255 : decode cL_law 1255 = .ok (.iload 17, 2) := by decide +kernel
theorem dL_law_1257 : decode cL_law 1257 = .ok (.ifCond .ne 7, 3) := by decide +kernel
theorem dL_law_1260 : decode cL_law 1260 = .ok (.iconst (-1), 1) := by decide +kernel
theorem dL_law_1261 : decode cL_law 1261 = .ok (.goto 15, 3) := by decide +kernel
theorem dL_law_1264 : decode cL_law 1264 = .ok (.iload 18, 2) := by decide +kernel
theorem dL_law_1266 : decode cL_law 1266 = .ok (.ifCond .ne 8, 3) := by decide +kernel
theorem dL_law_1269 : decode cL_law 1269 = .ok (.bipush (-3), 2) := by decide +kernel
theorem dL_law_1271 : decode cL_law 1271 = .ok (.goto 5, 3) := by decide +kernel
theorem dL_law_1274 : decode cL_law 1274 = .ok (.iload 19, 2) := by decide +kernel
theorem dL_law_1276 : decode cL_law 1276 = .ok (.if_icmp .eq 5, 3) := by decide +kernel
theorem dL_law_1279 : decode cL_law 1279 = .ok (.iconst 0, 1) := by decide +kernel
theorem dL_law_1280 : decode cL_law 1280 = .ok (.ireturn, 1) := by decide +kernel
theorem dL_law_1281 : decode cL_law 1281 = .ok (.iload 17, 2) := by decide +kernel
theorem dL_law_1283 : decode cL_law 1283 = .ok (.ifCond .le 89, 3) := by decide +kernel
theorem dL_law_1286 : decode cL_law 1286 = .ok (.iload 18, 2) := by decide +kernel
theorem dL_law_1288 : decode cL_law 1288 = .ok (.ifCond .le 84, 3) := by decide +kernel
theorem dL_law_1291 : decode cL_law 1291 = .ok (.aload_n 3, 1) := by decide +kernel
theorem dL_law_1292 : decode cL_law 1292 = .ok (.iload 17, 2) := by decide +kernel
theorem dL_law_1294 : decode cL_law 1294 = .ok (.dup2, 1) := by decide +kernel
theorem dL_law_1295 : decode cL_law 1295 = .ok (.laload, 1) := by decide +kernel
theorem dL_law_1296 : decode cL_law 1296 = .ok (.iload 19, 2) := by decide +kernel
theorem dL_law_1298 : decode cL_law 1298 = .ok (.i2l, 1) := by decide +kernel
theorem dL_law_1299 : decode cL_law 1299 = .ok (.lsub, 1) := by decide +kernel
theorem dL_law_1300 : decode cL_law 1300 = .ok (.lastore, 1) := by decide +kernel
theorem dL_law_1301 : decode cL_law 1301 = .ok (.aload_n 3, 1) := by decide +kernel
theorem dL_law_1302 : decode cL_law 1302 = .ok (.bipush 20, 2) := by decide +kernel
theorem dL_law_1304 : decode cL_law 1304 = .ok (.dup2, 1) := by decide +kernel
theorem dL_law_1305 : decode cL_law 1305 = .ok (.laload, 1) := by decide +kernel
theorem dL_law_1306 : decode cL_law 1306 = .ok (.iload 19, 2) := by decide +kernel
theorem dL_law_1308 : decode cL_law 1308 = .ok (.i2l, 1) := by decide +kernel
theorem dL_law_1309 : decode cL_law 1309 = .ok (.ladd, 1) := by decide +kernel
theorem dL_law_1310 : decode cL_law 1310 = .ok (.lastore, 1) := by decide +kernel
theorem dL_law_1311 : decode cL_law 1311 = .ok (.aload 5, 2) := by decide +kernel
theorem dL_law_1313 : decode cL_law 1313 = .ok (.iconst 3, 1) := by decide +kernel
theorem dL_law_1314 : decode cL_law 1314 = .ok (.iload 16, 2) := by decide +kernel
theorem dL_law_1316 : decode cL_law 1316 = .ok (.imul, 1) := by decide +kernel
theorem dL_law_1317 : decode cL_law 1317 = .ok (.iconst 1, 1) := by decide +kernel
theorem dL_law_1318 : decode cL_law 1318 = .ok (.iadd, 1) := by decide +kernel
theorem dL_law_1319 : decode cL_law 1319 = .ok (.dup2, 1) := by decide +kernel
theorem dL_law_1320 : decode cL_law 1320 = .ok (.iaload, 1) := by decide +kernel
theorem dL_law_1321 : decode cL_law 1321 = .ok (.iload 19, 2) := by decide +kernel
theorem dL_law_1323 : decode cL_law 1323 = .ok (.isub, 1) := by decide +kernel
theorem dL_law_1324 : decode cL_law 1324 = .ok (.iastore, 1) := by decide +kernel
theorem dL_law_1325 : decode cL_law 1325 = .ok (.aload 5, 2) := by decide +kernel
theorem dL_law_1327 : decode cL_law 1327 = .ok (.iconst 3, 1) := by decide +kernel
theorem dL_law_1328 : decode cL_law 1328 = .ok (.iload 16, 2) := by decide +kernel
theorem dL_law_1330 : decode cL_law 1330 = .ok (.imul, 1) := by decide +kernel
theorem dL_law_1331 : decode cL_law 1331 = .ok (.iconst 2, 1) := by decide +kernel
theorem dL_law_1332 : decode cL_law 1332 = .ok (.iadd, 1) := by decide +kernel
theorem dL_law_1333 : decode cL_law 1333 = .ok (.dup2, 1) := by decide +kernel
theorem dL_law_1334 : decode cL_law 1334 = .ok (.iaload, 1) := by decide +kernel
theorem dL_law_1335 : decode cL_law 1335 = .ok (.iload 19, 2) := by decide +kernel
theorem dL_law_1337 : decode cL_law 1337 = .ok (.iadd, 1) := by decide +kernel
theorem dL_law_1338 : decode cL_law 1338 = .ok (.iastore, 1) := by decide +kernel
theorem dL_law_1339 : decode cL_law 1339 = .ok (.aload 5, 2) := by decide +kernel
theorem dL_law_1341 : decode cL_law 1341 = .ok (.iconst 3, 1) := by decide +kernel
theorem dL_law_1342 : decode cL_law 1342 = .ok (.iload 16, 2) := by decide +kernel
theorem dL_law_1344 : decode cL_law 1344 = .ok (.imul, 1) := by decide +kernel
theorem dL_law_1345 : decode cL_law 1345 = .ok (.iconst 1, 1) := by decide +kernel
theorem dL_law_1346 : decode cL_law 1346 = .ok (.iadd, 1) := by decide +kernel
theorem dL_law_1347 : decode cL_law 1347 = .ok (.iaload, 1) := by decide +kernel
theorem dL_law_1348 : decode cL_law 1348 = .ok (.ifCond .ne 11, 3) := by decide +kernel
theorem dL_law_1351 : decode cL_law 1351 = .ok (.aload 5, 2) := by decide +kernel
theorem dL_law_1353 : decode cL_law 1353 = .ok (.iconst 3, 1) := by decide +kernel
theorem dL_law_1354 : decode cL_law 1354 = .ok (.iload 16, 2) := by decide +kernel
theorem dL_law_1356 : decode cL_law 1356 = .ok (.imul, 1) := by decide +kernel
theorem dL_law_1357 : decode cL_law 1357 = .ok (.iconst 0, 1) := by decide +kernel
theorem dL_law_1358 : decode cL_law 1358 = .ok (.iastore, 1) := by decide +kernel
theorem dL_law_1359 : decode cL_law 1359 = .ok (.iconst 4, 1) := by decide +kernel
theorem dL_law_1360 : decode cL_law 1360 = .ok (.iload 17, 2) := by decide +kernel
theorem dL_law_1362 : decode cL_law 1362 = .ok (.iconst 0, 1) := by decide +kernel
theorem dL_law_1363 : decode cL_law 1363 = .ok (.iload 19, 2) := by decide +kernel
theorem dL_law_1365 : decode cL_law 1365 = .ok (.aload_n 3, 1) := by decide +kernel
theorem dL_law_1366 : decode cL_law 1366 = .ok (.aload_n 2, 1) := by decide +kernel
theorem dL_law_1367 : decode cL_law 1367 = .ok (.aload 6, 2) := by decide +kernel
theorem dL_law_1369 : decode cL_law 1369 = .ok (.invokestatic 36, 3) := by decide +kernel
theorem dL_law_1372 : decode cL_law 1372 = .ok (.goto 911, 3) := by decide +kernel
theorem dL_law_1375 : decode cL_law 1375 = .ok (.iload 11, 2) := by decide +kernel
theorem dL_law_1377 : decode cL_law 1377 = .ok (.bipush 15, 2) := by decide +kernel
theorem dL_law_1379 : decode cL_law 1379 = .ok (.if_icmp .ge 243, 3) := by decide +kernel
theorem dL_law_1382 : decode cL_law 1382 = .ok (.iconst 1, 1) := by decide +kernel
theorem dL_law_1383 : decode cL_law 1383 = .ok (.iload 10, 2) := by decide +kernel
theorem dL_law_1385 : decode cL_law 1385 = .ok (.bipush 70, 2) := by decide +kernel
theorem dL_law_1387 : decode cL_law 1387 = .ok (.invokestatic 84, 3) := by decide +kernel
theorem dL_law_1390 : decode cL_law 1390 = .ok (.iadd, 1) := by decide +kernel
theorem dL_law_1391 : decode cL_law 1391 = .ok (.istore 16, 2) := by decide +kernel
theorem dL_law_1393 : decode cL_law 1393 = .ok (.lconst 0, 1) := by decide +kernel
theorem dL_law_1394 : decode cL_law 1394 = .ok (.lstore 17, 2) := by decide +kernel
theorem dL_law_1396 : decode cL_law 1396 = .ok (.iload 14, 2) := by decide +kernel
theorem dL_law_1398 : decode cL_law 1398 = .ok (.ifCond .eq 173, 3) := by decide +kernel
theorem dL_law_1401 : decode cL_law 1401 = .ok (.aload_n 3, 1) := by decide +kernel
theorem dL_law_1402 : decode cL_law 1402 = .ok (.iload 12, 2) := by decide +kernel
theorem dL_law_1404 : decode cL_law 1404 = .ok (.laload, 1) := by decide +kernel
theorem dL_law_1405 : decode cL_law 1405 = .ok (.lstore 19, 2) := by decide +kernel
theorem dL_law_1407 : decode cL_law 1407 = .ok (.aload_n 3, 1) := by decide +kernel
theorem dL_law_1408 : decode cL_law 1408 = .ok (.bipush 10, 2) := by decide +kernel
theorem dL_law_1410 : decode cL_law 1410 = .ok (.iload 12, 2) := by decide +kernel
theorem dL_law_1412 : decode cL_law 1412 = .ok (.iadd, 1) := by decide +kernel
theorem dL_law_1413 : decode cL_law 1413 = .ok (.laload, 1) := by decide +kernel
theorem dL_law_1414 : decode cL_law 1414 = .ok (.lstore 21, 2) := by decide +kernel
theorem dL_law_1416 : decode cL_law 1416 = .ok (.bipush (-6), 2) := by decide +kernel
theorem dL_law_1418 : decode cL_law 1418 = .ok (.istore 23, 2) := by decide +kernel
theorem dL_law_1420 : decode cL_law 1420 = .ok (.iconst 0, 1) := by decide +kernel
theorem dL_law_1421 : decode cL_law 1421 = .ok (.istore 24, 2) := by decide +kernel
theorem dL_law_1423 : decode cL_law 1423 = .ok (.iload 24, 2) := by decide +kernel
theorem dL_law_1425 : decode cL_law 1425 = .ok (.sipush 400, 3) := by decide +kernel
theorem dL_law_1428 : decode cL_law 1428 = .ok (.if_icmp .gt 95, 3) := by decide +kernel
theorem dL_law_1431 : decode cL_law 1431 = .ok (.iload 24, 2) := by decide +kernel
theorem dL_law_1433 : decode cL_law 1433 = .ok (.ifCond .ne 7, 3) := by decide +kernel
theorem dL_law_1436 : decode cL_law 1436 = .ok (.lconst 0, 1) := by decide +kernel
theorem dL_law_1437 : decode cL_law 1437 = .ok (.goto 16, 3) := by decide +kernel
theorem dL_law_1440 : decode cL_law 1440 = .ok (.iload 12, 2) := by decide +kernel
theorem dL_law_1442 : decode cL_law 1442 = .ok (.aload_n 2, 1) := by decide +kernel
theorem dL_law_1443 : decode cL_law 1443 = .ok (.iconst 0, 1) := by decide +kernel
theorem dL_law_1444 : decode cL_law 1444 = .ok (.iaload, 1) := by decide +kernel
theorem dL_law_1445 : decode cL_law 1445 = .ok (.iload 24, 2) := by decide +kernel
theorem dL_law_1447 : decode cL_law 1447 = .ok (.iadd, 1) := by decide +kernel
theorem dL_law_1448 : decode cL_law 1448 = .ok (.aload_n 3, 1) := by decide +kernel
theorem dL_law_1449 : decode cL_law 1449 = .ok (.aload_n 2, 1) := by decide +kernel
theorem dL_law_1450 : decode cL_law 1450 = .ok (.invokestatic 32, 3) := by decide +kernel
theorem dL_law_1453 : decode cL_law 1453 = .ok (.lstore 25, 2) := by decide +kernel
theorem dL_law_1455 : decode cL_law 1455 = .ok (.lload 17, 2) := by decide +kernel
theorem dL_law_1457 : decode cL_law 1457 = .ok (.iload 24, 2) := by decide +kernel
theorem dL_law_1459 : decode cL_law 1459 = .ok (.iload 16, 2) := by decide +kernel
theorem dL_law_1461 : decode cL_law 1461 = .ok (.if_icmp .gt 8, 3) := by decide +kernel
theorem dL_law_1464 : decode cL_law 1464 = .ok (.lload 25, 2) := by decide +kernel
theorem dL_law_1466 : decode cL_law 1466 = .ok (.goto 4, 3) := by decide +kernel
theorem dL_law_1469 : decode cL_law 1469 = .ok (.lconst 0, 1) := by decide +kernel
theorem dL_law_1470 : decode cL_law 1470 = .ok (.ladd, 1) := by decide +kernel
theorem dL_law_1471 : decode cL_law 1471 = .ok (.lstore 17, 2) := by decide +kernel
theorem dL_law_1473 : decode cL_law 1473 = .ok (.iload 23, 2) := by decide +kernel
theorem dL_law_1475 : decode cL_law 1475 = .ok (.ifCond .ge 38, 3) := by decide +kernel
theorem dL_law_1478 : decode cL_law 1478 = .ok (.aload_n 3, 1) := by decide +kernel
theorem dL_law_1479 : decode cL_law 1479 = .ok (.iload 12, 2) := by decide +kernel
theorem dL_law_1481 : decode cL_law 1481 = .ok (.laload, 1) := by decide +kernel
theorem dL_law_1482 : decode cL_law 1482 = .ok (.iload 12, 2) := by decide +kernel
theorem dL_law_1484 : decode cL_law 1484 = .ok (.aload_n 2, 1) := by decide +kernel
theorem dL_law_1485 : decode cL_law 1485 = .ok (.iconst 0, 1) := by decide +kernel
theorem dL_law_1486 : decode cL_law 1486 = .ok (.iaload, 1) := by decide +kernel
theorem dL_law_1487 : decode cL_law 1487 = .ok (.iload 24, 2) := by decide +kernel
theorem dL_law_1489 : decode cL_law 1489 = .ok (.iadd, 1) := by decide +kernel
theorem dL_law_1490 : decode cL_law 1490 = .ok (.aload 4, 2) := by decide +kernel
theorem dL_law_1492 : decode cL_law 1492 = .ok (.invokestatic 10, 3) := by decide +kernel
theorem dL_law_1495 : decode cL_law 1495 = .ok (.i2l, 1) := by decide +kernel
theorem dL_law_1496 : decode cL_law 1496 = .ok (.lsub, 1) := by decide +kernel
theorem dL_law_1497 : decode cL_law 1497 = .ok (.iload 15, 2) := by decide +kernel
theorem dL_law_1499 : decode cL_law 1499 = .ok (.i2l, 1) := by decide +kernel
theorem dL_law_1500 : decode cL_law 1500 = .ok (.lcmp, 1) := by decide +kernel
theorem dL_law_1501 : decode cL_law 1501 = .ok (.ifCond .lt 12, 3) := by decide +kernel
theorem dL_law_1504 : decode cL_law 1504 = .ok (.aload_n 2, 1) := by decide +kernel
theorem dL_law_1505 : decode cL_law 1505 = .ok (.iconst 0, 1) := by decide +kernel
theorem dL_law_1506 : decode cL_law 1506 = .ok (.iaload, 1) := by decide +kernel
theorem dL_law_1507 : decode cL_law 1507 = .ok (.iload 24, 2) := by decide +kernel
theorem dL_law_1509 : decode cL_law 1509 = .ok (.iadd, 1) := by decide +kernel
theorem dL_law_1510 : decode cL_law 1510 = .ok (.goto 5, 3) := by decide +kernel
theorem dL_law_1513 : decode cL_law 1513 = .ok (.iload 23, 2) := by decide +kernel
theorem dL_law_1515 : decode cL_law 1515 = .ok (.istore 23, 2) := by decide +kernel
theorem dL_law_1517 : decode cL_law 1517 = .ok (.iinc 24 1, 3) := by decide +kernel
theorem dL_law_1520 : decode cL_law 1520 = .ok (.goto (-97), 3) := by decide +kernel
theorem dL_law_1523 : decode cL_law 1523 = .ok (.aload_n 3, 1) := by decide +kernel
theorem dL_law_1524 : decode cL_law 1524 = .ok (.iload 12, 2) := by decide +kernel
theorem dL_law_1526 : decode cL_law 1526 = .ok (.lload 19, 2) := by decide +kernel
theorem dL_law_1528 : decode cL_law 1528 = .ok (.lastore, 1) := by decide +kernel
theorem dL_law_1529 : decode cL_law 1529 = .ok (.aload_n 3, 1) := by decide +kernel
theorem dL_law_1530 : decode cL_law 1530 = .ok (.bipush 10, 2) := by decide +kernel
theorem dL_law_1532 : decode cL_law 1532 = .ok (.iload 12, 2) := by decide +kernel
theorem dL_law_1534 : decode cL_law 1534 = .ok (.iadd, 1) := by decide +kernel
theorem dL_law_1535 : decode cL_law 1535 = .ok (.lload 21, 2) := by decide +kernel
theorem dL_law_1537 : decode cL_law 1537 = .ok (.lastore, 1) := by decide +kernel
theorem dL_law_1538 : decode cL_law 1538 = .ok (.aload_n 1, 1) := by decide +kernel
theorem dL_law_1539 : decode cL_law 1539 = .ok (.iload 12, 2) := by decide +kernel
theorem dL_law_1541 : decode cL_law 1541 = .ok (.iload 16, 2) := by decide +kernel
theorem dL_law_1543 : decode cL_law 1543 = .ok (.invokevirtual 126, 3) := by decide +kernel
theorem dL_law_1546 : decode cL_law 1546 = .ok (.i2l, 1) := by decide +kernel
theorem dL_law_1547 : decode cL_law 1547 = .ok (.lload 17, 2) := by decide +kernel
theorem dL_law_1549 : decode cL_law 1549 = .ok (.lcmp, 1) := by decide +kernel
theorem dL_law_1550 : decode cL_law 1550 = .ok (.ifCond .ne 16, 3) := by decide +kernel
theorem dL_law_1553 : decode cL_law 1553 = .ok (.aload_n 1, 1) := by decide +kernel
theorem dL_law_1554 : decode cL_law 1554 = .ok (.iload 12, 2) := by decide +kernel
theorem dL_law_1556 : decode cL_law 1556 = .ok (.iload 15, 2) := by decide +kernel
theorem dL_law_1558 : decode cL_law 1558 = .ok (.invokevirtual 129, 3) := by decide +kernel
theorem dL_law_1561 : decode cL_law 1561 = .ok (.iload 23, 2) := by decide +kernel
theorem dL_law_1563 : decode cL_law 1563 = .ok (.if_icmp .eq 5, 3) := by decide +kernel
theorem dL_law_1566 : decode cL_law 1566 = .ok (.iconst 0, 1) := by decide +kernel
theorem dL_law_1567 : decode cL_law 1567 = .ok (.ireturn, 1) := by decide +kernel
theorem dL_law_1568 : decode cL_law 1568 = .ok (.goto 28, 3) := by decide +kernel
theorem dL_law_1571 : decode cL_law 1571 = .ok (.aload_n 1, 1) := by decide +kernel
theorem dL_law_1572 : decode cL_law 1572 = .ok (.iload 12, 2) := by decide +kernel
theorem dL_law_1574 : decode cL_law 1574 = .ok (.iload 16, 2) := by decide +kernel
theorem dL_law_1576 : decode cL_law 1576 = .ok (.invokevirtual 126, 3) := by decide +kernel
theorem dL_law_1579 : decode cL_law 1579 = .ok (.iconst (-1), 1) := by decide +kernel
theorem dL_law_1580 : decode cL_law 1580 = .ok (.if_icmp .ne 14, 3) := by decide +kernel
theorem dL_law_1583 : decode cL_law 1583 = .ok (.aload_n 1, 1) := by decide +kernel
theorem dL_law_1584 : decode cL_law 1584 = .ok (.iload 12, 2) := by decide +kernel
theorem dL_law_1586 : decode cL_law 1586 = .ok (.iconst 1, 1) := by decide +kernel
theorem dL_law_1587 : decode cL_law 1587 = .ok (.invokevirtual 129, 3) := by decide +kernel
theorem dL_law_1590 : decode cL_law 1590 = .ok (.iconst (-1), 1) := by decide +kernel
theorem dL_law_1591 : decode cL_law 1591 = .ok (.if_icmp .eq 5, 3) := by decide +kernel
theorem dL_law_1594 : decode cL_law 1594 = .ok (.iconst 0, 1) := by decide +kernel
theorem dL_law_1595 : decode cL_law 1595 = .ok (.ireturn, 1) := by decide +kernel
theorem dL_law_1596 : decode cL_law 1596 = .ok (.aload_n 1, 1) := by decide +kernel
theorem dL_law_1597 : decode cL_law 1597 = .ok (.iload 16, 2) := by decide +kernel
theorem dL_law_1599 : decode cL_law 1599 = .ok (.invokevirtual 132, 3) := by decide +kernel
theorem dL_law_1602 : decode cL_law 1602 = .ok (.iload 16, 2) := by decide +kernel
theorem dL_law_1604 : decode cL_law 1604 = .ok (.aload_n 3, 1) := by decide +kernel
theorem dL_law_1605 : decode cL_law 1605 = .ok (.aload_n 2, 1) := by decide +kernel
theorem dL_law_1606 : decode cL_law 1606 = .ok (.aload 4, 2) := by decide +kernel
theorem dL_law_1608 : decode cL_law 1608 = .ok (.aload 6, 2) := by decide +kernel
theorem dL_law_1610 : decode cL_law 1610 = .ok (.invokestatic 135, 3) := by decide +kernel
theorem dL_law_1613 : decode cL_law 1613 = .ok (.lcmp, 1) := by decide +kernel
theorem dL_law_1614 : decode cL_law 1614 = .ok (.ifCond .eq 5, 3) := by decide +kernel
theorem dL_law_1617 : decode cL_law 1617 = .ok (.iconst 0, 1) := by decide +kernel
theorem dL_law_1618 : decode cL_law 1618 = .ok (.ireturn, 1) := by decide +kernel
theorem dL_law_1619 : decode cL_law 1619 = .ok (.goto 664, 3) := by decide +kernel
theorem dL_law_1622 : decode cL_law 1622 = .ok (.iload 11, 2) := by decide +kernel
theorem dL_law_1624 : decode cL_law 1624 = .ok (.bipush 15, 2) := by decide +kernel
theorem dL_law_1626 : decode cL_law 1626 = .ok (.if_icmp .ne 139, 3) := by decide +kernel
theorem dL_law_1629 : decode cL_law 1629 = .ok (.iload 9, 2) := by decide +kernel
theorem dL_law_1631 : decode cL_law 1631 = .ok (.bipush 6, 2) := by decide +kernel
theorem dL_law_1633 : decode cL_law 1633 = .ok (.ishr, 1) := by decide +kernel
theorem dL_law_1634 : decode cL_law 1634 = .ok (.iconst 2, 1) := by decide +kernel
theorem dL_law_1635 : decode cL_law 1635 = .ok (.invokestatic 84, 3) := by decide +kernel
theorem dL_law_1638 : decode cL_law 1638 = .ok (.ifCond .ne 13, 3) := by decide +kernel
theorem dL_law_1641 : decode cL_law 1641 = .ok (.iload 10, 2) := by decide +kernel
theorem dL_law_1643 : decode cL_law 1643 = .ok (.ldc 138, 2) := by decide +kernel
theorem dL_law_1645 : decode cL_law 1645 = .ok (.invokestatic 84, 3) := by decide +kernel
theorem dL_law_1648 : decode cL_law 1648 = .ok (.goto 10, 3) := by decide +kernel
theorem dL_law_1651 : decode cL_law 1651 = .ok (.iload 10, 2) := by decide +kernel
theorem dL_law_1653 : decode cL_law 1653 = .ok (.ldc 139, 2) := by decide +kernel
theorem dL_law_1655 : decode cL_law 1655 = .ok (.invokestatic 84, 3) := by decide +kernel
theorem dL_law_1658 : decode cL_law 1658 = .ok (.istore 16, 2) := by decide +kernel
theorem dL_law_1660 : decode cL_law 1660 = .ok (.aload_n 1, 1) := by decide +kernel
theorem dL_law_1661 : decode cL_law 1661 = .ok (.iload 16, 2) := by decide +kernel
theorem dL_law_1663 : decode cL_law 1663 = .ok (.iload 10, 2) := by decide +kernel
theorem dL_law_1665 : decode cL_law 1665 = .ok (.iconst 4, 1) := by decide +kernel
theorem dL_law_1666 : decode cL_law 1666 = .ok (.ishr, 1) := by decide +kernel
theorem dL_law_1667 : decode cL_law 1667 = .ok (.sipush 2001, 3) := by decide +kernel
theorem dL_law_1670 : decode cL_law 1670 = .ok (.invokestatic 84, 3) := by decide +kernel
theorem dL_law_1673 : decode cL_law 1673 = .ok (.iload 9, 2) := by decide +kernel
theorem dL_law_1675 : decode cL_law 1675 = .ok (.bipush 8, 2) := by decide +kernel
theorem dL_law_1677 : decode cL_law 1677 = .ok (.ishr, 1) := by decide +kernel
theorem dL_law_1678 : decode cL_law 1678 = .ok (.sipush 2001, 3) := by decide +kernel
theorem dL_law_1681 : decode cL_law 1681 = .ok (.invokestatic 84, 3) := by decide +kernel
theorem dL_law_1684 : decode cL_law 1684 = .ok (.invokevirtual 140, 3) := by decide +kernel
theorem dL_law_1687 : decode cL_law 1687 = .ok (.aload_n 2, 1) := by decide +kernel
theorem dL_law_1688 : decode cL_law 1688 = .ok (.iconst 1, 1) := by decide +kernel
theorem dL_law_1689 : decode cL_law 1689 = .ok (.iaload, 1) := by decide +kernel
theorem dL_law_1690 : decode cL_law 1690 = .ok (.if_icmp .ne 24, 3) := by decide +kernel
theorem dL_law_1693 : decode cL_law 1693 = .ok (.aload_n 1, 1) := by decide +kernel
theorem dL_law_1694 : decode cL_law 1694 = .ok (.iload 10, 2) := by decide +kernel
theorem dL_law_1696 : decode cL_law 1696 = .ok (.bipush 9, 2) := by decide +kernel
theorem dL_law_1698 : decode cL_law 1698 = .ok (.ishr, 1) := by decide +kernel
theorem dL_law_1699 : decode cL_law 1699 = .ok (.sipush 200, 3) := by decide +kernel
theorem dL_law_1702 : decode cL_law 1702 = .ok (.invokestatic 84, 3) := by decide +kernel
theorem dL_law_1705 : decode cL_law 1705 = .ok (.invokevirtual 143, 3) := by decide +kernel
theorem dL_law_1708 : decode cL_law 1708 = .ok (.aload_n 2, 1) := by decide +kernel
theorem dL_law_1709 : decode cL_law 1709 = .ok (.iconst 4, 1) := by decide +kernel
theorem dL_law_1710 : decode cL_law 1710 = .ok (.iaload, 1) := by decide +kernel
theorem dL_law_1711 : decode cL_law 1711 = .ok (.if_icmp .eq 5, 3) := by decide +kernel
theorem dL_law_1714 : decode cL_law 1714 = .ok (.iconst 0, 1) := by decide +kernel
theorem dL_law_1715 : decode cL_law 1715 = .ok (.ireturn, 1) := by decide +kernel
theorem dL_law_1716 : decode cL_law 1716 = .ok (.aload_n 2, 1) := by decide +kernel
theorem dL_law_1717 : decode cL_law 1717 = .ok (.iconst 1, 1) := by decide +kernel
theorem dL_law_1718 : decode cL_law 1718 = .ok (.iload 16, 2) := by decide +kernel
theorem dL_law_1720 : decode cL_law 1720 = .ok (.iastore, 1) := by decide +kernel
theorem dL_law_1721 : decode cL_law 1721 = .ok (.aload_n 2, 1) := by decide +kernel
theorem dL_law_1722 : decode cL_law 1722 = .ok (.iconst 2, 1) := by decide +kernel
theorem dL_law_1723 : decode cL_law 1723 = .ok (.iload 10, 2) := by decide +kernel
theorem dL_law_1725 : decode cL_law 1725 = .ok (.iconst 4, 1) := by decide +kernel
theorem dL_law_1726 : decode cL_law 1726 = .ok (.ishr, 1) := by decide +kernel
theorem dL_law_1727 : decode cL_law 1727 = .ok (.sipush 2001, 3) := by decide +kernel
theorem dL_law_1730 : decode cL_law 1730 = .ok (.invokestatic 84, 3) := by decide +kernel
theorem dL_law_1733 : decode cL_law 1733 = .ok (.iastore, 1) := by decide +kernel
theorem dL_law_1734 : decode cL_law 1734 = .ok (.aload_n 2, 1) := by decide +kernel
theorem dL_law_1735 : decode cL_law 1735 = .ok (.iconst 3, 1) := by decide +kernel
theorem dL_law_1736 : decode cL_law 1736 = .ok (.iload 9, 2) := by decide +kernel
theorem dL_law_1738 : decode cL_law 1738 = .ok (.bipush 8, 2) := by decide +kernel
theorem dL_law_1740 : decode cL_law 1740 = .ok (.ishr, 1) := by decide +kernel
theorem dL_law_1741 : decode cL_law 1741 = .ok (.sipush 2001, 3) := by decide +kernel
theorem dL_law_1744 : decode cL_law 1744 = .ok (.invokestatic 84, 3) := by decide +kernel
theorem dL_law_1747 : decode cL_law 1747 = .ok (.iastore, 1) := by decide +kernel
theorem dL_law_1748 : decode cL_law 1748 = .ok (.aload_n 2, 1) := by decide +kernel
theorem dL_law_1749 : decode cL_law 1749 = .ok (.iconst 4, 1) := by decide +kernel
theorem dL_law_1750 : decode cL_law 1750 = .ok (.iload 10, 2) := by decide +kernel
theorem dL_law_1752 : decode cL_law 1752 = .ok (.bipush 9, 2) := by decide +kernel
theorem dL_law_1754 : decode cL_law 1754 = .ok (.ishr, 1) := by decide +kernel
theorem dL_law_1755 : decode cL_law 1755 = .ok (.sipush 200, 3) := by decide +kernel
theorem dL_law_1758 : decode cL_law 1758 = .ok (.invokestatic 84, 3) := by decide +kernel
theorem dL_law_1761 : decode cL_law 1761 = .ok (.iastore, 1) := by decide +kernel
theorem dL_law_1762 : decode cL_law 1762 = .ok (.goto 521, 3) := by decide +kernel
theorem dL_law_1765 : decode cL_law 1765 = .ok (.iload 11, 2) := by decide +kernel
theorem dL_law_1767 : decode cL_law 1767 = .ok (.bipush 16, 2) := by decide +kernel
theorem dL_law_1769 : decode cL_law 1769 = .ok (.if_icmp .ne 398, 3) := by decide +kernel
theorem dL_law_1772 : decode cL_law 1772 = .ok (.aload_n 2, 1) := by decide +kernel
theorem dL_law_1773 : decode cL_law 1773 = .ok (.iconst 5, 1) := by decide +kernel
theorem dL_law_1774 : decode cL_law 1774 = .ok (.iaload, 1) := by decide +kernel
theorem dL_law_1775 : decode cL_law 1775 = .ok (.ifCond .eq 529, 3) := by decide +kernel
theorem dL_law_1778 : decode cL_law 1778 = .ok (.iload 7, 2) := by decide +kernel
theorem dL_law_1780 : decode cL_law 1780 = .ok (.aload_n 2, 1) := by decide +kernel
theorem dL_law_1781 : decode cL_law 1781 = .ok (.iconst 5, 1) := by decide +kernel
theorem dL_law_1782 : decode cL_law 1782 = .ok (.iaload, 1) := by decide +kernel
theorem dL_law_1783 : decode cL_law 1783 = .ok (.if_icmp .ne 6, 3) := by decide +kernel
theorem dL_law_1786 : decode cL_law 1786 = .ok (.goto 518, 3) := by decide +kernel
theorem dL_law_1789 : decode cL_law 1789 = .ok (.bipush 6, 2) := by decide +kernel
theorem dL_law_1791 : decode cL_law 1791 = .ok (.aload_n 2, 1) := by decide +kernel
theorem dL_law_1792 : decode cL_law 1792 = .ok (.iconst 5, 1) := by decide +kernel
theorem dL_law_1793 : decode cL_law 1793 = .ok (.iaload, 1) := by decide +kernel
theorem dL_law_1794 : decode cL_law 1794 = .ok (.bipush 10, 2) := by decide +kernel
theorem dL_law_1796 : decode cL_law 1796 = .ok (.irem, 1) := by decide +kernel
theorem dL_law_1797 : decode cL_law 1797 = .ok (.imul, 1) := by decide +kernel
theorem dL_law_1798 : decode cL_law 1798 = .ok (.istore 16, 2) := by decide +kernel
theorem dL_law_1800 : decode cL_law 1800 = .ok (.aload 6, 2) := by decide +kernel
theorem dL_law_1802 : decode cL_law 1802 = .ok (.iload 16, 2) := by decide +kernel
theorem dL_law_1804 : decode cL_law 1804 = .ok (.iconst 1, 1) := by decide +kernel
theorem dL_law_1805 : decode cL_law 1805 = .ok (.iadd, 1) := by decide +kernel
theorem dL_law_1806 : decode cL_law 1806 = .ok (.iaload, 1) := by decide +kernel
theorem dL_law_1807 : decode cL_law 1807 = .ok (.iconst 1, 1) := by decide +kernel
theorem dL_law_1808 : decode cL_law 1808 = .ok (.if_icmp .ne 13, 3) := by decide +kernel
theorem dL_law_1811 : decode cL_law 1811 = .ok (.aload 6, 2) := by decide +kernel
theorem dL_law_1813 : decode cL_law 1813 = .ok (.iload 16, 2) := by decide +kernel
theorem dL_law_1815 : decode cL_law 1815 = .ok (.iconst 2, 1) := by decide +kernel
theorem dL_law_1816 : decode cL_law 1816 = .ok (.iadd, 1) := by decide +kernel
theorem dL_law_1817 : decode cL_law 1817 = .ok (.iaload, 1) := by decide +kernel
theorem dL_law_1818 : decode cL_law 1818 = .ok (.goto 25, 3) := by decide +kernel
theorem dL_law_1821 : decode cL_law 1821 = .ok (.aload 6, 2) := by decide +kernel
theorem dL_law_1823 : decode cL_law 1823 = .ok (.iload 16, 2) := by decide +kernel
theorem dL_law_1825 : decode cL_law 1825 = .ok (.iconst 1, 1) := by decide +kernel
theorem dL_law_1826 : decode cL_law 1826 = .ok (.iadd, 1) := by decide +kernel
theorem dL_law_1827 : decode cL_law 1827 = .ok (.iaload, 1) := by decide +kernel
theorem dL_law_1828 : decode cL_law 1828 = .ok (.iconst 3, 1) := by decide +kernel
theorem dL_law_1829 : decode cL_law 1829 = .ok (.if_icmp .ne 13, 3) := by decide +kernel
theorem dL_law_1832 : decode cL_law 1832 = .ok (.aload 6, 2) := by decide +kernel
theorem dL_law_1834 : decode cL_law 1834 = .ok (.iload 16, 2) := by decide +kernel
theorem dL_law_1836 : decode cL_law 1836 = .ok (.iconst 3, 1) := by decide +kernel
theorem dL_law_1837 : decode cL_law 1837 = .ok (.iadd, 1) := by decide +kernel
theorem dL_law_1838 : decode cL_law 1838 = .ok (.iaload, 1) := by decide +kernel
theorem dL_law_1839 : decode cL_law 1839 = .ok (.goto 4, 3) := by decide +kernel
