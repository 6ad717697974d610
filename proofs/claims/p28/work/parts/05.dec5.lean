theorem dL_areNotes_222 : decode cL_areNotes 222 = .ok (.imul, 1) := by decide +kernel
theorem dL_areNotes_223 : decode cL_areNotes 223 = .ok (.iconst 3, 1) := by decide +kernel
theorem dL_areNotes_224 : decode cL_areNotes 224 = .ok (.iadd, 1) := by decide +kernel
theorem dL_areNotes_225 : decode cL_areNotes 225 = .ok (.iaload, 1) := by decide +kernel
theorem dL_areNotes_226 : decode cL_areNotes 226 = .ok (.goto 4, 3) := by decide +kernel
theorem dL_areNotes_229 : decode cL_areNotes 229 = .ok (.iconst 0, 1) := by decide +kernel
theorem dL_areNotes_230 : decode cL_areNotes 230 = .ok (.iadd, 1) := by decide +kernel
theorem dL_areNotes_231 : decode cL_areNotes 231 = .ok (.istore 7, 2) := by decide +kernel
theorem dL_areNotes_233 : decode cL_areNotes 233 = .ok (.iload 8, 2) := by decide +kernel
theorem dL_areNotes_235 : decode cL_areNotes 235 = .ok (.iload 11, 2) := by decide +kernel
theorem dL_areNotes_237 : decode cL_areNotes 237 = .ok (.ifCond .eq 7, 3) := by decide +kernel
theorem dL_areNotes_240 : decode cL_areNotes 240 = .ok (.iconst 1, 1) := by decide +kernel
theorem dL_areNotes_241 : decode cL_areNotes 241 = .ok (.goto 4, 3) := by decide +kernel
theorem dL_areNotes_244 : decode cL_areNotes 244 = .ok (.iconst 0, 1) := by decide +kernel
theorem dL_areNotes_245 : decode cL_areNotes 245 = .ok (.iadd, 1) := by decide +kernel
theorem dL_areNotes_246 : decode cL_areNotes 246 = .ok (.istore 8, 2) := by decide +kernel
theorem dL_areNotes_248 : decode cL_areNotes 248 = .ok (.iload 9, 2) := by decide +kernel
theorem dL_areNotes_250 : decode cL_areNotes 250 = .ok (.iload 11, 2) := by decide +kernel
theorem dL_areNotes_252 : decode cL_areNotes 252 = .ok (.ifCond .eq 17, 3) := by decide +kernel
theorem dL_areNotes_255 : decode cL_areNotes 255 = .ok (.iconst 1, 1) := by decide +kernel
theorem dL_areNotes_256 : decode cL_areNotes 256 = .ok (.aload_n 3, 1) := by decide +kernel
theorem dL_areNotes_257 : decode cL_areNotes 257 = .ok (.bipush 6, 2) := by decide +kernel
theorem dL_areNotes_259 : decode cL_areNotes 259 = .ok (.iload 10, 2) := by decide +kernel
theorem dL_areNotes_261 : decode cL_areNotes 261 = .ok (.imul, 1) := by decide +kernel
theorem dL_areNotes_262 : decode cL_areNotes 262 = .ok (.iconst 1, 1) := by decide +kernel
theorem dL_areNotes_263 : decode cL_areNotes 263 = .ok (.iadd, 1) := by decide +kernel
theorem dL_areNotes_264 : decode cL_areNotes 264 = .ok (.iaload, 1) := by decide +kernel
theorem dL_areNotes_265 : decode cL_areNotes 265 = .ok (.ishl, 1) := by decide +kernel
theorem dL_areNotes_266 : decode cL_areNotes 266 = .ok (.goto 4, 3) := by decide +kernel
theorem dL_areNotes_269 : decode cL_areNotes 269 = .ok (.iconst 0, 1) := by decide +kernel
theorem dL_areNotes_270 : decode cL_areNotes 270 = .ok (.ior, 1) := by decide +kernel
theorem dL_areNotes_271 : decode cL_areNotes 271 = .ok (.istore 9, 2) := by decide +kernel
theorem dL_areNotes_273 : decode cL_areNotes 273 = .ok (.iinc 10 1, 3) := by decide +kernel
theorem dL_areNotes_276 : decode cL_areNotes 276 = .ok (.goto (-105), 3) := by decide +kernel
theorem dL_areNotes_279 : decode cL_areNotes 279 = .ok (.aload_n 0, 1) := by decide +kernel
theorem dL_areNotes_280 : decode cL_areNotes 280 = .ok (.iload 6, 2) := by decide +kernel
theorem dL_areNotes_282 : decode cL_areNotes 282 = .ok (.iconst 0, 1) := by decide +kernel
theorem dL_areNotes_283 : decode cL_areNotes 283 = .ok (.invokevirtual 32, 3) := by decide +kernel
theorem dL_areNotes_286 : decode cL_areNotes 286 = .ok (.aload_n 2, 1) := by decide +kernel
theorem dL_areNotes_287 : decode cL_areNotes 287 = .ok (.iconst 3, 1) := by decide +kernel
theorem dL_areNotes_288 : decode cL_areNotes 288 = .ok (.iload 6, 2) := by decide +kernel
theorem dL_areNotes_290 : decode cL_areNotes 290 = .ok (.imul, 1) := by decide +kernel
theorem dL_areNotes_291 : decode cL_areNotes 291 = .ok (.iaload, 1) := by decide +kernel
theorem dL_areNotes_292 : decode cL_areNotes 292 = .ok (.if_icmp .ne 75, 3) := by decide +kernel
theorem dL_areNotes_295 : decode cL_areNotes 295 = .ok (.aload_n 0, 1) := by decide +kernel
theorem dL_areNotes_296 : decode cL_areNotes 296 = .ok (.iload 6, 2) := by decide +kernel
theorem dL_areNotes_298 : decode cL_areNotes 298 = .ok (.iconst 1, 1) := by decide +kernel
theorem dL_areNotes_299 : decode cL_areNotes 299 = .ok (.invokevirtual 32, 3) := by decide +kernel
theorem dL_areNotes_302 : decode cL_areNotes 302 = .ok (.iload 7, 2) := by decide +kernel
theorem dL_areNotes_304 : decode cL_areNotes 304 = .ok (.if_icmp .ne 63, 3) := by decide +kernel
theorem dL_areNotes_307 : decode cL_areNotes 307 = .ok (.aload_n 0, 1) := by decide +kernel
theorem dL_areNotes_308 : decode cL_areNotes 308 = .ok (.iload 6, 2) := by decide +kernel
theorem dL_areNotes_310 : decode cL_areNotes 310 = .ok (.iconst 2, 1) := by decide +kernel
theorem dL_areNotes_311 : decode cL_areNotes 311 = .ok (.invokevirtual 32, 3) := by decide +kernel
theorem dL_areNotes_314 : decode cL_areNotes 314 = .ok (.iload 8, 2) := by decide +kernel
theorem dL_areNotes_316 : decode cL_areNotes 316 = .ok (.if_icmp .ne 51, 3) := by decide +kernel
theorem dL_areNotes_319 : decode cL_areNotes 319 = .ok (.aload_n 0, 1) := by decide +kernel
theorem dL_areNotes_320 : decode cL_areNotes 320 = .ok (.iload 6, 2) := by decide +kernel
theorem dL_areNotes_322 : decode cL_areNotes 322 = .ok (.iconst 3, 1) := by decide +kernel
theorem dL_areNotes_323 : decode cL_areNotes 323 = .ok (.invokevirtual 32, 3) := by decide +kernel
theorem dL_areNotes_326 : decode cL_areNotes 326 = .ok (.iload 9, 2) := by decide +kernel
theorem dL_areNotes_328 : decode cL_areNotes 328 = .ok (.if_icmp .ne 39, 3) := by decide +kernel
theorem dL_areNotes_331 : decode cL_areNotes 331 = .ok (.aload_n 0, 1) := by decide +kernel
theorem dL_areNotes_332 : decode cL_areNotes 332 = .ok (.iload 6, 2) := by decide +kernel
theorem dL_areNotes_334 : decode cL_areNotes 334 = .ok (.iconst 4, 1) := by decide +kernel
theorem dL_areNotes_335 : decode cL_areNotes 335 = .ok (.invokevirtual 32, 3) := by decide +kernel
theorem dL_areNotes_338 : decode cL_areNotes 338 = .ok (.aload_n 2, 1) := by decide +kernel
theorem dL_areNotes_339 : decode cL_areNotes 339 = .ok (.iconst 3, 1) := by decide +kernel
theorem dL_areNotes_340 : decode cL_areNotes 340 = .ok (.iload 6, 2) := by decide +kernel
theorem dL_areNotes_342 : decode cL_areNotes 342 = .ok (.imul, 1) := by decide +kernel
theorem dL_areNotes_343 : decode cL_areNotes 343 = .ok (.iconst 1, 1) := by decide +kernel
theorem dL_areNotes_344 : decode cL_areNotes 344 = .ok (.iadd, 1) := by decide +kernel
theorem dL_areNotes_345 : decode cL_areNotes 345 = .ok (.iaload, 1) := by decide +kernel
theorem dL_areNotes_346 : decode cL_areNotes 346 = .ok (.if_icmp .ne 21, 3) := by decide +kernel
theorem dL_areNotes_349 : decode cL_areNotes 349 = .ok (.aload_n 0, 1) := by decide +kernel
theorem dL_areNotes_350 : decode cL_areNotes 350 = .ok (.iload 6, 2) := by decide +kernel
theorem dL_areNotes_352 : decode cL_areNotes 352 = .ok (.iconst 5, 1) := by decide +kernel
theorem dL_areNotes_353 : decode cL_areNotes 353 = .ok (.invokevirtual 32, 3) := by decide +kernel
theorem dL_areNotes_356 : decode cL_areNotes 356 = .ok (.aload_n 2, 1) := by decide +kernel
theorem dL_areNotes_357 : decode cL_areNotes 357 = .ok (.iconst 3, 1) := by decide +kernel
theorem dL_areNotes_358 : decode cL_areNotes 358 = .ok (.iload 6, 2) := by decide +kernel
theorem dL_areNotes_360 : decode cL_areNotes 360 = .ok (.imul, 1) := by decide +kernel
theorem dL_areNotes_361 : decode cL_areNotes 361 = .ok (.iconst 2, 1) := by decide +kernel
theorem dL_areNotes_362 : decode cL_areNotes 362 = .ok (.iadd, 1) := by decide +kernel
theorem dL_areNotes_363 : decode cL_areNotes 363 = .ok (.iaload, 1) := by decide +kernel
theorem dL_areNotes_364 : decode cL_areNotes 364 = .ok (.if_icmp .eq 5, 3) := by decide +kernel
theorem dL_areNotes_367 : decode cL_areNotes 367 = .ok (.iconst 0, 1) := by decide +kernel
theorem dL_areNotes_368 : decode cL_areNotes 368 = .ok (.ireturn, 1) := by decide +kernel
theorem dL_areNotes_369 : decode cL_areNotes 369 = .ok (.iinc 6 1, 3) := by decide +kernel
theorem dL_areNotes_372 : decode cL_areNotes 372 = .ok (.goto (-219), 3) := by decide +kernel
theorem dL_areNotes_375 : decode cL_areNotes 375 = .ok (.iconst 0, 1) := by decide +kernel
theorem dL_areNotes_376 : decode cL_areNotes 376 = .ok (.istore 6, 2) := by decide +kernel
theorem dL_areNotes_378 : decode cL_areNotes 378 = .ok (.iload 6, 2) := by decide +kernel
theorem dL_areNotes_380 : decode cL_areNotes 380 = .ok (.iconst 4, 1) := by decide +kernel
theorem dL_areNotes_381 : decode cL_areNotes 381 = .ok (.if_icmp .ge 42, 3) := by decide +kernel
theorem dL_areNotes_384 : decode cL_areNotes 384 = .ok (.aload_n 0, 1) := by decide +kernel
theorem dL_areNotes_385 : decode cL_areNotes 385 = .ok (.iload 6, 2) := by decide +kernel
theorem dL_areNotes_387 : decode cL_areNotes 387 = .ok (.iconst 0, 1) := by decide +kernel
theorem dL_areNotes_388 : decode cL_areNotes 388 = .ok (.invokevirtual 35, 3) := by decide +kernel
theorem dL_areNotes_391 : decode cL_areNotes 391 = .ok (.iload 6, 2) := by decide +kernel
theorem dL_areNotes_393 : decode cL_areNotes 393 = .ok (.invokestatic 38, 3) := by decide +kernel
theorem dL_areNotes_396 : decode cL_areNotes 396 = .ok (.if_icmp .ne 19, 3) := by decide +kernel
theorem dL_areNotes_399 : decode cL_areNotes 399 = .ok (.aload_n 0, 1) := by decide +kernel
theorem dL_areNotes_400 : decode cL_areNotes 400 = .ok (.iload 6, 2) := by decide +kernel
theorem dL_areNotes_402 : decode cL_areNotes 402 = .ok (.iconst 1, 1) := by decide +kernel
theorem dL_areNotes_403 : decode cL_areNotes 403 = .ok (.invokevirtual 35, 3) := by decide +kernel
theorem dL_areNotes_406 : decode cL_areNotes 406 = .ok (.aload_n 1, 1) := by decide +kernel
theorem dL_areNotes_407 : decode cL_areNotes 407 = .ok (.iconst 5, 1) := by decide +kernel
theorem dL_areNotes_408 : decode cL_areNotes 408 = .ok (.iload 6, 2) := by decide +kernel
theorem dL_areNotes_410 : decode cL_areNotes 410 = .ok (.iadd, 1) := by decide +kernel
theorem dL_areNotes_411 : decode cL_areNotes 411 = .ok (.iaload, 1) := by decide +kernel
theorem dL_areNotes_412 : decode cL_areNotes 412 = .ok (.if_icmp .eq 5, 3) := by decide +kernel
theorem dL_areNotes_415 : decode cL_areNotes 415 = .ok (.iconst 0, 1) := by decide +kernel
theorem dL_areNotes_416 : decode cL_areNotes 416 = .ok (.ireturn, 1) := by decide +kernel
theorem dL_areNotes_417 : decode cL_areNotes 417 = .ok (.iinc 6 1, 3) := by decide +kernel
theorem dL_areNotes_420 : decode cL_areNotes 420 = .ok (.goto (-42), 3) := by decide +kernel
theorem dL_areNotes_423 : decode cL_areNotes 423 = .ok (.aload_n 0, 1) := by decide +kernel
theorem dL_areNotes_424 : decode cL_areNotes 424 = .ok (.bipush 13, 2) := by decide +kernel
theorem dL_areNotes_426 : decode cL_areNotes 426 = .ok (.invokevirtual 25, 3) := by decide +kernel
theorem dL_areNotes_429 : decode cL_areNotes 429 = .ok (.iload 5, 2) := by decide +kernel
theorem dL_areNotes_431 : decode cL_areNotes 431 = .ok (.if_icmp .ne 39, 3) := by decide +kernel
theorem dL_areNotes_434 : decode cL_areNotes 434 = .ok (.aload_n 0, 1) := by decide +kernel
theorem dL_areNotes_435 : decode cL_areNotes 435 = .ok (.aload_n 1, 1) := by decide +kernel
theorem dL_areNotes_436 : decode cL_areNotes 436 = .ok (.iconst 2, 1) := by decide +kernel
theorem dL_areNotes_437 : decode cL_areNotes 437 = .ok (.iaload, 1) := by decide +kernel
theorem dL_areNotes_438 : decode cL_areNotes 438 = .ok (.iconst 0, 1) := by decide +kernel
theorem dL_areNotes_439 : decode cL_areNotes 439 = .ok (.invokevirtual 29, 3) := by decide +kernel
theorem dL_areNotes_442 : decode cL_areNotes 442 = .ok (.iconst (-1), 1) := by decide +kernel
theorem dL_areNotes_443 : decode cL_areNotes 443 = .ok (.if_icmp .ne 27, 3) := by decide +kernel
theorem dL_areNotes_446 : decode cL_areNotes 446 = .ok (.aload_n 0, 1) := by decide +kernel
theorem dL_areNotes_447 : decode cL_areNotes 447 = .ok (.iconst 3, 1) := by decide +kernel
theorem dL_areNotes_448 : decode cL_areNotes 448 = .ok (.iconst 0, 1) := by decide +kernel
theorem dL_areNotes_449 : decode cL_areNotes 449 = .ok (.invokevirtual 32, 3) := by decide +kernel
theorem dL_areNotes_452 : decode cL_areNotes 452 = .ok (.iconst (-1), 1) := by decide +kernel
theorem dL_areNotes_453 : decode cL_areNotes 453 = .ok (.if_icmp .ne 17, 3) := by decide +kernel
theorem dL_areNotes_456 : decode cL_areNotes 456 = .ok (.aload_n 0, 1) := by decide +kernel
theorem dL_areNotes_457 : decode cL_areNotes 457 = .ok (.iconst 4, 1) := by decide +kernel
theorem dL_areNotes_458 : decode cL_areNotes 458 = .ok (.iconst 0, 1) := by decide +kernel
theorem dL_areNotes_459 : decode cL_areNotes 459 = .ok (.invokevirtual 35, 3) := by decide +kernel
theorem dL_areNotes_462 : decode cL_areNotes 462 = .ok (.iconst (-1), 1) := by decide +kernel
theorem dL_areNotes_463 : decode cL_areNotes 463 = .ok (.if_icmp .ne 7, 3) := by decide +kernel
theorem dL_areNotes_466 : decode cL_areNotes 466 = .ok (.iconst 1, 1) := by decide +kernel
theorem dL_areNotes_467 : decode cL_areNotes 467 = .ok (.goto 4, 3) := by decide +kernel
theorem dL_areNotes_470 : decode cL_areNotes 470 = .ok (.iconst 0, 1) := by decide +kernel
theorem dL_areNotes_471 : decode cL_areNotes 471 = .ok (.ireturn, 1) := by decide +kernel
theorem dL_isFunded_0 : decode cL_isFunded 0 = .ok (.iload 6, 2) := by decide +kernel
theorem dL_isFunded_2 : decode cL_isFunded 2 = .ok (.aload_n 1, 1) := by decide +kernel
theorem dL_isFunded_3 : decode cL_isFunded 3 = .ok (.iconst 1, 1) := by decide +kernel
theorem dL_isFunded_4 : decode cL_isFunded 4 = .ok (.iaload, 1) := by decide +kernel
theorem dL_isFunded_5 : decode cL_isFunded 5 = .ok (.invokestatic 41, 3) := by decide +kernel
theorem dL_isFunded_8 : decode cL_isFunded 8 = .ok (.istore 7, 2) := by decide +kernel
theorem dL_isFunded_10 : decode cL_isFunded 10 = .ok (.iload 6, 2) := by decide +kernel
theorem dL_isFunded_12 : decode cL_isFunded 12 = .ok (.iconst 3, 1) := by decide +kernel
theorem dL_isFunded_13 : decode cL_isFunded 13 = .ok (.ishr, 1) := by decide +kernel
theorem dL_isFunded_14 : decode cL_isFunded 14 = .ok (.iconst 3, 1) := by decide +kernel
theorem dL_isFunded_15 : decode cL_isFunded 15 = .ok (.invokestatic 41, 3) := by decide +kernel
theorem dL_isFunded_18 : decode cL_isFunded 18 = .ok (.istore 8, 2) := by decide +kernel
theorem dL_isFunded_20 : decode cL_isFunded 20 = .ok (.iload 6, 2) := by decide +kernel
theorem dL_isFunded_22 : decode cL_isFunded 22 = .ok (.iconst 5, 1) := by decide +kernel
theorem dL_isFunded_23 : decode cL_isFunded 23 = .ok (.ishr, 1) := by decide +kernel
theorem dL_isFunded_24 : decode cL_isFunded 24 = .ok (.iconst 2, 1) := by decide +kernel
theorem dL_isFunded_25 : decode cL_isFunded 25 = .ok (.invokestatic 41, 3) := by decide +kernel
theorem dL_isFunded_28 : decode cL_isFunded 28 = .ok (.istore 9, 2) := by decide +kernel
theorem dL_isFunded_30 : decode cL_isFunded 30 = .ok (.aload_n 3, 1) := by decide +kernel
theorem dL_isFunded_31 : decode cL_isFunded 31 = .ok (.bipush 11, 2) := by decide +kernel
theorem dL_isFunded_33 : decode cL_isFunded 33 = .ok (.iload 7, 2) := by decide +kernel
theorem dL_isFunded_35 : decode cL_isFunded 35 = .ok (.imul, 1) := by decide +kernel
theorem dL_isFunded_36 : decode cL_isFunded 36 = .ok (.iaload, 1) := by decide +kernel
theorem dL_isFunded_37 : decode cL_isFunded 37 = .ok (.aload_n 1, 1) := by decide +kernel
theorem dL_isFunded_38 : decode cL_isFunded 38 = .ok (.aload 4, 2) := by decide +kernel
theorem dL_isFunded_40 : decode cL_isFunded 40 = .ok (.iload 7, 2) := by decide +kernel
theorem dL_isFunded_42 : decode cL_isFunded 42 = .ok (.iconst (-1), 1) := by decide +kernel
theorem dL_isFunded_43 : decode cL_isFunded 43 = .ok (.invokestatic 9, 3) := by decide +kernel
theorem dL_isFunded_46 : decode cL_isFunded 46 = .ok (.isub, 1) := by decide +kernel
theorem dL_isFunded_47 : decode cL_isFunded 47 = .ok (.istore 10, 2) := by decide +kernel
theorem dL_isFunded_49 : decode cL_isFunded 49 = .ok (.iload 6, 2) := by decide +kernel
theorem dL_isFunded_51 : decode cL_isFunded 51 = .ok (.bipush 6, 2) := by decide +kernel
theorem dL_isFunded_53 : decode cL_isFunded 53 = .ok (.ishr, 1) := by decide +kernel
theorem dL_isFunded_54 : decode cL_isFunded 54 = .ok (.iconst 2, 1) := by decide +kernel
theorem dL_isFunded_55 : decode cL_isFunded 55 = .ok (.invokestatic 41, 3) := by decide +kernel
theorem dL_isFunded_58 : decode cL_isFunded 58 = .ok (.ifCond .ne 25, 3) := by decide +kernel
theorem dL_isFunded_61 : decode cL_isFunded 61 = .ok (.iload 10, 2) := by decide +kernel
theorem dL_isFunded_63 : decode cL_isFunded 63 = .ok (.ifCond .le 20, 3) := by decide +kernel
theorem dL_isFunded_66 : decode cL_isFunded 66 = .ok (.aload_n 3, 1) := by decide +kernel
theorem dL_isFunded_67 : decode cL_isFunded 67 = .ok (.bipush 11, 2) := by decide +kernel
theorem dL_isFunded_69 : decode cL_isFunded 69 = .ok (.iload 7, 2) := by decide +kernel
theorem dL_isFunded_71 : decode cL_isFunded 71 = .ok (.imul, 1) := by decide +kernel
theorem dL_isFunded_72 : decode cL_isFunded 72 = .ok (.iconst 3, 1) := by decide +kernel
theorem dL_isFunded_73 : decode cL_isFunded 73 = .ok (.iadd, 1) := by decide +kernel
theorem dL_isFunded_74 : decode cL_isFunded 74 = .ok (.iaload, 1) := by decide +kernel
theorem dL_isFunded_75 : decode cL_isFunded 75 = .ok (.ifCond .ne 8, 3) := by decide +kernel
theorem dL_isFunded_78 : decode cL_isFunded 78 = .ok (.iload 10, 2) := by decide +kernel
theorem dL_isFunded_80 : decode cL_isFunded 80 = .ok (.goto 16, 3) := by decide +kernel
theorem dL_isFunded_83 : decode cL_isFunded 83 = .ok (.iconst 1, 1) := by decide +kernel
theorem dL_isFunded_84 : decode cL_isFunded 84 = .ok (.iload 6, 2) := by decide +kernel
theorem dL_isFunded_86 : decode cL_isFunded 86 = .ok (.bipush 7, 2) := by decide +kernel
theorem dL_isFunded_88 : decode cL_isFunded 88 = .ok (.ishr, 1) := by decide +kernel
theorem dL_isFunded_89 : decode cL_isFunded 89 = .ok (.sipush 400, 3) := by decide +kernel
theorem dL_isFunded_92 : decode cL_isFunded 92 = .ok (.invokestatic 41, 3) := by decide +kernel
theorem dL_isFunded_95 : decode cL_isFunded 95 = .ok (.iadd, 1) := by decide +kernel
theorem dL_isFunded_96 : decode cL_isFunded 96 = .ok (.istore 11, 2) := by decide +kernel
theorem dL_isFunded_98 : decode cL_isFunded 98 = .ok (.aload_n 3, 1) := by decide +kernel
theorem dL_isFunded_99 : decode cL_isFunded 99 = .ok (.bipush 11, 2) := by decide +kernel
theorem dL_isFunded_101 : decode cL_isFunded 101 = .ok (.iload 7, 2) := by decide +kernel
theorem dL_isFunded_103 : decode cL_isFunded 103 = .ok (.imul, 1) := by decide +kernel
theorem dL_isFunded_104 : decode cL_isFunded 104 = .ok (.iconst 3, 1) := by decide +kernel
theorem dL_isFunded_105 : decode cL_isFunded 105 = .ok (.iadd, 1) := by decide +kernel
theorem dL_isFunded_106 : decode cL_isFunded 106 = .ok (.iaload, 1) := by decide +kernel
theorem dL_isFunded_107 : decode cL_isFunded 107 = .ok (.ifCond .gt 21, 3) := by decide +kernel
theorem dL_isFunded_110 : decode cL_isFunded 110 = .ok (.iload 10, 2) := by decide +kernel
theorem dL_isFunded_112 : decode cL_isFunded 112 = .ok (.iload 11, 2) := by decide +kernel
theorem dL_isFunded_114 : decode cL_isFunded 114 = .ok (.if_icmp .lt 14, 3) := by decide +kernel
theorem dL_isFunded_117 : decode cL_isFunded 117 = .ok (.aload_n 2, 1) := by decide +kernel
theorem dL_isFunded_118 : decode cL_isFunded 118 = .ok (.iconst 3, 1) := by decide +kernel
theorem dL_isFunded_119 : decode cL_isFunded 119 = .ok (.iload 8, 2) := by decide +kernel
theorem dL_isFunded_121 : decode cL_isFunded 121 = .ok (.imul, 1) := by decide +kernel
theorem dL_isFunded_122 : decode cL_isFunded 122 = .ok (.iaload, 1) := by decide +kernel
theorem dL_isFunded_123 : decode cL_isFunded 123 = .ok (.iload 11, 2) := by decide +kernel
theorem dL_isFunded_125 : decode cL_isFunded 125 = .ok (.if_icmp .ge 83, 3) := by decide +kernel
theorem dL_isFunded_128 : decode cL_isFunded 128 = .ok (.aload_n 0, 1) := by decide +kernel
theorem dL_isFunded_129 : decode cL_isFunded 129 = .ok (.iload 8, 2) := by decide +kernel
theorem dL_isFunded_131 : decode cL_isFunded 131 = .ok (.iload 7, 2) := by decide +kernel
theorem dL_isFunded_133 : decode cL_isFunded 133 = .ok (.iload 9, 2) := by decide +kernel
theorem dL_isFunded_135 : decode cL_isFunded 135 = .ok (.iconst 1, 1) := by decide +kernel
theorem dL_isFunded_136 : decode cL_isFunded 136 = .ok (.if_icmp .ne 7, 3) := by decide +kernel
theorem dL_isFunded_139 : decode cL_isFunded 139 = .ok (.iconst 1, 1) := by decide +kernel
theorem dL_isFunded_140 : decode cL_isFunded 140 = .ok (.goto 4, 3) := by decide +kernel
theorem dL_isFunded_143 : decode cL_isFunded 143 = .ok (.iconst 0, 1) := by decide +kernel
theorem dL_isFunded_144 : decode cL_isFunded 144 = .ok (.iload 11, 2) := by decide +kernel
theorem dL_isFunded_146 : decode cL_isFunded 146 = .ok (.invokevirtual 44, 3) := by decide +kernel
theorem dL_isFunded_149 : decode cL_isFunded 149 = .ok (.bipush (-4), 2) := by decide +kernel
theorem dL_isFunded_151 : decode cL_isFunded 151 = .ok (.if_icmp .ne 55, 3) := by decide +kernel
theorem dL_isFunded_154 : decode cL_isFunded 154 = .ok (.aload_n 0, 1) := by decide +kernel
theorem dL_isFunded_155 : decode cL_isFunded 155 = .ok (.iload 8, 2) := by decide +kernel
theorem dL_isFunded_157 : decode cL_isFunded 157 = .ok (.iload 7, 2) := by decide +kernel
theorem dL_isFunded_159 : decode cL_isFunded 159 = .ok (.iload 9, 2) := by decide +kernel
theorem dL_isFunded_161 : decode cL_isFunded 161 = .ok (.iconst 1, 1) := by decide +kernel
theorem dL_isFunded_162 : decode cL_isFunded 162 = .ok (.if_icmp .ne 7, 3) := by decide +kernel
theorem dL_isFunded_165 : decode cL_isFunded 165 = .ok (.iconst 1, 1) := by decide +kernel
theorem dL_isFunded_166 : decode cL_isFunded 166 = .ok (.goto 4, 3) := by decide +kernel
theorem dL_isFunded_169 : decode cL_isFunded 169 = .ok (.iconst 0, 1) := by decide +kernel
theorem dL_isFunded_170 : decode cL_isFunded 170 = .ok (.iconst 0, 1) := by decide +kernel
theorem dL_isFunded_171 : decode cL_isFunded 171 = .ok (.invokevirtual 44, 3) := by decide +kernel
theorem dL_isFunded_174 : decode cL_isFunded 174 = .ok (.bipush (-2), 2) := by decide +kernel
theorem dL_isFunded_176 : decode cL_isFunded 176 = .ok (.if_icmp .ne 30, 3) := by decide +kernel
theorem dL_isFunded_179 : decode cL_isFunded 179 = .ok (.aload_n 0, 1) := by decide +kernel
theorem dL_isFunded_180 : decode cL_isFunded 180 = .ok (.iconst 3, 1) := by decide +kernel
theorem dL_isFunded_181 : decode cL_isFunded 181 = .ok (.iload 7, 2) := by decide +kernel
theorem dL_isFunded_183 : decode cL_isFunded 183 = .ok (.iload 9, 2) := by decide +kernel
theorem dL_isFunded_185 : decode cL_isFunded 185 = .ok (.iconst 1, 1) := by decide +kernel
theorem dL_isFunded_186 : decode cL_isFunded 186 = .ok (.if_icmp .ne 7, 3) := by decide +kernel
theorem dL_isFunded_189 : decode cL_isFunded 189 = .ok (.iconst 1, 1) := by decide +kernel
theorem dL_isFunded_190 : decode cL_isFunded 190 = .ok (.goto 4, 3) := by decide +kernel
theorem dL_isFunded_193 : decode cL_isFunded 193 = .ok (.iconst 0, 1) := by decide +kernel
theorem dL_isFunded_194 : decode cL_isFunded 194 = .ok (.iconst 0, 1) := by decide +kernel
theorem dL_isFunded_195 : decode cL_isFunded 195 = .ok (.invokevirtual 44, 3) := by decide +kernel
theorem dL_isFunded_198 : decode cL_isFunded 198 = .ok (.iconst (-1), 1) := by decide +kernel
theorem dL_isFunded_199 : decode cL_isFunded 199 = .ok (.if_icmp .ne 7, 3) := by decide +kernel
theorem dL_isFunded_202 : decode cL_isFunded 202 = .ok (.iconst 1, 1) := by decide +kernel
theorem dL_isFunded_203 : decode cL_isFunded 203 = .ok (.goto 4, 3) := by decide +kernel
theorem dL_isFunded_206 : decode cL_isFunded 206 = .ok (.iconst 0, 1) := by decide +kernel
theorem dL_isFunded_207 : decode cL_isFunded 207 = .ok (.ireturn, 1) := by decide +kernel
theorem dL_isFunded_208 : decode cL_isFunded 208 = .ok (.aload_n 1, 1) := by decide +kernel
theorem dL_isFunded_209 : decode cL_isFunded 209 = .ok (.iconst 2, 1) := by decide +kernel
theorem dL_isFunded_210 : decode cL_isFunded 210 = .ok (.iaload, 1) := by decide +kernel
theorem dL_isFunded_211 : decode cL_isFunded 211 = .ok (.bipush 10, 2) := by decide +kernel
theorem dL_isFunded_213 : decode cL_isFunded 213 = .ok (.if_icmp .ne 22, 3) := by decide +kernel
theorem dL_isFunded_216 : decode cL_isFunded 216 = .ok (.aload_n 0, 1) := by decide +kernel
theorem dL_isFunded_217 : decode cL_isFunded 217 = .ok (.iload 7, 2) := by decide +kernel
theorem dL_isFunded_219 : decode cL_isFunded 219 = .ok (.bipush 9, 2) := by decide +kernel
theorem dL_isFunded_221 : decode cL_isFunded 221 = .ok (.invokevirtual 19, 3) := by decide +kernel
theorem dL_isFunded_224 : decode cL_isFunded 224 = .ok (.iload 10, 2) := by decide +kernel
theorem dL_isFunded_226 : decode cL_isFunded 226 = .ok (.if_icmp .ne 7, 3) := by decide +kernel
theorem dL_isFunded_229 : decode cL_isFunded 229 = .ok (.iconst 1, 1) := by decide +kernel
theorem dL_isFunded_230 : decode cL_isFunded 230 = .ok (.goto 4, 3) := by decide +kernel
theorem dL_isFunded_233 : decode cL_isFunded 233 = .ok (.iconst 0, 1) := by decide +kernel
theorem dL_isFunded_234 : decode cL_isFunded 234 = .ok (.ireturn, 1) := by decide +kernel
theorem dL_isFunded_235 : decode cL_isFunded 235 = .ok (.bipush 6, 2) := by decide +kernel
theorem dL_isFunded_237 : decode cL_isFunded 237 = .ok (.aload_n 1, 1) := by decide +kernel
theorem dL_isFunded_238 : decode cL_isFunded 238 = .ok (.iconst 2, 1) := by decide +kernel
theorem dL_isFunded_239 : decode cL_isFunded 239 = .ok (.iaload, 1) := by decide +kernel
theorem dL_isFunded_240 : decode cL_isFunded 240 = .ok (.imul, 1) := by decide +kernel
theorem dL_isFunded_241 : decode cL_isFunded 241 = .ok (.istore 12, 2) := by decide +kernel
theorem dL_isFunded_243 : decode cL_isFunded 243 = .ok (.aload 4, 2) := by decide +kernel
theorem dL_isFunded_245 : decode cL_isFunded 245 = .ok (.iload 12, 2) := by decide +kernel
theorem dL_isFunded_247 : decode cL_isFunded 247 = .ok (.iload 8, 2) := by decide +kernel
theorem dL_isFunded_249 : decode cL_isFunded 249 = .ok (.iastore, 1) := by decide +kernel
theorem dL_isFunded_250 : decode cL_isFunded 250 = .ok (.aload 4, 2) := by decide +kernel
theorem dL_isFunded_252 : decode cL_isFunded 252 = .ok (.iload 12, 2) := by decide +kernel
theorem dL_isFunded_254 : decode cL_isFunded 254 = .ok (.iconst 1, 1) := by decide +kernel
theorem dL_isFunded_255 : decode cL_isFunded 255 = .ok (.iadd, 1) := by decide +kernel
theorem dL_isFunded_256 : decode cL_isFunded 256 = .ok (.iload 7, 2) := by decide +kernel
theorem dL_isFunded_258 : decode cL_isFunded 258 = .ok (.iastore, 1) := by decide +kernel
theorem dL_isFunded_259 : decode cL_isFunded 259 = .ok (.aload 4, 2) := by decide +kernel
theorem dL_isFunded_261 : decode cL_isFunded 261 = .ok (.iload 12, 2) := by decide +kernel
theorem dL_isFunded_263 : decode cL_isFunded 263 = .ok (.iconst 2, 1) := by decide +kernel
theorem dL_isFunded_264 : decode cL_isFunded 264 = .ok (.iadd, 1) := by decide +kernel
theorem dL_isFunded_265 : decode cL_isFunded 265 = .ok (.iload 9, 2) := by decide +kernel
theorem dL_isFunded_267 : decode cL_isFunded 267 = .ok (.iastore, 1) := by decide +kernel
theorem dL_isFunded_268 : decode cL_isFunded 268 = .ok (.aload 4, 2) := by decide +kernel
theorem dL_isFunded_270 : decode cL_isFunded 270 = .ok (.iload 12, 2) := by decide +kernel
theorem dL_isFunded_272 : decode cL_isFunded 272 = .ok (.iconst 3, 1) := by decide +kernel
theorem dL_isFunded_273 : decode cL_isFunded 273 = .ok (.iadd, 1) := by decide +kernel
theorem dL_isFunded_274 : decode cL_isFunded 274 = .ok (.iload 11, 2) := by decide +kernel
theorem dL_isFunded_276 : decode cL_isFunded 276 = .ok (.iastore, 1) := by decide +kernel
theorem dL_isFunded_277 : decode cL_isFunded 277 = .ok (.aload 4, 2) := by decide +kernel
theorem dL_isFunded_279 : decode cL_isFunded 279 = .ok (.iload 12, 2) := by decide +kernel
theorem dL_isFunded_281 : decode cL_isFunded 281 = .ok (.iconst 4, 1) := by decide +kernel
theorem dL_isFunded_282 : decode cL_isFunded 282 = .ok (.iadd, 1) := by decide +kernel
theorem dL_isFunded_283 : decode cL_isFunded 283 = .ok (.iconst 0, 1) := by decide +kernel
theorem dL_isFunded_284 : decode cL_isFunded 284 = .ok (.iastore, 1) := by decide +kernel
theorem dL_isFunded_285 : decode cL_isFunded 285 = .ok (.aload 4, 2) := by decide +kernel
theorem dL_isFunded_287 : decode cL_isFunded 287 = .ok (.iload 12, 2) := by decide +kernel
theorem dL_isFunded_289 : decode cL_isFunded 289 = .ok (.iconst 5, 1) := by decide +kernel
theorem dL_isFunded_290 : decode cL_isFunded 290 = .ok (.iadd, 1) := by decide +kernel
theorem dL_isFunded_291 : decode cL_isFunded 291 = .ok (.iconst 0, 1) := by decide +kernel
theorem dL_isFunded_292 : decode cL_isFunded 292 = .ok (.iastore, 1) := by decide +kernel
theorem dL_isFunded_293 : decode cL_isFunded 293 = .ok (.aload 5, 2) := by decide +kernel
theorem dL_isFunded_295 : decode cL_isFunded 295 = .ok (.aload_n 1, 1) := by decide +kernel
theorem dL_isFunded_296 : decode cL_isFunded 296 = .ok (.iconst 2, 1) := by decide +kernel
theorem dL_isFunded_297 : decode cL_isFunded 297 = .ok (.iaload, 1) := by decide +kernel
theorem dL_isFunded_298 : decode cL_isFunded 298 = .ok (.iload 11, 2) := by decide +kernel
theorem dL_isFunded_300 : decode cL_isFunded 300 = .ok (.iastore, 1) := by decide +kernel
theorem dL_isFunded_301 : decode cL_isFunded 301 = .ok (.aload_n 1, 1) := by decide +kernel
theorem dL_isFunded_302 : decode cL_isFunded 302 = .ok (.iconst 2, 1) := by decide +kernel
theorem dL_isFunded_303 : decode cL_isFunded 303 = .ok (.dup2, 1) := by decide +kernel
theorem dL_isFunded_304 : decode cL_isFunded 304 = .ok (.iaload, 1) := by decide +kernel
theorem dL_isFunded_305 : decode cL_isFunded 305 = .ok (.iconst 1, 1) := by decide +kernel
theorem dL_isFunded_306 : decode cL_isFunded 306 = .ok (.iadd, 1) := by decide +kernel
theorem dL_isFunded_307 : decode cL_isFunded 307 = .ok (.iastore, 1) := by decide +kernel
theorem dL_isFunded_308 : decode cL_isFunded 308 = .ok (.aload_n 2, 1) := by decide +kernel
theorem dL_isFunded_309 : decode cL_isFunded 309 = .ok (.iconst 3, 1) := by decide +kernel
theorem dL_isFunded_310 : decode cL_isFunded 310 = .ok (.iload 8, 2) := by decide +kernel
theorem dL_isFunded_312 : decode cL_isFunded 312 = .ok (.imul, 1) := by decide +kernel
theorem dL_isFunded_313 : decode cL_isFunded 313 = .ok (.dup2, 1) := by decide +kernel
theorem dL_isFunded_314 : decode cL_isFunded 314 = .ok (.iaload, 1) := by decide +kernel
theorem dL_isFunded_315 : decode cL_isFunded 315 = .ok (.iload 11, 2) := by decide +kernel
theorem dL_isFunded_317 : decode cL_isFunded 317 = .ok (.isub, 1) := by decide +kernel
theorem dL_isFunded_318 : decode cL_isFunded 318 = .ok (.iastore, 1) := by decide +kernel
theorem dL_isFunded_319 : decode cL_isFunded 319 = .ok (.iload 10, 2) := by decide +kernel
theorem dL_isFunded_321 : decode cL_isFunded 321 = .ok (.iload 11, 2) := by decide +kernel
theorem dL_isFunded_323 : decode cL_isFunded 323 = .ok (.if_icmp .ne 81, 3) := by decide +kernel
theorem dL_isFunded_326 : decode cL_isFunded 326 = .ok (.aload_n 3, 1) := by decide +kernel
theorem dL_isFunded_327 : decode cL_isFunded 327 = .ok (.bipush 11, 2) := by decide +kernel
theorem dL_isFunded_329 : decode cL_isFunded 329 = .ok (.iload 7, 2) := by decide +kernel
theorem dL_isFunded_331 : decode cL_isFunded 331 = .ok (.imul, 1) := by decide +kernel
theorem dL_isFunded_332 : decode cL_isFunded 332 = .ok (.iconst 3, 1) := by decide +kernel
theorem dL_isFunded_333 : decode cL_isFunded 333 = .ok (.iadd, 1) := by decide +kernel
theorem dL_isFunded_334 : decode cL_isFunded 334 = .ok (.iconst 1, 1) := by decide +kernel
theorem dL_isFunded_335 : decode cL_isFunded 335 = .ok (.iastore, 1) := by decide +kernel
theorem dL_isFunded_336 : decode cL_isFunded 336 = .ok (.aload_n 3, 1) := by decide +kernel
theorem dL_isFunded_337 : decode cL_isFunded 337 = .ok (.bipush 11, 2) := by decide +kernel
theorem dL_isFunded_339 : decode cL_isFunded 339 = .ok (.iload 7, 2) := by decide +kernel
theorem dL_isFunded_341 : decode cL_isFunded 341 = .ok (.imul, 1) := by decide +kernel
theorem dL_isFunded_342 : decode cL_isFunded 342 = .ok (.iconst 4, 1) := by decide +kernel
theorem dL_isFunded_343 : decode cL_isFunded 343 = .ok (.iadd, 1) := by decide +kernel
theorem dL_isFunded_344 : decode cL_isFunded 344 = .ok (.aload_n 3, 1) := by decide +kernel
theorem dL_isFunded_345 : decode cL_isFunded 345 = .ok (.bipush 11, 2) := by decide +kernel
theorem dL_isFunded_347 : decode cL_isFunded 347 = .ok (.iload 7, 2) := by decide +kernel
theorem dL_isFunded_349 : decode cL_isFunded 349 = .ok (.imul, 1) := by decide +kernel
theorem dL_isFunded_350 : decode cL_isFunded 350 = .ok (.iaload, 1) := by decide +kernel
theorem dL_isFunded_351 : decode cL_isFunded 351 = .ok (.iastore, 1) := by decide +kernel
theorem dL_isFunded_352 : decode cL_isFunded 352 = .ok (.aload_n 3, 1) := by decide +kernel
theorem dL_isFunded_353 : decode cL_isFunded 353 = .ok (.bipush 11, 2) := by decide +kernel
theorem dL_isFunded_355 : decode cL_isFunded 355 = .ok (.iload 7, 2) := by decide +kernel
theorem dL_isFunded_357 : decode cL_isFunded 357 = .ok (.imul, 1) := by decide +kernel
theorem dL_isFunded_358 : decode cL_isFunded 358 = .ok (.iconst 5, 1) := by decide +kernel
theorem dL_isFunded_359 : decode cL_isFunded 359 = .ok (.iadd, 1) := by decide +kernel
theorem dL_isFunded_360 : decode cL_isFunded 360 = .ok (.aload_n 3, 1) := by decide +kernel
theorem dL_isFunded_361 : decode cL_isFunded 361 = .ok (.bipush 11, 2) := by decide +kernel
theorem dL_isFunded_363 : decode cL_isFunded 363 = .ok (.iload 7, 2) := by decide +kernel
theorem dL_isFunded_365 : decode cL_isFunded 365 = .ok (.imul, 1) := by decide +kernel
theorem dL_isFunded_366 : decode cL_isFunded 366 = .ok (.iaload, 1) := by decide +kernel
theorem dL_isFunded_367 : decode cL_isFunded 367 = .ok (.aload_n 3, 1) := by decide +kernel
theorem dL_isFunded_368 : decode cL_isFunded 368 = .ok (.bipush 11, 2) := by decide +kernel
theorem dL_isFunded_370 : decode cL_isFunded 370 = .ok (.iload 7, 2) := by decide +kernel
theorem dL_isFunded_372 : decode cL_isFunded 372 = .ok (.imul, 1) := by decide +kernel
theorem dL_isFunded_373 : decode cL_isFunded 373 = .ok (.iconst 2, 1) := by decide +kernel
theorem dL_isFunded_374 : decode cL_isFunded 374 = .ok (.iadd, 1) := by decide +kernel
theorem dL_isFunded_375 : decode cL_isFunded 375 = .ok (.iaload, 1) := by decide +kernel
theorem dL_isFunded_376 : decode cL_isFunded 376 = .ok (.idiv, 1) := by decide +kernel
theorem dL_isFunded_377 : decode cL_isFunded 377 = .ok (.aload_n 3, 1) := by decide +kernel
theorem dL_isFunded_378 : decode cL_isFunded 378 = .ok (.bipush 11, 2) := by decide +kernel
theorem dL_isFunded_380 : decode cL_isFunded 380 = .ok (.iload 7, 2) := by decide +kernel
theorem dL_isFunded_382 : decode cL_isFunded 382 = .ok (.imul, 1) := by decide +kernel
theorem dL_isFunded_383 : decode cL_isFunded 383 = .ok (.iaload, 1) := by decide +kernel
theorem dL_isFunded_384 : decode cL_isFunded 384 = .ok (.aload_n 3, 1) := by decide +kernel
theorem dL_isFunded_385 : decode cL_isFunded 385 = .ok (.bipush 11, 2) := by decide +kernel
theorem dL_isFunded_387 : decode cL_isFunded 387 = .ok (.iload 7, 2) := by decide +kernel
theorem dL_isFunded_389 : decode cL_isFunded 389 = .ok (.imul, 1) := by decide +kernel
theorem dL_isFunded_390 : decode cL_isFunded 390 = .ok (.iconst 2, 1) := by decide +kernel
theorem dL_isFunded_391 : decode cL_isFunded 391 = .ok (.iadd, 1) := by decide +kernel
theorem dL_isFunded_392 : decode cL_isFunded 392 = .ok (.iaload, 1) := by decide +kernel
theorem dL_isFunded_393 : decode cL_isFunded 393 = .ok (.irem, 1) := by decide +kernel
theorem dL_isFunded_394 : decode cL_isFunded 394 = .ok (.ifCond .le 7, 3) := by decide +kernel
theorem dL_isFunded_397 : decode cL_isFunded 397 = .ok (.iconst 1, 1) := by decide +kernel
theorem dL_isFunded_398 : decode cL_isFunded 398 = .ok (.goto 4, 3) := by decide +kernel
theorem dL_isFunded_401 : decode cL_isFunded 401 = .ok (.iconst 0, 1) := by decide +kernel
theorem dL_isFunded_402 : decode cL_isFunded 402 = .ok (.iadd, 1) := by decide +kernel
theorem dL_isFunded_403 : decode cL_isFunded 403 = .ok (.iastore, 1) := by decide +kernel
theorem dL_isFunded_404 : decode cL_isFunded 404 = .ok (.aload_n 0, 1) := by decide +kernel
theorem dL_isFunded_405 : decode cL_isFunded 405 = .ok (.iload 8, 2) := by decide +kernel
theorem dL_isFunded_407 : decode cL_isFunded 407 = .ok (.iload 7, 2) := by decide +kernel
theorem dL_isFunded_409 : decode cL_isFunded 409 = .ok (.iload 9, 2) := by decide +kernel
theorem dL_isFunded_411 : decode cL_isFunded 411 = .ok (.iconst 1, 1) := by decide +kernel
theorem dL_isFunded_412 : decode cL_isFunded 412 = .ok (.if_icmp .ne 7, 3) := by decide +kernel
theorem dL_isFunded_415 : decode cL_isFunded 415 = .ok (.iconst 1, 1) := by decide +kernel
theorem dL_isFunded_416 : decode cL_isFunded 416 = .ok (.goto 4, 3) := by decide +kernel
theorem dL_isFunded_419 : decode cL_isFunded 419 = .ok (.iconst 0, 1) := by decide +kernel
theorem dL_isFunded_420 : decode cL_isFunded 420 = .ok (.iload 11, 2) := by decide +kernel
theorem dL_isFunded_422 : decode cL_isFunded 422 = .ok (.invokevirtual 44, 3) := by decide +kernel
theorem dL_isFunded_425 : decode cL_isFunded 425 = .ok (.iload 10, 2) := by decide +kernel
theorem dL_isFunded_427 : decode cL_isFunded 427 = .ok (.iload 11, 2) := by decide +kernel
theorem dL_isFunded_429 : decode cL_isFunded 429 = .ok (.isub, 1) := by decide +kernel
theorem dL_isFunded_430 : decode cL_isFunded 430 = .ok (.if_icmp .ne 7, 3) := by decide +kernel
theorem dL_isFunded_433 : decode cL_isFunded 433 = .ok (.iconst 1, 1) := by decide +kernel
theorem dL_isFunded_434 : decode cL_isFunded 434 = .ok (.goto 4, 3) := by decide +kernel
theorem dL_isFunded_437 : decode cL_isFunded 437 = .ok (.iconst 0, 1) := by decide +kernel
theorem dL_isFunded_438 : decode cL_isFunded 438 = .ok (.ireturn, 1) := by decide +kernel
theorem dL_isPaid_0 : decode cL_isPaid 0 = .ok (.iload 6, 2) := by decide +kernel
theorem dL_isPaid_2 : decode cL_isPaid 2 = .ok (.aload_n 1, 1) := by decide +kernel
theorem dL_isPaid_3 : decode cL_isPaid 3 = .ok (.iconst 1, 1) := by decide +kernel
theorem dL_isPaid_4 : decode cL_isPaid 4 = .ok (.iaload, 1) := by decide +kernel
theorem dL_isPaid_5 : decode cL_isPaid 5 = .ok (.invokestatic 41, 3) := by decide +kernel
theorem dL_isPaid_8 : decode cL_isPaid 8 = .ok (.istore 7, 2) := by decide +kernel
theorem dL_isPaid_10 : decode cL_isPaid 10 = .ok (.bipush 11, 2) := by decide +kernel
theorem dL_isPaid_12 : decode cL_isPaid 12 = .ok (.iload 7, 2) := by decide +kernel
theorem dL_isPaid_14 : decode cL_isPaid 14 = .ok (.imul, 1) := by decide +kernel
theorem dL_isPaid_15 : decode cL_isPaid 15 = .ok (.istore 8, 2) := by decide +kernel
theorem dL_isPaid_17 : decode cL_isPaid 17 = .ok (.aload_n 3, 1) := by decide +kernel
theorem dL_isPaid_18 : decode cL_isPaid 18 = .ok (.iload 8, 2) := by decide +kernel
theorem dL_isPaid_20 : decode cL_isPaid 20 = .ok (.bipush 6, 2) := by decide +kernel
theorem dL_isPaid_22 : decode cL_isPaid 22 = .ok (.iadd, 1) := by decide +kernel
theorem dL_isPaid_23 : decode cL_isPaid 23 = .ok (.iaload, 1) := by decide +kernel
theorem dL_isPaid_24 : decode cL_isPaid 24 = .ok (.aload_n 3, 1) := by decide +kernel
theorem dL_isPaid_25 : decode cL_isPaid 25 = .ok (.iload 8, 2) := by decide +kernel
theorem dL_isPaid_27 : decode cL_isPaid 27 = .ok (.iconst 4, 1) := by decide +kernel
theorem dL_isPaid_28 : decode cL_isPaid 28 = .ok (.iadd, 1) := by decide +kernel
theorem dL_isPaid_29 : decode cL_isPaid 29 = .ok (.iaload, 1) := by decide +kernel
theorem dL_isPaid_30 : decode cL_isPaid 30 = .ok (.iadd, 1) := by decide +kernel
theorem dL_isPaid_31 : decode cL_isPaid 31 = .ok (.istore 9, 2) := by decide +kernel
theorem dL_isPaid_33 : decode cL_isPaid 33 = .ok (.aload_n 3, 1) := by decide +kernel
theorem dL_isPaid_34 : decode cL_isPaid 34 = .ok (.iload 8, 2) := by decide +kernel
theorem dL_isPaid_36 : decode cL_isPaid 36 = .ok (.bipush 9, 2) := by decide +kernel
theorem dL_isPaid_38 : decode cL_isPaid 38 = .ok (.iadd, 1) := by decide +kernel
theorem dL_isPaid_39 : decode cL_isPaid 39 = .ok (.iaload, 1) := by decide +kernel
theorem dL_isPaid_40 : decode cL_isPaid 40 = .ok (.istore 10, 2) := by decide +kernel
theorem dL_isPaid_42 : decode cL_isPaid 42 = .ok (.iload 6, 2) := by decide +kernel
theorem dL_isPaid_44 : decode cL_isPaid 44 = .ok (.iconst 3, 1) := by decide +kernel
theorem dL_isPaid_45 : decode cL_isPaid 45 = .ok (.ishr, 1) := by decide +kernel
theorem dL_isPaid_46 : decode cL_isPaid 46 = .ok (.iconst 5, 1) := by decide +kernel
theorem dL_isPaid_47 : decode cL_isPaid 47 = .ok (.invokestatic 41, 3) := by decide +kernel
theorem dL_isPaid_50 : decode cL_isPaid 50 = .ok (.ifCond .ne 22, 3) := by decide +kernel
theorem dL_isPaid_53 : decode cL_isPaid 53 = .ok (.aload_n 3, 1) := by decide +kernel
theorem dL_isPaid_54 : decode cL_isPaid 54 = .ok (.iload 8, 2) := by decide +kernel
theorem dL_isPaid_56 : decode cL_isPaid 56 = .ok (.iconst 3, 1) := by decide +kernel
theorem dL_isPaid_57 : decode cL_isPaid 57 = .ok (.iadd, 1) := by decide +kernel
theorem dL_isPaid_58 : decode cL_isPaid 58 = .ok (.iaload, 1) := by decide +kernel
theorem dL_isPaid_59 : decode cL_isPaid 59 = .ok (.iconst 1, 1) := by decide +kernel
theorem dL_isPaid_60 : decode cL_isPaid 60 = .ok (.if_icmp .ne 12, 3) := by decide +kernel
theorem dL_isPaid_63 : decode cL_isPaid 63 = .ok (.aload_n 0, 1) := by decide +kernel
theorem dL_isPaid_64 : decode cL_isPaid 64 = .ok (.iload 7, 2) := by decide +kernel
theorem dL_isPaid_66 : decode cL_isPaid 66 = .ok (.invokevirtual 48, 3) := by decide +kernel
theorem dL_isPaid_69 : decode cL_isPaid 69 = .ok (.goto 16, 3) := by decide +kernel
theorem dL_isPaid_72 : decode cL_isPaid 72 = .ok (.iconst 1, 1) := by decide +kernel
theorem dL_isPaid_73 : decode cL_isPaid 73 = .ok (.iload 6, 2) := by decide +kernel
theorem dL_isPaid_75 : decode cL_isPaid 75 = .ok (.bipush 6, 2) := by decide +kernel
theorem dL_isPaid_77 : decode cL_isPaid 77 = .ok (.ishr, 1) := by decide +kernel
theorem dL_isPaid_78 : decode cL_isPaid 78 = .ok (.sipush 500, 3) := by decide +kernel
theorem dL_isPaid_81 : decode cL_isPaid 81 = .ok (.invokestatic 41, 3) := by decide +kernel
theorem dL_isPaid_84 : decode cL_isPaid 84 = .ok (.iadd, 1) := by decide +kernel
theorem dL_isPaid_85 : decode cL_isPaid 85 = .ok (.istore 11, 2) := by decide +kernel
theorem dL_isPaid_87 : decode cL_isPaid 87 = .ok (.iload 11, 2) := by decide +kernel
theorem dL_isPaid_89 : decode cL_isPaid 89 = .ok (.i2l, 1) := by decide +kernel
theorem dL_isPaid_90 : decode cL_isPaid 90 = .ok (.iload 10, 2) := by decide +kernel
theorem dL_isPaid_92 : decode cL_isPaid 92 = .ok (.invokestatic 38, 3) := by decide +kernel
theorem dL_isPaid_95 : decode cL_isPaid 95 = .ok (.i2l, 1) := by decide +kernel
theorem dL_isPaid_96 : decode cL_isPaid 96 = .ok (.lmul, 1) := by decide +kernel
theorem dL_isPaid_97 : decode cL_isPaid 97 = .ok (.ldc2_w 51, 3) := by decide +kernel
theorem dL_isPaid_100 : decode cL_isPaid 100 = .ok (.ldiv, 1) := by decide +kernel
theorem dL_isPaid_101 : decode cL_isPaid 101 = .ok (.l2i, 1) := by decide +kernel
theorem dL_isPaid_102 : decode cL_isPaid 102 = .ok (.istore 12, 2) := by decide +kernel
theorem dL_isPaid_104 : decode cL_isPaid 104 = .ok (.aload_n 3, 1) := by decide +kernel
theorem dL_isPaid_105 : decode cL_isPaid 105 = .ok (.iload 8, 2) := by decide +kernel
theorem dL_isPaid_107 : decode cL_isPaid 107 = .ok (.iconst 3, 1) := by decide +kernel
theorem dL_isPaid_108 : decode cL_isPaid 108 = .ok (.iadd, 1) := by decide +kernel
theorem dL_isPaid_109 : decode cL_isPaid 109 = .ok (.iaload, 1) := by decide +kernel
theorem dL_isPaid_110 : decode cL_isPaid 110 = .ok (.iconst 1, 1) := by decide +kernel
theorem dL_isPaid_111 : decode cL_isPaid 111 = .ok (.if_icmp .ne 20, 3) := by decide +kernel
theorem dL_isPaid_114 : decode cL_isPaid 114 = .ok (.iload 11, 2) := by decide +kernel
theorem dL_isPaid_116 : decode cL_isPaid 116 = .ok (.iload 12, 2) := by decide +kernel
theorem dL_isPaid_118 : decode cL_isPaid 118 = .ok (.isub, 1) := by decide +kernel
theorem dL_isPaid_119 : decode cL_isPaid 119 = .ok (.iload 9, 2) := by decide +kernel
theorem dL_isPaid_121 : decode cL_isPaid 121 = .ok (.if_icmp .gt 10, 3) := by decide +kernel
theorem dL_isPaid_124 : decode cL_isPaid 124 = .ok (.iload 11, 2) := by decide +kernel
theorem dL_isPaid_126 : decode cL_isPaid 126 = .ok (.ldc 53, 2) := by decide +kernel
theorem dL_isPaid_128 : decode cL_isPaid 128 = .ok (.if_icmp .le 83, 3) := by decide +kernel
theorem dL_isPaid_131 : decode cL_isPaid 131 = .ok (.iload 11, 2) := by decide +kernel
theorem dL_isPaid_133 : decode cL_isPaid 133 = .ok (.ldc 53, 2) := by decide +kernel
theorem dL_isPaid_135 : decode cL_isPaid 135 = .ok (.if_icmp .le 19, 3) := by decide +kernel
theorem dL_isPaid_138 : decode cL_isPaid 138 = .ok (.aload_n 0, 1) := by decide +kernel
theorem dL_isPaid_139 : decode cL_isPaid 139 = .ok (.iload 7, 2) := by decide +kernel
theorem dL_isPaid_141 : decode cL_isPaid 141 = .ok (.iload 11, 2) := by decide +kernel
theorem dL_isPaid_143 : decode cL_isPaid 143 = .ok (.invokevirtual 54, 3) := by decide +kernel
theorem dL_isPaid_146 : decode cL_isPaid 146 = .ok (.bipush (-2), 2) := by decide +kernel
theorem dL_isPaid_148 : decode cL_isPaid 148 = .ok (.if_icmp .ne 61, 3) := by decide +kernel
theorem dL_isPaid_151 : decode cL_isPaid 151 = .ok (.goto 30, 3) := by decide +kernel
theorem dL_isPaid_154 : decode cL_isPaid 154 = .ok (.aload_n 0, 1) := by decide +kernel
theorem dL_isPaid_155 : decode cL_isPaid 155 = .ok (.iload 7, 2) := by decide +kernel
theorem dL_isPaid_157 : decode cL_isPaid 157 = .ok (.iload 11, 2) := by decide +kernel
theorem dL_isPaid_159 : decode cL_isPaid 159 = .ok (.invokevirtual 54, 3) := by decide +kernel
theorem dL_isPaid_162 : decode cL_isPaid 162 = .ok (.bipush (-4), 2) := by decide +kernel
theorem dL_isPaid_164 : decode cL_isPaid 164 = .ok (.if_icmp .ne 45, 3) := by decide +kernel
theorem dL_isPaid_167 : decode cL_isPaid 167 = .ok (.aload_n 0, 1) := by decide +kernel
theorem dL_isPaid_168 : decode cL_isPaid 168 = .ok (.iload 7, 2) := by decide +kernel
theorem dL_isPaid_170 : decode cL_isPaid 170 = .ok (.iload 11, 2) := by decide +kernel
theorem dL_isPaid_172 : decode cL_isPaid 172 = .ok (.iconst 0, 1) := by decide +kernel
theorem dL_isPaid_173 : decode cL_isPaid 173 = .ok (.invokevirtual 57, 3) := by decide +kernel
theorem dL_isPaid_176 : decode cL_isPaid 176 = .ok (.bipush (-4), 2) := by decide +kernel
theorem dL_isPaid_178 : decode cL_isPaid 178 = .ok (.if_icmp .ne 31, 3) := by decide +kernel
theorem dL_isPaid_181 : decode cL_isPaid 181 = .ok (.aload_n 0, 1) := by decide +kernel
theorem dL_isPaid_182 : decode cL_isPaid 182 = .ok (.iload 7, 2) := by decide +kernel
theorem dL_isPaid_184 : decode cL_isPaid 184 = .ok (.iconst 0, 1) := by decide +kernel
theorem dL_isPaid_185 : decode cL_isPaid 185 = .ok (.invokevirtual 54, 3) := by decide +kernel
theorem dL_isPaid_188 : decode cL_isPaid 188 = .ok (.bipush (-2), 2) := by decide +kernel
theorem dL_isPaid_190 : decode cL_isPaid 190 = .ok (.if_icmp .ne 19, 3) := by decide +kernel
theorem dL_isPaid_193 : decode cL_isPaid 193 = .ok (.aload_n 0, 1) := by decide +kernel
theorem dL_isPaid_194 : decode cL_isPaid 194 = .ok (.aload_n 1, 1) := by decide +kernel
theorem dL_isPaid_195 : decode cL_isPaid 195 = .ok (.iconst 1, 1) := by decide +kernel
theorem dL_isPaid_196 : decode cL_isPaid 196 = .ok (.iaload, 1) := by decide +kernel
theorem dL_isPaid_197 : decode cL_isPaid 197 = .ok (.iconst 0, 1) := by decide +kernel
theorem dL_isPaid_198 : decode cL_isPaid 198 = .ok (.invokevirtual 54, 3) := by decide +kernel
theorem dL_isPaid_201 : decode cL_isPaid 201 = .ok (.iconst (-1), 1) := by decide +kernel
theorem dL_isPaid_202 : decode cL_isPaid 202 = .ok (.if_icmp .ne 7, 3) := by decide +kernel
theorem dL_isPaid_205 : decode cL_isPaid 205 = .ok (.iconst 1, 1) := by decide +kernel
theorem dL_isPaid_206 : decode cL_isPaid 206 = .ok (.goto 4, 3) := by decide +kernel
theorem dL_isPaid_209 : decode cL_isPaid 209 = .ok (.iconst 0, 1) := by decide +kernel
theorem dL_isPaid_210 : decode cL_isPaid 210 = .ok (.ireturn, 1) := by decide +kernel
theorem dL_isPaid_211 : decode cL_isPaid 211 = .ok (.iload 11, 2) := by decide +kernel
theorem dL_isPaid_213 : decode cL_isPaid 213 = .ok (.iload 12, 2) := by decide +kernel
theorem dL_isPaid_215 : decode cL_isPaid 215 = .ok (.isub, 1) := by decide +kernel
theorem dL_isPaid_216 : decode cL_isPaid 216 = .ok (.aload_n 3, 1) := by decide +kernel
theorem dL_isPaid_217 : decode cL_isPaid 217 = .ok (.iload 8, 2) := by decide +kernel
theorem dL_isPaid_219 : decode cL_isPaid 219 = .ok (.bipush 6, 2) := by decide +kernel
theorem dL_isPaid_221 : decode cL_isPaid 221 = .ok (.iadd, 1) := by decide +kernel
theorem dL_isPaid_222 : decode cL_isPaid 222 = .ok (.iaload, 1) := by decide +kernel
theorem dL_isPaid_223 : decode cL_isPaid 223 = .ok (.if_icmp .ge 11, 3) := by decide +kernel
theorem dL_isPaid_226 : decode cL_isPaid 226 = .ok (.iload 11, 2) := by decide +kernel
theorem dL_isPaid_228 : decode cL_isPaid 228 = .ok (.iload 12, 2) := by decide +kernel
theorem dL_isPaid_230 : decode cL_isPaid 230 = .ok (.isub, 1) := by decide +kernel
theorem dL_isPaid_231 : decode cL_isPaid 231 = .ok (.goto 10, 3) := by decide +kernel
theorem dL_isPaid_234 : decode cL_isPaid 234 = .ok (.aload_n 3, 1) := by decide +kernel
theorem dL_isPaid_235 : decode cL_isPaid 235 = .ok (.iload 8, 2) := by decide +kernel
theorem dL_isPaid_237 : decode cL_isPaid 237 = .ok (.bipush 6, 2) := by decide +kernel
theorem dL_isPaid_239 : decode cL_isPaid 239 = .ok (.iadd, 1) := by decide +kernel
theorem dL_isPaid_240 : decode cL_isPaid 240 = .ok (.iaload, 1) := by decide +kernel
theorem dL_isPaid_241 : decode cL_isPaid 241 = .ok (.istore 13, 2) := by decide +kernel
theorem dL_isPaid_243 : decode cL_isPaid 243 = .ok (.iload 13, 2) := by decide +kernel
theorem dL_isPaid_245 : decode cL_isPaid 245 = .ok (.i2l, 1) := by decide +kernel
theorem dL_isPaid_246 : decode cL_isPaid 246 = .ok (.aload_n 1, 1) := by decide +kernel
theorem dL_isPaid_247 : decode cL_isPaid 247 = .ok (.iconst 4, 1) := by decide +kernel
theorem dL_isPaid_248 : decode cL_isPaid 248 = .ok (.iaload, 1) := by decide +kernel
theorem dL_isPaid_249 : decode cL_isPaid 249 = .ok (.i2l, 1) := by decide +kernel
theorem dL_isPaid_250 : decode cL_isPaid 250 = .ok (.lmul, 1) := by decide +kernel
theorem dL_isPaid_251 : decode cL_isPaid 251 = .ok (.ldc2_w 61, 3) := by decide +kernel
theorem dL_isPaid_254 : decode cL_isPaid 254 = .ok (.ldiv, 1) := by decide +kernel
theorem dL_isPaid_255 : decode cL_isPaid 255 = .ok (.l2i, 1) := by decide +kernel
theorem dL_isPaid_256 : decode cL_isPaid 256 = .ok (.istore 14, 2) := by decide +kernel
theorem dL_isPaid_258 : decode cL_isPaid 258 = .ok (.iload 11, 2) := by decide +kernel
theorem dL_isPaid_260 : decode cL_isPaid 260 = .ok (.iload 12, 2) := by decide +kernel
theorem dL_isPaid_262 : decode cL_isPaid 262 = .ok (.isub, 1) := by decide +kernel
theorem dL_isPaid_263 : decode cL_isPaid 263 = .ok (.iload 13, 2) := by decide +kernel
theorem dL_isPaid_265 : decode cL_isPaid 265 = .ok (.isub, 1) := by decide +kernel
theorem dL_isPaid_266 : decode cL_isPaid 266 = .ok (.istore 15, 2) := by decide +kernel
theorem dL_isPaid_268 : decode cL_isPaid 268 = .ok (.aload_n 1, 1) := by decide +kernel
theorem dL_isPaid_269 : decode cL_isPaid 269 = .ok (.aload 4, 2) := by decide +kernel
theorem dL_isPaid_271 : decode cL_isPaid 271 = .ok (.iload 7, 2) := by decide +kernel
theorem dL_isPaid_273 : decode cL_isPaid 273 = .ok (.iconst 0, 1) := by decide +kernel
theorem dL_isPaid_274 : decode cL_isPaid 274 = .ok (.invokestatic 9, 3) := by decide +kernel
theorem dL_isPaid_277 : decode cL_isPaid 277 = .ok (.istore 16, 2) := by decide +kernel
theorem dL_isPaid_279 : decode cL_isPaid 279 = .ok (.iload 15, 2) := by decide +kernel
theorem dL_isPaid_281 : decode cL_isPaid 281 = .ok (.iload 16, 2) := by decide +kernel
theorem dL_isPaid_283 : decode cL_isPaid 283 = .ok (.if_icmp .ge 8, 3) := by decide +kernel
theorem dL_isPaid_286 : decode cL_isPaid 286 = .ok (.iload 15, 2) := by decide +kernel
theorem dL_isPaid_288 : decode cL_isPaid 288 = .ok (.goto 5, 3) := by decide +kernel
theorem dL_isPaid_291 : decode cL_isPaid 291 = .ok (.iload 16, 2) := by decide +kernel
theorem dL_isPaid_293 : decode cL_isPaid 293 = .ok (.istore 17, 2) := by decide +kernel
theorem dL_isPaid_295 : decode cL_isPaid 295 = .ok (.aload_n 0, 1) := by decide +kernel
theorem dL_isPaid_296 : decode cL_isPaid 296 = .ok (.iload 7, 2) := by decide +kernel
theorem dL_isPaid_298 : decode cL_isPaid 298 = .ok (.iload 11, 2) := by decide +kernel
theorem dL_isPaid_300 : decode cL_isPaid 300 = .ok (.iconst 0, 1) := by decide +kernel
theorem dL_isPaid_301 : decode cL_isPaid 301 = .ok (.invokevirtual 57, 3) := by decide +kernel
theorem dL_isPaid_304 : decode cL_isPaid 304 = .ok (.iload 12, 2) := by decide +kernel
theorem dL_isPaid_306 : decode cL_isPaid 306 = .ok (.if_icmp .ne 76, 3) := by decide +kernel
theorem dL_isPaid_309 : decode cL_isPaid 309 = .ok (.aload_n 0, 1) := by decide +kernel
theorem dL_isPaid_310 : decode cL_isPaid 310 = .ok (.iload 7, 2) := by decide +kernel
theorem dL_isPaid_312 : decode cL_isPaid 312 = .ok (.iload 11, 2) := by decide +kernel
theorem dL_isPaid_314 : decode cL_isPaid 314 = .ok (.iconst 1, 1) := by decide +kernel
theorem dL_isPaid_315 : decode cL_isPaid 315 = .ok (.invokevirtual 57, 3) := by decide +kernel
theorem dL_isPaid_318 : decode cL_isPaid 318 = .ok (.iload 13, 2) := by decide +kernel
theorem dL_isPaid_320 : decode cL_isPaid 320 = .ok (.if_icmp .ne 62, 3) := by decide +kernel
theorem dL_isPaid_323 : decode cL_isPaid 323 = .ok (.aload_n 0, 1) := by decide +kernel
theorem dL_isPaid_324 : decode cL_isPaid 324 = .ok (.iload 7, 2) := by decide +kernel
theorem dL_isPaid_326 : decode cL_isPaid 326 = .ok (.iload 11, 2) := by decide +kernel
theorem dL_isPaid_328 : decode cL_isPaid 328 = .ok (.iconst 2, 1) := by decide +kernel
theorem dL_isPaid_329 : decode cL_isPaid 329 = .ok (.invokevirtual 57, 3) := by decide +kernel
theorem dL_isPaid_332 : decode cL_isPaid 332 = .ok (.iload 14, 2) := by decide +kernel
theorem dL_isPaid_334 : decode cL_isPaid 334 = .ok (.if_icmp .ne 48, 3) := by decide +kernel
theorem dL_isPaid_337 : decode cL_isPaid 337 = .ok (.aload_n 0, 1) := by decide +kernel
theorem dL_isPaid_338 : decode cL_isPaid 338 = .ok (.iload 7, 2) := by decide +kernel
theorem dL_isPaid_340 : decode cL_isPaid 340 = .ok (.iload 11, 2) := by decide +kernel
theorem dL_isPaid_342 : decode cL_isPaid 342 = .ok (.iconst 3, 1) := by decide +kernel
theorem dL_isPaid_343 : decode cL_isPaid 343 = .ok (.invokevirtual 57, 3) := by decide +kernel
theorem dL_isPaid_346 : decode cL_isPaid 346 = .ok (.iload 15, 2) := by decide +kernel
theorem dL_isPaid_348 : decode cL_isPaid 348 = .ok (.if_icmp .ne 34, 3) := by decide +kernel
theorem dL_isPaid_351 : decode cL_isPaid 351 = .ok (.aload_n 0, 1) := by decide +kernel
theorem dL_isPaid_352 : decode cL_isPaid 352 = .ok (.iload 7, 2) := by decide +kernel
theorem dL_isPaid_354 : decode cL_isPaid 354 = .ok (.iload 11, 2) := by decide +kernel
theorem dL_isPaid_356 : decode cL_isPaid 356 = .ok (.iconst 4, 1) := by decide +kernel
theorem dL_isPaid_357 : decode cL_isPaid 357 = .ok (.invokevirtual 57, 3) := by decide +kernel
theorem dL_isPaid_360 : decode cL_isPaid 360 = .ok (.iload 17, 2) := by decide +kernel
theorem dL_isPaid_362 : decode cL_isPaid 362 = .ok (.if_icmp .ne 20, 3) := by decide +kernel
theorem dL_isPaid_365 : decode cL_isPaid 365 = .ok (.aload_n 0, 1) := by decide +kernel
theorem dL_isPaid_366 : decode cL_isPaid 366 = .ok (.iload 7, 2) := by decide +kernel
theorem dL_isPaid_368 : decode cL_isPaid 368 = .ok (.iload 11, 2) := by decide +kernel
theorem dL_isPaid_370 : decode cL_isPaid 370 = .ok (.iconst 5, 1) := by decide +kernel
theorem dL_isPaid_371 : decode cL_isPaid 371 = .ok (.invokevirtual 57, 3) := by decide +kernel
theorem dL_isPaid_374 : decode cL_isPaid 374 = .ok (.iload 15, 2) := by decide +kernel
theorem dL_isPaid_376 : decode cL_isPaid 376 = .ok (.iload 17, 2) := by decide +kernel
theorem dL_isPaid_378 : decode cL_isPaid 378 = .ok (.isub, 1) := by decide +kernel
theorem dL_isPaid_379 : decode cL_isPaid 379 = .ok (.if_icmp .eq 5, 3) := by decide +kernel
theorem dL_isPaid_382 : decode cL_isPaid 382 = .ok (.iconst 0, 1) := by decide +kernel
theorem dL_isPaid_383 : decode cL_isPaid 383 = .ok (.ireturn, 1) := by decide +kernel
theorem dL_isPaid_384 : decode cL_isPaid 384 = .ok (.aload_n 1, 1) := by decide +kernel
theorem dL_isPaid_385 : decode cL_isPaid 385 = .ok (.iconst 5, 1) := by decide +kernel
theorem dL_isPaid_386 : decode cL_isPaid 386 = .ok (.iload 10, 2) := by decide +kernel
theorem dL_isPaid_388 : decode cL_isPaid 388 = .ok (.iadd, 1) := by decide +kernel
theorem dL_isPaid_389 : decode cL_isPaid 389 = .ok (.dup2, 1) := by decide +kernel
theorem dL_isPaid_390 : decode cL_isPaid 390 = .ok (.iaload, 1) := by decide +kernel
theorem dL_isPaid_391 : decode cL_isPaid 391 = .ok (.iload 12, 2) := by decide +kernel
theorem dL_isPaid_393 : decode cL_isPaid 393 = .ok (.iadd, 1) := by decide +kernel
theorem dL_isPaid_394 : decode cL_isPaid 394 = .ok (.iastore, 1) := by decide +kernel
theorem dL_isPaid_395 : decode cL_isPaid 395 = .ok (.aload_n 1, 1) := by decide +kernel
theorem dL_isPaid_396 : decode cL_isPaid 396 = .ok (.iconst 3, 1) := by decide +kernel
theorem dL_isPaid_397 : decode cL_isPaid 397 = .ok (.dup2, 1) := by decide +kernel
theorem dL_isPaid_398 : decode cL_isPaid 398 = .ok (.iaload, 1) := by decide +kernel
theorem dL_isPaid_399 : decode cL_isPaid 399 = .ok (.iload 14, 2) := by decide +kernel
theorem dL_isPaid_401 : decode cL_isPaid 401 = .ok (.iadd, 1) := by decide +kernel
theorem dL_isPaid_402 : decode cL_isPaid 402 = .ok (.iastore, 1) := by decide +kernel
theorem dL_isPaid_403 : decode cL_isPaid 403 = .ok (.aload_n 1, 1) := by decide +kernel
theorem dL_isPaid_404 : decode cL_isPaid 404 = .ok (.aload 4, 2) := by decide +kernel
theorem dL_isPaid_406 : decode cL_isPaid 406 = .ok (.iload 7, 2) := by decide +kernel
theorem dL_isPaid_408 : decode cL_isPaid 408 = .ok (.iconst (-1), 1) := by decide +kernel
theorem dL_isPaid_409 : decode cL_isPaid 409 = .ok (.iload 13, 2) := by decide +kernel
theorem dL_isPaid_411 : decode cL_isPaid 411 = .ok (.iload 14, 2) := by decide +kernel
theorem dL_isPaid_413 : decode cL_isPaid 413 = .ok (.isub, 1) := by decide +kernel
theorem dL_isPaid_414 : decode cL_isPaid 414 = .ok (.aload 5, 2) := by decide +kernel
theorem dL_isPaid_416 : decode cL_isPaid 416 = .ok (.invokestatic 15, 3) := by decide +kernel
theorem dL_isPaid_419 : decode cL_isPaid 419 = .ok (.iconst 0, 1) := by decide +kernel
theorem dL_isPaid_420 : decode cL_isPaid 420 = .ok (.istore 18, 2) := by decide +kernel
theorem dL_isPaid_422 : decode cL_isPaid 422 = .ok (.iload 18, 2) := by decide +kernel
theorem dL_isPaid_424 : decode cL_isPaid 424 = .ok (.aload_n 1, 1) := by decide +kernel
theorem dL_isPaid_425 : decode cL_isPaid 425 = .ok (.iconst 2, 1) := by decide +kernel
theorem dL_isPaid_426 : decode cL_isPaid 426 = .ok (.iaload, 1) := by decide +kernel
theorem dL_isPaid_427 : decode cL_isPaid 427 = .ok (.if_icmp .ge 69, 3) := by decide +kernel
theorem dL_isPaid_430 : decode cL_isPaid 430 = .ok (.aload_n 2, 1) := by decide +kernel
theorem dL_isPaid_431 : decode cL_isPaid 431 = .ok (.iconst 3, 1) := by decide +kernel
theorem dL_isPaid_432 : decode cL_isPaid 432 = .ok (.aload 4, 2) := by decide +kernel
theorem dL_isPaid_434 : decode cL_isPaid 434 = .ok (.bipush 6, 2) := by decide +kernel
theorem dL_isPaid_436 : decode cL_isPaid 436 = .ok (.iload 18, 2) := by decide +kernel
theorem dL_isPaid_438 : decode cL_isPaid 438 = .ok (.imul, 1) := by decide +kernel
theorem dL_isPaid_439 : decode cL_isPaid 439 = .ok (.iaload, 1) := by decide +kernel
theorem dL_isPaid_440 : decode cL_isPaid 440 = .ok (.imul, 1) := by decide +kernel
theorem dL_isPaid_441 : decode cL_isPaid 441 = .ok (.dup2, 1) := by decide +kernel
theorem dL_isPaid_442 : decode cL_isPaid 442 = .ok (.iaload, 1) := by decide +kernel
theorem dL_isPaid_443 : decode cL_isPaid 443 = .ok (.aload 5, 2) := by decide +kernel
theorem dL_isPaid_445 : decode cL_isPaid 445 = .ok (.iload 18, 2) := by decide +kernel
theorem dL_isPaid_447 : decode cL_isPaid 447 = .ok (.iaload, 1) := by decide +kernel
theorem dL_isPaid_448 : decode cL_isPaid 448 = .ok (.iadd, 1) := by decide +kernel
theorem dL_isPaid_449 : decode cL_isPaid 449 = .ok (.iastore, 1) := by decide +kernel
theorem dL_isPaid_450 : decode cL_isPaid 450 = .ok (.aload_n 2, 1) := by decide +kernel
theorem dL_isPaid_451 : decode cL_isPaid 451 = .ok (.iconst 3, 1) := by decide +kernel
theorem dL_isPaid_452 : decode cL_isPaid 452 = .ok (.aload 4, 2) := by decide +kernel
theorem dL_isPaid_454 : decode cL_isPaid 454 = .ok (.bipush 6, 2) := by decide +kernel
theorem dL_isPaid_456 : decode cL_isPaid 456 = .ok (.iload 18, 2) := by decide +kernel
theorem dL_isPaid_458 : decode cL_isPaid 458 = .ok (.imul, 1) := by decide +kernel
