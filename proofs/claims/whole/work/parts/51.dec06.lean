theorem d_Mo_table_256 : decode b_Mo_table 256 = .ok (.if_icmp .ge 46, 3) := by decide +kernel
theorem d_Mo_table_259 : decode b_Mo_table 259 = .ok (.aload_n 0, 1) := by decide +kernel
theorem d_Mo_table_260 : decode b_Mo_table 260 = .ok (.getfield 108, 3) := by decide +kernel
theorem d_Mo_table_263 : decode b_Mo_table 263 = .ok (.ifCond .ne 39, 3) := by decide +kernel
theorem d_Mo_table_266 : decode b_Mo_table 266 = .ok (.aload_n 0, 1) := by decide +kernel
theorem d_Mo_table_267 : decode b_Mo_table 267 = .ok (.getfield 28, 3) := by decide +kernel
theorem d_Mo_table_270 : decode b_Mo_table 270 = .ok (.iload 4, 2) := by decide +kernel
theorem d_Mo_table_272 : decode b_Mo_table 272 = .ok (.iload 5, 2) := by decide +kernel
theorem d_Mo_table_274 : decode b_Mo_table 274 = .ok (.bipush 16, 2) := by decide +kernel
theorem d_Mo_table_276 : decode b_Mo_table 276 = .ok (.if_icmp .ne 15, 3) := by decide +kernel
theorem d_Mo_table_279 : decode b_Mo_table 279 = .ok (.aload_n 0, 1) := by decide +kernel
theorem d_Mo_table_280 : decode b_Mo_table 280 = .ok (.getfield 28, 3) := by decide +kernel
theorem d_Mo_table_283 : decode b_Mo_table 283 = .ok (.iload 4, 2) := by decide +kernel
theorem d_Mo_table_285 : decode b_Mo_table 285 = .ok (.iconst 1, 1) := by decide +kernel
theorem d_Mo_table_286 : decode b_Mo_table 286 = .ok (.isub, 1) := by decide +kernel
theorem d_Mo_table_287 : decode b_Mo_table 287 = .ok (.iaload, 1) := by decide +kernel
theorem d_Mo_table_288 : decode b_Mo_table 288 = .ok (.goto 4, 3) := by decide +kernel
theorem d_Mo_table_291 : decode b_Mo_table 291 = .ok (.iconst 0, 1) := by decide +kernel
theorem d_Mo_table_292 : decode b_Mo_table 292 = .ok (.iastore, 1) := by decide +kernel
theorem d_Mo_table_293 : decode b_Mo_table 293 = .ok (.iinc 4 1, 3) := by decide +kernel
theorem d_Mo_table_296 : decode b_Mo_table 296 = .ok (.iinc 7 1, 3) := by decide +kernel
theorem d_Mo_table_299 : decode b_Mo_table 299 = .ok (.goto (-47), 3) := by decide +kernel
theorem d_Mo_table_302 : decode b_Mo_table 302 = .ok (.goto (-182), 3) := by decide +kernel
theorem d_Mo_table_305 : decode b_Mo_table 305 = .ok (.iconst 0, 1) := by decide +kernel
theorem d_Mo_table_306 : decode b_Mo_table 306 = .ok (.istore 5, 2) := by decide +kernel
theorem d_Mo_table_308 : decode b_Mo_table 308 = .ok (.iload 5, 2) := by decide +kernel
theorem d_Mo_table_310 : decode b_Mo_table 310 = .ok (.sipush 288, 3) := by decide +kernel
theorem d_Mo_table_313 : decode b_Mo_table 313 = .ok (.if_icmp .ge 33, 3) := by decide +kernel
theorem d_Mo_table_316 : decode b_Mo_table 316 = .ok (.aload_n 0, 1) := by decide +kernel
theorem d_Mo_table_317 : decode b_Mo_table 317 = .ok (.getfield 21, 3) := by decide +kernel
theorem d_Mo_table_320 : decode b_Mo_table 320 = .ok (.iload 5, 2) := by decide +kernel
theorem d_Mo_table_322 : decode b_Mo_table 322 = .ok (.iload 5, 2) := by decide +kernel
theorem d_Mo_table_324 : decode b_Mo_table 324 = .ok (.iload_n 1, 1) := by decide +kernel
theorem d_Mo_table_325 : decode b_Mo_table 325 = .ok (.if_icmp .ge 13, 3) := by decide +kernel
theorem d_Mo_table_328 : decode b_Mo_table 328 = .ok (.aload_n 0, 1) := by decide +kernel
theorem d_Mo_table_329 : decode b_Mo_table 329 = .ok (.getfield 28, 3) := by decide +kernel
theorem d_Mo_table_332 : decode b_Mo_table 332 = .ok (.iload 5, 2) := by decide +kernel
theorem d_Mo_table_334 : decode b_Mo_table 334 = .ok (.iaload, 1) := by decide +kernel
theorem d_Mo_table_335 : decode b_Mo_table 335 = .ok (.goto 4, 3) := by decide +kernel
theorem d_Mo_table_338 : decode b_Mo_table 338 = .ok (.iconst 0, 1) := by decide +kernel
theorem d_Mo_table_339 : decode b_Mo_table 339 = .ok (.iastore, 1) := by decide +kernel
theorem d_Mo_table_340 : decode b_Mo_table 340 = .ok (.iinc 5 1, 3) := by decide +kernel
theorem d_Mo_table_343 : decode b_Mo_table 343 = .ok (.goto (-35), 3) := by decide +kernel
theorem d_Mo_table_346 : decode b_Mo_table 346 = .ok (.iconst 0, 1) := by decide +kernel
theorem d_Mo_table_347 : decode b_Mo_table 347 = .ok (.istore 5, 2) := by decide +kernel
theorem d_Mo_table_349 : decode b_Mo_table 349 = .ok (.iload 5, 2) := by decide +kernel
theorem d_Mo_table_351 : decode b_Mo_table 351 = .ok (.bipush 32, 2) := by decide +kernel
theorem d_Mo_table_353 : decode b_Mo_table 353 = .ok (.if_icmp .ge 39, 3) := by decide +kernel
theorem d_Mo_table_356 : decode b_Mo_table 356 = .ok (.aload_n 0, 1) := by decide +kernel
theorem d_Mo_table_357 : decode b_Mo_table 357 = .ok (.getfield 21, 3) := by decide +kernel
theorem d_Mo_table_360 : decode b_Mo_table 360 = .ok (.sipush 288, 3) := by decide +kernel
theorem d_Mo_table_363 : decode b_Mo_table 363 = .ok (.iload 5, 2) := by decide +kernel
theorem d_Mo_table_365 : decode b_Mo_table 365 = .ok (.iadd, 1) := by decide +kernel
theorem d_Mo_table_366 : decode b_Mo_table 366 = .ok (.iload 5, 2) := by decide +kernel
theorem d_Mo_table_368 : decode b_Mo_table 368 = .ok (.iload_n 2, 1) := by decide +kernel
theorem d_Mo_table_369 : decode b_Mo_table 369 = .ok (.if_icmp .ge 15, 3) := by decide +kernel
theorem d_Mo_table_372 : decode b_Mo_table 372 = .ok (.aload_n 0, 1) := by decide +kernel
theorem d_Mo_table_373 : decode b_Mo_table 373 = .ok (.getfield 28, 3) := by decide +kernel
theorem d_Mo_table_376 : decode b_Mo_table 376 = .ok (.iload_n 1, 1) := by decide +kernel
theorem d_Mo_table_377 : decode b_Mo_table 377 = .ok (.iload 5, 2) := by decide +kernel
theorem d_Mo_table_379 : decode b_Mo_table 379 = .ok (.iadd, 1) := by decide +kernel
theorem d_Mo_table_380 : decode b_Mo_table 380 = .ok (.iaload, 1) := by decide +kernel
theorem d_Mo_table_381 : decode b_Mo_table 381 = .ok (.goto 4, 3) := by decide +kernel
theorem d_Mo_table_384 : decode b_Mo_table 384 = .ok (.iconst 0, 1) := by decide +kernel
theorem d_Mo_table_385 : decode b_Mo_table 385 = .ok (.iastore, 1) := by decide +kernel
theorem d_Mo_table_386 : decode b_Mo_table 386 = .ok (.iinc 5 1, 3) := by decide +kernel
theorem d_Mo_table_389 : decode b_Mo_table 389 = .ok (.goto (-40), 3) := by decide +kernel
theorem d_Mo_table_392 : decode b_Mo_table 392 = .ok (.aload_n 0, 1) := by decide +kernel
theorem d_Mo_table_393 : decode b_Mo_table 393 = .ok (.iconst 0, 1) := by decide +kernel
theorem d_Mo_table_394 : decode b_Mo_table 394 = .ok (.sipush 288, 3) := by decide +kernel
theorem d_Mo_table_397 : decode b_Mo_table 397 = .ok (.invokevirtual 135, 3) := by decide +kernel
theorem d_Mo_table_400 : decode b_Mo_table 400 = .ok (.ldc 90, 2) := by decide +kernel
theorem d_Mo_table_402 : decode b_Mo_table 402 = .ok (.if_icmp .ne 14, 3) := by decide +kernel
theorem d_Mo_table_405 : decode b_Mo_table 405 = .ok (.aload_n 0, 1) := by decide +kernel
theorem d_Mo_table_406 : decode b_Mo_table 406 = .ok (.getfield 21, 3) := by decide +kernel
theorem d_Mo_table_409 : decode b_Mo_table 409 = .ok (.sipush 256, 3) := by decide +kernel
theorem d_Mo_table_412 : decode b_Mo_table 412 = .ok (.iaload, 1) := by decide +kernel
theorem d_Mo_table_413 : decode b_Mo_table 413 = .ok (.ifCond .ne 8, 3) := by decide +kernel
theorem d_Mo_table_416 : decode b_Mo_table 416 = .ok (.aload_n 0, 1) := by decide +kernel
theorem d_Mo_table_417 : decode b_Mo_table 417 = .ok (.iconst 1, 1) := by decide +kernel
theorem d_Mo_table_418 : decode b_Mo_table 418 = .ok (.putfield 108, 3) := by decide +kernel
theorem d_Mo_table_421 : decode b_Mo_table 421 = .ok (.aload_n 0, 1) := by decide +kernel
theorem d_Mo_table_422 : decode b_Mo_table 422 = .ok (.sipush 288, 3) := by decide +kernel
theorem d_Mo_table_425 : decode b_Mo_table 425 = .ok (.bipush 32, 2) := by decide +kernel
theorem d_Mo_table_427 : decode b_Mo_table 427 = .ok (.invokevirtual 135, 3) := by decide +kernel
theorem d_Mo_table_430 : decode b_Mo_table 430 = .ok (.istore 5, 2) := by decide +kernel
theorem d_Mo_table_432 : decode b_Mo_table 432 = .ok (.iconst 0, 1) := by decide +kernel
theorem d_Mo_table_433 : decode b_Mo_table 433 = .ok (.istore 6, 2) := by decide +kernel
theorem d_Mo_table_435 : decode b_Mo_table 435 = .ok (.iconst 0, 1) := by decide +kernel
theorem d_Mo_table_436 : decode b_Mo_table 436 = .ok (.istore 7, 2) := by decide +kernel
theorem d_Mo_table_438 : decode b_Mo_table 438 = .ok (.iload 7, 2) := by decide +kernel
theorem d_Mo_table_440 : decode b_Mo_table 440 = .ok (.bipush 32, 2) := by decide +kernel
theorem d_Mo_table_442 : decode b_Mo_table 442 = .ok (.if_icmp .ge 26, 3) := by decide +kernel
theorem d_Mo_table_445 : decode b_Mo_table 445 = .ok (.aload_n 0, 1) := by decide +kernel
theorem d_Mo_table_446 : decode b_Mo_table 446 = .ok (.getfield 21, 3) := by decide +kernel
theorem d_Mo_table_449 : decode b_Mo_table 449 = .ok (.sipush 288, 3) := by decide +kernel
theorem d_Mo_table_452 : decode b_Mo_table 452 = .ok (.iload 7, 2) := by decide +kernel
theorem d_Mo_table_454 : decode b_Mo_table 454 = .ok (.iadd, 1) := by decide +kernel
theorem d_Mo_table_455 : decode b_Mo_table 455 = .ok (.iaload, 1) := by decide +kernel
theorem d_Mo_table_456 : decode b_Mo_table 456 = .ok (.ifCond .le 6, 3) := by decide +kernel
theorem d_Mo_table_459 : decode b_Mo_table 459 = .ok (.iinc 6 1, 3) := by decide +kernel
theorem d_Mo_table_462 : decode b_Mo_table 462 = .ok (.iinc 7 1, 3) := by decide +kernel
theorem d_Mo_table_465 : decode b_Mo_table 465 = .ok (.goto (-27), 3) := by decide +kernel
theorem d_Mo_table_468 : decode b_Mo_table 468 = .ok (.iload 5, 2) := by decide +kernel
theorem d_Mo_table_470 : decode b_Mo_table 470 = .ok (.ldc 90, 2) := by decide +kernel
theorem d_Mo_table_472 : decode b_Mo_table 472 = .ok (.if_icmp .eq 27, 3) := by decide +kernel
theorem d_Mo_table_475 : decode b_Mo_table 475 = .ok (.iload 6, 2) := by decide +kernel
theorem d_Mo_table_477 : decode b_Mo_table 477 = .ok (.ifCond .le 22, 3) := by decide +kernel
theorem d_Mo_table_480 : decode b_Mo_table 480 = .ok (.iload 6, 2) := by decide +kernel
theorem d_Mo_table_482 : decode b_Mo_table 482 = .ok (.iconst 1, 1) := by decide +kernel
theorem d_Mo_table_483 : decode b_Mo_table 483 = .ok (.if_icmp .ne 11, 3) := by decide +kernel
theorem d_Mo_table_486 : decode b_Mo_table 486 = .ok (.iload 5, 2) := by decide +kernel
theorem d_Mo_table_488 : decode b_Mo_table 488 = .ok (.sipush 16384, 3) := by decide +kernel
theorem d_Mo_table_491 : decode b_Mo_table 491 = .ok (.if_icmp .eq 8, 3) := by decide +kernel
theorem d_Mo_table_494 : decode b_Mo_table 494 = .ok (.aload_n 0, 1) := by decide +kernel
theorem d_Mo_table_495 : decode b_Mo_table 495 = .ok (.iconst 1, 1) := by decide +kernel
theorem d_Mo_table_496 : decode b_Mo_table 496 = .ok (.putfield 108, 3) := by decide +kernel
theorem d_Mo_table_499 : decode b_Mo_table 499 = .ok (.return_, 1) := by decide +kernel
theorem d_Mo_block_0 : decode b_Mo_block 0 = .ok (.aload_n 0, 1) := by decide +kernel
theorem d_Mo_block_1 : decode b_Mo_block 1 = .ok (.dup, 1) := by decide +kernel
theorem d_Mo_block_2 : decode b_Mo_block 2 = .ok (.getfield 141, 3) := by decide +kernel
theorem d_Mo_block_5 : decode b_Mo_block 5 = .ok (.iconst 1, 1) := by decide +kernel
theorem d_Mo_block_6 : decode b_Mo_block 6 = .ok (.iadd, 1) := by decide +kernel
theorem d_Mo_block_7 : decode b_Mo_block 7 = .ok (.putfield 141, 3) := by decide +kernel
theorem d_Mo_block_10 : decode b_Mo_block 10 = .ok (.iload_n 1, 1) := by decide +kernel
theorem d_Mo_block_11 : decode b_Mo_block 11 = .ok (.iconst 3, 1) := by decide +kernel
theorem d_Mo_block_12 : decode b_Mo_block 12 = .ok (.if_icmp .ne 8, 3) := by decide +kernel
theorem d_Mo_block_15 : decode b_Mo_block 15 = .ok (.aload_n 0, 1) := by decide +kernel
theorem d_Mo_block_16 : decode b_Mo_block 16 = .ok (.iconst 1, 1) := by decide +kernel
theorem d_Mo_block_17 : decode b_Mo_block 17 = .ok (.putfield 108, 3) := by decide +kernel
theorem d_Mo_block_20 : decode b_Mo_block 20 = .ok (.iload_n 1, 1) := by decide +kernel
theorem d_Mo_block_21 : decode b_Mo_block 21 = .ok (.ifCond .ne 7, 3) := by decide +kernel
theorem d_Mo_block_24 : decode b_Mo_block 24 = .ok (.aload_n 0, 1) := by decide +kernel
theorem d_Mo_block_25 : decode b_Mo_block 25 = .ok (.invokevirtual 144, 3) := by decide +kernel
theorem d_Mo_block_28 : decode b_Mo_block 28 = .ok (.iload_n 1, 1) := by decide +kernel
theorem d_Mo_block_29 : decode b_Mo_block 29 = .ok (.iconst 1, 1) := by decide +kernel
theorem d_Mo_block_30 : decode b_Mo_block 30 = .ok (.if_icmp .ne 7, 3) := by decide +kernel
theorem d_Mo_block_33 : decode b_Mo_block 33 = .ok (.aload_n 0, 1) := by decide +kernel
theorem d_Mo_block_34 : decode b_Mo_block 34 = .ok (.invokevirtual 147, 3) := by decide +kernel
theorem d_Mo_block_37 : decode b_Mo_block 37 = .ok (.iload_n 1, 1) := by decide +kernel
theorem d_Mo_block_38 : decode b_Mo_block 38 = .ok (.iconst 2, 1) := by decide +kernel
theorem d_Mo_block_39 : decode b_Mo_block 39 = .ok (.if_icmp .ne 17, 3) := by decide +kernel
theorem d_Mo_block_42 : decode b_Mo_block 42 = .ok (.aload_n 0, 1) := by decide +kernel
theorem d_Mo_block_43 : decode b_Mo_block 43 = .ok (.dup, 1) := by decide +kernel
theorem d_Mo_block_44 : decode b_Mo_block 44 = .ok (.getfield 150, 3) := by decide +kernel
theorem d_Mo_block_47 : decode b_Mo_block 47 = .ok (.iconst 1, 1) := by decide +kernel
theorem d_Mo_block_48 : decode b_Mo_block 48 = .ok (.iadd, 1) := by decide +kernel
theorem d_Mo_block_49 : decode b_Mo_block 49 = .ok (.putfield 150, 3) := by decide +kernel
theorem d_Mo_block_52 : decode b_Mo_block 52 = .ok (.aload_n 0, 1) := by decide +kernel
theorem d_Mo_block_53 : decode b_Mo_block 53 = .ok (.invokevirtual 153, 3) := by decide +kernel
theorem d_Mo_block_56 : decode b_Mo_block 56 = .ok (.aload_n 0, 1) := by decide +kernel
theorem d_Mo_block_57 : decode b_Mo_block 57 = .ok (.getfield 108, 3) := by decide +kernel
theorem d_Mo_block_60 : decode b_Mo_block 60 = .ok (.ifCond .ne 7, 3) := by decide +kernel
theorem d_Mo_block_63 : decode b_Mo_block 63 = .ok (.iload_n 1, 1) := by decide +kernel
theorem d_Mo_block_64 : decode b_Mo_block 64 = .ok (.ifCond .ne 4, 3) := by decide +kernel
theorem d_Mo_block_67 : decode b_Mo_block 67 = .ok (.return_, 1) := by decide +kernel
theorem d_Mo_block_68 : decode b_Mo_block 68 = .ok (.aload_n 0, 1) := by decide +kernel
theorem d_Mo_block_69 : decode b_Mo_block 69 = .ok (.iconst 0, 1) := by decide +kernel
theorem d_Mo_block_70 : decode b_Mo_block 70 = .ok (.sipush 288, 3) := by decide +kernel
theorem d_Mo_block_73 : decode b_Mo_block 73 = .ok (.invokevirtual 138, 3) := by decide +kernel
theorem d_Mo_block_76 : decode b_Mo_block 76 = .ok (.aload_n 0, 1) := by decide +kernel
theorem d_Mo_block_77 : decode b_Mo_block 77 = .ok (.sipush 288, 3) := by decide +kernel
theorem d_Mo_block_80 : decode b_Mo_block 80 = .ok (.bipush 32, 2) := by decide +kernel
theorem d_Mo_block_82 : decode b_Mo_block 82 = .ok (.invokevirtual 138, 3) := by decide +kernel
theorem d_Mo_block_85 : decode b_Mo_block 85 = .ok (.aload_n 0, 1) := by decide +kernel
theorem d_Mo_block_86 : decode b_Mo_block 86 = .ok (.invokevirtual 156, 3) := by decide +kernel
theorem d_Mo_block_89 : decode b_Mo_block 89 = .ok (.return_, 1) := by decide +kernel
theorem d_Mo_open_0 : decode b_Mo_open 0 = .ok (.aload_n 0, 1) := by decide +kernel
theorem d_Mo_open_1 : decode b_Mo_open 1 = .ok (.iconst 0, 1) := by decide +kernel
theorem d_Mo_open_2 : decode b_Mo_open 2 = .ok (.putfield 43, 3) := by decide +kernel
theorem d_Mo_open_5 : decode b_Mo_open 5 = .ok (.aload_n 0, 1) := by decide +kernel
theorem d_Mo_open_6 : decode b_Mo_open 6 = .ok (.aload_n 0, 1) := by decide +kernel
theorem d_Mo_open_7 : decode b_Mo_open 7 = .ok (.getfield 47, 3) := by decide +kernel
theorem d_Mo_open_10 : decode b_Mo_open 10 = .ok (.iconst 2, 1) := by decide +kernel
theorem d_Mo_open_11 : decode b_Mo_open 11 = .ok (.if_icmp .ge 7, 3) := by decide +kernel
theorem d_Mo_open_14 : decode b_Mo_open 14 = .ok (.iconst 1, 1) := by decide +kernel
theorem d_Mo_open_15 : decode b_Mo_open 15 = .ok (.goto 4, 3) := by decide +kernel
theorem d_Mo_open_18 : decode b_Mo_open 18 = .ok (.iconst 0, 1) := by decide +kernel
theorem d_Mo_open_19 : decode b_Mo_open 19 = .ok (.putfield 108, 3) := by decide +kernel
theorem d_Mo_open_22 : decode b_Mo_open 22 = .ok (.aload_n 0, 1) := by decide +kernel
theorem d_Mo_open_23 : decode b_Mo_open 23 = .ok (.iconst 0, 1) := by decide +kernel
theorem d_Mo_open_24 : decode b_Mo_open 24 = .ok (.putfield 105, 3) := by decide +kernel
theorem d_Mo_open_27 : decode b_Mo_open 27 = .ok (.aload_n 0, 1) := by decide +kernel
theorem d_Mo_open_28 : decode b_Mo_open 28 = .ok (.iconst 0, 1) := by decide +kernel
theorem d_Mo_open_29 : decode b_Mo_open 29 = .ok (.putfield 116, 3) := by decide +kernel
theorem d_Mo_open_32 : decode b_Mo_open 32 = .ok (.aload_n 0, 1) := by decide +kernel
theorem d_Mo_open_33 : decode b_Mo_open 33 = .ok (.iconst 0, 1) := by decide +kernel
theorem d_Mo_open_34 : decode b_Mo_open 34 = .ok (.putfield 141, 3) := by decide +kernel
theorem d_Mo_open_37 : decode b_Mo_open 37 = .ok (.aload_n 0, 1) := by decide +kernel
theorem d_Mo_open_38 : decode b_Mo_open 38 = .ok (.iconst 0, 1) := by decide +kernel
theorem d_Mo_open_39 : decode b_Mo_open 39 = .ok (.putfield 150, 3) := by decide +kernel
theorem d_Mo_open_42 : decode b_Mo_open 42 = .ok (.aload_n 0, 1) := by decide +kernel
theorem d_Mo_open_43 : decode b_Mo_open 43 = .ok (.bipush 8, 2) := by decide +kernel
theorem d_Mo_open_45 : decode b_Mo_open 45 = .ok (.invokevirtual 119, 3) := by decide +kernel
theorem d_Mo_open_48 : decode b_Mo_open 48 = .ok (.istore_n 1, 1) := by decide +kernel
theorem d_Mo_open_49 : decode b_Mo_open 49 = .ok (.aload_n 0, 1) := by decide +kernel
theorem d_Mo_open_50 : decode b_Mo_open 50 = .ok (.bipush 8, 2) := by decide +kernel
theorem d_Mo_open_52 : decode b_Mo_open 52 = .ok (.invokevirtual 119, 3) := by decide +kernel
theorem d_Mo_open_55 : decode b_Mo_open 55 = .ok (.istore_n 2, 1) := by decide +kernel
theorem d_Mo_open_56 : decode b_Mo_open 56 = .ok (.iload_n 1, 1) := by decide +kernel
theorem d_Mo_open_57 : decode b_Mo_open 57 = .ok (.bipush 16, 2) := by decide +kernel
theorem d_Mo_open_59 : decode b_Mo_open 59 = .ok (.irem, 1) := by decide +kernel
theorem d_Mo_open_60 : decode b_Mo_open 60 = .ok (.bipush 8, 2) := by decide +kernel
theorem d_Mo_open_62 : decode b_Mo_open 62 = .ok (.if_icmp .ne 32, 3) := by decide +kernel
theorem d_Mo_open_65 : decode b_Mo_open 65 = .ok (.iload_n 1, 1) := by decide +kernel
theorem d_Mo_open_66 : decode b_Mo_open 66 = .ok (.bipush 16, 2) := by decide +kernel
theorem d_Mo_open_68 : decode b_Mo_open 68 = .ok (.idiv, 1) := by decide +kernel
theorem d_Mo_open_69 : decode b_Mo_open 69 = .ok (.bipush 7, 2) := by decide +kernel
theorem d_Mo_open_71 : decode b_Mo_open 71 = .ok (.if_icmp .gt 23, 3) := by decide +kernel
theorem d_Mo_open_74 : decode b_Mo_open 74 = .ok (.iload_n 1, 1) := by decide +kernel
theorem d_Mo_open_75 : decode b_Mo_open 75 = .ok (.sipush 256, 3) := by decide +kernel
theorem d_Mo_open_78 : decode b_Mo_open 78 = .ok (.imul, 1) := by decide +kernel
theorem d_Mo_open_79 : decode b_Mo_open 79 = .ok (.iload_n 2, 1) := by decide +kernel
theorem d_Mo_open_80 : decode b_Mo_open 80 = .ok (.iadd, 1) := by decide +kernel
theorem d_Mo_open_81 : decode b_Mo_open 81 = .ok (.bipush 31, 2) := by decide +kernel
theorem d_Mo_open_83 : decode b_Mo_open 83 = .ok (.irem, 1) := by decide +kernel
theorem d_Mo_open_84 : decode b_Mo_open 84 = .ok (.ifCond .ne 10, 3) := by decide +kernel
theorem d_Mo_open_87 : decode b_Mo_open 87 = .ok (.iload_n 2, 1) := by decide +kernel
theorem d_Mo_open_88 : decode b_Mo_open 88 = .ok (.bipush 32, 2) := by decide +kernel
theorem d_Mo_open_90 : decode b_Mo_open 90 = .ok (.iand, 1) := by decide +kernel
theorem d_Mo_open_91 : decode b_Mo_open 91 = .ok (.ifCond .eq 8, 3) := by decide +kernel
theorem d_Mo_open_94 : decode b_Mo_open 94 = .ok (.aload_n 0, 1) := by decide +kernel
theorem d_Mo_open_95 : decode b_Mo_open 95 = .ok (.iconst 1, 1) := by decide +kernel
theorem d_Mo_open_96 : decode b_Mo_open 96 = .ok (.putfield 108, 3) := by decide +kernel
theorem d_Mo_open_99 : decode b_Mo_open 99 = .ok (.iconst 0, 1) := by decide +kernel
theorem d_Mo_open_100 : decode b_Mo_open 100 = .ok (.istore_n 3, 1) := by decide +kernel
theorem d_Mo_open_101 : decode b_Mo_open 101 = .ok (.iload_n 3, 1) := by decide +kernel
theorem d_Mo_open_102 : decode b_Mo_open 102 = .ok (.ifCond .ne 36, 3) := by decide +kernel
theorem d_Mo_open_105 : decode b_Mo_open 105 = .ok (.aload_n 0, 1) := by decide +kernel
theorem d_Mo_open_106 : decode b_Mo_open 106 = .ok (.getfield 108, 3) := by decide +kernel
theorem d_Mo_open_109 : decode b_Mo_open 109 = .ok (.ifCond .ne 29, 3) := by decide +kernel
theorem d_Mo_open_112 : decode b_Mo_open 112 = .ok (.aload_n 0, 1) := by decide +kernel
theorem d_Mo_open_113 : decode b_Mo_open 113 = .ok (.invokevirtual 112, 3) := by decide +kernel
theorem d_Mo_open_116 : decode b_Mo_open 116 = .ok (.iconst 1, 1) := by decide +kernel
theorem d_Mo_open_117 : decode b_Mo_open 117 = .ok (.if_icmp .ne 7, 3) := by decide +kernel
theorem d_Mo_open_120 : decode b_Mo_open 120 = .ok (.iconst 1, 1) := by decide +kernel
theorem d_Mo_open_121 : decode b_Mo_open 121 = .ok (.goto 4, 3) := by decide +kernel
theorem d_Mo_open_124 : decode b_Mo_open 124 = .ok (.iconst 0, 1) := by decide +kernel
theorem d_Mo_open_125 : decode b_Mo_open 125 = .ok (.istore_n 3, 1) := by decide +kernel
theorem d_Mo_open_126 : decode b_Mo_open 126 = .ok (.aload_n 0, 1) := by decide +kernel
theorem d_Mo_open_127 : decode b_Mo_open 127 = .ok (.aload_n 0, 1) := by decide +kernel
theorem d_Mo_open_128 : decode b_Mo_open 128 = .ok (.iconst 2, 1) := by decide +kernel
theorem d_Mo_open_129 : decode b_Mo_open 129 = .ok (.invokevirtual 119, 3) := by decide +kernel
theorem d_Mo_open_132 : decode b_Mo_open 132 = .ok (.invokevirtual 159, 3) := by decide +kernel
theorem d_Mo_open_135 : decode b_Mo_open 135 = .ok (.goto (-34), 3) := by decide +kernel
theorem d_Mo_open_138 : decode b_Mo_open 138 = .ok (.aload_n 0, 1) := by decide +kernel
theorem d_Mo_open_139 : decode b_Mo_open 139 = .ok (.aload_n 0, 1) := by decide +kernel
theorem d_Mo_open_140 : decode b_Mo_open 140 = .ok (.getfield 105, 3) := by decide +kernel
theorem d_Mo_open_143 : decode b_Mo_open 143 = .ok (.bipush 7, 2) := by decide +kernel
theorem d_Mo_open_145 : decode b_Mo_open 145 = .ok (.iadd, 1) := by decide +kernel
theorem d_Mo_open_146 : decode b_Mo_open 146 = .ok (.bipush 8, 2) := by decide +kernel
theorem d_Mo_open_148 : decode b_Mo_open 148 = .ok (.idiv, 1) := by decide +kernel
theorem d_Mo_open_149 : decode b_Mo_open 149 = .ok (.bipush 8, 2) := by decide +kernel
theorem d_Mo_open_151 : decode b_Mo_open 151 = .ok (.imul, 1) := by decide +kernel
theorem d_Mo_open_152 : decode b_Mo_open 152 = .ok (.putfield 105, 3) := by decide +kernel
theorem d_Mo_open_155 : decode b_Mo_open 155 = .ok (.iconst 0, 1) := by decide +kernel
theorem d_Mo_open_156 : decode b_Mo_open 156 = .ok (.istore 4, 2) := by decide +kernel
theorem d_Mo_open_158 : decode b_Mo_open 158 = .ok (.iconst 0, 1) := by decide +kernel
theorem d_Mo_open_159 : decode b_Mo_open 159 = .ok (.istore 5, 2) := by decide +kernel
theorem d_Mo_open_161 : decode b_Mo_open 161 = .ok (.iload 5, 2) := by decide +kernel
theorem d_Mo_open_163 : decode b_Mo_open 163 = .ok (.iconst 4, 1) := by decide +kernel
theorem d_Mo_open_164 : decode b_Mo_open 164 = .ok (.if_icmp .ge 23, 3) := by decide +kernel
theorem d_Mo_open_167 : decode b_Mo_open 167 = .ok (.iload 4, 2) := by decide +kernel
theorem d_Mo_open_169 : decode b_Mo_open 169 = .ok (.bipush 8, 2) := by decide +kernel
theorem d_Mo_open_171 : decode b_Mo_open 171 = .ok (.ishl, 1) := by decide +kernel
theorem d_Mo_open_172 : decode b_Mo_open 172 = .ok (.aload_n 0, 1) := by decide +kernel
theorem d_Mo_open_173 : decode b_Mo_open 173 = .ok (.bipush 8, 2) := by decide +kernel
theorem d_Mo_open_175 : decode b_Mo_open 175 = .ok (.invokevirtual 119, 3) := by decide +kernel
theorem d_Mo_open_178 : decode b_Mo_open 178 = .ok (.ior, 1) := by decide +kernel
theorem d_Mo_open_179 : decode b_Mo_open 179 = .ok (.istore 4, 2) := by decide +kernel
theorem d_Mo_open_181 : decode b_Mo_open 181 = .ok (.iinc 5 1, 3) := by decide +kernel
theorem d_Mo_open_184 : decode b_Mo_open 184 = .ok (.goto (-23), 3) := by decide +kernel
theorem d_Mo_open_187 : decode b_Mo_open 187 = .ok (.aload_n 0, 1) := by decide +kernel
theorem d_Mo_open_188 : decode b_Mo_open 188 = .ok (.getfield 108, 3) := by decide +kernel
theorem d_Mo_open_191 : decode b_Mo_open 191 = .ok (.ifCond .ne 34, 3) := by decide +kernel
theorem d_Mo_open_194 : decode b_Mo_open 194 = .ok (.aload_n 0, 1) := by decide +kernel
theorem d_Mo_open_195 : decode b_Mo_open 195 = .ok (.getfield 105, 3) := by decide +kernel
theorem d_Mo_open_198 : decode b_Mo_open 198 = .ok (.aload_n 0, 1) := by decide +kernel
theorem d_Mo_open_199 : decode b_Mo_open 199 = .ok (.getfield 47, 3) := by decide +kernel
theorem d_Mo_open_202 : decode b_Mo_open 202 = .ok (.bipush 8, 2) := by decide +kernel
theorem d_Mo_open_204 : decode b_Mo_open 204 = .ok (.imul, 1) := by decide +kernel
theorem d_Mo_open_205 : decode b_Mo_open 205 = .ok (.if_icmp .ne 20, 3) := by decide +kernel
theorem d_Mo_open_208 : decode b_Mo_open 208 = .ok (.iload 4, 2) := by decide +kernel
theorem d_Mo_open_210 : decode b_Mo_open 210 = .ok (.aload_n 0, 1) := by decide +kernel
theorem d_Mo_open_211 : decode b_Mo_open 211 = .ok (.aload_n 0, 1) := by decide +kernel
theorem d_Mo_open_212 : decode b_Mo_open 212 = .ok (.getfield 18, 3) := by decide +kernel
theorem d_Mo_open_215 : decode b_Mo_open 215 = .ok (.aload_n 0, 1) := by decide +kernel
theorem d_Mo_open_216 : decode b_Mo_open 216 = .ok (.getfield 116, 3) := by decide +kernel
theorem d_Mo_open_219 : decode b_Mo_open 219 = .ok (.invokevirtual 101, 3) := by decide +kernel
theorem d_Mo_open_222 : decode b_Mo_open 222 = .ok (.if_icmp .eq 19, 3) := by decide +kernel
theorem d_Mo_open_225 : decode b_Mo_open 225 = .ok (.aload_n 0, 1) := by decide +kernel
theorem d_Mo_open_226 : decode b_Mo_open 226 = .ok (.dup, 1) := by decide +kernel
theorem d_Mo_open_227 : decode b_Mo_open 227 = .ok (.getfield 162, 3) := by decide +kernel
theorem d_Mo_open_230 : decode b_Mo_open 230 = .ok (.iconst 1, 1) := by decide +kernel
theorem d_Mo_open_231 : decode b_Mo_open 231 = .ok (.iadd, 1) := by decide +kernel
theorem d_Mo_open_232 : decode b_Mo_open 232 = .ok (.putfield 162, 3) := by decide +kernel
theorem d_Mo_open_235 : decode b_Mo_open 235 = .ok (.aload_n 0, 1) := by decide +kernel
theorem d_Mo_open_236 : decode b_Mo_open 236 = .ok (.iconst 1, 1) := by decide +kernel
theorem d_Mo_open_237 : decode b_Mo_open 237 = .ok (.invokevirtual 50, 3) := by decide +kernel
theorem d_Mo_open_240 : decode b_Mo_open 240 = .ok (.ireturn, 1) := by decide +kernel
theorem d_Mo_open_241 : decode b_Mo_open 241 = .ok (.iconst 0, 1) := by decide +kernel
theorem d_Mo_open_242 : decode b_Mo_open 242 = .ok (.istore 5, 2) := by decide +kernel
theorem d_Mo_open_244 : decode b_Mo_open 244 = .ok (.iload 5, 2) := by decide +kernel
theorem d_Mo_open_246 : decode b_Mo_open 246 = .ok (.aload_n 0, 1) := by decide +kernel
theorem d_Mo_open_247 : decode b_Mo_open 247 = .ok (.getfield 116, 3) := by decide +kernel
theorem d_Mo_open_250 : decode b_Mo_open 250 = .ok (.if_icmp .ge 23, 3) := by decide +kernel
theorem d_Mo_open_253 : decode b_Mo_open 253 = .ok (.aload_n 0, 1) := by decide +kernel
theorem d_Mo_open_254 : decode b_Mo_open 254 = .ok (.getfield 15, 3) := by decide +kernel
theorem d_Mo_open_257 : decode b_Mo_open 257 = .ok (.iload 5, 2) := by decide +kernel
theorem d_Mo_open_259 : decode b_Mo_open 259 = .ok (.aload_n 0, 1) := by decide +kernel
theorem d_Mo_open_260 : decode b_Mo_open 260 = .ok (.getfield 18, 3) := by decide +kernel
theorem d_Mo_open_263 : decode b_Mo_open 263 = .ok (.iload 5, 2) := by decide +kernel
theorem d_Mo_open_265 : decode b_Mo_open 265 = .ok (.baload, 1) := by decide +kernel
theorem d_Mo_open_266 : decode b_Mo_open 266 = .ok (.bastore, 1) := by decide +kernel
theorem d_Mo_open_267 : decode b_Mo_open 267 = .ok (.iinc 5 1, 3) := by decide +kernel
theorem d_Mo_open_270 : decode b_Mo_open 270 = .ok (.goto (-26), 3) := by decide +kernel
theorem d_Mo_open_273 : decode b_Mo_open 273 = .ok (.aload_n 0, 1) := by decide +kernel
theorem d_Mo_open_274 : decode b_Mo_open 274 = .ok (.aload_n 0, 1) := by decide +kernel
theorem d_Mo_open_275 : decode b_Mo_open 275 = .ok (.getfield 116, 3) := by decide +kernel
theorem d_Mo_open_278 : decode b_Mo_open 278 = .ok (.putfield 98, 3) := by decide +kernel
theorem d_Mo_open_281 : decode b_Mo_open 281 = .ok (.aload_n 0, 1) := by decide +kernel
theorem d_Mo_open_282 : decode b_Mo_open 282 = .ok (.aload_n 0, 1) := by decide +kernel
theorem d_Mo_open_283 : decode b_Mo_open 283 = .ok (.getfield 141, 3) := by decide +kernel
theorem d_Mo_open_286 : decode b_Mo_open 286 = .ok (.putfield 165, 3) := by decide +kernel
theorem d_Mo_open_289 : decode b_Mo_open 289 = .ok (.aload_n 0, 1) := by decide +kernel
theorem d_Mo_open_290 : decode b_Mo_open 290 = .ok (.aload_n 0, 1) := by decide +kernel
theorem d_Mo_open_291 : decode b_Mo_open 291 = .ok (.getfield 150, 3) := by decide +kernel
theorem d_Mo_open_294 : decode b_Mo_open 294 = .ok (.putfield 168, 3) := by decide +kernel
theorem d_Mo_open_297 : decode b_Mo_open 297 = .ok (.aload_n 0, 1) := by decide +kernel
theorem d_Mo_open_298 : decode b_Mo_open 298 = .ok (.getfield 98, 3) := by decide +kernel
theorem d_Mo_open_301 : decode b_Mo_open 301 = .ok (.ireturn, 1) := by decide +kernel
theorem d_Mo_turn_0 : decode b_Mo_turn 0 = .ok (.aload_n 0, 1) := by decide +kernel
theorem d_Mo_turn_1 : decode b_Mo_turn 1 = .ok (.iconst 0, 1) := by decide +kernel
theorem d_Mo_turn_2 : decode b_Mo_turn 2 = .ok (.putfield 43, 3) := by decide +kernel
theorem d_Mo_turn_5 : decode b_Mo_turn 5 = .ok (.aload_n 0, 1) := by decide +kernel
theorem d_Mo_turn_6 : decode b_Mo_turn 6 = .ok (.getfield 98, 3) := by decide +kernel
theorem d_Mo_turn_9 : decode b_Mo_turn 9 = .ok (.ldc 7, 2) := by decide +kernel
theorem d_Mo_turn_11 : decode b_Mo_turn 11 = .ok (.if_icmp .le 9, 3) := by decide +kernel
theorem d_Mo_turn_14 : decode b_Mo_turn 14 = .ok (.aload_n 0, 1) := by decide +kernel
theorem d_Mo_turn_15 : decode b_Mo_turn 15 = .ok (.iconst 1, 1) := by decide +kernel
theorem d_Mo_turn_16 : decode b_Mo_turn 16 = .ok (.invokevirtual 50, 3) := by decide +kernel
theorem d_Mo_turn_19 : decode b_Mo_turn 19 = .ok (.ireturn, 1) := by decide +kernel
theorem d_Mo_turn_20 : decode b_Mo_turn 20 = .ok (.iconst 0, 1) := by decide +kernel
theorem d_Mo_turn_21 : decode b_Mo_turn 21 = .ok (.istore_n 1, 1) := by decide +kernel
theorem d_Mo_turn_22 : decode b_Mo_turn 22 = .ok (.iload_n 1, 1) := by decide +kernel
theorem d_Mo_turn_23 : decode b_Mo_turn 23 = .ok (.aload_n 0, 1) := by decide +kernel
theorem d_Mo_turn_24 : decode b_Mo_turn 24 = .ok (.getfield 98, 3) := by decide +kernel
theorem d_Mo_turn_27 : decode b_Mo_turn 27 = .ok (.if_icmp .ge 21, 3) := by decide +kernel
theorem d_Mo_turn_30 : decode b_Mo_turn 30 = .ok (.aload_n 0, 1) := by decide +kernel
theorem d_Mo_turn_31 : decode b_Mo_turn 31 = .ok (.getfield 8, 3) := by decide +kernel
theorem d_Mo_turn_34 : decode b_Mo_turn 34 = .ok (.iload_n 1, 1) := by decide +kernel
theorem d_Mo_turn_35 : decode b_Mo_turn 35 = .ok (.aload_n 0, 1) := by decide +kernel
theorem d_Mo_turn_36 : decode b_Mo_turn 36 = .ok (.getfield 15, 3) := by decide +kernel
theorem d_Mo_turn_39 : decode b_Mo_turn 39 = .ok (.iload_n 1, 1) := by decide +kernel
theorem d_Mo_turn_40 : decode b_Mo_turn 40 = .ok (.baload, 1) := by decide +kernel
theorem d_Mo_turn_41 : decode b_Mo_turn 41 = .ok (.bastore, 1) := by decide +kernel
theorem d_Mo_turn_42 : decode b_Mo_turn 42 = .ok (.iinc 1 1, 3) := by decide +kernel
theorem d_Mo_turn_45 : decode b_Mo_turn 45 = .ok (.goto (-23), 3) := by decide +kernel
theorem d_Mo_turn_48 : decode b_Mo_turn 48 = .ok (.aload_n 0, 1) := by decide +kernel
theorem d_Mo_turn_49 : decode b_Mo_turn 49 = .ok (.aload_n 0, 1) := by decide +kernel
theorem d_Mo_turn_50 : decode b_Mo_turn 50 = .ok (.getfield 98, 3) := by decide +kernel
theorem d_Mo_turn_53 : decode b_Mo_turn 53 = .ok (.putfield 47, 3) := by decide +kernel
theorem d_Mo_turn_56 : decode b_Mo_turn 56 = .ok (.aload_n 0, 1) := by decide +kernel
theorem d_Mo_turn_57 : decode b_Mo_turn 57 = .ok (.getfield 47, 3) := by decide +kernel
theorem d_Mo_turn_60 : decode b_Mo_turn 60 = .ok (.ireturn, 1) := by decide +kernel
theorem d_Mo_padded_0 : decode b_Mo_padded 0 = .ok (.iload_n 1, 1) := by decide +kernel
theorem d_Mo_padded_1 : decode b_Mo_padded 1 = .ok (.aload_n 0, 1) := by decide +kernel
theorem d_Mo_padded_2 : decode b_Mo_padded 2 = .ok (.getfield 47, 3) := by decide +kernel
theorem d_Mo_padded_5 : decode b_Mo_padded 5 = .ok (.if_icmp .ge 14, 3) := by decide +kernel
theorem d_Mo_padded_8 : decode b_Mo_padded 8 = .ok (.aload_n 0, 1) := by decide +kernel
theorem d_Mo_padded_9 : decode b_Mo_padded 9 = .ok (.getfield 8, 3) := by decide +kernel
theorem d_Mo_padded_12 : decode b_Mo_padded 12 = .ok (.iload_n 1, 1) := by decide +kernel
theorem d_Mo_padded_13 : decode b_Mo_padded 13 = .ok (.baload, 1) := by decide +kernel
theorem d_Mo_padded_14 : decode b_Mo_padded 14 = .ok (.sipush 255, 3) := by decide +kernel
theorem d_Mo_padded_17 : decode b_Mo_padded 17 = .ok (.iand, 1) := by decide +kernel
theorem d_Mo_padded_18 : decode b_Mo_padded 18 = .ok (.ireturn, 1) := by decide +kernel
theorem d_Mo_padded_19 : decode b_Mo_padded 19 = .ok (.iload_n 1, 1) := by decide +kernel
theorem d_Mo_padded_20 : decode b_Mo_padded 20 = .ok (.aload_n 0, 1) := by decide +kernel
theorem d_Mo_padded_21 : decode b_Mo_padded 21 = .ok (.getfield 47, 3) := by decide +kernel
theorem d_Mo_padded_24 : decode b_Mo_padded 24 = .ok (.if_icmp .ne 7, 3) := by decide +kernel
theorem d_Mo_padded_27 : decode b_Mo_padded 27 = .ok (.sipush 128, 3) := by decide +kernel
theorem d_Mo_padded_30 : decode b_Mo_padded 30 = .ok (.ireturn, 1) := by decide +kernel
theorem d_Mo_padded_31 : decode b_Mo_padded 31 = .ok (.iload_n 1, 1) := by decide +kernel
theorem d_Mo_padded_32 : decode b_Mo_padded 32 = .ok (.iload_n 2, 1) := by decide +kernel
theorem d_Mo_padded_33 : decode b_Mo_padded 33 = .ok (.iconst 4, 1) := by decide +kernel
theorem d_Mo_padded_34 : decode b_Mo_padded 34 = .ok (.isub, 1) := by decide +kernel
theorem d_Mo_padded_35 : decode b_Mo_padded 35 = .ok (.if_icmp .ge 7, 3) := by decide +kernel
theorem d_Mo_padded_38 : decode b_Mo_padded 38 = .ok (.iconst 0, 1) := by decide +kernel
theorem d_Mo_padded_39 : decode b_Mo_padded 39 = .ok (.goto 23, 3) := by decide +kernel
theorem d_Mo_padded_42 : decode b_Mo_padded 42 = .ok (.aload_n 0, 1) := by decide +kernel
theorem d_Mo_padded_43 : decode b_Mo_padded 43 = .ok (.getfield 47, 3) := by decide +kernel
theorem d_Mo_padded_46 : decode b_Mo_padded 46 = .ok (.bipush 8, 2) := by decide +kernel
theorem d_Mo_padded_48 : decode b_Mo_padded 48 = .ok (.imul, 1) := by decide +kernel
theorem d_Mo_padded_49 : decode b_Mo_padded 49 = .ok (.iload_n 2, 1) := by decide +kernel
theorem d_Mo_padded_50 : decode b_Mo_padded 50 = .ok (.iconst 1, 1) := by decide +kernel
theorem d_Mo_padded_51 : decode b_Mo_padded 51 = .ok (.isub, 1) := by decide +kernel
theorem d_Mo_padded_52 : decode b_Mo_padded 52 = .ok (.iload_n 1, 1) := by decide +kernel
theorem d_Mo_padded_53 : decode b_Mo_padded 53 = .ok (.isub, 1) := by decide +kernel
theorem d_Mo_padded_54 : decode b_Mo_padded 54 = .ok (.bipush 8, 2) := by decide +kernel
theorem d_Mo_padded_56 : decode b_Mo_padded 56 = .ok (.imul, 1) := by decide +kernel
theorem d_Mo_padded_57 : decode b_Mo_padded 57 = .ok (.iushr, 1) := by decide +kernel
theorem d_Mo_padded_58 : decode b_Mo_padded 58 = .ok (.sipush 255, 3) := by decide +kernel
theorem d_Mo_padded_61 : decode b_Mo_padded 61 = .ok (.iand, 1) := by decide +kernel
theorem d_Mo_padded_62 : decode b_Mo_padded 62 = .ok (.ireturn, 1) := by decide +kernel
theorem d_Mo_turned_0 : decode b_Mo_turned 0 = .ok (.iload_n 0, 1) := by decide +kernel
theorem d_Mo_turned_1 : decode b_Mo_turned 1 = .ok (.iload_n 1, 1) := by decide +kernel
theorem d_Mo_turned_2 : decode b_Mo_turned 2 = .ok (.ishl, 1) := by decide +kernel
theorem d_Mo_turned_3 : decode b_Mo_turned 3 = .ok (.iload_n 0, 1) := by decide +kernel
theorem d_Mo_turned_4 : decode b_Mo_turned 4 = .ok (.bipush 32, 2) := by decide +kernel
theorem d_Mo_turned_6 : decode b_Mo_turned 6 = .ok (.iload_n 1, 1) := by decide +kernel
theorem d_Mo_turned_7 : decode b_Mo_turned 7 = .ok (.isub, 1) := by decide +kernel
theorem d_Mo_turned_8 : decode b_Mo_turned 8 = .ok (.iushr, 1) := by decide +kernel
theorem d_Mo_turned_9 : decode b_Mo_turned 9 = .ok (.ior, 1) := by decide +kernel
theorem d_Mo_turned_10 : decode b_Mo_turned 10 = .ok (.ireturn, 1) := by decide +kernel
theorem d_Mo_chunk_0 : decode b_Mo_chunk 0 = .ok (.iconst 0, 1) := by decide +kernel
theorem d_Mo_chunk_1 : decode b_Mo_chunk 1 = .ok (.istore_n 3, 1) := by decide +kernel
theorem d_Mo_chunk_2 : decode b_Mo_chunk 2 = .ok (.iload_n 3, 1) := by decide +kernel
theorem d_Mo_chunk_3 : decode b_Mo_chunk 3 = .ok (.bipush 16, 2) := by decide +kernel
theorem d_Mo_chunk_5 : decode b_Mo_chunk 5 = .ok (.if_icmp .ge 73, 3) := by decide +kernel
theorem d_Mo_chunk_8 : decode b_Mo_chunk 8 = .ok (.aload_n 0, 1) := by decide +kernel
theorem d_Mo_chunk_9 : decode b_Mo_chunk 9 = .ok (.getfield 37, 3) := by decide +kernel
theorem d_Mo_chunk_12 : decode b_Mo_chunk 12 = .ok (.iload_n 3, 1) := by decide +kernel
theorem d_Mo_chunk_13 : decode b_Mo_chunk 13 = .ok (.aload_n 0, 1) := by decide +kernel
theorem d_Mo_chunk_14 : decode b_Mo_chunk 14 = .ok (.iload_n 1, 1) := by decide +kernel
theorem d_Mo_chunk_15 : decode b_Mo_chunk 15 = .ok (.iload_n 3, 1) := by decide +kernel
theorem d_Mo_chunk_16 : decode b_Mo_chunk 16 = .ok (.iconst 4, 1) := by decide +kernel
theorem d_Mo_chunk_17 : decode b_Mo_chunk 17 = .ok (.imul, 1) := by decide +kernel
theorem d_Mo_chunk_18 : decode b_Mo_chunk 18 = .ok (.iadd, 1) := by decide +kernel
theorem d_Mo_chunk_19 : decode b_Mo_chunk 19 = .ok (.iload_n 2, 1) := by decide +kernel
theorem d_Mo_chunk_20 : decode b_Mo_chunk 20 = .ok (.invokevirtual 171, 3) := by decide +kernel
theorem d_Mo_chunk_23 : decode b_Mo_chunk 23 = .ok (.bipush 24, 2) := by decide +kernel
theorem d_Mo_chunk_25 : decode b_Mo_chunk 25 = .ok (.ishl, 1) := by decide +kernel
theorem d_Mo_chunk_26 : decode b_Mo_chunk 26 = .ok (.aload_n 0, 1) := by decide +kernel
theorem d_Mo_chunk_27 : decode b_Mo_chunk 27 = .ok (.iload_n 1, 1) := by decide +kernel
theorem d_Mo_chunk_28 : decode b_Mo_chunk 28 = .ok (.iload_n 3, 1) := by decide +kernel
theorem d_Mo_chunk_29 : decode b_Mo_chunk 29 = .ok (.iconst 4, 1) := by decide +kernel
theorem d_Mo_chunk_30 : decode b_Mo_chunk 30 = .ok (.imul, 1) := by decide +kernel
theorem d_Mo_chunk_31 : decode b_Mo_chunk 31 = .ok (.iadd, 1) := by decide +kernel
theorem d_Mo_chunk_32 : decode b_Mo_chunk 32 = .ok (.iconst 1, 1) := by decide +kernel
theorem d_Mo_chunk_33 : decode b_Mo_chunk 33 = .ok (.iadd, 1) := by decide +kernel
theorem d_Mo_chunk_34 : decode b_Mo_chunk 34 = .ok (.iload_n 2, 1) := by decide +kernel
theorem d_Mo_chunk_35 : decode b_Mo_chunk 35 = .ok (.invokevirtual 171, 3) := by decide +kernel
theorem d_Mo_chunk_38 : decode b_Mo_chunk 38 = .ok (.bipush 16, 2) := by decide +kernel
theorem d_Mo_chunk_40 : decode b_Mo_chunk 40 = .ok (.ishl, 1) := by decide +kernel
theorem d_Mo_chunk_41 : decode b_Mo_chunk 41 = .ok (.ior, 1) := by decide +kernel
theorem d_Mo_chunk_42 : decode b_Mo_chunk 42 = .ok (.aload_n 0, 1) := by decide +kernel
theorem d_Mo_chunk_43 : decode b_Mo_chunk 43 = .ok (.iload_n 1, 1) := by decide +kernel
theorem d_Mo_chunk_44 : decode b_Mo_chunk 44 = .ok (.iload_n 3, 1) := by decide +kernel
theorem d_Mo_chunk_45 : decode b_Mo_chunk 45 = .ok (.iconst 4, 1) := by decide +kernel
theorem d_Mo_chunk_46 : decode b_Mo_chunk 46 = .ok (.imul, 1) := by decide +kernel
theorem d_Mo_chunk_47 : decode b_Mo_chunk 47 = .ok (.iadd, 1) := by decide +kernel
theorem d_Mo_chunk_48 : decode b_Mo_chunk 48 = .ok (.iconst 2, 1) := by decide +kernel
theorem d_Mo_chunk_49 : decode b_Mo_chunk 49 = .ok (.iadd, 1) := by decide +kernel
theorem d_Mo_chunk_50 : decode b_Mo_chunk 50 = .ok (.iload_n 2, 1) := by decide +kernel
theorem d_Mo_chunk_51 : decode b_Mo_chunk 51 = .ok (.invokevirtual 171, 3) := by decide +kernel
theorem d_Mo_chunk_54 : decode b_Mo_chunk 54 = .ok (.bipush 8, 2) := by decide +kernel
theorem d_Mo_chunk_56 : decode b_Mo_chunk 56 = .ok (.ishl, 1) := by decide +kernel
theorem d_Mo_chunk_57 : decode b_Mo_chunk 57 = .ok (.ior, 1) := by decide +kernel
theorem d_Mo_chunk_58 : decode b_Mo_chunk 58 = .ok (.aload_n 0, 1) := by decide +kernel
theorem d_Mo_chunk_59 : decode b_Mo_chunk 59 = .ok (.iload_n 1, 1) := by decide +kernel
theorem d_Mo_chunk_60 : decode b_Mo_chunk 60 = .ok (.iload_n 3, 1) := by decide +kernel
theorem d_Mo_chunk_61 : decode b_Mo_chunk 61 = .ok (.iconst 4, 1) := by decide +kernel
theorem d_Mo_chunk_62 : decode b_Mo_chunk 62 = .ok (.imul, 1) := by decide +kernel
theorem d_Mo_chunk_63 : decode b_Mo_chunk 63 = .ok (.iadd, 1) := by decide +kernel
theorem d_Mo_chunk_64 : decode b_Mo_chunk 64 = .ok (.iconst 3, 1) := by decide +kernel
theorem d_Mo_chunk_65 : decode b_Mo_chunk 65 = .ok (.iadd, 1) := by decide +kernel
theorem d_Mo_chunk_66 : decode b_Mo_chunk 66 = .ok (.iload_n 2, 1) := by decide +kernel
theorem d_Mo_chunk_67 : decode b_Mo_chunk 67 = .ok (.invokevirtual 171, 3) := by decide +kernel
theorem d_Mo_chunk_70 : decode b_Mo_chunk 70 = .ok (.ior, 1) := by decide +kernel
theorem d_Mo_chunk_71 : decode b_Mo_chunk 71 = .ok (.iastore, 1) := by decide +kernel
theorem d_Mo_chunk_72 : decode b_Mo_chunk 72 = .ok (.iinc 3 1, 3) := by decide +kernel
theorem d_Mo_chunk_75 : decode b_Mo_chunk 75 = .ok (.goto (-73), 3) := by decide +kernel
theorem d_Mo_chunk_78 : decode b_Mo_chunk 78 = .ok (.bipush 16, 2) := by decide +kernel
theorem d_Mo_chunk_80 : decode b_Mo_chunk 80 = .ok (.istore_n 3, 1) := by decide +kernel
theorem d_Mo_chunk_81 : decode b_Mo_chunk 81 = .ok (.iload_n 3, 1) := by decide +kernel
theorem d_Mo_chunk_82 : decode b_Mo_chunk 82 = .ok (.bipush 80, 2) := by decide +kernel
theorem d_Mo_chunk_84 : decode b_Mo_chunk 84 = .ok (.if_icmp .ge 57, 3) := by decide +kernel
theorem d_Mo_chunk_87 : decode b_Mo_chunk 87 = .ok (.aload_n 0, 1) := by decide +kernel
theorem d_Mo_chunk_88 : decode b_Mo_chunk 88 = .ok (.getfield 37, 3) := by decide +kernel
theorem d_Mo_chunk_91 : decode b_Mo_chunk 91 = .ok (.iload_n 3, 1) := by decide +kernel
theorem d_Mo_chunk_92 : decode b_Mo_chunk 92 = .ok (.aload_n 0, 1) := by decide +kernel
theorem d_Mo_chunk_93 : decode b_Mo_chunk 93 = .ok (.getfield 37, 3) := by decide +kernel
theorem d_Mo_chunk_96 : decode b_Mo_chunk 96 = .ok (.iload_n 3, 1) := by decide +kernel
theorem d_Mo_chunk_97 : decode b_Mo_chunk 97 = .ok (.iconst 3, 1) := by decide +kernel
theorem d_Mo_chunk_98 : decode b_Mo_chunk 98 = .ok (.isub, 1) := by decide +kernel
theorem d_Mo_chunk_99 : decode b_Mo_chunk 99 = .ok (.iaload, 1) := by decide +kernel
theorem d_Mo_chunk_100 : decode b_Mo_chunk 100 = .ok (.aload_n 0, 1) := by decide +kernel
theorem d_Mo_chunk_101 : decode b_Mo_chunk 101 = .ok (.getfield 37, 3) := by decide +kernel
theorem d_Mo_chunk_104 : decode b_Mo_chunk 104 = .ok (.iload_n 3, 1) := by decide +kernel
theorem d_Mo_chunk_105 : decode b_Mo_chunk 105 = .ok (.bipush 8, 2) := by decide +kernel
theorem d_Mo_chunk_107 : decode b_Mo_chunk 107 = .ok (.isub, 1) := by decide +kernel
theorem d_Mo_chunk_108 : decode b_Mo_chunk 108 = .ok (.iaload, 1) := by decide +kernel
theorem d_Mo_chunk_109 : decode b_Mo_chunk 109 = .ok (.ixor, 1) := by decide +kernel
theorem d_Mo_chunk_110 : decode b_Mo_chunk 110 = .ok (.aload_n 0, 1) := by decide +kernel
theorem d_Mo_chunk_111 : decode b_Mo_chunk 111 = .ok (.getfield 37, 3) := by decide +kernel
theorem d_Mo_chunk_114 : decode b_Mo_chunk 114 = .ok (.iload_n 3, 1) := by decide +kernel
theorem d_Mo_chunk_115 : decode b_Mo_chunk 115 = .ok (.bipush 14, 2) := by decide +kernel
theorem d_Mo_chunk_117 : decode b_Mo_chunk 117 = .ok (.isub, 1) := by decide +kernel
theorem d_Mo_chunk_118 : decode b_Mo_chunk 118 = .ok (.iaload, 1) := by decide +kernel
theorem d_Mo_chunk_119 : decode b_Mo_chunk 119 = .ok (.ixor, 1) := by decide +kernel
theorem d_Mo_chunk_120 : decode b_Mo_chunk 120 = .ok (.aload_n 0, 1) := by decide +kernel
theorem d_Mo_chunk_121 : decode b_Mo_chunk 121 = .ok (.getfield 37, 3) := by decide +kernel
theorem d_Mo_chunk_124 : decode b_Mo_chunk 124 = .ok (.iload_n 3, 1) := by decide +kernel
theorem d_Mo_chunk_125 : decode b_Mo_chunk 125 = .ok (.bipush 16, 2) := by decide +kernel
theorem d_Mo_chunk_127 : decode b_Mo_chunk 127 = .ok (.isub, 1) := by decide +kernel
theorem d_Mo_chunk_128 : decode b_Mo_chunk 128 = .ok (.iaload, 1) := by decide +kernel
theorem d_Mo_chunk_129 : decode b_Mo_chunk 129 = .ok (.ixor, 1) := by decide +kernel
theorem d_Mo_chunk_130 : decode b_Mo_chunk 130 = .ok (.iconst 1, 1) := by decide +kernel
theorem d_Mo_chunk_131 : decode b_Mo_chunk 131 = .ok (.invokestatic 174, 3) := by decide +kernel
theorem d_Mo_chunk_134 : decode b_Mo_chunk 134 = .ok (.iastore, 1) := by decide +kernel
theorem d_Mo_chunk_135 : decode b_Mo_chunk 135 = .ok (.iinc 3 1, 3) := by decide +kernel
theorem d_Mo_chunk_138 : decode b_Mo_chunk 138 = .ok (.goto (-57), 3) := by decide +kernel
theorem d_Mo_chunk_141 : decode b_Mo_chunk 141 = .ok (.aload_n 0, 1) := by decide +kernel
theorem d_Mo_chunk_142 : decode b_Mo_chunk 142 = .ok (.getfield 40, 3) := by decide +kernel
theorem d_Mo_chunk_145 : decode b_Mo_chunk 145 = .ok (.iconst 0, 1) := by decide +kernel
theorem d_Mo_chunk_146 : decode b_Mo_chunk 146 = .ok (.iaload, 1) := by decide +kernel
theorem d_Mo_chunk_147 : decode b_Mo_chunk 147 = .ok (.istore_n 3, 1) := by decide +kernel
theorem d_Mo_chunk_148 : decode b_Mo_chunk 148 = .ok (.aload_n 0, 1) := by decide +kernel
theorem d_Mo_chunk_149 : decode b_Mo_chunk 149 = .ok (.getfield 40, 3) := by decide +kernel
theorem d_Mo_chunk_152 : decode b_Mo_chunk 152 = .ok (.iconst 1, 1) := by decide +kernel
theorem d_Mo_chunk_153 : decode b_Mo_chunk 153 = .ok (.iaload, 1) := by decide +kernel
theorem d_Mo_chunk_154 : decode b_Mo_chunk 154 = .ok (.istore 4, 2) := by decide +kernel
theorem d_Mo_chunk_156 : decode b_Mo_chunk 156 = .ok (.aload_n 0, 1) := by decide +kernel
theorem d_Mo_chunk_157 : decode b_Mo_chunk 157 = .ok (.getfield 40, 3) := by decide +kernel
theorem d_Mo_chunk_160 : decode b_Mo_chunk 160 = .ok (.iconst 2, 1) := by decide +kernel
theorem d_Mo_chunk_161 : decode b_Mo_chunk 161 = .ok (.iaload, 1) := by decide +kernel
theorem d_Mo_chunk_162 : decode b_Mo_chunk 162 = .ok (.istore 5, 2) := by decide +kernel
theorem d_Mo_chunk_164 : decode b_Mo_chunk 164 = .ok (.aload_n 0, 1) := by decide +kernel
theorem d_Mo_chunk_165 : decode b_Mo_chunk 165 = .ok (.getfield 40, 3) := by decide +kernel
theorem d_Mo_chunk_168 : decode b_Mo_chunk 168 = .ok (.iconst 3, 1) := by decide +kernel
theorem d_Mo_chunk_169 : decode b_Mo_chunk 169 = .ok (.iaload, 1) := by decide +kernel
theorem d_Mo_chunk_170 : decode b_Mo_chunk 170 = .ok (.istore 6, 2) := by decide +kernel
theorem d_Mo_chunk_172 : decode b_Mo_chunk 172 = .ok (.aload_n 0, 1) := by decide +kernel
theorem d_Mo_chunk_173 : decode b_Mo_chunk 173 = .ok (.getfield 40, 3) := by decide +kernel
theorem d_Mo_chunk_176 : decode b_Mo_chunk 176 = .ok (.iconst 4, 1) := by decide +kernel
theorem d_Mo_chunk_177 : decode b_Mo_chunk 177 = .ok (.iaload, 1) := by decide +kernel
theorem d_Mo_chunk_178 : decode b_Mo_chunk 178 = .ok (.istore 7, 2) := by decide +kernel
theorem d_Mo_chunk_180 : decode b_Mo_chunk 180 = .ok (.iconst 0, 1) := by decide +kernel
theorem d_Mo_chunk_181 : decode b_Mo_chunk 181 = .ok (.istore 8, 2) := by decide +kernel
theorem d_Mo_chunk_183 : decode b_Mo_chunk 183 = .ok (.iload 8, 2) := by decide +kernel
theorem d_Mo_chunk_185 : decode b_Mo_chunk 185 = .ok (.bipush 80, 2) := by decide +kernel
theorem d_Mo_chunk_187 : decode b_Mo_chunk 187 = .ok (.if_icmp .ge 143, 3) := by decide +kernel
theorem d_Mo_chunk_190 : decode b_Mo_chunk 190 = .ok (.iload 8, 2) := by decide +kernel
theorem d_Mo_chunk_192 : decode b_Mo_chunk 192 = .ok (.bipush 20, 2) := by decide +kernel
theorem d_Mo_chunk_194 : decode b_Mo_chunk 194 = .ok (.if_icmp .ge 22, 3) := by decide +kernel
theorem d_Mo_chunk_197 : decode b_Mo_chunk 197 = .ok (.iload 4, 2) := by decide +kernel
theorem d_Mo_chunk_199 : decode b_Mo_chunk 199 = .ok (.iload 5, 2) := by decide +kernel
theorem d_Mo_chunk_201 : decode b_Mo_chunk 201 = .ok (.iand, 1) := by decide +kernel
theorem d_Mo_chunk_202 : decode b_Mo_chunk 202 = .ok (.ldc 177, 2) := by decide +kernel
theorem d_Mo_chunk_204 : decode b_Mo_chunk 204 = .ok (.iadd, 1) := by decide +kernel
theorem d_Mo_chunk_205 : decode b_Mo_chunk 205 = .ok (.iload 4, 2) := by decide +kernel
theorem d_Mo_chunk_207 : decode b_Mo_chunk 207 = .ok (.iconst (-1), 1) := by decide +kernel
theorem d_Mo_chunk_208 : decode b_Mo_chunk 208 = .ok (.ixor, 1) := by decide +kernel
theorem d_Mo_chunk_209 : decode b_Mo_chunk 209 = .ok (.iload 6, 2) := by decide +kernel
theorem d_Mo_chunk_211 : decode b_Mo_chunk 211 = .ok (.iand, 1) := by decide +kernel
theorem d_Mo_chunk_212 : decode b_Mo_chunk 212 = .ok (.iadd, 1) := by decide +kernel
theorem d_Mo_chunk_213 : decode b_Mo_chunk 213 = .ok (.goto 65, 3) := by decide +kernel
theorem d_Mo_chunk_216 : decode b_Mo_chunk 216 = .ok (.iload 8, 2) := by decide +kernel
theorem d_Mo_chunk_218 : decode b_Mo_chunk 218 = .ok (.bipush 40, 2) := by decide +kernel
theorem d_Mo_chunk_220 : decode b_Mo_chunk 220 = .ok (.if_icmp .ge 17, 3) := by decide +kernel
theorem d_Mo_chunk_223 : decode b_Mo_chunk 223 = .ok (.iload 4, 2) := by decide +kernel
theorem d_Mo_chunk_225 : decode b_Mo_chunk 225 = .ok (.iload 5, 2) := by decide +kernel
theorem d_Mo_chunk_227 : decode b_Mo_chunk 227 = .ok (.ixor, 1) := by decide +kernel
theorem d_Mo_chunk_228 : decode b_Mo_chunk 228 = .ok (.iload 6, 2) := by decide +kernel
theorem d_Mo_chunk_230 : decode b_Mo_chunk 230 = .ok (.ixor, 1) := by decide +kernel
theorem d_Mo_chunk_231 : decode b_Mo_chunk 231 = .ok (.ldc 178, 2) := by decide +kernel
theorem d_Mo_chunk_233 : decode b_Mo_chunk 233 = .ok (.iadd, 1) := by decide +kernel
theorem d_Mo_chunk_234 : decode b_Mo_chunk 234 = .ok (.goto 44, 3) := by decide +kernel
theorem d_Mo_chunk_237 : decode b_Mo_chunk 237 = .ok (.iload 8, 2) := by decide +kernel
theorem d_Mo_chunk_239 : decode b_Mo_chunk 239 = .ok (.bipush 60, 2) := by decide +kernel
theorem d_Mo_chunk_241 : decode b_Mo_chunk 241 = .ok (.if_icmp .ge 26, 3) := by decide +kernel
theorem d_Mo_chunk_244 : decode b_Mo_chunk 244 = .ok (.iload 4, 2) := by decide +kernel
theorem d_Mo_chunk_246 : decode b_Mo_chunk 246 = .ok (.iload 5, 2) := by decide +kernel
theorem d_Mo_chunk_248 : decode b_Mo_chunk 248 = .ok (.iand, 1) := by decide +kernel
theorem d_Mo_chunk_249 : decode b_Mo_chunk 249 = .ok (.iload 4, 2) := by decide +kernel
theorem d_Mo_chunk_251 : decode b_Mo_chunk 251 = .ok (.iload 6, 2) := by decide +kernel
theorem d_Mo_chunk_253 : decode b_Mo_chunk 253 = .ok (.iand, 1) := by decide +kernel
theorem d_Mo_chunk_254 : decode b_Mo_chunk 254 = .ok (.ixor, 1) := by decide +kernel
theorem d_Mo_chunk_255 : decode b_Mo_chunk 255 = .ok (.iload 5, 2) := by decide +kernel
theorem d_Mo_chunk_257 : decode b_Mo_chunk 257 = .ok (.iload 6, 2) := by decide +kernel
theorem d_Mo_chunk_259 : decode b_Mo_chunk 259 = .ok (.iand, 1) := by decide +kernel
theorem d_Mo_chunk_260 : decode b_Mo_chunk 260 = .ok (.ixor, 1) := by decide +kernel
theorem d_Mo_chunk_261 : decode b_Mo_chunk 261 = .ok (.ldc 179, 2) := by decide +kernel
theorem d_Mo_chunk_263 : decode b_Mo_chunk 263 = .ok (.iadd, 1) := by decide +kernel
theorem d_Mo_chunk_264 : decode b_Mo_chunk 264 = .ok (.goto 14, 3) := by decide +kernel
theorem d_Mo_chunk_267 : decode b_Mo_chunk 267 = .ok (.iload 4, 2) := by decide +kernel
theorem d_Mo_chunk_269 : decode b_Mo_chunk 269 = .ok (.iload 5, 2) := by decide +kernel
theorem d_Mo_chunk_271 : decode b_Mo_chunk 271 = .ok (.ixor, 1) := by decide +kernel
theorem d_Mo_chunk_272 : decode b_Mo_chunk 272 = .ok (.iload 6, 2) := by decide +kernel
theorem d_Mo_chunk_274 : decode b_Mo_chunk 274 = .ok (.ixor, 1) := by decide +kernel
theorem d_Mo_chunk_275 : decode b_Mo_chunk 275 = .ok (.ldc 180, 2) := by decide +kernel
theorem d_Mo_chunk_277 : decode b_Mo_chunk 277 = .ok (.iadd, 1) := by decide +kernel
theorem d_Mo_chunk_278 : decode b_Mo_chunk 278 = .ok (.istore 9, 2) := by decide +kernel
theorem d_Mo_chunk_280 : decode b_Mo_chunk 280 = .ok (.iload_n 3, 1) := by decide +kernel
theorem d_Mo_chunk_281 : decode b_Mo_chunk 281 = .ok (.iconst 5, 1) := by decide +kernel
theorem d_Mo_chunk_282 : decode b_Mo_chunk 282 = .ok (.invokestatic 174, 3) := by decide +kernel
theorem d_Mo_chunk_285 : decode b_Mo_chunk 285 = .ok (.iload 9, 2) := by decide +kernel
theorem d_Mo_chunk_287 : decode b_Mo_chunk 287 = .ok (.iadd, 1) := by decide +kernel
theorem d_Mo_chunk_288 : decode b_Mo_chunk 288 = .ok (.iload 7, 2) := by decide +kernel
theorem d_Mo_chunk_290 : decode b_Mo_chunk 290 = .ok (.iadd, 1) := by decide +kernel
